set_option maxHeartbeats 1000000 in
theorem law_if {p : Program} {e : Env} {s : State} {m : MethodId} {below : List Frame} {meth : Method} {c : Code} (l : Launch) {b L : Nat} {xs : Nat → Int32} (hL : L ≤ 3072) (C0 : lw_At p s m meth c b L xs) (hx : (Cond.exactly tWP "[I").before #[Value.ref b] s = true) : W p l e room_1 s m #[Value.ref b] below meth c s.heap [] 0 0 (lw_Z below #[Value.ref b] s) (entryFrame m ([Value.ref b] : List Value).toArray 4) := by
  obtain ⟨hx0, hb, hr, hml, hown, hts, hX, hbl, hlocks, hgv⟩ := C0
  have hTw : ∀ w ∈ Tw, w.before #[Value.ref b] s = true := fun w hw => hts w (List.mem_filter.mp hw).1
  have hNw : ∀ w ∈ nestWs, va_Nw w s := fun w hw => nest_of (List.mem_filter.mp hw).2 (hts w (List.mem_filter.mp hw).1)
  obtain ⟨w, c0, cell, k0, hv, hfc, hcell, hk0, hns, hcls, -⟩ := Cond.exactly_spec hx
  have hwl : w < s.heap.size := (Array.getElem?_eq_some_iff.mp hcell).1
  have hAO : ∀ C ∈ AOs, va_AO C s := fun C hC => va_AO.of (hts _ (ao_in C hC))
  obtain ⟨dC, dI, cA, hK⟩ := K_of hTw hAO
  have hA : ∀ q, s.heap.size ≤ q → s.heap.size ≤ q := fun q h => h
  have hWF : WF (l, aF s.heap.size w, cA, dC, dI, fun q => s.heap.size ≤ q) s := ⟨AD_of rfl hA, hK, hNw, va_Zof (hts _ ly_wp) (hTw _ in_X8) hv (fun a ha q => Nat.not_lt.mpr q ha), wp_row hgv hv, hwl, fun q => Nat.not_lt.mpr q hwl⟩
  have hl := lv_entry [Value.ref b] (show (lg_sl [Value.ref b]).length ≤ 4 from Nat.le_of_ble_eq_true rfl)
  rw [lg_entry_eq]
  generalize (lg_sl [Value.ref b] ++ List.replicate (4 - (lg_sl [Value.ref b]).length) Slot.unset).toArray = la at hl ⊢
  generalize hK0 : ((l, aF s.heap.size w, cA, dC, dI, fun q => s.heap.size ≤ q) : Gx) = G at hWF
  have hα : G.2.1 = aF s.heap.size w := by rw [← hK0]
  have hA' : ∀ q, s.heap.size ≤ q → G.2.2.2.2.2 q := by rw [← hK0]; exact hA
  have hAi : ∀ q, G.2.2.2.2.2 q → s.heap.size ≤ q := by rw [← hK0]; exact hA
  have hGl : G.1 = l := by rw [← hK0]
  have hWX : WX G s := ⟨⟨cell, by rw [hα]; exact hcell, by rw [hcls]; exact hfc⟩, hAO⟩
  subst hGl
  have key : ∀ K : Kx, K = (G, p, e, room_1, s, m, #[Value.ref b], below, meth, c, 148, 19092, 4, lw_Z below #[Value.ref b] s) → TC K s.heap.size 0 0 0 [(0, .ref b)] [] 0 (EF G) := by
    intro K hKe
    have C : Cx K cL_law RL := by rw [hKe]; exact ⟨hx0, hb, hml, hown, hTw, hWF, hlocks, by decide, by decide⟩
    have Y : Yx K s.heap.size := by rw [hKe]; exact ⟨hWX, hA'⟩
    have hR : RmOk K 11 := by rw [hKe]; exact ⟨by decide, by decide⟩
    have hnL : nLof K = 4 := by rw [hKe]; rfl
    have hSX : SX K b L xs := by rw [hKe]; exact ⟨hX, hbl, fun q => by have := hAi _ q; omega⟩
    have hRo : Rof K = room_1 := by rw [hKe]; rfl
    have hKG : K.1 = G := by rw [hKe]
    subst hKG
    have done : ∀ i σ, TW K 1755 (Ll K b i) [] σ := by
      intro i σ
      refine tw_iconst (v := 1) C dL_law_1755 (by decide) ?_
      rw [hKe]
      intro H lo hP hS la hh
      exact va_forget (fun q hq => hAi _ (hS.2.2 q hq)) (W.widen (by decide) (by decide) (lw_ret hx0 hb hr hlocks dL_law_1756))
    refine tc_new (E' := uE (EF K.1) 0 [.inr (8, [.null, .null, .null, .null, .null, .null, .null, .null, .null, .null, .int 0, .int 0, .int 0, .int 0, .int 0, .int 0])]) C nl_RL_7 (by rw [hRo]; decide) (by rw [hRo]; decide) dL_law_0 (uE_at (k := 0) rfl) (fun o ho => absurd ho (Nat.not_lt_zero _)) ?_
    refine tc_dup C dL_law_3 rfl ?_
    refine tc_callI C Y hR (kc_X8 K.1 hα hA' 11 (by decide)) mi_X8_init is_X8_init rfl mln_RL_9 (Nat.le_of_ble_eq_true rfl) (by rw [hRo]; decide) (by rw [hRo]; decide) dL_law_4 ?_
    refine tc_astore_n (lv' := [(0, .ref b), (1, .ref (s.heap.size + 0))]) C [1, 0] dL_law_7 rfl (by rw [hnL]; decide) rfl ?_
    refine tc_new (E' := uE (EF K.1) 120 [.inr (9, [.null, .null, .null, .null, .null, .null, .int 0, .int 0, .int 0, .null, .int 0, .int 0, .int 0, .int 0, .int 0, .int 0, .null, .null, .null, .null, .int 0, .int 0, .int 0, .int 0, .null, .null, .null, .null, .int 0, .null, .null, .null, .null, .int 0, .int 0, .int 0, .null, .null, .null, .null, .null, .null, .null, .null, .int 0])]) C nl_RL_10 (by rw [hRo]; decide) (by rw [hRo]; decide) dL_law_8 (uE_at (k := 0) rfl) (fun o ho => uE_lt ho) ?_
    refine tc_dup C dL_law_11 rfl ?_
    refine tc_callI C Y hR (kc_X9 K.1 hA' 11 (by decide) 120 (EF K.1)) mi_X9_init is_X9_init rfl mln_RL_12 (Nat.le_of_ble_eq_true rfl) (by rw [hRo]; decide) (by rw [hRo]; decide) dL_law_12 ?_
    refine tc_congr (E' := EF K.1) (EF_model hα) ?_
    refine tc_astore_n (lv' := [(0, .ref b), (1, .ref (s.heap.size + 0)), (2, .ref (s.heap.size + 120))]) C [1, 2, 0] dL_law_15 rfl (by rw [hnL]; decide) rfl ?_
    refine tc_iconst (v := 0) C dL_law_16 (by decide) ?_
    refine tc_istore_n (lv' := [(0, .ref b), (1, .ref (s.heap.size + 0)), (2, .ref (s.heap.size + 120)), (3, .int (nI 0))]) C [1, 2, 3, 0] dL_law_17 rfl (by rw [hnL]; decide) rfl ?_
    have hgo := law_loop C hR hnL hSX hL done (L + 7) 0 st0 (by omega) (by omega) Iy_st0
    have hLl : Ll K b 0 = [(0, .ref b), (1, .ref (s.heap.size + 0)), (2, .ref (s.heap.size + 120)), (3, .int (nI 0))] := by
      show [(0, Value.ref b), (1, Value.ref (K.1.2.1 (8, 0))), (2, Value.ref (K.1.2.1 (9, 0))), (3, Value.int (nI 0))] = _
      rw [hα]
      rfl
    rw [hLl] at hgo
    exact tc_tw (ce := 148) (sl := 19092) hα (fun G p e R s m args below meth c cells slots nL Q q => by rw [hKe] at q; cases q; exact ⟨rfl, rfl⟩) hgo
  exact key _ rfl s.heap [] ⟨fun k q hq => (by cases hq), rfl⟩ va_S.rf la hl
