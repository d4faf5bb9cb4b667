def flg (f g : Nat → Int32) (k : Nat) : Nat → Int32 := fun j => if j < k then g j else f j
theorem flg_0 (f g : Nat → Int32) : flg f g 0 = f := by funext j; unfold flg; rw [if_neg (by omega)]
theorem flg_upd (f g : Nat → Int32) (k : Nat) : upd (flg f g k) k (g k) = flg f g (k + 1) := by
  funext j
  unfold flg upd
  by_cases c : j = k
  · subst c; simp
  · by_cases d : j < k
    · simp [c, d, show j < k + 1 by omega]
    · simp [c, d, show ¬ j < k + 1 by omega]
theorem kc_plain (G : Gx) {h0 : Nat} (hA : ∀ q, h0 ≤ q → G.2.2.2.2.2 q) (d : Nat) (hdp : 1 ≤ d) (a0 : Int32) {n : Nat} {E : Nat → va_E} {v0 : Int32} (h : fX9_plain a0 = v0) : MC G h0 d yX9_plain cX9_plain 1 (some .int) [.int a0] n E (some (.int v0)) n E 0 0 := by
  refine MC_of hA (by decide) (Nat.le_of_ble_eq_true rfl) rfl (fun K hG hnL C hR hRo Y hnm hK => ?_) (by omega)
  subst hG
  show TC K h0 0 0 0 [(0, .int a0)] [] n E
  unfold fX9_plain at h
  refine tc_iload_n (i := 0) (z := 0) C dX9_plain_0 rfl rfl ?_
  refine tc_bipush (v := 10) C dX9_plain_1 (by decide) ?_
  refine tc_ic_ge (tgt := 11) C dX9_plain_3 (by decide) (fun hc1 => ?_) (fun hc1 => ?_)
  · have ht1 := ite_t hc1 h
    refine tc_iload_n (i := 0) (z := 0) C dX9_plain_11 rfl rfl ?_
    refine tc_bipush (v := 11) C dX9_plain_12 (by decide) ?_
    refine tc_ic_eq (tgt := 23) C dX9_plain_14 (by decide) (fun hc2 => ?_) (fun hc2 => ?_)
    · have ht2 := ite_t hc2 ht1
      refine tc_iconst (v := 1) C dX9_plain_23 (by decide) ?_
      refine tc_goto (tgt := 39) C dX9_plain_24 (by decide) ?_
      obtain rfl := ht2
      exact tc_iret C hK rfl rfl rfl rfl rfl dX9_plain_39
    · have hf2 := ite_f hc2 ht1
      refine tc_iload_n (i := 0) (z := 0) C dX9_plain_17 rfl rfl ?_
      refine tc_bipush (v := 12) C dX9_plain_18 (by decide) ?_
      refine tc_ic_ne (tgt := 27) C dX9_plain_20 (by decide) (fun hc3 => ?_) (fun hc3 => ?_)
      · have ht3 := ite_f hc3 hf2
        refine tc_iload_n (i := 0) (z := 0) C dX9_plain_27 rfl rfl ?_
        refine tc_bipush (v := 16) C dX9_plain_28 (by decide) ?_
        refine tc_ic_ne (tgt := 38) C dX9_plain_30 (by decide) (fun hc4 => ?_) (fun hc4 => ?_)
        · have ht4 := ite_f hc4 ht3
          refine tc_iconst (v := 0) C dX9_plain_38 (by decide) ?_
          obtain rfl := ht4
          exact tc_iret C hK rfl rfl rfl rfl rfl dX9_plain_39
        · have hf4 := ite_t hc4 ht3
          refine tc_bipush (v := 99) C dX9_plain_33 (by decide) ?_
          refine tc_goto (tgt := 39) C dX9_plain_35 (by decide) ?_
          obtain rfl := hf4
          exact tc_iret C hK rfl rfl rfl rfl rfl dX9_plain_39
      · have hf3 := ite_t hc3 hf2
        refine tc_iconst (v := 1) C dX9_plain_23 (by decide) ?_
        refine tc_goto (tgt := 39) C dX9_plain_24 (by decide) ?_
        obtain rfl := hf3
        exact tc_iret C hK rfl rfl rfl rfl rfl dX9_plain_39
  · have hf1 := ite_f hc1 h
    refine tc_bipush (v := 127) C dX9_plain_6 (by decide) ?_
    refine tc_goto (tgt := 39) C dX9_plain_8 (by decide) ?_
    obtain rfl := hf1
    exact tc_iret C hK rfl rfl rfl rfl rfl dX9_plain_39

theorem mlp_RX9 : Cond.methodLink RX9 102 yX9_plain ∈ Tw := (inTw 928 (by decide +kernel) rfl)
def gpl (j : Nat) : Int32 := fX9_plain (nI j)
def gwy (j : Nat) : Int32 := if j / 12 = j % 12 then 0 else 50
theorem wy_eq : ∀ k, k < 144 → decide (nI k / 12 = irm (nI k) 12) = decide (k / 12 = k % 12) := by decide +kernel
theorem lw_9a {K : Kx} (C : Cx K cX9_init RX9) {h : Nat} (Y : Yx K h) {d : Nat} (hd : 2 ≤ d) (hR : RmOk K (d - 1)) (hnL : nLof K = 2) {n N o ce sl : Nat} {E : Nat → va_E} {fs : List Value} (hn : n < N) (ho : o < N) (hne : ¬ n = o) (he : E n = .inr (9, fs)) (hf : fs[32]? = some (.ref (h + o))) (hce : ce ≤ (Rof K).cells) (hsl : sl ≤ (Rof K).slots)
    (done : TC K h ce sl 265 [(0, .ref (h + n)), (1, .int (nI 17))] [] N (fE E o (.inl (K.1.2.2.1 0, 17, .inl (flg (fun _ => 0) gpl 17))))) :
    ∀ t k : Nat, k ≤ 17 → 17 - k < t → TC K h ce sl 243 [(0, .ref (h + n)), (1, .int (nI k))] [] N (fE E o (.inl (K.1.2.2.1 0, 17, .inl (flg (fun _ => 0) gpl k))))
  | 0, k, _, ht => by omega
  | t + 1, k, hk, ht => by
    refine tc_iload_n (i := 1) (z := 1) C dX9_init_243 rfl rfl ?_
    refine tc_bipush (v := nI 17) C dX9_init_244 (by decide) ?_
    refine tc_ic_ge (tgt := 265) C dX9_init_246 (by decide) (fun hc => ?_) (fun hc => ?_)
    · have e : k = 17 := by
        have := (nI_leI (a := 17) (b := k) (by decide) (by omega)).mp hc
        omega
      subst e
      exact done
    · have hlt : k < 17 := by
        rcases Nat.lt_or_ge k 17 with q | q
        · exact q
        · exact absurd ((nI_leI (a := 17) (b := k) (by decide) (by omega)).mpr q) hc
      refine tc_aload_n (i := 0) (z := 0) C dX9_init_249 rfl rfl ?_
      refine tc_getF C fl_RX9_65 hn (by rw [fE_ne hne]; exact he) hf dX9_init_250 ?_
      refine tc_iload_n (i := 1) (z := 1) C dX9_init_253 rfl rfl ?_
      refine tc_iload_n (i := 1) (z := 1) C dX9_init_254 rfl rfl ?_
      refine tc_callS (As := [.int (nI k)]) (rest := [.int (nI k), .ref (h + o)]) C Y hR (kc_plain K.1 Y.A (d - 1) (by omega) (nI k) (v0 := gpl k) rfl) mi_X9_plain st_X9_plain mlp_RX9 rfl rfl (Nat.le_of_ble_eq_true rfl) hce hsl dX9_init_255 ?_
      refine tc_iast (x := gpl k) (i := nI k) (E' := fE E o (.inl (K.1.2.2.1 0, 17, .inl (flg (fun _ => 0) gpl (k + 1))))) C Y ho fE_at (by rw [inb_nI (by omega)]; exact decide_eq_true hlt) dX9_init_258 ?_ (fun o' ho' => by rw [fE_ne ho', fE_ne ho']) ?_
      · rw [fE_at, show tn (nI k) = k from nI_clamp (by omega), flg_upd]
      refine tc_iinc (lv' := [(0, .ref (h + n)), (1, .int (nI (k + 1)))]) (z := 1) C [1, 0] dX9_init_259 rfl (nI_add k 1) (by rw [hnL]; decide) rfl ?_
      refine tc_goto (tgt := 243) C dX9_init_262 (by decide) ?_
      exact lw_9a C Y hd hR hnL hn ho hne he hf hce hsl done t (k + 1) hlt (by omega)
theorem lw_9b {K : Kx} (C : Cx K cX9_init RX9) {h : Nat} (Y : Yx K h) (hnL : nLof K = 2) {n N o ce sl : Nat} {E : Nat → va_E} {fs : List Value} (hn : n < N) (ho : o < N) (hne : ¬ n = o) (he : E n = .inr (9, fs)) (hf : fs[36]? = some (.ref (h + o)))
    (done : TC K h ce sl 303 [(0, .ref (h + n)), (1, .int (nI 144))] [] N (fE E o (.inl (K.1.2.2.1 0, 144, .inl (flg (fun _ => 0) gwy 144))))) :
    ∀ t k : Nat, k ≤ 144 → 144 - k < t → TC K h ce sl 267 [(0, .ref (h + n)), (1, .int (nI k))] [] N (fE E o (.inl (K.1.2.2.1 0, 144, .inl (flg (fun _ => 0) gwy k))))
  | 0, k, _, ht => by omega
  | t + 1, k, hk, ht => by
    refine tc_iload_n (i := 1) (z := 1) C dX9_init_267 rfl rfl ?_
    refine tc_sipush (v := nI 144) C dX9_init_268 (by decide) ?_
    refine tc_ic_ge (tgt := 303) C dX9_init_271 (by decide) (fun hc => ?_) (fun hc => ?_)
    · have e : k = 144 := by
        have := (nI_leI (a := 144) (b := k) (by decide) (by omega)).mp hc
        omega
      subst e
      exact done
    · have hlt : k < 144 := by
        rcases Nat.lt_or_ge k 144 with q | q
        · exact q
        · exact absurd ((nI_leI (a := 144) (b := k) (by decide) (by omega)).mpr q) hc
      have hw := wy_eq k hlt
      refine tc_aload_n (i := 0) (z := 0) C dX9_init_274 rfl rfl ?_
      refine tc_getF C fl_RX9_78 hn (by rw [fE_ne hne]; exact he) hf dX9_init_275 ?_
      refine tc_iload_n (i := 1) (z := 1) C dX9_init_278 rfl rfl ?_
      refine tc_iload_n (i := 1) (z := 1) C dX9_init_279 rfl rfl ?_
      refine tc_bipush (v := 12) C dX9_init_280 (by decide) ?_
      refine tc_idiv C dX9_init_282 (by decide) ?_
      refine tc_iload_n (i := 1) (z := 1) C dX9_init_283 rfl rfl ?_
      refine tc_bipush (v := 12) C dX9_init_284 (by decide) ?_
      refine tc_irem C dX9_init_286 (by decide) ?_
      have fin : ∀ x : Int32, x = gwy k → TC K h ce sl 296 [(0, .ref (h + n)), (1, .int (nI k))] [.int x, .int (nI k), .ref (h + o)] N (fE E o (.inl (K.1.2.2.1 0, 144, .inl (flg (fun _ => 0) gwy k)))) := by
        intro x hx
        refine tc_iast (x := x) (i := nI k) (E' := fE E o (.inl (K.1.2.2.1 0, 144, .inl (flg (fun _ => 0) gwy (k + 1))))) C Y ho fE_at (by rw [inb_nI (by omega)]; exact decide_eq_true hlt) dX9_init_296 ?_ (fun o' ho' => by rw [fE_ne ho', fE_ne ho']) ?_
        · rw [fE_at, show tn (nI k) = k from nI_clamp (by omega), hx, flg_upd]
        refine tc_iinc (lv' := [(0, .ref (h + n)), (1, .int (nI (k + 1)))]) (z := 1) C [1, 0] dX9_init_297 rfl (nI_add k 1) (by rw [hnL]; decide) rfl ?_
        refine tc_goto (tgt := 267) C dX9_init_300 (by decide) ?_
        exact lw_9b C Y hnL hn ho hne he hf done t (k + 1) hlt (by omega)
      refine tc_ic_ne (tgt := 294) C dX9_init_287 (by decide) (fun hq => ?_) (fun hq => ?_)
      · refine tc_bipush (v := 50) C dX9_init_294 (by decide) ?_
        refine fin 50 ?_
        rw [decide_eq_false hq] at hw
        unfold gwy
        rw [if_neg (of_decide_eq_false hw.symm)]
      · refine tc_iconst (v := 0) C dX9_init_290 (by decide) ?_
        refine tc_goto (tgt := 296) C dX9_init_291 (by decide) ?_
        refine fin 0 ?_
        rw [decide_eq_true hq] at hw
        unfold gwy
        rw [if_pos (of_decide_eq_true hw.symm)]
theorem kc_X9 (G : Gx) {h : Nat} (hA : ∀ q, h ≤ q → G.2.2.2.2.2 q) (d : Nat) (hd : 4 ≤ d) (n : Nat) (E : Nat → va_E) : MC G h d yX9_init cX9_init 2 none [.ref (h + n)] (n + 1) (uE E n [.inr (9, [.null, .null, .null, .null, .null, .null, .int 0, .int 0, .int 0, .null, .int 0, .int 0, .int 0, .int 0, .int 0, .int 0, .null, .null, .null, .null, .int 0, .int 0, .int 0, .int 0, .null, .null, .null, .null, .int 0, .null, .null, .null, .null, .int 0, .int 0, .int 0, .null, .null, .null, .null, .null, .null, .null, .null, .int 0])]) none (n + 28) (uE E n [.inr (9, [.ref (h + (n + 1)), .ref (h + (n + 2)), .ref (h + (n + 3)), .ref (h + (n + 4)), .ref (h + (n + 5)), .ref (h + (n + 6)), .int 0, .int 0, .int 0, .ref (h + (n + 7)), .int 0, .int 0, .int 0, .int 0, .int 0, .int 0, .ref (h + (n + 8)), .ref (h + (n + 9)), .ref (h + (n + 10)), .ref (h + (n + 11)), .int 0, .int 0, .int 0, .int 0, .ref (h + (n + 12)), .ref (h + (n + 13)), .ref (h + (n + 14)), .ref (h + (n + 15)), .int 0, .ref (h + (n + 16)), .ref (h + (n + 17)), .ref (h + (n + 18)), .ref (h + (n + 19)), .int 2, .int 3, .int 1, .ref (h + (n + 20)), .ref (h + (n + 21)), .ref (h + (n + 22)), .ref (h + (n + 23)), .ref (h + (n + 24)), .ref (h + (n + 25)), .ref (h + (n + 26)), .ref (h + (n + 27)), .int 0]), .inl (G.2.2.1 0, 11, .inl (fun _ => 0)), .inl (G.2.2.1 0, 880, .inl (fun _ => 0)), .inl (G.2.2.1 2, 11, .inl (fun _ => 0)), .inl (G.2.2.1 0, 11, .inl (fun _ => 0)), .inl (G.2.2.1 0, 187, .inl (fun _ => 0)), .inl (G.2.2.1 0, 308, .inl (fun _ => 0)), .inl (G.2.2.1 0, 17, .inl (fun _ => 0)), .inl (G.2.2.1 0, 12, .inl (fun _ => 0)), .inl (G.2.2.1 0, 480, .inl (fun _ => 0)), .inl (G.2.2.1 0, 480, .inl (fun _ => 0)), .inl (G.2.2.1 2, 12, .inl (fun _ => 0)), .inl (G.2.2.1 0, 63, .inl (fun _ => 0)), .inl (G.2.2.1 0, 17, .inl (fun _ => 0)), .inl (G.2.2.1 0, 17, .inl (fun _ => 0)), .inl (G.2.2.1 0, 6, .inl (fun _ => 0)), .inl (G.2.2.1 0, 12, .inl (fun _ => 0)), .inl (G.2.2.1 0, 12, .inl (fun _ => 0)), .inl (G.2.2.1 2, 12, .inl (fun _ => 0)), .inl (G.2.2.1 0, 17, .inl (gpl)), .inl (G.2.2.1 0, 144, .inl (gwy)), .inl (G.2.2.1 0, 4096, .inl (fun _ => 0)), .inl (G.2.2.1 0, 4096, .inl (fun _ => 0)), .inl (G.2.2.1 2, 4, .inl (fun _ => 0)), .inl (G.2.2.1 0, 4, .inl (fun _ => 0)), .inl (G.2.2.1 0, 4, .inl (fun _ => 0)), .inl (G.2.2.1 0, 240, .inl (fun _ => 0)), .inl (G.2.2.1 0, 60, .inl (fun _ => 0))]) 27 11213 := by
  refine MC_of hA (by decide) (Nat.le_of_ble_eq_true rfl) rfl (fun K hG hnL C hR hRo Y hnm hK => ?_) (by omega)
  subst hG
  refine ks_X9 (n := n) (E := E) hd C Y hR hRo hnm (Nat.le_refl _) (Nat.le_refl _) ?_
  have hc : 27 ≤ (Rof K).cells := by rw [hRo]; exact Nat.le_refl _
  have hs : 11213 ≤ (Rof K).slots := by rw [hRo]; exact Nat.le_refl _
  refine tc_iconst (v := 0) C dX9_init_241 (by decide) ?_
  refine tc_istore_n (lv' := [(0, .ref (h + n)), (1, .int (nI 0))]) C [1, 0] dX9_init_242 rfl (by rw [hnL]; decide) rfl ?_
  refine tc_congr (E' := fE (uE E n [.inr (9, [.ref (h + (n + 1)), .ref (h + (n + 2)), .ref (h + (n + 3)), .ref (h + (n + 4)), .ref (h + (n + 5)), .ref (h + (n + 6)), .int 0, .int 0, .int 0, .ref (h + (n + 7)), .int 0, .int 0, .int 0, .int 0, .int 0, .int 0, .ref (h + (n + 8)), .ref (h + (n + 9)), .ref (h + (n + 10)), .ref (h + (n + 11)), .int 0, .int 0, .int 0, .int 0, .ref (h + (n + 12)), .ref (h + (n + 13)), .ref (h + (n + 14)), .ref (h + (n + 15)), .int 0, .ref (h + (n + 16)), .ref (h + (n + 17)), .ref (h + (n + 18)), .ref (h + (n + 19)), .int 2, .int 3, .int 1, .ref (h + (n + 20)), .ref (h + (n + 21)), .ref (h + (n + 22)), .ref (h + (n + 23)), .ref (h + (n + 24)), .ref (h + (n + 25)), .ref (h + (n + 26)), .ref (h + (n + 27)), .int 0]), .inl (K.1.2.2.1 0, 11, .inl (fun _ => 0)), .inl (K.1.2.2.1 0, 880, .inl (fun _ => 0)), .inl (K.1.2.2.1 2, 11, .inl (fun _ => 0)), .inl (K.1.2.2.1 0, 11, .inl (fun _ => 0)), .inl (K.1.2.2.1 0, 187, .inl (fun _ => 0)), .inl (K.1.2.2.1 0, 308, .inl (fun _ => 0)), .inl (K.1.2.2.1 0, 17, .inl (fun _ => 0)), .inl (K.1.2.2.1 0, 12, .inl (fun _ => 0)), .inl (K.1.2.2.1 0, 480, .inl (fun _ => 0)), .inl (K.1.2.2.1 0, 480, .inl (fun _ => 0)), .inl (K.1.2.2.1 2, 12, .inl (fun _ => 0)), .inl (K.1.2.2.1 0, 63, .inl (fun _ => 0)), .inl (K.1.2.2.1 0, 17, .inl (fun _ => 0)), .inl (K.1.2.2.1 0, 17, .inl (fun _ => 0)), .inl (K.1.2.2.1 0, 6, .inl (fun _ => 0)), .inl (K.1.2.2.1 0, 12, .inl (fun _ => 0)), .inl (K.1.2.2.1 0, 12, .inl (fun _ => 0)), .inl (K.1.2.2.1 2, 12, .inl (fun _ => 0)), .inl (K.1.2.2.1 0, 17, .inl (fun _ => 0)), .inl (K.1.2.2.1 0, 144, .inl (fun _ => 0)), .inl (K.1.2.2.1 0, 4096, .inl (fun _ => 0)), .inl (K.1.2.2.1 0, 4096, .inl (fun _ => 0)), .inl (K.1.2.2.1 2, 4, .inl (fun _ => 0)), .inl (K.1.2.2.1 0, 4, .inl (fun _ => 0)), .inl (K.1.2.2.1 0, 4, .inl (fun _ => 0)), .inl (K.1.2.2.1 0, 240, .inl (fun _ => 0)), .inl (K.1.2.2.1 0, 60, .inl (fun _ => 0))]) (n + 19) (.inl (K.1.2.2.1 0, 17, .inl (flg (fun _ => 0) gpl 0)))) (fun o _ => ?_) ?_
  · by_cases c : o = n + 19
    · subst c
      rw [fE_at, flg_0]
      exact (uE_at (k := 19) rfl).symm
    · rw [fE_ne c]
  refine lw_9a C Y (d := d) (by omega) hR hnL (by omega) (by omega) (by omega) (uE_at (k := 0) rfl) rfl hc hs ?_ 18 0 (by omega) (by omega)
  refine tc_iconst (v := 0) C dX9_init_265 (by decide) ?_
  refine tc_istore_n (lv' := [(0, .ref (h + n)), (1, .int (nI 0))]) C [1, 0] dX9_init_266 rfl (by rw [hnL]; decide) rfl ?_
  generalize hE1 : fE (uE E n [.inr (9, [.ref (h + (n + 1)), .ref (h + (n + 2)), .ref (h + (n + 3)), .ref (h + (n + 4)), .ref (h + (n + 5)), .ref (h + (n + 6)), .int 0, .int 0, .int 0, .ref (h + (n + 7)), .int 0, .int 0, .int 0, .int 0, .int 0, .int 0, .ref (h + (n + 8)), .ref (h + (n + 9)), .ref (h + (n + 10)), .ref (h + (n + 11)), .int 0, .int 0, .int 0, .int 0, .ref (h + (n + 12)), .ref (h + (n + 13)), .ref (h + (n + 14)), .ref (h + (n + 15)), .int 0, .ref (h + (n + 16)), .ref (h + (n + 17)), .ref (h + (n + 18)), .ref (h + (n + 19)), .int 2, .int 3, .int 1, .ref (h + (n + 20)), .ref (h + (n + 21)), .ref (h + (n + 22)), .ref (h + (n + 23)), .ref (h + (n + 24)), .ref (h + (n + 25)), .ref (h + (n + 26)), .ref (h + (n + 27)), .int 0]), .inl (K.1.2.2.1 0, 11, .inl (fun _ => 0)), .inl (K.1.2.2.1 0, 880, .inl (fun _ => 0)), .inl (K.1.2.2.1 2, 11, .inl (fun _ => 0)), .inl (K.1.2.2.1 0, 11, .inl (fun _ => 0)), .inl (K.1.2.2.1 0, 187, .inl (fun _ => 0)), .inl (K.1.2.2.1 0, 308, .inl (fun _ => 0)), .inl (K.1.2.2.1 0, 17, .inl (fun _ => 0)), .inl (K.1.2.2.1 0, 12, .inl (fun _ => 0)), .inl (K.1.2.2.1 0, 480, .inl (fun _ => 0)), .inl (K.1.2.2.1 0, 480, .inl (fun _ => 0)), .inl (K.1.2.2.1 2, 12, .inl (fun _ => 0)), .inl (K.1.2.2.1 0, 63, .inl (fun _ => 0)), .inl (K.1.2.2.1 0, 17, .inl (fun _ => 0)), .inl (K.1.2.2.1 0, 17, .inl (fun _ => 0)), .inl (K.1.2.2.1 0, 6, .inl (fun _ => 0)), .inl (K.1.2.2.1 0, 12, .inl (fun _ => 0)), .inl (K.1.2.2.1 0, 12, .inl (fun _ => 0)), .inl (K.1.2.2.1 2, 12, .inl (fun _ => 0)), .inl (K.1.2.2.1 0, 17, .inl (fun _ => 0)), .inl (K.1.2.2.1 0, 144, .inl (fun _ => 0)), .inl (K.1.2.2.1 0, 4096, .inl (fun _ => 0)), .inl (K.1.2.2.1 0, 4096, .inl (fun _ => 0)), .inl (K.1.2.2.1 2, 4, .inl (fun _ => 0)), .inl (K.1.2.2.1 0, 4, .inl (fun _ => 0)), .inl (K.1.2.2.1 0, 4, .inl (fun _ => 0)), .inl (K.1.2.2.1 0, 240, .inl (fun _ => 0)), .inl (K.1.2.2.1 0, 60, .inl (fun _ => 0))]) (n + 19) (.inl (K.1.2.2.1 0, 17, .inl (flg (fun _ => 0) gpl 17))) = E1
  refine tc_congr (E' := fE E1 (n + 20) (.inl (K.1.2.2.1 0, 144, .inl (flg (fun _ => 0) gwy 0)))) (fun o _ => ?_) ?_
  · by_cases c : o = n + 20
    · subst c
      rw [fE_at, flg_0, ← hE1, fE_ne (by omega)]
      exact (uE_at (k := 20) rfl).symm
    · rw [fE_ne c]
  refine lw_9b (fs := [.ref (h + (n + 1)), .ref (h + (n + 2)), .ref (h + (n + 3)), .ref (h + (n + 4)), .ref (h + (n + 5)), .ref (h + (n + 6)), .int 0, .int 0, .int 0, .ref (h + (n + 7)), .int 0, .int 0, .int 0, .int 0, .int 0, .int 0, .ref (h + (n + 8)), .ref (h + (n + 9)), .ref (h + (n + 10)), .ref (h + (n + 11)), .int 0, .int 0, .int 0, .int 0, .ref (h + (n + 12)), .ref (h + (n + 13)), .ref (h + (n + 14)), .ref (h + (n + 15)), .int 0, .ref (h + (n + 16)), .ref (h + (n + 17)), .ref (h + (n + 18)), .ref (h + (n + 19)), .int 2, .int 3, .int 1, .ref (h + (n + 20)), .ref (h + (n + 21)), .ref (h + (n + 22)), .ref (h + (n + 23)), .ref (h + (n + 24)), .ref (h + (n + 25)), .ref (h + (n + 26)), .ref (h + (n + 27)), .int 0]) C Y hnL (by omega) (by omega) (by omega) (by rw [← hE1, fE_ne (by omega)]; exact uE_at (k := 0) rfl) rfl ?_ 145 0 (by omega) (by omega)
  refine tc_vret C hK rfl rfl rfl rfl dX9_init_303 (fun G H o ho hG q => ?_)
  by_cases c : o = n + 20
  · subst c
    rw [fE_at] at q
    rw [show uE E n [.inr (9, [.ref (h + (n + 1)), .ref (h + (n + 2)), .ref (h + (n + 3)), .ref (h + (n + 4)), .ref (h + (n + 5)), .ref (h + (n + 6)), .int 0, .int 0, .int 0, .ref (h + (n + 7)), .int 0, .int 0, .int 0, .int 0, .int 0, .int 0, .ref (h + (n + 8)), .ref (h + (n + 9)), .ref (h + (n + 10)), .ref (h + (n + 11)), .int 0, .int 0, .int 0, .int 0, .ref (h + (n + 12)), .ref (h + (n + 13)), .ref (h + (n + 14)), .ref (h + (n + 15)), .int 0, .ref (h + (n + 16)), .ref (h + (n + 17)), .ref (h + (n + 18)), .ref (h + (n + 19)), .int 2, .int 3, .int 1, .ref (h + (n + 20)), .ref (h + (n + 21)), .ref (h + (n + 22)), .ref (h + (n + 23)), .ref (h + (n + 24)), .ref (h + (n + 25)), .ref (h + (n + 26)), .ref (h + (n + 27)), .int 0]), .inl (K.1.2.2.1 0, 11, .inl (fun _ => 0)), .inl (K.1.2.2.1 0, 880, .inl (fun _ => 0)), .inl (K.1.2.2.1 2, 11, .inl (fun _ => 0)), .inl (K.1.2.2.1 0, 11, .inl (fun _ => 0)), .inl (K.1.2.2.1 0, 187, .inl (fun _ => 0)), .inl (K.1.2.2.1 0, 308, .inl (fun _ => 0)), .inl (K.1.2.2.1 0, 17, .inl (fun _ => 0)), .inl (K.1.2.2.1 0, 12, .inl (fun _ => 0)), .inl (K.1.2.2.1 0, 480, .inl (fun _ => 0)), .inl (K.1.2.2.1 0, 480, .inl (fun _ => 0)), .inl (K.1.2.2.1 2, 12, .inl (fun _ => 0)), .inl (K.1.2.2.1 0, 63, .inl (fun _ => 0)), .inl (K.1.2.2.1 0, 17, .inl (fun _ => 0)), .inl (K.1.2.2.1 0, 17, .inl (fun _ => 0)), .inl (K.1.2.2.1 0, 6, .inl (fun _ => 0)), .inl (K.1.2.2.1 0, 12, .inl (fun _ => 0)), .inl (K.1.2.2.1 0, 12, .inl (fun _ => 0)), .inl (K.1.2.2.1 2, 12, .inl (fun _ => 0)), .inl (K.1.2.2.1 0, 17, .inl (gpl)), .inl (K.1.2.2.1 0, 144, .inl (gwy)), .inl (K.1.2.2.1 0, 4096, .inl (fun _ => 0)), .inl (K.1.2.2.1 0, 4096, .inl (fun _ => 0)), .inl (K.1.2.2.1 2, 4, .inl (fun _ => 0)), .inl (K.1.2.2.1 0, 4, .inl (fun _ => 0)), .inl (K.1.2.2.1 0, 4, .inl (fun _ => 0)), .inl (K.1.2.2.1 0, 240, .inl (fun _ => 0)), .inl (K.1.2.2.1 0, 60, .inl (fun _ => 0))] (n + 20) = .inl (K.1.2.2.1 0, 144, .inl gwy) from uE_at (k := 20) rfl]
    exact at_row (fun j hj => if_pos hj) q
  · rw [fE_ne c, ← hE1] at q
    by_cases c2 : o = n + 19
    · subst c2
      rw [fE_at] at q
      rw [show uE E n [.inr (9, [.ref (h + (n + 1)), .ref (h + (n + 2)), .ref (h + (n + 3)), .ref (h + (n + 4)), .ref (h + (n + 5)), .ref (h + (n + 6)), .int 0, .int 0, .int 0, .ref (h + (n + 7)), .int 0, .int 0, .int 0, .int 0, .int 0, .int 0, .ref (h + (n + 8)), .ref (h + (n + 9)), .ref (h + (n + 10)), .ref (h + (n + 11)), .int 0, .int 0, .int 0, .int 0, .ref (h + (n + 12)), .ref (h + (n + 13)), .ref (h + (n + 14)), .ref (h + (n + 15)), .int 0, .ref (h + (n + 16)), .ref (h + (n + 17)), .ref (h + (n + 18)), .ref (h + (n + 19)), .int 2, .int 3, .int 1, .ref (h + (n + 20)), .ref (h + (n + 21)), .ref (h + (n + 22)), .ref (h + (n + 23)), .ref (h + (n + 24)), .ref (h + (n + 25)), .ref (h + (n + 26)), .ref (h + (n + 27)), .int 0]), .inl (K.1.2.2.1 0, 11, .inl (fun _ => 0)), .inl (K.1.2.2.1 0, 880, .inl (fun _ => 0)), .inl (K.1.2.2.1 2, 11, .inl (fun _ => 0)), .inl (K.1.2.2.1 0, 11, .inl (fun _ => 0)), .inl (K.1.2.2.1 0, 187, .inl (fun _ => 0)), .inl (K.1.2.2.1 0, 308, .inl (fun _ => 0)), .inl (K.1.2.2.1 0, 17, .inl (fun _ => 0)), .inl (K.1.2.2.1 0, 12, .inl (fun _ => 0)), .inl (K.1.2.2.1 0, 480, .inl (fun _ => 0)), .inl (K.1.2.2.1 0, 480, .inl (fun _ => 0)), .inl (K.1.2.2.1 2, 12, .inl (fun _ => 0)), .inl (K.1.2.2.1 0, 63, .inl (fun _ => 0)), .inl (K.1.2.2.1 0, 17, .inl (fun _ => 0)), .inl (K.1.2.2.1 0, 17, .inl (fun _ => 0)), .inl (K.1.2.2.1 0, 6, .inl (fun _ => 0)), .inl (K.1.2.2.1 0, 12, .inl (fun _ => 0)), .inl (K.1.2.2.1 0, 12, .inl (fun _ => 0)), .inl (K.1.2.2.1 2, 12, .inl (fun _ => 0)), .inl (K.1.2.2.1 0, 17, .inl (gpl)), .inl (K.1.2.2.1 0, 144, .inl (gwy)), .inl (K.1.2.2.1 0, 4096, .inl (fun _ => 0)), .inl (K.1.2.2.1 0, 4096, .inl (fun _ => 0)), .inl (K.1.2.2.1 2, 4, .inl (fun _ => 0)), .inl (K.1.2.2.1 0, 4, .inl (fun _ => 0)), .inl (K.1.2.2.1 0, 4, .inl (fun _ => 0)), .inl (K.1.2.2.1 0, 240, .inl (fun _ => 0)), .inl (K.1.2.2.1 0, 60, .inl (fun _ => 0))] (n + 19) = .inl (K.1.2.2.1 0, 17, .inl gpl) from uE_at (k := 19) rfl]
      exact at_row (fun j hj => if_pos hj) q
    · rw [fE_ne c2] at q
      rw [show uE E n [.inr (9, [.ref (h + (n + 1)), .ref (h + (n + 2)), .ref (h + (n + 3)), .ref (h + (n + 4)), .ref (h + (n + 5)), .ref (h + (n + 6)), .int 0, .int 0, .int 0, .ref (h + (n + 7)), .int 0, .int 0, .int 0, .int 0, .int 0, .int 0, .ref (h + (n + 8)), .ref (h + (n + 9)), .ref (h + (n + 10)), .ref (h + (n + 11)), .int 0, .int 0, .int 0, .int 0, .ref (h + (n + 12)), .ref (h + (n + 13)), .ref (h + (n + 14)), .ref (h + (n + 15)), .int 0, .ref (h + (n + 16)), .ref (h + (n + 17)), .ref (h + (n + 18)), .ref (h + (n + 19)), .int 2, .int 3, .int 1, .ref (h + (n + 20)), .ref (h + (n + 21)), .ref (h + (n + 22)), .ref (h + (n + 23)), .ref (h + (n + 24)), .ref (h + (n + 25)), .ref (h + (n + 26)), .ref (h + (n + 27)), .int 0]), .inl (K.1.2.2.1 0, 11, .inl (fun _ => 0)), .inl (K.1.2.2.1 0, 880, .inl (fun _ => 0)), .inl (K.1.2.2.1 2, 11, .inl (fun _ => 0)), .inl (K.1.2.2.1 0, 11, .inl (fun _ => 0)), .inl (K.1.2.2.1 0, 187, .inl (fun _ => 0)), .inl (K.1.2.2.1 0, 308, .inl (fun _ => 0)), .inl (K.1.2.2.1 0, 17, .inl (fun _ => 0)), .inl (K.1.2.2.1 0, 12, .inl (fun _ => 0)), .inl (K.1.2.2.1 0, 480, .inl (fun _ => 0)), .inl (K.1.2.2.1 0, 480, .inl (fun _ => 0)), .inl (K.1.2.2.1 2, 12, .inl (fun _ => 0)), .inl (K.1.2.2.1 0, 63, .inl (fun _ => 0)), .inl (K.1.2.2.1 0, 17, .inl (fun _ => 0)), .inl (K.1.2.2.1 0, 17, .inl (fun _ => 0)), .inl (K.1.2.2.1 0, 6, .inl (fun _ => 0)), .inl (K.1.2.2.1 0, 12, .inl (fun _ => 0)), .inl (K.1.2.2.1 0, 12, .inl (fun _ => 0)), .inl (K.1.2.2.1 2, 12, .inl (fun _ => 0)), .inl (K.1.2.2.1 0, 17, .inl (gpl)), .inl (K.1.2.2.1 0, 144, .inl (gwy)), .inl (K.1.2.2.1 0, 4096, .inl (fun _ => 0)), .inl (K.1.2.2.1 0, 4096, .inl (fun _ => 0)), .inl (K.1.2.2.1 2, 4, .inl (fun _ => 0)), .inl (K.1.2.2.1 0, 4, .inl (fun _ => 0)), .inl (K.1.2.2.1 0, 4, .inl (fun _ => 0)), .inl (K.1.2.2.1 0, 240, .inl (fun _ => 0)), .inl (K.1.2.2.1 0, 60, .inl (fun _ => 0))] o = uE E n (List.set (List.set [.inr (9, [.ref (h + (n + 1)), .ref (h + (n + 2)), .ref (h + (n + 3)), .ref (h + (n + 4)), .ref (h + (n + 5)), .ref (h + (n + 6)), .int 0, .int 0, .int 0, .ref (h + (n + 7)), .int 0, .int 0, .int 0, .int 0, .int 0, .int 0, .ref (h + (n + 8)), .ref (h + (n + 9)), .ref (h + (n + 10)), .ref (h + (n + 11)), .int 0, .int 0, .int 0, .int 0, .ref (h + (n + 12)), .ref (h + (n + 13)), .ref (h + (n + 14)), .ref (h + (n + 15)), .int 0, .ref (h + (n + 16)), .ref (h + (n + 17)), .ref (h + (n + 18)), .ref (h + (n + 19)), .int 2, .int 3, .int 1, .ref (h + (n + 20)), .ref (h + (n + 21)), .ref (h + (n + 22)), .ref (h + (n + 23)), .ref (h + (n + 24)), .ref (h + (n + 25)), .ref (h + (n + 26)), .ref (h + (n + 27)), .int 0]), .inl (K.1.2.2.1 0, 11, .inl (fun _ => 0)), .inl (K.1.2.2.1 0, 880, .inl (fun _ => 0)), .inl (K.1.2.2.1 2, 11, .inl (fun _ => 0)), .inl (K.1.2.2.1 0, 11, .inl (fun _ => 0)), .inl (K.1.2.2.1 0, 187, .inl (fun _ => 0)), .inl (K.1.2.2.1 0, 308, .inl (fun _ => 0)), .inl (K.1.2.2.1 0, 17, .inl (fun _ => 0)), .inl (K.1.2.2.1 0, 12, .inl (fun _ => 0)), .inl (K.1.2.2.1 0, 480, .inl (fun _ => 0)), .inl (K.1.2.2.1 0, 480, .inl (fun _ => 0)), .inl (K.1.2.2.1 2, 12, .inl (fun _ => 0)), .inl (K.1.2.2.1 0, 63, .inl (fun _ => 0)), .inl (K.1.2.2.1 0, 17, .inl (fun _ => 0)), .inl (K.1.2.2.1 0, 17, .inl (fun _ => 0)), .inl (K.1.2.2.1 0, 6, .inl (fun _ => 0)), .inl (K.1.2.2.1 0, 12, .inl (fun _ => 0)), .inl (K.1.2.2.1 0, 12, .inl (fun _ => 0)), .inl (K.1.2.2.1 2, 12, .inl (fun _ => 0)), .inl (K.1.2.2.1 0, 17, .inl (fun _ => 0)), .inl (K.1.2.2.1 0, 144, .inl (fun _ => 0)), .inl (K.1.2.2.1 0, 4096, .inl (fun _ => 0)), .inl (K.1.2.2.1 0, 4096, .inl (fun _ => 0)), .inl (K.1.2.2.1 2, 4, .inl (fun _ => 0)), .inl (K.1.2.2.1 0, 4, .inl (fun _ => 0)), .inl (K.1.2.2.1 0, 4, .inl (fun _ => 0)), .inl (K.1.2.2.1 0, 240, .inl (fun _ => 0)), .inl (K.1.2.2.1 0, 60, .inl (fun _ => 0))] 19 (.inl (K.1.2.2.1 0, 17, .inl gpl))) 20 (.inl (K.1.2.2.1 0, 144, .inl gwy))) o from rfl, uE_set c, uE_set c2]
      exact q
