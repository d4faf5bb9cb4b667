/-- a field that a constructor writes -/
def PL (own : String) (idx f i : Nat) (ty : FieldType) (fin : Bool) : Prop := ∃ (C : String) (T : u_T) (N : Nat) (ty0 : Nat → FieldType), vwCl[f]? = some (C, T, N) ∧ i < N ∧ (∀ w ∈ u_ws C T N, w ∈ Tw) ∧ (∀ k, k < N → parseFieldDescriptor (T k).2.2.1 = some (ty0 k)) ∧ (∀ a, a < N → ∀ b, b < N → a ≠ b → (T a).2.1 ≠ (T b).2.1) ∧ parseFieldDescriptor (T i).2.2.1 = some ty ∧ Cond.fieldLink own idx (T i).1 (T i).2.1 (T i).2.2.1 ∈ Tw ∧ (T i).2.2.2 = fin ∧ (T i).1 = own
section TCp
variable {K : Kx} {cc : ByteArray} {own : String} {h ce sl pc : Nat} {ls lv' : List (Nat × Value)} {st rest : List Value} {n : Nat} {E E' : Nat → va_E}
theorem tc_put (C : Cx K cc own) (Y : Yx K h) {idx f i o : Nat} {ty : FieldType} {fs : List Value} {v : Value} {fin : Bool} (hF : PL own idx f i ty fin) (hnm : nmOf K = "<init>") (ho : o < n) (he : E o = .inr (f, fs)) (hlen : i < fs.length) (hn : narrow ty v = v) (hfit : fits ty v = true) (hd : decode cc pc = .ok (.putfield idx, 3)) (h1 : E' o = .inr (f, fs.set i v)) (h2 : ∀ o', ¬ o' = o → E' o' = E o') (k : TC K h ce sl (pc + 3) ls st n E') : TC K h ce sl pc ls (v :: .ref (h + o) :: st) n E := by
  obtain ⟨G, p, e, R, s, m, args, below, meth, c, cells, slots, nL, Q⟩ := K
  obtain ⟨C1, T1, N1, ty0, hc, hi, hin, hty, hnn, hpt, hl, hfin, hdecl⟩ := hF
  intro H lo hP hS la hh
  have hts := C.2.2.2.2.1
  have hK := C.2.2.2.2.2.1.2.1
  have hap := va_apart (own := own) hts hin ty0 hty hnn hK hc
  have hAo : G.2.2.2.2.2 (h + o) := Y.2 _ (Nat.le_add_right _ _)
  obtain ⟨r, g1, cell, q1, q2, q3, q4⟩ := hP.at ho he
  cases g1.symm.trans hc
  obtain ⟨hSl, hfc, kC, hkC, hkind⟩ := hK.1 f _ hc
  obtain ⟨cf, kf, fi, fd, hif, hsl⟩ := hSl i hi
  have hlay := hts _ (hin _ (u_in_lay hi))
  unfold u_lay at hlay
  have hst := (u_facts hfc hkC (u_lays hts hin hi) hif).1
  cases fin with
  | false =>
    rw [if_neg (by rw [hfin]; decide)] at hlay
    have h6 := u_store hfc hkC hkind hlay hif hpt hn hfit
    refine W.putK C.1 C.2.1 (f := fd) ⟨C.2.2.2.1, hts _ hl, ⟨_, _, _, hif⟩, hst⟩ (by rw [q2]; exact h6) q1 q3 (by rw [hsl]; exact k2_hasslot (q4 i hi)) rfl rfl hd fun H' e1 e2 e3 => ?_
    rw [hsl] at e1 ⊢
    exact k H' _ (hP.put ho e2 e3 (e := .inr (f, fs.set i v)) ⟨_, hc, t_OB.to (V := updV (vp_V fs) i v) ⟨_, e1, q2, q3, t_set q4 hap hi v⟩ (fun j _ => vp_updV_set hlen v j)⟩ h1 h2) (hS.put e2 e3 hAo) la hh
  | true =>
    rw [if_pos hfin] at hlay
    have hcf : m.cls = cf := by
      obtain ⟨_, _, c', _, _, _, -, -, hf', -, -, -, hown2, -⟩ := Cond.laysFinal_spec hlay
      have e1 : c' = cf := by have := hif.symm.trans hf'; simp at this; exact this.1.symm
      rw [hdecl] at hown2
      rw [← e1]; exact Option.some.inj (C.2.2.2.1.symm.trans hown2)
    have h6 := u_fits hfc hkC hkind (Or.inr hlay) hif hpt hn hfit
    refine W.putFinK C.1 C.2.1 C.2.2.2.1 (hts _ hl) hif hst hcf hnm (by rw [q2]; exact h6) q1 q3 (by rw [hsl]; exact k2_hasslot (q4 i hi)) rfl rfl hd fun H' e1 e2 e3 => ?_
    rw [hsl] at e1 ⊢
    exact k H' _ (hP.put ho e2 e3 (e := .inr (f, fs.set i v)) ⟨_, hc, t_OB.to (V := updV (vp_V fs) i v) ⟨_, e1, q2, q3, t_set q4 hap hi v⟩ (fun j _ => vp_updV_set hlen v j)⟩ h1 h2) (hS.put e2 e3 hAo) la hh
theorem tc_iast (C : Cx K cc own) (Y : Yx K h) {o N : Nat} {f : Nat → Int32} {i x : Int32} (ho : o < n) (he : E o = .inl (K.1.2.2.1 0, N, .inl f)) (hi : inb i N = true) (hd : decode cc pc = .ok (.iastore, 1)) (h1 : E' o = .inl (K.1.2.2.1 0, N, .inl (upd f (tn i) x))) (h2 : ∀ o', ¬ o' = o → E' o' = E o') (k : TC K h ce sl (pc + 1) ls st n E') : TC K h ce sl pc ls (.int x :: .int i :: .ref (h + o) :: st) n E := by
  obtain ⟨G, p, e, R, s, m, args, below, meth, c, cells, slots, nL, Q⟩ := K
  intro H lo hP hS la hh
  have hAo : G.2.2.2.2.2 (h + o) := Y.2 _ (Nat.le_add_right _ _)
  have hK := C.2.2.2.2.2.1.2.1
  refine W.iast C.1 C.2.1 (hP.at ho he) ((hK.2 0 _ rfl).1 N (fun j => .int (f j))) (fun q => by cases q) (by show ¬ (i < 0 ∨ (arrV _ _ _).slots.size ≤ _); rw [arrV_size]; exact inb_in hi) rfl rfl hd fun H1 e1 z oq => ?_
  refine k H1 _ (hP.put ho z oq (e := .inl (G.2.2.1 0, N, .inl (upd f (tn i) x))) ?_ h1 h2) (hS.put z oq hAo) la hh
  show H1[h + o]? = some (vp_cell _ _)
  rw [e1, vp_cell_i, vp_cell_i, arrV_store]
  congr 2
  funext q
  by_cases hq : q = i.toNatClampNeg
  · subst hq
    simp [updV, upd]
  · simp [updV, upd, hq]
theorem tc_aast (C : Cx K cc own) (Y : Yx K h) {o o2 N t0 f2 : Nat} {r : vw_C} {f : Nat → Option Nat} {vs : List Value} {i : Int32} (ho : o < n) (he : E o = .inl (K.1.2.2.1 t0, N, .inr (.inr (.inr (.inr f))))) (ht : ∀ cA, (tysO cA)[t0]? = some (cA t0, .object r.1)) (ho2 : o2 < n) (he2 : E o2 = .inr (f2, vs)) (hc : vwCl[f2]? = some r) (hi : inb i N = true) (hd : decode cc pc = .ok (.aastore, 1)) (h1 : E' o = .inl (K.1.2.2.1 t0, N, .inr (.inr (.inr (.inr (va_up f (tn i) (some (h + o2)))))))) (h2 : ∀ o', ¬ o' = o → E' o' = E o') (k : TC K h ce sl (pc + 1) ls st n E') : TC K h ce sl pc ls (.ref (h + o2) :: .int i :: .ref (h + o) :: st) n E := by
  obtain ⟨G, p, e, R, s, m, args, below, meth, c, cells, slots, nL, Q⟩ := K
  intro H lo hP hS la hh
  have hAo : G.2.2.2.2.2 (h + o) := Y.2 _ (Nat.le_add_right _ _)
  have hK := C.2.2.2.2.2.1.2.1
  have hin := inb_in hi
  have hlt : i.toNatClampNeg < N := inb_lt hi
  have h0 : ¬ i < 0 := fun q => hin (Or.inl q)
  obtain ⟨r', hr', cellV, g1, g2, g3, -⟩ := hP.at ho2 he2
  have hcls := (hK.1 f2 r hc).2
  obtain ⟨kA, comp, k1, k2, k3, -⟩ := (hK.2 t0 _ (ht _)).2
  have hcomp : comp = G.2.2.2.1 f2 := Option.some.inj (k3.symm.trans hcls.1)
  subst hcomp
  obtain ⟨kC, hkC, -⟩ := hcls.2
  refine W.aast C.1 C.2.1 (hP.at ho he) (fun q h => by cases h) (fun h => by cases h) k1 k2 rfl hkC ⟨h0, by show _ < (arrV _ _ _).slots.size; rw [arrV_size]; exact hlt⟩ g1 (fun q h => by rw [g3] at h; cases h) (by rw [g2]; exact hkC) (by rw [g2]; exact va_assign hcls) rfl rfl hd fun H1 e1 z oq => ?_
  refine k H1 _ (hP.put ho z oq (e := .inl (G.2.2.1 t0, N, .inr (.inr (.inr (.inr (va_up f (tn i) (some (h + o2)))))))) ?_ h1 h2) (hS.put z oq hAo) la hh
  show H1[h + o]? = some (vp_cell _ _)
  rw [e1, vp_cell_q, vp_cell_q, arrV_store]
  congr 2
  funext q
  by_cases hq : q = i.toNatClampNeg
  · subst hq
    simp [updV, va_up, va_rf]
  · simp [updV, va_up, hq]
end TCp
/-! contracts in the making -/
theorem WX.calling {G : Gx} {U : State} (h : WX G U) (g : JFrame) (mk : MethodId) (a : Array Value) : WX G (U.calling g mk a) := ⟨h.1, fun C hC => (h.2 C hC).moved (u := U) (U := U.calling g mk a) (Vm.Alike.refl U.vm)⟩
theorem WX.next {G : Gx} {s U : State} {H : Heap} {locs : List Loc} (h : WX G s) (hF : WF G s) (hS : va_S G.2.2.2.2.2 s.heap H locs) (hU : U.heap = H) (hW : s.WarmedH U.vm) : WX G U := by
  obtain ⟨⟨cell, h1, h2⟩, h3⟩ := h
  refine ⟨?_, fun C hC => (h3 C hC).moved hW.alike⟩
  exact ⟨cell, by rw [hU, hS.2.1 _ hF.2.2.2.2.2.1 hF.2.2.2.2.2.2]; exact h1, by rw [hW.alike.findClass]; exact h2⟩
def QC (G : Gx) (h n' : Nat) (E' : Nat → va_E) (v : Option Value) : Array Value → State → Outcome → State → Prop := fun _ st o t => o = .returned v ∧ CW G h n' E' t.heap ∧ va_F G.2.2.2.2.2 st t
def rmc (d mc ms : Nat) : Room := { frames := d, cells := mc, slots := ms, locals := 40 * d }
def MC (G : Gx) (h d : Nat) (y : MethodName) (cc : ByteArray) (maxL : Nat) (ret : Option FieldType) (av : List Value) (n : Nat) (E : Nat → va_E) (v : Option Value) (n' : Nat) (E' : Nat → va_E) (mc ms : Nat) : Prop :=
  Met G.1 y (Cond.code y cc maxL ret :: Tw) (rmc d mc ms) (va_Pc av (fun U => WF G U ∧ WX G U ∧ CW G h n E U.heap)) (QC G h n' E' v) mc ms G.2.2.2.2.2
def KofC (G : Gx) (p : Program) (e : Env) (d mc ms : Nat) (s : State) (m : MethodId) (args : Array Value) (below : List Frame) (meth : Method) (c : Code) (nL h n' : Nat) (E' : Nat → va_E) (v : Option Value) : Kx :=
  (G, p, e, rmc d mc ms, s, m, args, below, meth, c, 0, 0, nL, MQ below (QC G h n' E' v) args s mc ms G.2.2.2.2.2)
def KsC (K : Kx) (G : Gx) (d mc ms nL : Nat) (ret : Option FieldType) (h n' : Nat) (E' : Nat → va_E) (v : Option Value) : Prop := ∃ p e s m args below meth c, K = KofC G p e d mc ms s m args below meth c nL h n' E' v ∧ meth.sig.returnType = ret
theorem MC_of {G : Gx} {h d : Nat} {y : MethodName} {cc : ByteArray} {maxL : Nat} {ret : Option FieldType} {av : List Value} {n n' : Nat} {E E' : Nat → va_E} {v : Option Value} {mc ms : Nat} {lv : List (Nat × Value)} (hA : ∀ q, h ≤ q → G.2.2.2.2.2 q) (hy : plainName y.cls = true) (hav : (lg_sl av).length ≤ maxL) (hlv : lv_args 0 av = lv)
    (body : ∀ K : Kx, K.1 = G → nLof K = maxL → Cx K cc y.cls → RmOk K (d - 1) → Rof K = rmc d mc ms → Yx K h → nmOf K = y.name → KsC K G d mc ms maxL ret h n' E' v → TC K h 0 0 0 lv [] n E) (hd : 0 < d) : MC G h d y cc maxL ret av n E v n' E' mc ms := by
  refine Met.ofW (cc := cc) (maxL := maxL) (ret := ret) hy rfl ?_
  intro p e s m args below meth c s₁ B hml hv
  obtain ⟨rfl, hWF, hWX, hCW⟩ := hv
  have hts := atoms_spec (ws := Cond.code y cc maxL ret :: Tw) B.pre
  have hown : s.vm.findClass y.cls = some m.cls := findClass_of_methodNamed B.named
  have hnm : meth.name = y.name := (name_of_methodNamed B.named B.method).1
  have hl := lv_entry av hav
  rw [lg_entry_eq]
  generalize (lg_sl av ++ List.replicate (maxL - (lg_sl av).length) Slot.unset).toArray = la at hl ⊢
  rw [hlv] at hl
  have hR : (headSpec (Cond.code y cc maxL ret :: Tw) (rmc d mc ms)).room = rmc d mc ms := rfl
  rw [hR]
  have hb := body (KofC G p e d mc ms s m av.toArray below meth c maxL h n' E' v) rfl rfl ⟨B.exec, B.bytes, hml, hown, fun w hw => hts w (List.mem_cons_of_mem _ hw), hWF, B.notSynchronized, Nat.zero_le _, Nat.zero_le _⟩ ⟨by show d - 1 + 1 ≤ d; omega, by show 40 * (d - 1) + 40 ≤ 40 * d; omega⟩ rfl ⟨hWX, hA⟩ hnm ⟨p, e, s, m, av.toArray, below, meth, c, rfl, B.returns⟩
  exact hb s.heap [] hCW va_S.rf la hl
section TCc
variable {K : Kx} {cc : ByteArray} {own : String} {h ce sl pc : Nat} {ls lv' : List (Nat × Value)} {st rest : List Value} {n n' : Nat} {E E' : Nat → va_E}
theorem tc_vret (C : Cx K cc own) {G : Gx} {d mc ms nL : Nat} {v : Option Value} (hK : KsC K G d mc ms nL none h n' E' v) (hv : v = none) (hn : n' = n) (hce : ce = mc) (hsl : sl = ms) (hd : decode cc pc = .ok (.return_, 1)) (he : ∀ (G : Gx) (H : Heap) o, o < n → G = K.1 → va_at (G.2.2.2.1, G.2.2.2.2.1) vwCl (h + o, E o) H → va_at (G.2.2.2.1, G.2.2.2.2.1) vwCl (h + o, E' o) H) : TC K h ce sl pc ls [] n E := by
  obtain ⟨p, e, s, m, args, below, meth, c, rfl, hr⟩ := hK
  subst hv; subst hn; subst hce; subst hsl
  exact fun H lo hP hS la hh => W.vret C.1 C.2.1 hr (fun t ht hW => ⟨rfl, by rw [ht]; exact hP.congr (fun o ho q => he _ H o ho rfl q), hS.F ht⟩) hS.2.2 hd C.2.2.2.2.2.2.1
theorem tc_iret (C : Cx K cc own) {G : Gx} {d mc ms nL : Nat} {v : Option Value} {x : Int32} (hK : KsC K G d mc ms nL (some .int) h n' E' v) (hv : v = some (.int x)) (hn : n' = n) (hE : E' = E) (hce : ce = mc) (hsl : sl = ms) (hd : decode cc pc = .ok (.ireturn, 1)) : TC K h ce sl pc ls [.int x] n E := by
  obtain ⟨p, e, s, m, args, below, meth, c, rfl, hr⟩ := hK
  subst hv; subst hn; subst hce; subst hsl; subst hE
  exact fun H lo hP hS la hh => W.iret (v := x) C.1 C.2.1 hr (fun t ht hW => ⟨rfl, by rw [ht]; exact hP, hS.F ht⟩) hS.2.2 hd C.2.2.2.2.2.2.1
theorem MC.blind {G : Gx} {av : List Value} : FrameBlind (va_Pc av (fun U => WF G U ∧ WX G U ∧ CW G h n E U.heap)) := fun a U g mk q => ⟨q.1, q.2.1.calling g mk a, q.2.2.1.calling g mk a, q.2.2.2⟩
theorem run_goC {p : Program} {G : Gx} {e : Env} {R : Room} {s : State} {m : MethodId} {args : Array Value} {below : List Frame} {meth : Method} {c : Code} {H : Heap} {locs : List Loc} {cells slots mc ms : Nat} {Q : State → Prop} {la : Array Slot} {v : Option Value} {a : Array Value}
    (hr : va_Run p G.1 e R s m args below meth c H locs cells slots mc ms (F0 m pc la st) rest (QC G h n' E' v a) G.2.2.2.2.2) (hS : va_S G.2.2.2.2.2 s.heap H locs)
    (kk : ∀ (H1 : Heap) (locs1 : List Loc), CW G h n' E' H1 → va_S G.2.2.2.2.2 s.heap H1 locs1 → W p G.1 e R s m args below meth c H1 locs1 (cells + mc) (slots + ms) Q (F0 m (pc + 3) la (v.toList ++ rest))) : W p G.1 e R s m args below meth c H locs cells slots Q (F0 m pc la st) := by
  intro T hT X
  obtain ⟨v', st₀, t, T', L, h0, X', hL, e1, e2, ⟨hv, hp, hz, hk⟩, stp⟩ := hr T hT X
  cases hv
  rw [h0] at hz hk
  obtain ⟨t2, a1, b1⟩ := kk T'.heap (locs ++ L) (by rw [e1]; exact hp)
    ⟨Nat.le_trans hS.1 (by rw [e1]; exact hz), fun q h1 h2 => by rw [e1, hk q (Nat.lt_of_lt_of_le h1 hS.1) h2]; exact hS.2.1 q h1 h2, fun q hq => by
      rcases List.mem_append.mp hq with h | h
      · exact hS.2.2 q h
      · exact hL q h⟩ T' rfl X'
  exact ⟨t2, stp t2 a1, b1⟩
theorem callB_mc {R : Room} {s : State} {args : Array Value} {own : String} {idx : Nat} {y : MethodName} {bytes : ByteArray} {maxL : Nat} {ret : Option FieldType} {n d mc ms : Nat} (ht : ∀ w ∈ Tw, w.before args s = true) (hi : MI y bytes maxL ret n) (hl : Cond.methodLink own idx y ∈ Tw) (hR : d + 1 ≤ R.frames ∧ 40 * d + 40 ≤ R.locals) : CallB R s args own idx y bytes maxL ret (Cond.code y bytes maxL ret :: Tw) (rmc d mc ms) mc ms n :=
  callB_of n ht (ws_good hi.1) rfl rfl rfl (ht _ hi.2.1) (ht _ hl) hi.2.2.2 ⟨hR.1, by show 8 + (maxL + 11) + 40 * d ≤ R.locals; have := hi.2.2.1; omega⟩
theorem tc_callI (C : Cx K cc own) (Y : Yx K h) {d : Nat} (hR : RmOk K d) {y : MethodName} {bytes : ByteArray} {maxL idx a mc ms : Nat} (hM : MC K.1 h d y bytes maxL none [.ref a] n E none n' E' mc ms) (hi : MI y bytes maxL none 0) (hin : Cond.instanceMethod y ∈ Tw) (hy : y.name = "<init>") (hl : Cond.methodLink own idx y ∈ Tw)
    (hW : (rest.map fun v => v.category).sum ≤ 8) (hce : ce + mc ≤ (Rof K).cells) (hsl : sl + ms ≤ (Rof K).slots) (hd : decode cc pc = .ok (.invokespecial idx, 3)) (kk : TC K h (ce + mc) (sl + ms) (pc + 3) ls rest n' E') : TC K h ce sl pc ls (.ref a :: rest) n E := by
  obtain ⟨G, p, e, R, s, m, args, below, meth, c, cells, slots, nL, Q⟩ := K
  intro H lo hP hS la hh
  refine run_goC (va_runI (As := []) (rest := rest) (b := a) ⟨C.1, C.2.1, C.2.2.1, C.2.2.2.1, C.2.2.2.2.1⟩ hM ⟨callB_mc C.2.2.2.2.1 hi hl hR, hy, C.2.2.2.2.1 _ hin⟩ ⟨MC.blind, fun U hU hW => ⟨rfl, C.2.2.2.2.2.1.next hS hU hW, Y.1.next C.2.2.2.2.2.1 hS hU hW, by rw [hU]; exact hP⟩⟩ rfl rfl hh.1 rfl (lv_room hW) hd ⟨hce, hsl⟩) hS (fun H1 locs1 h2 h3 => kk H1 locs1 h2 h3 la hh)
theorem tc_callIN (C : Cx K cc own) (Y : Yx K h) {d : Nat} (hR : RmOk K d) {y : MethodName} {bytes : ByteArray} {maxL idx a mc ms : Nat} {host : String} (hM : MC K.1 h d y bytes maxL none [.ref a] n E none n' E' mc ms) (hi : MI y bytes maxL none 0) (hin : Cond.instanceMethod y ∈ Tw) (hy : y.name = "<init>") (hl : Cond.methodLinkNest own idx y host ∈ nestWs)
    (hW : (rest.map fun v => v.category).sum ≤ 8) (hce : ce + mc ≤ (Rof K).cells) (hsl : sl + ms ≤ (Rof K).slots) (hd : decode cc pc = .ok (.invokespecial idx, 3)) (kk : TC K h (ce + mc) (sl + ms) (pc + 3) ls rest n' E') : TC K h ce sl pc ls (.ref a :: rest) n E := by
  obtain ⟨G, p, e, R, s, m, args, below, meth, c, cells, slots, nL, Q⟩ := K
  have hR' : d + 1 ≤ R.frames ∧ 40 * d + 40 ≤ R.locals := hR
  intro H lo hP hS la hh
  refine run_goC (va_runIN (As := []) (rest := rest) (b := a) ⟨C.1, C.2.1, C.2.2.1, C.2.2.2.1, C.2.2.2.2.1⟩ hM ⟨va_cnB 0 C.2.2.2.2.1 (ws_good hi.1) rfl rfl rfl (C.2.2.2.2.2.1.2.2.1 _ hl) (C.2.2.2.2.1 _ hi.2.1) hi.2.2.2 ⟨hR'.1, by show 8 + (maxL + 11) + 40 * d ≤ R.locals; have := hi.2.2.1; omega⟩, hy, C.2.2.2.2.1 _ hin⟩ ⟨MC.blind, fun U hU hW => ⟨rfl, C.2.2.2.2.2.1.next hS hU hW, Y.1.next C.2.2.2.2.2.1 hS hU hW, by rw [hU]; exact hP⟩⟩ rfl rfl hh.1 rfl (lv_room hW) hd ⟨hce, hsl⟩) hS (fun H1 locs1 h2 h3 => kk H1 locs1 h2 h3 la hh)
theorem tc_callS (C : Cx K cc own) (Y : Yx K h) {d : Nat} (hR : RmOk K d) {y : MethodName} {bytes : ByteArray} {maxL nn idx mc ms : Nat} {ret : Option FieldType} {As : List Value} {v : Option Value} (hM : MC K.1 h d y bytes maxL ret As n E v n' E' mc ms) (hi : MI y bytes maxL ret nn) (hsta : Cond.static y ∈ Tw) (hl : Cond.methodLink own idx y ∈ Tw)
    (hst : st = As.reverse ++ rest) (hn : As.length = nn) (hW : (rest.map fun v => v.category).sum ≤ 8) (hce : ce + mc ≤ (Rof K).cells) (hsl : sl + ms ≤ (Rof K).slots) (hd : decode cc pc = .ok (.invokestatic idx, 3)) (kk : TC K h (ce + mc) (sl + ms) (pc + 3) ls (v.toList ++ rest) n' E') : TC K h ce sl pc ls st n E := by
  obtain ⟨G, p, e, R, s, m, args, below, meth, c, cells, slots, nL, Q⟩ := K
  subst hst
  intro H lo hP hS la hh
  refine run_goC (va_runS (As := As) (rest := rest) ⟨C.1, C.2.1, C.2.2.1, C.2.2.2.1, C.2.2.2.2.1⟩ hM ⟨callB_mc C.2.2.2.2.1 hi hl hR, C.2.2.2.2.1 _ hsta⟩ ⟨MC.blind, fun U hU hW => ⟨rfl, C.2.2.2.2.2.1.next hS hU hW, Y.1.next C.2.2.2.2.2.1 hS hU hW, by rw [hU]; exact hP⟩⟩ rfl hn hh.1 rfl (lv_room hW) hd ⟨hce, hsl⟩) hS (fun H1 locs1 h2 h3 => kk H1 locs1 h2 h3 la hh)
end TCc
