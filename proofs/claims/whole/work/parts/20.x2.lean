/-! ===== a world in the making: instructions that make cells, write them, and call ===== -/
def Rof (K : Kx) : Room := match K with
  | (G, p, e, R, s, m, args, below, meth, c, cells, slots, nL, Q) => R
def nmOf (K : Kx) : String := match K with
  | (G, p, e, R, s, m, args, below, meth, c, cells, slots, nL, Q) => meth.name
def AOs : List String := [RX1, RX3, RX0, RX6]
/-- WHAT THE STATEMENT LEAVES OUT: the static row is of the class called "[I" (and, beside it, the words on arrays of references) -/
def WX (G : Gx) (U : State) : Prop := (∃ cell : Cell, U.heap[G.2.1 wpr]? = some cell ∧ U.vm.findClass "[I" = some cell.cls) ∧ ∀ C ∈ AOs, va_AO C U
def Yx (K : Kx) (h : Nat) : Prop := match K with
  | (G, p, e, R, s, m, args, below, meth, c, cells, slots, nL, Q) => WX G s ∧ ∀ q, h ≤ q → G.2.2.2.2.2 q
theorem S_push {A : Nat → Prop} {H0 H H1 : Heap} {locs : List Loc} (hS : va_S A H0 H locs) (hz : H.size ≤ H1.size) (ho : ∀ q : Nat, q < H.size → H1[q]? = H[q]?) : va_S A H0 H1 locs :=
  ⟨Nat.le_trans hS.1 hz, fun x h1 h2 => (ho x (Nat.lt_of_lt_of_le h1 hS.1)).trans (hS.2.1 x h1 h2), hS.2.2⟩
theorem CW.push {G : Gx} {h n : Nat} {E E' : Nat → va_E} {H H1 : Heap} {e : va_E} (hC : CW G h n E H) (hz : H1.size = h + n + 1) (ho : ∀ q : Nat, q < h + n → H1[q]? = H[q]?) (he : va_at (G.2.2.2.1, G.2.2.2.2.1) vwCl (h + n, e) H1) (h1 : E' n = e) (h2 : ∀ o, o < n → E' o = E o) : CW G h (n + 1) E' H1 := by
  refine ⟨?_, by omega⟩
  rw [← wsC_push (E := E) (E' := E') h1 h2]
  refine (hC.1.kept (fun k x hx => ?_)).app (fun k x hx => ?_)
  · obtain ⟨hk, rfl⟩ := wsC_at hx
    exact ho _ (Nat.add_lt_add_left hk h)
  · have hz : k < 1 := (List.getElem?_eq_some_iff.mp hx).1
    rw [show k = 0 by omega] at hx
    cases hx
    exact he
theorem CW.at {G : Gx} {h n : Nat} {E : Nat → va_E} {H : Heap} (hC : CW G h n E H) {o : Nat} (ho : o < n) {e : va_E} (he : E o = e) : va_at (G.2.2.2.1, G.2.2.2.2.1) vwCl (h + o, e) H := by
  subst he
  exact hC.1 o _ (wsC_of ho)
theorem CW.put {G : Gx} {h n : Nat} {E E' : Nat → va_E} {H H1 : Heap} {o : Nat} {e : va_E} (hC : CW G h n E H) (ho : o < n) (hz : H1.size = H.size) (oq : ∀ q : Nat, q ≠ h + o → H1[q]? = H[q]?) (he : va_at (G.2.2.2.1, G.2.2.2.2.1) vwCl (h + o, e) H1) (h1 : E' o = e) (h2 : ∀ o', ¬ o' = o → E' o' = E o') : CW G h n E' H1 := by
  refine ⟨fun k x hx => ?_, by rw [hz]; exact hC.2⟩
  obtain ⟨hk, rfl⟩ := wsC_at hx
  by_cases c : k = o
  · subst c
    rw [h1]
    exact he
  · rw [h2 k c]
    exact (hC.1 k _ (wsC_of hk)).kept (oq _ (fun q => c (Nat.add_left_cancel q)))
theorem CW.congr {G : Gx} {h n : Nat} {E E' : Nat → va_E} {H : Heap} (hC : CW G h n E H) (he : ∀ o, o < n → va_at (G.2.2.2.1, G.2.2.2.2.1) vwCl (h + o, E o) H → va_at (G.2.2.2.1, G.2.2.2.2.1) vwCl (h + o, E' o) H) : CW G h n E' H := by
  refine ⟨fun k x hx => ?_, hC.2⟩
  obtain ⟨hk, rfl⟩ := wsC_at hx
  exact he k hk (hC.1 k _ (wsC_of hk))
/-- making an object: the words, and what a new one holds -/
def NL (own : String) (idx f : Nat) (fs : List Value) : Prop := ∃ (C : String) (T : u_T) (N : Nat) (ty0 : Nat → FieldType), vwCl[f]? = some (C, T, N) ∧ N = nfl f ∧ (∀ w ∈ u_ws C T N, w ∈ Tw) ∧ (∀ k, k < N → parseFieldDescriptor (T k).2.2.1 = some (ty0 k)) ∧ (∀ j, j < N → defaultValue (ty0 j) = vp_V fs j) ∧ Cond.classLink own idx C ∈ Tw ∧ Cond.instantiable C N ∈ Tw ∧ Cond.initialized C ∈ Tw
def rAt : MethodName := ⟨"[I", "clone", "()Ljava/lang/Object;"⟩
def rOb : MethodName := ⟨"java/lang/Object", "clone", "()Ljava/lang/Object;"⟩
/-- all that the tables say of clone -/
def CL (own : String) (idx : Nat) : Prop := Cond.methodLink own idx rAt ∈ Tw ∧ Cond.sameMethod "[I" "java/lang/Object" "clone" "()Ljava/lang/Object;" ∈ Tw ∧ Cond.native rOb ∈ Tw ∧ Cond.instanceMethod rOb ∈ Tw ∧ Cond.selects "[I" rAt rOb ∈ Tw ∧ Cond.castable "[I" "java/lang/Cloneable" ∈ nestWs
section TCh
variable {K : Kx} {cc : ByteArray} {own : String} {h ce sl pc : Nat} {ls lv' : List (Nat × Value)} {st rest : List Value} {n : Nat} {E E' : Nat → va_E}
theorem tc_eq {n' ce' sl' : Nat} (hn : n' = n) (hce : ce' = ce) (hsl : sl' = sl) (k : TC K h ce' sl' pc ls st n' E) : TC K h ce sl pc ls st n E := by
  subst hn; subst hce; subst hsl
  exact k
theorem tc_congr (he : ∀ o, o < n → E' o = E o) (k : TC K h ce sl pc ls st n E') : TC K h ce sl pc ls st n E := by
  obtain ⟨G, p, e, R, s, m, args, below, meth, c, cells, slots, nL, Q⟩ := K
  exact fun H lo hP hS la hh => k H lo (hP.congr fun o ho q => by rw [he o ho]; exact q) hS la hh
theorem tc_new (C : Cx K cc own) {idx f : Nat} {fs : List Value} (hN : NL own idx f fs) (hce : ce + 1 ≤ (Rof K).cells) (hsl : sl + nfl f ≤ (Rof K).slots) (hd : decode cc pc = .ok (.new idx, 3)) (h1 : E' n = .inr (f, fs)) (h2 : ∀ o, o < n → E' o = E o) (k : TC K h (ce + 1) (sl + nfl f) (pc + 3) ls (.ref (h + n) :: st) (n + 1) E') : TC K h ce sl pc ls st n E := by
  obtain ⟨G, p, e, R, s, m, args, below, meth, c, cells, slots, nL, Q⟩ := K
  obtain ⟨C1, T1, N1, ty0, hc, rfl, hin, hty, hfs, hcl, hi, hini⟩ := hN
  intro H lo hP hS la hh
  have hKn := C.2.2.2.2.2.1.2.1.1 f _ hc
  refine W.newcK C.1 C.2.1 C.2.2.2.1 (C.2.2.2.2.1 _ hcl) (C.2.2.2.2.1 _ hi) (C.2.2.2.2.1 _ hini) rfl hd hce hsl hKn.2.1 hP.2 fun H1 kC hkC e1 z1 o1 => ?_
  exact k H1 lo (hP.push z1 o1 (e := .inr (f, fs)) ⟨_, hc, (u_born ty0 C.2.2.2.2.1 hin hKn hkC e1 hty).to hfs⟩ h1 h2) (S_push hS (by rw [z1, hP.2]; omega) (fun q hq => o1 q (by rw [← hP.2]; exact hq))) la hh
theorem tc_newa (C : Cx K cc own) {atype : ArrayType} {ty : FieldType} {t0 N : Nat} {x : Int32} (hty : newarray.typeOf atype = ty) (harr : Cond.arrayClass ty ∈ Tw) (ht : ∀ cA, (tysO cA)[t0]? = some (cA t0, ty)) (hra : ∀ U cA, va_RA U cA ty → U.vm.findClass ("[" ++ ty.toString) = some cA) (hdef : defaultValue ty = .int 0)
    (hn : ¬ x < 0) (hN : x.toNatClampNeg = N) (hb : N * componentBytes ty ≤ 536870912) (hce : ce + 1 ≤ (Rof K).cells) (hsl : sl + N ≤ (Rof K).slots) (hd : decode cc pc = .ok (.newarray atype, 2)) (h1 : E' n = .inl (K.1.2.2.1 t0, N, .inl (fun _ => 0))) (h2 : ∀ o, o < n → E' o = E o) (k : TC K h (ce + 1) (sl + N) (pc + 2) ls (.ref (h + n) :: st) (n + 1) E') : TC K h ce sl pc ls (.int x :: st) n E := by
  obtain ⟨G, p, e, R, s, m, args, below, meth, c, cells, slots, nL, Q⟩ := K
  subst hty
  intro H lo hP hS la hh
  refine va_newaK C.1 C.2.1 (C.2.2.2.2.1 _ harr) rfl hd rfl hn hN hb hce hsl hP.2 fun H1 cA e1 z1 o1 hAr hNm => ?_
  have hcA : cA = G.2.2.1 t0 := Option.some.inj (hNm.symm.trans (hra _ _ (C.2.2.2.2.2.1.2.1.2 t0 _ (ht _)).2))
  subst hcA
  rw [hdef] at e1
  exact k H1 lo (hP.push z1 o1 (e := .inl (G.2.2.1 t0, N, .inl (fun _ => 0))) e1 h1 h2) (S_push hS (by rw [z1, hP.2]; omega) (fun q hq => o1 q (by rw [← hP.2]; exact hq))) la hh
theorem tc_anew (C : Cx K cc own) (Y : Yx K h) {idx t0 N : Nat} {x : Int32} {Cn : String} (hcl : Cond.classLink own idx Cn ∈ Tw) (hov : Cn ∈ AOs) (ht : ∀ cA, (tysO cA)[t0]? = some (cA t0, .object Cn))
    (hn : ¬ x < 0) (hN : x.toNatClampNeg = N) (hb : N * 4 ≤ 536870912) (hce : ce + 1 ≤ (Rof K).cells) (hsl : sl + N ≤ (Rof K).slots) (hd : decode cc pc = .ok (.anewarray idx, 3)) (h1 : E' n = .inl (K.1.2.2.1 t0, N, .inr (.inr (.inr (.inr (fun _ => none)))))) (h2 : ∀ o, o < n → E' o = E o) (k : TC K h (ce + 1) (sl + N) (pc + 3) ls (.ref (h + n) :: st) (n + 1) E') : TC K h ce sl pc ls (.int x :: st) n E := by
  obtain ⟨G, p, e, R, s, m, args, below, meth, c, cells, slots, nL, Q⟩ := K
  subst hN
  intro H lo hP hS la hh
  refine W.anew C.1 C.2.1 C.2.2.2.1 (C.2.2.2.2.1 _ hcl) (va_AO.use (Y.1.2 _ hov)) rfl hd rfl hn hb hce hsl fun cA kA comp g1 g2 g3 g4 => ?_
  obtain ⟨-, -, -, -, -, q4⟩ := (C.2.2.2.2.2.1.2.1.2 t0 _ (ht _)).2
  have hcA : cA = G.2.2.1 t0 := Option.some.inj (g1.symm.trans q4)
  subst hcA
  rw [arrV_new]
  generalize hH1 : H.push (arrV (G.2.2.1 t0) x.toNatClampNeg (fun _ => Value.null)) = H1
  have z1 : H1.size = h + n + 1 := by rw [← hH1, Array.size_push, hP.2]
  have e1 : H1[h + n]? = some (arrV (G.2.2.1 t0) x.toNatClampNeg (fun _ => Value.null)) := by rw [← hH1, ← hP.2, Array.getElem?_push_size]
  have o1 : ∀ q : Nat, q < h + n → H1[q]? = H[q]? := fun q hq => by rw [← hH1, Array.getElem?_push, if_neg (by rw [hP.2]; exact Nat.ne_of_lt hq)]
  rw [hP.2]
  exact k H1 lo (hP.push z1 o1 (e := .inl (G.2.2.1 t0, x.toNatClampNeg, .inr (.inr (.inr (.inr (fun _ => none)))))) e1 h1 h2) (S_push hS (by rw [z1, hP.2]; omega) (fun q hq => o1 q (by rw [← hP.2]; exact hq))) la hh
theorem tc_clone (C : Cx K cc own) (Y : Yx K h) {d : Nat} (hR : RmOk K d) {idx : Nat} (hL : CL own idx) (hce : ce + 1 ≤ (Rof K).cells) (hsl : sl + 17 ≤ (Rof K).slots) (hst : (st.map fun v => v.category).sum ≤ 8) (hd : decode cc pc = .ok (.invokevirtual idx, 3))
    (h1 : E' n = .inl (K.1.2.2.1 0, 17, .inl wpf)) (h2 : ∀ o, o < n → E' o = E o) (k : TC K h (ce + 1) (sl + 17) (pc + 3) ls (.ref (h + n) :: st) (n + 1) E') : TC K h ce sl pc ls (rv K wpr :: st) n E := by
  obtain ⟨G, p, e, R, s, m, args, below, meth, c, cells, slots, nL, Q⟩ := K
  have hR' : d + 1 ≤ R.frames ∧ 40 * d + 40 ≤ R.locals := hR
  obtain ⟨l1, l2, l3, l4, l5, l6⟩ := hL
  obtain ⟨⟨⟨cell, y1, y2⟩, -⟩, -⟩ := Y
  obtain ⟨scr, x1, x2, x3, x4, x5⟩ := C.2.2.2.2.2.1.2.2.2.2.1
  cases y1.symm.trans x1
  intro H lo hP hS la hh
  have hH : H[G.2.1 wpr]? = some cell := (hS.2.1 _ C.2.2.2.2.2.1.2.2.2.2.2.1 C.2.2.2.2.2.1.2.2.2.2.2.2).trans x1
  obtain ⟨c0, tt, f1, f2, f3⟩ := Cond.castable_spec (va_Nw.use (A := args) rfl (C.2.2.2.2.2.1.2.2.1 _ l6))
  cases y2.symm.trans f1
  have hcA : cell.cls = G.2.2.1 0 := Option.some.inj (y2.symm.trans (C.2.2.2.2.2.1.2.1.2 0 _ rfl).2)
  intro T hT X
  obtain ⟨-, kA, hkA, comp, hkind⟩ := State.isArrayOf_alike X.warmed.alike x2
  obtain ⟨hns, kS, hkS, compS, hkindS⟩ := x2
  obtain ⟨vm', X', stp⟩ := X.cloneArray C.1 C.2.2.2.1 (C.2.2.2.2.1 _ l1) (C.2.2.2.2.1 _ l2) (C.2.2.2.2.1 _ l3) (C.2.2.2.2.1 _ l4) (C.2.2.2.2.1 _ l5) (a := G.2.1 wpr) (cell := cell) (by rw [hT]; exact hH) hns x3 y2 f2 f3
    (fun i v hv => by
      have hi : i < 17 := by
        rw [← x4]
        exact (Array.getElem?_eq_some_iff.mp hv).1
      have hk' : T.vm.classes[cell.cls]? = some kA := hkA
      cases (x5 i hi).symm.trans hv
      simp [State.fitsSlot, State.slotType?, hk', hkind, fits])
    (g := F0 m pc la (.ref (G.2.1 wpr) :: st)) rfl (hh.1.trans C.2.2.1.symm) rfl (by rw [C.2.1]; exact hd) (by omega) (by show 2 * 0 + _ + 14 ≤ _; omega) hce (by rw [x4]; exact hsl) (hloader := Vm.clonesLoader_of_array hkS hkindS)
  have hE : ({ cls := cell.cls, slots := cell.slots } : Cell) = arrV (G.2.2.1 0) 17 (fun i => .int (wpf i)) := by
    rw [hcA]
    show _ = ({ cls := G.2.2.1 0, slots := Array.ofFn (n := 17) fun j => Value.int (wpf j.val), vm := .none } : Cell)
    have hs : cell.slots = Array.ofFn (n := 17) fun j => Value.int (wpf j.val) := by
      apply Array.ext
      · rw [x4, Array.size_ofFn]
      · intro i h1 h2
        have hi : i < 17 := by rw [← x4]; exact h1
        have := x5 i hi
        rw [Array.getElem?_eq_getElem h1] at this
        rw [Option.some.inj this]
        simp
    rw [hs]
  rw [hE, x4] at X'
  generalize hH1 : H.push (arrV (G.2.2.1 0) 17 (fun i => Value.int (wpf i))) = H1
  have z1 : H1.size = h + n + 1 := by rw [← hH1, Array.size_push, hP.2]
  have e1 : H1[h + n]? = some (arrV (G.2.2.1 0) 17 (fun i => Value.int (wpf i))) := by rw [← hH1, ← hP.2, Array.getElem?_push_size]
  have o1 : ∀ q : Nat, q < h + n → H1[q]? = H[q]? := fun q hq => by rw [← hH1, Array.getElem?_push, if_neg (by rw [hP.2]; exact Nat.ne_of_lt hq)]
  obtain ⟨t, b1, b2⟩ := k H1 lo (hP.push z1 o1 (e := .inl (G.2.2.1 0, 17, .inl wpf)) e1 h1 h2) (S_push hS (by rw [z1, hP.2]; omega) (fun q hq => o1 q (by rw [← hP.2]; exact hq))) la hh ((T.setVm vm').pushCell (arrV (G.2.2.1 0) 17 (fun i => Value.int (wpf i)))) (by rw [← hH1, ← hT]; rfl) X'
  refine ⟨t, stp t ?_, b2⟩
  rw [hE, hT, hP.2]
  exact b1
theorem tc_cast (C : Cx K cc own) {idx o : Nat} (hl : Cond.classLink own idx "[I" ∈ Tw) (ho : o < n) {x : vp_A} (he : E o = .inl (K.1.2.2.1 0, x)) (hd : decode cc pc = .ok (.checkcast idx, 3)) (k : TC K h ce sl (pc + 3) ls (.ref (h + o) :: st) n E) : TC K h ce sl pc ls (.ref (h + o) :: st) n E := by
  obtain ⟨G, p, e, R, s, m, args, below, meth, c, cells, slots, nL, Q⟩ := K
  exact fun H lo hP hS la hh => va_castA C.1 C.2.1 C.2.2.2.1 (C.2.2.2.2.1 _ hl) hP.1 o (by rw [wsC_of ho, he]) (C.2.2.2.2.2.1.2.1.2 0 _ rfl).2 hd (k H lo hP hS la hh)
theorem tc_gets (C : Cx K cc own) {idx : Nat} (hw : Cond.fieldLink own idx "ElevenCodes" "WITHOUT_PARTS" "[I" ∈ Tw) (hd : decode cc pc = .ok (.getstatic idx, 3)) (k : TC K h ce sl (pc + 3) ls (rv K wpr :: st) n E) : TC K h ce sl pc ls st n E := by
  obtain ⟨G, p, e, R, s, m, args, below, meth, c, cells, slots, nL, Q⟩ := K
  exact fun H lo hP hS la hh => va_gets C.1 C.2.1 C.2.2.2.2.2.1.2.2.2.1 hS C.2.2.2.1 (C.2.2.2.2.1 _ hw) (fun _ x => x) hd (k H lo hP hS la hh)
theorem tc_getsN (C : Cx K cc own) {idx : Nat} {host : String} (hw : Cond.fieldLinkNest own idx "ElevenCodes" "WITHOUT_PARTS" "[I" host ∈ nestWs) (hd : decode cc pc = .ok (.getstatic idx, 3)) (k : TC K h ce sl (pc + 3) ls (rv K wpr :: st) n E) : TC K h ce sl pc ls st n E := by
  obtain ⟨G, p, e, R, s, m, args, below, meth, c, cells, slots, nL, Q⟩ := K
  exact fun H lo hP hS la hh => va_getsN C.1 C.2.1 C.2.2.2.2.2.1.2.2.2.1 hS C.2.2.2.1 (va_Nw.use rfl (C.2.2.2.2.2.1.2.2.1 _ hw)) (fun _ x => x) hd (k H lo hP hS la hh)
theorem tc_getF (C : Cx K cc own) {idx f i o : Nat} {ty : FieldType} {fs : List Value} {v : Value} (hF : FL own idx f i ty) (ho : o < n) (he : E o = .inr (f, fs)) (hv : fs[i]? = some v) (hd : decode cc pc = .ok (.getfield idx, 3)) (k : TC K h ce sl (pc + 3) ls (v :: st) n E) : TC K h ce sl pc ls (.ref (h + o) :: st) n E := by
  obtain ⟨G, p, e, R, s, m, args, below, meth, c, cells, slots, nL, Q⟩ := K
  obtain ⟨q, hc, hk, hn, hin, -, -, -, hl⟩ := hF
  obtain ⟨C1, T1, N1⟩ := q
  intro H lo hP hS la hh
  have hz : (wsC h n E)[o]? = some (h + o, .inr (f, fs)) := by rw [wsC_of ho, he]
  rcases hl with hl | ⟨host, hl⟩
  · exact va_get C.1 C.2.1 C.2.2.2.2.1 hin C.2.2.2.1 C.2.2.2.2.2.1.2.1 hP.1 o hz hc i hk (C.2.2.2.2.1 _ hl) (fun _ x => x) hv hd (k H lo hP hS la hh)
  · exact va_getN C.1 C.2.1 C.2.2.2.2.1 hin C.2.2.2.1 C.2.2.2.2.2.1.2.1 hP.1 o hz hc i hk (va_Nw.use rfl (C.2.2.2.2.2.1.2.2.1 _ hl)) (fun _ x => x) hv hd (k H lo hP hS la hh)
theorem tc_alen (C : Cx K cc own) {o N : Nat} {f : Nat → Int32} {v : Int32} (ho : o < n) (he : E o = .inl (K.1.2.2.1 0, N, .inl f)) (hv : Int32.ofNat N = v) (hd : decode cc pc = .ok (.arraylength, 1)) (k : TC K h ce sl (pc + 1) ls (.int v :: st) n E) : TC K h ce sl pc ls (.ref (h + o) :: st) n E := by
  obtain ⟨G, p, e, R, s, m, args, below, meth, c, cells, slots, nL, Q⟩ := K
  exact fun H lo hP hS la hh => va_alen C.1 C.2.1 C.2.2.2.2.2.1.2.1 hP.1 o 0 (by rw [wsC_of ho, he]) rfl hv hd (k H lo hP hS la hh)
theorem tc_obj (C : Cx K cc own) {d : Nat} (hR : RmOk K d) {idx a : Nat} (h1 : Cond.methodLink own idx Lib.objectInit ∈ Tw) (h2 : Cond.instanceMethod Lib.objectInit ∈ Tw) (h3 : Cond.code Lib.objectInit ⟨#[0xb1]⟩ 1 none ∈ Tw) (hst : (st.map fun v => v.category).sum ≤ 8) (hd : decode cc pc = .ok (.invokespecial idx, 3)) (k : TC K h ce sl (pc + 3) ls st n E) : TC K h ce sl pc ls (.ref a :: st) n E := by
  obtain ⟨G, p, e, R, s, m, args, below, meth, c, cells, slots, nL, Q⟩ := K
  have hR' : d + 1 ≤ R.frames ∧ 40 * d + 40 ≤ R.locals := hR
  exact fun H lo hP hS la hh => W.objInit C.1 C.2.1 C.2.2.2.1 (C.2.2.2.2.1 _ h1) (C.2.2.2.2.1 _ h2) (C.2.2.2.2.1 _ h3) rfl (hh.1.trans C.2.2.1.symm) rfl hd (by omega) (by show 2 * 0 + _ + 12 ≤ _; omega) (k H lo hP hS la hh)
end TCh
