/-! WHAT THE PRINTED WITNESS MEETS, the other start meets: one class more behind the others hides no class, no method, no field: most words go over by a lemma; of a link it is run that both starts find the same member; the rest is run. -/
theorem zz_find {cs : Array Class} {k : Class} {p : Class → Bool} {i : Nat} (h : cs.findIdx? p = some i) : (cs.push k).findIdx? p = some i := by
  rw [Array.push_eq_append, Array.findIdx?_append, h]
  rfl
theorem zz_get {cs : Array Class} {k : Class} {i : Nat} {c : Class} (h : cs[i]? = some c) : (cs.push k)[i]? = some c := by
  have hi : i < cs.size := by
    rcases Nat.lt_or_ge i cs.size with h1 | h1
    · exact h1
    · rw [Array.getElem?_eq_none h1] at h
      cases h
  rw [Array.getElem?_push_lt hi, ← h, Array.getElem?_eq_getElem hi]
theorem zz_named {s t : State} {k : Class} (e : t.vm.classes = s.vm.classes.push k) {x : MethodName} {m : MethodId} (h : s.methodNamed? x = some m) : t.methodNamed? x = some m := by
  simp only [State.methodNamed?, Option.bind_eq_bind, Option.bind_eq_some_iff] at h ⊢
  obtain ⟨c, h1, d, h2, h3⟩ := h
  refine ⟨c, ?_, d, ?_, h3⟩
  · unfold Vm.findClass at h1 ⊢
    rw [e]
    exact zz_find h1
  · rw [e]
    exact zz_get h2
theorem zz_method {s t : State} {k : Class} (e : t.vm.classes = s.vm.classes.push k) {m : MethodId} {r : Method} (h : s.vm.method? m = some r) : t.vm.method? m = some r := by
  simp only [Vm.method?, Option.bind_eq_bind, Option.bind_eq_some_iff] at h ⊢
  obtain ⟨c, h1, h2⟩ := h
  refine ⟨c, ?_, h2⟩
  rw [e]
  exact zz_get h1
theorem zz_code {s t : State} {k : Class} (e : t.vm.classes = s.vm.classes.push k) {a : Array Value} {x : MethodName} {b : ByteArray} {n : Nat} {r : Option FieldType}
    (h : (Cond.code x b n r).before a s = true) : (Cond.code x b n r).before a t = true := by
  simp only [Cond.before, Cond.holds, Cond.value, beq_iff_eq, Option.map_eq_some_iff, Option.bind_eq_some_iff] at h ⊢
  obtain ⟨w, ⟨m, h1, h2⟩, h3⟩ := h
  exact ⟨w, ⟨m, zz_named e h1, zz_method e h2⟩, h3⟩
theorem zz_vm {s t : State} {k : Class} (e : t.vm.classes = s.vm.classes.push k) {x : String} {c : ClassId} (h : s.vm.findClass x = some c) : t.vm.findClass x = some c := by
  unfold Vm.findClass at h ⊢
  rw [e]
  exact zz_find h
def zzq : Cond → Bool
  | .code .. => true
  | .instanceMethod _ => true
  | .privateMethod _ => true
  | .static _ => true
  | .soleField _ _ => true
  | .initialized _ => true
  | .instantiable _ _ => true
  | _ => false
theorem zz_meth {s t : State} {k : Class} (e : t.vm.classes = s.vm.classes.push k) {x : MethodName} {f : Method → Bool} (h : ((s.methodNamed? x).bind s.vm.method?).map f = some true) : ((t.methodNamed? x).bind t.vm.method?).map f = some true := by
  simp only [Option.map_eq_some_iff, Option.bind_eq_some_iff] at h ⊢
  obtain ⟨w, ⟨m, h1, h2⟩, h3⟩ := h
  exact ⟨w, ⟨m, zz_named e h1, zz_method e h2⟩, h3⟩
theorem zz_cls {s t : State} {k : Class} (e : t.vm.classes = s.vm.classes.push k) {x : String} {f : Class → Bool} (h : ((s.vm.findClass x).bind (s.vm.classes[·]?)).map f = some true) : ((t.vm.findClass x).bind (t.vm.classes[·]?)).map f = some true := by
  simp only [Option.map_eq_some_iff, Option.bind_eq_some_iff] at h ⊢
  obtain ⟨w, ⟨m, h1, h2⟩, h3⟩ := h
  exact ⟨w, ⟨m, zz_vm e h1, by rw [e]; exact zz_get h2⟩, h3⟩
theorem zz_word {s t : State} {k : Class} (e : t.vm.classes = s.vm.classes.push k) {a : Array Value} {c : Cond} (hc : zzq c = true) (h : c.before a s = true) : c.before a t = true := by
  cases c with
  | code => exact zz_code e h
  | instanceMethod x => exact beq_iff_eq.mpr (zz_meth e (beq_iff_eq.mp h))
  | privateMethod x => exact beq_iff_eq.mpr (zz_meth e (beq_iff_eq.mp h))
  | static x => exact beq_iff_eq.mpr (zz_meth e (beq_iff_eq.mp h))
  | initialized x => exact beq_iff_eq.mpr (zz_cls e (beq_iff_eq.mp h))
  | instantiable x n => exact beq_iff_eq.mpr (zz_cls e (beq_iff_eq.mp h))
  | soleField x n =>
    have h1 := beq_iff_eq.mp h
    refine beq_iff_eq.mpr ?_
    simp only [Cond.value, Option.map_eq_some_iff, Option.bind_eq_some_iff] at h1 ⊢
    obtain ⟨c, h1, d, h2, h3⟩ := h1
    exact ⟨c, zz_vm e h1, d, by rw [e]; exact zz_get h2, h3⟩
  | _ => cases hc
theorem zz_e : zz1.about.vm.classes = start1.about.vm.classes.push zzS := rfl
theorem zz_below {v : Vm} {k : Class} : ∀ {f g : Nat} {c : Option ClassId}, f ≤ g → v.belowMagic f c = true → ({ v with classes := v.classes.push k } : Vm).belowMagic g c = true := by
  intro f
  induction f with
  | zero => intro g c hg h; simp [Vm.belowMagic] at h
  | succ f ih =>
    intro g c hg h
    obtain ⟨g, rfl⟩ : ∃ m, g = m + 1 := ⟨g - 1, by omega⟩
    cases c with
    | none => simp [Vm.belowMagic] at h
    | some c =>
      simp only [Vm.belowMagic, Option.any_eq_true, Bool.or_eq_true] at h ⊢
      obtain ⟨q, h1, h2⟩ := h
      refine ⟨q, zz_get h1, ?_⟩
      rcases h2 with h2 | h2
      · exact Or.inl h2
      · exact Or.inr (ih (by omega) h2)
theorem zz_sub {v : Vm} {k : Class} : ∀ {f g : Nat} {a b : ClassId}, f ≤ g → v.isSubclassAux f a b = true → ({ v with classes := v.classes.push k } : Vm).isSubclassAux g a b = true := by
  intro f
  induction f with
  | zero => intro g a b hg h; simp [Vm.isSubclassAux] at h
  | succ f ih =>
    intro g a b hg h
    obtain ⟨g, rfl⟩ : ∃ m, g = m + 1 := ⟨g - 1, by omega⟩
    simp only [Vm.isSubclassAux, Bool.or_eq_true] at h ⊢
    rcases h with h | h
    · exact Or.inl h
    · right
      split at h
      · next q hq =>
        rw [show ((v.classes.push k)[a]?) = some q from zz_get hq]
        split at h
        · next p hp =>
          simp only [hp]
          exact ih (by omega) h
        · cases h
      · cases h
theorem zz_isSub {v : Vm} {k : Class} {a b : ClassId} (h : v.isSubclass a b = true) : ({ v with classes := v.classes.push k } : Vm).isSubclass a b = true :=
  zz_sub (by simp) h
theorem zz_plain {v : Vm} {k : Class} {fl : Nat} {c t d : ClassId} {ck dk : Class} (h : plainAccess v fl c ck t d dk = true) : plainAccess { v with classes := v.classes.push k } fl c ck t d dk = true := by
  simp only [plainAccess, Bool.or_eq_true, Bool.and_eq_true] at h ⊢
  rcases h with h | ⟨⟨h1, h2⟩, h3⟩
  · exact Or.inl h
  · refine Or.inr ⟨⟨h1, zz_isSub h2⟩, ?_⟩
    rcases h3 with (h3 | h3) | h3
    · exact Or.inl (Or.inl h3)
    · exact Or.inl (Or.inr (zz_isSub h3))
    · exact Or.inr (zz_isSub h3)
theorem zz_acc {v : Vm} {k : Class} {p : Platform} {c d : Class} (h : v.classAccessible p c d = true) : ({ v with classes := v.classes.push k } : Vm).classAccessible p c d = true := by
  simp only [Vm.classAccessible, Bool.or_eq_true, Bool.and_eq_true] at h ⊢
  rcases h with h | ⟨h1, h2⟩
  · left
    rcases h with h | ⟨h1, h2⟩
    · exact Or.inl h
    · exact Or.inr ⟨h1, h2⟩
  · refine Or.inr ⟨h1, ?_⟩
    simp only [Vm.magic, Bool.or_eq_true] at h2 ⊢
    rcases h2 with h2 | h2
    · exact Or.inl h2
    · exact Or.inr (zz_below (by simp) h2)
theorem zz_pool {s t : State} {k : Class} (e : t.vm.classes = s.vm.classes.push k) {n : String} {p : ConstantPool} (h : s.poolOf? n = some p) : t.poolOf? n = some p := by
  simp only [State.poolOf?, Option.bind_eq_bind, Option.bind_eq_some_iff] at h ⊢
  obtain ⟨b, h1, c, h2, h3⟩ := h
  exact ⟨b, zz_vm e h1, c, by rw [e]; exact zz_get h2, h3⟩
theorem zz_names {s t : State} {k : Class} (e : t.vm.classes = s.vm.classes.push k) {n : String} {i : Nat} {w : Names} (h : s.names n i w = true) : t.names n i w = true := by
  simp only [State.names, decide_eq_true_eq, Option.bind_eq_some_iff] at h ⊢
  obtain ⟨p, h1, h2⟩ := h
  exact ⟨p, zz_pool e h1, h2⟩
theorem zz_open {s t : State} {k : Class} (e : t.vm.classes = s.vm.classes.push k) {n : String} {i : Nat} {r : Resolved} (h : s.openOr n i r = true) : t.openOr n i r = true := by
  unfold State.openOr at h ⊢
  have key : ∀ x, ((s.vm.findClass n).bind (s.vm.classes[·]?)).bind (·.resolved[i]?) = some x → ((t.vm.findClass n).bind (t.vm.classes[·]?)).bind (·.resolved[i]?) = some x := by
    intro x hx
    simp only [Option.bind_eq_some_iff] at hx ⊢
    obtain ⟨c, ⟨a, h1, h2⟩, h3⟩ := hx
    exact ⟨c, ⟨a, zz_vm e h1, by rw [e]; exact zz_get h2⟩, h3⟩
  split at h
  · next q => rw [key _ q]
  · next q => rw [key _ q]; exact h
  · cases h
theorem zz_entry {s t : State} {k : Class} (e : t.vm.classes = s.vm.classes.push k) {n : String} {i : Nat} {r : Nat × Bool} (h : s.memberEntry? n i = some r) : t.memberEntry? n i = some r := by
  simp only [State.memberEntry?, Option.bind_eq_bind, Option.bind_eq_some_iff] at h ⊢
  obtain ⟨p, h1, h2⟩ := h
  exact ⟨p, zz_pool e h1, h2⟩
theorem zz_links {s t : State} {k : Class} (e : t.vm = { s.vm with classes := s.vm.classes.push k }) {n m : String} {i : Nat} (h : s.classLinks n i m = some true) : t.classLinks n i m = some true := by
  have e' : t.vm.classes = s.vm.classes.push k := by rw [e]
  unfold State.classLinks at h ⊢
  split at h
  · next d c h1 h2 =>
    rw [zz_vm e' h1, zz_vm e' h2]
    simp only [Option.bind_eq_bind, Option.bind_eq_some_iff] at h ⊢
    obtain ⟨dk, h3, ck, h4, h5⟩ := h
    refine ⟨dk, by rw [e']; exact zz_get h3, ck, by rw [e']; exact zz_get h4, ?_⟩
    have h6 := Option.some.inj h5
    simp only [Bool.and_eq_true] at h6
    obtain ⟨⟨h7, h8⟩, h9⟩ := h6
    rw [zz_names e' h7, zz_open e' h8, e, zz_acc h9]
    rfl
  · cases h
theorem zz_mlink {s t : State} {k : Class} (e : t.vm = { s.vm with classes := s.vm.classes.push k }) {a : Array Value} {n : String} {i : Nat} {x : MethodName}
    (hm : t.methodFound? x.cls x.name x.desc = s.methodFound? x.cls x.name x.desc) (h : (Cond.methodLink n i x).before a s = true) : (Cond.methodLink n i x).before a t = true := by
  have e' : t.vm.classes = s.vm.classes.push k := by rw [e]
  have h1 := beq_iff_eq.mp h
  refine beq_iff_eq.mpr ?_
  simp only [Cond.value] at h1 ⊢
  split at h1
  · next ci vi d c m q1 q2 q3 q4 =>
    rw [zz_entry e' q1, zz_vm e' q2, zz_vm e' q3, hm, q4]
    simp only [Option.bind_eq_bind, Option.bind_eq_some_iff] at h1 ⊢
    obtain ⟨l, hl, dk, hd, ck, hc, mk, hk, me, hme, hh⟩ := h1
    have h6 := Option.some.inj hh
    simp only [Bool.and_eq_true] at h6
    obtain ⟨⟨⟨⟨⟨⟨⟨rfl, g1⟩, g2⟩, g3⟩, g4⟩, g5⟩, g6⟩, g7⟩ := h6
    refine ⟨true, zz_links e hl, dk, by rw [e']; exact zz_get hd, ck, by rw [e']; exact zz_get hc, mk, by rw [e']; exact zz_get hk, me, zz_method e' hme, ?_⟩
    have g8 : (plainAccess t.vm me.accessFlags m.cls mk c d dk || (ck.isArray && x.name == "clone" && m.cls != c)) = true := by
      simp only [Bool.or_eq_true] at g7 ⊢
      rcases g7 with g7 | g7
      · left
        rw [e]
        exact zz_plain g7
      · exact Or.inr g7
    rw [zz_names e' g1, zz_open e' g2, g3, g4, g5, g6, g8]
    rfl
  · cases h1
theorem zz_field {s t : State} {k : Class} (e' : t.vm.classes = s.vm.classes.push k) {r x y : String} {c : ClassId} {q : Class} {j : Nat} {f : Field}
    (hm : (t.fieldFound? r x y).map (fun q => (q.1, q.2.2.1)) = (s.fieldFound? r x y).map (fun q => (q.1, q.2.2.1))) (q3 : s.fieldFound? r x y = some (c, q, j, f)) : t.fieldFound? r x y = some (c, q, j, f) := by
  rw [q3] at hm
  simp only [Option.map_some, Option.map_eq_some_iff] at hm
  obtain ⟨⟨c1, k1, j1, f1⟩, w1, w2⟩ := hm
  simp only [Prod.mk.injEq] at w2
  obtain ⟨rfl, rfl⟩ := w2
  rw [w1]
  simp only [State.fieldFound?, Option.bind_eq_bind, Option.bind_eq_some_iff, Option.pure_def, Option.some.injEq, Prod.mk.injEq, Prod.exists] at q3 w1
  obtain ⟨z1, -, z2, -, z3, z4, -, z5, z6, z7, z8, rfl, rfl, rfl, rfl⟩ := q3
  obtain ⟨y1, -, y2, -, y3, y4, -, y5, y6, y7, y8, rfl, rfl, rfl, rfl⟩ := w1
  rw [e', zz_get z6] at y6
  obtain rfl := Option.some.inj y6
  rw [z8] at y8
  obtain rfl := Option.some.inj y8
  rfl
theorem zz_flink {s t : State} {k : Class} (e : t.vm = { s.vm with classes := s.vm.classes.push k }) {a : Array Value} {n : String} {i : Nat} {r x y : String}
    (hm : (t.fieldFound? r x y).map (fun q => (q.1, q.2.2.1)) = (s.fieldFound? r x y).map (fun q => (q.1, q.2.2.1))) (h : (Cond.fieldLink n i r x y).before a s = true) : (Cond.fieldLink n i r x y).before a t = true := by
  have e' : t.vm.classes = s.vm.classes.push k := by rw [e]
  have h1 := beq_iff_eq.mp h
  refine beq_iff_eq.mpr ?_
  simp only [Cond.value] at h1 ⊢
  split at h1
  · next ci vi d c q j f u q1 q2 q3 q4 =>
    rw [zz_entry e' q1, zz_vm e' q2, zz_field e' hm q3, zz_vm e' q4]
    simp only [Option.bind_eq_bind, Option.bind_eq_some_iff] at h1 ⊢
    obtain ⟨l, hl, dk, hd, hh⟩ := h1
    have h6 := Option.some.inj hh
    simp only [Bool.and_eq_true] at h6
    obtain ⟨⟨⟨⟨rfl, g1⟩, g2⟩, g3⟩, g4⟩ := h6
    refine ⟨true, zz_links e hl, dk, by rw [e']; exact zz_get hd, ?_⟩
    rw [zz_names e' g1, zz_open e' g2, g3, e, zz_plain g4]
    rfl
  · cases h1
theorem zz_host {v : Vm} {k : Class} {m h : ClassId} (q : v.hostNow? m = some h) : ({ v with classes := v.classes.push k } : Vm).hostNow? m = some h := by
  simp only [Vm.hostNow?, Option.bind_eq_bind, Option.bind_eq_some_iff] at q ⊢
  obtain ⟨c, h1, h2⟩ := q
  refine ⟨c, zz_get h1, ?_⟩
  split at h2
  · cases h2
  · next hn =>
    rw [if_neg hn]
    split at h2
    · exact h2
    · simp only [Option.bind_eq_some_iff] at h2 ⊢
      obtain ⟨cf, h3, h4⟩ := h2
      refine ⟨cf, h3, ?_⟩
      split at h4
      · exact h4
      · split at h4
        · cases h4
        · cases h4
        · simp only [Option.bind_eq_some_iff] at h4 ⊢
          obtain ⟨nm, h5, y, h6, hk, h7, h8⟩ := h4
          have h9 : ({ v with classes := v.classes.push k } : Vm).findClass nm = some y := by
            unfold Vm.findClass at h6 ⊢
            exact zz_find h6
          exact ⟨nm, h5, y, h9, hk, zz_get h7, h8⟩
theorem zz_mnest {s t : State} {k : Class} (e : t.vm = { s.vm with classes := s.vm.classes.push k }) {a : Array Value} {n o : String} {i : Nat} {x : MethodName}
    (hm : t.methodFound? x.cls x.name x.desc = s.methodFound? x.cls x.name x.desc) (h : (Cond.methodLinkNest n i x o).before a s = true) : (Cond.methodLinkNest n i x o).before a t = true := by
  have e' : t.vm.classes = s.vm.classes.push k := by rw [e]
  have h1 := beq_iff_eq.mp h
  refine beq_iff_eq.mpr ?_
  simp only [Cond.value] at h1 ⊢
  split at h1
  · next ci vi d c m u q1 q2 q3 q4 q5 =>
    rw [zz_entry e' q1, zz_vm e' q2, zz_vm e' q3, hm, q4, zz_vm e' q5]
    simp only [Option.bind_eq_bind, Option.bind_eq_some_iff] at h1 ⊢
    obtain ⟨l, hl, ck, hc, mk, hk, me, hme, hh⟩ := h1
    split at hh
    · next h6 =>
      split at hh
      · next h7 =>
        simp only [Bool.and_eq_true, beq_iff_eq] at h7
        simp only [Bool.and_eq_true] at h6
        obtain ⟨⟨⟨⟨⟨⟨⟨⟨⟨⟨rfl, g1⟩, g2⟩, g3⟩, g4⟩, g5⟩, g6⟩, g7⟩, g8⟩, g9⟩, g10⟩ := h6
        refine ⟨true, zz_links e hl, ck, by rw [e']; exact zz_get hc, mk, by rw [e']; exact zz_get hk, me, zz_method e' hme, ?_⟩
        rw [zz_names e' g1, zz_open e' g2, g3, g4, g5, g6, g7, g8, g9, g10, e, zz_host h7.1, zz_host h7.2]
        simp
      · cases hh
    · cases hh
  · cases h1
theorem zz_fnest {s t : State} {k : Class} (e : t.vm = { s.vm with classes := s.vm.classes.push k }) {a : Array Value} {n o : String} {i : Nat} {r x y : String}
    (hm : (t.fieldFound? r x y).map (fun q => (q.1, q.2.2.1)) = (s.fieldFound? r x y).map (fun q => (q.1, q.2.2.1))) (h : (Cond.fieldLinkNest n i r x y o).before a s = true) : (Cond.fieldLinkNest n i r x y o).before a t = true := by
  have e' : t.vm.classes = s.vm.classes.push k := by rw [e]
  have h1 := beq_iff_eq.mp h
  refine beq_iff_eq.mpr ?_
  simp only [Cond.value] at h1 ⊢
  split at h1
  · next ci vi d c q j f u1 u q1 q2 q3 q4 q5 =>
    rw [zz_entry e' q1, zz_vm e' q2, zz_field e' hm q3, zz_vm e' q4, zz_vm e' q5]
    simp only [Option.bind_eq_bind, Option.bind_eq_some_iff] at h1 ⊢
    obtain ⟨l, hl, hh⟩ := h1
    split at hh
    · next h6 =>
      split at hh
      · next h7 =>
        simp only [Bool.and_eq_true, beq_iff_eq] at h7
        simp only [Bool.and_eq_true] at h6
        obtain ⟨⟨⟨⟨⟨⟨⟨rfl, g1⟩, g2⟩, g3⟩, g4⟩, g5⟩, g6⟩, g7⟩ := h6
        refine ⟨true, zz_links e hl, ?_⟩
        rw [zz_names e' g1, zz_open e' g2, g3, g4, g5, g6, g7, e, zz_host h7.1, zz_host h7.2]
        simp
      · cases hh
    · cases hh
  · cases h1
theorem zz_E : zz1.about.vm = { start1.about.vm with classes := start1.about.vm.classes.push zzS } := rfl
def zzp : Cond → Bool
  | .methodLink _ _ x => decide (zz1.about.methodFound? x.cls x.name x.desc = start1.about.methodFound? x.cls x.name x.desc)
  | .methodLinkNest _ _ x _ => decide (zz1.about.methodFound? x.cls x.name x.desc = start1.about.methodFound? x.cls x.name x.desc)
  | .fieldLink _ _ r x y => decide ((zz1.about.fieldFound? r x y).map (fun q => (q.1, q.2.2.1)) = (start1.about.fieldFound? r x y).map (fun q => (q.1, q.2.2.1)))
  | .fieldLinkNest _ _ r x y _ => decide ((zz1.about.fieldFound? r x y).map (fun q => (q.1, q.2.2.1)) = (start1.about.fieldFound? r x y).map (fun q => (q.1, q.2.2.1)))
  | c => zzq c || c.before start1.args0 zz1.about
theorem zz_cut {p : Cond → Bool} {n : Nat} {l : List Cond} (h1 : (l.take n).all p = true) (h2 : (l.drop n).all p = true) : l.all p = true := by
  rw [← List.take_append_drop n l, List.all_append, h1, h2]
  rfl
theorem zz_app {p : Cond → Bool} {l m : List Cond} (h1 : l.all p = true) (h2 : m.all p = true) : (l ++ m).all p = true := by
  rw [List.all_append, h1, h2]
  rfl
theorem zz_cons {y : MethodName} {b : ByteArray} {n : Nat} {r : Option FieldType} {l : List Cond} (h : l.all zzp = true) : (Cond.code y b n r :: l).all zzp = true := by
  rw [List.all_cons, h]
  rfl
theorem zz_words {l : List Cond} (h1 : ∀ c ∈ l, c.before start1.args0 start1.about = true) (h2 : l.all zzp = true) : ∀ c ∈ l, c.before start1.args0 zz1.about = true := by
  intro c hc
  have h : zzp c = true := List.all_eq_true.mp h2 c hc
  have h0 := h1 c hc
  unfold zzp at h
  split at h
  · exact zz_mlink zz_E (decide_eq_true_eq.mp h) h0
  · exact zz_mnest zz_E (decide_eq_true_eq.mp h) h0
  · exact zz_flink zz_E (decide_eq_true_eq.mp h) h0
  · exact zz_fnest zz_E (decide_eq_true_eq.mp h) h0
  · cases hq : zzq c with
    | true => exact zz_word zz_e hq h0
    | false => simpa [hq] using h
