/-! WHAT THE PRINTED WITNESS MEETS, the other start meets: the words 'code' by one lemma (one class more behind the others hides no method), the rest by running them. -/
theorem zz_find {cs : Array Class} {k : Class} {p : Class → Bool} {i : Nat} (h : cs.findIdx? p = some i) : (cs.push k).findIdx? p = some i := by
  rw [Array.push_eq_append, Array.findIdx?_append, h]
  rfl
theorem zz_get {cs : Array Class} {k : Class} {i : Nat} {c : Class} (h : cs[i]? = some c) : (cs.push k)[i]? = some c := by
  have hi : i < cs.size := by
    rcases Nat.lt_or_ge i cs.size with h1 | h1
    · exact h1
    · rw [Array.getElem?_eq_none h1] at h
      cases h
  rw [Array.getElem?_push_lt hi, ← h, Array.getElem?_eq_getElem hi]
theorem zz_named {s t : State} {k : Class} (e : t.vm.classes = s.vm.classes.push k) {x : MethodName} {m : MethodId} (h : s.methodNamed? x = some m) : t.methodNamed? x = some m := by
  simp only [State.methodNamed?, Option.bind_eq_bind, Option.bind_eq_some_iff] at h ⊢
  obtain ⟨c, h1, d, h2, h3⟩ := h
  refine ⟨c, ?_, d, ?_, h3⟩
  · unfold Vm.findClass at h1 ⊢
    rw [e]
    exact zz_find h1
  · rw [e]
    exact zz_get h2
theorem zz_method {s t : State} {k : Class} (e : t.vm.classes = s.vm.classes.push k) {m : MethodId} {r : Method} (h : s.vm.method? m = some r) : t.vm.method? m = some r := by
  simp only [Vm.method?, Option.bind_eq_bind, Option.bind_eq_some_iff] at h ⊢
  obtain ⟨c, h1, h2⟩ := h
  refine ⟨c, ?_, h2⟩
  rw [e]
  exact zz_get h1
theorem zz_code {s t : State} {k : Class} (e : t.vm.classes = s.vm.classes.push k) {a : Array Value} {x : MethodName} {b : ByteArray} {n : Nat} {r : Option FieldType}
    (h : (Cond.code x b n r).before a s = true) : (Cond.code x b n r).before a t = true := by
  simp only [Cond.before, Cond.holds, Cond.value, beq_iff_eq, Option.map_eq_some_iff, Option.bind_eq_some_iff] at h ⊢
  obtain ⟨w, ⟨m, h1, h2⟩, h3⟩ := h
  exact ⟨w, ⟨m, zz_named e h1, zz_method e h2⟩, h3⟩
theorem zz_vm {s t : State} {k : Class} (e : t.vm.classes = s.vm.classes.push k) {x : String} {c : ClassId} (h : s.vm.findClass x = some c) : t.vm.findClass x = some c := by
  unfold Vm.findClass at h ⊢
  rw [e]
  exact zz_find h
def zzq : Cond → Bool
  | .code .. => true
  | .instanceMethod _ => true
  | .privateMethod _ => true
  | .static _ => true
  | .soleField _ _ => true
  | .initialized _ => true
  | .instantiable _ _ => true
  | _ => false
theorem zz_meth {s t : State} {k : Class} (e : t.vm.classes = s.vm.classes.push k) {x : MethodName} {f : Method → Bool} (h : ((s.methodNamed? x).bind s.vm.method?).map f = some true) : ((t.methodNamed? x).bind t.vm.method?).map f = some true := by
  simp only [Option.map_eq_some_iff, Option.bind_eq_some_iff] at h ⊢
  obtain ⟨w, ⟨m, h1, h2⟩, h3⟩ := h
  exact ⟨w, ⟨m, zz_named e h1, zz_method e h2⟩, h3⟩
theorem zz_cls {s t : State} {k : Class} (e : t.vm.classes = s.vm.classes.push k) {x : String} {f : Class → Bool} (h : ((s.vm.findClass x).bind (s.vm.classes[·]?)).map f = some true) : ((t.vm.findClass x).bind (t.vm.classes[·]?)).map f = some true := by
  simp only [Option.map_eq_some_iff, Option.bind_eq_some_iff] at h ⊢
  obtain ⟨w, ⟨m, h1, h2⟩, h3⟩ := h
  exact ⟨w, ⟨m, zz_vm e h1, by rw [e]; exact zz_get h2⟩, h3⟩
theorem zz_word {s t : State} {k : Class} (e : t.vm.classes = s.vm.classes.push k) {a : Array Value} {c : Cond} (hc : zzq c = true) (h : c.before a s = true) : c.before a t = true := by
  cases c with
  | code => exact zz_code e h
  | instanceMethod x => exact beq_iff_eq.mpr (zz_meth e (beq_iff_eq.mp h))
  | privateMethod x => exact beq_iff_eq.mpr (zz_meth e (beq_iff_eq.mp h))
  | static x => exact beq_iff_eq.mpr (zz_meth e (beq_iff_eq.mp h))
  | initialized x => exact beq_iff_eq.mpr (zz_cls e (beq_iff_eq.mp h))
  | instantiable x n => exact beq_iff_eq.mpr (zz_cls e (beq_iff_eq.mp h))
  | soleField x n =>
    have h1 := beq_iff_eq.mp h
    refine beq_iff_eq.mpr ?_
    simp only [Cond.value, Option.map_eq_some_iff, Option.bind_eq_some_iff] at h1 ⊢
    obtain ⟨c, h1, d, h2, h3⟩ := h1
    exact ⟨c, zz_vm e h1, d, by rw [e]; exact zz_get h2, h3⟩
  | _ => cases hc
theorem zz_e : zz1.about.vm.classes = start1.about.vm.classes.push zzS := rfl
def zzp (c : Cond) : Bool := zzq c || c.before start1.args0 zz1.about
theorem zz_cut {p : Cond → Bool} {n : Nat} {l : List Cond} (h1 : (l.take n).all p = true) (h2 : (l.drop n).all p = true) : l.all p = true := by
  rw [← List.take_append_drop n l, List.all_append, h1, h2]
  rfl
theorem zz_app {p : Cond → Bool} {l m : List Cond} (h1 : l.all p = true) (h2 : m.all p = true) : (l ++ m).all p = true := by
  rw [List.all_append, h1, h2]
  rfl
theorem zz_cons {y : MethodName} {b : ByteArray} {n : Nat} {r : Option FieldType} {l : List Cond} (h : l.all zzp = true) : (Cond.code y b n r :: l).all zzp = true := by
  rw [List.all_cons, h]
  rfl
theorem zz_words {l : List Cond} (h1 : ∀ c ∈ l, c.before start1.args0 start1.about = true) (h2 : l.all zzp = true) : ∀ c ∈ l, c.before start1.args0 zz1.about = true := by
  intro c hc
  have h : (zzq c || c.before start1.args0 zz1.about) = true := List.all_eq_true.mp h2 c hc
  cases hq : zzq c with
  | true => exact zz_word zz_e hq (h1 c hc)
  | false => simpa [hq] using h
