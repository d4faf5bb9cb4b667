section
/-! ANOTHER START: all that the premises say holds, but the array that the class's static row holds is of a class of its own (kind: array of int), which is not the class called "[I": the premises name its kind, its length and what it holds, never its class. This one has a method clone of its own, which throws: the law ends with that throw. -/
def zzM : Method := Lib.HandJ.method "clone" "()Ljava/lang/Object;" [] (some (.object "java/lang/Object")) 0x1 1 ⟨#[0x2a, 0xbf]⟩
def zzS : Class := { start1.cArr "[I" 17 .int with interfaces := #[16], methods := #[zzM] }
def zz1.about : State := { start1.about with vm := { start1.about.vm with classes := start1.about.vm.classes.push zzS }, heap := start1.about.heap.modify 2 (fun c => { c with cls := 27 }) }
def zz1.args0 : Array Value := start1.args0
def zzE : List Frame → Bool
  | [.throwing a, .native f] => decide (a = 2) && decide (f.method = ⟨0, 0⟩) && decide (f.args.size = 0) && decide (f.stage = 0) && decide (f.saved.size = 0) && !f.awaiting && f.answer.isNone && f.locked.isNone && decide (f.words = 0)
  | _ => false
theorem zzE_eq {fs : List Frame} (h : zzE fs = true) : fs = .throwing 2 :: Lib.HandBits.below0 := by
  unfold zzE at h
  split at h
  · next a f =>
    obtain ⟨m, as, st, sv, aw, an, lk, wd⟩ := f
    simp only [Bool.and_eq_true, decide_eq_true_eq, Bool.not_eq_true', Option.isNone_iff_eq_none] at h
    obtain ⟨⟨⟨⟨⟨⟨⟨⟨h1, h2⟩, h3⟩, h4⟩, h5⟩, h6⟩, h7⟩, h8⟩, h9⟩ := h
    subst h1 h2 h4 h6 h7 h8 h9
    rw [Array.eq_empty_of_size_eq_zero h3, Array.eq_empty_of_size_eq_zero h5]
    rfl
  · cases h
def zzg : List Frame → Bool
  | [] => false
  | [_] => false
  | [.throwing _, _] => false
  | _ => true
theorem zz_e31 : zzE (stepsAlone start1.p0.tables start1.e0 31 zz1.about).frames = true := by decide +kernel
theorem zz_r31 : (stepsAlone start1.p0.tables start1.e0 31 zz1.about).status = .running := by decide +kernel
theorem zz_g : (List.range 31).all (fun n => zzg (stepsAlone start1.p0.tables start1.e0 n zz1.about).frames) = true := by decide +kernel
theorem zz_control : (stepsAlone start1.p0.tables start1.e0 31 start1.about).status = .running := by decide +kernel
theorem zz_controlG : (List.range 100).all (fun n => zzg (stepsAlone start1.p0.tables start1.e0 n start1.about).frames) = true := by decide +kernel
end
section
/-! WHAT THE PRINTED WITNESS MEETS, the other start meets: the words 'code' by one lemma (one class more behind the others hides no method), the rest by running them. -/
theorem zz_find {cs : Array Class} {k : Class} {p : Class → Bool} {i : Nat} (h : cs.findIdx? p = some i) : (cs.push k).findIdx? p = some i := by
  rw [Array.push_eq_append, Array.findIdx?_append, h]
  rfl
theorem zz_get {cs : Array Class} {k : Class} {i : Nat} {c : Class} (h : cs[i]? = some c) : (cs.push k)[i]? = some c := by
  have hi : i < cs.size := by
    rcases Nat.lt_or_ge i cs.size with h1 | h1
    · exact h1
    · rw [Array.getElem?_eq_none h1] at h
      cases h
  rw [Array.getElem?_push_lt hi, ← h, Array.getElem?_eq_getElem hi]
theorem zz_named {s t : State} {k : Class} (e : t.vm.classes = s.vm.classes.push k) {x : MethodName} {m : MethodId} (h : s.methodNamed? x = some m) : t.methodNamed? x = some m := by
  simp only [State.methodNamed?, Option.bind_eq_bind, Option.bind_eq_some_iff] at h ⊢
  obtain ⟨c, h1, d, h2, h3⟩ := h
  refine ⟨c, ?_, d, ?_, h3⟩
  · unfold Vm.findClass at h1 ⊢
    rw [e]
    exact zz_find h1
  · rw [e]
    exact zz_get h2
theorem zz_method {s t : State} {k : Class} (e : t.vm.classes = s.vm.classes.push k) {m : MethodId} {r : Method} (h : s.vm.method? m = some r) : t.vm.method? m = some r := by
  simp only [Vm.method?, Option.bind_eq_bind, Option.bind_eq_some_iff] at h ⊢
  obtain ⟨c, h1, h2⟩ := h
  refine ⟨c, ?_, h2⟩
  rw [e]
  exact zz_get h1
theorem zz_code {s t : State} {k : Class} (e : t.vm.classes = s.vm.classes.push k) {a : Array Value} {x : MethodName} {b : ByteArray} {n : Nat} {r : Option FieldType}
    (h : (Cond.code x b n r).before a s = true) : (Cond.code x b n r).before a t = true := by
  simp only [Cond.before, Cond.holds, Cond.value, beq_iff_eq, Option.map_eq_some_iff, Option.bind_eq_some_iff] at h ⊢
  obtain ⟨w, ⟨m, h1, h2⟩, h3⟩ := h
  exact ⟨w, ⟨m, zz_named e h1, zz_method e h2⟩, h3⟩
theorem zz_vm {s t : State} {k : Class} (e : t.vm.classes = s.vm.classes.push k) {x : String} {c : ClassId} (h : s.vm.findClass x = some c) : t.vm.findClass x = some c := by
  unfold Vm.findClass at h ⊢
  rw [e]
  exact zz_find h
def zzq : Cond → Bool
  | .code .. => true
  | .instanceMethod _ => true
  | .privateMethod _ => true
  | .static _ => true
  | .soleField _ _ => true
  | .initialized _ => true
  | .instantiable _ _ => true
  | _ => false
theorem zz_meth {s t : State} {k : Class} (e : t.vm.classes = s.vm.classes.push k) {x : MethodName} {f : Method → Bool} (h : ((s.methodNamed? x).bind s.vm.method?).map f = some true) : ((t.methodNamed? x).bind t.vm.method?).map f = some true := by
  simp only [Option.map_eq_some_iff, Option.bind_eq_some_iff] at h ⊢
  obtain ⟨w, ⟨m, h1, h2⟩, h3⟩ := h
  exact ⟨w, ⟨m, zz_named e h1, zz_method e h2⟩, h3⟩
theorem zz_cls {s t : State} {k : Class} (e : t.vm.classes = s.vm.classes.push k) {x : String} {f : Class → Bool} (h : ((s.vm.findClass x).bind (s.vm.classes[·]?)).map f = some true) : ((t.vm.findClass x).bind (t.vm.classes[·]?)).map f = some true := by
  simp only [Option.map_eq_some_iff, Option.bind_eq_some_iff] at h ⊢
  obtain ⟨w, ⟨m, h1, h2⟩, h3⟩ := h
  exact ⟨w, ⟨m, zz_vm e h1, by rw [e]; exact zz_get h2⟩, h3⟩
theorem zz_word {s t : State} {k : Class} (e : t.vm.classes = s.vm.classes.push k) {a : Array Value} {c : Cond} (hc : zzq c = true) (h : c.before a s = true) : c.before a t = true := by
  cases c with
  | code => exact zz_code e h
  | instanceMethod x => exact beq_iff_eq.mpr (zz_meth e (beq_iff_eq.mp h))
  | privateMethod x => exact beq_iff_eq.mpr (zz_meth e (beq_iff_eq.mp h))
  | static x => exact beq_iff_eq.mpr (zz_meth e (beq_iff_eq.mp h))
  | initialized x => exact beq_iff_eq.mpr (zz_cls e (beq_iff_eq.mp h))
  | instantiable x n => exact beq_iff_eq.mpr (zz_cls e (beq_iff_eq.mp h))
  | soleField x n =>
    have h1 := beq_iff_eq.mp h
    refine beq_iff_eq.mpr ?_
    simp only [Cond.value, Option.map_eq_some_iff, Option.bind_eq_some_iff] at h1 ⊢
    obtain ⟨c, h1, d, h2, h3⟩ := h1
    exact ⟨c, zz_vm e h1, d, by rw [e]; exact zz_get h2, h3⟩
  | _ => cases hc
theorem zz_e : zz1.about.vm.classes = start1.about.vm.classes.push zzS := rfl
def zzp (c : Cond) : Bool := zzq c || c.before start1.args0 zz1.about
theorem zz_cut {p : Cond → Bool} {n : Nat} {l : List Cond} (h1 : (l.take n).all p = true) (h2 : (l.drop n).all p = true) : l.all p = true := by
  rw [← List.take_append_drop n l, List.all_append, h1, h2]
  rfl
theorem zz_app {p : Cond → Bool} {l m : List Cond} (h1 : l.all p = true) (h2 : m.all p = true) : (l ++ m).all p = true := by
  rw [List.all_append, h1, h2]
  rfl
theorem zz_cons {y : MethodName} {b : ByteArray} {n : Nat} {r : Option FieldType} {l : List Cond} (h : l.all zzp = true) : (Cond.code y b n r :: l).all zzp = true := by
  rw [List.all_cons, h]
  rfl
theorem zz_words {l : List Cond} (h1 : ∀ c ∈ l, c.before start1.args0 start1.about = true) (h2 : l.all zzp = true) : ∀ c ∈ l, c.before start1.args0 zz1.about = true := by
  intro c hc
  have h : (zzq c || c.before start1.args0 zz1.about) = true := List.all_eq_true.mp h2 c hc
  cases hq : zzq c with
  | true => exact zz_word zz_e hq (h1 c hc)
  | false => simpa [hq] using h
end
section
set_option maxRecDepth 16384 in
theorem zz_o1_0 : (tables_1_1.take 40).all zzp = true := by decide +kernel
set_option maxRecDepth 16384 in
theorem zz_o1_1 : ((tables_1_1.drop 40).take 40).all zzp = true := by decide +kernel
set_option maxRecDepth 16384 in
theorem zz_o1_2 : (((tables_1_1.drop 40).drop 40).take 40).all zzp = true := by decide +kernel
set_option maxRecDepth 16384 in
theorem zz_o1_3 : ((((tables_1_1.drop 40).drop 40).drop 40).take 40).all zzp = true := by decide +kernel
set_option maxRecDepth 16384 in
theorem zz_o1_4 : (((((tables_1_1.drop 40).drop 40).drop 40).drop 40).take 40).all zzp = true := by decide +kernel
set_option maxRecDepth 16384 in
theorem zz_o1_5 : (((((tables_1_1.drop 40).drop 40).drop 40).drop 40).drop 40).all zzp = true := by decide +kernel
theorem zz_o1 : tables_1_1.all zzp = true := zz_cut zz_o1_0 (zz_cut zz_o1_1 (zz_cut zz_o1_2 (zz_cut zz_o1_3 (zz_cut zz_o1_4 (zz_o1_5)))))
end
section
set_option maxRecDepth 16384 in
theorem zz_o2_0 : (tables_1_2.take 40).all zzp = true := by decide +kernel
set_option maxRecDepth 16384 in
theorem zz_o2_1 : ((tables_1_2.drop 40).take 40).all zzp = true := by decide +kernel
set_option maxRecDepth 16384 in
theorem zz_o2_2 : (((tables_1_2.drop 40).drop 40).take 40).all zzp = true := by decide +kernel
set_option maxRecDepth 16384 in
theorem zz_o2_3 : ((((tables_1_2.drop 40).drop 40).drop 40).take 40).all zzp = true := by decide +kernel
set_option maxRecDepth 16384 in
theorem zz_o2_4 : (((((tables_1_2.drop 40).drop 40).drop 40).drop 40).take 40).all zzp = true := by decide +kernel
set_option maxRecDepth 16384 in
theorem zz_o2_5 : (((((tables_1_2.drop 40).drop 40).drop 40).drop 40).drop 40).all zzp = true := by decide +kernel
theorem zz_o2 : tables_1_2.all zzp = true := zz_cut zz_o2_0 (zz_cut zz_o2_1 (zz_cut zz_o2_2 (zz_cut zz_o2_3 (zz_cut zz_o2_4 (zz_o2_5)))))
end
section
set_option maxRecDepth 16384 in
theorem zz_o3_0 : (tables_1_3.take 40).all zzp = true := by decide +kernel
set_option maxRecDepth 16384 in
theorem zz_o3_1 : ((tables_1_3.drop 40).take 40).all zzp = true := by decide +kernel
set_option maxRecDepth 16384 in
theorem zz_o3_2 : (((tables_1_3.drop 40).drop 40).take 40).all zzp = true := by decide +kernel
set_option maxRecDepth 16384 in
theorem zz_o3_3 : ((((tables_1_3.drop 40).drop 40).drop 40).take 40).all zzp = true := by decide +kernel
set_option maxRecDepth 16384 in
theorem zz_o3_4 : (((((tables_1_3.drop 40).drop 40).drop 40).drop 40).take 40).all zzp = true := by decide +kernel
set_option maxRecDepth 16384 in
theorem zz_o3_5 : (((((tables_1_3.drop 40).drop 40).drop 40).drop 40).drop 40).all zzp = true := by decide +kernel
theorem zz_o3 : tables_1_3.all zzp = true := zz_cut zz_o3_0 (zz_cut zz_o3_1 (zz_cut zz_o3_2 (zz_cut zz_o3_3 (zz_cut zz_o3_4 (zz_o3_5)))))
end
section
set_option maxRecDepth 16384 in
theorem zz_o4_0 : (tables_1_4.take 40).all zzp = true := by decide +kernel
set_option maxRecDepth 16384 in
theorem zz_o4_1 : ((tables_1_4.drop 40).take 40).all zzp = true := by decide +kernel
set_option maxRecDepth 16384 in
theorem zz_o4_2 : (((tables_1_4.drop 40).drop 40).take 40).all zzp = true := by decide +kernel
set_option maxRecDepth 16384 in
theorem zz_o4_3 : ((((tables_1_4.drop 40).drop 40).drop 40).take 40).all zzp = true := by decide +kernel
set_option maxRecDepth 16384 in
theorem zz_o4_4 : (((((tables_1_4.drop 40).drop 40).drop 40).drop 40).take 40).all zzp = true := by decide +kernel
set_option maxRecDepth 16384 in
theorem zz_o4_5 : (((((tables_1_4.drop 40).drop 40).drop 40).drop 40).drop 40).all zzp = true := by decide +kernel
theorem zz_o4 : tables_1_4.all zzp = true := zz_cut zz_o4_0 (zz_cut zz_o4_1 (zz_cut zz_o4_2 (zz_cut zz_o4_3 (zz_cut zz_o4_4 (zz_o4_5)))))
end
section
set_option maxRecDepth 16384 in
theorem zz_o5_0 : (tables_1_5.take 40).all zzp = true := by decide +kernel
set_option maxRecDepth 16384 in
theorem zz_o5_1 : ((tables_1_5.drop 40).take 40).all zzp = true := by decide +kernel
set_option maxRecDepth 16384 in
theorem zz_o5_2 : (((tables_1_5.drop 40).drop 40).take 40).all zzp = true := by decide +kernel
set_option maxRecDepth 16384 in
theorem zz_o5_3 : ((((tables_1_5.drop 40).drop 40).drop 40).take 40).all zzp = true := by decide +kernel
set_option maxRecDepth 16384 in
theorem zz_o5_4 : (((((tables_1_5.drop 40).drop 40).drop 40).drop 40).take 40).all zzp = true := by decide +kernel
set_option maxRecDepth 16384 in
theorem zz_o5_5 : (((((tables_1_5.drop 40).drop 40).drop 40).drop 40).drop 40).all zzp = true := by decide +kernel
theorem zz_o5 : tables_1_5.all zzp = true := zz_cut zz_o5_0 (zz_cut zz_o5_1 (zz_cut zz_o5_2 (zz_cut zz_o5_3 (zz_cut zz_o5_4 (zz_o5_5)))))
end
section
set_option maxRecDepth 16384 in
theorem zz_o6_0 : (tables_1_6.take 40).all zzp = true := by decide +kernel
set_option maxRecDepth 16384 in
theorem zz_o6_1 : ((tables_1_6.drop 40).take 40).all zzp = true := by decide +kernel
set_option maxRecDepth 16384 in
theorem zz_o6_2 : (((tables_1_6.drop 40).drop 40).take 40).all zzp = true := by decide +kernel
set_option maxRecDepth 16384 in
theorem zz_o6_3 : ((((tables_1_6.drop 40).drop 40).drop 40).take 40).all zzp = true := by decide +kernel
set_option maxRecDepth 16384 in
theorem zz_o6_4 : ((((tables_1_6.drop 40).drop 40).drop 40).drop 40).all zzp = true := by decide +kernel
theorem zz_o6 : tables_1_6.all zzp = true := zz_cut zz_o6_0 (zz_cut zz_o6_1 (zz_cut zz_o6_2 (zz_cut zz_o6_3 (zz_o6_4))))
end
section
theorem zz_all : tables_1.all zzp = true := zz_app zz_o1 (zz_app zz_o2 (zz_app zz_o3 (zz_app zz_o4 (zz_app zz_o5 (zz_o6)))))
theorem zz1.words : ∀ c ∈ (Cond.code x code maxLocals ret :: tables_1), c.before zz1.args0 zz1.about = true := zz_words start1.words (zz_cons zz_all)
end
section
set_option maxRecDepth 16384 in
theorem zz1.atStart : AtStart classFile x code maxLocals ret World_1 tables_1 room_1 Calls_1 rest_1 Pre_1 launch0 start1.p0 start1.e0 zz1.about ⟨0, 0⟩ zz1.args0 Lib.HandBits.below0 :=
  ⟨lists_1, trivial, launch0.admits_env _ _ _, launch0.least_env, fairChoices_fair.cas, fairChoices_fair.clock, rfl, by decide +kernel, by decide +kernel,
    (Spec.applies_iff rfl).mpr ⟨rfl, rfl, rfl, by decide +kernel, by decide +kernel, by decide +kernel, launch0.hasRoom_least _ room_1 (by decide +kernel) (by decide +kernel) (by decide +kernel) (by decide +kernel) (by decide +kernel) (by decide +kernel), atoms_intro words⟩,
    trivial, (show rest_1_c.before args0 about = true by decide +kernel), (show (Cond.and given_1 narrow_1).before args0 about = true by decide +kernel)⟩
theorem zz_f31 : (stepsAlone start1.p0.tables start1.e0 31 zz1.about).frames = .throwing 2 :: Lib.HandBits.below0 := zzE_eq zz_e31
theorem zz_p1 (t : State) : ¬ Post_1_1 start1.p0.tables start1.e0 zz1.args0 zz1.about (.threw 2) t := by
  rintro ⟨h, -⟩
  have h1 : limb_1_1.after zz1.args0 zz1.about (.threw 2) t = true := h
  simp [limb_1_1, Cond.after, Cond.holds, Cond.value] at h1
theorem zz_p2 (t : State) : ¬ Post_1_2 start1.p0.tables start1.e0 zz1.args0 zz1.about (.threw 2) t := by
  rintro ⟨h, -⟩
  have h1 : limb_1_2.after zz1.args0 zz1.about (.threw 2) t = true := h
  simp [limb_1_2, Cond.after, Cond.holds, Cond.value, Term.eval] at h1
def zzo (f : NFrame) : Bool := decide (f.method = ⟨0, 0⟩) && decide (f.args.size = 0) && decide (f.stage = 0) && decide (f.saved.size = 0) && !f.awaiting && f.answer.isNone && f.locked.isNone && decide (f.words = 0)
theorem zzo_eq {f : NFrame} (h : zzo f = true) : f = { method := ⟨0, 0⟩, args := #[] } := by
  obtain ⟨m, as, st, sv, aw, an, lk, wd⟩ := f
  simp only [zzo, Bool.and_eq_true, decide_eq_true_eq, Bool.not_eq_true', Option.isNone_iff_eq_none] at h
  obtain ⟨⟨⟨⟨⟨⟨⟨h2, h3⟩, h4⟩, h5⟩, h6⟩, h7⟩, h8⟩, h9⟩ := h
  subst h2 h4 h6 h7 h8 h9
  rw [Array.eq_empty_of_size_eq_zero h3, Array.eq_empty_of_size_eq_zero h5]
def zzW : List Frame → Bool
  | [] => false
  | [_] => false
  | [.throwing _, _] => false
  | fs => match fs.getLast? with
    | some (.native f) => zzo f
    | _ => false
theorem zzW_within {s : State} (h : zzW s.frames = true) : Within s Lib.HandBits.below0 := by
  generalize e : s.frames = fs at h
  have key : fs.getLast? = some (.native { method := ⟨0, 0⟩, args := #[] }) ∧ 2 ≤ fs.length ∧ ∀ a x, fs ≠ [.throwing a, x] := by
    unfold zzW at h
    split at h
    · cases h
    · cases h
    · cases h
    · next h1 h2 h3 =>
      refine ⟨?_, ?_, fun a x => h3 a x⟩
      · split at h
        · next f q => rw [q, zzo_eq h]
        · cases h
      · match fs, h1, h2 with
        | [], h1, _ => exact absurd rfl h1
        | [y], _, h2 => exact absurd rfl (h2 y)
        | _ :: _ :: _, _, _ => simp
  obtain ⟨k1, k2, k3⟩ := key
  obtain ⟨ys, rfl⟩ := List.getLast?_eq_some_iff.mp k1
  refine ⟨ys, e, ?_, ?_⟩
  · intro q
    subst q
    simp at k2
  · intro a q
    subst q
    exact k3 a _ rfl
theorem zz_w : (List.range 31).all (fun n => zzW (stepsAlone start1.p0.tables start1.e0 n zz1.about).frames) = true := by decide +kernel
theorem zz_within (k : Nat) (h : k < 31) : Within (stepsAlone start1.p0.tables start1.e0 k zz1.about) Lib.HandBits.below0 := zzW_within (List.all_eq_true.mp zz_w k (List.mem_range.mpr h))
theorem zz_ended : Ended (stepsAlone start1.p0.tables start1.e0 31 zz1.about) Lib.HandBits.below0 (.threw 2) := zz_f31
/-- the Statement's own form of 'it falls', for both owed halves -/
theorem zz_falls_1 : RefutedClaimed_1_1 := ⟨launch0, start1.p0, start1.e0, zz1.about, ⟨0, 0⟩, zz1.args0, Lib.HandBits.below0, rfl, zz1.atStart, 31, .threw 2, zz_within, zz_r31, zz_ended, zz_p1 _⟩
theorem zz_falls_2 : RefutedClaimed_1_2 := ⟨launch0, start1.p0, start1.e0, zz1.about, ⟨0, 0⟩, zz1.args0, Lib.HandBits.below0, rfl, zz1.atStart, 31, .threw 2, zz_within, zz_r31, zz_ended, zz_p2 _⟩
/-- and so neither half of what is owed can be proved -/
theorem zz_end {n : Nat} {o : Outcome} (hw : ∀ k, k < n → Within (stepsAlone start1.p0.tables start1.e0 k zz1.about) Lib.HandBits.below0) (he : Ended (stepsAlone start1.p0.tables start1.e0 n zz1.about) Lib.HandBits.below0 o) : n = 31 ∧ o = .threw 2 := by
  rcases Nat.lt_trichotomy n 31 with hn | hn | hn
  · exfalso
    have hg := List.all_eq_true.mp zz_g n (List.mem_range.mpr hn)
    cases o with
    | threw a =>
      have q : (stepsAlone start1.p0.tables start1.e0 n zz1.about).frames = .throwing a :: Lib.HandBits.below0 := he
      rw [q] at hg
      cases hg
    | returned v =>
      have q : (stepsAlone start1.p0.tables start1.e0 n zz1.about).frames = .native { ({ method := ⟨0, 0⟩, args := #[] } : NFrame) with awaiting := false, answer := some (.returned v) } :: [] := he
      rw [q] at hg
      cases hg
  · subst hn
    refine ⟨rfl, ?_⟩
    cases o with
    | threw a =>
      have q : (stepsAlone start1.p0.tables start1.e0 31 zz1.about).frames = .throwing a :: Lib.HandBits.below0 := he
      rw [zz_f31] at q
      cases q
      rfl
    | returned v =>
      have q : (stepsAlone start1.p0.tables start1.e0 31 zz1.about).frames = .native { ({ method := ⟨0, 0⟩, args := #[] } : NFrame) with awaiting := false, answer := some (.returned v) } :: [] := he
      rw [zz_f31] at q
      cases q
  · exfalso
    obtain ⟨above, h1, h2, h3⟩ := hw 31 hn
    rw [zz_f31] at h1
    have h4 : [Frame.throwing 2] ++ Lib.HandBits.below0 = above ++ Lib.HandBits.below0 := h1
    exact h3 2 (List.append_cancel_right h4).symm
theorem zz_not_1 : ¬ Claimed_1_1 := by
  intro h
  obtain ⟨hL, hW, ha, -, hc, hk, hf, haf, hhf, hap, h1, h2, h3⟩ := zz1.atStart
  obtain ⟨n, o, hw, -, he, hp⟩ := h launch0 rfl hL hW start1.p0 start1.e0 ha hc hk zz1.about ⟨0, 0⟩ zz1.args0 Lib.HandBits.below0 hf haf hhf hap ⟨h1, h2, h3⟩
  obtain ⟨rfl, rfl⟩ := zz_end hw he
  exact zz_p1 _ hp
theorem zz_not_2 : ¬ Claimed_1_2 := by
  intro h
  obtain ⟨hL, hW, ha, -, hc, hk, hf, haf, hhf, hap, h1, h2, h3⟩ := zz1.atStart
  obtain ⟨n, o, hw, -, he, hp⟩ := h launch0 rfl hL hW start1.p0 start1.e0 ha hc hk zz1.about ⟨0, 0⟩ zz1.args0 Lib.HandBits.below0 hf haf hhf hap ⟨h1, h2, h3⟩
  obtain ⟨rfl, rfl⟩ := zz_end hw he
  exact zz_p2 _ hp
theorem zz_refuted : ¬ (Claimed_1_1 ∧ Claimed_1_2) := fun h => zz_not_1 h.1
end
