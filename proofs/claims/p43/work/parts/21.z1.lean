/-! ANOTHER START: all that the premises say holds, but the array that the class's static row holds is of a class of its own (kind: array of int), which is not the class called "[I": the premises name its kind, its length and what it holds, never its class. This one has a method clone of its own, which throws: the law ends with that throw. -/
def zzM : Method := Lib.HandJ.method "clone" "()Ljava/lang/Object;" [] (some (.object "java/lang/Object")) 0x1 1 ⟨#[0x2a, 0xbf]⟩
def zzS : Class := { start1.cArr "[I" 17 .int with interfaces := #[16], methods := #[zzM] }
def zz1.about : State := { start1.about with vm := { start1.about.vm with classes := start1.about.vm.classes.push zzS }, heap := start1.about.heap.modify 2 (fun c => { c with cls := 27 }) }
def zz1.args0 : Array Value := start1.args0
def zzE : List Frame → Bool
  | [.throwing a, .native f] => decide (a = 2) && decide (f.method = ⟨0, 0⟩) && decide (f.args.size = 0) && decide (f.stage = 0) && decide (f.saved.size = 0) && !f.awaiting && f.answer.isNone && f.locked.isNone && decide (f.words = 0)
  | _ => false
theorem zzE_eq {fs : List Frame} (h : zzE fs = true) : fs = .throwing 2 :: Lib.HandBits.below0 := by
  unfold zzE at h
  split at h
  · next a f =>
    obtain ⟨m, as, st, sv, aw, an, lk, wd⟩ := f
    simp only [Bool.and_eq_true, decide_eq_true_eq, Bool.not_eq_true', Option.isNone_iff_eq_none] at h
    obtain ⟨⟨⟨⟨⟨⟨⟨⟨h1, h2⟩, h3⟩, h4⟩, h5⟩, h6⟩, h7⟩, h8⟩, h9⟩ := h
    subst h1 h2 h4 h6 h7 h8 h9
    rw [Array.eq_empty_of_size_eq_zero h3, Array.eq_empty_of_size_eq_zero h5]
    rfl
  · cases h
def zzg : List Frame → Bool
  | [] => false
  | [_] => false
  | [.throwing _, _] => false
  | _ => true
theorem zz_e31 : zzE (stepsAlone start1.p0.tables start1.e0 31 zz1.about).frames = true := by decide +kernel
theorem zz_r31 : (stepsAlone start1.p0.tables start1.e0 31 zz1.about).status = .running := by decide +kernel
theorem zz_g : (List.range 31).all (fun n => zzg (stepsAlone start1.p0.tables start1.e0 n zz1.about).frames) = true := by decide +kernel
theorem zz_control : (stepsAlone start1.p0.tables start1.e0 31 start1.about).status = .running := by decide +kernel
theorem zz_controlG : (List.range 100).all (fun n => zzg (stepsAlone start1.p0.tables start1.e0 n start1.about).frames) = true := by decide +kernel
