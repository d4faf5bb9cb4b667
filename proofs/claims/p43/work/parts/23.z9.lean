set_option maxRecDepth 16384 in
theorem zz1.atStart : AtStart classFile x code maxLocals ret World_1 tables_1 room_1 Calls_1 rest_1 Pre_1 launch0 start1.p0 start1.e0 zz1.about ⟨0, 0⟩ zz1.args0 Lib.HandBits.below0 :=
  ⟨lists_1, trivial, launch0.admits_env _ _ _, launch0.least_env, fairChoices_fair.cas, fairChoices_fair.clock, rfl, by decide +kernel, by decide +kernel,
    (Spec.applies_iff rfl).mpr ⟨rfl, rfl, rfl, by decide +kernel, by decide +kernel, by decide +kernel, launch0.hasRoom_least _ room_1 (by decide +kernel) (by decide +kernel) (by decide +kernel) (by decide +kernel) (by decide +kernel) (by decide +kernel), atoms_intro words⟩,
    trivial, (show rest_1_c.before args0 about = true by decide +kernel), (show (Cond.and given_1 narrow_1).before args0 about = true by decide +kernel)⟩
theorem zz_f31 : (stepsAlone start1.p0.tables start1.e0 31 zz1.about).frames = .throwing 2 :: Lib.HandBits.below0 := zzE_eq zz_e31
theorem zz_p1 (t : State) : ¬ Post_1_1 start1.p0.tables start1.e0 zz1.args0 zz1.about (.threw 2) t := by
  rintro ⟨h, -⟩
  have h1 : limb_1_1.after zz1.args0 zz1.about (.threw 2) t = true := h
  simp [limb_1_1, Cond.after, Cond.holds, Cond.value] at h1
theorem zz_p2 (t : State) : ¬ Post_1_2 start1.p0.tables start1.e0 zz1.args0 zz1.about (.threw 2) t := by
  rintro ⟨h, -⟩
  have h1 : limb_1_2.after zz1.args0 zz1.about (.threw 2) t = true := h
  simp [limb_1_2, Cond.after, Cond.holds, Cond.value, Term.eval] at h1
def zzo (f : NFrame) : Bool := decide (f.method = ⟨0, 0⟩) && decide (f.args.size = 0) && decide (f.stage = 0) && decide (f.saved.size = 0) && !f.awaiting && f.answer.isNone && f.locked.isNone && decide (f.words = 0)
theorem zzo_eq {f : NFrame} (h : zzo f = true) : f = { method := ⟨0, 0⟩, args := #[] } := by
  obtain ⟨m, as, st, sv, aw, an, lk, wd⟩ := f
  simp only [zzo, Bool.and_eq_true, decide_eq_true_eq, Bool.not_eq_true', Option.isNone_iff_eq_none] at h
  obtain ⟨⟨⟨⟨⟨⟨⟨h2, h3⟩, h4⟩, h5⟩, h6⟩, h7⟩, h8⟩, h9⟩ := h
  subst h2 h4 h6 h7 h8 h9
  rw [Array.eq_empty_of_size_eq_zero h3, Array.eq_empty_of_size_eq_zero h5]
def zzW : List Frame → Bool
  | [] => false
  | [_] => false
  | [.throwing _, _] => false
  | fs => match fs.getLast? with
    | some (.native f) => zzo f
    | _ => false
theorem zzW_within {s : State} (h : zzW s.frames = true) : Within s Lib.HandBits.below0 := by
  generalize e : s.frames = fs at h
  have key : fs.getLast? = some (.native { method := ⟨0, 0⟩, args := #[] }) ∧ 2 ≤ fs.length ∧ ∀ a x, fs ≠ [.throwing a, x] := by
    unfold zzW at h
    split at h
    · cases h
    · cases h
    · cases h
    · next h1 h2 h3 =>
      refine ⟨?_, ?_, fun a x => h3 a x⟩
      · split at h
        · next f q => rw [q, zzo_eq h]
        · cases h
      · match fs, h1, h2 with
        | [], h1, _ => exact absurd rfl h1
        | [y], _, h2 => exact absurd rfl (h2 y)
        | _ :: _ :: _, _, _ => simp
  obtain ⟨k1, k2, k3⟩ := key
  obtain ⟨ys, rfl⟩ := List.getLast?_eq_some_iff.mp k1
  refine ⟨ys, e, ?_, ?_⟩
  · intro q
    subst q
    simp at k2
  · intro a q
    subst q
    exact k3 a _ rfl
theorem zz_w : (List.range 31).all (fun n => zzW (stepsAlone start1.p0.tables start1.e0 n zz1.about).frames) = true := by decide +kernel
theorem zz_within (k : Nat) (h : k < 31) : Within (stepsAlone start1.p0.tables start1.e0 k zz1.about) Lib.HandBits.below0 := zzW_within (List.all_eq_true.mp zz_w k (List.mem_range.mpr h))
theorem zz_ended : Ended (stepsAlone start1.p0.tables start1.e0 31 zz1.about) Lib.HandBits.below0 (.threw 2) := zz_f31
/-- the Statement's own form of 'it falls', for both owed halves -/
theorem zz_falls_1 : RefutedClaimed_1_1 := ⟨launch0, start1.p0, start1.e0, zz1.about, ⟨0, 0⟩, zz1.args0, Lib.HandBits.below0, rfl, zz1.atStart, 31, .threw 2, zz_within, zz_r31, zz_ended, zz_p1 _⟩
theorem zz_falls_2 : RefutedClaimed_1_2 := ⟨launch0, start1.p0, start1.e0, zz1.about, ⟨0, 0⟩, zz1.args0, Lib.HandBits.below0, rfl, zz1.atStart, 31, .threw 2, zz_within, zz_r31, zz_ended, zz_p2 _⟩
/-- and so neither half of what is owed can be proved -/
theorem zz_end {n : Nat} {o : Outcome} (hw : ∀ k, k < n → Within (stepsAlone start1.p0.tables start1.e0 k zz1.about) Lib.HandBits.below0) (he : Ended (stepsAlone start1.p0.tables start1.e0 n zz1.about) Lib.HandBits.below0 o) : n = 31 ∧ o = .threw 2 := by
  rcases Nat.lt_trichotomy n 31 with hn | hn | hn
  · exfalso
    have hg := List.all_eq_true.mp zz_g n (List.mem_range.mpr hn)
    cases o with
    | threw a =>
      have q : (stepsAlone start1.p0.tables start1.e0 n zz1.about).frames = .throwing a :: Lib.HandBits.below0 := he
      rw [q] at hg
      cases hg
    | returned v =>
      have q : (stepsAlone start1.p0.tables start1.e0 n zz1.about).frames = .native { ({ method := ⟨0, 0⟩, args := #[] } : NFrame) with awaiting := false, answer := some (.returned v) } :: [] := he
      rw [q] at hg
      cases hg
  · subst hn
    refine ⟨rfl, ?_⟩
    cases o with
    | threw a =>
      have q : (stepsAlone start1.p0.tables start1.e0 31 zz1.about).frames = .throwing a :: Lib.HandBits.below0 := he
      rw [zz_f31] at q
      cases q
      rfl
    | returned v =>
      have q : (stepsAlone start1.p0.tables start1.e0 31 zz1.about).frames = .native { ({ method := ⟨0, 0⟩, args := #[] } : NFrame) with awaiting := false, answer := some (.returned v) } :: [] := he
      rw [zz_f31] at q
      cases q
  · exfalso
    obtain ⟨above, h1, h2, h3⟩ := hw 31 hn
    rw [zz_f31] at h1
    have h4 : [Frame.throwing 2] ++ Lib.HandBits.below0 = above ++ Lib.HandBits.below0 := h1
    exact h3 2 (List.append_cancel_right h4).symm
theorem zz_not_1 : ¬ Claimed_1_1 := by
  intro h
  obtain ⟨hL, hW, ha, -, hc, hk, hf, haf, hhf, hap, h1, h2, h3⟩ := zz1.atStart
  obtain ⟨n, o, hw, -, he, hp⟩ := h launch0 rfl hL hW start1.p0 start1.e0 ha hc hk zz1.about ⟨0, 0⟩ zz1.args0 Lib.HandBits.below0 hf haf hhf hap ⟨h1, h2, h3⟩
  obtain ⟨rfl, rfl⟩ := zz_end hw he
  exact zz_p1 _ hp
theorem zz_not_2 : ¬ Claimed_1_2 := by
  intro h
  obtain ⟨hL, hW, ha, -, hc, hk, hf, haf, hhf, hap, h1, h2, h3⟩ := zz1.atStart
  obtain ⟨n, o, hw, -, he, hp⟩ := h launch0 rfl hL hW start1.p0 start1.e0 ha hc hk zz1.about ⟨0, 0⟩ zz1.args0 Lib.HandBits.below0 hf haf hhf hap ⟨h1, h2, h3⟩
  obtain ⟨rfl, rfl⟩ := zz_end hw he
  exact zz_p2 _ hp
theorem zz_refuted : ¬ (Claimed_1_1 ∧ Claimed_1_2) := fun h => zz_not_1 h.1
