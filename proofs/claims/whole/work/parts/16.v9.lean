theorem m_fm {σ s : St} {f : Nat → Int32} (hf : gd f) {a : Nat} (ha : a < 2) (hr : ∀ k, k < 17 → σ (35, 0) k = f k) {k : Nat} (hk : k < 20) {e : Nat → Nat} (hm : modi KL' σ s) (A : AR s e) (S : SM e) (F : FI (sP f a) (oB f) k e 0 0) : ∃ res, lpF (mfM (nI k) (nI a)) ((0 : Int32), s) = some res ∧ ((∃ s' e', res = Sum.inr s' ∧ modi KL' σ s' ∧ AR s' e' ∧ SM e' ∧ FI (sP f a) (oB f) (k + 1) e' 0 0) ∨ (∃ s' e' b x, res = Sum.inl (Sum.inr (Sum.inr (nI k, s'))) ∧ modi KL' σ s' ∧ FI (sP f a) (oB f) k e' b x ∧ b < 63 ∧ e' b = k ∧ x < 40 ∧ sP f a b x = true)) := by
  refine lpF_for (fun b q => q.1 = nI b ∧ modi KL' σ q.2 ∧ ∃ e', AR q.2 e' ∧ SM e' ∧ FI (sP f a) (oB f) k e' b 0) 63 ?_ ?_ (by decide) ⟨rfl, hm, e, A, S, F⟩
  · rintro b ⟨y, z⟩ hb ⟨rfl, m', e', A', S', F'⟩
    replace m' : modi KL' σ z := m'
    replace A' : AR z e' := A'
    obtain ⟨res, q1, q2⟩ := m_fi hf ha hr hk hb m' A' S' F'
    have n63 : ¬ (63 : Int32) ≤ nI b := by rw [show (63 : Int32) = nI 63 from rfl, leI (by decide) (by omega)]; omega
    rcases q2 with ⟨s', e2, rfl, m2, A2, S2, F2⟩ | ⟨s', e2, x, rfl, m2, F2, eb, x40, hP⟩
    · refine Or.inl ⟨(nI (b + 1), s'), ?_, rfl, m2, e2, A2, S2, F2⟩
      rw [mfM_at, if_neg n63, q1, bj_sr, bnd_eq, nI_1]
    · refine Or.inr ⟨_, ?_, Or.inr ⟨s', e2, b, x, rfl, m2, F2, hb, eb, x40, hP⟩⟩
      rw [mfM_at, if_neg n63, q1, bj_sl]
  · rintro ⟨y, z⟩ ⟨rfl, m', e', A', S', F'⟩
    refine ⟨Sum.inr z, by rw [mfM_at, if_pos (by decide)], Or.inl ⟨z, e', rfl, m', A', S', F'.1, fun b' h1 h2 => ?_, fun b' y h1 h2 h3 => F'.2.2 b' y h1 h2 (by omega)⟩⟩
    obtain ⟨q1, q2⟩ := F'.2.1 b' h1 h2
    exact ⟨by omega, q2⟩
theorem m_fo {σ : St} {f : Nat → Int32} (hf : gd f) {a : Nat} (ha : a < 2) (hr : ∀ k, k < 17 → σ (35, 0) k = f k) (A : AR σ (fun b => if b = 33 then 0 else 99)) : ∃ res, lpF (mfO (nI a)) ((0 : Int32), σ) = some res ∧ ((∃ s', res = Sum.inl (-1, s') ∧ modi KL' σ s' ∧ ∀ r, PR (sP f a) (oB f) 33 r → 21 ≤ r.length) ∨ (∃ s' ρ, res = Sum.inr (nI (ρ.length - 1), s') ∧ modi KL' σ s' ∧ PR (sP f a) (oB f) 33 ρ ∧ ρ.length ≤ 20 ∧ ∀ r, PR (sP f a) (oB f) 33 r → ρ.length ≤ r.length)) := by
  have hT : ∀ b x, b < 63 → x < 40 → oB f b x < 63 := fun b x h1 h2 => oB_lt hf h1 h2
  refine lpF_for (fun k q => q.1 = nI k ∧ modi KL' σ q.2 ∧ ∃ e', AR q.2 e' ∧ SM e' ∧ FI (sP f a) (oB f) k e' 0 0) 20 ?_ ?_ (by decide) ⟨rfl, modi.rf, fun b => if b = 33 then 0 else 99, A, fun b => by show (if b = 33 then 0 else 99) < 100; split <;> omega, rfl, fun b hb hn => ?_, fun b y _ _ hc => ?_⟩
  · rintro k ⟨y, z⟩ hk ⟨rfl, m', e', A', S', F'⟩
    replace m' : modi KL' σ z := m'
    replace A' : AR z e' := A'
    obtain ⟨res, q1, q2⟩ := m_fm hf ha hr hk m' A' S' F'
    have n20 : ¬ (20 : Int32) ≤ nI k := by rw [show (20 : Int32) = nI 20 from rfl, leI (by decide) (by omega)]; omega
    rcases q2 with ⟨s', e2, rfl, m2, A2, S2, F2⟩ | ⟨s', e2, b, x, rfl, m2, F2, hb, eb, x40, hP⟩
    · refine Or.inl ⟨(nI (k + 1), s'), ?_, rfl, m2, e2, A2, S2, F2⟩
      rw [mfO_at, if_neg n20, q1, bj_sr, bnd_eq, nI_1]
    · obtain ⟨r, r1, r2, r3⟩ := (F2.2.1 b hb (by omega)).2
      have l : (r ++ [x]).length = k + 1 := by rw [List.length_append, r3, eb]; rfl
      refine Or.inr ⟨Sum.inr (nI k, s'), ?_, Or.inr ⟨s', r ++ [x], by rw [l]; rfl, m2, ?_, by rw [l]; omega, fun r' hr' => by rw [l]; exact FI_PR hT F2 hr'⟩⟩
      · rw [mfO_at, if_neg n20, q1, bj_sl]
      · rw [PR_app _ _ _ (by simp)]
        exact ⟨r1, by rw [r2]; exact ⟨x40, hP⟩⟩
  · rintro ⟨y, z⟩ ⟨rfl, m', e', A', S', F'⟩
    exact ⟨Sum.inl (-1, z), by rw [mfO_at, if_pos (by decide)], Or.inl ⟨z, rfl, m', fun r hr' => FI_PR hT F' hr'⟩⟩
  · have hn' : ¬ (if b = 33 then 0 else 99) = 99 := hn
    by_cases c : b = 33
    · subst c
      exact ⟨by show (if 33 = 33 then 0 else 99) ≤ 0 + 1; rw [if_pos rfl]; omega, [], trivial, rfl, rfl⟩
    · rw [if_neg c] at hn'
      exact absurd rfl hn'
  · exfalso
    omega
set_option maxHeartbeats 1000000 in
theorem op_fewest {σ : St} (hI : Ix σ) (a1 a2 : Int32) : ∃ v σ1 σ2, fX8_fewest σ a1 a2 = some (v, σ1) ∧ fX9_fewest σ1 a1 a2 = some (v, σ2) ∧ Ix σ2 := by
  have uX : fX8_fewest σ a1 a2 = (if inb a1 11 = true then if inb a2 2 = true then
        grd (inb a1 11) (
        obi (fX5_momentsToScore σ (11, (tn a1)) a2) (fun (x1, σ1) =>
        some (x1, σ1))) else some (-2, σ) else some (-2, σ)) := by
    unfold fX8_fewest
    rw [x_isCode]
    by_cases c : inb a2 2 = true
    · have c' := inb_iff.1 c
      have g1 : ¬ a2 < 0 := by rw [i32_lt]; have : (0 : Int32).toInt = 0 := rfl; omega
      have g2 : a2 ≤ 1 := by rw [i32_le]; have : (1 : Int32).toInt = 1 := rfl; omega
      rw [if_neg g1, if_pos g2, if_pos c]
    · rw [if_neg c]
      by_cases g1 : a2 < 0
      · rw [if_pos g1]
      · have g2 : ¬ a2 ≤ 1 := by
          intro g2
          apply c
          rw [inb_iff]
          rw [i32_lt] at g1
          rw [i32_le] at g2
          have : (0 : Int32).toInt = 0 := rfl
          have : (1 : Int32).toInt = 1 := rfl
          omega
        rw [if_neg g1, if_neg g2]
  rw [uX]
  by_cases c1 : inb a1 11 = true
  case neg => exact ⟨-2, σ, σ, by rw [if_neg c1], by rw [few_eq, m_isCode, if_neg c1], hI⟩
  by_cases c2 : inb a2 2 = true
  case neg => exact ⟨-2, σ, σ, by rw [if_pos c1, if_neg c2], by rw [few_eq, m_isCode, if_pos c1, rM a2 2 1 (by decide), if_neg c2], hI⟩
  obtain ⟨i, hi, rfl⟩ := inb_ex (by decide) c1
  obtain ⟨a, ha, rfl⟩ := inb_ex (by decide) c2
  obtain ⟨v, s, e1, q⟩ := x_few hI.2 hi ha
  have m1 := mX5_momentsToScore e1
  have hs : Id s := dep_Id.mv m1 (by decide) hI.2
  obtain ⟨t1, f1, d1, m2, r1⟩ := m_mix hs hi hi 0
  have r11 : s (11, i) = σ (11, i) := by funext k; exact m1 _ _ (by rw [cod_a (by decide)]; decide)
  have r1' : ∀ k, k < 17 → t1 (35, 0) k = σ (11, i) k := fun k hk => by rw [r1 k hk, mixf_0, r11]
  have m3 : modi [40] t1 (srg t1 (40, 0) 0 63 (fun _ => (99 : Int32))) := (modi.rf (L := [40])).srg (by decide) (by decide)
  generalize hs2 : srg t1 (40, 0) 0 63 (fun _ => (99 : Int32)) = t2 at m3
  have mb := mX9_begins (σ := t2) rfl
  have ball : fX9_ballNumber (fX9_begins t2) = nI 33 := by
    unfold fX9_ballNumber fX9_begins
    simp only [bnd_eq]
    simp [su_app]
    decide
  generalize hs5 : fX9_begins t2 = t5 at mb ball
  have m6 : modi [40] t5 (su t5 (40, 0) 33 0) := (modi.rf (L := [40])).su (by rw [cod_a (by decide)]; decide)
  have A : AR (su t5 (40, 0) 33 0) (fun b => if b = 33 then 0 else 99) := by
    intro b hb
    show _ = nI (if b = 33 then 0 else 99)
    by_cases c : b = 33
    · rw [c, su_hit, if_pos rfl]; rfl
    · rw [su_slot _ _ _ _ c, if_neg c, mb (40, 0) b (by rw [cod_a (by decide)]; decide), ← hs2, srg_app, if_pos ⟨rfl, by omega, by omega⟩]
      rfl
  have r6 : ∀ k, k < 17 → su t5 (40, 0) 33 0 (35, 0) k = σ (11, i) k := fun k hk => by rw [m6 (35, 0) k (by rw [cod_a (by decide)]; decide), mb (35, 0) k (by rw [cod_a (by decide)]; decide), m3 (35, 0) k (by rw [cod_a (by decide)]; decide)]; exact r1' k hk
  have d6 : Id (su t5 (40, 0) 33 0) := dep_Id.mv m6 (by decide) (dep_Id.mv mb (by decide) (dep_Id.mv m3 (by decide) d1))
  obtain ⟨res, g1, g2⟩ := m_fo (hI.2.gd hi) ha r6 A
  have head : ∀ r, bj (some res) (fun (x3, σ7) => some (x3 + (1 : Int32), σ7)) = r → fX9_fewest s (nI i) (nI a) = r := by
    intro r hr
    rw [few_eq, m_isCode, if_pos c1, rM (nI a) 2 1 (by decide), if_pos c2, f1, obi_s, fill40, obi_s, bnd_eq, hs2, hs5, ball, show inb (nI 33) 63 = true by decide, grd_t, bnd_eq, show tn (nI 33) = 33 from rfl, g1]
    exact hr
  have mall : ∀ s', modi KL' (su t5 (40, 0) 33 0) s' → Ix s' := fun s' hm => by
    have a1 : modi PX σ s := modi.tr (modi.rf (L := PX)) m1 (by decide)
    have a2 := ((((a1.tr m2 (by decide)).tr m3 (by decide)).tr mb (by decide)).tr m6 (by decide)).tr hm (by decide)
    exact ⟨hI.1.mv a2 PX_Iv, dep_Id.mv hm (by decide) d6⟩
  rw [if_pos c1, if_pos c2, (in11 hi).1, grd_t, (in11 hi).2, e1, obi_s]
  rcases q with ⟨rfl, hno⟩ | ⟨ρ, p1, p2, rfl, p3⟩
  · rcases g2 with ⟨s', rfl, ms, -⟩ | ⟨s', ρ', rfl, ms, k1, k2, k3⟩
    · exact ⟨-1, s, s', rfl, head _ (by rw [bj_sl]), mall s' ms⟩
    · have := hno ρ' k1
      omega
  · rcases g2 with ⟨s', rfl, ms, hno⟩ | ⟨s', ρ', rfl, ms, k1, k2, k3⟩
    · have := hno ρ p1
      omega
    · have e := p3 ρ' k1
      have e' := k3 ρ p1
      have l0 : ¬ ρ'.length = 0 := by
        intro w
        rw [List.length_eq_zero_iff] at w
        subst w
        exact k1
      refine ⟨nI ρ.length, s, s', rfl, head _ ?_, mall s' ms⟩
      rw [bj_sr]
      show some (nI (ρ'.length - 1) + 1, s') = _
      rw [nI_1, show ρ'.length - 1 + 1 = ρ.length by omega]
