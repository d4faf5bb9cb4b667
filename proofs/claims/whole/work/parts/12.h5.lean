theorem modi.two {L : List Nat} {σ s τ : St} (h : modi L σ s) (h' : modi L σ τ) : modi L s τ := fun r k hr => (h' r k hr).trans (h r k hr).symm
theorem mixf_0 (a : Int32) (f : Nat → Int32) (k : Nat) : mixf a f f k = f k := by unfold mixf; split <;> rfl
theorem AP_Iv : ∀ x ∈ dIv, ¬ x ∈ AP := by decide
theorem wins {σ : St} (hI : Ix σ) {m j : Nat} (hm : m < 12) (hj : j < 11) : ∃ W : Int32, (∀ s, modi AP σ s → Id s → ∃ s', fX3_playUnder s m (11, j) 0 = some s' ∧ fX4_winner s' 0 = W ∧ modi XP s s') ∧ ∀ τ, modi AP σ τ → Id τ → ∃ τ', fX9_winner τ (nI m) (nI j) = some (W, τ') ∧ Id τ' ∧ modi MP τ τ' := by
  have both : ∀ s τ, modi AP σ s → Id s → modi AP σ τ → Id τ → ∃ s' τ', fX3_playUnder s m (11, j) 0 = some s' ∧ fX9_winner τ (nI m) (nI j) = some (fX4_winner s' 0, τ') ∧ Id τ' := by
    intro s τ h1 h2 h3 h4
    obtain ⟨n, pm⟩ := Im_PM (hI.1.mv h1 AP_Iv) hm
    obtain ⟨s', τ1, τ2, p1, p2, p3, p4, p5, p6⟩ := play_go (a := 0) (r := (11, j)) h4 (h1.two h3) h2 pm hj hj (ia_of (f := 11) rfl hj) rfl (by simp) (fun k hk => (mixf_0 _ _ _).symm)
    refine ⟨s', τ2, p1, ?_, p5⟩
    unfold fX9_winner
    rw [p2, obi_s, p3, obi_s, g_win p4]
  obtain ⟨s0, t0, x0, y0, -⟩ := both σ σ modi.rf hI.2 modi.rf hI.2
  refine ⟨fX4_winner s0 0, ?_, ?_⟩
  · intro s h1 h2
    obtain ⟨s', t', x1, y1, -⟩ := both s σ h1 h2 modi.rf hI.2
    refine ⟨s', x1, ?_, mX3_playUnder x1⟩
    rw [y0] at y1
    exact (congrArg Prod.fst (Option.some.inj y1)).symm
  · intro τ h1 h2
    obtain ⟨s', t', x1, y1, z1⟩ := both σ τ modi.rf hI.2 h1 h2
    rw [x0] at x1
    have := Option.some.inj x1
    subst this
    exact ⟨t', y1, z1, mX9_winner y1⟩
set_option maxHeartbeats 2000000 in
theorem op_turned {σ : St} (hI : Ix σ) (a1 a2 : Int32) : ∃ v σ1 σ2, fX8_turned σ a1 a2 = some (v, σ1) ∧ fX9_turned σ1 a1 a2 = some (v, σ2) ∧ Ix σ2 := by
  obtain ⟨nm, hnm, e1, e2⟩ := match_at hI.1
  by_cases c1 : inb a1 11 = true
  case neg =>
    refine ⟨-2, σ, σ, ?_, ?_, hI⟩
    · unfold fX8_turned; rw [x_isCode, if_neg c1]
    · unfold fX9_turned; rw [m_isCode, if_neg c1]
  by_cases c2 : inb a2 11 = true
  case neg =>
    refine ⟨-2, σ, σ, ?_, ?_, hI⟩
    · unfold fX8_turned; rw [x_isCode, if_pos c1, x_isCode, if_neg c2]
    · unfold fX9_turned; rw [m_isCode, if_pos c1, m_isCode, if_neg c2]
  obtain ⟨i, hi, rfl⟩ := inb_ex (by decide) c1
  obtain ⟨j, hj, rfl⟩ := inb_ex (by decide) c2
  have hW : ∀ q, q < 11 → ∃ W : Nat → Int32, ∀ m, m < 12 → (∀ s, modi AP σ s → Id s → ∃ s', fX3_playUnder s m (11, q) 0 = some s' ∧ fX4_winner s' 0 = W m ∧ modi XP s s') ∧ ∀ τ, modi AP σ τ → Id τ → ∃ τ', fX9_winner τ (nI m) (nI q) = some (W m, τ') ∧ Id τ' ∧ modi MP τ τ' := by
    intro q hq
    have : ∀ m, ∃ W : Int32, m < 12 → (∀ s, modi AP σ s → Id s → ∃ s', fX3_playUnder s m (11, q) 0 = some s' ∧ fX4_winner s' 0 = W ∧ modi XP s s') ∧ ∀ τ, modi AP σ τ → Id τ → ∃ τ', fX9_winner τ (nI m) (nI q) = some (W, τ') ∧ Id τ' ∧ modi MP τ τ' := by
      intro m
      by_cases hm : m < 12
      · obtain ⟨W, h⟩ := wins hI hm hq
        exact ⟨W, fun _ => h⟩
      · exact ⟨0, fun h => absurd h hm⟩
    exact ⟨fun m => (this m).choose, fun m hm => (this m).choose_spec hm⟩
  obtain ⟨Wi, hWi⟩ := hW i hi
  obtain ⟨Wj, hWj⟩ := hW j hj
  have X : ∃ b, fX8_turned σ (nI i) (nI j) = some b ∧ b.1 = cn (fun m => !(decide (Wi m = Wj m))) nm ∧ modi XP σ b.2 := by
    unfold fX8_turned
    rw [x_isCode, if_pos c1, x_isCode, if_pos c2]
    refine lpF_for (fun m s => s.1 = cn (fun m => !(decide (Wi m = Wj m))) m ∧ s.2.1 = nI m ∧ modi XP σ s.2.2) nm ?_ ?_ (by omega) ⟨rfl, rfl, modi.rf⟩
    · rintro m ⟨x, y, s⟩ hm ⟨rfl, rfl, h1⟩
      replace h1 : modi XP σ s := h1
      have hA : modi AP σ s := modi.tr (modi.rf (L := AP)) h1 (by decide)
      have hId : Id s := dep_Id.mv h1 (by decide) hI.2
      obtain ⟨s2, p1, p2, p3⟩ := (hWi m (by omega)).1 s hA hId
      have h2 : modi XP σ s2 := modi.tr h1 p3 (by decide)
      obtain ⟨s3, q1, q2, q3⟩ := (hWj m (by omega)).1 s2 (modi.tr (modi.rf (L := AP)) h2 (by decide)) (dep_Id.mv h2 (by decide) hI.2)
      have h3 : modi XP σ s3 := modi.tr h2 q3 (by decide)
      obtain ⟨i1, i2⟩ := in12 (show m < 12 by omega)
      have r1 : s (8, 0) 10 = nI nm := by rw [h1 (8, 0) 10 (by rw [cod_o (by decide)]; decide), e1]
      refine Or.inl ⟨(cn (fun m => !(decide (Wi m = Wj m))) (m + 1), nI (m + 1), s3), ?_, rfl, rfl, h3⟩
      simp only [r1, leI (show nm < 2 ^ 31 by omega) (show m < 2 ^ 31 by omega), show ¬ nm ≤ m by omega, if_false, i1, i2, (in11 hi).1, (in11 hi).2, (in11 hj).1, (in11 hj).2, grd_t, p1, obi_s, bnd_eq, p2, q1, q2, nI_1, cn_S]
      by_cases c : Wi m = Wj m
      · simp [c]
      · have c' : ¬ Wj m = Wi m := fun e => c e.symm
        simp [c, c']
    · rintro ⟨x, y, s⟩ ⟨rfl, rfl, h1⟩
      replace h1 : modi XP σ s := h1
      have r1 : s (8, 0) 10 = nI nm := by rw [h1 (8, 0) 10 (by rw [cod_o (by decide)]; decide), e1]
      exact ⟨(_, s), by simp only [r1, leI (show nm < 2 ^ 31 by omega) (show nm < 2 ^ 31 by omega), Nat.le_refl, if_true], rfl, h1⟩
  obtain ⟨⟨v, s1⟩, eX, rfl, mX⟩ := X
  replace mX : modi XP σ s1 := mX
  have hId1 : Id s1 := dep_Id.mv mX (by decide) hI.2
  have M : ∃ b, fX9_turned s1 (nI i) (nI j) = some b ∧ b.1 = cn (fun m => !(decide (Wi m = Wj m))) nm ∧ Id b.2 ∧ modi AP σ b.2 := by
    unfold fX9_turned
    rw [m_isCode, if_pos c1, m_isCode, if_pos c2]
    refine lpF_for (fun m s => s.1 = cn (fun m => !(decide (Wi m = Wj m))) m ∧ s.2.1 = nI m ∧ Id s.2.2 ∧ modi AP σ s.2.2) nm ?_ ?_ (by omega) ⟨rfl, rfl, hId1, modi.tr (modi.rf (L := AP)) mX (by decide)⟩
    · rintro m ⟨x, y, s⟩ hm ⟨rfl, rfl, h0, h1⟩
      replace h0 : Id s := h0
      replace h1 : modi AP σ s := h1
      obtain ⟨s2, p1, p2, p3⟩ := (hWi m (by omega)).2 s h1 h0
      have h2 : modi AP σ s2 := modi.tr h1 p3 (by decide)
      obtain ⟨s3, q1, q2, q3⟩ := (hWj m (by omega)).2 s2 h2 p2
      have h3 : modi AP σ s3 := modi.tr h2 q3 (by decide)
      have r1 : s (9, 0) 15 = nI nm := by rw [h1 (9, 0) 15 (by rw [cod_o (by decide)]; decide), e2]
      refine Or.inl ⟨(cn (fun m => !(decide (Wi m = Wj m))) (m + 1), nI (m + 1), s3), ?_, rfl, rfl, q2, h3⟩
      simp only [r1, leI (show nm < 2 ^ 31 by omega) (show m < 2 ^ 31 by omega), show ¬ nm ≤ m by omega, if_false, p1, obi_s, bnd_eq, q1, nI_1, cn_S]
      by_cases c : Wi m = Wj m
      · simp [c]
      · simp [c]
    · rintro ⟨x, y, s⟩ ⟨rfl, rfl, h0, h1⟩
      replace h0 : Id s := h0
      replace h1 : modi AP σ s := h1
      have r1 : s (9, 0) 15 = nI nm := by rw [h1 (9, 0) 15 (by rw [cod_o (by decide)]; decide), e2]
      exact ⟨(_, s), by simp only [r1, leI (show nm < 2 ^ 31 by omega) (show nm < 2 ^ 31 by omega), Nat.le_refl, if_true], rfl, h0, h1⟩
  obtain ⟨⟨v', s2⟩, eM, hv, hId2, mM⟩ := M
  replace hv : v' = cn (fun m => !(decide (Wi m = Wj m))) nm := hv
  subst hv
  exact ⟨_, _, _, eX, eM, hI.1.mv mM AP_Iv, hId2⟩
