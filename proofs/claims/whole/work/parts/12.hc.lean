set_option maxHeartbeats 2000000 in
theorem op_halves {σ : St} (hI : Ix σ) (a1 a2 a3 a4 : Int32) : ∃ v σ1 σ2, fX8_halves σ a1 a2 a3 a4 = some (v, σ1) ∧ fX9_halves σ1 a1 a2 a3 a4 = some (v, σ2) ∧ Ix σ2 := by
  obtain ⟨nm, hnm, e1, e2⟩ := match_at hI.1
  obtain ⟨nc, hnc, n1, n2⟩ := club_at hI.1
  have mM := @mX9_halves
  have vX : ∀ z : Option (Int32 × St), (fX8_halves σ a1 a2 a3 a4 = z) = ((if (inb a1 nc && (inb a2 nc && !(decide (a1 = a2)))) = true then if inb a3 nm = true then if inb a4 9 = true then grd (inb a3 12) (
        obi (fX8_itemsOf σ a1) (fun x1 =>
        obi (fX8_itemsOf σ a2) (fun x2 =>
        obi (fX3_playByHalves σ (tn a3) x1 x2 0) (fun σ1 =>
        some (fX4_answer σ1 0 a4, σ1))))) else some (-2, σ) else some (-2, σ) else some (-2, σ)) = z) := by
    intro z
    unfold fX8_halves
    rw [areTwo_x (by omega) n1, x_isMatch (by omega) e1, x_isPW]
  by_cases c1 : (inb a1 nc && (inb a2 nc && !(decide (a1 = a2)))) = true
  case neg =>
    refine ⟨-2, σ, σ, by rw [vX, if_neg c1], ?_, hI⟩
    unfold fX9_halves; rw [areTwo_m (by omega) n2, if_neg c1]
  by_cases c2 : inb a3 nm = true
  case neg =>
    refine ⟨-2, σ, σ, by rw [vX, if_pos c1, if_neg c2], ?_, hI⟩
    unfold fX9_halves; rw [areTwo_m (by omega) n2, if_pos c1, m_isMatch (by omega) e2, if_neg c2]
  by_cases c3 : inb a4 9 = true
  case neg =>
    refine ⟨-2, σ, σ, by rw [vX, if_pos c1, if_pos c2, if_neg c3], ?_, hI⟩
    unfold fX9_halves; rw [areTwo_m (by omega) n2, if_pos c1, m_isMatch (by omega) e2, if_pos c2, rM a4 9 8 (by decide), if_neg c3]
  have c1' := c1
  obtain ⟨i, j, hi, hj, hij, rfl, rfl⟩ := areTwo_ex hnc c1'
  obtain ⟨m, hm, rfl⟩ := inb_ex (by omega) c2
  obtain ⟨w, hw, rfl⟩ := inb_ex (by decide) c3
  have hi12 : i < 12 := by omega
  have hj12 : j < 12 := by omega
  have hm12 : m < 12 := by omega
  obtain ⟨ki, h, m', q1, -, -, e1i, e2i, -⟩ := club_x hI.1 hi12
  obtain ⟨kj, h', m'', q2, -, -, f1, f2, -⟩ := club_x hI.1 hj12
  obtain ⟨n, pm⟩ := Im_PM hI.1 hm12
  have both : ∀ τ, modi AP σ τ → Id τ → ∃ s' τ', fX3_playByHalves σ m (11, ki) (11, kj) 0 = some s' ∧ fX9_halves τ (nI i) (nI j) (nI m) (nI w) = some (fX4_answer s' 0 (nI w), τ') ∧ Id τ' := by
    intro τ h3 h4
    obtain ⟨τ1, g0, g1, m1, g2⟩ := m_mix h4 q1 q1 0
    have hA : modi AP σ τ1 := modi.tr h3 m1 (by decide)
    have row : ∀ k, k < 17 → τ1 (35, 0) k = σ (11, ki) k := by
      intro k hk
      rw [g2 k hk, mixf_0]
      exact h3 (11, ki) k (by rw [cod_a (by decide)]; decide)
    obtain ⟨s', τ', u1, u2, u3, u4⟩ := g_halves (t := 0) hI.2 g1 hA pm q1 q2 j hj12 f2 row
    refine ⟨s', τ', u1, ?_, u4⟩
    have r15 : τ (9, 0) 15 = nI nm := by rw [h3 (9, 0) 15 (by rw [cod_o (by decide)]; decide), e2]
    have r28 : τ (9, 0) 28 = nI nc := by rw [h3 (9, 0) 28 (by rw [cod_o (by decide)]; decide), n2]
    have r44 : τ (44, 0) i = nI ki := by rw [h3 (44, 0) i (by rw [cod_a (by decide)]; decide), e2i]
    unfold fX9_halves
    rw [areTwo_m (by omega) r28, if_pos c1, m_isMatch (by omega) r15, if_pos c2, rM (nI w) 9 8 (by decide), if_pos c3, (in12 hi12).1, grd_t, grd_t, (in12 hi12).2, r44, g0, obi_s, bnd_eq, u2, obi_s, g_told u3 hw]
  obtain ⟨s, -, x1, -⟩ := both σ modi.rf hI.2
  have mx := mX3_playByHalves x1
  obtain ⟨s', τ', x2, y2, z2⟩ := both s (modi.tr (modi.rf (L := AP)) mx (by decide)) (dep_Id.mv mx (by decide) hI.2)
  rw [x1] at x2
  have := Option.some.inj x2
  subst this
  refine ⟨fX4_answer s 0 (nI w), s, τ', ?_, y2, ?_⟩
  · rw [vX, if_pos c1, if_pos c2, if_pos c3, (in12 hm12).1, grd_t, x_itemsOf hi12 q1 e1i, obi_s, x_itemsOf hj12 q2 f1, obi_s, (in12 hm12).2, x1, obi_s]
  · exact hI.ap (modi.tr (modi.tr (modi.rf (L := 28 :: AP)) mx (by decide)) (mM y2) (by decide)) z2
