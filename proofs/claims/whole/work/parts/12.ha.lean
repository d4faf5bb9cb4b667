theorem mg_Id {τ τ' : St} (h : mg τ τ') (hI : Id τ) : Id τ' := by
  refine dep_Id.mv (L := GP) ?_ (by decide) hI
  intro r k hr
  refine h r k ?_
  rintro ⟨rfl, hk⟩
  refine hr ?_
  rw [cod_o (by decide)]
  have : k = 10 ∨ k = 11 ∨ k = 12 ∨ k = 13 ∨ k = 14 ∨ k = 20 ∨ k = 21 ∨ k = 22 ∨ k = 23 := by omega
  rcases this with rfl | rfl | rfl | rfl | rfl | rfl | rfl | rfl | rfl <;> decide
set_option maxHeartbeats 2000000 in
theorem op_goes {σ : St} (hI : Ix σ) (a1 a2 a3 : Int32) : ∃ v σ1 σ2, fX8_goes σ a1 a2 a3 = some (v, σ1) ∧ fX9_goes σ1 a1 a2 a3 = some (v, σ2) ∧ Ix σ2 := by
  obtain ⟨nm, hnm, e1, e2⟩ := match_at hI.1
  have mM := @mX9_goes
  by_cases c1 : inb a1 nm = true
  case neg =>
    refine ⟨-2, σ, σ, ?_, ?_, hI⟩
    · unfold fX8_goes; rw [x_isMatch (by omega) e1, if_neg c1]
    · unfold fX9_goes; rw [m_isMatch (by omega) e2, if_neg c1]
  by_cases c2 : inb a2 11 = true
  case neg =>
    refine ⟨-2, σ, σ, ?_, ?_, hI⟩
    · unfold fX8_goes; rw [x_isMatch (by omega) e1, if_pos c1, x_isCode, if_neg c2]
    · unfold fX9_goes; rw [m_isMatch (by omega) e2, if_pos c1, m_isCode, if_neg c2]
  obtain ⟨m, hm, rfl⟩ := inb_ex (by omega) c1
  obtain ⟨j, hj, rfl⟩ := inb_ex (by decide) c2
  have hm12 : m < 12 := by omega
  obtain ⟨i1, i2⟩ := in12 hm12
  obtain ⟨n, pm⟩ := Im_PM hI.1 hm12
  have sz : σ (3, m) 2 = nI n := pm.2.2.1
  have sz' : σ (36, 0) m = nI n := pm.2.2.2.1
  have h40 := pm.2.1
  have hin : fX9_in a3 0 (nI n - 1) = inb a3 n := by
    refine rM a3 n _ ?_
    rw [show (1 : Int32) = nI 1 from rfl, pk_sub_toInt (by omega) (by decide)]
    omega
  by_cases c3 : inb a3 n = true
  case neg =>
    refine ⟨-2, σ, σ, ?_, ?_, hI⟩
    · unfold fX8_goes
      rw [x_isMatch (by omega) e1, if_pos c1, x_isCode, if_pos c2, i1, grd_t, i2, sz]
      by_cases d1 : a3 < 0
      · rw [if_pos d1]
      · have d2 : ¬ a3 < nI n := by
          intro e
          refine c3 (inb_iff.2 ⟨?_, ?_⟩)
          · rw [i32_lt] at d1
            have : (0 : Int32).toInt = 0 := rfl
            omega
          · rw [i32_lt, nI_toInt (by omega)] at e
            exact e
        rw [if_neg d1, if_neg d2]
    · unfold fX9_goes
      rw [m_isMatch (by omega) e2, if_pos c1, m_isCode, if_pos c2, i1, grd_t, i2, sz', hin, if_neg c3]
  obtain ⟨p, hp, rfl⟩ := inb_ex (by omega) c3
  have both : ∀ τ, modi AP σ τ → Id τ → ∃ w s' τ', fX3_wayOf σ m (nI p) (11, j) 0 = some (w, s') ∧ fX9_goes τ (nI m) (nI j) (nI p) = some (w, τ') ∧ Id τ' := by
    intro τ h3 h4
    obtain ⟨τ1, f1, g1, m1, q1⟩ := m_mix h4 hj hj 0
    have rk := rk_mix (a := 0) (r := (11, j)) h3 hI.2 hj hj (ia_of (f := 11) rfl hj) rfl (by simp) (fun k hk => (mixf_0 _ _ _).symm) q1
    have pm1 : PM σ τ1 m n := (pm.ap h3).ap (modi.tr (modi.rf (L := AP)) m1 (by decide))
    obtain ⟨w, s', τ', u1, u2, u3⟩ := g_way (t := 0) rk pm1 hp
    refine ⟨w, s', τ', u1, ?_, mg_Id u3 g1⟩
    have r15 : τ (9, 0) 15 = nI nm := by rw [h3 (9, 0) 15 (by rw [cod_o (by decide)]; decide), e2]
    have r36 : τ (36, 0) m = nI n := by rw [h3 (36, 0) m (by rw [cod_a (by decide)]; decide), sz']
    unfold fX9_goes
    rw [m_isMatch (by omega) r15, if_pos c1, m_isCode, if_pos c2, i1, grd_t, i2, r36, hin, if_pos c3, f1, obi_s, bnd_eq]
    exact u2
  obtain ⟨w, s, -, x1, -⟩ := both σ modi.rf hI.2
  have mx := mX3_wayOf x1
  obtain ⟨w', s', τ', x2, y2, z2⟩ := both s (modi.tr (modi.rf (L := AP)) mx (by decide)) (dep_Id.mv mx (by decide) hI.2)
  rw [x1] at x2
  have : w = w' := congrArg Prod.fst (Option.some.inj x2)
  subst this
  refine ⟨w, s, τ', ?_, y2, ?_⟩
  · have d1 : ¬ nI p < 0 := nI_pos (by omega)
    have d2 : nI p < nI n := by rw [ltI (by omega) (by omega)]; exact hp
    unfold fX8_goes
    rw [x_isMatch (by omega) e1, if_pos c1, x_isCode, if_pos c2, i1, grd_t, i2, sz, if_neg d1, if_pos d2, grd_t, (in11 hj).1, grd_t, (in11 hj).2, x1, obi_s]
  · exact hI.ap (modi.tr (modi.tr (modi.rf (L := 28 :: AP)) mx (by decide)) (mM y2) (by decide)) z2
