theorem rk_mix {s τ τ1 : St} {i j : Nat} {a : Int32} {r : Rf} (hm : modi AP s τ) (hs : Id s) (hi : i < 11) (hj : j < 11) (r1 : isIA r = true) (r2 : alen r.1 = 17) (r3 : ¬ r.1 = 4) (r4 : ∀ k, k < 17 → s r k = mixf a (s (11, i)) (s (11, j)) k) (q1 : ∀ k, k < 17 → τ1 (35, 0) k = mixf a (τ (11, i)) (τ (11, j)) k) : RK s r τ1 := by
  have r11 : ∀ q k, τ (11, q) k = s (11, q) k := fun q k => hm _ _ (by rw [cod_a (by decide)]; decide)
  refine ⟨r1, r2, r3, fun k hk => ?_⟩
  rw [r4 k hk, q1 k hk]
  unfold mixf
  rw [r11, r11]
  obtain ⟨v, hv, e⟩ := hs.it hi hk
  obtain ⟨w, hw, e'⟩ := hs.it hj hk
  by_cases c : (a >>> (nI k &&& 31)) &&& 1 = 1
  · rw [if_pos c]; exact ⟨w, hw, e', e'⟩
  · rw [if_neg c]; exact ⟨v, hv, e, e⟩
theorem fitW {σ : St} (hI : Ix σ) {m j : Nat} (hm : m < 12) (hj : j < 11) : ∃ b : Bool, (∀ s, modi AP σ s → Id s → ∃ s', fX3_agreesWith s m (11, j) 0 = some (b, s') ∧ modi XP s s') ∧ ∀ τ, modi AP σ τ → Id τ → ∃ τ', fX9_doesFit τ (nI j) (nI m) = some (b, τ') ∧ Id τ' ∧ modi MP τ τ' := by
  have both : ∀ s τ, modi AP σ s → Id s → modi AP σ τ → Id τ → ∃ b s' τ', fX3_agreesWith s m (11, j) 0 = some (b, s') ∧ fX9_doesFit τ (nI j) (nI m) = some (b, τ') ∧ Id τ' := by
    intro s τ h1 h2 h3 h4
    obtain ⟨n, pm⟩ := Im_PM (hI.1.mv h1 AP_Iv) hm
    obtain ⟨τ1, e1, g1, m1, q1⟩ := m_mix h4 hj hj 0
    have rk := rk_mix (a := 0) (r := (11, j)) (h1.two h3) h2 hj hj (ia_of (f := 11) rfl hj) rfl (by simp) (fun k hk => (mixf_0 _ _ _).symm) q1
    have pm1 : PM s τ1 m n := (pm.ap (h1.two h3)).ap (modi.tr (modi.rf (L := AP)) m1 (by decide))
    obtain ⟨b, s', τ', f1, f2, f3⟩ := g_fits (t := 0) rk pm1
    refine ⟨b, s', τ', f1, ?_, ?_⟩
    · unfold fX9_doesFit
      rw [e1, obi_s, bnd_eq]
      exact f2
    · refine dep_Id.mv (L := GP) ?_ (by decide) g1
      intro r k hr
      refine f3 r k ?_
      rintro ⟨rfl, hk⟩
      refine hr ?_
      rw [cod_o (by decide)]
      have : k = 10 ∨ k = 11 ∨ k = 12 ∨ k = 13 ∨ k = 14 ∨ k = 20 ∨ k = 21 ∨ k = 22 ∨ k = 23 := by omega
      rcases this with rfl | rfl | rfl | rfl | rfl | rfl | rfl | rfl | rfl <;> decide
  obtain ⟨b0, s0, t0, x0, y0, -⟩ := both σ σ modi.rf hI.2 modi.rf hI.2
  refine ⟨b0, ?_, ?_⟩
  · intro s h1 h2
    obtain ⟨b, s', t', x1, y1, -⟩ := both s σ h1 h2 modi.rf hI.2
    rw [y0] at y1
    have : b0 = b := congrArg Prod.fst (Option.some.inj y1)
    subst this
    exact ⟨s', x1, mX3_agreesWith x1⟩
  · intro τ h1 h2
    obtain ⟨b, s', t', x1, y1, z1⟩ := both σ τ modi.rf hI.2 h1 h2
    rw [x0] at x1
    have : b0 = b := congrArg Prod.fst (Option.some.inj x1)
    subst this
    exact ⟨t', y1, z1, mX9_doesFit y1⟩
theorem told_at {σ : St} (hI : Iv σ) {m : Nat} (hm : m < 12) : σ (3, m) 3 = σ (39, 0) m := by
  obtain ⟨n, t, w1, w2, -, -, w3, w4, -⟩ := hI.2.2.2.2.2 m hm
  rw [w3, w4]
theorem op_fits {σ : St} (hI : Ix σ) (a1 a2 : Int32) : ∃ v σ1 σ2, fX8_fits σ a1 a2 = some (v, σ1) ∧ fX9_fits σ1 a1 a2 = some (v, σ2) ∧ Ix σ2 := by
  obtain ⟨nm, hnm, e1, e2⟩ := match_at hI.1
  by_cases c1 : inb a1 11 = true
  case neg =>
    refine ⟨-2, σ, σ, ?_, ?_, hI⟩
    · unfold fX8_fits; rw [x_isCode, if_neg c1]
    · unfold fX9_fits; rw [m_isCode, if_neg c1]
  by_cases c2 : inb a2 nm = true
  case neg =>
    refine ⟨-2, σ, σ, ?_, ?_, hI⟩
    · unfold fX8_fits; rw [x_isCode, if_pos c1, x_isMatch (by omega) e1, if_neg c2]
    · unfold fX9_fits; rw [m_isCode, if_pos c1, m_isMatch (by omega) e2, if_neg c2]
  obtain ⟨j, hj, rfl⟩ := inb_ex (by decide) c1
  obtain ⟨m, hm, rfl⟩ := inb_ex (by omega) c2
  have hm12 : m < 12 := by omega
  obtain ⟨i1, i2⟩ := in12 hm12
  have ht := told_at hI.1 hm12
  by_cases c3 : σ (3, m) 3 = 0
  · refine ⟨-3, σ, σ, ?_, ?_, hI⟩
    · unfold fX8_fits; rw [x_isCode, if_pos c1, x_isMatch (by omega) e1, if_pos c2, i1, grd_t, i2, if_pos c3]
    · unfold fX9_fits; rw [m_isCode, if_pos c1, m_isMatch (by omega) e2, if_pos c2, i1, grd_t, i2, if_pos (by rw [← ht]; exact c3)]
  obtain ⟨b, hX, hM⟩ := fitW hI hm12 hj
  obtain ⟨s, x1, x2⟩ := hX σ modi.rf hI.2
  have hIs : Id s := dep_Id.mv x2 (by decide) hI.2
  obtain ⟨τ', y1, y2, y3⟩ := hM s (modi.tr (modi.rf (L := AP)) x2 (by decide)) hIs
  refine ⟨if b = true then 1 else 0, s, τ', ?_, ?_, ?_⟩
  · unfold fX8_fits
    rw [x_isCode, if_pos c1, x_isMatch (by omega) e1, if_pos c2, i1, grd_t, i2, if_neg c3, grd_t, (in11 hj).1, grd_t, (in11 hj).2, x1, obi_s]
    cases b <;> rfl
  · have e2' : s (9, 0) 15 = nI nm := by rw [x2 (9, 0) 15 (by rw [cod_o (by decide)]; decide), e2]
    have t39 : ¬ s (39, 0) m = 0 := by rw [x2 (39, 0) m (by rw [cod_a (by decide)]; decide), ← ht]; exact c3
    unfold fX9_fits
    rw [m_isCode, if_pos c1, m_isMatch (by omega) e2', if_pos c2, i1, grd_t, i2, if_neg t39, y1, obi_s]
    cases b <;> rfl
  · exact hI.ap (modi.tr (modi.tr (modi.rf (L := 28 :: AP)) x2 (by decide)) y3 (by decide)) y2
