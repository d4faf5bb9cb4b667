theorem has_n {σ : St} {s n : Nat} (hn : n ≤ 60) (e : σ (6, s) 3 = nI n) {k : Nat} (hk : k < 2 ^ 31) : fX6_has σ s (nI k) = decide (k < n) := by
  unfold fX6_has
  rw [e, rX (nI k) n (nI n) (nI_toInt (by omega)), inb_nI hk]
/-- a verdict as it is kept -/
def vv (x : Int32) : Int32 := if x = 0 then x else if x = 1 then x else -1
theorem vv3 (x : Int32) : vv x = -1 ∨ vv x = 0 ∨ vv x = 1 := by
  unfold vv
  by_cases h : x = 0
  · simp [h]
  · by_cases h2 : x = 1
    · simp [h2]
    · simp [h, h2]
set_option maxHeartbeats 1000000 in
theorem x_setVerdicts {σ : St} {m s n : Nat} (hm : m < 12) (hs : s < 4) (hn : n ≤ 60) (e : σ (6, s) 3 = nI n) : fX3_setVerdicts σ m s = some (su (srg σ (14, m) 0 40 (fun k => if k < n then vv (σ (20, s) k) else -1)) (3, m) 3 1) := by
  unfold fX3_setVerdicts
  rw [lpF_fx (X := srg σ (14, m) 0 40 (fun k => if k < n then vv (σ (20, s) k) else -1)) (fun i a => a = (nI i, srg σ (14, m) 0 i (fun k => if k < n then vv (σ (20, s) k) else -1))) 40 ?_ ?_ (by decide) ?_]
  · simp only [obi_s, bnd_eq]
  · intro i a hi ha
    subst ha
    refine Or.inl ⟨_, ?_, rfl⟩
    have u1 : ¬ (40 : Int32) ≤ nI i := nI_ge (b := 40) hi (by decide)
    have u2 : inb (nI i) 60 = true := by rw [inb_nI (by omega)]; simp; omega
    have u3 : inb (nI i) 40 = true := by rw [inb_nI (by omega)]; simp; omega
    have ti := tn_nI (show i < 2 ^ 31 by omega)
    have e' : srg σ (14, m) 0 i (fun k => if k < n then vv (σ (20, s) k) else -1) (6, s) 3 = nI n := by simp [srg_app, e]
    have k5 : srg σ (14, m) 0 i (fun k => if k < n then vv (σ (20, s) k) else -1) (20, s) i = σ (20, s) i := by simp [srg_app]
    have key : ∀ v, v = (if i < n then vv (σ (20, s) i) else -1) → su (srg σ (14, m) 0 i (fun k => if k < n then vv (σ (20, s) k) else -1)) (14, m) i v = srg σ (14, m) 0 (i + 1) (fun k => if k < n then vv (σ (20, s) k) else -1) := by
      intro v hv
      have := srg_su σ (14, m) 0 i (fun k => if k < n then vv (σ (20, s) k) else -1) hv
      simpa using this
    simp only [u1, if_false, has_n hn e' (show i < 2 ^ 31 by omega), decide_eq_true_eq, u2, grd_t, ti, k5, u3, bnd_eq, nI_1]
    by_cases hlt : i < n
    · by_cases h0 : σ (20, s) i = 0
      · simp only [hlt, if_true, h0, obi_s, show ¬ (1 : Int32) = 0 by decide, if_false]
        rw [key _ (by rw [if_pos hlt, h0]; rfl)]
      · by_cases h1 : σ (20, s) i = 1
        · simp only [hlt, if_true, h1, obi_s, show ¬ (1 : Int32) = 0 by decide, if_false]
          rw [key _ (by rw [if_pos hlt, h1]; rfl)]
        · simp only [hlt, if_true, h0, h1, obi_s, if_false]
          rw [key _ (by rw [if_pos hlt, vv, if_neg h0, if_neg h1])]
    · simp only [hlt, if_false, obi_s, if_true]
      rw [key _ (by rw [if_neg hlt])]
  · intro a ha
    subst ha
    exact ⟨_, by simp only [show (40 : Int32) ≤ nI 40 from by decide, if_true], rfl⟩
  · simp only [srg_0, nI_0]
set_option maxHeartbeats 1000000 in
theorem op_verdicts {σ : St} (hI : Iv σ) (a1 a2 : Int32) : ∃ v σ1 σ2, fX8_verdicts σ a1 a2 = some (v, σ1) ∧ fX9_verdicts σ1 a1 a2 = some (v, σ2) ∧ Iv σ2 := by
  obtain ⟨hb, hc, hl, hw, hs, hm⟩ := id hI
  obtain ⟨nm, nc, ra, rb, rq, h1, h2, h3, h4, h5, h6, e1, e2, e3, e4, e5, e6, e7, e8, e9, e10, e11⟩ := id hb
  have xm := x_isMatch (show nm < 2 ^ 31 by omega) e1 a1
  have mm := m_isMatch (show nm < 2 ^ 30 by omega) e2 a1
  by_cases c1 : inb a1 nm = true
  · by_cases c2 : inb a2 4 = true
    · obtain ⟨m, hm', rfl⟩ := inb_ex (by omega) c1
      obtain ⟨s, hs4, rfl⟩ := inb_ex (by decide) c2
      have tm := tn_nI (show m < 2 ^ 31 by omega)
      have ts := tn_nI (show s < 2 ^ 31 by omega)
      have c3 : inb (nI m) 12 = true := inb_mono c1 h1
      obtain ⟨l, t, n, q1, q2, q3, s1, s2, s3, s4, s5, s6, s7⟩ := hs s hs4
      obtain ⟨n0, t0, y1, y2, y3, y4, y5, y6, y7, y8, y9⟩ := hm m (by omega)
      have n1 : ¬ (nI 1 : Int32) = 0 := by decide
      rcases nI2 q1 with rfl | rfl
      · have g1 : fX8_verdicts σ (nI m) (nI s) = some (1, su (srg σ (14, m) 0 40 (fun k => if k < n then vv (σ (20, s) k) else -1)) (3, m) 3 1) := by
          simp only [fX8_verdicts, xm, c1, x_isSheet, c2, grd_t, ts, tm, s1, nI_0, c3, x_setVerdicts (show m < 12 by omega) hs4 q3 s5, obi_s, if_true]
        generalize hσ1 : su (srg σ (14, m) 0 40 (fun k => if k < n then vv (σ (20, s) k) else -1)) (3, m) 3 1 = σ1 at g1
        have k1 : σ1 (9, 0) 15 = nI nm := by rw [← hσ1]; simp [su_app, srg_app, e2]
        have k2 : σ1 (51, 0) s = nI 1 := by rw [← hσ1]; simp [su_app, srg_app, s2]
        have k3 : σ1 (53, 0) s = nI n := by rw [← hσ1]; simp [su_app, srg_app, s6]
        have k4 : σ1 (36, 0) m = nI n0 := by rw [← hσ1]; simp [su_app, srg_app, y4]
        have mm1 := m_isMatch (show nm < 2 ^ 30 by omega) k1 (nI m)
        have g2 : fX9_verdicts σ1 (nI m) (nI s) = some (1, su (srg σ1 (38, 0) (40 * m) n0 (fun k => if k < n then vv (σ1 (54, 0) (60 * s + k)) else -1)) (39, 0) m 1) := by
          simp only [fX9_verdicts, mm1, c1, m_isSheet, c2, grd_t, ts, k2, n1, if_false, if_true]
          rw [lpF_fx (X := srg σ1 (38, 0) (40 * m) n0 (fun k => if k < n then vv (σ1 (54, 0) (60 * s + k)) else -1)) (fun i a => a = (nI i, srg σ1 (38, 0) (40 * m) i (fun k => if k < n then vv (σ1 (54, 0) (60 * s + k)) else -1))) n0 ?_ ?_ (by omega) ?_]
          · simp only [obi_s, c3, grd_t, bnd_eq, tm, nbo1]
          · intro i a hi ha
            subst ha
            refine Or.inl ⟨_, ?_, rfl⟩
            have k4' : srg σ1 (38, 0) (40 * m) i (fun k => if k < n then vv (σ1 (54, 0) (60 * s + k)) else -1) (36, 0) m = nI n0 := by simp [srg_app, k4]
            have k3' : srg σ1 (38, 0) (40 * m) i (fun k => if k < n then vv (σ1 (54, 0) (60 * s + k)) else -1) (53, 0) s = nI n := by simp [srg_app, k3]
            have k5' : srg σ1 (38, 0) (40 * m) i (fun k => if k < n then vv (σ1 (54, 0) (60 * s + k)) else -1) (54, 0) (60 * s + i) = σ1 (54, 0) (60 * s + i) := by simp [srg_app]
            have u1 : ¬ nI n0 ≤ nI i := nI_ge hi (by omega)
            have u2 : inb (nI (60 * s + i)) 240 = true := by rw [inb_nI (by omega)]; simp; omega
            have u3 : inb (nI (40 * m + i)) 480 = true := by rw [inb_nI (by omega)]; simp; omega
            have u4 : inb (nI s) 4 = true := c2
            simp only [c3, grd_t, tm, k4', u1, if_false, ts, k3', ix60, u2, tn_nI (show 60 * s + i < 2 ^ 31 by omega), k5', ix40, u3, tn_nI (show 40 * m + i < 2 ^ 31 by omega), bnd_eq, nI_1, u4]
            by_cases hlt : i < n
            · have u5 : ¬ nI n ≤ nI i := nI_ge hlt (by omega)
              simp only [u5, if_false, obi_s]
              rw [srg_su σ1 (38, 0) (40 * m) i (fun k => if k < n then vv (σ1 (54, 0) (60 * s + k)) else -1) (by simp only [hlt, if_true]; rfl)]
            · have u5 : nI n ≤ nI i := nI_le (by omega) (by omega)
              simp only [u5, if_true, obi_s, show ¬ (-1 : Int32) = 0 by decide, show ¬ (-1 : Int32) = 1 by decide, if_false]
              rw [srg_su σ1 (38, 0) (40 * m) i (fun k => if k < n then vv (σ1 (54, 0) (60 * s + k)) else -1) (by simp only [hlt, if_false])]
          · intro a ha
            subst ha
            have k4' : srg σ1 (38, 0) (40 * m) n0 (fun k => if k < n then vv (σ1 (54, 0) (60 * s + k)) else -1) (36, 0) m = nI n0 := by simp [srg_app, k4]
            exact ⟨_, by simp only [c3, grd_t, tm, k4', show nI n0 ≤ nI n0 from nI_le (Nat.le_refl _) (by omega), if_true], rfl⟩
          · simp only [srg_0, nI_0]
        generalize hσ2 : su (srg σ1 (38, 0) (40 * m) n0 (fun k => if k < n then vv (σ1 (54, 0) (60 * s + k)) else -1)) (39, 0) m 1 = σ2 at g2
        have hmod : modi [14, 1303] σ σ1 := by
          rw [← hσ1]
          exact modi.su (modi.srg modi.rf (show ¬ (14 : Nat) < 10 by decide) (show (14 : Nat) ∈ _ by decide)) (show (1303 : Nat) ∈ _ by decide)
        have hmod2 : modi [14, 1303, 38, 39] σ σ2 := by
          rw [← hσ2]
          exact modi.su (modi.srg (modi.tr modi.rf hmod (by decide)) (show ¬ (38 : Nat) < 10 by decide) (show (38 : Nat) ∈ _ by decide)) (show (39 : Nat) ∈ _ by decide)
        refine ⟨_, _, _, g1, g2, dep_Ib.mv hmod2 (by decide) hb, dep_Ic.mv hmod2 (by decide) hc, dep_Il.mv hmod2 (by decide) hl, dep_Iw.mv hmod2 (by decide) hw, dep_Is.mv hmod2 (by decide) hs, ?_⟩
        intro m2 hm2
        obtain ⟨w0, w1, x1, x2, x3, x4, x5, x6, x7, x8, x9⟩ := hm m2 hm2
        by_cases hmm : m2 = m
        · subst hmm
          have hw0 : w0 = n0 := (nI_eq (by omega) (by omega)).mp (x3.symm.trans y3)
          subst hw0
          refine ⟨w0, 1, x1, by decide, ?_⟩
          rw [← hσ2, ← hσ1]
          simp [su_app, srg_app, x3, x4]
          refine ⟨rfl, ?_, ?_, ?_⟩
          · intro k hk
            have e0 := x7 k hk
            refine ⟨e0.1, ?_⟩
            simp only [hk, show k < 40 by omega, if_true]
            by_cases hkn : k < n
            · rw [if_pos hkn, if_pos hkn, s7 k (by omega)]
            · rw [if_neg hkn, if_neg hkn]
          · intro k hk
            rw [if_pos hk]
            by_cases hkn : k < n
            · rw [if_pos hkn]
              exact vv3 _
            · rw [if_neg hkn]
              exact Or.inl rfl
          · intro n' hn' hle
            have := (nI_eq (by omega) (by omega)).mp (e1.symm.trans hn')
            omega
        · refine ⟨w0, w1, x1, x2, ?_⟩
          rw [← hσ2, ← hσ1]
          simp [su_app, srg_app, hmm, x3, x4, x5, x6]
          refine ⟨?_, x8, x9⟩
          intro k hk
          rw [if_neg (by omega)]
          exact x7 k hk
      · refine ⟨-10 - 1, su σ (8, 0) 15 1, su (su σ (8, 0) 15 1) (9, 0) 44 1, ?_, ?_, Iv_find hI 1⟩
        · simp [fX8_verdicts, xm, c1, x_isSheet, c2, grd_t, ts, s1, n1, bnd_eq, fX8_refuse]
        · have mm1 := m_isMatch (σ := su σ (8, 0) 15 1) (show nm < 2 ^ 30 by omega) (by simp [su_app, e2]) (nI m)
          simp [fX9_verdicts, mm1, c1, m_isSheet, c2, grd_t, ts, su_app, s2, nI_0, bnd_eq, fX9_meets]
    · refine ⟨-2, σ, σ, ?_, ?_, hI⟩
      · simp [fX8_verdicts, xm, c1, x_isSheet, c2]
      · simp [fX9_verdicts, mm, c1, m_isSheet, c2]
  · refine ⟨-2, σ, σ, ?_, ?_, hI⟩
    · simp [fX8_verdicts, xm, c1]
    · simp [fX9_verdicts, mm, c1]
