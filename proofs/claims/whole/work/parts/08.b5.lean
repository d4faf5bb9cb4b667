theorem ix40 (s i : Nat) : (40 : Int32) * nI s + nI i = nI (40 * s + i) := by
  rw [show (40 : Int32) = nI 40 from rfl, pk_mul, nI_add]
theorem mmax_mmin {n : Nat} (h : n ≤ 40) : mmax 0 (mmin (nI n) 40) = nI n := by
  have h1 : mmin (nI n) 40 = nI n := by
    unfold mmin
    by_cases e : n = 40
    · subst e; rfl
    · rw [if_neg (show ¬ (40 : Int32) < nI n from nI_nlt (a := 40) (b := n) h (by decide))]
  rw [h1]
  unfold mmax
  by_cases e : n = 0
  · subst e; rfl
  · rw [if_pos (show (0 : Int32) < nI n from nI_lt (a := 0) (b := n) (by omega) (by omega))]
theorem leI {a b : Nat} (ha : a < 2 ^ 31) (hb : b < 2 ^ 31) : (nI a ≤ nI b) = (a ≤ b) := propext (nI_leI ha hb)
theorem ltI {a b : Nat} (ha : a < 2 ^ 31) (hb : b < 2 ^ 31) : (nI a < nI b) = (a < b) := propext (nI_ltI ha hb)
theorem eqI {a b : Nat} (ha : a < 2 ^ 31) (hb : b < 2 ^ 31) : (nI a = nI b) = (a = b) := propext (nI_eq ha hb)
theorem rM40 (a : Int32) : fX9_in a 0 39 = inb a 40 := rM a 40 39 (by decide)
set_option maxHeartbeats 1000000 in
theorem op_match {σ : St} (hI : Iv σ) (a1 a2 : Int32) : ∃ v σ1 σ2, fX8_match σ a1 a2 = some (v, σ1) ∧ fX9_match σ1 a1 a2 = some (v, σ2) ∧ Iv σ2 := by
  obtain ⟨hb, hc, hl, hw, hs, hm⟩ := id hI
  obtain ⟨nm, nc, ra, rb, rq, h1, h2, h3, h4, h5, h6, e1, e2, e3, e4, e5, e6, e7, e8, e9, e10, e11⟩ := id hb
  by_cases c1 : inb a1 4 = true
  · by_cases c2 : inb a2 41 = true
    · obtain ⟨s, hs4, rfl⟩ := inb_ex (by decide) c1
      obtain ⟨n, hn, rfl⟩ := inb_ex (by decide) c2
      have ts := tn_nI (show s < 2 ^ 31 by omega)
      obtain ⟨l, t, z, q1, q2, q3, s1, s2, s3, s4, s5, s6, s7⟩ := hs s hs4
      have p0 : ¬ nI n < 0 := nI_pos (by omega)
      have p1 : nI n ≤ (40 : Int32) := nI_le (b := 40) (by omega) (by decide)
      have r1 : fX9_in (nI n) 0 40 = true := by rw [rM (nI n) 41 40 (by decide)]; exact c2
      have n1 : ¬ (nI 1 : Int32) = 0 := by decide
      rcases nI2 q1 with rfl | rfl
      · by_cases c3 : n ≤ z
        · have c3' : nI n ≤ nI z := nI_le c3 (by omega)
          by_cases c4 : nm = 12
          · subst c4
            refine ⟨-4, σ, σ, ?_, ?_, hI⟩
            · simp [fX8_match, x_isSheet, c1, p0, p1, grd_t, ts, s1, nI_0, s5, c3', e1, show ¬ nI 12 < 12 by decide]
            · simp [fX9_match, m_isSheet, c1, r1, grd_t, ts, s2, n1, s6, c3', e2, show nI 12 = 12 by decide]
          · have hlt : nm < 12 := by omega
            have tm := tn_nI (show nm < 2 ^ 31 by omega)
            have t1 : nI nm < (12 : Int32) := nI_lt (a := nm) (b := 12) hlt (by decide)
            have t2 : inb (nI nm) 12 = true := by rw [inb_nI (by omega)]; simpa using hlt
            have t3 : ¬ nI nm = (12 : Int32) := fun e => c4 ((nI_eq (by omega) (by decide)).mp (show nI nm = nI 12 from e))
            have g1 : fX8_match σ (nI s) (nI n) = some (nI nm, su (srg (su σ (3, nm) 2 (nI n)) (13, nm) 0 n (fun k => σ (20, s) k)) (8, 0) 10 (nI (nm + 1))) := by
              have ok : acpOk (20, s) 0 (13, nm) 0 (nI n) = true := by
                simp [acpOk, ia_of (f := 20) rfl hs4, wa_of (f := 13) rfl hlt (by decide), p0, tn_nI (show n < 2 ^ 31 by omega), show tn 0 = 0 from rfl]
                exact ⟨by show n ≤ 60; omega, by show n ≤ 40; omega⟩
              have ac : acp (su σ (3, nm) 2 (nI n)) (20, s) 0 (13, nm) 0 (nI n) = srg (su σ (3, nm) 2 (nI n)) (13, nm) 0 n (fun k => σ (20, s) k) := by
                unfold acp srg
                congr 1
                funext k
                rw [va_cpy, tn_nI (show n < 2 ^ 31 by omega), show tn 0 = 0 from rfl]
                by_cases hk : 0 ≤ k ∧ k < 0 + n
                · rw [if_pos hk, if_pos hk]; simp [su_app]
                · rw [if_neg hk, if_neg hk]
              have sz : su σ (3, nm) 2 (nI n) (3, nm) 2 = nI n := su_hit _ _ _ _
              simp only [fX8_match, x_isSheet, c1, if_true, p0, if_false, p1, grd_t, ts, s1, nI_0, s5, c3', e1, t1, t2, tm, fX3_setMoments, mmax_mmin (show n ≤ 40 by omega), bnd_eq, sz, ok, ac, obi_s]
              have e1' : srg (su σ (3, nm) 2 (nI n)) (13, nm) 0 n (fun k => σ (20, s) k) (8, 0) 10 = nI nm := by simp [srg_app, su_app, e1]
              rw [e1', nI_1, su_hit, show (1 : Int32) = nI 1 from rfl, pk_sub (by omega)]
              rfl
            generalize hσ1 : su (srg (su σ (3, nm) 2 (nI n)) (13, nm) 0 n (fun k => σ (20, s) k)) (8, 0) 10 (nI (nm + 1)) = σ1 at g1
            have k2 : σ1 (9, 0) 15 = nI nm := by rw [← hσ1]; simp [su_app, srg_app, e2]
            have k3 : σ1 (51, 0) s = nI 1 := by rw [← hσ1]; simp [su_app, srg_app, s2]
            have k4 : σ1 (53, 0) s = nI z := by rw [← hσ1]; simp [su_app, srg_app, s6]
            have g2 : fX9_match σ1 (nI s) (nI n) = some (nI nm, su (su (su (srg (srg σ1 (37, 0) (40 * nm) n (fun k => mv (σ1 (54, 0) (60 * s + k)))) (38, 0) (40 * nm) n (fun _ => -1)) (36, 0) nm (nI n)) (39, 0) nm 0) (9, 0) 15 (nI (nm + 1))) := by
              simp only [fX9_match, m_isSheet, c1, r1, grd_t, ts, k3, n1, if_false, if_true, k4, c3', k2, t3]
              rw [lpF_fx (X := srg (srg σ1 (37, 0) (40 * nm) n (fun k => mv (σ1 (54, 0) (60 * s + k)))) (38, 0) (40 * nm) n (fun _ => -1)) (fun i a => a = (nI i, srg (srg σ1 (37, 0) (40 * nm) i (fun k => mv (σ1 (54, 0) (60 * s + k)))) (38, 0) (40 * nm) i (fun _ => -1))) n ?_ ?_ (by omega) ?_]
              · have k2' : srg (srg σ1 (37, 0) (40 * nm) n (fun k => mv (σ1 (54, 0) (60 * s + k)))) (38, 0) (40 * nm) n (fun _ => -1) (9, 0) 15 = nI nm := by simp [srg_app, k2]
                simp only [obi_s, k2', t2, grd_t, bnd_eq, tm, nbo0, su_app]
                simp [k2', t2, grd_t, tm, su_app, nI_1]
                rw [show (1 : Int32) = nI 1 from rfl, pk_sub (by omega)]
                rfl
              · intro i a hi ha
                subst ha
                refine Or.inl ⟨_, ?_, rfl⟩
                have u1 : ¬ nI n ≤ nI i := nI_ge hi (by omega)
                have u2 : inb (nI (60 * s + i)) 240 = true := by rw [inb_nI (by omega)]; simp; omega
                have u3 : inb (nI (40 * nm + i)) 480 = true := by rw [inb_nI (by omega)]; simp; omega
                have k2' : srg (srg σ1 (37, 0) (40 * nm) i (fun k => mv (σ1 (54, 0) (60 * s + k)))) (38, 0) (40 * nm) i (fun _ => -1) (9, 0) 15 = nI nm := by simp [srg_app, k2]
                have k5 : srg (srg σ1 (37, 0) (40 * nm) i (fun k => mv (σ1 (54, 0) (60 * s + k)))) (38, 0) (40 * nm) i (fun _ => -1) (54, 0) (60 * s + i) = σ1 (54, 0) (60 * s + i) := by simp [srg_app]
                simp only [u1, if_false, ix60, u2, grd_t, tn_nI (show 60 * s + i < 2 ^ 31 by omega), bnd_eq, k5, rM40, k2', ix40, u3, tn_nI (show 40 * nm + i < 2 ^ 31 by omega), nI_1]
                have k6 : ∀ v, su (srg (srg σ1 (37, 0) (40 * nm) i (fun k => mv (σ1 (54, 0) (60 * s + k)))) (38, 0) (40 * nm) i (fun _ => -1)) (37, 0) (40 * nm + i) v (9, 0) 15 = nI nm := fun v => by simp [su_app, k2']
                rw [k6, ix40, u3, grd_t, tn_nI (show 40 * nm + i < 2 ^ 31 by omega), su_srg _ _ _ _ _ _ (by decide), srg_su σ1 (37, 0) (40 * nm) i (fun k => mv (σ1 (54, 0) (60 * s + k))) (v := (if inb (σ1 (54, 0) (60 * s + i)) 40 = true then σ1 (54, 0) (60 * s + i) else -1)) rfl, srg_su _ (38, 0) (40 * nm) i (fun _ => -1) (v := -1) rfl]
              · intro a ha
                subst ha
                exact ⟨_, by simp only [show nI n ≤ nI n from nI_le (Nat.le_refl _) (by omega), if_true], rfl⟩
              · simp only [srg_0, nI_0]
            have hmod : modi [1302, 13, 1810] σ σ1 := by
              rw [← hσ1]
              exact modi.su (modi.srg (modi.su modi.rf (show (1302 : Nat) ∈ _ by decide)) (show ¬ (13 : Nat) < 10 by decide) (show (13 : Nat) ∈ _ by decide)) (show (1810 : Nat) ∈ _ by decide)
            generalize hσ2 : su (su (su (srg (srg σ1 (37, 0) (40 * nm) n (fun k => mv (σ1 (54, 0) (60 * s + k)))) (38, 0) (40 * nm) n (fun _ => -1)) (36, 0) nm (nI n)) (39, 0) nm 0) (9, 0) 15 (nI (nm + 1)) = σ2 at g2
            have hmod2 : modi [1302, 13, 1810, 37, 38, 36, 39, 1915] σ σ2 := by
              rw [← hσ2]
              exact modi.su (modi.su (modi.su (modi.srg (modi.srg (modi.tr modi.rf hmod (by decide)) (show ¬ (37 : Nat) < 10 by decide) (show (37 : Nat) ∈ _ by decide)) (show ¬ (38 : Nat) < 10 by decide) (show (38 : Nat) ∈ _ by decide)) (show (36 : Nat) ∈ _ by decide)) (show (39 : Nat) ∈ _ by decide)) (show (1915 : Nat) ∈ _ by decide)
            refine ⟨_, _, _, g1, g2, ?_, dep_Ic.mv hmod2 (by decide) hc, dep_Il.mv hmod2 (by decide) hl, dep_Iw.mv hmod2 (by decide) hw, dep_Is.mv hmod2 (by decide) hs, ?_⟩
            · refine ⟨nm + 1, nc, ra, rb, rq, by omega, h2, h3, h4, h5, h6, ?_⟩
              rw [← hσ2, ← hσ1]
              simp [su_app, srg_app, e3, e4, e5, e6, e7, e8, e9, e10, e11]
            · intro m hm'
              obtain ⟨n0, t0, y1, y2, y3, y4, y5, y6, y7, y8, y9⟩ := hm m hm'
              by_cases hmm : m = nm
              · subst hmm
                obtain ⟨y10, y11⟩ := y9 m e1 (by omega) (Nat.le_refl _)
                refine ⟨n, 0, by omega, by decide, ?_⟩
                rw [← hσ2, ← hσ1]
                simp [su_app, srg_app]
                refine ⟨by rw [y5, y10], rfl, ?_, y8, ?_⟩
                · intro k hk
                  rw [if_pos hk, if_pos hk, if_pos hk, ← s7 k (by omega)]
                  exact ⟨rfl, (y11 k (by omega)).symm⟩
                · intro n' hn' _ hge
                  have := (nI_eq (by omega) (by omega)).mp hn'
                  omega
              · refine ⟨n0, t0, y1, y2, ?_⟩
                rw [← hσ2, ← hσ1]
                simp [su_app, srg_app, hmm, y3, y4, y5, y6]
                refine ⟨?_, y8, ?_⟩
                · intro k hk
                  rw [if_neg (by omega), if_neg (by omega)]
                  exact y7 k hk
                · intro n' hn' hle hge
                  have := (nI_eq (by omega) (by omega)).mp hn'
                  exact y9 nm e1 h1 (by omega)
        · have c3' : ¬ nI n ≤ nI z := by rw [leI (by omega) (by omega)]; exact c3
          refine ⟨-10 - 2, su σ (8, 0) 15 2, su (su σ (8, 0) 15 2) (9, 0) 44 2, ?_, ?_, Iv_find hI 2⟩
          · simp [fX8_match, x_isSheet, c1, p0, p1, grd_t, ts, s1, nI_0, s5, c3', bnd, fX8_refuse]
          · simp [fX9_match, m_isSheet, c1, r1, grd_t, ts, su_app, s2, n1, s6, c3', bnd_eq, fX9_meets]
      · refine ⟨-10 - 1, su σ (8, 0) 15 1, su (su σ (8, 0) 15 1) (9, 0) 44 1, ?_, ?_, Iv_find hI 1⟩
        · simp [fX8_match, x_isSheet, c1, p0, p1, grd_t, ts, s1, n1, bnd, fX8_refuse]
        · simp [fX9_match, m_isSheet, c1, r1, grd_t, ts, su_app, s2, nI_0, bnd_eq, fX9_meets]
    · refine ⟨-2, σ, σ, ?_, ?_, hI⟩
      · by_cases p0 : a2 < 0
        · simp [fX8_match, x_isSheet, c1, p0]
        · by_cases p1 : a2 ≤ 40
          · exfalso
            apply c2
            rw [inb_iff]
            rw [i32_lt] at p0
            rw [i32_le] at p1
            rw [show (40 : Int32).toInt = 40 from rfl] at p1
            rw [show (0 : Int32).toInt = 0 from rfl] at p0
            omega
          · simp [fX8_match, x_isSheet, c1, p0, p1]
      · simp [fX9_match, m_isSheet, c1, rM a2 41 40 (by decide), c2]
  · refine ⟨-2, σ, σ, ?_, ?_, hI⟩
    · simp [fX8_match, x_isSheet, c1]
    · simp [fX9_match, m_isSheet, c1]
