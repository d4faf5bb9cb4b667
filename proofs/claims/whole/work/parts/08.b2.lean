def Iv (σ : St) : Prop := Ib σ ∧ Ic σ ∧ Il σ ∧ Iw σ ∧ Is σ ∧ Im σ
theorem nI_m1 {n : Nat} (h : n < 2 ^ 31) : nI n - 1 = nI n - nI 1 := rfl
theorem x_isClub {σ : St} {n : Nat} (hn : n < 2 ^ 31) (h : σ (8, 0) 11 = nI n) (a : Int32) : fX8_isClub σ a = inb a n := by
  unfold fX8_isClub
  rw [h]
  exact rX a n (nI n) (nI_toInt hn)
theorem m_isClub {σ : St} {n : Nat} (hn : n < 2 ^ 30) (h : σ (9, 0) 28 = nI n) (a : Int32) : fX9_isClub σ a = inb a n := by
  unfold fX9_isClub
  rw [h]
  refine rM a n _ ?_
  rw [show (1 : Int32) = nI 1 from rfl, pk_sub_toInt hn (by decide)]
  omega
theorem x_isMatch {σ : St} {n : Nat} (hn : n < 2 ^ 31) (h : σ (8, 0) 10 = nI n) (a : Int32) : fX8_isMatch σ a = inb a n := by
  unfold fX8_isMatch
  rw [h]
  exact rX a n (nI n) (nI_toInt hn)
theorem m_isMatch {σ : St} {n : Nat} (hn : n < 2 ^ 30) (h : σ (9, 0) 15 = nI n) (a : Int32) : fX9_isMatch σ a = inb a n := by
  unfold fX9_isMatch
  rw [h]
  refine rM a n _ ?_
  rw [show (1 : Int32) = nI 1 from rfl, pk_sub_toInt hn (by decide)]
  omega
theorem inb_mono {a : Int32} {n m : Nat} (h : inb a n = true) (hm : n ≤ m) : inb a m = true := by
  rw [inb_iff] at *
  omega
set_option maxHeartbeats 1000000 in
theorem op_club {σ : St} (hI : Iv σ) (a1 a2 : Int32) : ∃ v σ1 σ2, fX8_club σ a1 a2 = some (v, σ1) ∧ fX9_club σ1 a1 a2 = some (v, σ2) ∧ Iv σ2 := by
  obtain ⟨hb, hc, hl, hw, hs, hm⟩ := id hI
  obtain ⟨nm, nc, a, b, q, h1, h2, h3, h4, h5, h6, e1, e2, e3, e4, e5, e6, e7, e8, e9, e10, e11⟩ := id hb
  by_cases c1 : inb a1 11 = true
  · by_cases c2 : inb a2 131072 = true
    · by_cases c3 : nc = 12
      · subst c3
        refine ⟨-4, σ, σ, ?_, ?_, hI⟩
        · simp [fX8_club, x_isCode, c1, x_isItemSet, c2, e3, nI]
        · simp [fX9_club, m_isCode, c1, rM a2 131072 131071 (by decide), c2, e4, nI]
      · have hlt : nc < 12 := by omega
        obtain ⟨k, hk, rfl⟩ := inb_ex (by decide) c1
        obtain ⟨h, hh, rfl⟩ := inb_ex (by decide) c2
        have g1 : fX8_club σ (nI k) (nI h) = some (nI nc, su (su (su σ (0, nc) 0 (nI k)) (0, nc) 1 (nI h)) (8, 0) 11 (nI (nc + 1))) := by
          have t1 : nI nc < (12 : Int32) := nI_lt (a := nc) (b := 12) hlt (by decide)
          have t2 : inb (nI nc) 12 = true := by rw [inb_nI (by omega)]; simpa using hlt
          simp [fX8_club, x_isCode, c1, x_isItemSet, c2, e3, t1, t2, grd_t, bnd, su_app, tn_nI (show nc < 2 ^ 31 by omega), nI_1]
          rw [show (1 : Int32) = nI 1 from rfl, pk_sub (by omega)]
          rfl
        generalize hσ1 : su (su (su σ (0, nc) 0 (nI k)) (0, nc) 1 (nI h)) (8, 0) 11 (nI (nc + 1)) = σ1 at g1
        have f4 : σ1 (9, 0) 28 = nI nc := by rw [← hσ1]; simp [su_app, e4]
        have g2 : fX9_club σ1 (nI k) (nI h) = some (nI nc, su (su (su σ1 (44, 0) nc (nI k)) (45, 0) nc (nI h)) (9, 0) 28 (nI (nc + 1))) := by
          have t1 : ¬ nI nc = (12 : Int32) := fun e => c3 ((nI_eq (by omega) (by decide)).mp (show nI nc = nI 12 from e))
          have t2 : inb (nI nc) 12 = true := by rw [inb_nI (by omega)]; simpa using hlt
          simp [fX9_club, m_isCode, c1, rM (nI h) 131072 131071 (by decide), c2, f4, t1, t2, grd_t, bnd, su_app, tn_nI (show nc < 2 ^ 31 by omega), nI_1]
          rw [show (1 : Int32) = nI 1 from rfl, pk_sub (by omega)]
          rfl
        refine ⟨_, _, _, g1, g2, ?_, ?_, dep_Il.mv (mX9_club g2) (by decide) (dep_Il.mv (mX8_club g1) (by decide) hl), dep_Iw.mv (mX9_club g2) (by decide) (dep_Iw.mv (mX8_club g1) (by decide) hw), dep_Is.mv (mX9_club g2) (by decide) (dep_Is.mv (mX8_club g1) (by decide) hs), dep_Im.mv (mX9_club g2) (by decide) (dep_Im.mv (mX8_club g1) (by decide) hm)⟩
        · refine ⟨nm, nc + 1, a, b, q, h1, by omega, h3, h4, h5, h6, ?_⟩
          rw [← hσ1]
          simp [su_app, e1, e2, e5, e6, e7, e8, e9, e10, e11]
        · intro c hc'
          by_cases hcc : c = nc
          · subst hcc
            obtain ⟨k0, h0, m0, q1, q2, q3, z1, z2, z3, z4, z5, z6, z7⟩ := hc c hc'
            refine ⟨k, h, m0, hk, hh, q3, ?_⟩
            rw [← hσ1]
            simp [su_app, z5, z6]
            intro n' hn' hle hge
            have := (nI_eq (by omega) (by omega)).mp hn'
            omega
          · obtain ⟨k0, h0, m0, q1, q2, q3, z1, z2, z3, z4, z5, z6, z7⟩ := hc c hc'
            refine ⟨k0, h0, m0, q1, q2, q3, ?_⟩
            rw [← hσ1]
            simp [su_app, hcc, z1, z2, z3, z4, z5, z6]
            intro n' hn' hle hge
            have := (nI_eq (by omega) (by omega)).mp hn'
            exact z7 nc e3 h2 (by omega)
    · refine ⟨-2, σ, σ, ?_, ?_, hI⟩
      · simp [fX8_club, x_isCode, c1, x_isItemSet, c2]
      · simp [fX9_club, m_isCode, c1, rM a2 131072 131071 (by decide), c2]
  · refine ⟨-2, σ, σ, ?_, ?_, hI⟩
    · simp [fX8_club, x_isCode, c1]
    · simp [fX9_club, m_isCode, c1]
