theorem m01 (a : Int32) : fX9_in a 0 1 = true ↔ a = 0 ∨ a = 1 := by
  rw [rM a 2 1 (by decide)]
  constructor
  · intro h
    obtain ⟨j, hj, rfl⟩ := inb_ex (by decide) h
    rcases nI2 hj with rfl | rfl
    · exact Or.inl rfl
    · exact Or.inr rfl
  · rintro (rfl | rfl) <;> decide
/-- clubs: one of a club's numbers is another -/
theorem Ic_set {σ : St} (hI : Iv σ) {c : Nat} (hc : c < 12) {k h : Nat} (hk : k < 11) (hh : h < 131072) : Iv (su (su σ (0, c) 0 (nI k)) (44, 0) c (nI k)) ∧ Iv (su (su σ (0, c) 1 (nI h)) (45, 0) c (nI h)) := by
  obtain ⟨hb, hcc, hl, hw, hs, hm⟩ := id hI
  refine ⟨?_, ?_⟩
  · have hmod : modi [1000, 44] σ (su (su σ (0, c) 0 (nI k)) (44, 0) c (nI k)) := modi.su (modi.su modi.rf (show (1000 : Nat) ∈ _ by decide)) (show (44 : Nat) ∈ _ by decide)
    refine ⟨dep_Ib.mv hmod (by decide) hb, ?_, dep_Il.mv hmod (by decide) hl, dep_Iw.mv hmod (by decide) hw, dep_Is.mv hmod (by decide) hs, dep_Im.mv hmod (by decide) hm⟩
    intro c' hc'
    obtain ⟨k0, h0, m0, q1, q2, q3, z1, z2, z3, z4, z5, z6, z7⟩ := hcc c' hc'
    by_cases e : c' = c
    · subst e
      refine ⟨k, h0, m0, hk, q2, q3, ?_⟩
      simp [su_app, z3, z4, z5, z6]
      exact z7
    · refine ⟨k0, h0, m0, q1, q2, q3, ?_⟩
      simp [su_app, e, z1, z2, z3, z4, z5, z6]
      exact z7
  · have hmod : modi [1001, 45] σ (su (su σ (0, c) 1 (nI h)) (45, 0) c (nI h)) := modi.su (modi.su modi.rf (show (1001 : Nat) ∈ _ by decide)) (show (45 : Nat) ∈ _ by decide)
    refine ⟨dep_Ib.mv hmod (by decide) hb, ?_, dep_Il.mv hmod (by decide) hl, dep_Iw.mv hmod (by decide) hw, dep_Is.mv hmod (by decide) hs, dep_Im.mv hmod (by decide) hm⟩
    intro c' hc'
    obtain ⟨k0, h0, m0, q1, q2, q3, z1, z2, z3, z4, z5, z6, z7⟩ := hcc c' hc'
    by_cases e : c' = c
    · subst e
      refine ⟨k0, h, m0, q1, hh, q3, ?_⟩
      simp [su_app, z1, z2, z5, z6]
      exact z7
    · refine ⟨k0, h0, m0, q1, q2, q3, ?_⟩
      simp [su_app, e, z1, z2, z3, z4, z5, z6]
      exact z7
theorem su_self (σ : St) (r : Rf) (i : Nat) : su σ r i (σ r i) = σ := by
  funext r' k
  rw [su_app]
  by_cases h : r' = r ∧ k = i
  · rw [if_pos h, h.1, h.2]
  · rw [if_neg h]
theorem su_same (σ : St) (r : Rf) (i : Nat) {v : Int32} (h : σ r i = v) : su σ r i v = σ := by rw [← h, su_self]
set_option maxHeartbeats 1000000 in
theorem op_change {σ : St} (hI : Iv σ) (a1 a2 a3 : Int32) : ∃ v σ1 σ2, fX8_change σ a1 a2 a3 = some (v, σ1) ∧ fX9_change σ1 a1 a2 a3 = some (v, σ2) ∧ Iv σ2 := by
  obtain ⟨hb, hc, hl, hw, hs, hm⟩ := id hI
  obtain ⟨nm, nc, ra, rb, rq, h1, h2, h3, h4, h5, h6, e1, e2, e3, e4, e5, e6, e7, e8, e9, e10, e11⟩ := id hb
  have xc := x_isClub (show nc < 2 ^ 31 by omega) e3 a1
  have mc := m_isClub (show nc < 2 ^ 30 by omega) e4 a1
  by_cases c1 : inb a1 nc = true
  · obtain ⟨c, hc', rfl⟩ := inb_ex (by omega) c1
    have tc := tn_nI (show c < 2 ^ 31 by omega)
    have c3 : inb (nI c) 12 = true := inb_mono c1 h2
    obtain ⟨k0, h0, m0, q1, q2, q3, z1, z2, z3, z4, z5, z6, z7⟩ := hc c (by omega)
    by_cases w0 : a2 = 0
    · subst w0
      by_cases c2 : inb a3 11 = true
      · obtain ⟨k, hk, rfl⟩ := inb_ex (by decide) c2
        have g1 : fX8_change σ (nI c) 0 (nI k) = some (nI k0, su σ (0, c) 0 (nI k)) := by
          simp [fX8_change, xc, c1, c3, grd_t, tc, x_isCode, c2, bnd_eq, z1, bj_sl]
        have mc1 := m_isClub (σ := su σ (0, c) 0 (nI k)) (show nc < 2 ^ 30 by omega) (by simp [su_app, e4]) (nI c)
        have g2 : fX9_change (su σ (0, c) 0 (nI k)) (nI c) 0 (nI k) = some (nI k0, su (su σ (0, c) 0 (nI k)) (44, 0) c (nI k)) := by
          have y1 : su σ (0, c) 0 (nI k) (44, 0) c = nI k0 := by simp [su_app, z2]
          have y2 : su (su σ (0, c) 0 (nI k)) (44, 0) c (nI k) (45, 0) c = nI h0 := by simp [su_app, z4]
          simp [fX9_change, mc1, c1, m01, bnd_eq, rM (nI k) 11 10 (by decide), c2, c3, grd_t, tc, y1, obi_s, y2, show ¬ (0 : Int32) = 1 by decide]
          exact su_same _ _ _ y2
        exact ⟨_, _, _, g1, g2, (Ic_set hI (by omega) hk q2).1⟩
      · refine ⟨-2, σ, σ, ?_, ?_, hI⟩
        · simp [fX8_change, xc, c1, c3, grd_t, x_isCode, c2, bj_sr, show ¬ (0 : Int32) = 1 by decide]
        · simp [fX9_change, mc, c1, m01, bnd_eq, rM a3 11 10 (by decide), c2]
    · by_cases w1 : a2 = 1
      · subst w1
        by_cases c2 : inb a3 131072 = true
        · obtain ⟨h, hh, rfl⟩ := inb_ex (by decide) c2
          have g1 : fX8_change σ (nI c) 1 (nI h) = some (nI h0, su σ (0, c) 1 (nI h)) := by
            simp [fX8_change, xc, c1, c3, grd_t, tc, x_isItemSet, c2, bnd_eq, z3, bj_sl, bj_sr, show ¬ (1 : Int32) = 0 by decide]
          have mc1 := m_isClub (σ := su σ (0, c) 1 (nI h)) (show nc < 2 ^ 30 by omega) (by simp [su_app, e4]) (nI c)
          have g2 : fX9_change (su σ (0, c) 1 (nI h)) (nI c) 1 (nI h) = some (nI h0, su (su σ (0, c) 1 (nI h)) (45, 0) c (nI h)) := by
            have y1 : su σ (0, c) 1 (nI h) (44, 0) c = nI k0 := by simp [su_app, z2]
            have y2 : su σ (0, c) 1 (nI h) (45, 0) c = nI h0 := by simp [su_app, z4]
            simp only [fX9_change, mc1, c1, m01, bnd_eq, rM (nI h) 131072 131071 (by decide), c2, c3, grd_t, tc, y1, y2, obi_s, show ¬ (1 : Int32) = 0 by decide, if_true, if_false, or_true, su_same _ _ _ y1]
          exact ⟨_, _, _, g1, g2, (Ic_set hI (by omega) q1 hh).2⟩
        · refine ⟨-2, σ, σ, ?_, ?_, hI⟩
          · simp [fX8_change, xc, c1, c3, grd_t, x_isItemSet, c2, bj_sr, show ¬ (1 : Int32) = 0 by decide]
          · simp [fX9_change, mc, c1, m01, bnd_eq, rM a3 131072 131071 (by decide), c2, show ¬ (1 : Int32) = 0 by decide]
      · refine ⟨-2, σ, σ, ?_, ?_, hI⟩
        · simp [fX8_change, xc, c1, c3, grd_t, w0, w1, bj_sr]
        · simp [fX9_change, mc, c1, m01, w0, w1]
  · refine ⟨-2, σ, σ, ?_, ?_, hI⟩
    · simp [fX8_change, xc, c1]
    · simp [fX9_change, mc, c1]
theorem nbo_b2i (b : Bool) : nbo (b2i b) = b2i b := by cases b <;> decide
theorem b2i_nI (b : Bool) : ∃ m : Nat, m < 2 ∧ b2i b = nI m := by
  cases b with
  | false => exact ⟨0, by decide, rfl⟩
  | true => exact ⟨1, by decide, rfl⟩
set_option maxHeartbeats 1000000 in
theorem op_member {σ : St} (hI : Iv σ) (a1 : Int32) (b : Bool) : ∃ v σ1 σ2, fX8_member σ a1 b = some (v, σ1) ∧ fX9_member σ1 a1 b = some (v, σ2) ∧ Iv σ2 := by
  obtain ⟨hb, hc, hl, hw, hs, hm⟩ := id hI
  obtain ⟨nm, nc, ra, rb, rq, h1, h2, h3, h4, h5, h6, e1, e2, e3, e4, e5, e6, e7, e8, e9, e10, e11⟩ := id hb
  have xc := x_isClub (show nc < 2 ^ 31 by omega) e3 a1
  have mc := m_isClub (show nc < 2 ^ 30 by omega) e4 a1
  by_cases c1 : inb a1 nc = true
  · obtain ⟨c, hc', rfl⟩ := inb_ex (by omega) c1
    have tc := tn_nI (show c < 2 ^ 31 by omega)
    have c3 : inb (nI c) 12 = true := inb_mono c1 h2
    obtain ⟨k0, h0, m0, q1, q2, q3, z1, z2, z3, z4, z5, z6, z7⟩ := hc c (by omega)
    by_cases hq : nI m0 = b2i b
    · refine ⟨0, σ, σ, ?_, ?_, hI⟩
      · simp only [fX8_member, xc, c1, c3, grd_t, tc, z5, hq, if_true]
      · simp only [fX9_member, mc, c1, c3, grd_t, tc, z6, hq, if_true, bnd_eq, nbo_b2i, show ¬ (1 : Int32) = 0 by decide, if_false, su_same σ (46, 0) c (z6.trans hq)]
    · have g1 : fX8_member σ (nI c) b = some (1, su σ (0, c) 2 (b2i b)) := by
        simp only [fX8_member, xc, c1, c3, grd_t, tc, z5, hq, if_true, if_false, bnd_eq]
      have mc1 := m_isClub (σ := su σ (0, c) 2 (b2i b)) (show nc < 2 ^ 30 by omega) (by simp [su_app, e4]) (nI c)
      have g2 : fX9_member (su σ (0, c) 2 (b2i b)) (nI c) b = some (1, su (su σ (0, c) 2 (b2i b)) (46, 0) c (b2i b)) := by
        have y1 : su σ (0, c) 2 (b2i b) (46, 0) c = nI m0 := by simp [su_app, z6]
        simp only [fX9_member, mc1, c1, c3, grd_t, tc, y1, hq, if_true, if_false, bnd_eq, nbo_b2i]
      have hmod : modi [1002, 46] σ (su (su σ (0, c) 2 (b2i b)) (46, 0) c (b2i b)) := modi.su (modi.su modi.rf (show (1002 : Nat) ∈ _ by decide)) (show (46 : Nat) ∈ _ by decide)
      refine ⟨_, _, _, g1, g2, dep_Ib.mv hmod (by decide) hb, ?_, dep_Il.mv hmod (by decide) hl, dep_Iw.mv hmod (by decide) hw, dep_Is.mv hmod (by decide) hs, dep_Im.mv hmod (by decide) hm⟩
      intro c' hcc
      obtain ⟨k9, h9, m9, p1, p2, p3, y1, y2, y3, y4, y5, y6, y7⟩ := hc c' hcc
      by_cases e : c' = c
      · subst e
        obtain ⟨m1, hm1, hm2⟩ := b2i_nI b
        refine ⟨k9, h9, m1, p1, p2, hm1, ?_⟩
        rw [hm2]
        simp only [su_app]
        simp [y1, y2, y3, y4]
        intro n' hn' _ hge
        have := (nI_eq (by omega) (by omega)).mp (e3.symm.trans hn')
        omega
      · refine ⟨k9, h9, m9, p1, p2, p3, ?_⟩
        simp [su_app, e, y1, y2, y3, y4, y5, y6]
        exact y7
  · refine ⟨-2, σ, σ, ?_, ?_, hI⟩
    · simp [fX8_member, xc, c1]
    · simp [fX9_member, mc, c1]
theorem ix12 (a b : Nat) : nI a * (12 : Int32) + nI b = nI (a * 12 + b) ∧ (12 : Int32) * nI a + nI b = nI (12 * a + b) := by
  rw [show (12 : Int32) = nI 12 from rfl, pk_mul, pk_mul, nI_add, nI_add]
  exact ⟨rfl, rfl⟩
theorem areTwo_x {σ : St} {n : Nat} (hn : n < 2 ^ 30) (h : σ (8, 0) 11 = nI n) (a b : Int32) : fX8_areTwoClubs σ a b = (inb a n && (inb b n && !(decide (a = b)))) := by
  unfold fX8_areTwoClubs
  rw [x_isClub (by omega) h, x_isClub (by omega) h]
  cases inb a n <;> cases inb b n <;> by_cases e : a = b <;> simp [e]
theorem areTwo_m {σ : St} {n : Nat} (hn : n < 2 ^ 30) (h : σ (9, 0) 28 = nI n) (a b : Int32) : fX9_areTwo σ a b = (inb a n && (inb b n && !(decide (a = b)))) := by
  unfold fX9_areTwo
  rw [m_isClub (by omega) h, m_isClub (by omega) h]
  cases inb a n <;> cases inb b n <;> by_cases e : a = b <;> simp [e]
theorem areTwo_ex {n : Nat} (hn : n ≤ 12) {a b : Int32} (h : (inb a n && (inb b n && !(decide (a = b)))) = true) : ∃ i j : Nat, i < n ∧ j < n ∧ ¬ i = j ∧ a = nI i ∧ b = nI j := by
  simp only [Bool.and_eq_true, Bool.not_eq_true', decide_eq_false_iff_not] at h
  obtain ⟨i, hi, rfl⟩ := inb_ex (by omega) h.1
  obtain ⟨j, hj, rfl⟩ := inb_ex (by omega) h.2.1
  exact ⟨i, j, hi, hj, fun e => h.2.2 (by rw [e]), rfl, rfl⟩
set_option maxHeartbeats 1000000 in
theorem op_way {σ : St} (hI : Iv σ) (a1 a2 a3 : Int32) : ∃ v σ1 σ2, fX8_way σ a1 a2 a3 = some (v, σ1) ∧ fX9_way σ1 a1 a2 a3 = some (v, σ2) ∧ Iv σ2 := by
  obtain ⟨hb, hc, hl, hw, hs, hm⟩ := id hI
  obtain ⟨nm, nc, ra, rb, rq, h1, h2, h3, h4, h5, h6, e1, e2, e3, e4, e5, e6, e7, e8, e9, e10, e11⟩ := id hb
  have xt := areTwo_x (show nc < 2 ^ 30 by omega) e3 a1 a2
  have mt := areTwo_m (show nc < 2 ^ 30 by omega) e4 a1 a2
  by_cases c1 : (inb a1 nc && (inb a2 nc && !(decide (a1 = a2)))) = true
  · by_cases c2 : inb a3 100 = true
    · obtain ⟨i, j, hi, hj, hij, rfl, rfl⟩ := areTwo_ex h2 c1
      obtain ⟨w, hw', rfl⟩ := inb_ex (by decide) c2
      obtain ⟨w0, q0, z1, z2⟩ := hw i j (by omega) (by omega) hij
      have t1 : inb (nI (i * 12 + j)) 144 = true := by rw [inb_nI (by omega)]; simp; omega
      have t2 : inb (nI (j * 12 + i)) 144 = true := by rw [inb_nI (by omega)]; simp; omega
      have t3 : inb (nI (12 * i + j)) 144 = true := by rw [inb_nI (by omega)]; simp; omega
      have t4 : inb (nI (12 * j + i)) 144 = true := by rw [inb_nI (by omega)]; simp; omega
      have g1 : fX8_way σ (nI i) (nI j) (nI w) = some (nI w0, su (su σ (21, 0) (i * 12 + j) (nI w)) (21, 0) (j * 12 + i) (nI w)) := by
        simp only [fX8_way, xt, c1, x_isWay, c2, if_true, fX7_setBetween, (ix12 _ _).1, t1, t2, grd_t, bnd_eq, tn_nI (show i * 12 + j < 2 ^ 31 by omega), tn_nI (show j * 12 + i < 2 ^ 31 by omega), z1, obi_s]
      have mt1 := areTwo_m (σ := su (su σ (21, 0) (i * 12 + j) (nI w)) (21, 0) (j * 12 + i) (nI w)) (show nc < 2 ^ 30 by omega) (by simp [su_app, e4]) (nI i) (nI j)
      have g2 : fX9_way (su (su σ (21, 0) (i * 12 + j) (nI w)) (21, 0) (j * 12 + i) (nI w)) (nI i) (nI j) (nI w) = some (nI w0, su (su (su (su σ (21, 0) (i * 12 + j) (nI w)) (21, 0) (j * 12 + i) (nI w)) (48, 0) (12 * i + j) (nI w)) (48, 0) (12 * j + i) (nI w)) := by
        have y1 : su (su σ (21, 0) (i * 12 + j) (nI w)) (21, 0) (j * 12 + i) (nI w) (48, 0) (12 * i + j) = nI w0 := by simp [su_app, z2]
        simp only [fX9_way, mt1, c1, rM (nI w) 100 99 (by decide), c2, if_true, (ix12 _ _).2, t3, t4, grd_t, bnd_eq, tn_nI (show 12 * i + j < 2 ^ 31 by omega), tn_nI (show 12 * j + i < 2 ^ 31 by omega), y1]
      have hmod : modi [21, 48] σ (su (su (su (su σ (21, 0) (i * 12 + j) (nI w)) (21, 0) (j * 12 + i) (nI w)) (48, 0) (12 * i + j) (nI w)) (48, 0) (12 * j + i) (nI w)) := modi.su (modi.su (modi.su (modi.su modi.rf (show (21 : Nat) ∈ _ by decide)) (show (21 : Nat) ∈ _ by decide)) (show (48 : Nat) ∈ _ by decide)) (show (48 : Nat) ∈ _ by decide)
      refine ⟨_, _, _, g1, g2, dep_Ib.mv hmod (by decide) hb, dep_Ic.mv hmod (by decide) hc, dep_Il.mv hmod (by decide) hl, ?_, dep_Is.mv hmod (by decide) hs, dep_Im.mv hmod (by decide) hm⟩
      intro a b ha hb' hab
      obtain ⟨w1, q1, y1, y2⟩ := hw a b ha hb' hab
      simp only [su_app, true_and]
      by_cases u1 : a = j ∧ b = i
      · refine ⟨w, by omega, ?_, ?_⟩
        · simp [u1.1, u1.2]
        · simp [u1.1, u1.2]
      · by_cases u2 : a = i ∧ b = j
        · refine ⟨w, by omega, ?_, ?_⟩
          · simp [u2.1, u2.2]
          · simp [u2.1, u2.2]
        · have v1 : ¬ a * 12 + b = j * 12 + i := by omega
          have v2 : ¬ a * 12 + b = i * 12 + j := by omega
          have v3 : ¬ 12 * a + b = 12 * j + i := by omega
          have v4 : ¬ 12 * a + b = 12 * i + j := by omega
          refine ⟨w1, q1, ?_, ?_⟩
          · simp [v1, v2, y1]
          · simp [v3, v4, y2]
    · refine ⟨-2, σ, σ, ?_, ?_, hI⟩
      · simp only [fX8_way, xt, c1, x_isWay, c2, if_true, if_false]
        simp
      · simp only [fX9_way, mt, c1, rM a3 100 99 (by decide), c2, if_true, if_false]
        simp
  · refine ⟨-2, σ, σ, ?_, ?_, hI⟩
    · simp only [fX8_way, xt, c1, if_false]
      simp
    · simp only [fX9_way, mt, c1, if_false]
      simp
