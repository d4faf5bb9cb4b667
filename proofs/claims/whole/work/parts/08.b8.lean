theorem rng_ex {x : Int32} {lo hi : Nat} (hh : hi < 2 ^ 30) (h1 : ¬ x < nI lo) (h2 : ¬ nI hi < x) (hlo : lo < 2 ^ 30) : ∃ k, lo ≤ k ∧ k ≤ hi ∧ x = nI k := by
  rw [i32_lt, nI_toInt (by omega)] at h1 h2
  refine ⟨x.toInt.toNat, by omega, by omega, ?_⟩
  apply Int32.toInt_inj.mp
  rw [nI_toInt (by omega)]
  omega
/-- one number of the rule on both sides -/
theorem Ib_rule {σ : St} (hI : Iv σ) {a b q : Nat} (h3 : 1 ≤ a) (h4 : a ≤ b) (h5 : b ≤ 9) (h6 : q ≤ 12) {σ' : St} (hmod : modi [1812, 1813, 1814, 1933, 1934, 1935] σ σ') (e5 : σ' (8, 0) 12 = nI a) (e6 : σ' (9, 0) 33 = nI a) (e7 : σ' (8, 0) 13 = nI b) (e8 : σ' (9, 0) 34 = nI b) (e9 : σ' (8, 0) 14 = nI q) (e10 : σ' (9, 0) 35 = nI q) : Iv σ' := by
  obtain ⟨hb, hc, hl, hw, hs, hm⟩ := hI
  refine ⟨?_, dep_Ic.mv hmod (by decide) hc, dep_Il.mv hmod (by decide) hl, dep_Iw.mv hmod (by decide) hw, dep_Is.mv hmod (by decide) hs, dep_Im.mv hmod (by decide) hm⟩
  obtain ⟨nm, nc, a', b', q', h1, h2, -, -, -, -, f1, f2, f3, f4, -, -, -, -, -, -, f11⟩ := hb
  refine ⟨nm, nc, a, b, q, h1, h2, h3, h4, h5, h6, ?_⟩
  rw [hmod (8, 0) 10 (by decide), hmod (9, 0) 15 (by decide), hmod (8, 0) 11 (by decide), hmod (9, 0) 28 (by decide), hmod (8, 0) 15 (by decide), hmod (9, 0) 44 (by decide)]
  exact ⟨f1, f2, f3, f4, e5, e6, e7, e8, e9, e10, f11⟩
set_option maxHeartbeats 1000000 in
theorem op_rule {σ : St} (hI : Iv σ) (a1 a2 : Int32) : ∃ v σ1 σ2, fX8_rule σ a1 a2 = (v, σ1) ∧ fX9_rule σ1 a1 a2 = (v, σ2) ∧ Iv σ2 := by
  obtain ⟨nm, nc, a, b, q, h1, h2, h3, h4, h5, h6, e1, e2, e3, e4, e5, e6, e7, e8, e9, e10, e11⟩ := id hI.1
  have z1 : ¬ (1 : Int32) = 0 := by decide
  have z2 : ¬ (2 : Int32) = 0 := by decide
  have z3 : ¬ (2 : Int32) = 1 := by decide
  by_cases w0 : a1 = 0
  · subst w0
    by_cases u1 : a2 < 1
    · refine ⟨-2, σ, σ, ?_, ?_, hI⟩
      · simp [fX8_rule, u1, bjp_sr]
      · simp [fX9_rule, fX9_in, u1, bnd_eq]
    · by_cases u2 : nI b < a2
      · refine ⟨-2, σ, σ, ?_, ?_, hI⟩
        · simp [fX8_rule, u1, e7, u2, bjp_sr]
        · simp [fX9_rule, fX9_in, u1, e8, u2, bnd_eq]
      · obtain ⟨k, hk1, hk2, rfl⟩ := rng_ex (lo := 1) (by omega) u1 u2 (by decide)
        have g1 : fX8_rule σ 0 (nI k) = (nI a, su σ (8, 0) 12 (nI k)) := by simp [fX8_rule, u1, e7, u2, bjp_sl, bnd_eq, e5]
        have y3 : su σ (8, 0) 12 (nI k) (9, 0) 33 = nI a := by simp [su_app, e6]
        have y4 : su σ (8, 0) 12 (nI k) (9, 0) 34 = nI b := by simp [su_app, e8]
        have y5 : su σ (8, 0) 12 (nI k) (9, 0) 35 = nI q := by simp [su_app, e10]
        have g2 : fX9_rule (su σ (8, 0) 12 (nI k)) 0 (nI k) = (nI a, su (su σ (8, 0) 12 (nI k)) (9, 0) 33 (nI k)) := by
          have y4' : su (su σ (8, 0) 12 (nI k)) (9, 0) 33 (nI k) (9, 0) 34 = nI b := by rw [su_slot _ _ _ _ (by decide), y4]
          have y5' : su (su σ (8, 0) 12 (nI k)) (9, 0) 33 (nI k) (9, 0) 35 = nI q := by rw [su_slot _ _ _ _ (by decide), y5]
          simp only [fX9_rule, fX9_in, u1, y4, u2, bnd_eq, if_true, if_false, show ¬ (0 : Int32) = 1 by decide, show ¬ (0 : Int32) = 2 by decide, z1, y3, y4', y5', su_same _ _ _ y4', su_same _ _ _ y5', show ¬ b2i true = 0 by decide]
        refine ⟨_, _, _, g1, g2, Ib_rule hI hk1 hk2 h5 h6 (modi.su (modi.su modi.rf (show (1812 : Nat) ∈ _ by decide)) (show (1933 : Nat) ∈ _ by decide)) ?_ ?_ ?_ ?_ ?_ ?_⟩ <;> simp [su_app, e7, e8, e9, e10]
  · by_cases w1 : a1 = 1
    · subst w1
      by_cases u1 : a2 < nI a
      · refine ⟨-2, σ, σ, ?_, ?_, hI⟩
        · simp [fX8_rule, w0, e5, u1, bjp_sr]
        · simp [fX9_rule, fX9_in, w0, e6, u1, bnd_eq]
      · by_cases u2 : 9 < a2
        · refine ⟨-2, σ, σ, ?_, ?_, hI⟩
          · simp [fX8_rule, w0, e5, u1, u2, bjp_sr]
          · simp [fX9_rule, fX9_in, w0, e6, u1, u2, bnd_eq]
        · obtain ⟨k, hk1, hk2, rfl⟩ := rng_ex (hi := 9) (by omega) u1 u2 (by omega)
          have g1 : fX8_rule σ 1 (nI k) = (nI b, su σ (8, 0) 13 (nI k)) := by simp [fX8_rule, w0, e5, u1, u2, bjp_sl, bjp_sr, bnd_eq, e7]
          have y3 : su σ (8, 0) 13 (nI k) (9, 0) 33 = nI a := by simp [su_app, e6]
          have y4 : su σ (8, 0) 13 (nI k) (9, 0) 34 = nI b := by simp [su_app, e8]
          have y5 : su σ (8, 0) 13 (nI k) (9, 0) 35 = nI q := by simp [su_app, e10]
          have g2 : fX9_rule (su σ (8, 0) 13 (nI k)) 1 (nI k) = (nI b, su (su σ (8, 0) 13 (nI k)) (9, 0) 34 (nI k)) := by
            have y5' : su (su σ (8, 0) 13 (nI k)) (9, 0) 34 (nI k) (9, 0) 35 = nI q := by rw [su_slot _ _ _ _ (by decide), y5]
            simp only [fX9_rule, fX9_in, u1, y3, u2, bnd_eq, if_true, if_false, z1, show ¬ (1 : Int32) = 2 by decide, su_same _ _ _ y3, y4, y5', su_same _ _ _ y5', show ¬ b2i true = 0 by decide]
          refine ⟨_, _, _, g1, g2, Ib_rule hI h3 hk1 hk2 h6 (modi.su (modi.su modi.rf (show (1813 : Nat) ∈ _ by decide)) (show (1934 : Nat) ∈ _ by decide)) ?_ ?_ ?_ ?_ ?_ ?_⟩ <;> simp [su_app, e5, e6, e9, e10]
    · by_cases w2 : a1 = 2
      · subst w2
        by_cases u1 : a2 < 0
        · refine ⟨-2, σ, σ, ?_, ?_, hI⟩
          · simp [fX8_rule, w0, w1, u1, bjp_sr]
          · simp [fX9_rule, fX9_in, w0, w1, u1, bnd_eq]
        · by_cases u2 : 12 < a2
          · refine ⟨-2, σ, σ, ?_, ?_, hI⟩
            · simp [fX8_rule, w0, w1, u1, u2, bjp_sr]
            · simp [fX9_rule, fX9_in, w0, w1, u1, u2, bnd_eq]
          · obtain ⟨k, hk1, hk2, rfl⟩ := rng_ex (lo := 0) (hi := 12) (by omega) u1 u2 (by omega)
            have g1 : fX8_rule σ 2 (nI k) = (nI q, su σ (8, 0) 14 (nI k)) := by simp [fX8_rule, w0, w1, u1, u2, bjp_sr, bnd_eq, e9]
            have y3 : su σ (8, 0) 14 (nI k) (9, 0) 33 = nI a := by simp [su_app, e6]
            have y4 : su σ (8, 0) 14 (nI k) (9, 0) 34 = nI b := by simp [su_app, e8]
            have y5 : su σ (8, 0) 14 (nI k) (9, 0) 35 = nI q := by simp [su_app, e10]
            have g2 : fX9_rule (su σ (8, 0) 14 (nI k)) 2 (nI k) = (nI q, su (su σ (8, 0) 14 (nI k)) (9, 0) 35 (nI k)) := by
              simp only [fX9_rule, fX9_in, u1, u2, bnd_eq, if_true, if_false, z1, z2, z3, y3, y4, y5, su_same _ _ _ y3, su_same _ _ _ y4]
            refine ⟨_, _, _, g1, g2, Ib_rule hI h3 h4 h5 hk2 (modi.su (modi.su modi.rf (show (1814 : Nat) ∈ _ by decide)) (show (1935 : Nat) ∈ _ by decide)) ?_ ?_ ?_ ?_ ?_ ?_⟩ <;> simp [su_app, e5, e6, e7, e8]
      · refine ⟨-2, σ, σ, ?_, ?_, hI⟩
        · simp [fX8_rule, w0, w1, w2, bjp_sr]
        · simp [fX9_rule, w0, w1, w2, bnd_eq]
/-- n items from place i on, of a row of z -/
def rowOk (z : Nat) (i n : Int32) : Prop := 0 ≤ i.toInt ∧ 0 ≤ n.toInt ∧ i.toInt + n.toInt ≤ (z : Int)
theorem hasRow_ok {σ : St} {s z : Nat} (hz : z ≤ 60) (e : σ (6, s) 3 = nI z) (i n : Int32) : fX6_hasRow σ s i n = true ↔ rowOk z i n := by
  unfold fX6_hasRow rowOk
  rw [e]
  simp only [i32_lt, show (0 : Int32).toInt = 0 from rfl, nI_toInt (show z < 2 ^ 31 by omega)]
  by_cases h1 : i.toInt < 0
  · simp [h1]; omega
  · by_cases h2 : n.toInt < 0
    · simp [h1, h2]; omega
    · by_cases h3 : (z : Int) < n.toInt
      · simp [h1, h2, h3]; omega
      · have hs : (nI z - n).toInt = (z : Int) - n.toInt := by
          obtain ⟨k, hk, rfl⟩ : ∃ k : Nat, k ≤ z ∧ n = nI k := ⟨n.toInt.toNat, by omega, Int32.toInt_inj.mp (by rw [nI_toInt (by omega)]; omega)⟩
          rw [pk_sub_toInt (by omega) (by omega), nI_toInt (by omega)]
        rw [hs]
        by_cases h4 : (z : Int) - n.toInt < i.toInt
        · simp [h1, h2, h3, h4]; omega
        · simp [h1, h2, h3, h4]; omega
theorem lcmp_ok {z : Nat} (hz : z ≤ 60) (i n : Int32) : (0 < lg_cmp (i.toInt64 + n.toInt64) (nI z).toInt64) ↔ (z : Int) < i.toInt + n.toInt := by
  rw [lg_cmp_gt, Int64.lt_iff_toInt_lt, lg_i2l_add, Int32.toInt_toInt64, nI_toInt (by omega)]
theorem lcmp_ok2 {z : Nat} (hz : z ≤ 60) (i n : Int32) : (lg_cmp (i.toInt64 + n.toInt64) (nI z).toInt64 ≤ 0) ↔ i.toInt + n.toInt ≤ (z : Int) := by
  rw [lg_cmp_le, Int64.le_iff_toInt_le, lg_i2l_add, Int32.toInt_toInt64, nI_toInt (by omega)]
theorem rowOk_ex {z : Nat} (hz : z ≤ 60) {i n : Int32} (h : rowOk z i n) : ∃ a k : Nat, i = nI a ∧ n = nI k ∧ a + k ≤ z := by
  unfold rowOk at h
  exact ⟨i.toInt.toNat, n.toInt.toNat, Int32.toInt_inj.mp (by rw [nI_toInt (by omega)]; omega), Int32.toInt_inj.mp (by rw [nI_toInt (by omega)]; omega), by omega⟩
theorem lt0 {i : Int32} : i < 0 ↔ i.toInt < 0 := by rw [i32_lt]; rfl
set_option maxHeartbeats 2000000 in
theorem op_copy {σ : St} (hI : Iv σ) (a1 a2 a3 a4 a5 : Int32) : ∃ v σ1 σ2, fX8_copy σ a1 a2 a3 a4 a5 = some (v, σ1) ∧ fX9_copy σ1 a1 a2 a3 a4 a5 = some (v, σ2) ∧ Iv σ2 := by
  obtain ⟨hb, hc, hl, hw, hs, hm⟩ := id hI
  by_cases c1 : inb a1 4 = true
  · by_cases c2 : inb a3 4 = true
    · obtain ⟨s, hs4, rfl⟩ := inb_ex (by decide) c1
      obtain ⟨t, ht4, rfl⟩ := inb_ex (by decide) c2
      have ts := tn_nI (show s < 2 ^ 31 by omega)
      have tt := tn_nI (show t < 2 ^ 31 by omega)
      obtain ⟨l, ty, n, q1, q2, q3, s1, s2, s3, s4, s5, s6, s7⟩ := hs s hs4
      obtain ⟨l', ty', n', q1', q2', q3', s1', s2', s3', s4', s5', s6', s7'⟩ := hs t ht4
      have n1 : ¬ (nI 1 : Int32) = 0 := by decide
      have fnd : ∀ x : Int32, (fX8_copy σ (nI s) a2 (nI t) a4 a5 = some (-10 - x, su σ (8, 0) 15 x)) → (fX9_copy (su σ (8, 0) 15 x) (nI s) a2 (nI t) a4 a5 = some (-10 - x, su (su σ (8, 0) 15 x) (9, 0) 44 x)) → ∃ v σ1 σ2, fX8_copy σ (nI s) a2 (nI t) a4 a5 = some (v, σ1) ∧ fX9_copy σ1 (nI s) a2 (nI t) a4 a5 = some (v, σ2) ∧ Iv σ2 := fun x h1 h2 => ⟨_, _, _, h1, h2, Iv_find hI x⟩
      rcases nI2 q1 with rfl | rfl
      · rcases nI2 q1' with rfl | rfl
        · by_cases hty : nI ty = nI ty'
          · have h1 := hasRow_ok q3 s5 a2 a5
            have h2 := hasRow_ok q3' s5' a4 a5
            by_cases r1 : rowOk n a2 a5
            · by_cases r2 : rowOk n' a4 a5
              · obtain ⟨i, k, rfl, rfl, hik⟩ := rowOk_ex q3 r1
                obtain ⟨j, k', rfl, hkk, hjk⟩ := rowOk_ex q3' r2
                have hk' : k' = k := by
                  have := r2.2.2
                  have e0 := congrArg Int32.toInt hkk
                  rw [nI_toInt (by omega), nI_toInt (by omega)] at e0
                  omega
                subst hk'
                have ti := tn_nI (show i < 2 ^ 31 by omega)
                have tj := tn_nI (show j < 2 ^ 31 by omega)
                have tk := tn_nI (show k' < 2 ^ 31 by omega)
                have ok : acpOk (20, s) (nI i) (20, t) (nI j) (nI k') = true := by
                  simp [acpOk, ia_of (f := 20) rfl hs4, wa_of (f := 20) rfl ht4 (by decide), nI_pos (show i < 2 ^ 31 by omega), nI_pos (show j < 2 ^ 31 by omega), nI_pos (show k' < 2 ^ 31 by omega), ti, tj, tk]
                  exact ⟨by show i + k' ≤ 60; omega, by show j + k' ≤ 60; omega⟩
                have ac : acp σ (20, s) (nI i) (20, t) (nI j) (nI k') = srg σ (20, t) j k' (fun x => σ (20, s) (i + x)) := by
                  unfold acp srg
                  rw [ti, tj, tk]
                  rfl
                have g1 : fX8_copy σ (nI s) (nI i) (nI t) (nI j) (nI k') = some (1, srg σ (20, t) j k' (fun x => σ (20, s) (i + x))) := by
                  simp only [fX8_copy, x_isSheet, c1, c2, if_true, grd_t, ts, tt, s1, s1', nI_0, s3, s3', hty, h1.mpr r1, h2.mpr r2, ok, ac, bnd_eq, bj_sl]
                generalize hσ1 : srg σ (20, t) j k' (fun x => σ (20, s) (i + x)) = σ1 at g1
                have y1 : σ1 (51, 0) s = nI 1 := by rw [← hσ1]; simp [srg_app, s2]
                have y2 : σ1 (51, 0) t = nI 1 := by rw [← hσ1]; simp [srg_app, s2']
                have y3 : σ1 (52, 0) s = nI ty := by rw [← hσ1]; simp [srg_app, s4]
                have y4 : σ1 (52, 0) t = nI ty' := by rw [← hσ1]; simp [srg_app, s4']
                have y5 : σ1 (53, 0) s = nI n := by rw [← hσ1]; simp [srg_app, s6]
                have y6 : σ1 (53, 0) t = nI n' := by rw [← hσ1]; simp [srg_app, s6']
                have v1 : ¬ (0 < lg_cmp ((nI i).toInt64 + (nI k').toInt64) (nI n).toInt64) := by
                  rw [lcmp_ok q3, nI_toInt (by omega), nI_toInt (by omega)]
                  omega
                have v2 : lg_cmp ((nI j).toInt64 + (nI k').toInt64) (nI n').toInt64 ≤ 0 := by
                  rw [lcmp_ok2 q3', nI_toInt (by omega), nI_toInt (by omega)]
                  omega
                have ixa : ∀ a b c : Nat, (60 : Int32) * nI a + nI b + nI c = nI (60 * a + b + c) := fun a b c => by rw [ix60, nI_add]
                have g2 : fX9_copy σ1 (nI s) (nI i) (nI t) (nI j) (nI k') = some (1, srg (srg σ1 (55, 0) 0 k' (fun x => σ1 (54, 0) (60 * s + i + x))) (54, 0) (60 * t + j) k' (fun x => σ1 (54, 0) (60 * s + i + x))) := by
                  simp only [fX9_copy, m_isSheet, c1, c2, if_true, grd_t, ts, tt, y1, y2, n1, if_false, y3, y4, hty, nI_pos (show i < 2 ^ 31 by omega), nI_pos (show j < 2 ^ 31 by omega), nI_pos (show k' < 2 ^ 31 by omega), y5, y6, v1, v2]
                  rw [lpF_fx (X := srg σ1 (55, 0) 0 k' (fun x => σ1 (54, 0) (60 * s + i + x))) (fun u a => a = (nI u, srg σ1 (55, 0) 0 u (fun x => σ1 (54, 0) (60 * s + i + x)))) k' ?_ ?_ (by omega) ?_]
                  · simp only [obi_s]
                    rw [lpF_fx (X := Sum.inl (Sum.inl (1, srg (srg σ1 (55, 0) 0 k' (fun x => σ1 (54, 0) (60 * s + i + x))) (54, 0) (60 * t + j) k' (fun x => σ1 (54, 0) (60 * s + i + x))))) (fun u a => a = (nI u, srg (srg σ1 (55, 0) 0 k' (fun x => σ1 (54, 0) (60 * s + i + x))) (54, 0) (60 * t + j) u (fun x => σ1 (54, 0) (60 * s + i + x)))) k' ?_ ?_ (by omega) ?_]
                    · rfl
                    · intro u a hu ha
                      subst ha
                      refine Or.inl ⟨_, ?_, rfl⟩
                      have w1 : ¬ nI k' ≤ nI u := nI_ge hu (by omega)
                      have w2 : inb (nI u) 60 = true := by rw [inb_nI (by omega)]; simp; omega
                      have w3 : inb (nI (60 * t + j + u)) 240 = true := by rw [inb_nI (by omega)]; simp; omega
                      have w4 : srg (srg σ1 (55, 0) 0 k' (fun x => σ1 (54, 0) (60 * s + i + x))) (54, 0) (60 * t + j) u (fun x => σ1 (54, 0) (60 * s + i + x)) (55, 0) u = σ1 (54, 0) (60 * s + i + u) := by
                        rw [srg_app, if_neg (by simp), srg_app, if_pos ⟨rfl, by omega, by omega⟩]
                        simp
                      simp only [w1, if_false, w2, grd_t, ixa, w3, tn_nI (show 60 * t + j + u < 2 ^ 31 by omega), tn_nI (show u < 2 ^ 31 by omega), bnd_eq, w4, nI_1]
                      rw [srg_su _ (54, 0) (60 * t + j) u (fun x => σ1 (54, 0) (60 * s + i + x)) rfl]
                    · intro a ha
                      subst ha
                      exact ⟨_, by simp only [show nI k' ≤ nI k' from nI_le (Nat.le_refl _) (by omega), if_true], rfl⟩
                    · simp only [srg_0, nI_0]
                  · intro u a hu ha
                    subst ha
                    refine Or.inl ⟨_, ?_, rfl⟩
                    have w1 : ¬ nI k' ≤ nI u := nI_ge hu (by omega)
                    have w2 : inb (nI u) 60 = true := by rw [inb_nI (by omega)]; simp; omega
                    have w3 : inb (nI (60 * s + i + u)) 240 = true := by rw [inb_nI (by omega)]; simp; omega
                    have w4 : srg σ1 (55, 0) 0 u (fun x => σ1 (54, 0) (60 * s + i + x)) (54, 0) (60 * s + i + u) = σ1 (54, 0) (60 * s + i + u) := by simp [srg_app]
                    simp only [w1, if_false, w2, grd_t, ixa, w3, tn_nI (show 60 * s + i + u < 2 ^ 31 by omega), tn_nI (show u < 2 ^ 31 by omega), bnd_eq, w4, nI_1]
                    have := srg_su σ1 (55, 0) 0 u (fun x => σ1 (54, 0) (60 * s + i + x)) (v := σ1 (54, 0) (60 * s + i + u)) rfl
                    rw [Nat.zero_add] at this
                    rw [this]
                  · intro a ha
                    subst ha
                    exact ⟨_, by simp only [show nI k' ≤ nI k' from nI_le (Nat.le_refl _) (by omega), if_true], rfl⟩
                  · simp only [srg_0, nI_0]
                generalize hσ2 : srg (srg σ1 (55, 0) 0 k' (fun x => σ1 (54, 0) (60 * s + i + x))) (54, 0) (60 * t + j) k' (fun x => σ1 (54, 0) (60 * s + i + x)) = σ2 at g2
                have hmod2 : modi [20, 54, 55] σ σ2 := by
                  rw [← hσ2, ← hσ1]
                  exact modi.srg (modi.srg (modi.srg modi.rf (show ¬ (20 : Nat) < 10 by decide) (show (20 : Nat) ∈ _ by decide)) (show ¬ (55 : Nat) < 10 by decide) (show (55 : Nat) ∈ _ by decide)) (show ¬ (54 : Nat) < 10 by decide) (show (54 : Nat) ∈ _ by decide)
                refine ⟨_, _, _, g1, g2, dep_Ib.mv hmod2 (by decide) hb, dep_Ic.mv hmod2 (by decide) hc, dep_Il.mv hmod2 (by decide) hl, dep_Iw.mv hmod2 (by decide) hw, ?_, dep_Im.mv hmod2 (by decide) hm⟩
                intro u hu
                obtain ⟨l0, t0, n0, p1, p2, p3, z1, z2, z3, z4, z5, z6, z7⟩ := hs u hu
                refine ⟨l0, t0, n0, p1, p2, p3, ?_⟩
                rw [← hσ2, ← hσ1]
                simp [srg_app, z1, z2, z3, z4, z5, z6]
                intro x hx
                by_cases e : u = t
                · subst e
                  by_cases hx2 : j ≤ x ∧ x < j + k'
                  · rw [if_pos ⟨rfl, hx2⟩, if_pos (by omega), s7 (i + (x - j)) (by omega)]
                    congr 1
                    omega
                  · rw [if_neg (fun q => hx2 q.2), if_neg (by omega)]
                    exact z7 x hx
                · rw [if_neg (fun q => e q.1), if_neg (by omega)]
                  exact z7 x hx
              · refine fnd 2 ?_ ?_
                · simp only [fX8_copy, x_isSheet, c1, c2, if_true, grd_t, ts, tt, s1, s1', nI_0, s3, s3', hty, h1.mpr r1, show ¬ fX6_hasRow σ t a4 a5 = true from fun q => r2 (h2.mp q), if_false, bj_sr, bnd_eq, fX8_refuse, bj_sl]
                  simp [bj_sr, bj_sl]
                · have v1 : ¬ (0 < lg_cmp (a2.toInt64 + a5.toInt64) (nI n).toInt64) := by
                    rw [lcmp_ok q3]
                    have := r1.2.2
                    omega
                  have b1 : ¬ a2 < 0 := by rw [lt0]; have := r1.1; omega
                  have b2 : ¬ a5 < 0 := by rw [lt0]; have := r1.2.1; omega
                  by_cases b3 : a4 < 0
                  · simp [fX9_copy, m_isSheet, c1, c2, grd_t, ts, tt, su_app, s2, s2', n1, s4, s4', hty, b1, b3, bj_sr, bnd_eq, fX9_meets, bj_sl]
                  · have v2 : ¬ lg_cmp (a4.toInt64 + a5.toInt64) (nI n').toInt64 ≤ 0 := by
                      rw [lcmp_ok2 q3']
                      intro q
                      rw [lt0] at b2 b3
                      exact r2 ⟨by omega, by omega, q⟩
                    simp [fX9_copy, m_isSheet, c1, c2, grd_t, ts, tt, su_app, s2, s2', n1, s4, s4', hty, b1, b2, b3, s6, s6', v1, v2, bj_sr, bnd_eq, fX9_meets, bj_sl]
            · refine fnd 2 ?_ ?_
              · simp only [fX8_copy, x_isSheet, c1, c2, if_true, grd_t, ts, tt, s1, s1', nI_0, s3, s3', hty, show ¬ fX6_hasRow σ s a2 a5 = true from fun q => r1 (h1.mp q), if_false, bj_sr, bnd_eq, fX8_refuse, bj_sl]
                simp [bj_sr, bj_sl]
              · by_cases b1 : a2 < 0
                · simp [fX9_copy, m_isSheet, c1, c2, grd_t, ts, tt, su_app, s2, s2', n1, s4, s4', hty, b1, bj_sr, bnd_eq, fX9_meets, bj_sl]
                · by_cases b3 : a4 < 0
                  · simp [fX9_copy, m_isSheet, c1, c2, grd_t, ts, tt, su_app, s2, s2', n1, s4, s4', hty, b1, b3, bj_sr, bnd_eq, fX9_meets, bj_sl]
                  · by_cases b2 : a5 < 0
                    · simp [fX9_copy, m_isSheet, c1, c2, grd_t, ts, tt, su_app, s2, s2', n1, s4, s4', hty, b1, b2, b3, bj_sr, bnd_eq, fX9_meets, bj_sl]
                    · have v1 : 0 < lg_cmp (a2.toInt64 + a5.toInt64) (nI n).toInt64 := by
                        rw [lcmp_ok q3]
                        rw [lt0] at b1 b2
                        apply Int.not_le.mp
                        intro q
                        exact r1 ⟨by omega, by omega, q⟩
                      simp [fX9_copy, m_isSheet, c1, c2, grd_t, ts, tt, su_app, s2, s2', n1, s4, s4', hty, b1, b2, b3, s6, v1, bj_sr, bnd_eq, fX9_meets, bj_sl]
          · refine fnd 4 ?_ ?_
            · simp only [fX8_copy, x_isSheet, c1, c2, if_true, grd_t, ts, tt, s1, s1', nI_0, s3, s3', hty, if_false, bnd_eq, fX8_refuse, bj_sl]
            · simp [fX9_copy, m_isSheet, c1, c2, grd_t, ts, tt, su_app, s2, s2', n1, s4, s4', hty, bnd_eq, fX9_meets, bj_sl]
        · refine fnd 1 ?_ ?_
          · simp only [fX8_copy, x_isSheet, c1, c2, if_true, grd_t, ts, tt, s1, s1', nI_0, n1, if_false, bnd_eq, fX8_refuse, bj_sr]
          · simp [fX9_copy, m_isSheet, c1, c2, grd_t, ts, tt, su_app, s2, s2', n1, nI_0, bnd_eq, fX9_meets, bj_sr]
      · refine fnd 1 ?_ ?_
        · simp only [fX8_copy, x_isSheet, c1, c2, if_true, grd_t, ts, tt, s1, n1, if_false, bnd_eq, fX8_refuse, bj_sr]
        · simp [fX9_copy, m_isSheet, c1, c2, grd_t, ts, tt, su_app, s2, nI_0, bnd_eq, fX9_meets, bj_sr]
    · refine ⟨-2, σ, σ, ?_, ?_, hI⟩
      · simp [fX8_copy, x_isSheet, c1, c2]
      · simp [fX9_copy, m_isSheet, c1, c2]
  · refine ⟨-2, σ, σ, ?_, ?_, hI⟩
    · simp [fX8_copy, x_isSheet, c1]
    · simp [fX9_copy, m_isSheet, c1]
