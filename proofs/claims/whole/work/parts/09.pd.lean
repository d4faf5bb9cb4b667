set_option maxHeartbeats 2000000 in
theorem op_type {σ : St} (hI : Ix σ) (a1 a2 : Int32) : ∃ v σ1 σ2, fX8_type σ a1 a2 = some (v, σ1) ∧ fX9_type σ1 a1 a2 = some (v, σ2) ∧ Ix σ2 := by
  have mx := @mX8_type σ a1 a2
  by_cases c : inb a1 11 = true
  case neg =>
    refine ⟨-2, σ, σ, ?_, ?_, hI⟩
    · unfold fX8_type; rw [x_isCode, if_neg c]
    · unfold fX9_type; rw [m_isCode, if_neg c]
  by_cases d : inb a2 256 = true
  case neg =>
    refine ⟨-2, σ, σ, ?_, ?_, hI⟩
    · unfold fX8_type
      rw [x_isCode, if_pos c]
      by_cases d1 : a2 < 0
      · rw [if_pos d1]
      · have d2 : ¬ a2 ≤ 255 := by
          intro e
          refine d (inb_iff.2 ⟨?_, ?_⟩)
          · rw [i32_lt] at d1
            have : (0 : Int32).toInt = 0 := rfl
            omega
          · rw [i32_le] at e
            have : (255 : Int32).toInt = 255 := rfl
            omega
        rw [if_neg d1, if_neg d2]
    · unfold fX9_type
      rw [m_isCode, if_pos c, rM a2 256 255 (by decide), if_neg d]
  obtain ⟨j, hj, rfl⟩ := inb_ex (by decide) c
  obtain ⟨b, hb, rfl⟩ := inb_ex (by decide) d
  obtain ⟨n, t, hx, hm, hr, hd⟩ := hI.2.2 j hj
  have h80 := hx.1
  have d1 : ¬ nI b < 0 := nI_pos (by omega)
  have d2 : nI b ≤ 255 := by rw [show (255 : Int32) = nI 255 from rfl, leI (by omega) (by decide)]; omega
  have tj := tn_nI (show j < 2 ^ 31 by omega)
  by_cases c80 : n < 80
  case neg =>
    have n80 : n = 80 := by omega
    subst n80
    refine ⟨-4, σ, σ, ?_, ?_, hI⟩
    · unfold fX8_type fX1_addByte
      rw [x_isCode, if_pos c, if_neg d1, if_pos d2, c, grd_t, tj, hx.2.1, if_neg (by decide), obi_s]
    · unfold fX9_type
      rw [m_isCode, if_pos c, rM (nI b) 256 255 (by decide), if_pos d, c, grd_t, tj, hm.1, if_pos (by decide)]
  generalize ht' : (fun i => if i = n then b else t i) = t'
  generalize hs2 : su (su σ (10, j) n (nI b)) (1, j) 3 (nI (n + 1)) = s2
  have hx2 : XT s2 j (n + 1) t' := by
    subst hs2 ht'
    refine ⟨by omega, su_hit _ _ _ _, fun i hi => ?_⟩
    by_cases ci : i = n
    · subst ci
      refine ⟨by simp; omega, by simp [su_app]⟩
    · have := hx.2.2 i (by omega)
      refine ⟨by simp [ci, this.1], by simp [su_app, ci, this.2]⟩
  have hw2 : WP s2 := by
    subst hs2
    exact (hI.2.1.su (wp_ne (by decide))).su (wp_ne (by decide))
  have hf2 : xfr j σ s2 := by
    subst hs2
    intro r k h1 h2 h3 h4
    rw [su_app, if_neg (fun q => h1 q.1), su_app, if_neg (fun q => h2 q.1)]
  obtain ⟨f, g, z, er, hfr, hgr⟩ := x_read hj hx2 hw2
  generalize hs3 : cst s2 j f g z (saysF (n + 1) t') = s3 at er
  have hx3 : XT s3 j (n + 1) t' := by
    subst hs3
    refine ⟨hx2.1, by rw [cst_o _ _ _ _ _ _ (by simp) (by simp) (by simp) (by simp), hx2.2.1], fun i hi => ⟨(hx2.2.2 i hi).1, by rw [cst_o _ _ _ _ _ _ (by simp) (by simp) (by simp) (by simp), (hx2.2.2 i hi).2]⟩⟩
  have hr3 : Xrd s3 j (n + 1) t' := by
    subst hs3
    exact ⟨cst_4 _ _ _ _ _ _, by rw [cst_11]; exact hfr, by rw [cst_12]; exact hgr⟩
  have hf3 : xfr j σ s3 := by subst hs3; exact cst_xfr hf2 _ _ _ _
  have eX : fX8_type σ (nI j) (nI b) = some (nI (n + 1), s3) := by
    have i80 : inb (nI n) 80 = true := by rw [inb_nI (by omega)]; simpa using c80
    have e3 : su σ (10, j) n (nI b) (1, j) 3 = nI n := by simp [su_app, hx.2.1]
    unfold fX8_type fX1_addByte
    rw [x_isCode, if_pos c, if_neg d1, if_pos d2, c, grd_t, tj, hx.2.1, if_pos (show nI n < 80 by rw [show (80 : Int32) = nI 80 from rfl, ltI (by omega) (by decide)]; exact c80), i80, grd_t, bnd_eq, tn_nI (by omega), nch_b b hb, e3, bnd_eq, nI_1, hs2, er, obi_s, hx3.2.1, obi_s]
  have e29 : s3 (29, 0) j = nI n := by rw [hf3 _ _ (by simp) (by simp) (by simp) (by simp), hm.1]
  have n80 : ¬ nI n = 80 := by rw [show (80 : Int32) = nI 80 from rfl, eqI (by omega) (by decide)]; omega
  have e80 : (80 : Int32) * nI j + nI n = nI (80 * j + n) := by rw [show (80 : Int32) = nI 80 from rfl, pk_mul, nI_add]
  have i880 : inb (nI (80 * j + n)) 880 = true := by rw [inb_nI (by omega)]; simp; omega
  have e29' : su s3 (30, 0) (80 * j + n) (nI b) (29, 0) j = nI n := by simp [su_app, e29]
  have eM : fX9_type s3 (nI j) (nI b) = some (nI (n + 1), su (su (su s3 (30, 0) (80 * j + n) (nI b)) (29, 0) j (nI (n + 1))) (31, 0) j 0) := by
    unfold fX9_type
    rw [m_isCode, if_pos c, rM (nI b) 256 255 (by decide), if_pos d, c, grd_t, tj, e29, if_neg n80, grd_t, e80, i880, grd_t, bnd_eq, tn_nI (by omega), grd_t, e29', grd_t, bnd_eq, grd_t, bnd_eq, grd_t, nI_1, nbo_0]
    congr 2
    simp [su_app]
  refine ⟨_, _, _, eX, eM, ?_, ?_⟩
  · exact (hI.1.mv (mx eX) (by decide)).mv (mX9_type eM) (by decide)
  · refine hI.2.lay hj hf3 ?_ hx3 hr3 ⟨by simp [su_app], fun i hi => ?_⟩ (su_hit _ _ _ _)
    · intro r k h1 h2 h3
      rw [su_app, if_neg h2, su_app, if_neg h1, su_app, if_neg]
      rintro ⟨q1, q2⟩
      exact h3 ⟨q1, by omega, by omega⟩
    · subst ht'
      rw [su_app, if_neg (by simp), su_app, if_neg (by simp), su_app]
      by_cases ci : i = n
      · subst ci
        simp
      · rw [if_neg (by simp; omega), hf3 _ _ (by simp) (by simp) (by simp) (by simp), hm.2 i (by omega)]
        simp [ci]
set_option maxHeartbeats 2000000 in
theorem op_wipe {σ : St} (hI : Ix σ) (a1 : Int32) : ∃ v σ1 σ2, fX8_wipe σ a1 = some (v, σ1) ∧ fX9_wipe σ1 a1 = some (v, σ2) ∧ Ix σ2 := by
  have mx := @mX8_wipe σ a1
  by_cases c : inb a1 11 = true
  case neg =>
    refine ⟨-2, σ, σ, ?_, ?_, hI⟩
    · unfold fX8_wipe; rw [x_isCode, if_neg c]
    · unfold fX9_wipe; rw [m_isCode, if_neg c]
  obtain ⟨j, hj, rfl⟩ := inb_ex (by decide) c
  obtain ⟨n, t, hx, hm, hr, hd⟩ := hI.2.2 j hj
  have h80 := hx.1
  have tj := tn_nI (show j < 2 ^ 31 by omega)
  generalize hs2 : su σ (1, j) 3 (nI 0) = s2
  have hx2 : XT s2 j 0 t := by
    subst hs2
    exact ⟨by omega, su_hit _ _ _ _, fun i hi => by omega⟩
  have hw2 : WP s2 := by
    subst hs2
    exact hI.2.1.su (wp_ne (by decide))
  have hf2 : xfr j σ s2 := by
    subst hs2
    intro r k h1 h2 h3 h4
    rw [su_app, if_neg (fun q => h1 q.1)]
  obtain ⟨f, g, z, er, hfr, hgr⟩ := x_read hj hx2 hw2
  generalize hs3 : cst s2 j f g z (saysF 0 t) = s3 at er
  have hx3 : XT s3 j 0 t := by
    subst hs3
    refine ⟨hx2.1, by rw [cst_o _ _ _ _ _ _ (by simp) (by simp) (by simp) (by simp), hx2.2.1], fun i hi => by omega⟩
  have hr3 : Xrd s3 j 0 t := by
    subst hs3
    exact ⟨cst_4 _ _ _ _ _ _, by rw [cst_11]; exact hfr, by rw [cst_12]; exact hgr⟩
  have hf3 : xfr j σ s3 := by subst hs3; exact cst_xfr hf2 _ _ _ _
  have eX : fX8_wipe σ (nI j) = some (nI n, s3) := by
    unfold fX8_wipe fX1_empty
    rw [x_isCode, if_pos c, c, grd_t, tj, bnd_eq, bnd_eq, hx.2.1, show (0 : Int32) = nI 0 from rfl, hs2, er, obi_s, obi_s]
  have e29 : s3 (29, 0) j = nI n := by rw [hf3 _ _ (by simp) (by simp) (by simp) (by simp), hm.1]
  have eM : fX9_wipe s3 (nI j) = some (nI n, su (su s3 (29, 0) j 0) (31, 0) j 0) := by
    unfold fX9_wipe
    rw [m_isCode, if_pos c, c, grd_t, tj, e29, bnd_eq, grd_t, bnd_eq, grd_t, bnd_eq, nbo_0]
  refine ⟨_, _, _, eX, eM, ?_, ?_⟩
  · exact (hI.1.mv (mx eX) (by decide)).mv (mX9_wipe eM) (by decide)
  · refine hI.2.lay hj hf3 ?_ hx3 hr3 ⟨by simp [su_app]; rfl, fun i hi => by omega⟩ (su_hit _ _ _ _)
    intro r k h1 h2 h3
    rw [su_app, if_neg h2, su_app, if_neg h1]
