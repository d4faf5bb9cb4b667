theorem m_lays {τ : St} {b : Nat} (hb : b < 63) : fX9_lays τ (nI b) = su (su (su (su (su τ (9, 0) 10 (nI (b / 9))) (9, 0) 11 (nI (b / 3 % 3))) (9, 0) 12 (nI (b % 3))) (9, 0) 13 0) (9, 0) 14 0 := by
  obtain ⟨q1, q2, q3⟩ := d9 hb
  unfold fX9_lays
  rw [bnd_eq, bnd_eq, bnd_eq, m_ball, q1, q2, q3]
set_option maxHeartbeats 1000000 in
theorem m_out {τ : St} {f : Nat → Int32} (hr : ∀ k, k < 17 → τ (35, 0) k = f k) (hf : gd f) {b m : Nat} (hb : b < 63) (hm : m < 40) : ∃ τ', fX9_goesOn (fX9_lays τ (nI b)) (nI m) (-1) = some (nI (oW f b m), τ') ∧ mf τ τ' ∧ τ' (9, 0) 13 = nI (if m / 10 % 2 = 0 then oV f b m else 0) ∧ τ' (9, 0) 14 = nI (if m / 10 % 2 = 0 then 0 else oV f b m) ∧ fX9_ballNumber τ' = nI (oB f b m) := by
  obtain ⟨v, c', o', l', h1, h2, h3, h4, eQ, eB, eV⟩ := oQ_ok hf hb hm
  obtain ⟨j1, j2, j3, j4, -, -⟩ := side_n m hm
  have hs : m / 10 % 2 < 2 := by omega
  have ha : m % 10 < 10 := by omega
  have hc : b / 9 < 7 := by omega
  have ho : b / 3 % 3 < 3 := by omega
  have hl : b % 3 < 3 := by omega
  have fm : mf τ (fX9_lays τ (nI b)) := by
    rw [m_lays hb]
    exact ((((mf.rf.st (by decide) _).st (by decide) _).st (by decide) _).st (by decide) _).st (by decide) _
  have n0 : fX9_lays τ (nI b) (9, 0) 10 = nI (b / 9) := by rw [m_lays hb]; simp [su_app]
  have n1 : fX9_lays τ (nI b) (9, 0) 11 = nI (b / 3 % 3) := by rw [m_lays hb]; simp [su_app]
  have n2 : fX9_lays τ (nI b) (9, 0) 12 = nI (b % 3) := by rw [m_lays hb]; simp [su_app]
  have n3 : fX9_lays τ (nI b) (9, 0) 13 = 0 := by rw [m_lays hb]; simp [su_app]
  have n4 : fX9_lays τ (nI b) (9, 0) 14 = 0 := by rw [m_lays hb]; simp [su_app]
  generalize fX9_lays τ (nI b) = t1 at fm n0 n1 n2 n3 n4
  have row : ∀ k, k < 17 → t1 (35, 0) k = f k := fun k hk => by rw [fm (35, 0) k (by simp)]; exact hr k hk
  have rk := xc_rk hf.1 (b / 9) (b / 3 % 3) (b % 3) row
  have ball : ∀ (z : St) (c o l : Nat), z (9, 0) 10 = nI c → z (9, 0) 11 = nI o → z (9, 0) 12 = nI l → fX9_ballNumber z = nI (9 * c + 3 * o + l) := by
    intro z c o l e0 e1 e2
    unfold fX9_ballNumber
    rw [e0, e1, e2, show (3 : Int32) = nI 3 from rfl, show (9 : Int32) = nI 9 from rfl, pk_mul, pk_mul, nI_add, nI_add]
  unfold fX9_goesOn oW
  rw [bnd_eq, j3, j4, m_canBe n0 n1 n2 hc ho hl hs ha]
  by_cases c1 : gcan (b / 9) (b / 3 % 3) (b % 3) (m / 10 % 2) (m % 10) = true
  · rw [if_pos c1, if_pos c1, if_pos rfl]
    have let' : fX9_isLet t1 (nI m) = some (LT f (b / 9) m) := by
      obtain ⟨bb, b1, b2⟩ := g_isLet (t := 0) (σ := xc f (b / 9) (b / 3 % 3) (b % 3)) hc hm rfl n0 rk
      rw [b2, ← b1]
      exact x_isLetT (xc_rw f _ _ _) hm rfl
    rw [let', obi_s]
    by_cases c2 : LT f (b / 9) m = true
    · rw [if_pos c2, if_pos c2, bj_sr]
      obtain ⟨s3, t3, g1, g2, g3, -, g5, -⟩ := gr_go (σ := xc f (b / 9) (b / 3 % 3) (b % 3)) (t := 0) hc ho hl hs ha rfl n0 rfl n1 rfl n2 (by rw [n3]; rfl) (by rw [n4]; rfl) c1 rk
      obtain ⟨s3', e3, -, w1, w2, w3, w4, w5, w6⟩ := x_goT (xc_rw f (b / 9) (b / 3 % 3) (b % 3)) rfl (nI (m / 10 % 2)) (nI (m % 10))
      have : s3' = s3 := Option.some.inj (e3.symm.trans g1)
      subst this
      have eQ' : goT f (nI (m / 10 % 2)) (nI (m % 10)) (xc f (b / 9) (b / 3 % 3) (b % 3) (4, 0) 0) (xc f (b / 9) (b / 3 % 3) (b % 3) (4, 0) 1) (xc f (b / 9) (b / 3 % 3) (b % 3) (4, 0) 2) = (nI v, nI c', nI o', nI l') := by
        rw [← eQ]
        unfold oQ
        rw [if_pos c1, if_pos c2]
        rfl
      rw [eQ'] at w1 w2 w3 w4 w5 w6
      obtain ⟨cc, oo, ll, -, -, -, u4, u5, u6, u7, u8, u9, u10, u11⟩ := g3
      have es : (nI (m / 10 % 2) = (0 : Int32)) = (m / 10 % 2 = 0) := eqI (b := 0) (by omega) (by decide)
      refine ⟨t3, by rw [g2, obi_s, bj_sl]; rfl, fun r k h => (g5 r k h).trans (fm r k h), ?_, ?_, ?_⟩
      · rw [← u10, w5, eV]
        show (0 : Int32) + _ = _
        simp only [es]
        by_cases d : m / 10 % 2 = 0
        · rw [if_pos d, if_pos d]; simp
        · rw [if_neg d, if_neg d]; rfl
      · rw [← u11, w6, eV]
        show (0 : Int32) + _ = _
        simp only [es]
        by_cases d : m / 10 % 2 = 0
        · rw [if_pos d, if_pos d]; rfl
        · rw [if_neg d, if_neg d]; simp
      · rw [eB]
        exact ball t3 c' o' l' (by rw [u5, ← u4, w2]) (by rw [u7, ← u6, w3]) (by rw [u9, ← u8, w4])
    · rw [if_neg c2, if_neg c2, bj_sl, bj_sr, bnd_eq, n0, nxt_x _ hs]
      have eQ' : (0, nI (b / 9), nI (1 - m / 10 % 2), nI 0) = (nI v, nI c', nI o', nI l') := by
        rw [← eQ]
        unfold oQ
        rw [if_pos c1, if_neg c2]
      have z1 : (0 : Int32) = nI v := congrArg (fun q : Int32 × Int32 × Int32 × Int32 => q.1) eQ'
      have z2 : nI (b / 9) = nI c' := congrArg (fun q : Int32 × Int32 × Int32 × Int32 => q.2.1) eQ'
      have z3 : nI (1 - m / 10 % 2) = nI o' := congrArg (fun q : Int32 × Int32 × Int32 × Int32 => q.2.2.1) eQ'
      have z4 : nI 0 = nI l' := congrArg (fun q : Int32 × Int32 × Int32 × Int32 => q.2.2.2) eQ'
      have v0 : v = 0 := ((nI_eq (a := v) (b := 0) (by omega) (by decide)).1 z1.symm)
      subst v0
      refine ⟨_, rfl, ?_, ?_, ?_, ?_⟩
      · rw [m_ball]
        exact fun r k h => ((((mf.rf.st (τ := t1) (by decide) _).st (by decide) _).st (by decide) _) r k h).trans (fm r k h)
      · rw [m_ball, eV]
        simp [su_app, n3]
        rfl
      · rw [m_ball, eV]
        simp [su_app, n4]
        rfl
      · rw [eB, m_ball]
        refine ball _ c' o' l' ?_ ?_ ?_
        · simp [su_app, z2]
        · simp [su_app, z3]
        · simp [su_app]; exact z4
  · rw [if_neg c1, if_neg c1]
    have eQ' : (0, nI (b / 9), nI (b / 3 % 3), nI (b % 3)) = (nI v, nI c', nI o', nI l') := by
      rw [← eQ]
      unfold oQ
      rw [if_neg c1]
    have z1 : (0 : Int32) = nI v := congrArg (fun q : Int32 × Int32 × Int32 × Int32 => q.1) eQ'
    have z2 : nI (b / 9) = nI c' := congrArg (fun q : Int32 × Int32 × Int32 × Int32 => q.2.1) eQ'
    have z3 : nI (b / 3 % 3) = nI o' := congrArg (fun q : Int32 × Int32 × Int32 × Int32 => q.2.2.1) eQ'
    have z4 : nI (b % 3) = nI l' := congrArg (fun q : Int32 × Int32 × Int32 × Int32 => q.2.2.2) eQ'
    have v0 : v = 0 := ((nI_eq (a := v) (b := 0) (by omega) (by decide)).1 z1.symm)
    subst v0
    refine ⟨t1, rfl, fm, ?_, ?_, ?_⟩
    · rw [n3, eV]; simp; rfl
    · rw [n4, eV]; simp; rfl
    · rw [eB]; exact ball t1 c' o' l' (n0.trans z2) (n1.trans z3) (n2.trans z4)
