/-! ===== clubs: agree, gives, enact, count, motion ===== -/
theorem club_at {σ : St} (hI : Iv σ) : ∃ nc : Nat, nc ≤ 12 ∧ σ (8, 0) 11 = nI nc ∧ σ (9, 0) 28 = nI nc := by
  obtain ⟨nm, nc, a, b, q, h1, h2, h3, h4, h5, h6, e1, e2, e3, e4, -⟩ := hI.1
  exact ⟨nc, h2, e3, e4⟩
theorem club_x {σ : St} (hI : Iv σ) {i : Nat} (hi : i < 12) : ∃ k h m : Nat, k < 11 ∧ h < 131072 ∧ m < 2 ∧ σ (0, i) 0 = nI k ∧ σ (44, 0) i = nI k ∧ σ (0, i) 1 = nI h ∧ σ (45, 0) i = nI h ∧ σ (0, i) 2 = nI m ∧ σ (46, 0) i = nI m := by
  obtain ⟨k, h, m, h1, h2, h3, e1, e2, e3, e4, e5, e6, -⟩ := hI.2.1 i hi
  exact ⟨k, h, m, h1, h2, h3, e1, e2, e3, e4, e5, e6⟩
theorem in12 {i : Nat} (hi : i < 12) : inb (nI i) 12 = true ∧ tn (nI i) = i := by
  refine ⟨?_, tn_nI (by omega)⟩
  rw [inb_nI (by omega)]
  simpa using hi
theorem in11 {i : Nat} (hi : i < 11) : inb (nI i) 11 = true ∧ tn (nI i) = i := by
  refine ⟨?_, tn_nI (by omega)⟩
  rw [inb_nI (by omega)]
  simpa using hi
theorem in17 {i : Nat} (hi : i < 17) : inb (nI i) 17 = true ∧ tn (nI i) = i := by
  refine ⟨?_, tn_nI (by omega)⟩
  rw [inb_nI (by omega)]
  simpa using hi
theorem x_itemsOf {σ : St} {i k : Nat} (hi : i < 12) (hk : k < 11) (e : σ (0, i) 0 = nI k) : fX8_itemsOf σ (nI i) = some (11, k) := by
  unfold fX8_itemsOf
  rw [(in12 hi).1, grd_t, (in12 hi).2, e, (in11 hk).1, grd_t, (in11 hk).2]
theorem modi.M {σ σ' : St} (h : modi RR σ σ') {f j k : Nat} (hf : (f = 9 ∧ k < 100 ∧ ¬ k = 6 ∧ ¬ k = 7 ∧ ¬ k = 8) ∨ (10 ≤ f ∧ ¬ f = 31 ∧ ¬ f = 32 ∧ ¬ f = 33 ∧ ¬ f = 34 ∧ f < 1000)) : σ' (f, j) k = σ (f, j) k := by
  refine h _ _ ?_
  by_cases c : f < 10
  · rw [cod_o c]
    simp
    omega
  · rw [cod_a c]
    simp
    omega
theorem m_doAgree {σ : St} {i j ki kj : Nat} {hi' hj' : Int32} (hi : i < 12) (hj : j < 12) (hki : ki < 11) (hkj : kj < 11) (e1 : σ (44, 0) i = nI ki) (e2 : σ (44, 0) j = nI kj) (e3 : σ (45, 0) i = hi') (e4 : σ (45, 0) j = hj') (h : Id σ) : ∃ σ', fX9_doAgree σ (nI i) (nI j) = some (decide ((dm (σ (11, ki)) (σ (11, kj)) 17 &&& hi') &&& hj' = 0), σ') ∧ Id σ' ∧ modi RR σ σ' := by
  obtain ⟨s, e, h1, h2⟩ := m_differOf hki hkj h
  have e5 : s (45, 0) i = hi' := by rw [h2.M (by simp), e3]
  have e6 : s (45, 0) j = hj' := by rw [h2.M (by simp), e4]
  refine ⟨s, ?_, h1, h2⟩
  unfold fX9_doAgree
  rw [(in12 hi).1, grd_t, (in12 hj).1, grd_t, (in12 hi).2, (in12 hj).2, e1, e2, e, obi_s]
  simp only [grd_t, e5, e6]
  by_cases c : (dm (σ (11, ki)) (σ (11, kj)) 17 &&& hi') &&& hj' = 0
  · rw [if_pos c]; simp [c]
  · rw [if_neg c]; simp [c]
theorem x_atOdds {σ : St} {i j ki kj : Nat} (hi : i < 12) (hj : j < 12) (hki : ki < 11) (hkj : kj < 11) (e1 : σ (0, i) 0 = nI ki) (e2 : σ (0, j) 0 = nI kj) : fX8_atOdds σ (nI i) (nI j) = some ((dm (σ (11, ki)) (σ (11, kj)) 17 &&& σ (0, i) 1) &&& σ (0, j) 1) := by
  unfold fX8_atOdds
  rw [x_itemsOf hi hki e1, obi_s, x_itemsOf hj hkj e2, obi_s, x_unlike (ia_of (f := 11) rfl hki) (ia_of (f := 11) rfl hkj) rfl rfl, obi_s, (in12 hi).1, grd_t, (in12 hj).1, grd_t, (in12 hi).2, (in12 hj).2]
theorem op_agree {σ : St} (hI : Ix σ) (a1 a2 : Int32) : ∃ v σ2, fX8_agree σ a1 a2 = some v ∧ fX9_agree σ a1 a2 = some (v, σ2) ∧ Ix σ2 := by
  obtain ⟨nc, hnc, n1, n2⟩ := club_at hI.1
  unfold fX8_agree fX9_agree
  rw [areTwo_x (by omega) n1, areTwo_m (by omega) n2]
  by_cases c : (inb a1 nc && (inb a2 nc && !(decide (a1 = a2)))) = true
  · obtain ⟨i, j, hi, hj, hij, rfl, rfl⟩ := areTwo_ex hnc c
    obtain ⟨ki, h, m, q1, -, -, e1, e2, e3, e4, -⟩ := club_x hI.1 (show i < 12 by omega)
    obtain ⟨kj, h', m', q2, -, -, f1, f2, f3, f4, -⟩ := club_x hI.1 (show j < 12 by omega)
    obtain ⟨s, e, w1, w2⟩ := m_doAgree (show i < 12 by omega) (show j < 12 by omega) q1 q2 e2 f2 e4 f4 hI.2
    rw [if_pos c, if_pos c, x_atOdds (by omega) (by omega) q1 q2 e1 f1, obi_s, e, obi_s, e3, f3]
    by_cases d : (dm (σ (11, ki)) (σ (11, kj)) 17 &&& nI h) &&& nI h' = 0
    · simp only [d, if_true, decide_true]
      exact ⟨_, _, rfl, rfl, hI.rd w2 w1⟩
    · simp only [d, if_false, decide_false, Bool.false_eq_true]
      exact ⟨_, _, rfl, rfl, hI.rd w2 w1⟩
  · rw [if_neg c, if_neg c]
    exact ⟨_, _, rfl, rfl, hI⟩
theorem and_or_not (D A B : Int32) (h : (D &&& A) &&& B = 0) : D &&& (B ||| (A ^^^ (-1))) = D &&& (A ^^^ (-1)) := by
  apply Int32.toBitVec_inj.1
  have h' := congrArg Int32.toBitVec h
  simp only [Int32.toBitVec_and, Int32.toBitVec_or, Int32.toBitVec_xor] at h' ⊢
  apply BitVec.eq_of_getLsbD_eq
  intro i hi
  have hb := congrArg (fun x => BitVec.getLsbD x i) h'
  simp only [BitVec.getLsbD_and, BitVec.getLsbD_or, BitVec.getLsbD_xor] at hb ⊢
  have e1 : BitVec.getLsbD (Int32.toBitVec (-1)) i = true := by
    rw [show Int32.toBitVec (-1) = BitVec.allOnes 32 by decide, BitVec.getLsbD_allOnes]
    simpa using hi
  have e0 : BitVec.getLsbD (Int32.toBitVec 0) i = false := by
    rw [show Int32.toBitVec 0 = 0#32 by decide, BitVec.getLsbD_zero]
  rw [e0] at hb
  rw [e1]
  cases h1 : D.toBitVec.getLsbD i <;> cases h2 : A.toBitVec.getLsbD i <;> cases h3 : B.toBitVec.getLsbD i <;> simp_all
theorem m_givesOf {σ : St} {i j ki kj : Nat} (hi : i < 12) (hj : j < 12) (hki : ki < 11) (hkj : kj < 11) (e1 : σ (44, 0) i = nI ki) (e2 : σ (44, 0) j = nI kj) (h : Id σ) : ∃ σ', fX9_givesOf σ (nI i) (nI j) = some (dm (σ (11, ki)) (σ (11, kj)) 17 &&& (σ (45, 0) j ||| (if j ≤ i then σ (45, 0) i ^^^ (-1) else 0)), σ') ∧ Id σ' ∧ modi RR σ σ' := by
  obtain ⟨s, e, h1, h2⟩ := m_differOf hki hkj h
  refine ⟨s, ?_, h1, h2⟩
  unfold fX9_givesOf
  simp only [leI (show j < 2 ^ 31 by omega) (show i < 2 ^ 31 by omega), (in12 hi).1, (in12 hi).2, (in12 hj).1, (in12 hj).2, grd_t]
  by_cases c : j ≤ i
  · simp only [c, if_true, obi_s, e1, e2, e, h2.M (f := 45) (j := 0) (k := j) (by simp)]
  · simp only [c, if_false, obi_s, e1, e2, e, h2.M (f := 45) (j := 0) (k := j) (by simp)]
theorem x_givenBy {σ : St} {i j ki kj : Nat} (hi : i < 12) (hj : j < 12) (hki : ki < 11) (hkj : kj < 11) (e1 : σ (0, i) 0 = nI ki) (e2 : σ (0, j) 0 = nI kj) : fX8_givenBy σ (nI i) (nI j) = some (dm (σ (11, ki)) (σ (11, kj)) 17 &&& (if j ≤ i then σ (0, i) 1 ^^^ (-1) else σ (0, j) 1)) := by
  unfold fX8_givenBy
  rw [x_itemsOf hi hki e1, obi_s, x_itemsOf hj hkj e2, obi_s, x_unlike (ia_of (f := 11) rfl hki) (ia_of (f := 11) rfl hkj) rfl rfl, obi_s]
  simp only [leI (show j < 2 ^ 31 by omega) (show i < 2 ^ 31 by omega), (in12 hi).1, (in12 hi).2, (in12 hj).1, (in12 hj).2, grd_t]
  by_cases c : j ≤ i
  · simp only [c, if_true]
  · simp only [c, if_false]
theorem op_gives {σ : St} (hI : Ix σ) (a1 a2 : Int32) : ∃ v σ2, fX8_gives σ a1 a2 = some v ∧ fX9_gives σ a1 a2 = some (v, σ2) ∧ Ix σ2 := by
  obtain ⟨nc, hnc, n1, n2⟩ := club_at hI.1
  unfold fX8_gives fX9_gives
  rw [areTwo_x (by omega) n1, areTwo_m (by omega) n2]
  by_cases c : (inb a1 nc && (inb a2 nc && !(decide (a1 = a2)))) = true
  · obtain ⟨i, j, hi, hj, hij, rfl, rfl⟩ := areTwo_ex hnc c
    obtain ⟨ki, h, m, q1, -, -, e1, e2, e3, e4, -⟩ := club_x hI.1 (show i < 12 by omega)
    obtain ⟨kj, h', m', q2, -, -, f1, f2, f3, f4, -⟩ := club_x hI.1 (show j < 12 by omega)
    obtain ⟨s, e, w1, w2⟩ := m_doAgree (show i < 12 by omega) (show j < 12 by omega) q1 q2 e2 f2 e4 f4 hI.2
    rw [if_pos c, if_pos c, x_atOdds (by omega) (by omega) q1 q2 e1 f1, obi_s, e, obi_s, e3, f3]
    by_cases d : (dm (σ (11, ki)) (σ (11, kj)) 17 &&& nI h) &&& nI h' = 0
    · simp only [d, if_true, decide_true]
      have e2' : s (44, 0) i = nI ki := by rw [w2.M (by simp), e2]
      have f2' : s (44, 0) j = nI kj := by rw [w2.M (by simp), f2]
      obtain ⟨s2, e', w1', w2'⟩ := m_givesOf (show i < 12 by omega) (show j < 12 by omega) q1 q2 e2' f2' w1
      have r1 : s (11, ki) = σ (11, ki) := by funext k; exact w2.X (by simp)
      have r2 : s (11, kj) = σ (11, kj) := by funext k; exact w2.X (by simp)
      rw [x_givenBy (by omega) (by omega) q1 q2 e1 f1, obi_s, e', obi_s, r1, r2, w2.M (by simp), w2.M (by simp), e4, f4, e3, f3]
      refine ⟨_, _, rfl, ?_, (hI.rd w2 w1).rd w2' w1'⟩
      congr 2
      by_cases c2 : j ≤ i
      · rw [if_pos c2, if_pos c2]
        exact and_or_not _ _ _ d
      · rw [if_neg c2, if_neg c2, Int32.or_zero]
    · simp only [d, if_false, decide_false, Bool.false_eq_true]
      exact ⟨_, _, rfl, rfl, hI.rd w2 w1⟩
  · rw [if_neg c, if_neg c]
    exact ⟨_, _, rfl, rfl, hI⟩
