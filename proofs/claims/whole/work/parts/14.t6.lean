theorem m_in1 {a : Int32} {N : Nat} (hN : N < 2 ^ 30) (h0 : 0 < N) : fX9_in a 1 (nI N - 1) = true ↔ ∃ n, a = nI n ∧ ¬ n = 0 ∧ n < N := by
  have t : (nI N - 1).toInt = (N : Int) - 1 := by
    rw [show (1 : Int32) = nI 1 from rfl, pk_sub_toInt hN (by decide)]
    rfl
  have one : (1 : Int32).toInt = 1 := rfl
  unfold fX9_in
  constructor
  · intro h
    have h1 : ¬ a < 1 := by
      intro e
      rw [if_pos e] at h
      cases h
    rw [if_neg h1] at h
    have h2 : a ≤ nI N - 1 := by
      by_cases c : a ≤ nI N - 1
      · exact c
      · have c' : nI N - 1 < a := by
          rw [i32_le] at c
          rw [i32_lt]
          omega
        rw [if_pos c'] at h
        cases h
    rw [i32_lt, one] at h1
    rw [i32_le, t] at h2
    obtain ⟨n, hn, e⟩ := nI_of (x := a) (by rw [i32_lt]; have : (0 : Int32).toInt = 0 := rfl; omega)
    subst e
    rw [nI_toInt hn] at h1 h2
    exact ⟨n, rfl, by omega, by omega⟩
  · rintro ⟨n, rfl, h1, h2⟩
    rw [if_neg (by rw [i32_lt, one, nI_toInt (by omega)]; omega), if_neg (by rw [i32_lt, t, nI_toInt (by omega)]; omega)]
theorem x_field {σ : St} {nc : Nat} (hnc : nc ≤ 12) (n1 : σ (8, 0) 11 = nI nc) (a : Int32) : fX8_isField σ a = true ↔ ∃ n, a = nI n ∧ ¬ n = 0 ∧ n < 2 ^ nc ∧ pcn (nI n) 17 % 2 = 0 := by
  have p12 : 2 ^ nc ≤ 2 ^ 12 := Nat.pow_le_pow_right (by omega) hnc
  unfold fX8_isField
  rw [n1, shl_p nc (by omega)]
  have zero : (0 : Int32).toInt = 0 := rfl
  constructor
  · intro h
    have h1 : ¬ a ≤ 0 := by
      intro e
      rw [if_pos e] at h
      cases h
    rw [if_neg h1] at h
    have h2 : ¬ nI (2 ^ nc) ≤ a := by
      intro e
      rw [if_pos e] at h
      cases h
    rw [if_neg h2] at h
    rw [i32_le, zero] at h1
    obtain ⟨n, hn, e⟩ := nI_of (x := a) (by rw [i32_lt, zero]; omega)
    subst e
    rw [nI_toInt hn] at h1
    rw [leI (by omega) hn] at h2
    have hn' : n < 4096 := by omega
    rw [x_bit (inb17 hn')] at h
    refine ⟨n, rfl, by omega, by omega, ?_⟩
    have p := pc12 hn'
    by_cases c : irm (nI (pcn (nI n) 17)) 2 = 0
    · exact (irm2 (by omega)).1 c
    · rw [if_neg c] at h
      cases h
  · rintro ⟨n, rfl, h1, h2, h3⟩
    have hn' : n < 4096 := by omega
    have p := pc12 hn'
    rw [if_neg (by rw [i32_le, zero, nI_toInt (by omega)]; omega), if_neg (by rw [leI (by omega) (by omega)]; omega), x_bit (inb17 hn'), if_pos ((irm2 (by omega)).2 h3)]
theorem m_isCup {σ : St} {nc : Nat} (hnc : nc ≤ 12) (n2 : σ (9, 0) 28 = nI nc) (a b : Int32) : (((∃ n, a = nI n ∧ ¬ n = 0 ∧ n < 2 ^ nc ∧ pcn (nI n) 17 % 2 = 0) ∧ inb b 100 = true) → fX9_isCup σ a b = some true) ∧ (¬ ((∃ n, a = nI n ∧ ¬ n = 0 ∧ n < 2 ^ nc ∧ pcn (nI n) 17 % 2 = 0) ∧ inb b 100 = true) → fX9_isCup σ a b = some false) := by
  have p12 : 2 ^ nc ≤ 2 ^ 12 := Nat.pow_le_pow_right (by omega) hnc
  have p0 : 0 < 2 ^ nc := Nat.pow_pos (by omega)
  unfold fX9_isCup
  rw [n2, shl_p nc (by omega), rM b 100 99 (by decide)]
  by_cases c1 : fX9_in a 1 (nI (2 ^ nc) - 1) = true
  · rw [if_pos c1, m_ones, obi_s]
    obtain ⟨n, rfl, h1, h2⟩ := (m_in1 (by omega) p0).1 c1
    have p := pc12 (show n < 4096 by omega)
    by_cases c2 : pcn (nI n) 17 % 2 = 0
    · rw [if_pos ((irm2 (by omega)).2 c2)]
      by_cases c3 : inb b 100 = true
      · rw [if_pos c3]
        exact ⟨fun _ => rfl, fun w => absurd ⟨⟨n, rfl, h1, h2, c2⟩, c3⟩ w⟩
      · rw [if_neg c3]
        exact ⟨fun w => absurd w.2 c3, fun _ => rfl⟩
    · rw [if_neg (fun e => c2 ((irm2 (by omega)).1 e))]
      refine ⟨?_, fun _ => rfl⟩
      rintro ⟨⟨n', e, h1', h2', h3'⟩, -⟩
      have : n = n' := (nI_eq (by omega) (by omega)).1 e
      subst this
      exact absurd h3' c2
  · rw [if_neg c1]
    refine ⟨?_, fun _ => rfl⟩
    rintro ⟨⟨n', e, h1', h2', h3'⟩, -⟩
    exact absurd ((m_in1 (by omega) p0).2 ⟨n', e, h1', h2'⟩) c1
theorem EP_self {n : Nat} (h : pcn (nI n) 17 % 2 = 0) : EP n n := ⟨sb_rf _, h⟩
theorem op_draws {σ : St} (hI : Ix σ) (a1 a2 : Int32) : ∃ v σ1 σ2, fX8_draws σ a1 a2 = some (v, σ1) ∧ fX9_draws σ1 a1 a2 = some (v, σ2) ∧ Ix σ2 := by
  obtain ⟨nc, hnc, n1, n2⟩ := club_at hI.1
  have p12 : 2 ^ nc ≤ 2 ^ 12 := Nat.pow_le_pow_right (by omega) hnc
  unfold fX8_draws
  rw [x_isWay]
  have f1 := x_field hnc n1 a1
  have neg : ¬ (fX8_isField σ a1 = true ∧ inb a2 100 = true) → fX9_draws σ a1 a2 = some (-2, σ) := by
    intro h
    unfold fX9_draws
    rw [(m_isCup hnc n2 a1 a2).2 (fun w => h ⟨f1.2 w.1, w.2⟩), obi_s, if_neg (by decide)]
  by_cases c1 : fX8_isField σ a1 = true
  case neg => exact ⟨-2, σ, σ, by rw [if_neg c1], neg (fun w => c1 w.1), hI⟩
  by_cases c2 : inb a2 100 = true
  case neg => exact ⟨-2, σ, σ, by rw [if_pos c1, if_neg c2], neg (fun w => c2 w.2), hI⟩
  obtain ⟨n, rfl, h1, h2, h3⟩ := f1.1 c1
  obtain ⟨a, ha, rfl⟩ := inb_ex (by decide) c2
  obtain ⟨s, e⟩ := x_count hI.1 (show n < 4096 by omega) h1 (show a ≤ 99 by omega) (EP_self h3)
  have m1 := mX7_countDraws e
  have k2 : s (9, 0) 28 = nI nc := by rw [m1 (9, 0) 28 (by rw [cod_o (by decide)]; decide), n2]
  obtain ⟨s', q1, q2, q3⟩ := m_pairs hI.1 hnc k2 (fun k => m1 _ _ (by rw [cod_a (by decide)]; decide)) h2 (show a ≤ 99 by omega)
  have m2 := mX9_pairs q1
  refine ⟨_, s, s', by rw [if_pos c1, if_pos c2, e, obi_s], ?_, ?_⟩
  · unfold fX9_draws
    rw [(m_isCup hnc k2 (nI n) (nI a)).1 ⟨⟨n, rfl, h1, h2, h3⟩, c2⟩, obi_s, if_pos rfl, q1, obi_s, (inb4 (show n < 4096 by omega)).1, grd_t, (inb4 (show n < 4096 by omega)).2, (q3 n (Nat.le_refl _) (EP_self h3)).1]
  · exact ⟨(hI.1.mv m1 (by decide)).mv m2 (by decide), dep_Id.mv m2 (by decide) (dep_Id.mv m1 (by decide) hI.2)⟩
theorem op_cup {σ : St} (hI : Ix σ) (a1 a2 : Int32) : ∃ v σ1 σ2, fX8_cup σ a1 a2 = some (v, σ1) ∧ fX9_cup σ1 a1 a2 = some (v, σ2) ∧ Ix σ2 := by
  obtain ⟨nc, hnc, n1, n2⟩ := club_at hI.1
  have p12 : 2 ^ nc ≤ 2 ^ 12 := Nat.pow_le_pow_right (by omega) hnc
  unfold fX8_cup
  rw [x_isWay]
  have f1 := x_field hnc n1 a1
  have neg : ¬ (fX8_isField σ a1 = true ∧ inb a2 100 = true) → fX9_cup σ a1 a2 = some (-2, σ) := by
    intro h
    unfold fX9_cup
    rw [(m_isCup hnc n2 a1 a2).2 (fun w => h ⟨f1.2 w.1, w.2⟩), obi_s, if_neg (by decide)]
  by_cases c1 : fX8_isField σ a1 = true
  case neg => exact ⟨-2, σ, σ, by rw [if_neg c1], neg (fun w => c1 w.1), hI⟩
  by_cases c2 : inb a2 100 = true
  case neg => exact ⟨-2, σ, σ, by rw [if_pos c1, if_neg c2], neg (fun w => c2 w.2), hI⟩
  obtain ⟨n, rfl, h1, h2, h3⟩ := f1.1 c1
  obtain ⟨a, ha, rfl⟩ := inb_ex (by decide) c2
  obtain ⟨s, e, -, -⟩ := x_least hI.1 (show n < 4096 by omega) h1 (show a ≤ 99 by omega) (EP_self h3)
  have m1 := mX7_leastTogether e
  have k2 : s (9, 0) 28 = nI nc := by rw [m1 (9, 0) 28 (by rw [cod_o (by decide)]; decide), n2]
  obtain ⟨s', q1, q2, q3⟩ := m_pairs hI.1 hnc k2 (fun k => m1 _ _ (by rw [cod_a (by decide)]; decide)) h2 (show a ≤ 99 by omega)
  have m2 := mX9_pairs q1
  obtain ⟨q4, q5⟩ := q3 n (Nat.le_refl _) (EP_self h3)
  have hI' : Ix s' := ⟨(hI.1.mv m1 (by decide)).mv m2 (by decide), dep_Id.mv m2 (by decide) (dep_Id.mv m1 (by decide) hI.2)⟩
  have uM : fX9_cup s (nI n) (nI a) = if nI (DN (Wy σ) a 6 (nI n)) = 0 then some (-3, s') else some (enc (DL (Wy σ) a 6 (nI n)), s') := by
    unfold fX9_cup
    rw [(m_isCup hnc k2 (nI n) (nI a)).1 ⟨⟨n, rfl, h1, h2, h3⟩, c2⟩, obi_s, if_pos rfl, q1, obi_s, (inb4 (show n < 4096 by omega)).1, grd_t, grd_t, (inb4 (show n < 4096 by omega)).2, q4, q5]
  rw [if_pos c1, if_pos c2, e, obi_s]
  have bD := DN_le (Wy σ) a 6 (nI n)
  have p6 : 12 ^ 6 = 2985984 := by decide
  cases hd : DL (Wy σ) a 6 (nI n) with
  | none =>
    have z : DN (Wy σ) a 6 (nI n) = 0 := by
      by_cases z : 0 < DN (Wy σ) a 6 (nI n)
      · obtain ⟨v, hv⟩ := (DN_DL 6 (nI n)).1 z
        rw [hd] at hv
        cases hv
      · omega
    refine ⟨-3, s, s', ?_, by rw [uM, z, if_pos (show nI 0 = 0 from rfl)], hI'⟩
    show (if enc none = -1 then _ else _) = _
    rw [if_pos (show enc none = -1 from rfl)]
  | some v =>
    have bv := DL_le (show a ≤ 99 by omega) 6 _ v hd
    have z := (DN_DL (W := Wy σ) (a := a) 6 (nI n)).2 ⟨v, hd⟩
    refine ⟨nI v, s, s', ?_, by rw [uM, if_neg (nI_ne0 z (by omega)), hd]; rfl, hI'⟩
    show (if nI v = -1 then _ else _) = _
    rw [if_neg (enc_m1 (by omega))]
    rfl
