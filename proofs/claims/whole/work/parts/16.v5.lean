theorem PF_mv {L : List Nat} {σ s : St} (h : modi L σ s) (hL : ¬ 11 ∈ L) (i j : Nat) : PF s i j = PF σ i j ∧ TF s i = TF σ i := by
  have r : ∀ q, s (11, q) = σ (11, q) := fun q => by
    funext k
    exact h _ _ (by rw [cod_a (by decide)]; exact hL)
  unfold PF TF
  rw [r, r]
  exact ⟨rfl, rfl⟩
abbrev PX : List Nat := [15, 16, 17, 18, 19, 1400, 1401, 1402, 1403, 1404, 1405, 1406, 1407, 1408, 1409, 1507, 1508, 31, 32, 33, 34, 35, 40, 41, 42, 43, 1906, 1907, 1908, 1910, 1911, 1912, 1913, 1914]
theorem PX_Iv : ∀ x ∈ dIv, ¬ x ∈ PX := by decide
theorem row_eq {s τ : St} {ρ : List Nat} (h1 : rowIs s 19 ρ) (h2 : rowIs τ 43 ρ) {k : Nat} (hk : k < ρ.length) : s (19, 0) k = τ (43, 0) k := by
  have e : ρ = ρ.take k ++ ρ[k] :: ρ.drop (k + 1) := by
    rw [← List.drop_eq_getElem_cons hk, List.take_append_drop]
  have l : (ρ.take k).length = k := by rw [List.length_take]; omega
  have a := h1 _ _ _ e
  have b := h2 _ _ _ e
  rw [l] at a b
  rw [a, b]
/-- both searches, one after the other -/
theorem both_parts {σ : St} (hI : Id σ) {i j : Nat} (hi : i < 11) (hj : j < 11) : ∃ (s : St) (L : Nat), fX5_part σ (11, i) (11, j) = some s ∧ L ≤ 6 ∧ s (5, 0) 7 = nI L ∧ modi PX σ s ∧ Id s ∧ ∀ s', Id s' → modi [20] s s' → ∃ τ, fX9_partsOf s' (nI i) (nI j) = some (if L = 0 then -1 else nI L, τ) ∧ Id τ ∧ modi PX s' τ ∧ ∀ k, k < L → s (19, 0) k = τ (43, 0) k := by
  obtain ⟨s, e1, q⟩ := x_part hI hi hj
  have m1 := mX5_part e1
  have hs : Id s := dep_Id.mv m1 (by decide) hI
  have m1' : modi PX σ s := modi.tr (modi.rf (L := PX)) m1 (by decide)
  have pf : ∀ s', modi [20] s s' → PF s' i j = PF σ i j ∧ TF s' i = TF σ i := fun s' h => by
    have a := PF_mv h (by decide) i j
    have b := PF_mv m1 (by decide) i j
    rw [a.1, a.2, b.1, b.2]
    exact ⟨rfl, rfl⟩
  rcases q with ⟨z, hno⟩ | ⟨ρ, h1, h2, h3, h4, h5⟩
  · refine ⟨s, 0, e1, by omega, z, m1', hs, fun s' hs' hm => ?_⟩
    obtain ⟨p1, p2⟩ := pf s' hm
    obtain ⟨τ, t1, t2⟩ := (m_parts hs' hi hj).1 (by rw [p1, p2]; exact hno)
    exact ⟨τ, by rw [if_pos rfl]; exact t1, t2, modi.tr (modi.rf (L := PX)) (mX9_partsOf t1) (by decide), fun k hk => by omega⟩
  · refine ⟨s, ρ.length, e1, h3, h4, m1', hs, fun s' hs' hm => ?_⟩
    obtain ⟨p1, p2⟩ := pf s' hm
    obtain ⟨τ, t1, t2, t3⟩ := (m_parts hs' hi hj).2 ρ (by rw [p1, p2]; exact h1) (by rw [p1, p2]; exact h2) h3
    have l0 : ¬ ρ.length = 0 := by
      intro e
      rw [List.length_eq_zero_iff] at e
      subst e
      exact h1
    exact ⟨τ, by rw [if_neg l0]; exact t1, t2, modi.tr (modi.rf (L := PX)) (mX9_partsOf t1) (by decide), fun k hk => row_eq h5 t3 hk⟩
theorem op_parts {σ : St} (hI : Ix σ) (a1 a2 : Int32) : ∃ v σ1 σ2, fX8_parts σ a1 a2 = some (v, σ1) ∧ fX9_parts σ1 a1 a2 = some (v, σ2) ∧ Ix σ2 := by
  unfold fX8_parts fX9_parts
  rw [x_isCode, x_isCode]
  simp only [m_isCode]
  by_cases c1 : inb a1 11 = true
  case neg => exact ⟨-2, σ, σ, by rw [if_neg c1], by rw [if_neg c1], hI⟩
  by_cases c2 : inb a2 11 = true
  case neg => exact ⟨-2, σ, σ, by rw [if_pos c1, if_neg c2], by rw [if_pos c1, if_neg c2], hI⟩
  obtain ⟨i, hi, rfl⟩ := inb_ex (by decide) c1
  obtain ⟨j, hj, rfl⟩ := inb_ex (by decide) c2
  obtain ⟨s, L, e1, hL, e7, m1, d1, all⟩ := both_parts hI.2 hi hj
  obtain ⟨τ, t1, t2, t3, -⟩ := all s d1 modi.rf
  refine ⟨if L = 0 then -1 else nI L, s, τ, ?_, ?_, ⟨(hI.1.mv m1 PX_Iv).mv t3 PX_Iv, t2⟩⟩
  · rw [if_pos c1, if_pos c2, (in11 hi).1, grd_t, (in11 hj).1, grd_t, (in11 hi).2, (in11 hj).2, e1, obi_s, e7]
    by_cases z : L = 0
    · rw [z, if_pos (show nI 0 = 0 from rfl), if_pos rfl]
    · rw [if_neg (nI_ne0 (by omega) (by omega)), if_neg z]
  · rw [if_pos c1, if_pos c2, t1, obi_s]
theorem op_parting {σ : St} (hI : Ix σ) (a1 a2 a3 : Int32) : ∃ v σ1 σ2, fX8_parting σ a1 a2 a3 = some (v, σ1) ∧ fX9_parting σ1 a1 a2 a3 = some (v, σ2) ∧ Ix σ2 := by
  unfold fX8_parting fX9_parting
  rw [x_isCode, x_isCode]
  simp only [m_isCode]
  by_cases c1 : inb a1 11 = true
  case neg => exact ⟨-2, σ, σ, by rw [if_neg c1], by rw [if_neg c1], hI⟩
  by_cases c2 : inb a2 11 = true
  case neg => exact ⟨-2, σ, σ, by rw [if_pos c1, if_neg c2], by rw [if_pos c1, if_neg c2], hI⟩
  by_cases c3 : 0 ≤ a3
  case neg => exact ⟨-2, σ, σ, by rw [if_pos c1, if_pos c2, if_neg c3], by rw [if_pos c1, if_pos c2, if_neg c3], hI⟩
  obtain ⟨i, hi, rfl⟩ := inb_ex (by decide) c1
  obtain ⟨j, hj, rfl⟩ := inb_ex (by decide) c2
  obtain ⟨k, hk, rfl⟩ := nI_of (x := a3) (by rw [i32_lt]; rw [i32_le] at c3; omega)
  obtain ⟨s, L, e1, hL, e7, m1, d1, all⟩ := both_parts hI.2 hi hj
  obtain ⟨τ, t1, t2, t3, t4⟩ := all s d1 modi.rf
  have hI2 : Ix τ := ⟨(hI.1.mv m1 PX_Iv).mv t3 PX_Iv, t2⟩
  rw [if_pos c1, if_pos c2, if_pos c3, (in11 hi).1, grd_t, (in11 hj).1, grd_t, (in11 hi).2, (in11 hj).2, e1, obi_s, e7]
  by_cases c : k < L
  · have i6 : inb (nI k) 6 = true ∧ tn (nI k) = k := by
      rw [inb_nI (by omega), tn_nI (by omega)]
      simp
      omega
    refine ⟨s (19, 0) k, s, τ, ?_, ?_, hI2⟩
    · rw [if_neg (by rw [leI (by omega) (by omega)]; omega), i6.1, grd_t, i6.2]
    · rw [if_pos rfl, if_pos rfl, if_pos c3, t1, obi_s]
      show (if (if L = 0 then -1 else nI L) ≤ nI k then _ else _) = _
      rw [if_neg (show ¬ L = 0 by omega), if_neg (by rw [leI (by omega) (by omega)]; omega), i6.1, grd_t, i6.2, t4 k c]
  · refine ⟨-1, s, τ, ?_, ?_, hI2⟩
    · rw [if_pos (by rw [leI (by omega) (by omega)]; omega)]
    · rw [if_pos rfl, if_pos rfl, if_pos c3, t1, obi_s]
      show (if (if L = 0 then -1 else nI L) ≤ nI k then _ else _) = _
      by_cases z : L = 0
      · rw [if_pos z, if_pos (by rw [i32_le, nI_toInt hk]; have : (-1 : Int32).toInt = -1 := rfl; omega)]
      · rw [if_neg z, if_pos (by rw [leI (by omega) (by omega)]; omega)]
