theorem ltz {x : Int32} (h : x = -1) {y : Nat} (hy : y < 2 ^ 31) : x < nI y := by
  rw [h, i32_lt, nI_toInt hy, show (-1 : Int32).toInt = -1 from rfl]
  omega
set_option maxHeartbeats 1000000 in
theorem x_readCells {σ : St} {j n p : Nat} {t : Nat → Nat} (hj : j < 11) (h : XT σ j n t) (hp : p < 900) (ha : σ (1, j) 5 = nI (p + 1)) (k : Nat) (b : Bool) : RX σ j k (fX1_readCells σ j (nI k) b) (rpC n t p b) := by
  unfold fX1_readCells rpC
  rw [ha, x_fig h (by omega), obi_s]
  cases hf : fig n t (p + 1) with
  | none =>
    simp only [fgI, if_true, RX]
    exact ⟨nI (p + 1), by rw [su_at0 σ j ha]⟩
  | some act =>
    have hact := (fig_lt hf).1
    simp only [fgI, nI_ne_m1 (show act < 2 ^ 31 by omega), if_false, bnd_eq, nI_1, su_hit]
    rw [x_fig (h.at _) (by omega), obi_s]
    cases hf2 : fig n t (p + 1 + 1) with
    | none =>
      have s1 := x_say (σ := su σ (1, j) 5 (nI (p + 2))) (k := k) hj hact (show 0 ≤ 6 by decide) (show 6 < 7 by decide) b
      simp only [fgI, if_true, bj_sr, RX]
      rw [show (0 : Int32) = nI 0 from rfl, show (6 : Int32) = nI 6 from rfl, show p + 1 + 1 = p + 2 from rfl, s1, obi_s, su_at_eff]
    | some x =>
      have hx := (fig_lt hf2).1
      simp only [fgI, nI_ne_m1 (show x < 2 ^ 31 by omega), if_false, obi_s, show (6 : Int32) = nI 6 from rfl, leI (show x < 2 ^ 31 by omega) (show 6 < 2 ^ 31 by decide)]
      by_cases c6 : x ≤ 6
      · have c6' : ¬ 6 < x := by omega
        have h1 := h.at (nI (p + 3))
        simp only [c6, if_true, c6', if_false, su_su, nI_1, su_hit, h1.2.1, show p + 1 + 1 + 1 = p + 3 from rfl, leI (show n < 2 ^ 31 by have := h.1; omega) (show p + 3 < 2 ^ 31 by omega)]
        by_cases c : n ≤ p + 3
        · have c' : ¬ (p + 3 < n ∧ t (p + 3) = 45) := by omega
          rw [if_pos c, if_neg c', bj_sl]
          exact ⟨_, rfl⟩
        · obtain ⟨q1, q2, q3⟩ := x_char (c := 45) h1 (show p + 3 < n by omega) (by decide)
          rw [if_neg c, q1, grd_t, q2]
          simp only [show (45 : Int32) = nI 45 from rfl, q3]
          by_cases c2 : t (p + 3) = 45
          · rw [if_pos c2, if_pos ⟨by omega, c2⟩]
            rw [x_fig (h.at _) (by omega), obi_s, show p + 3 + 1 = p + 4 from rfl]
            cases hf3 : fig n t (p + 4) with
            | none =>
              rw [if_pos (show fgI none < nI x from ltz rfl (show x < 2 ^ 31 by omega)), bj_sl]
              exact ⟨_, rfl⟩
            | some y =>
              have hy := (fig_lt hf3).1
              simp only [fgI, ltI (show y < 2 ^ 31 by omega) (show x < 2 ^ 31 by omega), leI (show y < 2 ^ 31 by omega) (show 6 < 2 ^ 31 by decide)]
              by_cases c3 : y < x
              · rw [if_pos c3, if_pos (Or.inl c3), bj_sl]
                exact ⟨_, rfl⟩
              · by_cases c4 : y ≤ 6
                · have c5 : ¬ (y < x ∨ 6 < y) := by omega
                  rw [if_neg c3, if_pos c4, if_neg c5, bj_sr]
                  have s1 := x_say (σ := su σ (1, j) 5 (nI (p + 5))) (k := k) hj hact (show x ≤ y by omega) (show y < 7 by omega) b
                  show obi (fX1_say (su σ (1, j) 5 (nI (p + 5))) j (nI k) (nI act) (nI x) (nI y) b) _ = _
                  rw [s1, obi_s, su_at_eff]
                · rw [if_neg c3, if_neg c4, if_pos (Or.inr (by omega)), bj_sl]
                  exact ⟨_, rfl⟩
          · rw [if_neg c2, if_neg (fun q => c2 q.2), bj_sl]
            exact ⟨_, rfl⟩
      · have c6' : 6 < x := by omega
        simp only [c6, if_false, c6', if_true, bj_sl, RX]
        exact ⟨_, rfl⟩
theorem RX_mv {σ : St} {j k : Nat} {z : Int32} {x : Option (Int32 × St)} {o : Nat ⊕ (Nat × Eff)} (h : RX (su σ (1, j) 5 z) j k x o) : RX σ j k (obi x (fun (a, s) => some (a, s))) o := by
  cases o with
  | inl q =>
    obtain ⟨w, hw⟩ := h
    exact ⟨w, by rw [hw, su_su]; rfl⟩
  | inr w =>
    obtain ⟨p', e⟩ := w
    show _ = _
    rw [show x = _ from h, su_at_eff, su_su]
    rfl
set_option maxHeartbeats 1000000 in
theorem x_readPart {σ : St} {j n p : Nat} {t : Nat → Nat} (hj : j < 11) (h : XT σ j n t) (hp : p < 900) (ha : σ (1, j) 5 = nI p) (k : Nat) : RX σ j k (fX1_readPart σ j (nI k)) (rp n t p) := by
  unfold fX1_readPart rp
  rw [ha, h.2.1]
  have h80 := h.1
  simp only [ltI (show p < 2 ^ 31 by omega) (show n < 2 ^ 31 by omega)]
  by_cases c : p < n
  · obtain ⟨g1, g2⟩ := h.2.2 p c
    have q1 : inb (nI p) 80 = true := by rw [inb_nI (by omega)]; simp; omega
    have e5 : ∀ z, su σ (1, j) 5 z (1, j) 5 = z := fun z => su_hit _ _ _ _
    have eq' : ∀ c : Nat, c < 2 ^ 31 → (nI (t p) = nI c) = (t p = c) := fun c hc => eqI (by omega) hc
    rw [if_pos c, if_pos c, q1, grd_t, bnd_eq, tn_nI (show p < 2 ^ 31 by omega), g2, bnd_eq, nI_1]
    simp only [show (97 : Int32) = nI 97 from rfl, show (101 : Int32) = nI 101 from rfl, show (103 : Int32) = nI 103 from rfl, show (107 : Int32) = nI 107 from rfl, show (110 : Int32) = nI 110 from rfl, show (116 : Int32) = nI 116 from rfl, show (121 : Int32) = nI 121 from rfl, eq' 97 (by decide), eq' 101 (by decide), eq' 103 (by decide), eq' 107 (by decide), eq' 110 (by decide), eq' 116 (by decide), eq' 121 (by decide), e5]
    by_cases c1 : t p = 97
    · rw [if_pos c1, if_pos c1]
      exact RX_mv (x_readFigure hj (h.at _) (by omega) (e5 _) (by decide) (by decide) k)
    rw [if_neg c1, if_neg c1]
    by_cases c2 : t p = 101
    · rw [if_pos c2, if_pos c2]
      exact RX_mv (x_readNumber hj (h.at _) (by omega) (e5 _) (by decide) (by decide) k)
    rw [if_neg c2, if_neg c2]
    by_cases c3 : t p = 103
    · rw [if_pos c3, if_pos c3]
      exact RX_mv (x_readPoints hj (h.at _) hp (e5 _) k)
    rw [if_neg c3, if_neg c3]
    by_cases c4 : t p = 107
    · rw [if_pos c4, if_pos c4]
      exact RX_mv (x_readFigure hj (h.at _) (by omega) (e5 _) (by decide) (by decide) k)
    rw [if_neg c4, if_neg c4]
    by_cases c5 : t p = 110
    · rw [if_pos c5, if_pos c5]
      exact RX_mv (x_readCells hj (h.at _) hp (e5 _) k false)
    rw [if_neg c5, if_neg c5]
    by_cases c6 : t p = 116
    · rw [if_pos c6, if_pos c6]
      exact RX_mv (x_readNumber hj (h.at _) (by omega) (e5 _) (by decide) (by decide) k)
    rw [if_neg c6, if_neg c6]
    by_cases c7 : t p = 121
    · rw [if_pos c7, if_pos c7]
      exact RX_mv (x_readCells hj (h.at _) hp (e5 _) k true)
    rw [if_neg c7, if_neg c7]
    refine ⟨nI (p + 1), ?_⟩
    rw [show (1 : Int32) = nI 1 from rfl, pk_sub (by omega)]
    rfl
  · rw [if_neg c, if_neg c]
    exact ⟨nI p, by rw [su_at0 σ j ha]⟩
/-! the text whole -/
theorem rp_next {n : Nat} {t : Nat → Nat} {p p' : Nat} {e : Eff} (h : rp n t p = .inr (p', e)) : p + 2 ≤ p' ∧ p' ≤ n := by
  have hF : ∀ p item most p' e, rpF n t p item most = .inr (p', e) → p + 1 ≤ p' ∧ p' ≤ n := by
    intro p item most p' e h
    unfold rpF at h
    cases hf : fig n t p with
    | none => rw [hf] at h; cases h
    | some v =>
      rw [hf] at h
      simp only at h
      have := (fig_lt hf).2
      by_cases c : v ≤ most
      · rw [if_pos c] at h; cases h; omega
      · rw [if_neg c] at h; cases h
  have hN : ∀ p item least p' e, rpN n t p item least = .inr (p', e) → p + 1 ≤ p' ∧ p' ≤ n := by
    intro p item least p' e h
    unfold rpN at h
    cases hf : fig n t p with
    | none => rw [hf] at h; cases h
    | some v =>
      rw [hf] at h
      simp only at h
      have := (fig_lt hf).2
      cases hf2 : fig n t (p + 1) with
      | none =>
        rw [hf2] at h
        simp only at h
        by_cases c : least ≤ v
        · rw [if_pos c] at h; cases h; omega
        · rw [if_neg c] at h; cases h
      | some v2 =>
        rw [hf2] at h
        simp only at h
        have := (fig_lt hf2).2
        by_cases c : least ≤ 10 * v + v2
        · rw [if_pos c] at h; cases h; omega
        · rw [if_neg c] at h; cases h
  have hC : ∀ b p' e, rpC n t p b = .inr (p', e) → p + 2 ≤ p' ∧ p' ≤ n := by
    intro b p' e h
    unfold rpC at h
    cases hf : fig n t (p + 1) with
    | none => rw [hf] at h; cases h
    | some v =>
      rw [hf] at h
      simp only at h
      have := (fig_lt hf).2
      cases hf2 : fig n t (p + 2) with
      | none => rw [hf2] at h; cases h; omega
      | some x =>
        rw [hf2] at h
        simp only at h
        by_cases c : 6 < x
        · rw [if_pos c] at h; cases h
        · rw [if_neg c] at h
          by_cases c2 : p + 3 < n ∧ t (p + 3) = 45
          · rw [if_pos c2] at h
            cases hf3 : fig n t (p + 4) with
            | none => rw [hf3] at h; cases h
            | some y =>
              rw [hf3] at h
              simp only at h
              have := (fig_lt hf3).2
              by_cases c3 : y < x ∨ 6 < y
              · rw [if_pos c3] at h; cases h
              · rw [if_neg c3] at h; cases h; omega
          · rw [if_neg c2] at h; cases h
  have hG : ∀ p' e, rpG n t p = .inr (p', e) → p + 2 ≤ p' ∧ p' ≤ n := by
    intro p' e h
    unfold rpG at h
    cases hf : fig n t (p + 1) with
    | none => rw [hf] at h; cases h
    | some v =>
      rw [hf] at h
      simp only at h
      by_cases c : v = 4 ∨ v = 8 ∨ v = 9
      · rw [if_pos c] at h
        by_cases c2 : p + 2 < n ∧ t (p + 2) = 61
        · rw [if_pos c2] at h
          have := hF _ _ _ _ _ h
          omega
        · rw [if_neg c2] at h; cases h
      · rw [if_neg c] at h; cases h
  unfold rp at h
  by_cases c : p < n
  · rw [if_pos c] at h
    by_cases c1 : t p = 97
    · rw [if_pos c1] at h; have := hF _ _ _ _ _ h; omega
    rw [if_neg c1] at h
    by_cases c2 : t p = 101
    · rw [if_pos c2] at h; have := hN _ _ _ _ _ h; omega
    rw [if_neg c2] at h
    by_cases c3 : t p = 103
    · rw [if_pos c3] at h; exact hG _ _ h
    rw [if_neg c3] at h
    by_cases c4 : t p = 107
    · rw [if_pos c4] at h; have := hF _ _ _ _ _ h; omega
    rw [if_neg c4] at h
    by_cases c5 : t p = 110
    · rw [if_pos c5] at h; exact hC _ _ _ h
    rw [if_neg c5] at h
    by_cases c6 : t p = 116
    · rw [if_pos c6] at h; have := hN _ _ _ _ _ h; omega
    rw [if_neg c6] at h
    by_cases c7 : t p = 121
    · rw [if_pos c7] at h; exact hC _ _ _ h
    rw [if_neg c7] at h
    cases h
  · rw [if_neg c] at h; cases h
