theorem bit0 (x : Int32) {k : Nat} (hk : k < 17) : ((x >>> (nI k &&& 31)) &&& 1 = 0) ↔ bt x k = false := by
  have h := bit_iff x hk
  constructor
  · intro e
    cases hb : bt x k with
    | false => rfl
    | true =>
      have := h.2 hb
      rw [e] at this
      exact absurd this (by decide)
  · intro e
    rcases bitv x k with c | c
    · exact c
    · have := h.1 c
      rw [e] at this
      cases this
set_option maxHeartbeats 2000000 in
theorem m_stayNow {σ τ : St} (hI : Ix σ) (hτ : Id τ) (hm : modi (28 :: AP) σ τ) {nc : Nat} (hnc : nc ≤ 12) (n2 : σ (9, 0) 28 = nI nc) : ∃ τ', fX9_stayNow τ = some (cn (fun i => mem σ i && okU (σ (0, i) 1) (τ (35, 0)) (fun a => itm σ a i) 17) nc, τ') ∧ Id τ' ∧ modi RR τ τ' := by
  have key : ∃ b, fX9_stayNow τ = some b ∧ b.1 = cn (fun i => mem σ i && okU (σ (0, i) 1) (τ (35, 0)) (fun a => itm σ a i) 17) nc ∧ Id b.2 ∧ modi RR τ b.2 := by
    unfold fX9_stayNow
    refine lpF_for (fun i a => a.1 = cn (fun i => mem σ i && okU (σ (0, i) 1) (τ (35, 0)) (fun a => itm σ a i) 17) i ∧ a.2.1 = nI i ∧ Id a.2.2 ∧ modi RR τ a.2.2) nc ?_ ?_ (by omega) ⟨rfl, rfl, hτ, modi.rf⟩
    · rintro i ⟨x, y, s⟩ hi ⟨rfl, rfl, h0, h1⟩
      replace h0 : Id s := h0
      replace h1 : modi RR τ s := h1
      obtain ⟨i1, i2⟩ := in12 (show i < 12 by omega)
      obtain ⟨k, k1, k2, k3, k4, k5, k6⟩ := x_club hI.1 (show i < 12 by omega)
      obtain ⟨-, h, m, -, -, hm2, -, -, c1, c2, c3, c4⟩ := club_x hI.1 (show i < 12 by omega)
      have r28 : s (9, 0) 28 = nI nc := by rw [h1.M (by simp), hm (9, 0) 28 (by rw [cod_o (by decide)]; decide), n2]
      have r46 : s (46, 0) i = nI m := by rw [h1.M (by simp), hm (46, 0) i (by rw [cod_a (by decide)]; decide), c4]
      have inner : ∃ b, lpF (fun (q7 : Int32 × Int32 × St) => match q7 with
    | (x5, x6, σ3) =>
    if (17 : Int32) ≤ x6 then
      some (.inr ((x5, σ3)))
    else
      obi (if x5 = 0 then
        some ((0 : Int32), σ3)
      else
        grd (inb (nI i) 12) (
        if (((σ3 (45, 0) (tn (nI i))) >>> (x6 &&& 31)) &&& (1 : Int32)) = 0 then
          some ((1 : Int32), σ3)
        else
          grd (inb (nI i) 12) (
          obi (fX9_itemOf σ3 (σ3 (44, 0) (tn (nI i))) x6) (fun (x8, σ5) =>
          grd (inb x6 17) (
          if x8 = (σ5 (35, 0) (tn x6)) then
            some ((1 : Int32), σ5)
          else
            some ((0 : Int32), σ5)))))) (fun (x7, σ4) =>
      bnd (x6 + 1) (fun x9 =>
      some (.inl (x7, x9, σ4))))) (nI m, (0 : Int32), s) = some b ∧ b.1 = (if (mem σ i && okU (σ (0, i) 1) (τ (35, 0)) (σ (11, k)) 17) = true then 1 else 0) ∧ Id b.2 ∧ modi RR τ b.2 := by
        refine lpF_for (fun q a => a.1 = (if (mem σ i && okU (σ (0, i) 1) (τ (35, 0)) (σ (11, k)) q) = true then 1 else 0) ∧ a.2.1 = nI q ∧ Id a.2.2 ∧ modi RR τ a.2.2) 17 ?_ ?_ (by decide) ⟨?_, rfl, h0, h1⟩
        · rintro q ⟨x, y, z⟩ hq ⟨rfl, rfl, g0, g1⟩
          replace g0 : Id z := g0
          replace g1 : modi RR τ z := g1
          have c17 : ¬ (17 : Int32) ≤ nI q := by rw [show (17 : Int32) = nI 17 from rfl, leI (by decide) (by omega)]; omega
          have r45 : z (45, 0) i = σ (0, i) 1 := by rw [g1.M (by simp), hm (45, 0) i (by rw [cod_a (by decide)]; decide), c2, c1]
          have r44 : z (44, 0) i = nI k := by rw [g1.M (by simp), hm (44, 0) i (by rw [cod_a (by decide)]; decide), k3]
          have b0 := bit0 (σ (0, i) 1) hq
          obtain ⟨z2, f1, f2, f3⟩ := m_itemOf k1 hq g0
          have r11 : z (11, k) q = σ (11, k) q := by rw [g1.X (by simp), hm (11, k) q (by rw [cod_a (by decide)]; decide)]
          have g2 : modi RR τ z2 := g1.tr f3 (fun _ h => h)
          have r35 : z2 (35, 0) q = τ (35, 0) q := g2.M (by simp)
          simp only [c17, if_false, i1, i2, grd_t, r45, r44, f1, r11, obi_s, (in17 hq).1, (in17 hq).2, r35, bnd_eq, nI_1]
          cases hA : (mem σ i && okU (σ (0, i) 1) (τ (35, 0)) (σ (11, k)) q) with
          | false =>
            simp only [Bool.false_eq_true, if_false, if_true, obi_s]
            exact Or.inl ⟨_, rfl, by rw [okU_S, ← Bool.and_assoc, hA]; rfl, rfl, g0, g1⟩
          | true =>
            simp only [if_true, show ¬ (1 : Int32) = 0 by decide, if_false]
            cases hb : bt (σ (0, i) 1) q with
            | false =>
              simp only [b0.2 hb, if_true, obi_s]
              exact Or.inl ⟨_, rfl, by rw [okU_S, ← Bool.and_assoc, hA, hb]; rfl, rfl, g0, g1⟩
            | true =>
              have nb : ¬ (σ (0, i) 1 >>> (nI q &&& 31)) &&& 1 = 0 := by
                intro e
                have := b0.1 e
                rw [hb] at this
                cases this
              by_cases e : σ (11, k) q = τ (35, 0) q
              · simp only [nb, if_false, e, if_true, obi_s]
                exact Or.inl ⟨_, rfl, by rw [okU_S, ← Bool.and_assoc, hA, hb]; simp [e], rfl, f2, g2⟩
              · simp only [nb, if_false, e, obi_s]
                exact Or.inl ⟨_, rfl, by rw [okU_S, ← Bool.and_assoc, hA, hb]; simp [e], rfl, f2, g2⟩
        · rintro ⟨x, y, z⟩ ⟨rfl, rfl, g0, g1⟩
          exact ⟨(if (mem σ i && okU (σ (0, i) 1) (τ (35, 0)) (σ (11, k)) 17) = true then 1 else 0, z), by simp only [show (17 : Int32) ≤ nI 17 by decide, if_true], rfl, g0, g1⟩
        · show nI m = if (mem σ i && okU (σ (0, i) 1) (τ (35, 0)) (σ (11, k)) 0) = true then 1 else 0
          unfold mem okU
          rw [c3]
          rcases (show m = 0 ∨ m = 1 by omega) with rfl | rfl <;> rfl
      obtain ⟨⟨v, z⟩, e, hv, g0, g1⟩ := inner
      replace hv : v = _ := hv
      have nn : ¬ nI nc ≤ nI i := by rw [leI (by omega) (by omega)]; omega
      refine Or.inl ⟨(cn (fun i => mem σ i && okU (σ (0, i) 1) (τ (35, 0)) (fun a => itm σ a i) 17) (i + 1), nI (i + 1), z), ?_, rfl, rfl, g0, g1⟩
      show (if s (9, 0) 28 ≤ nI i then _ else _) = _
      rw [r28, if_neg nn, i1, grd_t, bnd_eq, i2, r46]
      rw [i1, i2] at e
      rw [e, obi_s]
      simp only [bnd_eq, nI_1, cn_S]
      rw [show (fun a => itm σ a i) = σ (11, k) from funext k5, hv]
      cases (mem σ i && okU (σ (0, i) 1) (τ (35, 0)) (σ (11, k)) 17) <;> rfl
    · rintro ⟨x, y, s⟩ ⟨rfl, rfl, h0, h1⟩
      replace h1 : modi RR τ s := h1
      have r28 : s (9, 0) 28 = nI nc := by rw [h1.M (by simp), hm (9, 0) 28 (by rw [cod_o (by decide)]; decide), n2]
      refine ⟨(cn (fun i => mem σ i && okU (σ (0, i) 1) (τ (35, 0)) (fun a => itm σ a i) 17) nc, s), ?_, rfl, h0, h1⟩
      show (if s (9, 0) 28 ≤ nI nc then _ else _) = _
      rw [r28, if_pos (by rw [i32_le]; omega)]
  obtain ⟨⟨v, s⟩, e, rfl, h1, h2⟩ := key
  exact ⟨s, e, h1, h2⟩
