/-! ===== the digest ===== -/
abbrev DG : List Nat := [31, 32, 33, 34, 35, 1906, 1907, 1908, 1910, 1911, 1912, 1913, 1914, 1920, 1921, 1922, 1923, 1400, 1401, 1402, 1403, 1404, 1405, 1406, 1407, 1408, 1409, 15, 16, 17, 18, 19, 1507, 1508, 40, 41, 42, 43]
theorem DG_Iv : ∀ x ∈ dIv, ¬ x ∈ DG := by decide
theorem pm_dg {σ s τ : St} (hI : Iv σ) (h1 : modi DG σ s) (h2 : modi DG σ τ) {m : Nat} (hm : m < 12) : ∃ n, PM s τ m n := by
  obtain ⟨n, p1, p2, p3, p4, p5⟩ := Im_PM hI hm
  refine ⟨n, p1, p2, by rw [h1 (3, m) 2 (by rw [cod_o (by decide)]; decide), p3], by rw [h2 (36, 0) m (by rw [cod_a (by decide)]; decide), p4], fun k hk => ?_⟩
  rw [h2 (37, 0) _ (by rw [cod_a (by decide)]; decide), h2 (38, 0) _ (by rw [cod_a (by decide)]; decide), h1 (13, m) _ (by rw [cod_a (by decide)]; decide), h1 (14, m) _ (by rw [cod_a (by decide)]; decide)]
  exact p5 k hk
theorem rk_dg {σ s τ τ1 : St} (h1 : modi DG σ s) (h2 : modi DG σ τ) (hs : Id s) {j : Nat} (hj : j < 11) (q1 : ∀ k, k < 17 → τ1 (35, 0) k = mixf 0 (τ (11, j)) (τ (11, j)) k) : RK s (11, j) τ1 := by
  refine ⟨ia_of (f := 11) rfl hj, rfl, by simp, fun k hk => ?_⟩
  obtain ⟨v, hv, e⟩ := hs.it hj hk
  refine ⟨v, hv, e, ?_⟩
  rw [q1 k hk, mixf_0, h2 (11, j) k (by rw [cod_a (by decide)]; decide), ← e, h1 (11, j) k (by rw [cod_a (by decide)]; decide)]
theorem fitG {σ : St} (hI : Ix σ) {m j : Nat} (hm : m < 12) (hj : j < 11) : ∃ b : Bool, (∀ s, modi DG σ s → Id s → ∃ s', fX3_agreesWith s m (11, j) 0 = some (b, s') ∧ modi XP s s') ∧ ∀ τ, modi DG σ τ → Id τ → ∃ τ', fX9_doesFit τ (nI j) (nI m) = some (b, τ') ∧ Id τ' ∧ modi MP τ τ' := by
  have both : ∀ s τ, modi DG σ s → Id s → modi DG σ τ → Id τ → ∃ b s' τ', fX3_agreesWith s m (11, j) 0 = some (b, s') ∧ fX9_doesFit τ (nI j) (nI m) = some (b, τ') ∧ Id τ' := by
    intro s τ h1 h2 h3 h4
    obtain ⟨τ1, e1, g1, m1, q1⟩ := m_mix h4 hj hj 0
    have rk := rk_dg h1 h3 h2 hj q1
    obtain ⟨n, pm1⟩ := pm_dg hI.1 h1 (h3.tr m1 (by decide)) hm
    obtain ⟨b, s', τ', f1, f2, f3⟩ := g_fits (t := 0) rk pm1
    refine ⟨b, s', τ', f1, ?_, ?_⟩
    · unfold fX9_doesFit
      rw [e1, obi_s, bnd_eq]
      exact f2
    · refine dep_Id.mv (L := GP) ?_ (by decide) g1
      intro r k hr
      refine f3 r k ?_
      rintro ⟨rfl, hk⟩
      refine hr ?_
      rw [cod_o (by decide)]
      have : k = 10 ∨ k = 11 ∨ k = 12 ∨ k = 13 ∨ k = 14 ∨ k = 20 ∨ k = 21 ∨ k = 22 ∨ k = 23 := by omega
      rcases this with rfl | rfl | rfl | rfl | rfl | rfl | rfl | rfl | rfl <;> decide
  obtain ⟨b0, s0, t0, x0, y0, -⟩ := both σ σ modi.rf hI.2 modi.rf hI.2
  refine ⟨b0, ?_, ?_⟩
  · intro s h1 h2
    obtain ⟨b, s', t', x1, y1, -⟩ := both s σ h1 h2 modi.rf hI.2
    rw [y0] at y1
    have : b0 = b := congrArg Prod.fst (Option.some.inj y1)
    subst this
    exact ⟨s', x1, mX3_agreesWith x1⟩
  · intro τ h1 h2
    obtain ⟨b, s', t', x1, y1, z1⟩ := both σ τ modi.rf hI.2 h1 h2
    rw [x0] at x1
    have : b0 = b := congrArg Prod.fst (Option.some.inj x1)
    subst this
    exact ⟨t', y1, z1, mX9_doesFit y1⟩
set_option maxHeartbeats 4000000 in
theorem fitD {σ : St} (hI : Ix σ) : ∃ v, (∀ s, modi XP σ s → ∃ s', fX8_fitting s = some (v, s') ∧ modi XP σ s') ∧ ∀ τ, Id τ → modi DG σ τ → ∃ τ', fX9_fittingNow τ = some (v, τ') ∧ Id τ' ∧ modi DG σ τ' := by
  obtain ⟨nm, hnm, e1, e2⟩ := match_at hI.1
  have hW : ∃ W : Nat → Nat → Bool, ∀ j m, j < 11 → m < 12 → (∀ s, modi DG σ s → Id s → ∃ s', fX3_agreesWith s m (11, j) 0 = some (W j m, s') ∧ modi XP s s') ∧ ∀ τ, modi DG σ τ → Id τ → ∃ τ', fX9_doesFit τ (nI j) (nI m) = some (W j m, τ') ∧ Id τ' ∧ modi MP τ τ' := by
    have : ∀ j m, ∃ b : Bool, j < 11 → m < 12 → (∀ s, modi DG σ s → Id s → ∃ s', fX3_agreesWith s m (11, j) 0 = some (b, s') ∧ modi XP s s') ∧ ∀ τ, modi DG σ τ → Id τ → ∃ τ', fX9_doesFit τ (nI j) (nI m) = some (b, τ') ∧ Id τ' ∧ modi MP τ τ' := by
      intro j m
      by_cases hm : m < 12
      · by_cases hj : j < 11
        · obtain ⟨b, h⟩ := fitG hI hm hj
          exact ⟨b, fun _ _ => h⟩
        · exact ⟨true, fun h => absurd h hj⟩
      · exact ⟨true, fun _ h => absurd h hm⟩
    exact ⟨fun j m => (this j m).choose, fun j m hj hm => (this j m).choose_spec hj hm⟩
  obtain ⟨W, hW⟩ := hW
  generalize hT : (fun m => !(decide (σ (3, m) 3 = 0))) = T
  have T3 : ∀ m, T m = !(decide (σ (3, m) 3 = 0)) := fun m => by rw [← hT]
  -- the class, one code
  have X1 : ∀ j, j < 11 → ∀ s, modi XP σ s → ∃ b, fX8_fitsAllTold s (11, j) = some b ∧ b.1 = AF T (W j) nm ∧ modi XP σ b.2 := by
    intro j hj s0 h0
    unfold fX8_fitsAllTold
    refine lpF_for (fun m a => a.1 = nI m ∧ AF T (W j) m = true ∧ modi XP σ a.2) nm ?_ ?_ (by omega) ⟨rfl, rfl, h0⟩
    · rintro m ⟨x, s⟩ hm ⟨rfl, ha, h1⟩
      replace h1 : modi XP σ s := h1
      obtain ⟨i1, i2⟩ := in12 (show m < 12 by omega)
      have r1 : s (8, 0) 10 = nI nm := by rw [h1 (8, 0) 10 (by rw [cod_o (by decide)]; decide), e1]
      have r3 : s (3, m) 3 = σ (3, m) 3 := h1 (3, m) 3 (by rw [cod_o (by decide)]; decide)
      simp only [r1, leI (show nm < 2 ^ 31 by omega) (show m < 2 ^ 31 by omega), show ¬ nm ≤ m by omega, if_false, i1, i2, grd_t, r3, bnd_eq, nI_1]
      by_cases c : σ (3, m) 3 = 0
      · simp only [c, if_true, bj_sr]
        exact Or.inl ⟨_, rfl, rfl, by rw [AF_S, ha, T3]; simp [c], h1⟩
      · obtain ⟨s2, p1, p2⟩ := (hW j m hj (by omega)).1 s (modi.tr (modi.rf (L := DG)) h1 (by decide)) (dep_Id.mv h1 (by decide) hI.2)
        have h2 : modi XP σ s2 := modi.tr h1 p2 (by decide)
        simp only [c, if_false, p1, obi_s]
        cases hb : W j m with
        | true =>
          simp only [if_true, bj_sr]
          exact Or.inl ⟨_, rfl, rfl, by rw [AF_S, ha, hb]; simp, h2⟩
        | false =>
          simp only [Bool.false_eq_true, if_false, bj_sl]
          refine Or.inr ⟨_, rfl, ?_, h2⟩
          have : AF T (W j) (m + 1) = false := by rw [AF_S, hb, T3]; simp [c]
          have := AF_f T (W j) this (nm - (m + 1))
          rw [show m + 1 + (nm - (m + 1)) = nm by omega] at this
          exact this.symm
    · rintro ⟨x, s⟩ ⟨rfl, ha, h1⟩
      replace h1 : modi XP σ s := h1
      have r1 : s (8, 0) 10 = nI nm := by rw [h1 (8, 0) 10 (by rw [cod_o (by decide)]; decide), e1]
      exact ⟨(true, s), by simp only [r1, leI (show nm < 2 ^ 31 by omega) (show nm < 2 ^ 31 by omega), Nat.le_refl, if_true], ha.symm, h1⟩
  have X : ∀ s0, modi XP σ s0 → ∃ b, fX8_fitting s0 = some b ∧ b.1 = bs (fun j => AF T (W j) nm) 11 ∧ modi XP σ b.2 := by
    intro s0 hs0
    unfold fX8_fitting
    refine lpF_for (fun j a => a.1 = bs (fun j => AF T (W j) nm) j ∧ a.2.1 = nI j ∧ modi XP σ a.2.2) 11 ?_ ?_ (by decide) ⟨rfl, rfl, hs0⟩
    · rintro j ⟨x, y, s⟩ hj ⟨rfl, rfl, h1⟩
      obtain ⟨⟨b, s2⟩, p1, rfl, p3⟩ := X1 j hj s h1
      have c11 : ¬ (11 : Int32) ≤ nI j := by rw [show (11 : Int32) = nI 11 from rfl, leI (by decide) (by omega)]; omega
      refine Or.inl ⟨(bs (fun j => AF T (W j) nm) (j + 1), nI (j + 1), s2), ?_, rfl, rfl, p3⟩
      simp only [c11, if_false, (in11 hj).1, (in11 hj).2, grd_t, p1, obi_s, bnd_eq, nI_1, bs_S]
      cases AF T (W j) nm <;> simp
    · rintro ⟨x, y, s⟩ ⟨rfl, rfl, h1⟩
      exact ⟨(bs (fun j => AF T (W j) nm) 11, s), by simp only [show (11 : Int32) ≤ nI 11 by decide, if_true], rfl, h1⟩
  have M1 : ∀ j, j < 11 → ∀ s, Id s → modi DG σ s → ∃ b, lpF (fun (q5 : Int32 × Int32 × St) => match q5 with
    | (x4, x5, σ3) =>
    if (σ3 (9, 0) 15) ≤ x5 then
      some (.inr ((x4, σ3)))
    else
      obi (if x4 = 0 then
        some ((0 : Int32), σ3)
      else
        grd (inb x5 12) (
        if (σ3 (39, 0) (tn x5)) = 0 then
          some ((1 : Int32), σ3)
        else
          obi (fX9_doesFit σ3 (nI j) x5) (fun (x7, σ5) =>
          if x7 = true then
            some ((1 : Int32), σ5)
          else
            some ((0 : Int32), σ5)))) (fun (x6, σ4) =>
      bnd (x5 + 1) (fun x8 =>
      some (.inl (x6, x8, σ4))))) ((1 : Int32), (0 : Int32), s) = some b ∧ b.1 = (if AF T (W j) nm = true then 1 else 0) ∧ Id b.2 ∧ modi DG σ b.2 := by
    intro j hj s0 h0 h0'
    refine lpF_for (fun m a => a.1 = (if AF T (W j) m = true then 1 else 0) ∧ a.2.1 = nI m ∧ Id a.2.2 ∧ modi DG σ a.2.2) nm ?_ ?_ (by omega) ⟨rfl, rfl, h0, h0'⟩
    · rintro m ⟨x, y, s⟩ hm ⟨rfl, rfl, h1, h2⟩
      replace h1 : Id s := h1
      replace h2 : modi DG σ s := h2
      obtain ⟨i1, i2⟩ := in12 (show m < 12 by omega)
      have r1 : s (9, 0) 15 = nI nm := by rw [h2 (9, 0) 15 (by rw [cod_o (by decide)]; decide), e2]
      have r3 : s (39, 0) m = σ (3, m) 3 := by rw [h2 (39, 0) m (by rw [cod_a (by decide)]; decide)]; exact (told_at hI.1 (by omega)).symm
      simp only [r1, leI (show nm < 2 ^ 31 by omega) (show m < 2 ^ 31 by omega), show ¬ nm ≤ m by omega, if_false, i1, i2, grd_t, r3, bnd_eq, nI_1]
      cases hA : AF T (W j) m with
      | false =>
        simp only [Bool.false_eq_true, if_false, if_true, obi_s]
        exact Or.inl ⟨_, rfl, by rw [AF_S, hA]; rfl, rfl, h1, h2⟩
      | true =>
        simp only [if_true, show ¬ (1 : Int32) = 0 by decide, if_false]
        by_cases c : σ (3, m) 3 = 0
        · simp only [c, if_true, obi_s]
          exact Or.inl ⟨_, rfl, by rw [AF_S, hA, T3]; simp [c], rfl, h1, h2⟩
        · obtain ⟨s2, p1, p2, p3⟩ := (hW j m hj (by omega)).2 s h2 h1
          have h3 : modi DG σ s2 := modi.tr h2 p3 (by decide)
          simp only [c, if_false, p1, obi_s]
          cases hb : W j m with
          | true =>
            simp only [if_true, obi_s]
            exact Or.inl ⟨_, rfl, by rw [AF_S, hA, hb]; simp, rfl, p2, h3⟩
          | false =>
            simp only [Bool.false_eq_true, if_false, obi_s]
            exact Or.inl ⟨_, rfl, by rw [AF_S, hb, T3]; simp [c], rfl, p2, h3⟩
    · rintro ⟨x, y, s⟩ ⟨rfl, rfl, h1, h2⟩
      replace h2 : modi DG σ s := h2
      have r1 : s (9, 0) 15 = nI nm := by rw [h2 (9, 0) 15 (by rw [cod_o (by decide)]; decide), e2]
      exact ⟨(if AF T (W j) nm = true then 1 else 0, s), by simp only [r1, leI (show nm < 2 ^ 31 by omega) (show nm < 2 ^ 31 by omega), Nat.le_refl, if_true], rfl, h1, h2⟩
  have M : ∀ s1, Id s1 → modi DG σ s1 → ∃ b, fX9_fittingNow s1 = some b ∧ b.1 = bs (fun j => AF T (W j) nm) 11 ∧ Id b.2 ∧ modi DG σ b.2 := by
    intro s1 hId1 mX
    unfold fX9_fittingNow
    refine lpF_for (fun j a => a.1 = bs (fun j => AF T (W j) nm) j ∧ a.2.1 = nI j ∧ Id a.2.2 ∧ modi DG σ a.2.2) 11 ?_ ?_ (by decide) ⟨rfl, rfl, hId1, mX⟩
    · rintro j ⟨x, y, s⟩ hj ⟨rfl, rfl, h1, h2⟩
      obtain ⟨⟨b, s2⟩, p1, rfl, p3, p4⟩ := M1 j hj s h1 h2
      have c11 : ¬ (11 : Int32) ≤ nI j := by rw [show (11 : Int32) = nI 11 from rfl, leI (by decide) (by omega)]; omega
      refine Or.inl ⟨(bs (fun j => AF T (W j) nm) (j + 1), nI (j + 1), s2), ?_, rfl, rfl, p3, p4⟩
      show (if (11 : Int32) ≤ nI j then _ else _) = _
      rw [if_neg c11, p1, obi_s]
      simp only [bnd_eq, nI_1, bs_S]
      cases AF T (W j) nm <;> simp
    · rintro ⟨x, y, s⟩ ⟨rfl, rfl, h1, h2⟩
      exact ⟨(bs (fun j => AF T (W j) nm) 11, s), by simp only [show (11 : Int32) ≤ nI 11 by decide, if_true], rfl, h1, h2⟩
  refine ⟨bs (fun j => AF T (W j) nm) 11, fun s hs => ?_, fun τ h1 h2 => ?_⟩
  · obtain ⟨⟨v, s'⟩, x1, x2, x3⟩ := X s hs
    replace x2 : v = bs (fun j => AF T (W j) nm) 11 := x2
    subst x2
    exact ⟨s', x1, x3⟩
  · obtain ⟨⟨v, s'⟩, x1, x2, x3, x4⟩ := M τ h1 h2
    replace x2 : v = bs (fun j => AF T (W j) nm) 11 := x2
    subst x2
    exact ⟨s', x1, x3, x4⟩
