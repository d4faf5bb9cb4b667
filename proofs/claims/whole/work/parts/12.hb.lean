theorem half_n : ∀ n, n < 41 → nI n / 2 = nI (n / 2) := by decide +kernel
theorem GQ.mv {σ τ τ' : St} {t : Nat} (h : GQ σ t τ) (hm : modi (35 :: RR) τ τ') : GQ σ t τ' := by
  obtain ⟨⟨c, o, l, h1, h2, h3, h4, h5, h6, h7, h8, h9, h10, h11⟩, k1, k2, k3, k4⟩ := h
  have e : ∀ k, k = 10 ∨ k = 11 ∨ k = 12 ∨ k = 13 ∨ k = 14 ∨ k = 20 ∨ k = 21 ∨ k = 22 ∨ k = 23 → τ' (9, 0) k = τ (9, 0) k := by
    intro k hk
    refine hm _ _ ?_
    rw [cod_o (by decide)]
    rcases hk with rfl | rfl | rfl | rfl | rfl | rfl | rfl | rfl | rfl <;> decide
  refine ⟨⟨c, o, l, h1, h2, h3, h4, ?_, h6, ?_, h8, ?_, ?_, ?_⟩, ?_, ?_, ?_, ?_⟩
  · rw [e 10 (by simp), h5]
  · rw [e 11 (by simp), h7]
  · rw [e 12 (by simp), h9]
  · rw [e 13 (by simp), h10]
  · rw [e 14 (by simp), h11]
  · rw [e 20 (by simp), k1]
  · rw [e 21 (by simp), k2]
  · rw [e 22 (by simp), k3]
  · rw [e 23 (by simp), k4]
set_option maxHeartbeats 4000000 in
theorem g_halves {σ τ : St} {t m n i j : Nat} (hs : Id σ) (hτ : Id τ) (hm : modi AP σ τ) (hp : PM σ σ m n) (hi : i < 11) (hj : j < 11) (b2 : Nat) (hb2 : b2 < 12) (e44 : σ (44, 0) b2 = nI j) (row0 : ∀ k, k < 17 → τ (35, 0) k = σ (11, i) k) : ∃ σ' τ', fX3_playByHalves σ m (11, i) (11, j) t = some σ' ∧ lpF (fun (q9 : St) => match q9 with
        | σ4 =>
        grd (inb (nI m) 12) (
        if (σ4 (36, 0) (tn (nI m))) ≤ (σ4 (9, 0) 23) then
          some (.inr σ4)
        else
          grd (inb (nI m) 12) (
          obi (if (σ4 (9, 0) 23) = ((σ4 (36, 0) (tn (nI m))) / (2 : Int32)) then
            grd (inb (nI b2) 12) (
            grd (inb (nI b2) 12) (
            obi (fX9_mix σ4 (σ4 (44, 0) (tn (nI b2))) (σ4 (44, 0) (tn (nI b2))) (0 : Int32)) (fun σ6 =>
            some σ6)))
          else
            some σ4) (fun σ5 =>
          obi (fX9_steps σ5 (nI m)) (fun (x1, σ7) =>
          some (.inl σ7)))))) (fX9_clears τ) = some τ' ∧ GQ σ' t τ' ∧ Id τ' := by
  obtain ⟨b1, bx, b3, b4⟩ := g_begin (σ := σ) (τ := τ) t
  have h40 := hp.2.1
  have hm12 := hp.1
  obtain ⟨i1, i2⟩ := in12 hm12
  have mcl : modi AP τ (fX9_clears τ) := by
    intro r k hr
    refine b3 r k ?_
    rintro ⟨rfl, hk⟩
    refine hr ?_
    rw [cod_o (by decide)]
    have : k = 10 ∨ k = 11 ∨ k = 12 ∨ k = 13 ∨ k = 14 ∨ k = 20 ∨ k = 21 ∨ k = 22 ∨ k = 23 := by omega
    rcases this with rfl | rfl | rfl | rfl | rfl | rfl | rfl | rfl | rfl <;> decide
  unfold fX3_playByHalves
  rw [bnd_eq]
  refine lpF2 (Q := fun (x y : St) => GQ x t y ∧ Id y) (fun d (a : Int32 × St) (b : St) => ∃ q, d + q = n ∧ a.1 = nI q ∧ GQ a.2 t b ∧ xf t σ a.2 ∧ Id b ∧ modi AP σ b ∧ b (9, 0) 23 = nI q ∧ ∀ k, k < 17 → b (35, 0) k = if q ≤ n / 2 then σ (11, i) k else σ (11, j) k) ?_ (d := n) (by omega) ⟨0, rfl, rfl, b1, bx, mg_Id b3 hτ, hm.tr mcl (fun _ h => h), b4, fun k hk => by rw [if_pos (Nat.zero_le _), b3 _ _ (by simp), row0 k hk]⟩
  rintro d ⟨x, s⟩ s' ⟨q, hd, rfl, hq, fx, hI', hmm, e23, row⟩
  replace hq : GQ s t s' := hq
  replace fx : xf t σ s := fx
  have sz : s (3, m) 2 = nI n := by rw [fx _ _ (by simp), hp.2.2.1]
  have sz' : s' (36, 0) m = nI n := by rw [hmm (36, 0) m (by rw [cod_a (by decide)]; decide), hp.2.2.2.1]
  by_cases cq : q = n
  · subst cq
    have le : nI q ≤ nI q := by rw [i32_le]; omega
    refine Or.inr ⟨s, s', ?_, ?_, hq, hI'⟩
    · simp only [sz, le, if_true]
    · simp only [i1, grd_t, i2, sz', e23, le, if_true]
  · have hqn : q < n := by omega
    have ns : ¬ nI n ≤ nI q := by rw [leI (by omega) (by omega)]; omega
    have mid : ∃ s5, (if nI q = nI (n / 2) then
            grd (inb (nI b2) 12) (
            grd (inb (nI b2) 12) (
            obi (fX9_mix s' (s' (44, 0) (tn (nI b2))) (s' (44, 0) (tn (nI b2))) (0 : Int32)) (fun σ6 =>
            some σ6)))
          else
            some s') = some s5 ∧ GQ s t s5 ∧ Id s5 ∧ modi AP σ s5 ∧ s5 (9, 0) 23 = nI q ∧ ∀ k, k < 17 → s5 (35, 0) k = if n / 2 ≤ q then σ (11, j) k else σ (11, i) k := by
      by_cases ch : q = n / 2
      · have e44' : s' (44, 0) b2 = nI j := by rw [hmm (44, 0) b2 (by rw [cod_a (by decide)]; decide), e44]
        obtain ⟨s5, g1, g2, g3, g4⟩ := m_mix hI' hj hj 0
        rw [if_pos (by rw [ch]), (in12 hb2).1, grd_t, grd_t, (in12 hb2).2, e44', g1, obi_s]
        refine ⟨s5, rfl, hq.mv g3, g2, modi.tr hmm g3 (by decide), ?_, fun k hk => ?_⟩
        · rw [g3 (9, 0) 23 (by rw [cod_o (by decide)]; decide), e23]
        · rw [g4 k hk, mixf_0, if_pos (by omega)]
          exact hmm (11, j) k (by rw [cod_a (by decide)]; decide)
      · have : ¬ nI q = nI (n / 2) := by rw [eqI (by omega) (by omega)]; exact ch
        rw [if_neg this]
        refine ⟨s', rfl, hq, hI', hmm, e23, fun k hk => ?_⟩
        rw [row k hk]
        by_cases c2 : q ≤ n / 2
        · rw [if_pos c2, if_neg (by omega)]
        · rw [if_neg c2, if_pos (by omega)]
    obtain ⟨s5, g1, g2, g3, g4, g5, g6⟩ := mid
    have rX : RK s (11, if n / 2 ≤ q then j else i) s5 := by
      refine ⟨ia_of (f := 11) rfl (by split <;> assumption), rfl, by simp, fun k hk => ?_⟩
      rw [g6 k hk, fx _ _ (by simp)]
      by_cases c2 : n / 2 ≤ q
      · rw [if_pos c2, if_pos c2]
        obtain ⟨v, h1, h2⟩ := hs.it hj hk
        exact ⟨v, h1, h2, h2⟩
      · rw [if_neg c2, if_neg c2]
        obtain ⟨v, h1, h2⟩ := hs.it hi hk
        exact ⟨v, h1, h2, h2⟩
    have e37 : s5 (37, 0) (40 * m + q) = mv (s (13, m) q) := by
      rw [g4 (37, 0) _ (by rw [cod_a (by decide)]; decide), fx _ _ (by simp)]
      exact (hp.2.2.2.2 q hqn).1
    obtain ⟨w, s2, t2, q1, q2, q3, q4, q5, q6⟩ := gq_step (v := s (13, m) q) g2 rX hm12 (show q < 40 by omega) g5 e37
    have i40 : inb (nI q) 40 = true := by rw [inb_nI (by omega)]; simp; omega
    have mst : modi AP s5 t2 := modi.tr (modi.rf (L := AP)) (mX9_steps q2) (by decide)
    refine Or.inl ⟨(nI (q + 1), s2), t2, d - 1, ?_, ?_, by omega, q + 1, by omega, rfl, q3, fx.tr q4, mg_Id q5 g3, g4.tr mst (fun _ h => h), q6, fun k hk => ?_⟩
    · have hx : (if nI (n / 2) ≤ nI q then ((11, j) : Rf) else (11, i)) = (11, if n / 2 ≤ q then j else i) := by
        simp only [leI (show n / 2 < 2 ^ 31 by omega) (show q < 2 ^ 31 by omega)]
        split <;> rfl
      simp only [sz, ns, if_false, half_n n (by omega), bnd_eq, hx, i40, grd_t, tn_nI (show q < 2 ^ 31 by omega), q1, obi_s, nI_1]
    · simp only [i1, grd_t, i2, sz', e23, ns, if_false, half_n n (show n < 41 by omega)]
      rw [g1, obi_s, q2, obi_s]
    · rw [q5 _ _ (by simp), g6 k hk]
      by_cases c2 : n / 2 ≤ q
      · rw [if_pos c2, if_neg (by omega)]
      · rw [if_neg c2, if_pos (by omega)]
