theorem dk_lt (P : Nat → Nat → Bool) (T : Nat → Nat → Nat) (k b : Nat) (hk : k ≤ 6) : dk P T k b < 100 := by
  by_cases c : dk P T k b = 99
  · omega
  · have := dk_A k b hk c
    omega
theorem myB_at (x6 x7 : Int32) (σ12 : St) : myB x6 (x7, σ12) = (if (63 : Int32) ≤ x7 then
      some (.inr σ12)
    else
      obi (lpF (mxB x6 x7) ((0 : Int32), σ12)) (fun σ13 =>
      bnd (x7 + 1) (fun x13 =>
      some (.inl (x13, σ13))))) := rfl
theorem m_round {s : St} {f g : Nat → Int32} (hr : MR s f g) (hf : gd f) (hg : gd g) {k : Nat} (hk : k < 6) (ha : ∀ b, b < 63 → s (40, 0) b = nI (dk (pP f g) (oB f) k b)) : ∃ s', lpF (myB (nI (k + 1))) ((0 : Int32), s) = some s' ∧ modi (40 :: QL) s s' ∧ ∀ b, b < 63 → s' (40, 0) b = nI (dk (pP f g) (oB f) (k + 1) b) := by
  refine lpF_for (fun b a => a.1 = nI b ∧ modi (40 :: QL) s a.2 ∧ ∀ b', b' < 63 → a.2 (40, 0) b' = nI (if b' < b then dk (pP f g) (oB f) (k + 1) b' else dk (pP f g) (oB f) k b')) 63 ?_ ?_ (by decide) ⟨rfl, modi.rf, fun b' hb' => by rw [if_neg (by omega)]; exact ha b' hb'⟩
  · rintro b ⟨y, z⟩ hb ⟨rfl, h1, h2⟩
    replace h1 : modi (40 :: QL) s z := h1
    replace h2 : ∀ b', b' < 63 → z (40, 0) b' = nI ((fun b' => if b' < b then dk (pP f g) (oB f) (k + 1) b' else dk (pP f g) (oB f) k b') b') := h2
    have hr' : MR z f g := hr.mv (modi.tr (modi.rf (L := 40 :: 43 :: QL)) h1 (by decide))
    obtain ⟨s', e1, e2, e3⟩ := in_ball hr' hf hg hk hb h2 (fun b' => by
      show (if b' < b then dk (pP f g) (oB f) (k + 1) b' else dk (pP f g) (oB f) k b') < 100
      split
      · exact dk_lt _ _ _ _ (by omega)
      · exact dk_lt _ _ _ _ (by omega))
    refine Or.inl ⟨(nI (b + 1), s'), ?_, rfl, h1.tr e2 (by decide), fun b' hb' => ?_⟩
    · show (if (63 : Int32) ≤ nI b then _ else _) = _
      rw [if_neg (by rw [show (63 : Int32) = nI 63 from rfl, leI (by decide) (by omega)]; omega), e1, obi_s, bnd_eq, nI_1]
    · show s' (40, 0) b' = _
      rw [e3 b' hb']
      have cc : exN (cnd (pP f g) (oB f) (fun b' => if b' < b then dk (pP f g) (oB f) (k + 1) b' else dk (pP f g) (oB f) k b') k b) 40 = exN (cnd (pP f g) (oB f) (dk (pP f g) (oB f) k) k b) 40 := by
        apply exN_cong
        intro x hx
        unfold cnd
        by_cases k0 : k = 0
        · rw [if_pos k0, if_pos k0]
        · rw [if_neg k0, if_neg k0]
          congr 1
          apply decide_eq_decide.2
          show (if oB f b x < b then dk (pP f g) (oB f) (k + 1) (oB f b x) else dk (pP f g) (oB f) k (oB f b x)) = k ↔ _
          by_cases q : oB f b x < b
          · rw [if_pos q, dk_S]
            by_cases d : dk (pP f g) (oB f) k (oB f b x) = 99
            · rw [if_pos d, d]
              split <;> omega
            · rw [if_neg d]
          · rw [if_neg q]
      rw [cc]
      by_cases d : b' = b
      · subst d
        rw [if_pos (show b' < b' + 1 by omega), dk_S]
        show nI (if b' = b' ∧ (if b' < b' then _ else dk (pP f g) (oB f) k b') = 99 ∧ _ then k + 1 else (if b' < b' then _ else dk (pP f g) (oB f) k b')) = _
        rw [if_neg (show ¬ b' < b' by omega)]
        by_cases q : dk (pP f g) (oB f) k b' = 99
        · rw [if_pos q]
          by_cases r : exN (cnd (pP f g) (oB f) (dk (pP f g) (oB f) k) k b') 40 = true
          · rw [if_pos ⟨rfl, q, r⟩, if_pos r]
          · rw [if_neg (fun w => r w.2.2), if_neg r, q]
        · rw [if_neg (fun w => q w.2.1), if_neg q]
      · rw [if_neg (fun w => d w.1)]
        show nI (if b' < b then _ else _) = nI (if b' < b + 1 then _ else _)
        by_cases q : b' < b
        · rw [if_pos q, if_pos (by omega)]
        · rw [if_neg q, if_neg (by omega)]
  · rintro ⟨y, z⟩ ⟨rfl, h1, h2⟩
    refine ⟨z, ?_, h1, fun b hb => ?_⟩
    · rw [myB_at, if_pos (by decide)]
    · have := h2 b hb
      rw [if_pos hb] at this
      exact this
theorem mzB_at (x6 : Int32) (σ10 : St) : mzB (x6, σ10) = (if (7 : Int32) ≤ x6 then
    some (.inr σ10)
  else
    obi (lpF (myB x6) ((0 : Int32), σ10)) (fun σ11 =>
    bnd (x6 + 1) (fun x14 =>
    some (.inl (x14, σ11))))) := rfl
theorem m_rounds {s : St} {f g : Nat → Int32} (hr : MR s f g) (hf : gd f) (hg : gd g) (ha : ∀ b, b < 63 → s (40, 0) b = 99) : ∃ s', lpF mzB ((1 : Int32), s) = some s' ∧ modi (40 :: QL) s s' ∧ ∀ b, b < 63 → s' (40, 0) b = nI (dk (pP f g) (oB f) 6 b) := by
  refine lpF_for (fun k a => a.1 = nI (k + 1) ∧ modi (40 :: QL) s a.2 ∧ ∀ b, b < 63 → a.2 (40, 0) b = nI (dk (pP f g) (oB f) k b)) 6 ?_ ?_ (by decide) ⟨rfl, modi.rf, fun b hb => ha b hb⟩
  · rintro k ⟨y, z⟩ hk ⟨rfl, h1, h2⟩
    replace h1 : modi (40 :: QL) s z := h1
    obtain ⟨s', e1, e2, e3⟩ := m_round (hr.mv (modi.tr (modi.rf (L := 40 :: 43 :: QL)) h1 (by decide))) hf hg hk h2
    refine Or.inl ⟨(nI (k + 1 + 1), s'), ?_, rfl, h1.tr e2 (by decide), e3⟩
    show (if (7 : Int32) ≤ nI (k + 1) then _ else _) = _
    rw [if_neg (by rw [show (7 : Int32) = nI 7 from rfl, leI (by decide) (by omega)]; omega)]
    show obi (lpF (myB (nI (k + 1))) ((0 : Int32), z)) _ = _
    rw [e1, obi_s, bnd_eq, nI_1]
  · rintro ⟨y, z⟩ ⟨rfl, h1, h2⟩
    refine ⟨z, ?_, h1, h2⟩
    rw [mzB_at, if_pos (by decide)]
theorem dist_eq (σ : St) (a1 a2 : Int32) : fX9_distances σ a1 a2 = obi (fX9_mix σ a1 a1 (0 : Int32)) (fun σ1 =>
  obi (lpF (fun (q3 : Int32 × St) => match q3 with
  | (x1, σ3) =>
  if (17 : Int32) ≤ x1 then
    some (.inr σ3)
  else
    grd (inb x1 17) (
    grd (inb x1 17) (bnd (su σ3 (41, 0) (tn x1) (σ3 (35, 0) (tn x1))) (fun σ4 =>
    obi (fX9_itemOf σ4 a2 x1) (fun (x2, σ5) =>
    grd (inb x1 17) (bnd (su σ5 (42, 0) (tn x1) x2) (fun σ6 =>
    bnd (x1 + 1) (fun x3 =>
    some (.inl (x3, σ6)))))))))) ((0 : Int32), σ1)) (fun σ2 =>
  obi (lpF (fun (q14 : Int32 × St) => match q14 with
  | (x4, σ8) =>
  if (63 : Int32) ≤ x4 then
    some (.inr σ8)
  else
    grd (inb x4 63) (bnd (su σ8 (40, 0) (tn x4) (99 : Int32)) (fun σ9 =>
    bnd (x4 + 1) (fun x5 =>
    some (.inl (x5, σ9)))))) ((0 : Int32), σ2)) (fun σ7 =>
  lpF mzB ((1 : Int32), σ7)))) := rfl
theorem fill40 (σ : St) : lpF (fun (q14 : Int32 × St) => match q14 with
  | (x4, σ8) =>
  if (63 : Int32) ≤ x4 then
    some (.inr σ8)
  else
    grd (inb x4 63) (bnd (su σ8 (40, 0) (tn x4) (99 : Int32)) (fun σ9 =>
    bnd (x4 + 1) (fun x5 =>
    some (.inl (x5, σ9)))))) ((0 : Int32), σ) = some (srg σ (40, 0) 0 63 (fun _ => (99 : Int32))) := by
  refine lpF_fx (fun i s => s = (nI i, srg σ (40, 0) 0 i (fun _ => (99 : Int32)))) 63 ?_ ?_ (by decide) (by rw [srg_0]; rfl)
  · intro i s hi hs
    subst hs
    refine Or.inl ⟨_, ?_, rfl⟩
    obtain ⟨i1, i2⟩ := in63 hi
    have sg := srg_su σ (40, 0) 0 i (fun _ => (99 : Int32)) (v := 99) rfl
    rw [Nat.zero_add] at sg
    rw [← sg]
    show (if (63 : Int32) ≤ nI i then _ else _) = _
    rw [if_neg (by rw [show (63 : Int32) = nI 63 from rfl, leI (by decide) (by omega)]; omega), i1, grd_t, bnd_eq, bnd_eq, nI_1, i2]
  · intro s hs
    subst hs
    exact ⟨_, by simp only [show (63 : Int32) ≤ nI 63 by decide, if_true], rfl⟩
theorem m_tabs {τ : St} (h : Id τ) {j : Nat} (hj : j < 11) {f : Nat → Int32} (h35 : ∀ k, k < 17 → τ (35, 0) k = f k) : ∃ τ', lpF (fun (q3 : Int32 × St) => match q3 with
  | (x1, σ3) =>
  if (17 : Int32) ≤ x1 then
    some (.inr σ3)
  else
    grd (inb x1 17) (
    grd (inb x1 17) (bnd (su σ3 (41, 0) (tn x1) (σ3 (35, 0) (tn x1))) (fun σ4 =>
    obi (fX9_itemOf σ4 (nI j) x1) (fun (x2, σ5) =>
    grd (inb x1 17) (bnd (su σ5 (42, 0) (tn x1) x2) (fun σ6 =>
    bnd (x1 + 1) (fun x3 =>
    some (.inl (x3, σ6)))))))))) ((0 : Int32), τ) = some τ' ∧ Id τ' ∧ modi (41 :: 42 :: RR) τ τ' ∧ MR τ' f (τ (11, j)) := by
  refine lpF_for (fun q s => s.1 = nI q ∧ Id s.2 ∧ modi (41 :: 42 :: RR) τ s.2 ∧ ∀ k, k < q → s.2 (41, 0) k = f k ∧ s.2 (42, 0) k = τ (11, j) k) 17 ?_ ?_ (by decide) ⟨rfl, h, modi.rf, fun k hk => by omega⟩
  · rintro q ⟨x, s⟩ hq ⟨rfl, h1, h2, h3⟩
    replace h1 : Id s := h1
    replace h2 : modi (41 :: 42 :: RR) τ s := h2
    replace h3 : ∀ k, k < q → s (41, 0) k = f k ∧ s (42, 0) k = τ (11, j) k := h3
    obtain ⟨q1, q2⟩ := in17 hq
    have c17 : ¬ (17 : Int32) ≤ nI q := by rw [show (17 : Int32) = nI 17 from rfl, leI (by decide) (by omega)]; omega
    have e35 : s (35, 0) q = f q := by rw [h2 (35, 0) q (by rw [cod_a (by decide)]; decide)]; exact h35 q hq
    have d1 : Id (su s (41, 0) q (f q)) := dep_Id.mv (L := [41]) ((modi.rf).su (by rw [cod_a (by decide)]; decide)) (by decide) h1
    obtain ⟨s2, e2, g1, g2⟩ := m_itemOf hj hq d1
    have w : su s (41, 0) q (f q) (11, j) q = τ (11, j) q := by rw [su_ref _ _ _ _ (by simp), h2 (11, j) q (by rw [cod_a (by decide)]; decide)]
    rw [w] at e2
    refine Or.inl ⟨(nI (q + 1), su s2 (42, 0) q (τ (11, j) q)), ?_, rfl, ?_, ?_, ?_⟩
    · show (if (17 : Int32) ≤ nI q then _ else _) = _
      rw [if_neg c17, q1, grd_t, grd_t, q2, e35, bnd_eq, e2, obi_s]
      show grd true (bnd (su s2 (42, 0) q (τ (11, j) q)) _) = _
      rw [grd_t, bnd_eq, bnd_eq, nI_1]
    · exact dep_Id.mv (L := [42]) ((modi.rf).su (by rw [cod_a (by decide)]; decide)) (by decide) g1
    · exact ((h2.su (by rw [cod_a (by decide)]; decide)).tr g2 (by decide)).su (by rw [cod_a (by decide)]; decide)
    · intro k hk
      show su s2 (42, 0) q (τ (11, j) q) (41, 0) k = _ ∧ su s2 (42, 0) q (τ (11, j) q) (42, 0) k = _
      rw [su_ref _ _ _ _ (by decide), g2.M (by simp)]
      by_cases c : k = q
      · subst c
        rw [su_hit, su_hit]
        exact ⟨rfl, rfl⟩
      · rw [su_slot _ _ _ _ c, su_slot _ _ _ _ c, g2.M (by simp), su_ref _ _ _ _ (by decide)]
        exact h3 k (by omega)
  · rintro ⟨x, s⟩ ⟨rfl, h1, h2, h3⟩
    exact ⟨s, by simp only [show (17 : Int32) ≤ nI 17 by decide, if_true], h1, h2, h3⟩
theorem m_dist {τ : St} (h : Id τ) {i j : Nat} (hi : i < 11) (hj : j < 11) : ∃ τ', fX9_distances τ (nI i) (nI j) = some τ' ∧ Id τ' ∧ MR τ' (τ (11, i)) (τ (11, j)) ∧ ∀ b, b < 63 → τ' (40, 0) b = nI (dk (PF τ i j) (TF τ i) 6 b) := by
  rw [dist_eq]
  obtain ⟨t1, e1, d1, m1, r1⟩ := m_mix h hi hi 0
  have r1' : ∀ k, k < 17 → t1 (35, 0) k = τ (11, i) k := fun k hk => by rw [r1 k hk, mixf_0]
  obtain ⟨t2, e2, d2, m2, r2⟩ := m_tabs d1 hj r1'
  have r11 : t1 (11, j) = τ (11, j) := by funext k; exact m1 _ _ (by rw [cod_a (by decide)]; decide)
  rw [r11] at r2
  rw [e1, obi_s, e2, obi_s, fill40, obi_s]
  have m3 : modi [40] t2 (srg t2 (40, 0) 0 63 (fun _ => (99 : Int32))) := (modi.rf (L := [40])).srg (by decide) (by decide)
  obtain ⟨t4, e4, m4, r4⟩ := m_rounds (r2.mv (modi.tr (modi.rf (L := 40 :: 43 :: QL)) m3 (by decide))) (h.gd hi) (h.gd hj) (fun b hb => by rw [srg_app, if_pos ⟨rfl, by omega, by omega⟩])
  refine ⟨t4, e4, dep_Id.mv m4 (by decide) (dep_Id.mv m3 (by decide) d2), ?_, r4⟩
  exact (r2.mv (modi.tr (modi.rf (L := 40 :: 43 :: QL)) m3 (by decide))).mv (modi.tr (modi.rf (L := 40 :: 43 :: QL)) m4 (by decide))
