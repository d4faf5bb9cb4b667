set_option maxHeartbeats 1000000 in
theorem m_row {τ : St} (h : Id τ) {j : Nat} (hj : j < 11) (c : Int32) : ∃ τ', lpF (fun (q11 : Int32 × St) => match q11 with
            | (x10, σ4) =>
            if (17 : Int32) ≤ x10 then
              some (.inr σ4)
            else
              obi (if ((c >>> (x10 &&& 31)) &&& (1 : Int32)) = (1 : Int32) then
                obi (fX9_itemOf σ4 (nI j) x10) (fun (x12, σ6) =>
                some (x12, σ6))
              else
                grd (inb x10 17) (
                some (σ4 (47, 0) (tn x10), σ4))) (fun (x11, σ5) =>
              grd (inb x10 17) (bnd (su σ5 (35, 0) (tn x10) x11) (fun σ7 =>
              bnd (x10 + 1) (fun x13 =>
              some (.inl (x13, σ7))))))) ((0 : Int32), τ) = some τ' ∧ Id τ' ∧ modi (35 :: RR) τ τ' ∧ ∀ k, k < 17 → τ' (35, 0) k = mixf c (τ (47, 0)) (τ (11, j)) k := by
  refine (lpF_for (Q := fun τ' => Id τ' ∧ modi (35 :: RR) τ τ' ∧ ∀ k, k < 17 → τ' (35, 0) k = mixf c (τ (47, 0)) (τ (11, j)) k) (fun q s => s.1 = nI q ∧ Id s.2 ∧ modi (35 :: RR) τ s.2 ∧ ∀ k, k < q → s.2 (35, 0) k = mixf c (τ (47, 0)) (τ (11, j)) k) 17 ?_ ?_ (by decide) ⟨rfl, h, modi.rf, fun k hk => by omega⟩)
  · rintro q ⟨x, s⟩ hq ⟨rfl, h1, h2, h3⟩
    replace h1 : Id s := h1
    replace h2 : modi (35 :: RR) τ s := h2
    replace h3 : ∀ k, k < q → s (35, 0) k = mixf c (τ (47, 0)) (τ (11, j)) k := h3
    obtain ⟨q1, q2⟩ := in17 hq
    have c17 : ¬ (17 : Int32) ≤ nI q := by rw [show (17 : Int32) = nI 17 from rfl, leI (by decide) (by omega)]; omega
    have fin : ∀ (v : Int32) (s2 : St), v = mixf c (τ (47, 0)) (τ (11, j)) q → Id s2 → modi RR s s2 → Id (su s2 (35, 0) q v) ∧ modi (35 :: RR) τ (su s2 (35, 0) q v) ∧ ∀ k, k < q + 1 → su s2 (35, 0) q v (35, 0) k = mixf c (τ (47, 0)) (τ (11, j)) k := by
      intro v s2 hv g1 g2
      refine ⟨dep_Id.mv (L := [35]) ((modi.rf).su (by rw [cod_a (by decide)]; decide)) (by decide) g1, (h2.tr g2 (by decide)).su (by rw [cod_a (by decide)]; decide), ?_⟩
      intro k hk
      rw [su_app]
      by_cases ck : k = q
      · rw [if_pos ⟨rfl, ck⟩, ck, hv]
      · rw [if_neg (fun w => ck w.2), g2.M (by simp)]
        exact h3 k (by omega)
    by_cases d : (c >>> (nI q &&& 31)) &&& 1 = 1
    · obtain ⟨s2, e2, g1, g2⟩ := m_itemOf hj hq h1
      have w : s (11, j) q = τ (11, j) q := h2 _ _ (by rw [cod_a (by decide)]; decide)
      obtain ⟨f1, f2, f3⟩ := fin (τ (11, j) q) s2 (by unfold mixf; rw [if_pos d]) g1 g2
      refine Or.inl ⟨(nI (q + 1), su s2 (35, 0) q (τ (11, j) q)), ?_, rfl, f1, f2, f3⟩
      simp only [c17, if_false, d, if_true, e2, obi_s, q1, q2, grd_t, bnd_eq, nI_1, w]
    · have w : s (47, 0) q = τ (47, 0) q := h2 _ _ (by rw [cod_a (by decide)]; decide)
      obtain ⟨f1, f2, f3⟩ := fin (τ (47, 0) q) s (by unfold mixf; rw [if_neg d]) h1 modi.rf
      refine Or.inl ⟨(nI (q + 1), su s (35, 0) q (τ (47, 0) q)), ?_, rfl, f1, f2, f3⟩
      simp only [c17, if_false, d, q1, q2, grd_t, obi_s, bnd_eq, nI_1, w]
  · rintro ⟨x, s⟩ ⟨rfl, h1, h2, h3⟩
    exact ⟨s, by simp only [show (17 : Int32) ≤ nI 17 by decide, if_true], h1, h2, h3⟩
/-- M's loop over all parts -/
def bstB (a1 a2 : Int32) : Int32 × Int32 × Int32 × Int32 × Int32 × St → Option ((Int32 × Int32 × Int32 × Int32 × Int32 × St) ⊕ (Int32 × Int32 × Int32 × St)) := fun (q7 : Int32 × Int32 × Int32 × Int32 × Int32 × St) => match q7 with
          | (x5, x6, x7, x8, x9, σ2) =>
          if x9 = 0 then
            some (.inr ((x5, x6, x7, σ2)))
          else
            obi (lpF (fun (q11 : Int32 × St) => match q11 with
            | (x10, σ4) =>
            if (17 : Int32) ≤ x10 then
              some (.inr σ4)
            else
              obi (if ((x8 >>> (x10 &&& 31)) &&& (1 : Int32)) = (1 : Int32) then
                obi (fX9_itemOf σ4 a2 x10) (fun (x12, σ6) =>
                some (x12, σ6))
              else
                grd (inb x10 17) (
                some (σ4 (47, 0) (tn x10), σ4))) (fun (x11, σ5) =>
              grd (inb x10 17) (bnd (su σ5 (35, 0) (tn x10) x11) (fun σ7 =>
              bnd (x10 + 1) (fun x13 =>
              some (.inl (x13, σ7))))))) ((0 : Int32), σ2)) (fun σ3 =>
            obi (fX9_stayNow σ3) (fun (x14, σ8) =>
            obi (fX9_hurtNow σ8) (fun (x15, σ9) =>
            bnd (if x5 = (-1 : Int32) then
              (1 : Int32)
            else
              x14 - x6) (fun x16 =>
            bnd (if x16 = 0 then
              x7 - x15
            else
              x16) (fun x17 =>
            obi (if x17 = 0 then
              obi (fX9_ones x5) (fun x19 =>
              obi (fX9_ones x8) (fun x20 =>
              some (x19 - x20)))
            else
              some x17) (fun x18 =>
            bnd (if x18 ≤ 0 then
              (x5, x6, x7)
            else
              (x8, x14, x15)) (fun (x21, x22, x23) =>
            bnd ((x8 - a1) &&& a1) (fun x24 =>
            bnd (if x24 = 0 then
              (0 : Int32)
            else
              (1 : Int32)) (fun x25 =>
            some (.inl (x21, x22, x23, x24, x25, σ9)))))))))))
theorem bstB_at (a1 a2 x5 x6 x7 x8 x9 : Int32) (σ2 : St) : bstB a1 a2 (x5, x6, x7, x8, x9, σ2) = (
          if x9 = 0 then
            some (.inr ((x5, x6, x7, σ2)))
          else
            obi (lpF (fun (q11 : Int32 × St) => match q11 with
            | (x10, σ4) =>
            if (17 : Int32) ≤ x10 then
              some (.inr σ4)
            else
              obi (if ((x8 >>> (x10 &&& 31)) &&& (1 : Int32)) = (1 : Int32) then
                obi (fX9_itemOf σ4 a2 x10) (fun (x12, σ6) =>
                some (x12, σ6))
              else
                grd (inb x10 17) (
                some (σ4 (47, 0) (tn x10), σ4))) (fun (x11, σ5) =>
              grd (inb x10 17) (bnd (su σ5 (35, 0) (tn x10) x11) (fun σ7 =>
              bnd (x10 + 1) (fun x13 =>
              some (.inl (x13, σ7))))))) ((0 : Int32), σ2)) (fun σ3 =>
            obi (fX9_stayNow σ3) (fun (x14, σ8) =>
            obi (fX9_hurtNow σ8) (fun (x15, σ9) =>
            bnd (if x5 = (-1 : Int32) then
              (1 : Int32)
            else
              x14 - x6) (fun x16 =>
            bnd (if x16 = 0 then
              x7 - x15
            else
              x16) (fun x17 =>
            obi (if x17 = 0 then
              obi (fX9_ones x5) (fun x19 =>
              obi (fX9_ones x8) (fun x20 =>
              some (x19 - x20)))
            else
              some x17) (fun x18 =>
            bnd (if x18 ≤ 0 then
              (x5, x6, x7)
            else
              (x8, x14, x15)) (fun (x21, x22, x23) =>
            bnd ((x8 - a1) &&& a1) (fun x24 =>
            bnd (if x24 = 0 then
              (0 : Int32)
            else
              (1 : Int32)) (fun x25 =>
            some (.inl (x21, x22, x23, x24, x25, σ9)))))))))))) := rfl
theorem best_eq (σ : St) (a1 a2 a3 : Int32) : fX9_best σ a1 a2 a3 = (if (fX9_in a1 (0 : Int32) (131071 : Int32)) = true then
    obi (fX9_ones a1) (fun x1 =>
    if (9 : Int32) < x1 then
      some ((-2 : Int32), σ)
    else
      if (fX9_isCode a2) = true then
        if (fX9_in a3 (0 : Int32) (2 : Int32)) = true then
          obi (lpF (bstB a1 a2) ((-1 : Int32), (0 : Int32), (0 : Int32), (0 : Int32), (1 : Int32), σ)) (fun (x2, x3, x4, σ1) =>
          if a3 = 0 then
            some (x2, σ1)
          else
            if a3 = (1 : Int32) then
              some (x3, σ1)
            else
              some (x4, σ1))
        else
          some ((-2 : Int32), σ)
      else
        some ((-2 : Int32), σ))
  else
    some ((-2 : Int32), σ)) := rfl
set_option maxHeartbeats 2000000 in
theorem m_try {σ σ1 : St} (hI : Ix σ) (hI1 : Ix σ1) (hl : itOk (σ (27, 0))) {nc j : Nat} (hnc : nc ≤ 12) (n2 : σ (9, 0) 28 = nI nc) (hj : j < 11) (h01 : modi BP σ σ1) {s : St} (hs : modi MP σ1 s) (hd : Id s) {a1 c : Int32} (hc : inb c 131072 = true) (b x6 x7 : Int32) (hb : b = -1 ∨ (inb b 131072 = true ∧ x6 = SV σ nc (rw9 σ j b) ∧ x7 = HU σ (rw9 σ j b))) : ∃ b' s', bstB a1 (nI j) (b, x6, x7, c, 1, s) = some (.inl (b', SV σ nc (rw9 σ j b'), HU σ (rw9 σ j b'), (c - a1) &&& a1, if (c - a1) &&& a1 = 0 then 0 else 1, s')) ∧ Id s' ∧ modi MP σ1 s' ∧ ((b = -1 ∧ b' = c) ∨ (¬ b = -1 ∧ b' = if EB σ nc j b ≤ EB σ nc j c then b else c)) := by
  obtain ⟨t1, e1, d1, m1, r1⟩ := m_row hd hj c
  have mt : modi MP σ1 t1 := hs.tr m1 (by decide)
  have mtB : modi BP σ t1 := h01.tr mt (by decide)
  have L : ∀ k, k < 17 → s (47, 0) k = σ (27, 0) k := fun k hk => by
    rw [hs (47, 0) k (by rw [cod_a (by decide)]; decide), h01 (47, 0) k (by rw [cod_a (by decide)]; decide)]
    exact (hI.1.2.2.1 k hk).symm
  have C : ∀ k, s (11, j) k = σ (11, j) k := fun k => by rw [hs (11, j) k (by rw [cod_a (by decide)]; decide), h01 (11, j) k (by rw [cod_a (by decide)]; decide)]
  have row : ∀ k, k < 17 → t1 (35, 0) k = rw9 σ j c k := fun k hk => by
    rw [r1 k hk]
    unfold rw9 mixf
    rw [L k hk, C k]
  obtain ⟨t2, e2, d2, m2⟩ := m_stayNow hI1 d1 (modi.tr (modi.rf (L := 28 :: AP)) mt (by decide)) hnc (show σ1 (9, 0) 28 = nI nc by rw [h01 (9, 0) 28 (by rw [cod_o (by decide)]; decide), n2])
  have sv' : cn (fun i => mem σ1 i && okU (σ1 (0, i) 1) (t1 (35, 0)) (fun a => itm σ1 a i) 17) nc = SV σ nc (rw9 σ j c) := SV_cong h01 row
  rw [sv'] at e2
  have mt2 : modi MP σ1 t2 := mt.tr m2 (by decide)
  obtain ⟨v, v1, v2, -, v3⟩ := hurts hI.1 (f := rw9 σ j c) (mix_ok hl (fun k hk => hI.2.it hj hk))
  obtain ⟨t3, e3⟩ := v3 t2 (h01.tr mt2 (by decide)) (fun k hk => by rw [m2.M (by simp)]; exact row k hk)
  have m3 := mX9_hurtNow e3
  have d3 : Id t3 := dep_Id.mv m3 (by decide) d2
  have mt3 : modi MP σ1 t3 := mt2.tr m3 (by decide)
  rw [← v2] at e3
  obtain ⟨sc, hc', h1, h2, q1, q2, q3⟩ := EB_at hI hl hnc hj c
  have pl : ∀ x : Int32, pcn x 17 ≤ 17 := fun x => pcn_le x 17
  have unf : ∀ b' : Int32, (∀ g : Int32 × Int32 × Int32 → Option ((Int32 × Int32 × Int32 × Int32 × Int32 × St) ⊕ (Int32 × Int32 × Int32 × St)), obi (if (if (if b = (-1 : Int32) then (1 : Int32) else SV σ nc (rw9 σ j c) - x6) = 0 then x7 - HU σ (rw9 σ j c) else (if b = (-1 : Int32) then (1 : Int32) else SV σ nc (rw9 σ j c) - x6)) = 0 then obi (fX9_ones b) (fun x19 => obi (fX9_ones c) (fun x20 => some (x19 - x20))) else some (if (if b = (-1 : Int32) then (1 : Int32) else SV σ nc (rw9 σ j c) - x6) = 0 then x7 - HU σ (rw9 σ j c) else (if b = (-1 : Int32) then (1 : Int32) else SV σ nc (rw9 σ j c) - x6))) (fun x18 => g (if x18 ≤ 0 then (b, x6, x7) else (c, SV σ nc (rw9 σ j c), HU σ (rw9 σ j c)))) = g (b', SV σ nc (rw9 σ j b'), HU σ (rw9 σ j b'))) → bstB a1 (nI j) (b, x6, x7, c, 1, s) = some (.inl (b', SV σ nc (rw9 σ j b'), HU σ (rw9 σ j b'), (c - a1) &&& a1, if (c - a1) &&& a1 = 0 then 0 else 1, t3)) := by
    intro b' hg
    rw [bstB_at, if_neg (by decide), e1, obi_s, e2, obi_s]
    show obi (fX9_hurtNow t2) _ = _
    rw [e3, obi_s]
    simp only [bnd_eq]
    exact hg (fun z => some (.inl (z.1, z.2.1, z.2.2, (c - a1) &&& a1, if (c - a1) &&& a1 = 0 then 0 else 1, t3)))
  by_cases c1 : b = -1
  · refine ⟨c, t3, unf c ?_, d3, mt3, Or.inl ⟨c1, rfl⟩⟩
    intro g
    simp only [c1, if_true, show ¬ (1 : Int32) = 0 by decide, if_false, obi_s, show ¬ (1 : Int32) ≤ 0 by decide]
  · rcases hb with e | ⟨hb1, hb2, hb3⟩
    · exact absurd e c1
    obtain ⟨svb, hvb, h1', h2', q1', q2', q3'⟩ := EB_at hI hl hnc hj b
    have cm := cmp_m h1' h2' (pl b) h1 h2 (pl c)
    rw [← q3, ← q3', ← q1, ← q1', ← q2, ← q2', ← hb2, ← hb3] at cm
    refine ⟨if EB σ nc j b ≤ EB σ nc j c then b else c, t3, unf _ ?_, d3, mt3, Or.inr ⟨c1, rfl⟩⟩
    intro g
    have e1' : (if b = (-1 : Int32) then (1 : Int32) else SV σ nc (rw9 σ j c) - x6) = SV σ nc (rw9 σ j c) - x6 := if_neg c1
    rw [e1', m_ones, m_ones, obi_s, obi_s]
    have pull : ∀ (p : Prop) [Decidable p] (x y : Int32), (if p then some x else some y) = some (if p then x else y) := fun p _ x y => by split <;> rfl
    rw [pull, obi_s]
    by_cases d : EB σ nc j b ≤ EB σ nc j c
    · rw [if_pos d, if_pos (by rw [cm]; exact d), hb2, hb3]
    · rw [if_neg d, if_neg (by rw [cm]; exact d)]
