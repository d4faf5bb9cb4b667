theorem found_eq (σ : St) (a1 a2 : Int32) : fX9_found σ a1 a2 = (if (fX9_in a1 (0 : Int32) (9 : Int32)) = true then
    if (fX9_in a2 (0 : Int32) (6 : Int32)) = true then
      obi (lpF (fun (q4 : Int32 × St) => match q4 with
      | (x1, σ2) =>
      if (17 : Int32) ≤ x1 then
        some (.inr σ2)
      else
        grd (inb x1 17) (bnd (su σ2 (35, 0) (tn x1) (fX9_plain x1)) (fun σ3 =>
        bnd (x1 + 1) (fun x2 =>
        some (.inl (x2, σ3)))))) ((0 : Int32), σ)) (fun σ1 =>
      lpF (fun (q10 : Int32 × Int32 × St) => match q10 with
      | (x3, x4, σ4) =>
      if (σ4 (9, 0) 15) ≤ x4 then
        some (.inr ((x3, σ4)))
      else
        bnd (fX9_begins σ4) (fun σ5 =>
        obi (lpF (fndB x4 a1 a2) (x3, (1 : Int32), (0 : Int32), σ5)) (fun (x5, σ6) =>
        bnd (x4 + 1) (fun x21 =>
        some (.inl (x5, x21, σ6)))))) ((0 : Int32), (0 : Int32), σ1))
    else
      some ((-2 : Int32), σ)
  else
    some ((-2 : Int32), σ)) := rfl
theorem plain35 (σ : St) : lpF (fun (q4 : Int32 × St) => match q4 with
      | (x1, σ2) =>
      if (17 : Int32) ≤ x1 then
        some (.inr σ2)
      else
        grd (inb x1 17) (bnd (su σ2 (35, 0) (tn x1) (fX9_plain x1)) (fun σ3 =>
        bnd (x1 + 1) (fun x2 =>
        some (.inl (x2, σ3)))))) ((0 : Int32), σ) = some (srg σ (35, 0) 0 17 (fun k => fX9_plain (nI k))) := by
  refine lpF_fx (fun i s => s = (nI i, srg σ (35, 0) 0 i (fun k => fX9_plain (nI k)))) 17 ?_ ?_ (by decide) (by rw [srg_0]; rfl)
  · intro i s hi hs
    subst hs
    refine Or.inl ⟨_, ?_, rfl⟩
    obtain ⟨i1, i2⟩ := in17 hi
    have c17 : ¬ (17 : Int32) ≤ nI i := by rw [show (17 : Int32) = nI 17 from rfl, leI (by decide) (by omega)]; omega
    have sg := srg_su σ (35, 0) 0 i (fun k => fX9_plain (nI k)) (v := fX9_plain (nI i)) rfl
    rw [Nat.zero_add] at sg
    simp only [c17, if_false, i1, i2, grd_t, bnd_eq, nI_1, sg]
  · intro s hs
    subst hs
    exact ⟨_, by simp only [show (17 : Int32) ≤ nI 17 by decide, if_true], rfl⟩
/-- what the matches tell of an act and a cell -/
def orF (V : Nat → Int32) : Nat → Int32
  | 0 => 0
  | m + 1 => orF V m ||| V m
set_option maxHeartbeats 4000000 in
theorem op_found {σ : St} (hI : Ix σ) (a1 a2 : Int32) : ∃ v σ1 σ2, fX8_found σ a1 a2 = some (v, σ1) ∧ fX9_found σ1 a1 a2 = some (v, σ2) ∧ Ix σ2 := by
  obtain ⟨nm, hnm, e1, e2⟩ := match_at hI.1
  by_cases c1 : inb a1 10 = true
  case neg =>
    refine ⟨-2, σ, σ, ?_, ?_, hI⟩
    · unfold fX8_found; rw [x_isAct, if_neg c1]
    · rw [found_eq, rM a1 10 9 (by decide), if_neg c1]
  by_cases c2 : inb a2 7 = true
  case neg =>
    refine ⟨-2, σ, σ, ?_, ?_, hI⟩
    · unfold fX8_found; rw [x_isAct, if_pos c1, x_isCell, if_neg c2]
    · rw [found_eq, rM a1 10 9 (by decide), if_pos c1, rM a2 7 6 (by decide), if_neg c2]
  obtain ⟨p, hp, rfl⟩ := inb_ex (by decide) c1
  obtain ⟨q, hq, rfl⟩ := inb_ex (by decide) c2
  have both : ∀ m, m < 12 → ∀ s τ B, modi XP σ s → modi AP σ τ → (∀ k, k < 17 → τ (35, 0) k = wpf k) → ∃ v s' τ', fX3_customOf s m (nI p) (nI q) 0 = some (v, s') ∧ lpF (fndB (nI m) (nI p) (nI q)) (B, (1 : Int32), (0 : Int32), fX9_begins τ) = some (B ||| v, τ') ∧ mf τ τ' := by
    intro m hm s τ B h1 h2 h3
    have h1' : modi AP σ s := modi.tr (modi.rf (L := AP)) h1 (by decide)
    have hv : Iv s := hI.1.mv h1' AP_Iv
    obtain ⟨n, pm⟩ := Im_PM hv hm
    have rk : RK s wpr τ := by
      refine ⟨by decide, rfl, by decide, fun k hk => ?_⟩
      obtain ⟨v, hv, e⟩ := wpf_ok k hk
      refine ⟨v, hv, ?_, by rw [h3 k hk, e]⟩
      rw [h1 wpr k (by rw [cod_a (by decide)]; decide), hI.2.1 k hk, e]
    obtain ⟨n', t', w1, w2, w3, w4, w5, w6, w7, w8, w9⟩ := hv.2.2.2.2.2 m hm
    exact g_custom B rk (pm.ap (h1'.two h2)) (fun k hk => w8 k (by have := pm.2.1; omega))
  generalize ht0 : srg σ (35, 0) 0 17 (fun k => fX9_plain (nI k)) = t0
  have mt0 : modi AP σ t0 := by
    subst ht0
    intro r k hr
    rw [srg_app, if_neg]
    rintro ⟨rfl, -⟩
    exact hr (by rw [cod_a (by decide)]; decide)
  have pt0 : ∀ k, k < 17 → t0 (35, 0) k = wpf k := by
    intro k hk
    subst ht0
    rw [srg_app, if_pos ⟨rfl, by omega, by omega⟩, Nat.sub_zero, plain_w k hk]
  have hV : ∃ V : Nat → Int32, ∀ m, m < 12 → (∀ s, modi XP σ s → ∃ s', fX3_customOf s m (nI p) (nI q) 0 = some (V m, s')) ∧ ∀ τ B, modi AP σ τ → (∀ k, k < 17 → τ (35, 0) k = wpf k) → ∃ τ', lpF (fndB (nI m) (nI p) (nI q)) (B, (1 : Int32), (0 : Int32), fX9_begins τ) = some (B ||| V m, τ') ∧ mf τ τ' := by
    have : ∀ m, ∃ V : Int32, m < 12 → (∀ s, modi XP σ s → ∃ s', fX3_customOf s m (nI p) (nI q) 0 = some (V, s')) ∧ ∀ τ B, modi AP σ τ → (∀ k, k < 17 → τ (35, 0) k = wpf k) → ∃ τ', lpF (fndB (nI m) (nI p) (nI q)) (B, (1 : Int32), (0 : Int32), fX9_begins τ) = some (B ||| V, τ') ∧ mf τ τ' := by
      intro m
      by_cases hm : m < 12
      · obtain ⟨v0, s0, τ0, x0, y0, -⟩ := both m hm σ t0 0 modi.rf mt0 pt0
        refine ⟨v0, fun _ => ⟨fun s hs => ?_, fun τ B h1 h2 => ?_⟩⟩
        · obtain ⟨v, s', τ', x1, y1, -⟩ := both m hm s t0 0 hs mt0 pt0
          rw [y0] at y1
          have : (0 : Int32) ||| v0 = 0 ||| v := congrArg Prod.fst (Option.some.inj y1)
          rw [Int32.zero_or, Int32.zero_or] at this
          subst this
          exact ⟨s', x1⟩
        · obtain ⟨v, s', τ', x1, y1, z1⟩ := both m hm σ τ B modi.rf h1 h2
          rw [x0] at x1
          have : v0 = v := congrArg Prod.fst (Option.some.inj x1)
          subst this
          exact ⟨τ', y1, z1⟩
      · exact ⟨0, fun h => absurd h hm⟩
    exact ⟨fun m => (this m).choose, fun m hm => (this m).choose_spec hm⟩
  obtain ⟨V, hV⟩ := hV
  have X : ∃ b, fX8_found σ (nI p) (nI q) = some b ∧ b.1 = orF V nm ∧ modi XP σ b.2 := by
    unfold fX8_found
    rw [x_isAct, if_pos c1, x_isCell, if_pos c2]
    refine lpF_for (fun m a => a.1 = orF V m ∧ a.2.1 = nI m ∧ modi XP σ a.2.2) nm ?_ ?_ (by omega) ⟨rfl, rfl, modi.rf⟩
    · rintro m ⟨x, y, s⟩ hm ⟨rfl, rfl, h1⟩
      replace h1 : modi XP σ s := h1
      obtain ⟨s', x1⟩ := (hV m (by omega)).1 s h1
      have r1 : s (8, 0) 10 = nI nm := by rw [h1 (8, 0) 10 (by rw [cod_o (by decide)]; decide), e1]
      have nn : ¬ nI nm ≤ nI m := by rw [leI (by omega) (by omega)]; omega
      refine Or.inl ⟨(orF V (m + 1), nI (m + 1), s'), ?_, rfl, rfl, modi.tr h1 (mX3_customOf x1) (by decide)⟩
      show (if s (8, 0) 10 ≤ nI m then _ else _) = _
      rw [r1, if_neg nn, (in12 (show m < 12 by omega)).1, grd_t, (in12 (show m < 12 by omega)).2, x1, obi_s]
      simp only [bnd_eq, nI_1]
      rfl
    · rintro ⟨x, y, s⟩ ⟨rfl, rfl, h1⟩
      replace h1 : modi XP σ s := h1
      have r1 : s (8, 0) 10 = nI nm := by rw [h1 (8, 0) 10 (by rw [cod_o (by decide)]; decide), e1]
      refine ⟨(orF V nm, s), ?_, rfl, h1⟩
      show (if s (8, 0) 10 ≤ nI nm then _ else _) = _
      rw [r1, if_pos (by rw [i32_le]; omega)]
  obtain ⟨⟨v, s1⟩, eX, rfl, mX⟩ := X
  replace mX : modi XP σ s1 := mX
  have hId1 : Id s1 := dep_Id.mv mX (by decide) hI.2
  generalize ht1 : srg s1 (35, 0) 0 17 (fun k => fX9_plain (nI k)) = t1
  have mt1 : modi (35 :: XP) σ t1 := by
    subst ht1
    intro r k hr
    rw [srg_app, if_neg, mX r k (fun h => hr (List.mem_cons_of_mem _ h))]
    rintro ⟨rfl, -⟩
    exact hr (by rw [cod_a (by decide)]; decide)
  have pt1 : ∀ k, k < 17 → t1 (35, 0) k = wpf k := by
    intro k hk
    subst ht1
    rw [srg_app, if_pos ⟨rfl, by omega, by omega⟩, Nat.sub_zero, plain_w k hk]
  have M : ∃ b, fX9_found s1 (nI p) (nI q) = some b ∧ b.1 = orF V nm ∧ Id b.2 ∧ modi AP σ b.2 := by
    rw [found_eq, rM (nI p) 10 9 (by decide), if_pos c1, rM (nI q) 7 6 (by decide), if_pos c2, plain35, ht1, obi_s]
    refine lpF_for (fun m a => a.1 = orF V m ∧ a.2.1 = nI m ∧ Id a.2.2 ∧ modi AP σ a.2.2 ∧ ∀ k, k < 17 → a.2.2 (35, 0) k = wpf k) nm ?_ ?_ (by omega) ⟨rfl, rfl, dep_Id.mv mt1 (by decide) hI.2, modi.tr (modi.rf (L := AP)) mt1 (by decide), pt1⟩
    · rintro m ⟨x, y, s⟩ hm ⟨rfl, rfl, h0, h1, h2⟩
      replace h0 : Id s := h0
      replace h1 : modi AP σ s := h1
      obtain ⟨τ', x1, x2⟩ := (hV m (by omega)).2 s (orF V m) h1 h2
      have r1 : s (9, 0) 15 = nI nm := by rw [h1 (9, 0) 15 (by rw [cod_o (by decide)]; decide), e2]
      have nn : ¬ nI nm ≤ nI m := by rw [leI (by omega) (by omega)]; omega
      refine Or.inl ⟨(orF V (m + 1), nI (m + 1), τ'), ?_, rfl, rfl, mg_Id x2.g h0, ?_, fun k hk => ?_⟩
      · show (if s (9, 0) 15 ≤ nI m then _ else _) = _
        rw [r1, if_neg nn, bnd_eq, x1, obi_s]
        simp only [bnd_eq, nI_1]
        rfl
      · refine h1.tr (L' := AP) ?_ (fun _ h => h)
        intro r k hr
        refine x2 r k ?_
        rintro ⟨rfl, hk⟩
        refine hr ?_
        rw [cod_o (by decide)]
        have : k = 10 ∨ k = 11 ∨ k = 12 ∨ k = 13 ∨ k = 14 := by omega
        rcases this with rfl | rfl | rfl | rfl | rfl <;> decide
      · show τ' (35, 0) k = wpf k
        rw [x2 _ _ (by simp)]
        exact h2 k hk
    · rintro ⟨x, y, s⟩ ⟨rfl, rfl, h0, h1, h2⟩
      replace h1 : modi AP σ s := h1
      have r1 : s (9, 0) 15 = nI nm := by rw [h1 (9, 0) 15 (by rw [cod_o (by decide)]; decide), e2]
      refine ⟨(orF V nm, s), ?_, rfl, h0, h1⟩
      show (if s (9, 0) 15 ≤ nI nm then _ else _) = _
      rw [r1, if_pos (by rw [i32_le]; omega)]
  obtain ⟨⟨v', s2⟩, eM, hv, hId2, mM⟩ := M
  replace hv : v' = orF V nm := hv
  subst hv
  exact ⟨_, _, _, eX, eM, hI.1.mv mM AP_Iv, hId2⟩
