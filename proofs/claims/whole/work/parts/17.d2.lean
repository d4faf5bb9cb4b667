theorem tellD {σ : St} (hI : Ix σ) {m : Nat} (hm : m < 12) : ∃ V : Nat → Int32, (∀ s, modi DG σ s → Id s → ∃ s', fX3_playUnder s m (11, 0) 0 = some s' ∧ ∀ w, w < 9 → fX4_answer s' 0 (nI w) = V w) ∧ ∀ τ, modi DG σ τ → Id τ → ∃ τ1 τ2, fX9_mix τ 0 0 0 = some τ1 ∧ fX9_plays τ1 (nI m) = some τ2 ∧ Id τ2 ∧ modi MP τ τ2 ∧ ∀ w, w < 9 → fX9_toldOf τ2 (nI w) = V w := by
  have both : ∀ s τ, modi DG σ s → Id s → modi DG σ τ → Id τ → ∃ s' τ1 τ2, fX3_playUnder s m (11, 0) 0 = some s' ∧ fX9_mix τ 0 0 0 = some τ1 ∧ fX9_plays τ1 (nI m) = some τ2 ∧ Id τ2 ∧ modi MP τ τ2 ∧ ∀ w, w < 9 → fX4_answer s' 0 (nI w) = fX9_toldOf τ2 (nI w) := by
    intro s τ h1 h2 h3 h4
    obtain ⟨τ1, e1, g1, m1, q1⟩ := m_mix h4 (show 0 < 11 by decide) (show 0 < 11 by decide) 0
    have rk := rk_dg h1 h3 h2 (show 0 < 11 by decide) q1
    obtain ⟨n, pm1⟩ := pm_dg hI.1 h1 (h3.tr m1 (by decide)) hm
    obtain ⟨s', τ2, f1, f2, f3, f4, f5⟩ := g_plays (t := 0) rk pm1
    have m2 := mX9_plays f2
    exact ⟨s', τ1, τ2, f1, e1, f2, dep_Id.mv m2 (by decide) g1, modi.tr (modi.tr (modi.rf (L := MP)) m1 (by decide)) m2 (by decide), fun w hw => g_told f3 hw⟩
  obtain ⟨s0, t0, t1, x0, y0, z0, -, -, w0⟩ := both σ σ modi.rf hI.2 modi.rf hI.2
  refine ⟨fun w => fX4_answer s0 0 (nI w), fun s h1 h2 => ?_, fun τ h1 h2 => ?_⟩
  · obtain ⟨s', t2, t3, x1, y1, z1, -, -, w1⟩ := both s σ h1 h2 modi.rf hI.2
    have e1 : t2 = t0 := Option.some.inj (y1.symm.trans y0)
    subst e1
    have e2 : t3 = t1 := Option.some.inj (z1.symm.trans z0)
    subst e2
    exact ⟨s', x1, fun w hw => by show _ = fX4_answer s0 0 (nI w); rw [w1 w hw, w0 w hw]⟩
  · obtain ⟨s', t2, t3, x1, y1, z1, d1, m1, w1⟩ := both σ τ modi.rf hI.2 h1 h2
    have e1 : s' = s0 := Option.some.inj (x1.symm.trans x0)
    subst e1
    exact ⟨t2, t3, y1, z1, d1, m1, fun w hw => (w1 w hw).symm⟩
theorem partD {σ : St} (hI : Ix σ) : ∃ pv, (∀ s, modi DG σ s → Id s → ∃ s', fX8_parts s 0 1 = some (pv, s')) ∧ ∀ τ, modi DG σ τ → Id τ → ∃ τ', fX9_partsOf τ 0 1 = some (pv, τ') ∧ Id τ' := by
  have h0 : 0 < 11 := by decide
  have h1' : 1 < 11 := by decide
  have pf : ∀ s, modi DG σ s → PF s 0 1 = PF σ 0 1 ∧ TF s 0 = TF σ 0 := fun s h => PF_mv h (by decide) 0 1
  have uX : ∀ s s' : St, fX5_part s (11, 0) (11, 1) = some s' → fX8_parts s 0 1 = (if s' (5, 0) 7 = 0 then some (-1, s') else some (s' (5, 0) 7, s')) := by
    intro s s' e
    unfold fX8_parts
    rw [x_isCode, x_isCode, if_pos (by decide), if_pos (by decide), show inb (0 : Int32) 11 = true by decide, grd_t, show inb (1 : Int32) 11 = true by decide, grd_t, show tn (0 : Int32) = 0 from rfl, show tn (1 : Int32) = 1 from rfl, e, obi_s]
  obtain ⟨s0, e0, q0⟩ := x_part hI.2 h0 h1'
  rcases q0 with ⟨z0, hno⟩ | ⟨ρ, k1, k2, k3, k4, -⟩
  · refine ⟨-1, fun s hs hd => ?_, fun τ hτ hd => ?_⟩
    · obtain ⟨s', e, q⟩ := x_part hd h0 h1'
      rw [(pf s hs).1, (pf s hs).2] at q
      rcases q with ⟨z, -⟩ | ⟨ρ', p1, p2, p3, -⟩
      · exact ⟨s', by rw [uX s s' e, z, if_pos rfl]⟩
      · have := hno ρ' p1
        omega
    · exact (m_parts hd h0 h1').1 (by rw [(pf τ hτ).1, (pf τ hτ).2]; exact hno)
  · have l0 : ¬ ρ.length = 0 := by
      intro w
      rw [List.length_eq_zero_iff] at w
      subst w
      exact k1
    refine ⟨nI ρ.length, fun s hs hd => ?_, fun τ hτ hd => ?_⟩
    · obtain ⟨s', e, q⟩ := x_part hd h0 h1'
      rw [(pf s hs).1, (pf s hs).2] at q
      rcases q with ⟨-, hno⟩ | ⟨ρ', p1, p2, p3, p4, -⟩
      · have := hno ρ k1
        omega
      · have a := len_min k1 (p2 ρ k1)
        have b := len_min p1 (k2 ρ' p1)
        have c : ρ'.length = ρ.length := by omega
        exact ⟨s', by rw [uX s s' e, p4, c, if_neg (nI_ne0 (by omega) (by omega))]⟩
    · obtain ⟨τ', t1, t2, -⟩ := (m_parts hd h0 h1').2 ρ (by rw [(pf τ hτ).1, (pf τ hτ).2]; exact k1) (by rw [(pf τ hτ).1, (pf τ hτ).2]; exact k2) k3
      exact ⟨τ', t1, t2⟩
def hsh (x : Int64) (g : Nat → Int32) : Nat → Int64
  | 0 => x
  | n + 1 => (31 : Int64) * hsh x g n + (g n).toInt64
theorem hsh_S (x : Int64) (g : Nat → Int32) (n : Nat) : hsh x g (n + 1) = (31 : Int64) * hsh x g n + (g n).toInt64 := rfl
theorem hsh_cong {x : Int64} {g g' : Nat → Int32} : ∀ n, (∀ k, k < n → g k = g' k) → hsh x g n = hsh x g' n
  | 0, _ => rfl
  | n + 1, h => by rw [hsh_S, hsh_S, hsh_cong n (fun k hk => h k (by omega)), h n (by omega)]
/-- over matches: six numbers each -/
def hs6 (x : Int64) (V : Nat → Nat → Int32) : Nat → Int64
  | 0 => x
  | m + 1 => hsh (hs6 x V m) (V m) 6
theorem hs6_S (x : Int64) (V : Nat → Nat → Int32) (m : Nat) : hs6 x V (m + 1) = hsh (hs6 x V m) (V m) 6 := rfl
def hs2 (x : Int64) (g g' : Nat → Int32) : Nat → Int64
  | 0 => x
  | n + 1 => (31 : Int64) * ((31 : Int64) * hs2 x g g' n + (g n).toInt64) + (g' n).toInt64
theorem hs2_S (x : Int64) (g g' : Nat → Int32) (n : Nat) : hs2 x g g' (n + 1) = (31 : Int64) * ((31 : Int64) * hs2 x g g' n + (g n).toInt64) + (g' n).toInt64 := rfl
theorem cnt_mv {L : List Nat} {σ s : St} (h : modi L σ s) (h1 : ∀ x ∈ ([1915, 1928, 1933, 1934, 1935, 1944, 39, 46, 29] : List Nat), ¬ x ∈ L) (a : Int32) : fX9_count s a = fX9_count σ a := by
  have e15 : s (9, 0) 15 = σ (9, 0) 15 := h _ _ (by rw [cod_o (by decide)]; exact h1 _ (by simp))
  have e28 : s (9, 0) 28 = σ (9, 0) 28 := h _ _ (by rw [cod_o (by decide)]; exact h1 _ (by simp))
  have e33 : s (9, 0) 33 = σ (9, 0) 33 := h _ _ (by rw [cod_o (by decide)]; exact h1 _ (by simp))
  have e34 : s (9, 0) 34 = σ (9, 0) 34 := h _ _ (by rw [cod_o (by decide)]; exact h1 _ (by simp))
  have e35 : s (9, 0) 35 = σ (9, 0) 35 := h _ _ (by rw [cod_o (by decide)]; exact h1 _ (by simp))
  have e44 : s (9, 0) 44 = σ (9, 0) 44 := h _ _ (by rw [cod_o (by decide)]; exact h1 _ (by simp))
  have e39 : s (39, 0) = σ (39, 0) := by funext k; exact h _ _ (by rw [cod_a (by decide)]; exact h1 _ (by simp))
  have e46 : s (46, 0) = σ (46, 0) := by funext k; exact h _ _ (by rw [cod_a (by decide)]; exact h1 _ (by simp))
  have e29 : s (29, 0) = σ (29, 0) := by funext k; exact h _ _ (by rw [cod_a (by decide)]; exact h1 _ (by simp))
  unfold fX9_count
  rw [e15, e28, e33, e34, e35, e44, e39, e46, e29]
set_option maxHeartbeats 4000000 in
theorem op_digest {σ : St} (hI : Ix σ) : ∃ v σ1 σ2, fX8_digest σ = some (v, σ1) ∧ fX9_digest σ1 = some (v, σ2) ∧ Ix σ2 := by
  obtain ⟨nm, hnm, e1, e2⟩ := match_at hI.1
  obtain ⟨nc, hnc, n1, n2⟩ := club_at hI.1
  -- the counts
  have hC : ∃ C : Nat → Int32, ∀ k, fX8_count σ (nI k) = some (C k) ∧ fX9_count σ (nI k) = some (C k) := ⟨fun k => (op_count hI (nI k)).choose, fun k => (op_count hI (nI k)).choose_spec⟩
  obtain ⟨C, hC⟩ := hC
  have hV : ∃ V : Nat → Nat → Int32, ∀ m, m < 12 → (∀ s, modi DG σ s → Id s → ∃ s', fX3_playUnder s m (11, 0) 0 = some s' ∧ ∀ w, w < 9 → fX4_answer s' 0 (nI w) = V m w) ∧ ∀ τ, modi DG σ τ → Id τ → ∃ τ1 τ2, fX9_mix τ 0 0 0 = some τ1 ∧ fX9_plays τ1 (nI m) = some τ2 ∧ Id τ2 ∧ modi MP τ τ2 ∧ ∀ w, w < 9 → fX9_toldOf τ2 (nI w) = V m w := by
    have : ∀ m, ∃ V : Nat → Int32, m < 12 → (∀ s, modi DG σ s → Id s → ∃ s', fX3_playUnder s m (11, 0) 0 = some s' ∧ ∀ w, w < 9 → fX4_answer s' 0 (nI w) = V w) ∧ ∀ τ, modi DG σ τ → Id τ → ∃ τ1 τ2, fX9_mix τ 0 0 0 = some τ1 ∧ fX9_plays τ1 (nI m) = some τ2 ∧ Id τ2 ∧ modi MP τ τ2 ∧ ∀ w, w < 9 → fX9_toldOf τ2 (nI w) = V w := by
      intro m
      by_cases hm : m < 12
      · obtain ⟨V, h⟩ := tellD hI hm
        exact ⟨V, fun _ => h⟩
      · exact ⟨fun _ => 0, fun h => absurd h hm⟩
    exact ⟨fun m => (this m).choose, fun m hm => (this m).choose_spec hm⟩
  obtain ⟨V, hV⟩ := hV
  obtain ⟨fv, fX, fM⟩ := fitD hI
  obtain ⟨pv, pX, pM⟩ := partD hI
  generalize hA : hsh 17 C 8 = A
  generalize hB : hsh A (fun j => σ (1, j) 4) 11 = B
  generalize hD : hs6 B V nm = D
  generalize hE : hs2 D (fun c => σ (0, c) 0) (fun c => σ (0, c) 1) nc = E
  generalize hF : hsh E (σ (27, 0)) 17 = F
  -- the class
  have x1 : lpF (fun (q2 : Int64 × Int32) => match q2 with
  | (x2, x3) =>
  if (7 : Int32) < x3 then
    some (.inr x2)
  else
    obi (fX8_count σ x3) (fun x4 =>
    bnd (((31 : Int64) * x2) + x4.toInt64) (fun x5 =>
    bnd (x3 + 1) (fun x6 =>
    some (.inl (x5, x6)))))) ((17 : Int64), (0 : Int32)) = some A := by
    rw [← hA]
    refine lpF_fx (fun k q => q = (hsh 17 C k, nI k)) 8 ?_ ?_ (by decide) rfl
    · intro k q hk hq
      subst hq
      refine Or.inl ⟨_, ?_, rfl⟩
      show (if (7 : Int32) < nI k then _ else _) = _
      rw [if_neg (by rw [show (7 : Int32) = nI 7 from rfl, ltI (by decide) (by omega)]; omega), (hC k).1, obi_s, bnd_eq, bnd_eq, nI_1, ← hsh_S]
    · intro q hq
      subst hq
      refine ⟨_, ?_, rfl⟩
      show (if (7 : Int32) < nI 8 then _ else _) = _
      rw [if_pos (by decide)]
  have x2 : lpF (fun (q9 : Int64 × Int32) => match q9 with
  | (x8, x9) =>
  if (11 : Int32) ≤ x9 then
    some (.inr x8)
  else
    grd (inb x9 11) (
    bnd (((31 : Int64) * x8) + ((σ (1, (tn x9)) 4).toInt64)) (fun x10 =>
    bnd (x9 + 1) (fun x11 =>
    some (.inl (x10, x11)))))) (A, (0 : Int32)) = some B := by
    rw [← hB]
    refine lpF_fx (fun k q => q = (hsh A (fun j => σ (1, j) 4) k, nI k)) 11 ?_ ?_ (by decide) rfl
    · intro k q hk hq
      subst hq
      refine Or.inl ⟨_, ?_, rfl⟩
      show (if (11 : Int32) ≤ nI k then _ else _) = _
      rw [if_neg (by rw [show (11 : Int32) = nI 11 from rfl, leI (by decide) (by omega)]; omega), (in11 hk).1, grd_t, (in11 hk).2, bnd_eq, bnd_eq, nI_1, hsh_S]
    · intro q hq
      subst hq
      refine ⟨_, ?_, rfl⟩
      show (if (11 : Int32) ≤ nI 11 then _ else _) = _
      rw [if_pos (by decide)]
  have x3 : ∃ s1, lpF (fun (q16 : Int64 × Int32 × St) => match q16 with
  | (x13, x14, σ2) =>
  if (σ2 (8, 0) 10) ≤ x14 then
    some (.inr ((x13, σ2)))
  else
    grd (inb x14 12) (
    obi (fX3_playUnder σ2 (tn x14) (11, (tn (0 : Int32))) 0) (fun σ3 =>
    obi (lpF (fun (q22 : Int64 × Int32) => match q22 with
    | (x16, x17) =>
    if (5 : Int32) < x17 then
      some (.inr x16)
    else
      bnd (((31 : Int64) * x16) + ((fX4_answer σ3 0 x17).toInt64)) (fun x18 =>
      bnd (x17 + 1) (fun x19 =>
      some (.inl (x18, x19))))) (x13, (0 : Int32))) (fun x15 =>
    bnd (x14 + 1) (fun x20 =>
    some (.inl (x15, x20, σ3))))))) (B, (0 : Int32), σ) = some (D, s1) ∧ modi XP σ s1 := by
    have key : ∃ r, lpF (fun (q16 : Int64 × Int32 × St) => match q16 with
  | (x13, x14, σ2) =>
  if (σ2 (8, 0) 10) ≤ x14 then
    some (.inr ((x13, σ2)))
  else
    grd (inb x14 12) (
    obi (fX3_playUnder σ2 (tn x14) (11, (tn (0 : Int32))) 0) (fun σ3 =>
    obi (lpF (fun (q22 : Int64 × Int32) => match q22 with
    | (x16, x17) =>
    if (5 : Int32) < x17 then
      some (.inr x16)
    else
      bnd (((31 : Int64) * x16) + ((fX4_answer σ3 0 x17).toInt64)) (fun x18 =>
      bnd (x17 + 1) (fun x19 =>
      some (.inl (x18, x19))))) (x13, (0 : Int32))) (fun x15 =>
    bnd (x14 + 1) (fun x20 =>
    some (.inl (x15, x20, σ3))))))) (B, (0 : Int32), σ) = some r ∧ r.1 = D ∧ modi XP σ r.2 := by
      refine lpF_for (fun m q => q.1 = hs6 B V m ∧ q.2.1 = nI m ∧ modi XP σ q.2.2) nm ?_ ?_ (by omega) ⟨rfl, rfl, modi.rf⟩
      · rintro m ⟨x, y, s⟩ hm ⟨h1, h2, h3⟩
        replace h1 : x = hs6 B V m := h1
        replace h2 : y = nI m := h2
        replace h3 : modi XP σ s := h3
        subst h1
        subst h2
        obtain ⟨i1, i2⟩ := in12 (show m < 12 by omega)
        obtain ⟨s', p1, p2⟩ := (hV m (by omega)).1 s (modi.tr (modi.rf (L := DG)) h3 (by decide)) (dep_Id.mv h3 (by decide) hI.2)
        have inner : lpF (fun (q22 : Int64 × Int32) => match q22 with
    | (x16, x17) =>
    if (5 : Int32) < x17 then
      some (.inr x16)
    else
      bnd (((31 : Int64) * x16) + ((fX4_answer s' 0 x17).toInt64)) (fun x18 =>
      bnd (x17 + 1) (fun x19 =>
      some (.inl (x18, x19))))) (hs6 B V m, (0 : Int32)) = some (hs6 B V (m + 1)) := by
          rw [hs6_S]
          refine lpF_fx (fun k q => q = (hsh (hs6 B V m) (V m) k, nI k)) 6 ?_ ?_ (by decide) rfl
          · intro k q hk hq
            subst hq
            refine Or.inl ⟨_, ?_, rfl⟩
            show (if (5 : Int32) < nI k then _ else _) = _
            rw [if_neg (by rw [show (5 : Int32) = nI 5 from rfl, ltI (by decide) (by omega)]; omega), p2 k (by omega), bnd_eq, bnd_eq, nI_1, ← hsh_S]
          · intro q hq
            subst hq
            refine ⟨_, ?_, rfl⟩
            show (if (5 : Int32) < nI 6 then _ else _) = _
            rw [if_pos (by decide)]
        refine Or.inl ⟨(hs6 B V (m + 1), nI (m + 1), s'), ?_, rfl, rfl, h3.tr (mX3_playUnder p1) (by decide)⟩
        show (if s (8, 0) 10 ≤ nI m then _ else _) = _
        rw [h3 (8, 0) 10 (by rw [cod_o (by decide)]; decide), e1, if_neg (by rw [leI (by omega) (by omega)]; omega), i1, grd_t, i2, show tn (0 : Int32) = 0 from rfl, p1, obi_s, inner, obi_s, bnd_eq, nI_1]
      · rintro ⟨x, y, s⟩ ⟨h1, h2, h3⟩
        replace h1 : x = hs6 B V nm := h1
        replace h2 : y = nI nm := h2
        replace h3 : modi XP σ s := h3
        subst h1
        subst h2
        refine ⟨(hs6 B V nm, s), ?_, hD, h3⟩
        show (if s (8, 0) 10 ≤ nI nm then _ else _) = _
        rw [h3 (8, 0) 10 (by rw [cod_o (by decide)]; decide), e1, if_pos (by rw [i32_le]; omega)]
    obtain ⟨⟨x, s⟩, k1, k2, k3⟩ := key
    replace k2 : x = D := k2
    subst k2
    exact ⟨s, k1, k3⟩
  obtain ⟨s1, x3, m1⟩ := x3
  have clubs : ∀ (τ : St) (F G : Nat → Int32) (n : Int32), n = nI nc → (∀ c, c < 12 → F c = σ (0, c) 0 ∧ G c = σ (0, c) 1) → lpF (fun (q29 : Int64 × Int32) => match q29 with
  | (x22, x23) =>
  if n ≤ x23 then
    some (.inr x22)
  else
    grd (inb x23 12) (
    bnd (((31 : Int64) * x22) + ((F (tn x23)).toInt64)) (fun x24 =>
    grd (inb x23 12) (
    bnd (((31 : Int64) * x24) + ((G (tn x23)).toInt64)) (fun x25 =>
    bnd (x23 + 1) (fun x26 =>
    some (.inl (x25, x26)))))))) (D, (0 : Int32)) = some E := by
    intro τ F G n hn hFG
    subst hn
    rw [← hE]
    refine lpF_fx (fun k q => q = (hs2 D (fun c => σ (0, c) 0) (fun c => σ (0, c) 1) k, nI k)) nc ?_ ?_ (by omega) rfl
    · intro k q hk hq
      subst hq
      refine Or.inl ⟨_, ?_, rfl⟩
      obtain ⟨i1, i2⟩ := in12 (show k < 12 by omega)
      show (if nI nc ≤ nI k then _ else _) = _
      rw [if_neg (by rw [leI (by omega) (by omega)]; omega), i1, grd_t, i2, bnd_eq, grd_t, bnd_eq, bnd_eq, nI_1, (hFG k (by omega)).1, (hFG k (by omega)).2, hs2_S]
    · intro q hq
      subst hq
      refine ⟨_, ?_, rfl⟩
      show (if nI nc ≤ nI nc then _ else _) = _
      rw [if_pos (by rw [i32_le]; omega)]
  have laws : ∀ (G : Nat → Int32), (∀ k, k < 17 → G k = σ (27, 0) k) → lpF (fun (q38 : Int64 × Int32) => match q38 with
  | (x28, x29) =>
  if (17 : Int32) ≤ x29 then
    some (.inr x28)
  else
    grd (inb x29 17) (
    bnd (((31 : Int64) * x28) + ((G (tn x29)).toInt64)) (fun x30 =>
    bnd (x29 + 1) (fun x31 =>
    some (.inl (x30, x31)))))) (E, (0 : Int32)) = some F := by
    intro G hG
    rw [← hF]
    refine lpF_fx (fun k q => q = (hsh E (σ (27, 0)) k, nI k)) 17 ?_ ?_ (by decide) rfl
    · intro k q hk hq
      subst hq
      refine Or.inl ⟨_, ?_, rfl⟩
      show (if (17 : Int32) ≤ nI k then _ else _) = _
      rw [if_neg (by rw [show (17 : Int32) = nI 17 from rfl, leI (by decide) (by omega)]; omega), (in17 hk).1, grd_t, (in17 hk).2, bnd_eq, bnd_eq, nI_1, hG k hk, ← hsh_S]
    · intro q hq
      subst hq
      refine ⟨_, ?_, rfl⟩
      show (if (17 : Int32) ≤ nI 17 then _ else _) = _
      rw [if_pos (by decide)]
  obtain ⟨s4, g1, m4⟩ := fX s1 m1
  have d4 : Id s4 := dep_Id.mv m4 (by decide) hI.2
  obtain ⟨s5, g2⟩ := pX s4 (modi.tr (modi.rf (L := DG)) m4 (by decide)) d4
  have m5 : modi DG σ s5 := (modi.tr (modi.rf (L := DG)) m4 (by decide)).tr (mX8_parts g2) (by decide)
  have d5 : Id s5 := dep_Id.mv (mX8_parts g2) (by decide) d4
  have eX : fX8_digest σ = some ((31 : Int64) * ((31 : Int64) * F + fv.toInt64) + pv.toInt64, s5) := by
    unfold fX8_digest
    rw [x1, obi_s, x2, obi_s, x3, obi_s]
    show obi (lpF (fun (q29 : Int64 × Int32) => match q29 with
  | (x22, x23) =>
  if (s1 (8, 0) 11) ≤ x23 then
    some (.inr x22)
  else
    grd (inb x23 12) (
    bnd (((31 : Int64) * x22) + ((s1 (0, (tn x23)) 0).toInt64)) (fun x24 =>
    grd (inb x23 12) (
    bnd (((31 : Int64) * x24) + ((s1 (0, (tn x23)) 1).toInt64)) (fun x25 =>
    bnd (x23 + 1) (fun x26 =>
    some (.inl (x25, x26)))))))) (D, (0 : Int32))) _ = _
    rw [clubs s1 (fun c => s1 (0, c) 0) (fun c => s1 (0, c) 1) (s1 (8, 0) 11) (by rw [m1 (8, 0) 11 (by rw [cod_o (by decide)]; decide), n1]) (fun c hc => ⟨m1 (0, c) 0 (by rw [cod_o (by decide)]; decide), m1 (0, c) 1 (by rw [cod_o (by decide)]; decide)⟩), obi_s, laws (fun k => s1 (27, 0) k) (fun k hk => m1 (27, 0) k (by rw [cod_a (by decide)]; decide)), obi_s, g1, obi_s]
    show bnd ((31 : Int64) * F + fv.toInt64) _ = _
    rw [bnd_eq, g2, obi_s]
  -- the reference
  have y1 : lpF (fun (q2 : Int64 × Int32) => match q2 with
  | (x2, x3) =>
  if (8 : Int32) ≤ x3 then
    some (.inr x2)
  else
    obi (fX9_count s5 x3) (fun x4 =>
    bnd (((31 : Int64) * x2) + x4.toInt64) (fun x5 =>
    bnd (x3 + 1) (fun x6 =>
    some (.inl (x5, x6)))))) ((17 : Int64), (0 : Int32)) = some A := by
    rw [← hA]
    refine lpF_fx (fun k q => q = (hsh 17 C k, nI k)) 8 ?_ ?_ (by decide) rfl
    · intro k q hk hq
      subst hq
      refine Or.inl ⟨_, ?_, rfl⟩
      show (if (8 : Int32) ≤ nI k then _ else _) = _
      rw [if_neg (by rw [show (8 : Int32) = nI 8 from rfl, leI (by decide) (by omega)]; omega), cnt_mv m5 (by decide), (hC k).2, obi_s, bnd_eq, bnd_eq, nI_1, ← hsh_S]
    · intro q hq
      subst hq
      refine ⟨_, ?_, rfl⟩
      show (if (8 : Int32) ≤ nI 8 then _ else _) = _
      rw [if_pos (by decide)]
  have y2 : ∃ t1, lpF (fun (q9 : Int64 × Int32 × St) => match q9 with
  | (x8, x9, σ2) =>
  if (11 : Int32) ≤ x9 then
    some (.inr ((x8, σ2)))
  else
    obi (fX9_faultOf σ2 x9) (fun (x10, σ3) =>
    bnd (((31 : Int64) * x8) + x10.toInt64) (fun x11 =>
    bnd (x9 + 1) (fun x12 =>
    some (.inl (x11, x12, σ3)))))) (A, (0 : Int32), s5) = some (B, t1) ∧ Id t1 ∧ modi DG σ t1 := by
    have key : ∃ r, lpF (fun (q9 : Int64 × Int32 × St) => match q9 with
  | (x8, x9, σ2) =>
  if (11 : Int32) ≤ x9 then
    some (.inr ((x8, σ2)))
  else
    obi (fX9_faultOf σ2 x9) (fun (x10, σ3) =>
    bnd (((31 : Int64) * x8) + x10.toInt64) (fun x11 =>
    bnd (x9 + 1) (fun x12 =>
    some (.inl (x11, x12, σ3)))))) (A, (0 : Int32), s5) = some r ∧ r.1 = B ∧ Id r.2 ∧ modi DG σ r.2 := by
      refine lpF_for (fun k q => q.1 = hsh A (fun j => σ (1, j) 4) k ∧ q.2.1 = nI k ∧ Id q.2.2 ∧ modi DG σ q.2.2) 11 ?_ ?_ (by decide) ⟨rfl, rfl, d5, m5⟩
      · rintro k ⟨x, y, s⟩ hk ⟨h1, h2, h3, h4⟩
        replace h1 : x = hsh A (fun j => σ (1, j) 4) k := h1
        replace h2 : y = nI k := h2
        replace h3 : Id s := h3
        replace h4 : modi DG σ s := h4
        subst h1
        subst h2
        obtain ⟨s', p1, p2, p3⟩ := m_faultOf hk h3
        rw [h4 (1, k) 4 (by rw [cod_o (by decide)]; decide)] at p1
        refine Or.inl ⟨(hsh A (fun j => σ (1, j) 4) (k + 1), nI (k + 1), s'), ?_, rfl, rfl, p2, h4.tr p3 (by decide)⟩
        show (if (11 : Int32) ≤ nI k then _ else _) = _
        rw [if_neg (by rw [show (11 : Int32) = nI 11 from rfl, leI (by decide) (by omega)]; omega), p1, obi_s]
        show bnd _ _ = _
        rw [bnd_eq, bnd_eq, nI_1, hsh_S]
      · rintro ⟨x, y, s⟩ ⟨h1, h2, h3, h4⟩
        replace h1 : x = hsh A (fun j => σ (1, j) 4) 11 := h1
        replace h2 : y = nI 11 := h2
        subst h1
        subst h2
        refine ⟨(hsh A (fun j => σ (1, j) 4) 11, s), ?_, hB, h3, h4⟩
        show (if (11 : Int32) ≤ nI 11 then _ else _) = _
        rw [if_pos (by decide)]
    obtain ⟨⟨x, s⟩, k1, k2, k3, k4⟩ := key
    replace k2 : x = B := k2
    subst k2
    exact ⟨s, k1, k3, k4⟩
  obtain ⟨t1, y2, dt1, mt1⟩ := y2
  have y3 : ∃ t2, lpF (fun (q16 : Int64 × Int32 × St) => match q16 with
  | (x14, x15, σ5) =>
  if (σ5 (9, 0) 15) ≤ x15 then
    some (.inr ((x14, σ5)))
  else
    obi (fX9_mix σ5 (0 : Int32) (0 : Int32) (0 : Int32)) (fun σ6 =>
    obi (fX9_plays σ6 x15) (fun σ7 =>
    obi (lpF (fun (q22 : Int64 × Int32) => match q22 with
    | (x17, x18) =>
    if (6 : Int32) ≤ x18 then
      some (.inr x17)
    else
      bnd (((31 : Int64) * x17) + ((fX9_toldOf σ7 x18).toInt64)) (fun x19 =>
      bnd (x18 + 1) (fun x20 =>
      some (.inl (x19, x20))))) (x14, (0 : Int32))) (fun x16 =>
    bnd (x15 + 1) (fun x21 =>
    some (.inl (x16, x21, σ7))))))) (B, (0 : Int32), t1) = some (D, t2) ∧ Id t2 ∧ modi DG σ t2 := by
    have key : ∃ r, lpF (fun (q16 : Int64 × Int32 × St) => match q16 with
  | (x14, x15, σ5) =>
  if (σ5 (9, 0) 15) ≤ x15 then
    some (.inr ((x14, σ5)))
  else
    obi (fX9_mix σ5 (0 : Int32) (0 : Int32) (0 : Int32)) (fun σ6 =>
    obi (fX9_plays σ6 x15) (fun σ7 =>
    obi (lpF (fun (q22 : Int64 × Int32) => match q22 with
    | (x17, x18) =>
    if (6 : Int32) ≤ x18 then
      some (.inr x17)
    else
      bnd (((31 : Int64) * x17) + ((fX9_toldOf σ7 x18).toInt64)) (fun x19 =>
      bnd (x18 + 1) (fun x20 =>
      some (.inl (x19, x20))))) (x14, (0 : Int32))) (fun x16 =>
    bnd (x15 + 1) (fun x21 =>
    some (.inl (x16, x21, σ7))))))) (B, (0 : Int32), t1) = some r ∧ r.1 = D ∧ Id r.2 ∧ modi DG σ r.2 := by
      refine lpF_for (fun m q => q.1 = hs6 B V m ∧ q.2.1 = nI m ∧ Id q.2.2 ∧ modi DG σ q.2.2) nm ?_ ?_ (by omega) ⟨rfl, rfl, dt1, mt1⟩
      · rintro m ⟨x, y, s⟩ hm ⟨h1, h2, h3, h4⟩
        replace h1 : x = hs6 B V m := h1
        replace h2 : y = nI m := h2
        replace h3 : Id s := h3
        replace h4 : modi DG σ s := h4
        subst h1
        subst h2
        obtain ⟨s2, s3, p1, p2, p3, p4, p5⟩ := (hV m (by omega)).2 s h4 h3
        have inner : lpF (fun (q22 : Int64 × Int32) => match q22 with
    | (x17, x18) =>
    if (6 : Int32) ≤ x18 then
      some (.inr x17)
    else
      bnd (((31 : Int64) * x17) + ((fX9_toldOf s3 x18).toInt64)) (fun x19 =>
      bnd (x18 + 1) (fun x20 =>
      some (.inl (x19, x20))))) (hs6 B V m, (0 : Int32)) = some (hs6 B V (m + 1)) := by
          rw [hs6_S]
          refine lpF_fx (fun k q => q = (hsh (hs6 B V m) (V m) k, nI k)) 6 ?_ ?_ (by decide) rfl
          · intro k q hk hq
            subst hq
            refine Or.inl ⟨_, ?_, rfl⟩
            show (if (6 : Int32) ≤ nI k then _ else _) = _
            rw [if_neg (by rw [show (6 : Int32) = nI 6 from rfl, leI (by decide) (by omega)]; omega), p5 k (by omega), bnd_eq, bnd_eq, nI_1, ← hsh_S]
          · intro q hq
            subst hq
            refine ⟨_, ?_, rfl⟩
            show (if (6 : Int32) ≤ nI 6 then _ else _) = _
            rw [if_pos (by decide)]
        refine Or.inl ⟨(hs6 B V (m + 1), nI (m + 1), s3), ?_, rfl, rfl, p3, h4.tr p4 (by decide)⟩
        show (if s (9, 0) 15 ≤ nI m then _ else _) = _
        rw [h4 (9, 0) 15 (by rw [cod_o (by decide)]; decide), e2, if_neg (by rw [leI (by omega) (by omega)]; omega), p1, obi_s, p2, obi_s, inner, obi_s, bnd_eq, nI_1]
      · rintro ⟨x, y, s⟩ ⟨h1, h2, h3, h4⟩
        replace h1 : x = hs6 B V nm := h1
        replace h2 : y = nI nm := h2
        replace h4 : modi DG σ s := h4
        subst h1
        subst h2
        refine ⟨(hs6 B V nm, s), ?_, hD, h3, h4⟩
        show (if s (9, 0) 15 ≤ nI nm then _ else _) = _
        rw [h4 (9, 0) 15 (by rw [cod_o (by decide)]; decide), e2, if_pos (by rw [i32_le]; omega)]
    obtain ⟨⟨x, s⟩, k1, k2, k3, k4⟩ := key
    replace k2 : x = D := k2
    subst k2
    exact ⟨s, k1, k3, k4⟩
  obtain ⟨t2, y3, dt2, mt2⟩ := y3
  obtain ⟨t8, y6, dt8, mt8⟩ := fM t2 dt2 mt2
  obtain ⟨t9, y7, dt9⟩ := pM t8 mt8 dt8
  have mt9 : modi DG σ t9 := mt8.tr (mX9_partsOf y7) (by decide)
  refine ⟨_, s5, t9, eX, ?_, hI.1.mv mt9 DG_Iv, dt9⟩
  unfold fX9_digest
  rw [y1, obi_s, y2, obi_s]
  show obi (lpF _ (B, (0 : Int32), t1)) _ = _
  rw [y3, obi_s]
  show obi (lpF (fun (q29 : Int64 × Int32) => match q29 with
  | (x22, x23) =>
  if (t2 (9, 0) 28) ≤ x23 then
    some (.inr x22)
  else
    grd (inb x23 12) (
    bnd (((31 : Int64) * x22) + ((t2 (44, 0) (tn x23)).toInt64)) (fun x24 =>
    grd (inb x23 12) (
    bnd (((31 : Int64) * x24) + ((t2 (45, 0) (tn x23)).toInt64)) (fun x25 =>
    bnd (x23 + 1) (fun x26 =>
    some (.inl (x25, x26)))))))) (D, (0 : Int32))) _ = _
  rw [clubs t2 (fun c => t2 (44, 0) c) (fun c => t2 (45, 0) c) (t2 (9, 0) 28) (by rw [mt2 (9, 0) 28 (by rw [cod_o (by decide)]; decide), n2]) (fun c hc => by
    obtain ⟨k, h, m', q1, -, -, z1, z2, z3, z4, -⟩ := club_x hI.1 hc
    refine ⟨?_, ?_⟩
    · show t2 (44, 0) c = _
      rw [mt2 (44, 0) c (by rw [cod_a (by decide)]; decide), z2, z1]
    · show t2 (45, 0) c = _
      rw [mt2 (45, 0) c (by rw [cod_a (by decide)]; decide), z4, z3]), obi_s, laws (fun k => t2 (47, 0) k) (fun k hk => by
    show t2 (47, 0) k = _
    rw [mt2 (47, 0) k (by rw [cod_a (by decide)]; decide)]
    exact (hI.1.2.2.1 k hk).symm), obi_s, y6, obi_s]
  show bnd ((31 : Int64) * F + fv.toInt64) _ = _
  rw [bnd_eq, y7, obi_s]
