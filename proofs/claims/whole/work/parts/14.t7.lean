theorem enc_inj {x y : Option Nat} (h1 : ∀ v, x = some v → v < 2 ^ 30) (h2 : ∀ v, y = some v → v < 2 ^ 30) : enc x = enc y ↔ x = y := by
  constructor
  · intro e
    cases x with
    | none =>
      cases y with
      | none => rfl
      | some v => exact absurd e.symm (enc_m1 (by have := h2 v rfl; omega))
    | some u =>
      cases y with
      | none => exact absurd e (enc_m1 (by have := h1 u rfl; omega))
      | some v =>
        have := h1 u rfl
        have := h2 v rfl
        rw [(nI_eq (a := u) (b := v) (by omega) (by omega)).1 e]
  · intro e
    rw [e]
set_option maxHeartbeats 1000000 in
theorem m_isMate {σ s : St} (hI : Iv σ) (h48 : ∀ k, s (48, 0) k = σ (48, 0) k) {z a y : Nat} (hz : z < 4096) (h0 : ¬ z = 0) (ha : a ≤ 99) (hy : y < 12) (hl : lo (nI z) < y) {u : Nat} (hu : DL (Wy σ) a 6 (nI z) = some u) (e50 : s (50, 0) z = nI u) (h49 : ∀ r, r < z → sb (nI r) (nI z) → pcn (nI r) 17 + 2 = pcn (nI z) 17 → s (49, 0) r = nI (DN (Wy σ) a 6 (nI r)) ∧ s (50, 0) r = enc (DL (Wy σ) a 6 (nI r))) : (cD σ a (nI z) y = some u → fX9_isMate s (nI z) (nI (lo (nI z))) (nI y) (nI a) = some true) ∧ (¬ cD σ a (nI z) y = some u → fX9_isMate s (nI z) (nI (lo (nI z))) (nI y) (nI a) = some false) := by
  obtain ⟨l1, l2, l3, l4⟩ := lo_ok hz h0
  obtain ⟨w1, -, w3⟩ := way_at hI l1 hy (show ¬ lo (nI z) = y by omega)
  have b1 := bit_iff (nI z) (show y < 17 by omega)
  have bu := DL_le ha 6 _ u hu
  unfold fX9_isMate
  rw [bnd_eq, show nI z &&& ((((1 : Int32) <<< (nI (lo (nI z)) &&& 31)) ||| ((1 : Int32) <<< (nI y &&& 31))) ^^^ (-1 : Int32)) = rst (nI z) (lo (nI z)) y from rfl, (ix12 _ _).2, (in144m l1 hy).1, (in144m l1 hy).2, h48, w3, grd_t]
  by_cases c : bt (nI z) y = true
  case neg =>
    rw [if_neg (fun e => c (b1.1 e)), (fD_0 (Or.inr (by simpa using c))).2]
    exact ⟨fun e => (by cases e), fun _ => rfl⟩
  rw [if_pos (b1.2 c)]
  by_cases d : a < Wy σ (lo (nI z)) y
  · rw [if_pos (by rw [ltI (by omega) (by omega)]; exact d)]
    have hm : mtB (Wy σ) a (nI z) y = false := by
      simp [mtB]
      intro _ _
      exact d
    have : cD σ a (nI z) y = none := by unfold cD; rw [hm]; rfl
    rw [this]
    exact ⟨fun e => (by cases e), fun _ => rfl⟩
  · rw [if_neg (by rw [ltI (by omega) (by omega)]; exact d)]
    have hm : mtB (Wy σ) a (nI z) y = true := by
      simp [mtB]
      exact ⟨hl, c, by omega⟩
    obtain ⟨m1, m2, m3, r, r1, r2, r3, r4⟩ := mt_ok hz h0 hy hm
    obtain ⟨i1, i2⟩ := inb4 (show r < 4096 by omega)
    obtain ⟨j1, j2⟩ := inb4 hz
    obtain ⟨e49, e50'⟩ := h49 r r1 r4 r3
    have bD := DN_le (Wy σ) a 6 (nI r)
    have p6 : 12 ^ 6 = 2985984 := by decide
    have cy : cD σ a (nI z) y = (DL (Wy σ) a 6 (nI r)).map (· + Wy σ (lo (nI z)) y) := by unfold cD; rw [hm, r2]; rfl
    rw [r2, i1, i2, grd_t, e49, e50', cy]
    by_cases q : DN (Wy σ) a 6 (nI r) = 0
    · rw [q, if_pos (by decide)]
      cases hd : DL (Wy σ) a 6 (nI r) with
      | none => exact ⟨fun e => (by cases e), fun _ => rfl⟩
      | some v =>
        have := (DN_DL 6 (nI r)).2 ⟨v, hd⟩
        omega
    · obtain ⟨v, hv⟩ := (DN_DL (W := Wy σ) (a := a) 6 (nI r)).1 (by omega)
      have bv := DL_le ha 6 _ v hv
      have pz : ¬ nI (DN (Wy σ) a 6 (nI r)) ≤ 0 := by
        rw [show (0 : Int32) = nI 0 from rfl, leI (by omega) (by omega)]
        omega
      rw [if_neg pz, grd_t, grd_t, j1, j2, grd_t, e50, hv, show enc (some v) = nI v from rfl, nI_add]
      by_cases g : v + Wy σ (lo (nI z)) y = u
      · rw [if_pos (by rw [g])]
        exact ⟨fun _ => rfl, fun w => absurd (congrArg some g) w⟩
      · rw [if_neg (fun e => g ((nI_eq (by omega) (by omega)).1 e))]
        exact ⟨fun w => absurd (Option.some.inj w) g, fun _ => rfl⟩
/-- the first mate that makes the least -/
theorem mate_first {σ : St} (hI : Iv σ) {z a u : Nat} (hz : z < 4096) (h0 : ¬ z = 0) (ha : a ≤ 99) (hu : DL (Wy σ) a 6 (nI z) = some u) : ∃ k, lo (nI z) < k ∧ k < 12 ∧ cD σ a (nI z) k = some u ∧ ∀ j, lo (nI z) < j → j < k → ¬ cD σ a (nI z) j = some u := by
  rw [(D_eq hz h0).2] at hu
  obtain ⟨y, y1, y2⟩ := LM_mem 12 u hu
  have hy : lo (nI z) < y := by
    by_cases c : lo (nI z) < y
    · exact c
    · rw [(fD_0 (Or.inl (by omega))).2] at y2
      cases y2
  obtain ⟨k, ⟨k1, k2, k3⟩, k4⟩ := pk_least (fun y => lo (nI z) < y ∧ y < 12 ∧ cD σ a (nI z) y = some u) ⟨y, hy, y1, y2⟩
  exact ⟨k, k1, k2, k3, fun j h1 h2 e => k4 j h2 ⟨h1, by omega, e⟩⟩
theorem x_mateIn {σ s : St} (hI : Iv σ) (h21 : ∀ k, s (21, 0) k = σ (21, 0) k) {z a u k : Nat} (hz : z < 4096) (h0 : ¬ z = 0) (ha : a ≤ 99) (hu : DL (Wy σ) a 6 (nI z) = some u) (e22 : s (22, 0) z = nI u) (h22 : ∀ r, r < z → sb (nI r) (nI z) → pcn (nI r) 17 + 2 = pcn (nI z) 17 → s (22, 0) r = enc (DL (Wy σ) a 6 (nI r))) (k1 : lo (nI z) < k) (k2 : k < 12) (k3 : cD σ a (nI z) k = some u) (k4 : ∀ j, lo (nI z) < j → j < k → ¬ cD σ a (nI z) j = some u) : lpF (fun (q9 : Int32) => match q9 with
      | x6 =>
      if (11 : Int32) ≤ x6 then
        some (.inr x6)
      else
        obi (fX7_togetherWith s (nI z) (nI (lo (nI z))) x6 (nI a)) (fun x7 =>
        grd (inb (nI z) 4096) (
        if x7 = (s (22, 0) (tn (nI z))) then
          some (.inr x6)
        else
          bnd (x6 + 1) (fun x8 =>
          some (.inl x8))))) (nI (lo (nI z) + 1)) = some (nI k) := by
  have bu := DL_le ha 6 _ u hu
  have tg : ∀ y, lo (nI z) < y → y < 12 → fX7_togetherWith s (nI z) (nI (lo (nI z))) (nI y) (nI a) = some (enc (cD σ a (nI z) y)) := fun y h1 h2 => x_together hI h21 hz h0 ha h2 h1 h22
  have ei : ∀ y, enc (cD σ a (nI z) y) = nI u ↔ cD σ a (nI z) y = some u := fun y => enc_inj (y := some u) (fun v h => by have := cD_le hI hz h0 ha h; omega) (fun v h => by cases h; omega)
  refine lpF_fx (fun i q => q = nI (lo (nI z) + 1 + i)) (k - (lo (nI z) + 1)) ?_ ?_ (by omega) rfl
  · intro i q hi hq
    subst hq
    refine Or.inl ⟨_, ?_, rfl⟩
    rw [← Nat.add_assoc]
    generalize hy : lo (nI z) + 1 + i = y at *
    show (if (11 : Int32) ≤ nI y then _ else _) = _
    rw [if_neg (by rw [show (11 : Int32) = nI 11 from rfl, leI (by decide) (by omega)]; omega), tg y (by omega) (by omega), obi_s, (inb4 hz).1, grd_t, (inb4 hz).2, e22, if_neg (fun e => k4 y (by omega) (by omega) ((ei y).1 e)), bnd_eq, nI_1]
  · intro q hq
    subst hq
    rw [show lo (nI z) + 1 + (k - (lo (nI z) + 1)) = k by omega]
    refine ⟨_, ?_, rfl⟩
    show (if (11 : Int32) ≤ nI k then _ else _) = _
    by_cases c : 11 ≤ k
    · rw [if_pos (by rw [show (11 : Int32) = nI 11 from rfl, leI (by decide) (by omega)]; omega)]
    · rw [if_neg (by rw [show (11 : Int32) = nI 11 from rfl, leI (by decide) (by omega)]; omega), tg k k1 k2, obi_s, (inb4 hz).1, grd_t, (inb4 hz).2, e22, if_pos ((ei k).2 k3)]
theorem m_mateIn {σ s : St} (hI : Iv σ) (h48 : ∀ k, s (48, 0) k = σ (48, 0) k) {z a u k : Nat} (hz : z < 4096) (h0 : ¬ z = 0) (ha : a ≤ 99) (hu : DL (Wy σ) a 6 (nI z) = some u) (e50 : s (50, 0) z = nI u) (h49 : ∀ r, r < z → sb (nI r) (nI z) → pcn (nI r) 17 + 2 = pcn (nI z) 17 → s (49, 0) r = nI (DN (Wy σ) a 6 (nI r)) ∧ s (50, 0) r = enc (DL (Wy σ) a 6 (nI r))) (k1 : lo (nI z) < k) (k2 : k < 12) (k3 : cD σ a (nI z) k = some u) (k4 : ∀ j, lo (nI z) < j → j < k → ¬ cD σ a (nI z) j = some u) : lpF (fun (q16 : Int32) => match q16 with
            | x8 =>
            obi (fX9_isMate s (nI z) (nI (lo (nI z))) x8 (nI a)) (fun x9 =>
            if x9 = true then
              some (.inr x8)
            else
              bnd (x8 + 1) (fun x10 =>
              some (.inl x10)))) (nI (lo (nI z) + 1)) = some (nI k) := by
  refine lpF_fx (fun i q => q = nI (lo (nI z) + 1 + i)) (k - (lo (nI z) + 1)) ?_ ?_ (by omega) rfl
  · intro i q hi hq
    subst hq
    refine Or.inl ⟨_, ?_, rfl⟩
    rw [← Nat.add_assoc]
    generalize hy : lo (nI z) + 1 + i = y at *
    show obi (fX9_isMate s (nI z) (nI (lo (nI z))) (nI y) (nI a)) _ = _
    rw [(m_isMate hI h48 hz h0 ha (show y < 12 by omega) (by omega) hu e50 h49).2 (k4 y (by omega) (by omega)), obi_s, if_neg (by decide), bnd_eq, nI_1]
  · intro q hq
    subst hq
    rw [show lo (nI z) + 1 + (k - (lo (nI z) + 1)) = k by omega]
    refine ⟨_, ?_, rfl⟩
    show obi (fX9_isMate s (nI z) (nI (lo (nI z))) (nI k) (nI a)) _ = _
    rw [(m_isMate hI h48 hz h0 ha k2 k1 hu e50 h49).1 k3, obi_s, if_pos rfl]
