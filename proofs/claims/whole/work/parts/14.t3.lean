set_option maxHeartbeats 1000000 in
theorem x_count {σ : St} (hI : Iv σ) {n a : Nat} (hn : n < 4096) (h0 : ¬ n = 0) (ha : a ≤ 99) (he : EP n n) : ∃ s, fX7_countDraws σ (nI n) (nI a) = some (nI (DN (Wy σ) a 6 (nI n)), s) := by
  unfold fX7_countDraws
  rw [bnd_eq]
  have key : ∃ s2, lpF (fun (q4 : Int32 × St) => match q4 with
  | (x1, σ3) =>
  if nI n < x1 then
    some (.inr σ3)
  else
    obi (if (fX7_isPart x1 (nI n)) = true then
      bnd (fJ6_numberOfTrailingZeros_0f7a4 x1) (fun x2 =>
      bnd (x2 + (1 : Int32)) (fun x3 =>
      obi (lpF (fun (q12 : Int32 × Int32) => match q12 with
      | (x5, x6) =>
      if (12 : Int32) ≤ x6 then
        some (.inr x5)
      else
        obi (fX7_canMeet σ3 x1 x2 x6 (nI a)) (fun x7 =>
        obi (if x7 = true then
          grd (inb ((x1 ^^^ ((1 : Int32) <<< (x2 &&& 31))) ^^^ ((1 : Int32) <<< (x6 &&& 31))) 4096) (
          bnd (x5 + (σ3 (22, 0) (tn ((x1 ^^^ ((1 : Int32) <<< (x2 &&& 31))) ^^^ ((1 : Int32) <<< (x6 &&& 31)))))) (fun x9 =>
          some x9))
        else
          some x5) (fun x8 =>
        bnd (x6 + 1) (fun x10 =>
        some (.inl (x8, x10)))))) ((0 : Int32), x3)) (fun x4 =>
      grd (inb x1 4096) (bnd (su σ3 (22, 0) (tn x1) x4) (fun σ5 =>
      some σ5)))))
    else
      some σ3) (fun σ4 =>
    bnd (x1 + 1) (fun x11 =>
    some (.inl (x11, σ4))))) ((1 : Int32), su σ (22, 0) (tn (0 : Int32)) (1 : Int32)) = some s2 ∧ s2 (22, 0) n = nI (DN (Wy σ) a 6 (nI n)) := by
    refine lpF_for (fun i q => q.1 = nI (i + 1) ∧ (∀ k, q.2 (21, 0) k = σ (21, 0) k) ∧ ∀ z, z ≤ i → EP n z → q.2 (22, 0) z = nI (DN (Wy σ) a 6 (nI z))) n ?_ ?_ (by omega) ⟨rfl, fun k => su_ref σ (r := (22, 0)) (r' := (21, 0)) 0 k 1 (by decide), fun z hz _ => ?_⟩
    · rintro i ⟨x, s⟩ hi ⟨rfl, h1, h2⟩
      replace h1 : ∀ k, s (21, 0) k = σ (21, 0) k := h1
      replace h2 : ∀ z, z ≤ i → EP n z → s (22, 0) z = nI (DN (Wy σ) a 6 (nI z)) := h2
      have hx : i + 1 < 4096 := by omega
      have nlt : ¬ nI n < nI (i + 1) := by rw [ltI (by omega) (by omega)]; omega
      by_cases c : EP n (i + 1)
      · obtain ⟨l1, l2, l3, l4⟩ := lo_ok hx (by omega)
        obtain ⟨i1, i2⟩ := inb4 hx
        have inner : lpF (fun (q12 : Int32 × Int32) => match q12 with
      | (x5, x6) =>
      if (12 : Int32) ≤ x6 then
        some (.inr x5)
      else
        obi (fX7_canMeet s (nI (i + 1)) (nI (lo (nI (i + 1)))) x6 (nI a)) (fun x7 =>
        obi (if x7 = true then
          grd (inb ((nI (i + 1) ^^^ ((1 : Int32) <<< (nI (lo (nI (i + 1))) &&& 31))) ^^^ ((1 : Int32) <<< (x6 &&& 31))) 4096) (
          bnd (x5 + (s (22, 0) (tn ((nI (i + 1) ^^^ ((1 : Int32) <<< (nI (lo (nI (i + 1))) &&& 31))) ^^^ ((1 : Int32) <<< (x6 &&& 31)))))) (fun x9 =>
          some x9))
        else
          some x5) (fun x8 =>
        bnd (x6 + 1) (fun x10 =>
        some (.inl (x8, x10)))))) ((0 : Int32), nI (lo (nI (i + 1)) + 1)) = some (nI (smN (fD σ a (nI (i + 1))) 12)) := by
          refine lpF_fx (fun k q => q = (nI (smN (fD σ a (nI (i + 1))) (lo (nI (i + 1)) + 1 + k)), nI (lo (nI (i + 1)) + 1 + k))) (11 - lo (nI (i + 1))) ?_ ?_ (by omega) ?_
          · intro k q hk hq
            subst hq
            refine Or.inl ⟨_, ?_, rfl⟩
            have hy : lo (nI (i + 1)) + 1 + k < 12 := by omega
            generalize hyy : lo (nI (i + 1)) + 1 + k = y at hy
            have nl : ¬ (12 : Int32) ≤ nI y := by rw [show (12 : Int32) = nI 12 from rfl, leI (by decide) (by omega)]; omega
            have cm := x_canMeet hI h1 hx (by omega) ha hy (show lo (nI (i + 1)) < y by omega)
            show (if (12 : Int32) ≤ nI y then _ else _) = _
            rw [if_neg nl, cm, obi_s, ← Nat.add_assoc, hyy, smN_S]
            cases hm : mtB (Wy σ) a (nI (i + 1)) y with
            | false =>
              have f0 : fD σ a (nI (i + 1)) y = 0 := by unfold fD; rw [hm]; rfl
              rw [if_neg (by decide), obi_s, bnd_eq, nI_1, f0, Nat.add_zero (smN (fD σ a (nI (i + 1))) y)]
            | true =>
              obtain ⟨m1, m2, m3, r, r1, r2, r3, r4⟩ := mt_ok hx (by omega) hy hm
              have f0 : fD σ a (nI (i + 1)) y = DN (Wy σ) a 6 (nI r) := by unfold fD; rw [hm, r2]; rfl
              rw [if_pos rfl, rst_x (by omega) (by omega) (by omega) l3 m2, r2, (inb4 (show r < 4096 by omega)).1, grd_t, (inb4 (show r < 4096 by omega)).2, h2 r (by omega) (EP_r c r4 r3), bnd_eq, obi_s, bnd_eq, nI_1, f0, nI_add]
          · intro q hq
            subst hq
            rw [show lo (nI (i + 1)) + 1 + (11 - lo (nI (i + 1))) = 12 by omega]
            refine ⟨_, ?_, rfl⟩
            show (if (12 : Int32) ≤ nI 12 then _ else _) = _
            rw [if_pos (by decide)]
          · rw [Nat.add_zero, smN_0 _ (fun k hk => (fD_0 (Or.inl (by omega))).1)]
            rfl
        refine Or.inl ⟨(nI (i + 1 + 1), su s (22, 0) (i + 1) (nI (smN (fD σ a (nI (i + 1))) 12))), ?_, rfl, fun k => ?_, fun z hz hE => ?_⟩
        · show (if nI n < nI (i + 1) then _ else _) = _
          rw [if_neg nlt, if_pos ((x_isPart hx).2 c), bnd_eq, bnd_eq, l2, nI_1, inner, obi_s, i1, grd_t, i2, bnd_eq, obi_s, bnd_eq, nI_1]
        · show su s (22, 0) (i + 1) (nI (smN (fD σ a (nI (i + 1))) 12)) (21, 0) k = _
          rw [su_ref _ _ _ _ (by decide), h1]
        · show su s (22, 0) (i + 1) (nI (smN (fD σ a (nI (i + 1))) 12)) (22, 0) z = _
          by_cases cz : z = i + 1
          · rw [cz, su_hit, (D_eq hx (by omega)).1]
          · rw [su_slot _ _ _ _ cz, h2 z (by omega) hE]
      · refine Or.inl ⟨(nI (i + 1 + 1), s), ?_, rfl, h1, fun z hz hE => ?_⟩
        · show (if nI n < nI (i + 1) then _ else _) = _
          rw [if_neg nlt, if_neg (fun e => c ((x_isPart hx).1 e)), obi_s, bnd_eq, nI_1]
        · by_cases cz : z = i + 1
          · subst cz; exact absurd hE c
          · exact h2 z (by omega) hE
    · rintro ⟨x, s⟩ ⟨rfl, h1, h2⟩
      refine ⟨s, ?_, h2 n (Nat.le_refl _) he⟩
      show (if nI n < nI (n + 1) then _ else _) = _
      rw [if_pos (by rw [ltI (by omega) (by omega)]; omega)]
    · have : z = 0 := by omega
      subst this
      show su σ (22, 0) 0 1 (22, 0) 0 = _
      rw [su_hit]
      rfl
  obtain ⟨s2, e, e2⟩ := key
  refine ⟨s2, ?_⟩
  rw [e, obi_s, (inb4 hn).1, grd_t, (inb4 hn).2, e2]
theorem x_together {σ s : St} (hI : Iv σ) (h21 : ∀ k, s (21, 0) k = σ (21, 0) k) {n a y : Nat} (hn : n < 4096) (h0 : ¬ n = 0) (ha : a ≤ 99) (hy : y < 12) (hl : lo (nI n) < y) (h22 : ∀ r, r < n → sb (nI r) (nI n) → pcn (nI r) 17 + 2 = pcn (nI n) 17 → s (22, 0) r = enc (DL (Wy σ) a 6 (nI r))) : fX7_togetherWith s (nI n) (nI (lo (nI n))) (nI y) (nI a) = some (enc (cD σ a (nI n) y)) := by
  obtain ⟨l1, l2, l3, l4⟩ := lo_ok hn h0
  unfold fX7_togetherWith
  rw [x_canMeet hI h21 hn h0 ha hy hl, obi_s]
  cases hm : mtB (Wy σ) a (nI n) y with
  | false =>
    rw [if_neg (by decide)]
    unfold cD
    rw [hm]
    rfl
  | true =>
    obtain ⟨m1, m2, m3, r, r1, r2, r3, r4⟩ := mt_ok hn h0 hy hm
    obtain ⟨w1, w2, -⟩ := way_at hI l1 hy (show ¬ lo (nI n) = y by omega)
    rw [if_pos rfl, rst_x (by omega) (by omega) (by omega) l3 m2, r2, (inb4 (show r < 4096 by omega)).1, grd_t, bnd_eq, (inb4 (show r < 4096 by omega)).2, h22 r r1 r4 r3]
    unfold cD
    rw [hm, r2, if_pos rfl]
    cases hd : DL (Wy σ) a 6 (nI r) with
    | none => rw [if_pos (show enc none = -1 from rfl)]; rfl
    | some v =>
      have hv := DL_le ha 6 _ v hd
      show (if nI v = -1 then _ else _) = _
      rw [if_neg (enc_m1 (by omega)), (ix12 _ _).1, (in144 l1 hy).1, grd_t, (in144 l1 hy).2, h21, w2]
      show some (nI v + _) = some (nI (v + _))
      rw [nI_add]
theorem x_keep {s : St} {n : Nat} (hn : n < 4096) {cur c : Option Nat} (h1 : ∀ v, cur = some v → v < 2 ^ 30) (h2 : ∀ v, c = some v → v < 2 ^ 30) : (if enc c = (-1 : Int32) then
          some (su s (22, 0) n (enc cur))
        else
          grd (inb (nI n) 4096) (
          bj (if (su s (22, 0) n (enc cur) (22, 0) (tn (nI n))) = (-1 : Int32) then
            some (.inr ())
          else
            grd (inb (nI n) 4096) (
            if (su s (22, 0) n (enc cur) (22, 0) (tn (nI n))) ≤ enc c then
              some (.inl (su s (22, 0) n (enc cur)))
            else
              some (.inr ()))) (fun _ =>
          grd (inb (nI n) 4096) (bnd (su (su s (22, 0) n (enc cur)) (22, 0) (tn (nI n)) (enc c)) (fun σ8 =>
          some σ8))))) = some (su s (22, 0) n (enc (omin cur c))) := by
  rw [(inb4 hn).1, (inb4 hn).2, grd_t, grd_t, grd_t, su_hit, bnd_eq, su_su]
  cases c with
  | none => rw [if_pos (show enc none = -1 from rfl), omin_n]
  | some v =>
    have b := h2 v rfl
    rw [show enc (some v) = nI v from rfl, if_neg (enc_m1 (by omega))]
    cases cur with
    | none =>
      rw [show enc none = -1 from rfl, if_pos rfl, bj_sr]
      rfl
    | some u =>
      have b' := h1 u rfl
      rw [show enc (some u) = nI u from rfl, if_neg (enc_m1 (by omega))]
      by_cases d : u ≤ v
      · rw [if_pos (by rw [leI (by omega) (by omega)]; exact d), bj_sl]
        show _ = some (su s (22, 0) n (nI (if u ≤ v then u else v)))
        rw [if_pos d]
      · rw [if_neg (by rw [leI (by omega) (by omega)]; exact d), bj_sr]
        show _ = some (su s (22, 0) n (nI (if u ≤ v then u else v)))
        rw [if_neg d]
theorem cD_le {σ : St} (hI : Iv σ) {a n : Nat} (hn : n < 4096) (h0 : ¬ n = 0) (ha : a ≤ 99) {y v : Nat} (h : cD σ a (nI n) y = some v) : v ≤ 700 := by
  unfold cD at h
  by_cases hm : mtB (Wy σ) a (nI n) y = true
  · rw [if_pos hm] at h
    cases hd : DL (Wy σ) a 6 (rst (nI n) (lo (nI n)) y) with
    | none => rw [hd] at h; cases h
    | some u =>
      rw [hd] at h
      have h' : u + Wy σ (lo (nI n)) y = v := Option.some.inj h
      have := DL_le ha 6 _ u hd
      simp only [mtB, Bool.and_eq_true, decide_eq_true_eq] at hm
      omega
  · rw [if_neg hm] at h
    cases h
theorem LMc_le {σ : St} (hI : Iv σ) {a n : Nat} (hn : n < 4096) (h0 : ¬ n = 0) (ha : a ≤ 99) {N v : Nat} (h : LM (cD σ a (nI n)) N = some v) : v ≤ 700 := LM_le (fun _ _ h => cD_le hI hn h0 ha h) N v h
