set_option maxHeartbeats 1000000 in
theorem x_least {σ : St} (hI : Iv σ) {n a : Nat} (hn : n < 4096) (h0 : ¬ n = 0) (ha : a ≤ 99) (he : EP n n) : ∃ s, fX7_leastTogether σ (nI n) (nI a) = some (enc (DL (Wy σ) a 6 (nI n)), s) ∧ (∀ k, s (21, 0) k = σ (21, 0) k) ∧ ∀ z, z ≤ n → EP n z → s (22, 0) z = enc (DL (Wy σ) a 6 (nI z)) := by
  unfold fX7_leastTogether
  rw [bnd_eq]
  have key : ∃ s2, lpF (fun (q4 : Int32 × St) => match q4 with
  | (x1, σ3) =>
  if nI n < x1 then
    some (.inr σ3)
  else
    obi (if (fX7_isPart x1 (nI n)) = true then
      grd (inb x1 4096) (bnd (su σ3 (22, 0) (tn x1) (-1 : Int32)) (fun σ5 =>
      bnd (fJ6_numberOfTrailingZeros_0f7a4 x1) (fun x2 =>
      bnd (x2 + (1 : Int32)) (fun x3 =>
      lpF (fun (q13 : Int32 × St) => match q13 with
      | (x4, σ6) =>
      if (12 : Int32) ≤ x4 then
        some (.inr σ6)
      else
        obi (fX7_togetherWith σ6 x1 x2 x4 (nI a)) (fun x5 =>
        obi (if x5 = (-1 : Int32) then
          some σ6
        else
          grd (inb x1 4096) (
          bj (if (σ6 (22, 0) (tn x1)) = (-1 : Int32) then
            some (.inr ())
          else
            grd (inb x1 4096) (
            if (σ6 (22, 0) (tn x1)) ≤ x5 then
              some (.inl σ6)
            else
              some (.inr ()))) (fun _ =>
          grd (inb x1 4096) (bnd (su σ6 (22, 0) (tn x1) x5) (fun σ8 =>
          some σ8))))) (fun σ7 =>
        bnd (x4 + 1) (fun x6 =>
        some (.inl (x6, σ7)))))) (x3, σ5)))))
    else
      some σ3) (fun σ4 =>
    bnd (x1 + 1) (fun x7 =>
    some (.inl (x7, σ4))))) ((1 : Int32), su σ (22, 0) (tn (0 : Int32)) (0 : Int32)) = some s2 ∧ (∀ k, s2 (21, 0) k = σ (21, 0) k) ∧ ∀ z, z ≤ n → EP n z → s2 (22, 0) z = enc (DL (Wy σ) a 6 (nI z)) := by
    refine lpF_for (fun i q => q.1 = nI (i + 1) ∧ (∀ k, q.2 (21, 0) k = σ (21, 0) k) ∧ ∀ z, z ≤ i → EP n z → q.2 (22, 0) z = enc (DL (Wy σ) a 6 (nI z))) n ?_ ?_ (by omega) ⟨rfl, fun k => su_ref σ (r := (22, 0)) (r' := (21, 0)) 0 k 0 (by decide), fun z hz _ => ?_⟩
    · rintro i ⟨x, s⟩ hi ⟨rfl, h1, h2⟩
      replace h1 : ∀ k, s (21, 0) k = σ (21, 0) k := h1
      replace h2 : ∀ z, z ≤ i → EP n z → s (22, 0) z = enc (DL (Wy σ) a 6 (nI z)) := h2
      have hx : i + 1 < 4096 := by omega
      have nlt : ¬ nI n < nI (i + 1) := by rw [ltI (by omega) (by omega)]; omega
      by_cases c : EP n (i + 1)
      · obtain ⟨l1, l2, l3, l4⟩ := lo_ok hx (by omega)
        obtain ⟨i1, i2⟩ := inb4 hx
        have inner : lpF (fun (q13 : Int32 × St) => match q13 with
      | (x4, σ6) =>
      if (12 : Int32) ≤ x4 then
        some (.inr σ6)
      else
        obi (fX7_togetherWith σ6 (nI (i + 1)) (nI (lo (nI (i + 1)))) x4 (nI a)) (fun x5 =>
        obi (if x5 = (-1 : Int32) then
          some σ6
        else
          grd (inb (nI (i + 1)) 4096) (
          bj (if (σ6 (22, 0) (tn (nI (i + 1)))) = (-1 : Int32) then
            some (.inr ())
          else
            grd (inb (nI (i + 1)) 4096) (
            if (σ6 (22, 0) (tn (nI (i + 1)))) ≤ x5 then
              some (.inl σ6)
            else
              some (.inr ()))) (fun _ =>
          grd (inb (nI (i + 1)) 4096) (bnd (su σ6 (22, 0) (tn (nI (i + 1))) x5) (fun σ8 =>
          some σ8))))) (fun σ7 =>
        bnd (x4 + 1) (fun x6 =>
        some (.inl (x6, σ7)))))) (nI (lo (nI (i + 1)) + 1), su s (22, 0) (i + 1) (-1)) = some (su s (22, 0) (i + 1) (enc (LM (cD σ a (nI (i + 1))) 12))) := by
          refine lpF_fx (fun k q => q = (nI (lo (nI (i + 1)) + 1 + k), su s (22, 0) (i + 1) (enc (LM (cD σ a (nI (i + 1))) (lo (nI (i + 1)) + 1 + k))))) (11 - lo (nI (i + 1))) ?_ ?_ (by omega) ?_
          · intro k q hk hq
            subst hq
            refine Or.inl ⟨_, ?_, rfl⟩
            have hy : lo (nI (i + 1)) + 1 + k < 12 := by omega
            rw [← Nat.add_assoc]
            generalize hyy : lo (nI (i + 1)) + 1 + k = y at hy
            have nl : ¬ (12 : Int32) ≤ nI y := by rw [show (12 : Int32) = nI 12 from rfl, leI (by decide) (by omega)]; omega
            have tg := x_together (s := su s (22, 0) (i + 1) (enc (LM (cD σ a (nI (i + 1))) y))) hI (fun k => by rw [su_ref _ _ _ _ (by decide), h1]) hx (by omega) ha hy (show lo (nI (i + 1)) < y by omega) (fun r r1 r4 r3 => by
              rw [su_slot _ _ _ _ (by omega)]
              exact h2 r (by omega) (EP_r c r4 r3))
            have kp := x_keep (s := s) hx (cur := LM (cD σ a (nI (i + 1))) y) (c := cD σ a (nI (i + 1)) y) (fun v h => by have := LMc_le hI hx (by omega) ha h; omega) (fun v h => by have := cD_le hI hx (by omega) ha h; omega)
            show (if (12 : Int32) ≤ nI y then _ else _) = _
            rw [if_neg nl, tg, obi_s]
            show obi (if enc (cD σ a (nI (i + 1)) y) = (-1 : Int32) then _ else _) _ = _
            rw [kp, obi_s, bnd_eq, nI_1, LM_S]
          · intro q hq
            subst hq
            rw [show lo (nI (i + 1)) + 1 + (11 - lo (nI (i + 1))) = 12 by omega]
            refine ⟨_, ?_, rfl⟩
            show (if (12 : Int32) ≤ nI 12 then _ else _) = _
            rw [if_pos (by decide)]
          · rw [Nat.add_zero, LM_0 _ (fun k hk => (fD_0 (Or.inl (by omega))).2)]
            rfl
        refine Or.inl ⟨(nI (i + 1 + 1), su s (22, 0) (i + 1) (enc (LM (cD σ a (nI (i + 1))) 12))), ?_, rfl, fun k => ?_, fun z hz hE => ?_⟩
        · rw [i1, i2] at inner
          show (if nI n < nI (i + 1) then _ else _) = _
          rw [if_neg nlt, if_pos ((x_isPart hx).2 c), i1, grd_t, i2, bnd_eq, bnd_eq, bnd_eq, l2, nI_1, inner, obi_s, bnd_eq, nI_1]
        · show su s (22, 0) (i + 1) (enc (LM (cD σ a (nI (i + 1))) 12)) (21, 0) k = _
          rw [su_ref _ _ _ _ (by decide), h1]
        · show su s (22, 0) (i + 1) (enc (LM (cD σ a (nI (i + 1))) 12)) (22, 0) z = _
          by_cases cz : z = i + 1
          · rw [cz, su_hit, (D_eq hx (by omega)).2]
          · rw [su_slot _ _ _ _ cz, h2 z (by omega) hE]
      · refine Or.inl ⟨(nI (i + 1 + 1), s), ?_, rfl, h1, fun z hz hE => ?_⟩
        · show (if nI n < nI (i + 1) then _ else _) = _
          rw [if_neg nlt, if_neg (fun e => c ((x_isPart hx).1 e)), obi_s, bnd_eq, nI_1]
        · by_cases cz : z = i + 1
          · subst cz; exact absurd hE c
          · exact h2 z (by omega) hE
    · rintro ⟨x, s⟩ ⟨rfl, h1, h2⟩
      refine ⟨s, ?_, h1, h2⟩
      show (if nI n < nI (n + 1) then _ else _) = _
      rw [if_pos (by rw [ltI (by omega) (by omega)]; omega)]
    · have : z = 0 := by omega
      subst this
      show su σ (22, 0) 0 0 (22, 0) 0 = _
      rw [su_hit]
      rfl
  obtain ⟨s2, e, e2, e3⟩ := key
  refine ⟨s2, ?_, e2, e3⟩
  rw [e, obi_s, (inb4 hn).1, grd_t, (inb4 hn).2, e3 n (Nat.le_refl _) he]
