def prS (x1 x3 a2 x5 : Int32) (σ7 : St) : Option St :=
          bnd (x1 &&& ((((1 : Int32) <<< (x3 &&& 31)) ||| ((1 : Int32) <<< (x5 &&& 31))) ^^^ (-1 : Int32))) (fun x6 =>
          (if ((x1 >>> (x5 &&& 31)) &&& (1 : Int32)) = (1 : Int32) then
            grd (inb (((12 : Int32) * x3) + x5) 144) (
            if a2 < (σ7 (48, 0) (tn (((12 : Int32) * x3) + x5))) then
              some σ7
            else
              grd (inb x6 4096) (
              if (σ7 (49, 0) (tn x6)) ≤ 0 then
                some σ7
              else
                grd (inb x6 4096) (
                grd (inb (((12 : Int32) * x3) + x5) 144) (
                bnd ((σ7 (50, 0) (tn x6)) + (σ7 (48, 0) (tn (((12 : Int32) * x3) + x5)))) (fun x7 =>
                grd (inb x1 4096) (
                grd (inb x6 4096) (
                grd (inb x1 4096) (bnd (su σ7 (49, 0) (tn x1) ((σ7 (49, 0) (tn x1)) + (σ7 (49, 0) (tn x6)))) (fun σ9 =>
                grd (inb x1 4096) (
                obi (if (σ9 (50, 0) (tn x1)) = (-1 : Int32) then
                  some x7
                else
                  grd (inb x1 4096) (
                  if (σ9 (50, 0) (tn x1)) ≤ x7 then
                    grd (inb x1 4096) (
                    some (σ9 (50, 0) (tn x1)))
                  else
                    some x7)) (fun x8 =>
                grd (inb x1 4096) (bnd (su σ9 (50, 0) (tn x1) x8) (fun σ10 =>
                some σ10)))))))))))))
          else
            some σ7))
def prB (x1 x3 a2 : Int32) : Int32 × St → Option ((Int32 × St) ⊕ St) := fun (q18 : Int32 × St) => match q18 with
        | (x5, σ7) =>
        if (σ7 (9, 0) 28) ≤ x5 then
          some (.inr σ7)
        else
          bnd (x1 &&& ((((1 : Int32) <<< (x3 &&& 31)) ||| ((1 : Int32) <<< (x5 &&& 31))) ^^^ (-1 : Int32))) (fun x6 =>
          obi (if ((x1 >>> (x5 &&& 31)) &&& (1 : Int32)) = (1 : Int32) then
            grd (inb (((12 : Int32) * x3) + x5) 144) (
            if a2 < (σ7 (48, 0) (tn (((12 : Int32) * x3) + x5))) then
              some σ7
            else
              grd (inb x6 4096) (
              if (σ7 (49, 0) (tn x6)) ≤ 0 then
                some σ7
              else
                grd (inb x6 4096) (
                grd (inb (((12 : Int32) * x3) + x5) 144) (
                bnd ((σ7 (50, 0) (tn x6)) + (σ7 (48, 0) (tn (((12 : Int32) * x3) + x5)))) (fun x7 =>
                grd (inb x1 4096) (
                grd (inb x6 4096) (
                grd (inb x1 4096) (bnd (su σ7 (49, 0) (tn x1) ((σ7 (49, 0) (tn x1)) + (σ7 (49, 0) (tn x6)))) (fun σ9 =>
                grd (inb x1 4096) (
                obi (if (σ9 (50, 0) (tn x1)) = (-1 : Int32) then
                  some x7
                else
                  grd (inb x1 4096) (
                  if (σ9 (50, 0) (tn x1)) ≤ x7 then
                    grd (inb x1 4096) (
                    some (σ9 (50, 0) (tn x1)))
                  else
                    some x7)) (fun x8 =>
                grd (inb x1 4096) (bnd (su σ9 (50, 0) (tn x1) x8) (fun σ10 =>
                some σ10)))))))))))))
          else
            some σ7) (fun σ8 =>
          bnd (x5 + 1) (fun x9 =>
          some (.inl (x9, σ8)))))
theorem prB_at (x1 x3 a2 x5 : Int32) (σ7 : St) : prB x1 x3 a2 (x5, σ7) = (if (σ7 (9, 0) 28) ≤ x5 then
          some (.inr σ7)
        else
          obi (prS x1 x3 a2 x5 σ7) (fun σ8 =>
          bnd (x5 + 1) (fun x9 =>
          some (.inl (x9, σ8))))) := rfl
def prO (a1 a2 : Int32) : Int32 × St → Option ((Int32 × St) ⊕ St) := fun (q5 : Int32 × St) => match q5 with
  | (x1, σ3) =>
  if ((1 : Int32) <<< ((σ3 (9, 0) 28) &&& 31)) ≤ x1 then
    some (.inr σ3)
  else
    grd (inb x1 4096) (bnd (su σ3 (49, 0) (tn x1) (0 : Int32)) (fun σ4 =>
    grd (inb x1 4096) (bnd (su σ4 (50, 0) (tn x1) (-1 : Int32)) (fun σ5 =>
    obi (if (x1 &&& (a1 ^^^ (-1 : Int32))) = 0 then
      obi (fX9_ones x1) (fun x2 =>
      if (irm x2 (2 : Int32)) = 0 then
        obi (fX9_lowest x1) (fun x3 =>
        bnd (x3 + (1 : Int32)) (fun x4 =>
        lpF (prB x1 x3 a2) (x4, σ5)))
      else
        some σ5)
    else
      some σ5) (fun σ6 =>
    bnd (x1 + 1) (fun x10 =>
    some (.inl (x10, σ6))))))))
theorem pairs_eq (σ : St) (a1 a2 : Int32) : fX9_pairs σ a1 a2 = lpF (prO a1 a2) ((1 : Int32), su (su σ (49, 0) (tn (0 : Int32)) (1 : Int32)) (50, 0) (tn (0 : Int32)) (0 : Int32)) := by
  unfold fX9_pairs
  rw [bnd_eq, bnd_eq]
  rfl
theorem su_two (σ : St) (n : Nat) (A B A' B' : Int32) : su (su (su (su σ (49, 0) n A) (50, 0) n B) (49, 0) n A') (50, 0) n B' = su (su σ (49, 0) n A') (50, 0) n B' := by
  funext r k
  simp only [su_app]
  by_cases c1 : r = (50, 0) ∧ k = n
  · simp [c1]
  · by_cases c2 : r = (49, 0) ∧ k = n
    · simp [c1, c2]
    · simp [c1, c2]
theorem in144m {a b : Nat} (ha : a < 12) (hb : b < 12) : inb (nI (12 * a + b)) 144 = true ∧ tn (nI (12 * a + b)) = 12 * a + b := by
  rw [inb_nI (by omega), tn_nI (by omega)]
  simp
  omega
set_option maxHeartbeats 1000000 in
theorem m_prS {σ s : St} (hI : Iv σ) (h48 : ∀ k, s (48, 0) k = σ (48, 0) k) {n a y : Nat} (hn : n < 4096) (h0 : ¬ n = 0) (ha : a ≤ 99) (hy : y < 12) (hl : lo (nI n) < y) (h49 : ∀ r, r < n → sb (nI r) (nI n) → pcn (nI r) 17 + 2 = pcn (nI n) 17 → s (49, 0) r = nI (DN (Wy σ) a 6 (nI r)) ∧ s (50, 0) r = enc (DL (Wy σ) a 6 (nI r))) : prS (nI n) (nI (lo (nI n))) (nI a) (nI y) (su (su s (49, 0) n (nI (smN (fD σ a (nI n)) y))) (50, 0) n (enc (LM (cD σ a (nI n)) y))) = some (su (su s (49, 0) n (nI (smN (fD σ a (nI n)) (y + 1)))) (50, 0) n (enc (LM (cD σ a (nI n)) (y + 1)))) := by
  obtain ⟨l1, l2, l3, l4⟩ := lo_ok hn h0
  obtain ⟨w1, -, w3⟩ := way_at hI l1 hy (show ¬ lo (nI n) = y by omega)
  have b1 := bit_iff (nI n) (show y < 17 by omega)
  have same : fD σ a (nI n) y = 0 → cD σ a (nI n) y = none → some (su (su s (49, 0) n (nI (smN (fD σ a (nI n)) y))) (50, 0) n (enc (LM (cD σ a (nI n)) y))) = some (su (su s (49, 0) n (nI (smN (fD σ a (nI n)) (y + 1)))) (50, 0) n (enc (LM (cD σ a (nI n)) (y + 1)))) := by
    intro e1 e2
    rw [smN_S, LM_S, e1, e2, omin_n, Nat.add_zero]
  generalize hS : su (su s (49, 0) n (nI (smN (fD σ a (nI n)) y))) (50, 0) n (enc (LM (cD σ a (nI n)) y)) = S at same
  have S48 : ∀ k, S (48, 0) k = σ (48, 0) k := fun k => by rw [← hS, su_ref _ _ _ _ (by decide), su_ref _ _ _ _ (by decide), h48]
  unfold prS
  rw [bnd_eq, show nI n &&& ((((1 : Int32) <<< (nI (lo (nI n)) &&& 31)) ||| ((1 : Int32) <<< (nI y &&& 31))) ^^^ (-1 : Int32)) = rst (nI n) (lo (nI n)) y from rfl, (ix12 _ _).2, (in144m l1 hy).1, (in144m l1 hy).2, S48, w3, grd_t]
  by_cases c : bt (nI n) y = true
  case neg =>
    rw [if_neg (fun e => c (b1.1 e))]
    have z := fD_0 (σ := σ) (a := a) (x := nI n) (k := y) (Or.inr (by simpa using c))
    exact same z.1 z.2
  rw [if_pos (b1.2 c)]
  by_cases d : a < Wy σ (lo (nI n)) y
  · rw [if_pos (by rw [ltI (by omega) (by omega)]; exact d)]
    have hm : mtB (Wy σ) a (nI n) y = false := by
      simp [mtB]
      intro _ _
      exact d
    refine same ?_ ?_
    · unfold fD; rw [hm]; rfl
    · unfold cD; rw [hm]; rfl
  · rw [if_neg (by rw [ltI (by omega) (by omega)]; exact d)]
    have hm : mtB (Wy σ) a (nI n) y = true := by
      simp [mtB]
      exact ⟨hl, c, by omega⟩
    obtain ⟨m1, m2, m3, r, r1, r2, r3, r4⟩ := mt_ok hn h0 hy hm
    obtain ⟨i1, i2⟩ := inb4 (show r < 4096 by omega)
    obtain ⟨j1, j2⟩ := inb4 hn
    obtain ⟨e49, e50⟩ := h49 r r1 r4 r3
    have S49 : S (49, 0) r = nI (DN (Wy σ) a 6 (nI r)) := by rw [← hS, su_ref _ _ _ _ (by decide), su_slot _ _ _ _ (by omega), e49]
    have S50 : S (50, 0) r = enc (DL (Wy σ) a 6 (nI r)) := by rw [← hS, su_slot _ _ _ _ (by omega), su_ref _ _ _ _ (by decide), e50]
    have bD := DN_le (Wy σ) a 6 (nI r)
    have p6 : 12 ^ 6 = 2985984 := by decide
    have fy : fD σ a (nI n) y = DN (Wy σ) a 6 (nI r) := by unfold fD; rw [hm, r2]; rfl
    have cy : cD σ a (nI n) y = (DL (Wy σ) a 6 (nI r)).map (· + Wy σ (lo (nI n)) y) := by unfold cD; rw [hm, r2]; rfl
    rw [r2, i1, i2, grd_t, S49, S50]
    by_cases z : DN (Wy σ) a 6 (nI r) = 0
    · rw [z, if_pos (by decide)]
      refine same (by rw [fy, z]) ?_
      rw [cy]
      cases hd : DL (Wy σ) a 6 (nI r) with
      | none => rfl
      | some v =>
        have := (DN_DL 6 (nI r)).2 ⟨v, hd⟩
        omega
    · obtain ⟨v, hv⟩ := (DN_DL (W := Wy σ) (a := a) 6 (nI r)).1 (by omega)
      have bv := DL_le ha 6 _ v hv
      have pz : ¬ nI (DN (Wy σ) a 6 (nI r)) ≤ 0 := by
        rw [show (0 : Int32) = nI 0 from rfl, leI (by omega) (by omega)]
        omega
      have s49 : S (49, 0) n = nI (smN (fD σ a (nI n)) y) := by rw [← hS, su_ref _ _ _ _ (by decide), su_hit]
      have s50 : ∀ v, su S (49, 0) n v (50, 0) n = enc (LM (cD σ a (nI n)) y) := fun v => by rw [su_ref _ _ _ _ (by decide), ← hS, su_hit]
      rw [if_neg pz, grd_t, grd_t, bnd_eq, j1, j2, grd_t, grd_t, grd_t, bnd_eq, grd_t, s49, nI_add, hv]
      show obi (if su S (49, 0) n _ (50, 0) n = -1 then _ else _) _ = _
      rw [s50, show enc (some v) = nI v from rfl, nI_add]
      have fin : ∀ x8 : Int32, x8 = enc (LM (cD σ a (nI n)) (y + 1)) → (fun x8 => grd true (bnd (su (su S (49, 0) n (nI (smN (fD σ a (nI n)) y + DN (Wy σ) a 6 (nI r)))) (50, 0) n x8) fun σ10 => some σ10)) x8 = some (su (su s (49, 0) n (nI (smN (fD σ a (nI n)) (y + 1)))) (50, 0) n (enc (LM (cD σ a (nI n)) (y + 1)))) := by
        intro x8 e
        show grd true (bnd (su (su S (49, 0) n (nI (smN (fD σ a (nI n)) y + DN (Wy σ) a 6 (nI r)))) (50, 0) n x8) fun σ10 => some σ10) = _
        rw [grd_t, bnd_eq, ← hS, su_two, e, smN_S, fy]
      have cy' : cD σ a (nI n) y = some (v + Wy σ (lo (nI n)) y) := by rw [cy, hv]; rfl
      cases hL : LM (cD σ a (nI n)) y with
      | none =>
        rw [show enc none = -1 from rfl, if_pos rfl, obi_s]
        exact fin _ (by rw [LM_S, hL, cy']; rfl)
      | some u =>
        have bu := LMc_le hI hn h0 ha hL
        rw [show enc (some u) = nI u from rfl, if_neg (enc_m1 (by omega)), grd_t]
        by_cases q : u ≤ v + Wy σ (lo (nI n)) y
        · rw [if_pos (by rw [leI (by omega) (by omega)]; exact q), grd_t, obi_s]
          refine fin _ ?_
          rw [LM_S, hL, cy']
          show nI u = nI (if u ≤ v + Wy σ (lo (nI n)) y then u else v + Wy σ (lo (nI n)) y)
          rw [if_pos q]
        · rw [if_neg (by rw [leI (by omega) (by omega)]; exact q), obi_s]
          refine fin _ ?_
          rw [LM_S, hL, cy']
          show nI (v + Wy σ (lo (nI n)) y) = nI (if u ≤ v + Wy σ (lo (nI n)) y then u else v + Wy σ (lo (nI n)) y)
          rw [if_neg q]
set_option maxHeartbeats 1000000 in
theorem m_pairs {σ τ : St} (hI : Iv σ) {nc n a : Nat} (hnc : nc ≤ 12) (n2 : τ (9, 0) 28 = nI nc) (h48 : ∀ k, τ (48, 0) k = σ (48, 0) k) (hn : n < 2 ^ nc) (ha : a ≤ 99) : ∃ s, fX9_pairs τ (nI n) (nI a) = some s ∧ (∀ k, s (48, 0) k = σ (48, 0) k) ∧ ∀ z, z ≤ n → EP n z → s (49, 0) z = nI (DN (Wy σ) a 6 (nI z)) ∧ s (50, 0) z = enc (DL (Wy σ) a 6 (nI z)) := by
  have p12 : 2 ^ nc ≤ 2 ^ 12 := Nat.pow_le_pow_right (by omega) hnc
  have p0 : 0 < 2 ^ nc := Nat.pow_pos (by omega)
  rw [pairs_eq]
  refine lpF_for (fun i q => q.1 = nI (i + 1) ∧ q.2 (9, 0) 28 = nI nc ∧ (∀ k, q.2 (48, 0) k = σ (48, 0) k) ∧ ∀ z, z ≤ i → EP n z → q.2 (49, 0) z = nI (DN (Wy σ) a 6 (nI z)) ∧ q.2 (50, 0) z = enc (DL (Wy σ) a 6 (nI z))) (2 ^ nc - 1) ?_ ?_ (by omega) ⟨rfl, ?_, fun k => ?_, fun z hz _ => ?_⟩
  · rintro i ⟨x, s⟩ hi ⟨rfl, h1, h2, h3⟩
    replace h1 : s (9, 0) 28 = nI nc := h1
    replace h2 : ∀ k, s (48, 0) k = σ (48, 0) k := h2
    replace h3 : ∀ z, z ≤ i → EP n z → s (49, 0) z = nI (DN (Wy σ) a 6 (nI z)) ∧ s (50, 0) z = enc (DL (Wy σ) a 6 (nI z)) := h3
    have hx : i + 1 < 4096 := by omega
    obtain ⟨i1, i2⟩ := inb4 hx
    have nle : ¬ nI (2 ^ nc) ≤ nI (i + 1) := by rw [leI (by omega) (by omega)]; omega
    have hd : ∀ (r : Option St), (if (nI (i + 1) &&& (nI n ^^^ (-1 : Int32))) = 0 then
      obi (fX9_ones (nI (i + 1))) (fun x2 =>
      if (irm x2 (2 : Int32)) = 0 then
        obi (fX9_lowest (nI (i + 1))) (fun x3 =>
        bnd (x3 + (1 : Int32)) (fun x4 =>
        lpF (prB (nI (i + 1)) x3 (nI a)) (x4, su (su s (49, 0) (i + 1) 0) (50, 0) (i + 1) (-1))))
      else
        some (su (su s (49, 0) (i + 1) 0) (50, 0) (i + 1) (-1)))
    else
      some (su (su s (49, 0) (i + 1) 0) (50, 0) (i + 1) (-1))) = r → prO (nI n) (nI a) (nI (i + 1), s) = obi r (fun σ6 => some (.inl (nI (i + 1 + 1), σ6))) := by
      intro r hr
      show (if ((1 : Int32) <<< ((s (9, 0) 28) &&& 31)) ≤ nI (i + 1) then _ else _) = _
      rw [h1, shl_p nc (by omega), if_neg nle, i1, grd_t, i2, bnd_eq, grd_t, bnd_eq, hr, nI_1]
      rfl
    by_cases c : EP n (i + 1)
    · obtain ⟨l1, l2, l3, l4⟩ := lo_ok hx (by omega)
      have lt_nc : lo (nI (i + 1)) < nc := by
        by_cases d : lo (nI (i + 1)) < nc
        · exact d
        · rw [nI_bt (m := nc) (show i + 1 < 2 ^ nc by omega) (by omega) (by omega)] at l3
          cases l3
      have inner : lpF (prB (nI (i + 1)) (nI (lo (nI (i + 1)))) (nI a)) (nI (lo (nI (i + 1)) + 1), su (su s (49, 0) (i + 1) 0) (50, 0) (i + 1) (-1)) = some (su (su s (49, 0) (i + 1) (nI (smN (fD σ a (nI (i + 1))) nc))) (50, 0) (i + 1) (enc (LM (cD σ a (nI (i + 1))) nc))) := by
        refine lpF_fx (fun k q => q = (nI (lo (nI (i + 1)) + 1 + k), su (su s (49, 0) (i + 1) (nI (smN (fD σ a (nI (i + 1))) (lo (nI (i + 1)) + 1 + k)))) (50, 0) (i + 1) (enc (LM (cD σ a (nI (i + 1))) (lo (nI (i + 1)) + 1 + k))))) (nc - 1 - lo (nI (i + 1))) ?_ ?_ (by omega) ?_
        · intro k q hk hq
          subst hq
          refine Or.inl ⟨_, ?_, rfl⟩
          rw [← Nat.add_assoc]
          have hy : lo (nI (i + 1)) + 1 + k < nc := by omega
          generalize hyy : lo (nI (i + 1)) + 1 + k = y at hy
          have e28 : su (su s (49, 0) (i + 1) (nI (smN (fD σ a (nI (i + 1))) y))) (50, 0) (i + 1) (enc (LM (cD σ a (nI (i + 1))) y)) (9, 0) 28 = nI nc := by rw [su_ref _ _ _ _ (by decide), su_ref _ _ _ _ (by decide), h1]
          have pr := m_prS hI h2 hx (by omega) ha (show y < 12 by omega) (show lo (nI (i + 1)) < y by omega) (fun r r1 r4 r3 => h3 r (by omega) (EP_r c r4 r3))
          rw [prB_at, e28, if_neg (by rw [leI (by omega) (by omega)]; omega), pr, obi_s, bnd_eq, nI_1]
        · intro q hq
          subst hq
          rw [show lo (nI (i + 1)) + 1 + (nc - 1 - lo (nI (i + 1))) = nc by omega]
          refine ⟨_, ?_, rfl⟩
          rw [prB_at, su_ref _ _ _ _ (by decide), su_ref _ _ _ _ (by decide), h1, if_pos (by rw [i32_le]; omega)]
        · rw [Nat.add_zero, LM_0 _ (fun k hk => (fD_0 (Or.inl (by omega))).2), smN_0 _ (fun k hk => (fD_0 (Or.inl (by omega))).1)]
          rfl
      have top : smN (fD σ a (nI (i + 1))) 12 = smN (fD σ a (nI (i + 1))) nc ∧ LM (cD σ a (nI (i + 1))) 12 = LM (cD σ a (nI (i + 1))) nc := by
        have hb : ∀ k, nc ≤ k → bt (nI (i + 1)) k = false := fun k hk => nI_bt (m := nc) (by omega) (by omega) hk
        have e : nc + (12 - nc) = 12 := by omega
        have t1 := smN_ge (f := fD σ a (nI (i + 1))) (m := nc) (12 - nc) (fun k hk _ => (fD_0 (Or.inr (hb k hk))).1)
        have t2 := LM_ge (c := cD σ a (nI (i + 1))) (m := nc) (12 - nc) (fun k hk _ => (fD_0 (Or.inr (hb k hk))).2)
        rw [e] at t1 t2
        exact ⟨t1, t2⟩
      have p := pc12 hx
      have g := hd (some (su (su s (49, 0) (i + 1) (nI (smN (fD σ a (nI (i + 1))) nc))) (50, 0) (i + 1) (enc (LM (cD σ a (nI (i + 1))) nc)))) (by
        rw [if_pos ((and_not0 _ _).2 c.1), m_ones, obi_s, if_pos ((irm2 (by omega)).2 c.2), m_lowest hx (by omega), obi_s, bnd_eq, nI_1, inner])
      refine Or.inl ⟨_, g, rfl, ?_, fun k => ?_, fun z hz hE => ?_⟩
      · show su (su s (49, 0) (i + 1) (nI (smN (fD σ a (nI (i + 1))) nc))) (50, 0) (i + 1) (enc (LM (cD σ a (nI (i + 1))) nc)) (9, 0) 28 = _
        rw [su_ref _ _ _ _ (by decide), su_ref _ _ _ _ (by decide), h1]
      · show su (su s (49, 0) (i + 1) (nI (smN (fD σ a (nI (i + 1))) nc))) (50, 0) (i + 1) (enc (LM (cD σ a (nI (i + 1))) nc)) (48, 0) k = _
        rw [su_ref _ _ _ _ (by decide), su_ref _ _ _ _ (by decide), h2]
      · show su (su s (49, 0) (i + 1) (nI (smN (fD σ a (nI (i + 1))) nc))) (50, 0) (i + 1) (enc (LM (cD σ a (nI (i + 1))) nc)) (49, 0) z = _ ∧ su (su s (49, 0) (i + 1) (nI (smN (fD σ a (nI (i + 1))) nc))) (50, 0) (i + 1) (enc (LM (cD σ a (nI (i + 1))) nc)) (50, 0) z = _
        by_cases cz : z = i + 1
        · subst cz
          rw [su_ref _ _ _ _ (by decide), su_hit, su_hit, (D_eq hx (by omega)).1, (D_eq hx (by omega)).2, top.1, top.2]
          exact ⟨rfl, rfl⟩
        · rw [su_ref _ _ _ _ (by decide), su_slot _ _ _ _ cz, su_slot _ _ _ _ cz, su_ref _ _ _ _ (by decide)]
          exact h3 z (by omega) hE
    · have g := hd (some (su (su s (49, 0) (i + 1) 0) (50, 0) (i + 1) (-1))) (by
        by_cases d : sb (nI (i + 1)) (nI n)
        · have p := pc12 hx
          rw [if_pos ((and_not0 _ _).2 d), m_ones, obi_s, if_neg (fun e => c ⟨d, (irm2 (by omega)).1 e⟩)]
        · rw [if_neg (fun e => d ((and_not0 _ _).1 e))])
      refine Or.inl ⟨_, g, rfl, ?_, fun k => ?_, fun z hz hE => ?_⟩
      · show su (su s (49, 0) (i + 1) 0) (50, 0) (i + 1) (-1) (9, 0) 28 = _
        rw [su_ref _ _ _ _ (by decide), su_ref _ _ _ _ (by decide), h1]
      · show su (su s (49, 0) (i + 1) 0) (50, 0) (i + 1) (-1) (48, 0) k = _
        rw [su_ref _ _ _ _ (by decide), su_ref _ _ _ _ (by decide), h2]
      · show su (su s (49, 0) (i + 1) 0) (50, 0) (i + 1) (-1) (49, 0) z = _ ∧ su (su s (49, 0) (i + 1) 0) (50, 0) (i + 1) (-1) (50, 0) z = _
        by_cases cz : z = i + 1
        · subst cz
          exact absurd hE c
        · rw [su_ref _ _ _ _ (by decide), su_slot _ _ _ _ cz, su_slot _ _ _ _ cz, su_ref _ _ _ _ (by decide)]
          exact h3 z (by omega) hE
  · rintro ⟨x, s⟩ ⟨rfl, h1, h2, h3⟩
    replace h1 : s (9, 0) 28 = nI nc := h1
    refine ⟨s, ?_, h2, fun z hz => h3 z (by omega)⟩
    show (if ((1 : Int32) <<< ((s (9, 0) 28) &&& 31)) ≤ nI (2 ^ nc - 1 + 1) then _ else _) = _
    rw [h1, shl_p nc (by omega), if_pos (by rw [leI (by omega) (by omega)]; omega)]
  · show su (su τ (49, 0) 0 1) (50, 0) 0 0 (9, 0) 28 = _
    rw [su_ref _ _ _ _ (by decide), su_ref _ _ _ _ (by decide), n2]
  · show su (su τ (49, 0) 0 1) (50, 0) 0 0 (48, 0) k = _
    rw [su_ref _ _ _ _ (by decide), su_ref _ _ _ _ (by decide), h48]
  · have : z = 0 := by omega
    subst this
    show su (su τ (49, 0) 0 1) (50, 0) 0 0 (49, 0) 0 = _ ∧ su (su τ (49, 0) 0 1) (50, 0) 0 0 (50, 0) 0 = _
    rw [su_ref _ _ _ _ (by decide), su_hit, su_hit]
    exact ⟨rfl, rfl⟩
