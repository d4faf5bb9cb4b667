set_option maxHeartbeats 1000000 in
theorem mates {σ s τ : St} (hI : Iv σ) (h21 : ∀ k, s (21, 0) k = σ (21, 0) k) (h48 : ∀ k, τ (48, 0) k = σ (48, 0) k) {n a w : Nat} (hn : n < 4096) (ha : a ≤ 99) (hw : w < 12) (bw : bt (nI n) w = true) (hE : EP n n) {u0 : Nat} (hu0 : DL (Wy σ) a 6 (nI n) = some u0) (hs : ∀ z, z ≤ n → EP n z → s (22, 0) z = enc (DL (Wy σ) a 6 (nI z))) (hτ : ∀ z, z ≤ n → EP n z → τ (49, 0) z = nI (DN (Wy σ) a 6 (nI z)) ∧ τ (50, 0) z = enc (DL (Wy σ) a 6 (nI z))) : ∃ v r, fX7_mateOf s (nI w) (nI n) (nI a) = some v ∧ lpF (fun (q9 : Int32) => match q9 with
          | x4 =>
          if x4 = 0 then
            some (.inr (.inl ((-3 : Int32), τ)))
          else
            obi (fX9_lowest x4) (fun x5 =>
            bnd (x5 + (1 : Int32)) (fun x6 =>
            obi (lpF (fun (q16 : Int32) => match q16 with
            | x8 =>
            obi (fX9_isMate τ x4 x5 x8 (nI a)) (fun x9 =>
            if x9 = true then
              some (.inr x8)
            else
              bnd (x8 + 1) (fun x10 =>
              some (.inl x10)))) x6) (fun x7 =>
            if nI w = x5 then
              some (.inr (.inr (x5, x7)))
            else
              if nI w = x7 then
                some (.inr (.inr (x5, x7)))
              else
                bnd (x4 &&& ((((1 : Int32) <<< (x5 &&& 31)) ||| ((1 : Int32) <<< (x7 &&& 31))) ^^^ (-1 : Int32))) (fun x11 =>
                some (.inl x11)))))) (nI n) = some r ∧ ∃ p k : Int32, r = (Sum.inr (p, k) : (Int32 × St) ⊕ (Int32 × Int32)) ∧ v = if nI w = p then k else p := by
  unfold fX7_mateOf
  have pn := pc12 hn
  refine lpF2 (A := Int32 × Int32) (B := Int32) (Q := fun (v : Int32) (r : (Int32 × St) ⊕ (Int32 × Int32)) => ∃ p k : Int32, r = (Sum.inr (p, k) : (Int32 × St) ⊕ (Int32 × Int32)) ∧ v = if nI w = p then k else p) (fun d x y => ∃ z c u : Nat, x.1 = nI z ∧ y = nI z ∧ x.2 = nI c ∧ c + d = 6 ∧ pcn (nI z) 17 + 2 * c ≤ 12 ∧ z ≤ n ∧ EP n z ∧ bt (nI z) w = true ∧ DL (Wy σ) a 6 (nI z) = some u) ?_ (d := 6) (by omega) ⟨n, 0, u0, rfl, rfl, rfl, rfl, by omega, Nat.le_refl _, hE, bw, hu0⟩
  rintro d ⟨x, cc⟩ y ⟨z, c, u, e1, rfl, e2, hd, hp, hz, hEz, bz, hu⟩
  replace e1 : x = nI z := e1
  replace e2 : cc = nI c := e2
  subst e1
  subst e2
  have z4 : z < 4096 := by omega
  have h0 : ¬ z = 0 := by
    intro e
    subst e
    rw [show nI 0 = 0 from rfl, bt_0] at bz
    cases bz
  have z0 : ¬ nI z = 0 := fun e => h0 (nI_z z4 e)
  have pz : ¬ pcn (nI z) 17 = 0 := fun e => h0 (pc_0 z4 e)
  obtain ⟨l1, l2, l3, l4⟩ := lo_ok z4 h0
  obtain ⟨k, k1, k2, k3, k4⟩ := mate_first hI z4 h0 ha hu
  have bu := DL_le ha 6 _ u hu
  have xi := x_mateIn hI h21 z4 h0 ha hu (by rw [hs z hz hEz, hu]; rfl) (fun r r1 r4 r3 => hs r (by omega) (EP_r hEz r4 r3)) k1 k2 k3 k4
  have mi := m_mateIn hI h48 z4 h0 ha hu (by rw [(hτ z hz hEz).2, hu]; rfl) (fun r r1 r4 r3 => hτ r (by omega) (EP_r hEz r4 r3)) k1 k2 k3 k4
  have six : ¬ (6 : Int32) ≤ nI c := by rw [show (6 : Int32) = nI 6 from rfl, leI (by decide) (by omega)]; omega
  have ew1 : (nI w = nI (lo (nI z))) = (w = lo (nI z)) := eqI (by omega) (by omega)
  have ew2 : (nI w = nI k) = (w = k) := eqI (by omega) (by omega)
  have ekl : ¬ nI w = nI (lo (nI z)) → True := fun _ => trivial
  have hX : ∀ r, (if nI w = nI (lo (nI z)) then some (Sum.inr (nI k)) else if nI w = nI k then some (Sum.inr (nI (lo (nI z)))) else bnd (nI z &&& ((((1 : Int32) <<< (nI (lo (nI z)) &&& 31)) ||| ((1 : Int32) <<< (nI k &&& 31))) ^^^ (-1 : Int32))) (fun x9 => bnd (nI c + 1) (fun x10 => (some (Sum.inl (x9, x10)) : Option ((Int32 × Int32) ⊕ Int32))))) = r → (if (6 : Int32) ≤ nI c then
    some (.inr (-1 : Int32))
  else
    if nI z = 0 then
      some (.inr (-1 : Int32))
    else
      bnd (fJ6_numberOfTrailingZeros_0f7a4 (nI z)) (fun x3 =>
      bnd (x3 + (1 : Int32)) (fun x4 =>
      obi (lpF (fun (q9 : Int32) => match q9 with
      | x6 =>
      if (11 : Int32) ≤ x6 then
        some (.inr x6)
      else
        obi (fX7_togetherWith s (nI z) x3 x6 (nI a)) (fun x7 =>
        grd (inb (nI z) 4096) (
        if x7 = (s (22, 0) (tn (nI z))) then
          some (.inr x6)
        else
          bnd (x6 + 1) (fun x8 =>
          some (.inl x8))))) x4) (fun x5 =>
      if nI w = x3 then
        some (.inr x5)
      else
        if nI w = x5 then
          some (.inr x3)
        else
          bnd (nI z &&& ((((1 : Int32) <<< (x3 &&& 31)) ||| ((1 : Int32) <<< (x5 &&& 31))) ^^^ (-1 : Int32))) (fun x9 =>
          bnd (nI c + 1) (fun x10 =>
          some (.inl (x9, x10)))))))) = r := by
    intro r hr
    rw [if_neg six, if_neg z0, l2, bnd_eq, bnd_eq, nI_1, xi, obi_s]
    exact hr
  have hM : ∀ r, (if nI w = nI (lo (nI z)) then some (Sum.inr (Sum.inr (nI (lo (nI z)), nI k))) else if nI w = nI k then some (Sum.inr (Sum.inr (nI (lo (nI z)), nI k))) else bnd (nI z &&& ((((1 : Int32) <<< (nI (lo (nI z)) &&& 31)) ||| ((1 : Int32) <<< (nI k &&& 31))) ^^^ (-1 : Int32))) (fun x11 => (some (Sum.inl x11) : Option (Int32 ⊕ ((Int32 × St) ⊕ (Int32 × Int32)))))) = r → (if nI z = 0 then
            some (.inr (.inl ((-3 : Int32), τ)))
          else
            obi (fX9_lowest (nI z)) (fun x5 =>
            bnd (x5 + (1 : Int32)) (fun x6 =>
            obi (lpF (fun (q16 : Int32) => match q16 with
            | x8 =>
            obi (fX9_isMate τ (nI z) x5 x8 (nI a)) (fun x9 =>
            if x9 = true then
              some (.inr x8)
            else
              bnd (x8 + 1) (fun x10 =>
              some (.inl x10)))) x6) (fun x7 =>
            if nI w = x5 then
              some (.inr (.inr (x5, x7)))
            else
              if nI w = x7 then
                some (.inr (.inr (x5, x7)))
              else
                bnd (nI z &&& ((((1 : Int32) <<< (x5 &&& 31)) ||| ((1 : Int32) <<< (x7 &&& 31))) ^^^ (-1 : Int32))) (fun x11 =>
                some (.inl x11)))))) = r := by
    intro r hr
    rw [if_neg z0, m_lowest z4 h0, obi_s, bnd_eq, nI_1, mi, obi_s]
    exact hr
  by_cases c1 : w = lo (nI z)
  · refine Or.inr ⟨nI k, Sum.inr (nI (lo (nI z)), nI k), hX _ (by rw [if_pos (by rw [ew1]; exact c1)]), hM _ (by rw [if_pos (by rw [ew1]; exact c1)]), _, _, rfl, by rw [if_pos (by rw [ew1]; exact c1)]⟩
  · by_cases c2 : w = k
    · refine Or.inr ⟨nI (lo (nI z)), Sum.inr (nI (lo (nI z)), nI k), hX _ (by rw [if_neg (by rw [ew1]; exact c1), if_pos (by rw [ew2]; exact c2)]), hM _ (by rw [if_neg (by rw [ew1]; exact c1), if_pos (by rw [ew2]; exact c2)]), _, _, rfl, by rw [if_neg (by rw [ew1]; exact c1)]⟩
    · have hm : mtB (Wy σ) a (nI z) k = true := by
        cases hm : mtB (Wy σ) a (nI z) k with
        | true => rfl
        | false =>
          unfold cD at k3
          rw [hm] at k3
          cases k3
      obtain ⟨m1, m2, m3, r, r1, r2, r3, r4⟩ := mt_ok z4 h0 k2 hm
      have ud : ∃ u', DL (Wy σ) a 6 (nI r) = some u' := by
        unfold cD at k3
        rw [hm, r2, if_pos rfl] at k3
        cases hr : DL (Wy σ) a 6 (nI r) with
        | none => rw [hr] at k3; cases k3
        | some u' => exact ⟨u', rfl⟩
      obtain ⟨u', hu'⟩ := ud
      have br : bt (nI r) w = true := by
        rw [← r2, rst_bt (nI z) (show lo (nI z) < 17 by omega) (show k < 17 by omega) (show w < 32 by omega), bz]
        simp [c1, c2]
      refine Or.inl ⟨(nI r, nI (c + 1)), nI r, d - 1, hX _ ?_, hM _ ?_, by omega, r, c + 1, u', rfl, rfl, rfl, by omega, by omega, by omega, EP_r hEz r4 r3, br, hu'⟩
      · rw [if_neg (by rw [ew1]; exact c1), if_neg (by rw [ew2]; exact c2), bnd_eq, bnd_eq, nI_1]
        show some (Sum.inl (rst (nI z) (lo (nI z)) k, _)) = _
        rw [r2]
      · rw [if_neg (by rw [ew1]; exact c1), if_neg (by rw [ew2]; exact c2), bnd_eq]
        show some (Sum.inl (rst (nI z) (lo (nI z)) k)) = _
        rw [r2]
set_option maxHeartbeats 1000000 in
theorem op_mate {σ : St} (hI : Ix σ) (a1 a2 a3 : Int32) : ∃ v σ1 σ2, fX8_mate σ a1 a2 a3 = some (v, σ1) ∧ fX9_mate σ1 a1 a2 a3 = some (v, σ2) ∧ Ix σ2 := by
  obtain ⟨nc, hnc, n1, n2⟩ := club_at hI.1
  have p12 : 2 ^ nc ≤ 2 ^ 12 := Nat.pow_le_pow_right (by omega) hnc
  unfold fX8_mate
  rw [x_isWay, x_isClub (by omega) n1]
  have f1 := x_field hnc n1 a1
  have neg : ¬ (fX8_isField σ a1 = true ∧ inb a2 100 = true) → fX9_mate σ a1 a2 a3 = some (-2, σ) := by
    intro h
    unfold fX9_mate
    rw [(m_isCup hnc n2 a1 a2).2 (fun w => h ⟨f1.2 w.1, w.2⟩), obi_s, if_neg (by decide)]
  by_cases c1 : fX8_isField σ a1 = true
  case neg => exact ⟨-2, σ, σ, by rw [if_neg c1], neg (fun w => c1 w.1), hI⟩
  by_cases c2 : inb a2 100 = true
  case neg => exact ⟨-2, σ, σ, by rw [if_pos c1, if_neg c2], neg (fun w => c2 w.2), hI⟩
  obtain ⟨n, rfl, h1, h2, h3⟩ := f1.1 c1
  have cu : ∀ s : St, s (9, 0) 28 = nI nc → fX9_isCup s (nI n) a2 = some true := fun s hs => (m_isCup hnc hs (nI n) a2).1 ⟨⟨n, rfl, h1, h2, h3⟩, c2⟩
  by_cases c3 : inb a3 nc = true
  case neg =>
    refine ⟨-2, σ, σ, by rw [if_pos c1, if_pos c2, if_neg c3], ?_, hI⟩
    unfold fX9_mate
    rw [cu σ n2, obi_s, if_pos rfl, m_isClub (by omega) n2, if_neg c3]
  obtain ⟨w, hw, rfl⟩ := inb_ex (by omega) c3
  by_cases c4 : ((nI n >>> (nI w &&& 31)) &&& (1 : Int32)) = 0
  case pos =>
    refine ⟨-2, σ, σ, by rw [if_pos c1, if_pos c2, if_pos c3, if_pos c4], ?_, hI⟩
    unfold fX9_mate
    rw [cu σ n2, obi_s, if_pos rfl, m_isClub (by omega) n2, if_pos c3, if_pos c4]
  have bw : bt (nI n) w = true := by
    cases hb : bt (nI n) w with
    | true => rfl
    | false => exact absurd ((bit0 (nI n) (show w < 17 by omega)).2 hb) c4
  obtain ⟨a, ha, rfl⟩ := inb_ex (by decide) c2
  obtain ⟨s, e, g1, g2⟩ := x_least hI.1 (show n < 4096 by omega) h1 (show a ≤ 99 by omega) (EP_self h3)
  have m1 := mX7_leastTogether e
  have k2 : s (9, 0) 28 = nI nc := by rw [m1 (9, 0) 28 (by rw [cod_o (by decide)]; decide), n2]
  obtain ⟨s', q1, q2, q3⟩ := m_pairs hI.1 hnc k2 (fun k => m1 _ _ (by rw [cod_a (by decide)]; decide)) h2 (show a ≤ 99 by omega)
  have m2 := mX9_pairs q1
  obtain ⟨q4, q5⟩ := q3 n (Nat.le_refl _) (EP_self h3)
  have hI' : Ix s' := ⟨(hI.1.mv m1 (by decide)).mv m2 (by decide), dep_Id.mv m2 (by decide) (dep_Id.mv m1 (by decide) hI.2)⟩
  have bD := DN_le (Wy σ) a 6 (nI n)
  have p6 : 12 ^ 6 = 2985984 := by decide
  rw [if_pos c1, if_pos c2, if_pos c3, if_neg c4, e, obi_s]
  cases hd : DL (Wy σ) a 6 (nI n) with
  | none =>
    have z : DN (Wy σ) a 6 (nI n) = 0 := by
      by_cases z : 0 < DN (Wy σ) a 6 (nI n)
      · obtain ⟨v, hv⟩ := (DN_DL 6 (nI n)).1 z
        rw [hd] at hv
        cases hv
      · omega
    refine ⟨-3, s, s', ?_, ?_, hI'⟩
    · show (if enc none = -1 then _ else _) = _
      rw [if_pos (show enc none = -1 from rfl)]
    · unfold fX9_mate
      rw [cu s k2, obi_s, if_pos rfl, m_isClub (by omega) k2, if_pos c3, if_neg c4, q1, obi_s, (inb4 (show n < 4096 by omega)).1, grd_t, (inb4 (show n < 4096 by omega)).2, q4, z, if_pos (show nI 0 = 0 from rfl)]
  | some u =>
    have bv := DL_le (show a ≤ 99 by omega) 6 _ u hd
    have z := (DN_DL (W := Wy σ) (a := a) 6 (nI n)).2 ⟨u, hd⟩
    obtain ⟨v, r, r1, r2, p, k, rfl, r3⟩ := mates (s := s) (τ := s') hI.1 g1 q2 (show n < 4096 by omega) (show a ≤ 99 by omega) (show w < 12 by omega) bw (EP_self h3) hd g2 q3
    refine ⟨v, s, s', ?_, ?_, hI'⟩
    · show (if nI u = -1 then _ else _) = _
      rw [if_neg (enc_m1 (by omega)), r1, obi_s]
    · unfold fX9_mate
      rw [cu s k2, obi_s, if_pos rfl, m_isClub (by omega) k2, if_pos c3, if_neg c4, q1, obi_s, (inb4 (show n < 4096 by omega)).1, grd_t, (inb4 (show n < 4096 by omega)).2, q4, if_neg (nI_ne0 z (by omega)), r2, bj_sr]
      show (if nI w = p then some (k, s') else some (p, s')) = some (v, s')
      rw [r3]
      by_cases q : nI w = p
      · rw [if_pos q, if_pos q]
      · rw [if_neg q, if_neg q]
