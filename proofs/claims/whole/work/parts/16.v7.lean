/-! ===== the fewest moments to a score ===== -/
def sP (f : Nat → Int32) (a b x : Nat) : Bool := decide (0 < oV f b x) && decide (x / 10 % 2 = a)
def msB (r1 : Rf) (a2 x3 : Int32) : Int32 × St → Option ((Int32 × St) ⊕ (((Int32 × St) ⊕ ((Int32 × St) ⊕ (Int32 × St))) ⊕ St)) := fun (q12 : Int32 × St) => match q12 with
      | (x4, σ5) =>
      if (40 : Int32) ≤ x4 then
        some (.inr (.inr σ5))
      else
        bnd (fX4_setBall σ5 1 x3) (fun σ6 =>
        obi (fX4_step σ6 1 r1 x4) (fun (x5, σ7) =>
        bj (if (σ7 (4, 1) 3) ≤ 0 then
          some (.inr ())
        else
          if (fX8_sideOf x4) = a2 then
            some (.inl (.inr (.inl (.inr (.inr (x3, σ7))))))
          else
            some (.inr ())) (fun _ =>
        obi (fX5_reach σ7 (fX4_ball σ7 1) x3 x4) (fun σ8 =>
        bnd (x4 + 1) (fun x6 =>
        some (.inl (x6, σ8)))))))
theorem msB_at (r1 : Rf) (a2 x3 x4 : Int32) (σ5 : St) : msB r1 a2 x3 (x4, σ5) = (if (40 : Int32) ≤ x4 then
        some (.inr (.inr σ5))
      else
        bnd (fX4_setBall σ5 1 x3) (fun σ6 =>
        obi (fX4_step σ6 1 r1 x4) (fun (x5, σ7) =>
        bj (if (σ7 (4, 1) 3) ≤ 0 then
          some (.inr ())
        else
          if (fX8_sideOf x4) = a2 then
            some (.inl (.inr (.inl (.inr (.inr (x3, σ7))))))
          else
            some (.inr ())) (fun _ =>
        obi (fX5_reach σ7 (fX4_ball σ7 1) x3 x4) (fun σ8 =>
        bnd (x4 + 1) (fun x6 =>
        some (.inl (x6, σ8)))))))) := rfl
def moB (r1 : Rf) (a2 : Int32) : Int32 × St → Option ((Int32 × St) ⊕ ((Int32 × St) ⊕ (Int32 × St))) := fun (q3 : Int32 × St) => match q3 with
  | (x2, σ3) =>
  if (63 : Int32) ≤ x2 then
    some (.inr (.inl ((-1 : Int32), σ3)))
  else
  if (σ3 (5, 0) 8) ≤ x2 then
    some (.inr (.inl ((-1 : Int32), σ3)))
  else
    grd (inb x2 63) (
    bnd (σ3 (15, 0) (tn x2)) (fun x3 =>
    grd (inb x3 63) (
    if (σ3 (16, 0) (tn x3)) < (20 : Int32) then
      bj (lpF (msB r1 a2 x3) ((0 : Int32), σ3)) (fun σ4 =>
      bnd (x2 + 1) (fun x7 =>
      some (.inl (x7, σ4))))
    else
      some (.inr (.inl ((-1 : Int32), σ3))))))
theorem moB_63 (r1 : Rf) (a2 : Int32) (σ3 : St) : moB r1 a2 (nI 63, σ3) = some (.inr (.inl ((-1 : Int32), σ3))) := by
  rfl
theorem moB_at (r1 : Rf) (a2 : Int32) {h : Nat} (hh : h < 63) (σ3 : St) : moB r1 a2 (nI h, σ3) = (if (σ3 (5, 0) 8) ≤ nI h then
    some (.inr (.inl ((-1 : Int32), σ3)))
  else
    grd (inb (nI h) 63) (
    bnd (σ3 (15, 0) (tn (nI h))) (fun x3 =>
    grd (inb x3 63) (
    if (σ3 (16, 0) (tn x3)) < (20 : Int32) then
      bj (lpF (msB r1 a2 x3) ((0 : Int32), σ3)) (fun σ4 =>
      bnd (nI h + 1) (fun x7 =>
      some (.inl (x7, σ4))))
    else
      some (.inr (.inl ((-1 : Int32), σ3))))))) := by
  have c : ¬ (63 : Int32) ≤ nI h := by rw [show (63 : Int32) = nI 63 from rfl, leI (by decide) (by omega)]; omega
  exact if_neg c
theorem mts_eq (σ : St) (r1 : Rf) (a2 : Int32) : fX5_momentsToScore σ r1 a2 = obi (fX5_start σ) (fun σ1 =>
  bj (lpF (moB r1 a2) ((0 : Int32), σ1)) (fun (x1, σ2) =>
  grd (inb x1 63) (
  some ((σ2 (16, 0) (tn x1)) + (1 : Int32), σ2)))) := rfl
set_option maxHeartbeats 1000000 in
theorem x_ms {σ s : St} {i a : Nat} (hi : i < 11) (ha : a < 2) (gf : gd (σ (11, i))) (hm : modi SP σ s) {n : Nat} {qb : Nat → Nat} {qp : Nat → List Nat} {h : Nat} (X : XS s n qb qp) (B : BI (sP (σ (11, i)) a) (TF σ i) 33 n qb qp h 0) (hh : h < n) (hl : (qp h).length < 1000) : ∃ res, lpF (msB (11, i) (nI a) (nI (qb h))) ((0 : Int32), s) = some res ∧ ((∃ s' n' qb' qp', res = Sum.inr s' ∧ XS s' n' qb' qp' ∧ BI (sP (σ (11, i)) a) (TF σ i) 33 n' qb' qp' h 40 ∧ h < n' ∧ modi SP σ s') ∨ (∃ s' n' qb' qp' x, res = Sum.inl (Sum.inr (Sum.inr (nI (qb' h), s'))) ∧ XS s' n' qb' qp' ∧ BI (sP (σ (11, i)) a) (TF σ i) 33 n' qb' qp' h x ∧ h < n' ∧ x < 40 ∧ sP (σ (11, i)) a (qb' h) x = true ∧ qp' h = qp h)) := by
  refine lpF_for (fun x q => q.1 = nI x ∧ ∃ n' qb' qp', XS q.2 n' qb' qp' ∧ BI (sP (σ (11, i)) a) (TF σ i) 33 n' qb' qp' h x ∧ h < n' ∧ qb' h = qb h ∧ qp' h = qp h ∧ modi SP σ q.2) 40 ?_ ?_ (by decide) ⟨rfl, n, qb, qp, X, B, hh, rfl, rfl, hm⟩
  · rintro x ⟨y, z⟩ hx ⟨rfl, n', qb', qp', X', B', hh', e1, e2, m'⟩
    replace X' : XS z n' qb' qp' := X'
    replace m' : modi SP σ z := m'
    have hu := (B'.2.1 h hh').1
    obtain ⟨s7, a1, a2, a3, a4⟩ := x_out (RW.sp (t := 1) hi m') gf hu hx
    have m7 : modi SP σ s7 := (m'.tr (mX4_setBall (σ := z) (t0 := 1) (a1 := nI (qb' h)) rfl) (by decide)).tr (mX4_step a1) (by decide)
    have X7 := X'.mv (s' := s7) (fun r k h1 _ => a4 r k h1)
    have c40 : ¬ (40 : Int32) ≤ nI x := by rw [show (40 : Int32) = nI 40 from rfl, leI (by decide) (by omega)]; omega
    obtain ⟨v, _, _, _, vl, _, _, _, _, _, ve⟩ := oQ_ok gf hu hx
    have j1 := (side_n x hx).1
    have le0 : (nI (oV (σ (11, i)) (qb' h) x) ≤ (0 : Int32)) = (oV (σ (11, i)) (qb' h) x = 0) := by
      rw [show (0 : Int32) = nI 0 from rfl, leI (by omega) (by decide)]
      exact propext ⟨fun h => by omega, fun h => by omega⟩
    have es : (nI (x / 10 % 2) = nI a) = (x / 10 % 2 = a) := eqI (by omega) (by omega)
    have red : msB (11, i) (nI a) (nI (qb h)) (nI x, z) = bj (if oV (σ (11, i)) (qb' h) x = 0 then some (.inr ()) else if x / 10 % 2 = a then some (.inl (.inr (.inl (.inr (.inr (nI (qb' h), s7)))))) else some (.inr ())) (fun _ =>
        obi (fX5_reach s7 (nI (oB (σ (11, i)) (qb' h) x)) (nI (qb' h)) (nI x)) (fun σ8 =>
        some (.inl (nI (x + 1), σ8)))) := by
      rw [msB_at, if_neg c40, bnd_eq, ← e1, a1, obi_s]
      show bj (if s7 (4, 1) 3 ≤ 0 then _ else _) _ = _
      rw [a2, a3, j1]
      simp only [le0, es, bnd_eq, nI_1]
    by_cases c : sP (σ (11, i)) a (qb' h) x = true
    · refine Or.inr ⟨Sum.inl (Sum.inr (Sum.inr (nI (qb' h), s7))), ?_, Or.inr ⟨s7, n', qb', qp', x, rfl, X7, B', hh', hx, c, e2⟩⟩
      simp only [sP, Bool.and_eq_true, decide_eq_true_eq] at c
      rw [red, if_neg (by omega), if_pos c.2, bj_sl]
    · have hP : sP (σ (11, i)) a (qb' h) x = false := by simpa using c
      obtain ⟨s', n2, qb2, qp2, r1, r2, r3, r4, r5, r6, r7⟩ := x_reach X7 B' hh' hx hP (oB_lt gf hu hx) (by rw [e2]; exact hl)
      refine Or.inl ⟨(nI (x + 1), s'), ?_, rfl, n2, qb2, qp2, r2, r3, r4, by rw [r5, e1], by rw [r6, e2], m7.tr r7 (by decide)⟩
      rw [red]
      have hin : (if oV (σ (11, i)) (qb' h) x = 0 then (some (.inr ()) : Option (((Int32 × St) ⊕ (((Int32 × St) ⊕ ((Int32 × St) ⊕ (Int32 × St))) ⊕ St)) ⊕ Unit)) else if x / 10 % 2 = a then some (.inl (.inr (.inl (.inr (.inr (nI (qb' h), s7)))))) else some (.inr ())) = some (.inr ()) := by
        by_cases d1 : oV (σ (11, i)) (qb' h) x = 0
        · rw [if_pos d1]
        · rw [if_neg d1, if_neg]
          intro d2
          apply c
          simp only [sP, Bool.and_eq_true, decide_eq_true_eq]
          exact ⟨by omega, d2⟩
      rw [hin, bj_sr]
      show obi (fX5_reach s7 (nI (TF σ i (qb' h) x)) (nI (qb' h)) (nI x)) _ = _
      rw [r1, obi_s]
  · rintro ⟨y, z⟩ ⟨rfl, n', qb', qp', X', B', hh', e1, e2, m'⟩
    refine ⟨Sum.inr z, ?_, Or.inl ⟨z, n', qb', qp', rfl, X', B', hh', m'⟩⟩
    rw [msB_at, if_pos (by decide)]
theorem len_min {P : Nat → Nat → Bool} {T : Nat → Nat → Nat} {b : Nat} {ρ r : List Nat} (hr : PR P T b r) (h : cdk 1 ρ ≤ cdk 1 r) : ρ.length ≤ r.length := by
  by_cases c : r.length < ρ.length
  · have := cd_B ρ r 1 1 c (PR_64 r _ hr) (by decide)
    omega
  · omega
set_option maxHeartbeats 1000000 in
theorem x_few {σ : St} (hI : Id σ) {i a : Nat} (hi : i < 11) (ha : a < 2) : ∃ v s, fX5_momentsToScore σ (11, i) (nI a) = some (v, s) ∧ ((v = -1 ∧ ∀ r, PR (sP (σ (11, i)) a) (TF σ i) 33 r → 21 ≤ r.length) ∨ ∃ ρ, PR (sP (σ (11, i)) a) (TF σ i) 33 ρ ∧ ρ.length ≤ 20 ∧ v = nI ρ.length ∧ ∀ r, PR (sP (σ (11, i)) a) (TF σ i) 33 r → ρ.length ≤ r.length) := by
  rw [mts_eq]
  obtain ⟨s, e1, X⟩ := x_start σ
  have hm : modi SP σ s := modi.tr (modi.rf (L := SP)) (mX5_start e1) (by decide)
  have gf := hI.gd hi
  rw [e1, obi_s]
  have key : ∃ res, lpF (moB (11, i) (nI a)) ((0 : Int32), s) = some res ∧ ((∃ s', res = Sum.inl (-1, s') ∧ ∀ r, PR (sP (σ (11, i)) a) (TF σ i) 33 r → 21 ≤ r.length) ∨ (∃ s' n' qb' qp' h x, res = Sum.inr (nI (qb' h), s') ∧ XS s' n' qb' qp' ∧ BI (sP (σ (11, i)) a) (TF σ i) 33 n' qb' qp' h x ∧ h < n' ∧ x < 40 ∧ sP (σ (11, i)) a (qb' h) x = true ∧ (qp' h).length < 20)) := by
    refine lpF_for (fun h q => q.1 = nI h ∧ ∃ n qb qp, XS q.2 n qb qp ∧ BI (sP (σ (11, i)) a) (TF σ i) 33 n qb qp h 0 ∧ h ≤ n ∧ modi SP σ q.2) 63 ?_ ?_ (by decide) ⟨rfl, 1, fun _ => 33, fun _ => [], X, bi_start _ _, by omega, hm⟩
    · rintro h ⟨y, z⟩ h63 ⟨rfl, n, qb, qp, X', B', hn, m'⟩
      replace X' : XS z n qb qp := X'
      replace m' : modi SP σ z := m'
      have n63 := B'.1.2.1
      by_cases c : n ≤ h
      · refine Or.inr ⟨Sum.inl (-1, z), ?_, Or.inl ⟨z, rfl, fun r hr => (bfs_end B' c hr).elim⟩⟩
        rw [moB_at _ _ h63, X'.1, if_pos (by rw [leI (by omega) (by omega)]; exact c)]
      · have hh : h < n := by omega
        have hu := (B'.2.1 h hh).1
        have hl := bi_len B' (h + 1) h (by omega) hh
        obtain ⟨i1, i2⟩ := in63 h63
        obtain ⟨u1, u2⟩ := in63 hu
        have e6 : (nI (qp h).length < (20 : Int32)) = ((qp h).length < 20) := by rw [show (20 : Int32) = nI 20 from rfl, ltI (by omega) (by decide)]
        have red : moB (11, i) (nI a) (nI h, z) = (if (qp h).length < 20 then
        bj (lpF (msB (11, i) (nI a) (nI (qb h))) ((0 : Int32), z)) (fun σ5 =>
        some (.inl (nI (h + 1), σ5)))
      else
        some (.inr (.inl (-1, z)))) := by
          rw [moB_at _ _ h63, X'.1, if_neg (by rw [leI (by omega) (by omega)]; exact c), i1, grd_t, i2, bnd_eq, (X'.2.1 h hh).1, u1, grd_t, u2, (X'.2.1 h hh).2]
          simp only [e6, bnd_eq, nI_1]
        by_cases c6 : (qp h).length < 20
        · obtain ⟨res, q1, q2⟩ := x_ms hi ha gf m' X' B' hh (by omega)
          rcases q2 with ⟨s', n', qb', qp', e, X2, B2, h2, m2⟩ | ⟨s', n', qb', qp', x, e, X2, B2, h2, x40, hP, ep⟩
          · subst e
            refine Or.inl ⟨(nI (h + 1), s'), ?_, rfl, n', qb', qp', X2, bi_next B2, by omega, m2⟩
            rw [red, if_pos c6, q1, bj_sr]
          · subst e
            refine Or.inr ⟨Sum.inr (nI (qb' h), s'), ?_, Or.inr ⟨s', n', qb', qp', h, x, rfl, X2, B2, h2, x40, hP, by rw [ep]; exact c6⟩⟩
            rw [red, if_pos c6, q1, bj_sl]
        · refine Or.inr ⟨Sum.inl (-1, z), by rw [red, if_neg c6], Or.inl ⟨z, rfl, fun r hr => ?_⟩⟩
          by_cases q : 21 ≤ r.length
          · exact q
          · exfalso
            have k1 := bfs_core B' (by omega) hh hr
            have k2 := cd_B (qp h ++ [0]) r 1 1 (by rw [List.length_append]; show _ < (qp h).length + 1; omega) (PR_64 r _ hr) (by decide)
            rw [cdk_1] at k2
            omega
    · rintro ⟨y, z⟩ ⟨rfl, n, qb, qp, X', B', hn, m'⟩
      replace X' : XS z n qb qp := X'
      have n63 := B'.1.2.1
      refine ⟨Sum.inl (-1, z), ?_, Or.inl ⟨z, rfl, fun r hr => (bfs_end B' n63 hr).elim⟩⟩
      rw [moB_63]
  obtain ⟨res, e2, q⟩ := key
  rw [e2]
  rcases q with ⟨s', e, hr⟩ | ⟨s', n', qb, qp, h, x, e, X2, B2, hh, x40, hP, hl⟩
  · subst e
    exact ⟨-1, s', by rw [bj_sl], Or.inl ⟨rfl, hr⟩⟩
  · subst e
    obtain ⟨b1, b2, b3⟩ := B2.2.1 h hh
    have len : (qp h ++ [x]).length = (qp h).length + 1 := by rw [List.length_append]; rfl
    refine ⟨nI (qp h ++ [x]).length, s', ?_, Or.inr ⟨qp h ++ [x], ?_, by rw [len]; omega, rfl, fun r hr => ?_⟩⟩
    · rw [bj_sr]
      show grd (inb (nI (qb h)) 63) (some (s' (16, 0) (tn (nI (qb h))) + 1, s')) = _
      rw [(in63 b1).1, grd_t, (in63 b1).2, (X2.2.1 h hh).2, nI_1, len]
    · rw [PR_app _ _ _ (by simp)]
      exact ⟨b2, by rw [b3]; exact ⟨x40, hP⟩⟩
    · refine len_min hr ?_
      rw [cdk_1]
      exact bfs_core B2 (by omega) hh hr
