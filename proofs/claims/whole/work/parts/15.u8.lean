theorem pinB_at (r1 r2 : Rf) (x4 x5 : Int32) (σ6 : St) : pinB r1 r2 x4 (x5, σ6) = (if (40 : Int32) ≤ x5 then
        some (.inr (.inr σ6))
      else
        bnd (fX4_setBall σ6 1 x4) (fun σ7 =>
        bnd (fX4_setBall σ7 2 x4) (fun σ8 =>
        obi (fX4_step σ8 1 r1 x5) (fun (x6, σ9) =>
        obi (fX4_step σ9 2 r2 x5) (fun (x7, σ10) =>
        if x6 = x7 then
          if (σ10 (4, 1) 3) = (σ10 (4, 2) 3) then
            if (fX4_ball σ10 1) = (fX4_ball σ10 2) then
              obi (fX5_reach σ10 (fX4_ball σ10 1) x4 x5) (fun σ11 =>
              bnd (x5 + 1) (fun x8 =>
              some (.inl (x8, σ11))))
            else
              some (.inr (.inl (.inr (.inr (x4, x5, σ10)))))
          else
            some (.inr (.inl (.inr (.inr (x4, x5, σ10)))))
        else
          some (.inr (.inl (.inr (.inr (x4, x5, σ10)))))))))) := rfl
theorem RW.sp {σ s : St} {t j : Nat} (hj : j < 11) (h : modi SP σ s) : RW s (11, j) t (σ (11, j)) := ⟨ia_of (f := 11) rfl hj, rfl, by simp, fun k _ => h _ _ (by rw [cod_a (by decide)]; decide)⟩
theorem SP_two {σ s s10 : St} (h : modi SP σ s) (hx : ∀ (r : Rf) (k : Nat), (¬ r = (4, 1)) → (¬ r = (4, 2)) → s10 r k = s r k) (hm : modi XP s s10) : modi SP σ s10 := modi.tr h hm (by decide)
def PF (σ : St) (i j : Nat) : Nat → Nat → Bool := pP (σ (11, i)) (σ (11, j))
def TF (σ : St) (i : Nat) : Nat → Nat → Nat := oB (σ (11, i))
set_option maxHeartbeats 1000000 in
theorem x_pin {σ s : St} {i j : Nat} (hi : i < 11) (hj : j < 11) (gf : gd (σ (11, i))) (gg : gd (σ (11, j))) (hm : modi SP σ s) {n : Nat} {qb : Nat → Nat} {qp : Nat → List Nat} {h : Nat} (X : XS s n qb qp) (B : BI (PF σ i j) (TF σ i) 33 n qb qp h 0) (hh : h < n) (hl : (qp h).length < 1000) : ∃ res, lpF (pinB (11, i) (11, j) (nI (qb h))) ((0 : Int32), s) = some res ∧ ((∃ s' n' qb' qp', res = Sum.inr s' ∧ XS s' n' qb' qp' ∧ BI (PF σ i j) (TF σ i) 33 n' qb' qp' h 40 ∧ h < n' ∧ modi SP σ s') ∨ (∃ s' n' qb' qp' x, res = Sum.inl (Sum.inr (Sum.inr (nI (qb' h), nI x, s'))) ∧ XS s' n' qb' qp' ∧ BI (PF σ i j) (TF σ i) 33 n' qb' qp' h x ∧ h < n' ∧ x < 40 ∧ PF σ i j (qb' h) x = true ∧ qp' h = qp h ∧ modi SP σ s')) := by
  refine lpF_for (fun x a => a.1 = nI x ∧ ∃ n' qb' qp', XS a.2 n' qb' qp' ∧ BI (PF σ i j) (TF σ i) 33 n' qb' qp' h x ∧ h < n' ∧ qb' h = qb h ∧ qp' h = qp h ∧ modi SP σ a.2) 40 ?_ ?_ (by decide) ⟨rfl, n, qb, qp, X, B, hh, rfl, rfl, hm⟩
  · rintro x ⟨y, z⟩ hx ⟨rfl, n', qb', qp', X', B', hh', e1, e2, m'⟩
    replace X' : XS z n' qb' qp' := X'
    replace m' : modi SP σ z := m'
    have hu := (B'.2.1 h hh').1
    obtain ⟨s9, s10, a1, a2, a3, a4, a5, a6, a7⟩ := two_steps (RW.sp (t := 1) hi m') (RW.sp (t := 2) hj m') gf gg hu hx
    have m10 : modi SP σ s10 := by
      have q1 := mX4_setBall (σ := z) (t0 := 1) (a1 := nI (qb' h)) rfl
      have q2 := mX4_setBall (σ := fX4_setBall z 1 (nI (qb' h))) (t0 := 2) (a1 := nI (qb' h)) rfl
      exact (((m'.tr q1 (by decide)).tr q2 (by decide)).tr (mX4_step a1) (by decide)).tr (mX4_step a2) (by decide)
    have X10 := X'.mv a7
    have c40 : ¬ (40 : Int32) ≤ nI x := by rw [show (40 : Int32) = nI 40 from rfl, leI (by decide) (by omega)]; omega
    have oWb : ∀ f b m, oW f b m < 3 := fun f b m => by unfold oW; split <;> (try split) <;> omega
    have oVb1 : oV (σ (11, i)) (qb' h) x < 10 := by obtain ⟨v, _, _, _, h1, _, _, _, _, _, e⟩ := oQ_ok gf hu hx; omega
    have oVb2 : oV (σ (11, j)) (qb' h) x < 10 := by obtain ⟨v, _, _, _, h1, _, _, _, _, _, e⟩ := oQ_ok gg hu hx; omega
    have oBb1 := oB_lt gf hu hx
    have oBb2 := oB_lt gg hu hx
    have w1 := oWb (σ (11, i)) (qb' h) x
    have w2 := oWb (σ (11, j)) (qb' h) x
    have red : pinB (11, i) (11, j) (nI (qb h)) (nI x, z) = (if oW (σ (11, i)) (qb' h) x = oW (σ (11, j)) (qb' h) x then
          if oV (σ (11, i)) (qb' h) x = oV (σ (11, j)) (qb' h) x then
            if oB (σ (11, i)) (qb' h) x = oB (σ (11, j)) (qb' h) x then
              obi (fX5_reach s10 (nI (oB (σ (11, i)) (qb' h) x)) (nI (qb' h)) (nI x)) (fun σ11 =>
              some (.inl (nI (x + 1), σ11)))
            else
              some (.inr (.inl (.inr (.inr (nI (qb' h), nI x, s10)))))
          else
            some (.inr (.inl (.inr (.inr (nI (qb' h), nI x, s10)))))
        else
          some (.inr (.inl (.inr (.inr (nI (qb' h), nI x, s10)))))) := by
      rw [pinB_at, if_neg c40, bnd_eq, bnd_eq, ← e1, a1, obi_s]
      show obi (fX4_step s9 2 (11, j) (nI x)) _ = _
      rw [a2, obi_s]
      show (if nI (oW (σ (11, i)) (qb' h) x) = nI (oW (σ (11, j)) (qb' h) x) then _ else _) = _
      simp only [a3, a4, a5, a6, eqI (show oW (σ (11, i)) (qb' h) x < 2 ^ 31 by omega) (show oW (σ (11, j)) (qb' h) x < 2 ^ 31 by omega), eqI (show oV (σ (11, i)) (qb' h) x < 2 ^ 31 by omega) (show oV (σ (11, j)) (qb' h) x < 2 ^ 31 by omega), eqI (show oB (σ (11, i)) (qb' h) x < 2 ^ 31 by omega) (show oB (σ (11, j)) (qb' h) x < 2 ^ 31 by omega), bnd_eq, nI_1]
    by_cases c : oW (σ (11, i)) (qb' h) x = oW (σ (11, j)) (qb' h) x ∧ oV (σ (11, i)) (qb' h) x = oV (σ (11, j)) (qb' h) x ∧ oB (σ (11, i)) (qb' h) x = oB (σ (11, j)) (qb' h) x
    · have hP : PF σ i j (qb' h) x = false := by
        unfold PF pP
        rw [decide_eq_true c]
        rfl
      obtain ⟨s', n2, qb2, qp2, r1, r2, r3, r4, r5, r6, r7⟩ := x_reach X10 B' hh' hx hP oBb1 (by rw [e2]; exact hl)
      refine Or.inl ⟨(nI (x + 1), s'), ?_, rfl, n2, qb2, qp2, r2, r3, r4, by rw [r5, e1], by rw [r6, e2], m10.tr r7 (by decide)⟩
      rw [red, if_pos c.1, if_pos c.2.1, if_pos c.2.2]
      show obi (fX5_reach s10 (nI (TF σ i (qb' h) x)) (nI (qb' h)) (nI x)) _ = _
      rw [r1, obi_s]
    · have hP : PF σ i j (qb' h) x = true := by
        unfold PF pP
        rw [decide_eq_false c]
        rfl
      refine Or.inr ⟨Sum.inl (Sum.inr (Sum.inr (nI (qb' h), nI x, s10))), ?_, Or.inr ⟨s10, n', qb', qp', x, rfl, X10, B', hh', hx, hP, e2, m10⟩⟩
      rw [red]
      by_cases d1 : oW (σ (11, i)) (qb' h) x = oW (σ (11, j)) (qb' h) x
      · rw [if_pos d1]
        by_cases d2 : oV (σ (11, i)) (qb' h) x = oV (σ (11, j)) (qb' h) x
        · rw [if_pos d2, if_neg (fun d3 => c ⟨d1, d2, d3⟩)]
        · rw [if_neg d2]
      · rw [if_neg d1]
  · rintro ⟨y, z⟩ ⟨rfl, n', qb', qp', X', B', hh', e1, e2, m'⟩
    refine ⟨Sum.inr z, ?_, Or.inl ⟨z, n', qb', qp', rfl, X', B', hh', m'⟩⟩
    rw [pinB_at, if_pos (by decide)]
theorem bi_len {P : Nat → Nat → Bool} {T : Nat → Nat → Nat} {b0 n : Nat} {qb : Nat → Nat} {qp : Nat → List Nat} {h x : Nat} (B : BI P T b0 n qb qp h x) : ∀ m j, j < m → j < n → (qp j).length ≤ j
  | 0, j, h, _ => by omega
  | m + 1, j, hjm, hj => by
    by_cases c : j = 0
    · subst c
      rw [B.1.2.2.2]
      exact Nat.le_refl _
    · obtain ⟨i, y, i1, i2, i3, i4⟩ := B.2.2.2.2 j (by omega) hj
      have := bi_len B m i (by omega) (by omega)
      rw [i3, List.length_append]
      show (qp i).length + 1 ≤ j
      omega
theorem poB_63 (r1 r2 : Rf) (σ4 : St) : poB r1 r2 (nI 63, σ4) = some (.inr (.inl σ4)) := by
  rfl
theorem poB_at (r1 r2 : Rf) {h : Nat} (hh : h < 63) (σ4 : St) : poB r1 r2 (nI h, σ4) = (if (σ4 (5, 0) 8) ≤ nI h then
    some (.inr (.inl σ4))
  else
    grd (inb (nI h) 63) (
    bnd (σ4 (15, 0) (tn (nI h))) (fun x4 =>
    grd (inb x4 63) (
    if (σ4 (16, 0) (tn x4)) < (6 : Int32) then
      bj (lpF (pinB r1 r2 x4) ((0 : Int32), σ4)) (fun σ5 =>
      bnd (nI h + 1) (fun x9 =>
      some (.inl (x9, σ5))))
    else
      some (.inr (.inl σ4)))))) := by
  have c : ¬ (63 : Int32) ≤ nI h := by rw [show (63 : Int32) = nI 63 from rfl, leI (by decide) (by omega)]; omega
  exact if_neg c
set_option maxHeartbeats 1000000 in
theorem x_po {σ s : St} {i j : Nat} (hi : i < 11) (hj : j < 11) (gf : gd (σ (11, i))) (gg : gd (σ (11, j))) (hm : modi SP σ s) (X : XS s 1 (fun _ => 33) (fun _ => [])) : ∃ res, lpF (poB (11, i) (11, j)) ((0 : Int32), s) = some res ∧ ((∃ s', res = Sum.inl s' ∧ modi SP σ s' ∧ ∀ r, PR (PF σ i j) (TF σ i) 33 r → 7 ≤ r.length) ∨ (∃ s' n' qb' qp' h x, res = Sum.inr (nI (qb' h), nI x, s') ∧ XS s' n' qb' qp' ∧ BI (PF σ i j) (TF σ i) 33 n' qb' qp' h x ∧ h < n' ∧ x < 40 ∧ PF σ i j (qb' h) x = true ∧ (qp' h).length < 6)) := by
  refine lpF_for (fun h a => a.1 = nI h ∧ ∃ n qb qp, XS a.2 n qb qp ∧ BI (PF σ i j) (TF σ i) 33 n qb qp h 0 ∧ h ≤ n ∧ modi SP σ a.2) 63 ?_ ?_ (by decide) ⟨rfl, 1, fun _ => 33, fun _ => [], X, bi_start _ _, by omega, hm⟩
  · rintro h ⟨y, z⟩ h63 ⟨rfl, n, qb, qp, X', B', hn, m'⟩
    replace X' : XS z n qb qp := X'
    replace m' : modi SP σ z := m'
    have n63 := B'.1.2.1
    by_cases c : n ≤ h
    · refine Or.inr ⟨Sum.inl z, ?_, Or.inl ⟨z, rfl, m', fun r hr => (bfs_end B' c hr).elim⟩⟩
      rw [poB_at _ _ h63, X'.1, if_pos (by rw [leI (by omega) (by omega)]; exact c)]
    · have hh : h < n := by omega
      have hu := (B'.2.1 h hh).1
      have hl := bi_len B' (h + 1) h (by omega) hh
      obtain ⟨i1, i2⟩ := in63 h63
      obtain ⟨u1, u2⟩ := in63 hu
      have e6 : (nI (qp h).length < (6 : Int32)) = ((qp h).length < 6) := by rw [show (6 : Int32) = nI 6 from rfl, ltI (by omega) (by decide)]
      have red : poB (11, i) (11, j) (nI h, z) = (if (qp h).length < 6 then
      bj (lpF (pinB (11, i) (11, j) (nI (qb h))) ((0 : Int32), z)) (fun σ5 =>
      some (.inl (nI (h + 1), σ5)))
    else
      some (.inr (.inl z))) := by
        rw [poB_at _ _ h63, X'.1, if_neg (by rw [leI (by omega) (by omega)]; exact c), i1, grd_t, i2, bnd_eq, (X'.2.1 h hh).1, u1, grd_t, u2, (X'.2.1 h hh).2]
        simp only [e6, bnd_eq, nI_1]
      by_cases c6 : (qp h).length < 6
      · obtain ⟨res, q1, q2⟩ := x_pin hi hj gf gg m' X' B' hh (by omega)
        rcases q2 with ⟨s', n', qb', qp', e, X2, B2, h2, m2⟩ | ⟨s', n', qb', qp', x, e, X2, B2, h2, x40, hP, ep, m2⟩
        · subst e
          refine Or.inl ⟨(nI (h + 1), s'), ?_, rfl, n', qb', qp', X2, bi_next B2, by omega, m2⟩
          rw [red, if_pos c6, q1, bj_sr]
        · subst e
          refine Or.inr ⟨Sum.inr (nI (qb' h), nI x, s'), ?_, Or.inr ⟨s', n', qb', qp', h, x, rfl, X2, B2, h2, x40, hP, by rw [ep]; exact c6⟩⟩
          rw [red, if_pos c6, q1, bj_sl]
      · refine Or.inr ⟨Sum.inl z, by rw [red, if_neg c6], Or.inl ⟨z, rfl, m', fun r hr => ?_⟩⟩
        by_cases q : 7 ≤ r.length
        · exact q
        · exfalso
          have k1 := bfs_core B' (by omega) hh hr
          have k2 := cd_B (qp h ++ [0]) r 1 1 (by rw [List.length_append]; show _ < (qp h).length + 1; omega) (PR_64 r _ hr) (by decide)
          rw [cdk_1] at k2
          omega
  · rintro ⟨y, z⟩ ⟨rfl, n, qb, qp, X', B', hn, m'⟩
    replace X' : XS z n qb qp := X'
    have n63 := B'.1.2.1
    refine ⟨Sum.inl z, ?_, Or.inl ⟨z, rfl, m', fun r hr => (bfs_end B' n63 hr).elim⟩⟩
    rw [poB_63]
/-- the row is written -/
def rowIs (s : St) (F : Nat) (ρ : List Nat) : Prop := ∀ a y b, ρ = a ++ y :: b → s (F, 0) a.length = nI y
set_option maxHeartbeats 1000000 in
theorem x_trace {P : Nat → Nat → Bool} {T : Nat → Nat → Nat} {s : St} {n : Nat} {qb : Nat → Nat} {qp : Nat → List Nat} {h x x' : Nat} (X : XS s n qb qp) (B : BI P T 33 n qb qp h x') (hh : h < n) (hl : (qp h).length < 6) : ∃ s', fX5_traceRow s (nI (qb h)) (nI x) = some s' ∧ s' (5, 0) 7 = nI (qp h ++ [x]).length ∧ rowIs s' 19 (qp h ++ [x]) := by
  obtain ⟨u1, u2⟩ := in63 (B.2.1 h hh).1
  have in6 : ∀ k, k < 6 → inb (nI k) 6 = true ∧ tn (nI k) = k := fun k hk => by
    rw [inb_nI (by omega), tn_nI (by omega)]
    simp
    exact hk
  unfold fX5_traceRow
  generalize hL : (qp h).length = L at hl
  rw [u1, grd_t, bnd_eq, u2, (X.2.1 h hh).2, hL, nI_1, su_hit, show nI (L + 1) - 1 = nI L from nI_pred L, (in6 L hl).1, grd_t, bnd_eq, (in6 L hl).2, bnd_eq, su_ref _ _ _ _ (by decide), su_hit]
  have len : (qp h ++ [x]).length = L + 1 := by rw [List.length_append, hL]; rfl
  have lst : ∀ a y b, qp h ++ [x] = a ++ y :: b → L ≤ a.length → a.length = L ∧ y = x := by
    intro a y b e hle
    have h1 := congrArg List.length e
    rw [len, List.length_append, List.length_cons] at h1
    have hb : b = [] := List.length_eq_zero_iff.1 (by omega)
    subst hb
    have ha : a.length = L := by rw [List.length_nil] at h1; omega
    refine ⟨ha, ?_⟩
    have := List.append_inj e (by rw [hL, ha])
    exact (List.cons.inj this.2).1.symm
  have key : ∃ s', lpF (fun (q6 : Int32 × Int32 × St) => match q6 with
  | (x2, x3, σ3) =>
  if x3 < 0 then
    some (.inr σ3)
  else
    grd (inb x2 63) (
    grd (inb x3 6) (bnd (su σ3 (19, 0) (tn x3) (σ3 (18, 0) (tn x2))) (fun σ4 =>
    grd (inb x2 63) (
    bnd (σ4 (17, 0) (tn x2)) (fun x4 =>
    bnd (x3 + (-1)) (fun x5 =>
    some (.inl (x4, x5, σ4))))))))) (nI (qb h), nI (L + 1) - 2, su (su s (5, 0) 7 (nI (L + 1))) (19, 0) L (nI x)) = some s' ∧ s' (5, 0) 7 = nI (L + 1) ∧ rowIs s' 19 (qp h ++ [x]) := by
    refine lpF_for (fun d a => ∃ j t, j < n ∧ qp h = qp j ++ t ∧ (qp j).length + d = L ∧ a.1 = nI (qb j) ∧ a.2.1 = nI (qp j).length - 1 ∧ (∀ k, a.2.2 (17, 0) k = s (17, 0) k ∧ a.2.2 (18, 0) k = s (18, 0) k) ∧ a.2.2 (5, 0) 7 = nI (L + 1) ∧ ∀ a' y b, qp h ++ [x] = a' ++ y :: b → (qp j).length ≤ a'.length → a.2.2 (19, 0) a'.length = nI y) L ?_ ?_ (by omega) ?_
    · rintro d ⟨x2, x3, z⟩ hd ⟨j, t, j1, j2, j3, e1, e2, e3, e4, e5⟩
      replace e1 : x2 = nI (qb j) := e1
      replace e2 : x3 = nI (qp j).length - 1 := e2
      replace e3 : ∀ k, z (17, 0) k = s (17, 0) k ∧ z (18, 0) k = s (18, 0) k := e3
      replace e4 : z (5, 0) 7 = nI (L + 1) := e4
      replace e5 : ∀ a' y b, qp h ++ [x] = a' ++ y :: b → (qp j).length ≤ a'.length → z (19, 0) a'.length = nI y := e5
      subst e1
      have hj0 : 0 < j := by
        by_cases c : j = 0
        · subst c
          rw [B.1.2.2.2] at j3
          have : ([] : List Nat).length = 0 := rfl
          omega
        · omega
      obtain ⟨k, y, k1, k2, k3, k4, k5⟩ := X.2.2.2 j hj0 j1
      have lj : (qp j).length = (qp k).length + 1 := by rw [k3, List.length_append]; rfl
      have e2' : x3 = nI (qp k).length := by rw [e2, lj]; exact nI_pred _
      subst e2'
      obtain ⟨v1, v2⟩ := in63 (B.2.1 j j1).1
      obtain ⟨w1, w2⟩ := in6 (qp k).length (by omega)
      refine Or.inl ⟨(nI (qb k), nI (qp k).length - 1, su z (19, 0) (qp k).length (nI y)), ?_, k, y :: t, by omega, by rw [j2, k3]; simp, by omega, rfl, rfl, fun k' => ?_, ?_, ?_⟩
      · show (if nI (qp k).length < 0 then _ else _) = _
        rw [if_neg (nI_pos (by omega)), v1, grd_t, w1, grd_t, bnd_eq, w2, v2, (e3 _).2, k5, grd_t, bnd_eq, su_ref _ _ _ _ (by decide), (e3 _).1, k4, bnd_eq, Int32.sub_eq_add_neg]
      · show su z (19, 0) (qp k).length (nI y) (17, 0) k' = _ ∧ su z (19, 0) (qp k).length (nI y) (18, 0) k' = _
        rw [su_ref _ _ _ _ (by decide), su_ref _ _ _ _ (by decide)]
        exact e3 k'
      · show su z (19, 0) (qp k).length (nI y) (5, 0) 7 = _
        rw [su_ref _ _ _ _ (by decide), e4]
      · intro a' y' b' e hle
        show su z (19, 0) (qp k).length (nI y) (19, 0) a'.length = _
        by_cases c : a'.length = (qp k).length
        · rw [c, su_hit]
          have e' : qp k ++ (y :: (t ++ [x])) = a' ++ y' :: b' := by
            rw [← e, j2, k3]
            simp
          have := List.append_inj e' c.symm
          rw [(List.cons.inj this.2).1]
        · rw [su_slot _ _ _ _ c]
          exact e5 a' y' b' e (by omega)
    · rintro ⟨x2, x3, z⟩ ⟨j, t, j1, j2, j3, e1, e2, e3, e4, e5⟩
      replace e2 : x3 = nI (qp j).length - 1 := e2
      have l0 : (qp j).length = 0 := by omega
      rw [l0] at e2
      refine ⟨z, ?_, e4, fun a y b e => e5 a y b e (by omega)⟩
      show (if x3 < 0 then _ else _) = _
      rw [e2, if_pos (by decide)]
    · refine ⟨h, [], hh, by simp, by omega, rfl, ?_, fun k => ?_, ?_, ?_⟩
      · show nI (L + 1) - 2 = nI (qp h).length - 1
        rw [hL, ← nI_1]
        show nI L + 1 - 2 = nI L - 1
        rw [Int32.sub_eq_add_neg, Int32.sub_eq_add_neg, Int32.add_assoc]
        rfl
      · show su (su s (5, 0) 7 (nI (L + 1))) (19, 0) L (nI x) (17, 0) k = _ ∧ su (su s (5, 0) 7 (nI (L + 1))) (19, 0) L (nI x) (18, 0) k = _
        rw [su_ref _ _ _ _ (by decide), su_ref _ _ _ _ (by decide), su_ref _ _ _ _ (by decide), su_ref _ _ _ _ (by decide)]
        exact ⟨rfl, rfl⟩
      · show su (su s (5, 0) 7 (nI (L + 1))) (19, 0) L (nI x) (5, 0) 7 = _
        rw [su_ref _ _ _ _ (by decide), su_hit]
      · intro a' y b e hle
        show su (su s (5, 0) 7 (nI (L + 1))) (19, 0) L (nI x) (19, 0) a'.length = _
        obtain ⟨q1, q2⟩ := lst a' y b e (by omega)
        rw [q1, su_hit, q2]
  obtain ⟨s', f1, f2, f3⟩ := key
  rw [len]
  exact ⟨s', f1, f2, f3⟩
