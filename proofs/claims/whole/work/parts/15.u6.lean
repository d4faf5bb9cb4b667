abbrev SP : List Nat := [15, 16, 17, 18, 1400, 1401, 1402, 1403, 1404, 1405, 1406, 1407, 1408, 1409, 1508]
def XS (s : St) (n : Nat) (qb : Nat → Nat) (qp : Nat → List Nat) : Prop :=
  s (5, 0) 8 = nI n ∧ (∀ i, i < n → s (15, 0) i = nI (qb i) ∧ s (16, 0) (qb i) = nI (qp i).length) ∧ (∀ b, b < 63 → (∀ i, i < n → ¬ qb i = b) → s (16, 0) b = -1) ∧
  ∀ j, 0 < j → j < n → ∃ i y, i < j ∧ y < 40 ∧ qp j = qp i ++ [y] ∧ s (17, 0) (qb j) = nI (qb i) ∧ s (18, 0) (qb j) = nI y
theorem XS.mv {s s' : St} {n : Nat} {qb : Nat → Nat} {qp : Nat → List Nat} (h : XS s n qb qp) (hm : ∀ r k, (¬ r = (4, 1)) → (¬ r = (4, 2)) → s' r k = s r k) : XS s' n qb qp := by
  obtain ⟨h1, h2, h3, h4⟩ := h
  refine ⟨by rw [hm _ _ (by decide) (by decide), h1], fun i hi => ?_, fun b hb hn => ?_, fun j j1 j2 => ?_⟩
  · rw [hm _ _ (by simp) (by simp), hm _ _ (by simp) (by simp)]
    exact h2 i hi
  · rw [hm _ _ (by simp) (by simp)]
    exact h3 b hb hn
  · obtain ⟨i, y, i1, i2, i3, i4, i5⟩ := h4 j j1 j2
    exact ⟨i, y, i1, i2, i3, by rw [hm _ _ (by simp) (by simp)]; exact i4, by rw [hm _ _ (by simp) (by simp)]; exact i5⟩
theorem in63 {b : Nat} (hb : b < 63) : inb (nI b) 63 = true ∧ tn (nI b) = b := by
  rw [inb_nI (by omega), tn_nI (by omega)]
  simp
  exact hb
set_option maxHeartbeats 1000000 in
theorem x_reach {P : Nat → Nat → Bool} {T : Nat → Nat → Nat} {b0 n : Nat} {qb : Nat → Nat} {qp : Nat → List Nat} {h x : Nat} {s : St} (X : XS s n qb qp) (B : BI P T b0 n qb qp h x) (hh : h < n) (hx : x < 40) (hP : P (qb h) x = false) (hb : T (qb h) x < 63) (hl : (qp h).length < 1000) : ∃ s' n' qb' qp', fX5_reach s (nI (T (qb h) x)) (nI (qb h)) (nI x) = some s' ∧ XS s' n' qb' qp' ∧ BI P T b0 n' qb' qp' h (x + 1) ∧ h < n' ∧ qb' h = qb h ∧ qp' h = qp h ∧ modi [15, 16, 17, 18, 1508] s s' := by
  obtain ⟨X1, X2, X3, X4⟩ := X
  obtain ⟨i1, i2⟩ := in63 hb
  obtain ⟨u1, u2⟩ := in63 (B.2.1 h hh).1
  unfold fX5_reach
  rw [i1, grd_t, i2]
  by_cases c : ∃ j, j < n ∧ qb j = T (qb h) x
  · obtain ⟨j, j1, j2⟩ := c
    have e := (X2 j j1).2
    rw [j2] at e
    have hj := (B.2.1 j j1).2.1
    refine ⟨s, n, qb, qp, ?_, ⟨X1, X2, X3, X4⟩, bi_old B hh hP j1 j2, hh, rfl, rfl, modi.rf⟩
    rw [e, if_neg]
    intro e'
    have e'' := congrArg Int32.toInt e'
    have ljl : (qp j).length < 2 ^ 31 := by
      by_cases q : (qp j).length < 2 ^ 31
      · exact q
      · exfalso
        have k1 := bi_lt B hh j1
        have kb := cd_B (qp j) (qp h ++ [x]) 1 1 (by rw [List.length_append]; show (qp h).length + 1 < _; omega) (by
          intro y hy
          rcases List.mem_append.1 hy with q | q
          · exact ok_64 _ _ (B.2.1 h hh).2.1 y q
          · rw [List.mem_singleton] at q
            omega) (by decide)
        rw [cdk_1] at kb
        omega
    rw [nI_toInt ljl] at e''
    have : (-1 : Int32).toInt = -1 := rfl
    omega
  · have hn : ∀ i, i < n → ¬ qb i = T (qb h) x := fun i hi e => c ⟨i, hi, e⟩
    have hf := bi_full B hb hn
    have e63 : nI n < (63 : Int32) := by rw [show (63 : Int32) = nI 63 from rfl, ltI (by omega) (by decide)]; omega
    rw [X3 _ hb hn, if_pos rfl, X1, if_pos e63, u1, grd_t, grd_t, bnd_eq, grd_t, bnd_eq, grd_t, bnd_eq, u2, (X2 h hh).2, nI_1]
    generalize hs3 : su (su (su s (16, 0) (T (qb h) x) (nI ((qp h).length + 1))) (17, 0) (T (qb h) x) (nI (qb h))) (18, 0) (T (qb h) x) (nI x) = s3
    have m3 : modi [16, 17, 18] s s3 := by
      subst hs3
      exact (((modi.rf (L := [16, 17, 18])).su (by rw [cod_a (by decide)]; decide)).su (by rw [cod_a (by decide)]; decide)).su (by rw [cod_a (by decide)]; decide)
    have s38 : s3 (5, 0) 8 = nI n := by rw [m3 (5, 0) 8 (by rw [cod_o (by decide)]; decide), X1]
    obtain ⟨n1, n2⟩ := in63 hf
    rw [s38, n1, grd_t, bnd_eq, n2, bnd_eq, su_ref _ _ _ _ (by decide), s38, nI_1]
    have F : ∀ (r : Rf) (k : Nat), (¬ r = (15, 0)) → (¬ r = (5, 0)) → su (su s3 (15, 0) n (nI (T (qb h) x))) (5, 0) 8 (nI (n + 1)) r k = s3 r k := fun r k h1 h2 => by rw [su_ref _ _ _ _ h2, su_ref _ _ _ _ h1]
    have F15 : ∀ k, su (su s3 (15, 0) n (nI (T (qb h) x))) (5, 0) 8 (nI (n + 1)) (15, 0) k = su s3 (15, 0) n (nI (T (qb h) x)) (15, 0) k := fun k => su_ref _ _ _ _ (by decide)
    have F8 : su (su s3 (15, 0) n (nI (T (qb h) x))) (5, 0) 8 (nI (n + 1)) (5, 0) 8 = nI (n + 1) := su_hit _ _ _ _
    have FM : modi [15, 16, 17, 18, 1508] s (su (su s3 (15, 0) n (nI (T (qb h) x))) (5, 0) 8 (nI (n + 1))) := ((modi.tr (modi.rf (L := [15, 16, 17, 18, 1508])) m3 (by decide)).su (by rw [cod_a (by decide)]; decide)).su (by rw [cod_o (by decide)]; decide)
    have G16 : ∀ k, s3 (16, 0) k = su s (16, 0) (T (qb h) x) (nI ((qp h).length + 1)) (16, 0) k := fun k => by subst hs3; rw [su_ref _ _ _ _ (by decide), su_ref _ _ _ _ (by decide)]
    have G17 : ∀ k, s3 (17, 0) k = if k = T (qb h) x then nI (qb h) else s (17, 0) k := fun k => by
      subst hs3
      rw [su_ref _ _ _ _ (by decide)]
      by_cases e : k = T (qb h) x
      · rw [if_pos e, e, su_hit]
      · rw [if_neg e, su_slot _ _ _ _ e, su_ref _ _ _ _ (by decide)]
    have G18 : ∀ k, s3 (18, 0) k = if k = T (qb h) x then nI x else s (18, 0) k := fun k => by
      subst hs3
      by_cases e : k = T (qb h) x
      · rw [if_pos e, e, su_hit]
      · rw [if_neg e, su_slot _ _ _ _ e, su_ref _ _ _ _ (by decide), su_ref _ _ _ _ (by decide)]
    generalize su (su s3 (15, 0) n (nI (T (qb h) x))) (5, 0) 8 (nI (n + 1)) = S at F F15 F8 FM
    refine ⟨S, n + 1, updN qb n (T (qb h) x), updN qp n (qp h ++ [x]), rfl, ⟨F8, fun i hi => ?_, fun b hb' hnb => ?_, fun j j1 j2 => ?_⟩, bi_new B hh hx hP hb hn, by omega, updN_o _ _ hh, updN_o _ _ hh, FM⟩
    · rw [F15, F (16, 0) _ (by decide) (by decide), G16]
      by_cases ci : i = n
      · subst ci
        rw [su_hit, updN_n, updN_n, su_hit, List.length_append]
        exact ⟨rfl, rfl⟩
      · have hin : i < n := by omega
        rw [su_slot _ _ _ _ ci, m3 (15, 0) i (by rw [cod_a (by decide)]; decide), updN_o _ _ hin, updN_o _ _ hin, su_slot _ _ _ _ (hn i hin)]
        exact X2 i hin
    · have bn : ¬ b = T (qb h) x := fun e => hnb n (by omega) (by rw [updN_n, e])
      rw [F (16, 0) _ (by decide) (by decide), G16, su_slot _ _ _ _ bn]
      refine X3 b hb' (fun i hi => ?_)
      have := hnb i (by omega)
      rw [updN_o _ _ hi] at this
      exact this
    · rw [F (17, 0) _ (by decide) (by decide), F (18, 0) _ (by decide) (by decide), G17, G18]
      by_cases cj : j = n
      · subst cj
        refine ⟨h, x, hh, hx, by rw [updN_n, updN_o _ _ hh], ?_, ?_⟩
        · rw [updN_n, if_pos rfl, updN_o _ _ hh]
        · rw [updN_n, if_pos rfl]
      · have hjn : j < n := by omega
        obtain ⟨i, y, k1, k2, k3, k4, k5⟩ := X4 j j1 hjn
        refine ⟨i, y, k1, k2, by rw [updN_o _ _ hjn, updN_o _ _ (show i < n by omega)]; exact k3, ?_, ?_⟩
        · rw [updN_o _ _ hjn, updN_o _ _ (show i < n by omega), if_neg (hn j hjn)]
          exact k4
        · rw [updN_o _ _ hjn, if_neg (hn j hjn)]
          exact k5
