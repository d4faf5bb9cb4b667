set_option maxHeartbeats 4000000 in
theorem g_fits {σ τ : St} {t m n : Nat} {r : Rf} (hr : RK σ r τ) (hp : PM σ τ m n) : ∃ b σ' τ', fX3_agreesWith σ m r t = some (b, σ') ∧ lpF (fun (q3 : St) => match q3 with
  | σ3 =>
  obi (fX9_isOver σ3 (nI m)) (fun x1 =>
  if x1 = true then
    some (.inr ((true, σ3)))
  else
    grd (inb (((40 : Int32) * nI m) + (σ3 (9, 0) 23)) 480) (
    bnd (σ3 (38, 0) (tn (((40 : Int32) * nI m) + (σ3 (9, 0) 23)))) (fun x2 =>
    obi (fX9_steps σ3 (nI m)) (fun (x3, σ4) =>
    bj (if x2 = (-1 : Int32) then
      some (.inr ())
    else
      bj (if x3 = (1 : Int32) then
        if x2 = 0 then
          some (.inl (.inl (.inr ((false, σ4)))))
        else
          some (.inr ())
      else
        some (.inr ())) (fun _ =>
      if x3 = (2 : Int32) then
        if x2 = (1 : Int32) then
          some (.inl (.inr ((false, σ4))))
        else
          some (.inr ())
      else
        some (.inr ()))) (fun _ =>
    some (.inl σ4))))))) (fX9_clears τ) = some (b, τ') ∧ mg τ τ' := by
  obtain ⟨b1, b2, b3, b4⟩ := g_begin (σ := σ) (τ := τ) t
  have h40 := hp.2.1
  have hm12 := hp.1
  suffices hh : ∃ x y, fX3_agreesWith σ m r t = some x ∧ lpF (fun (q3 : St) => match q3 with
  | σ3 =>
  obi (fX9_isOver σ3 (nI m)) (fun x1 =>
  if x1 = true then
    some (.inr ((true, σ3)))
  else
    grd (inb (((40 : Int32) * nI m) + (σ3 (9, 0) 23)) 480) (
    bnd (σ3 (38, 0) (tn (((40 : Int32) * nI m) + (σ3 (9, 0) 23)))) (fun x2 =>
    obi (fX9_steps σ3 (nI m)) (fun (x3, σ4) =>
    bj (if x2 = (-1 : Int32) then
      some (.inr ())
    else
      bj (if x3 = (1 : Int32) then
        if x2 = 0 then
          some (.inl (.inl (.inr ((false, σ4)))))
        else
          some (.inr ())
      else
        some (.inr ())) (fun _ =>
      if x3 = (2 : Int32) then
        if x2 = (1 : Int32) then
          some (.inl (.inr ((false, σ4))))
        else
          some (.inr ())
      else
        some (.inr ()))) (fun _ =>
    some (.inl σ4))))))) (fX9_clears τ) = some y ∧ (x.1 = y.1 ∧ mg τ y.2) by
    obtain ⟨⟨x1, x2⟩, ⟨y1, y2⟩, g1, g2, g3, g4⟩ := hh
    replace g3 : x1 = y1 := g3
    subst g3
    exact ⟨_, _, _, g1, g2, g4⟩
  unfold fX3_agreesWith
  rw [bnd_eq]
  refine lpF2 (Q := fun (x y : Bool × St) => x.1 = y.1 ∧ mg τ y.2) (fun d (a : Int32 × St) (b : St) => ∃ i, d + i = n ∧ a.1 = nI i ∧ GQ a.2 t b ∧ xf t σ a.2 ∧ mg τ b ∧ b (9, 0) 23 = nI i) ?_ (d := n) (by omega) ⟨0, rfl, rfl, b1, b2, b3, b4⟩
  rintro d ⟨x, s⟩ s' ⟨i, hd, rfl, hq, fx, fm, e23⟩
  replace hq : GQ s t s' := hq
  replace fx : xf t σ s := fx
  have hr' := hr.mg fx fm
  have hp' := hp.mv fx fm
  obtain ⟨b, o1, o2⟩ := g_over hq hr' hp' (show i ≤ n by omega) e23
  have sz : s (3, m) 2 = nI n := hp'.2.2.1
  by_cases ci : i = n
  · subst ci
    refine Or.inr ⟨(true, s), (true, s'), ?_, ?_, rfl, fm⟩
    · simp only [sz, leI (show i < 2 ^ 31 by omega) (show i < 2 ^ 31 by omega), Nat.le_refl, if_true]
    · simp only [o2, decide_true, Bool.true_or, obi_s, if_true]
  · have hin : i < n := by omega
    rw [show decide (i = n) = false from decide_eq_false ci, Bool.false_or] at o2
    have ns : ¬ nI n ≤ nI i := by rw [leI (by omega) (by omega)]; omega
    cases b with
    | true =>
      refine Or.inr ⟨(true, s), (true, s'), ?_, ?_, rfl, fm⟩
      · simp only [sz, ns, if_false, o1, obi_s, if_true]
      · simp only [o2, obi_s, if_true]
    | false =>
      obtain ⟨w, s2, t2, q1, q2, q3, q4, q5, q6⟩ := gq_step (v := s (13, m) i) hq hr' hp'.1 (show i < 40 by omega) e23 (hp'.2.2.2.2 i hin).1
      have i40 : inb (nI i) 40 = true := by rw [inb_nI (by omega)]; simp; omega
      have e40 : (40 : Int32) * nI m + nI i = nI (40 * m + i) := by rw [show (40 : Int32) = nI 40 from rfl, pk_mul, nI_add]
      have i480 : inb (nI (40 * m + i)) 480 = true := by rw [inb_nI (by omega)]; simp; omega
      have v1 : s' (38, 0) (40 * m + i) = s (14, m) i := (hp'.2.2.2.2 i hin).2
      have v2 : s2 (14, m) i = s (14, m) i := q4 _ _ (by simp)
      simp only [sz, ns, if_false, o1, obi_s, Bool.false_eq_true, i40, grd_t, tn_nI (show i < 2 ^ 31 by omega), q1, bnd_eq, nI_1, o2, e23, e40, i480, tn_nI (show 40 * m + i < 2 ^ 31 by omega), q2, v1, v2]
      have go : ∃ a' b' d', (some (Sum.inl (nI (i + 1), s2)) : Option ((Int32 × St) ⊕ (Bool × St))) = some (.inl a') ∧ (some (Sum.inl t2) : Option (St ⊕ (Bool × St))) = some (.inl b') ∧ d = d' + 1 ∧ ∃ i, d' + i = n ∧ a'.1 = nI i ∧ GQ a'.2 t b' ∧ xf t σ a'.2 ∧ mg τ b' ∧ b' (9, 0) 23 = nI i := ⟨_, _, d - 1, rfl, rfl, by omega, i + 1, by omega, rfl, q3, fx.tr q4, fm.tr q5, q6⟩
      have no : ∃ x y, (some (Sum.inr (false, s2)) : Option ((Int32 × St) ⊕ (Bool × St))) = some (.inr x) ∧ (some (Sum.inr (false, t2)) : Option (St ⊕ (Bool × St))) = some (.inr y) ∧ (x.1 = y.1 ∧ mg τ y.2) := ⟨_, _, rfl, rfl, rfl, fm.tr q5⟩
      generalize s (14, m) i = u
      by_cases w1 : w = 1
      · subst w1
        simp only [if_true, show ¬ (1 : Int32) = 2 by decide, if_false, bj_sr]
        by_cases u0 : u = 0
        · subst u0
          simp only [if_true, bj_sl, show ¬ (0 : Int32) = -1 by decide, if_false]
          exact Or.inr no
        · simp only [u0, if_false, bj_sr]
          by_cases um : u = -1
          · subst um
            simp only [if_true, bj_sr]
            exact Or.inl go
          · simp only [um, if_false, bj_sr]
            exact Or.inl go
      · simp only [w1, if_false, bj_sr]
        by_cases w2 : w = 2
        · subst w2
          simp only [if_true]
          by_cases u1 : u = 1
          · subst u1
            simp only [if_true, bj_sl, show ¬ (1 : Int32) = -1 by decide, if_false]
            exact Or.inr no
          · simp only [u1, if_false, bj_sr]
            by_cases um : u = -1
            · subst um
              simp only [if_true, bj_sr]
              exact Or.inl go
            · simp only [um, if_false, bj_sr]
              exact Or.inl go
        · simp only [w2, if_false, bj_sr]
          by_cases um : u = -1
          · subst um
            simp only [if_true, bj_sr]
            exact Or.inl go
          · simp only [um, if_false, bj_sr]
            exact Or.inl go
