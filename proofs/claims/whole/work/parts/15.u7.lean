theorem begin_b {s : St} (t : Nat) : fX4_begin s t (4, t) 0 = 3 ∧ fX4_begin s t (4, t) 1 = 2 ∧ fX4_begin s t (4, t) 2 = 0 ∧ xf t s (fX4_begin s t) := by
  obtain ⟨-, b2, -, -⟩ := g_begin (σ := s) (τ := s) t
  unfold fX4_begin
  simp only [bnd_eq]
  refine ⟨by simp [su_app], by simp [su_app], by simp [su_app], ?_⟩
  have := b2
  unfold fX4_begin at this
  simp only [bnd_eq] at this
  exact this
theorem x_start (σ : St) : ∃ s, fX5_start σ = some s ∧ XS s 1 (fun _ => 33) (fun _ => []) := by
  unfold fX5_start
  rw [fill_srg (σ := σ) (r := (16, 0)) (-1) (by decide), obi_s, bnd_eq, bnd_eq, bnd_eq, show alen (16, 0).1 = 63 from rfl]
  generalize h1 : srg σ (16, 0) 0 63 (fun _ => (-1 : Int32)) = s1
  obtain ⟨a0, a1, a2, a3⟩ := begin_b (s := s1) 1
  obtain ⟨c0, c1, c2, c3⟩ := begin_b (s := fX4_begin s1 1) 2
  generalize hs3 : fX4_begin (fX4_begin s1 1) 2 = s3
  rw [hs3] at c0 c1 c2 c3
  have ball : fX4_ball s3 1 = 33 := by
    unfold fX4_ball
    rw [c3 (4, 1) 0 (by decide), c3 (4, 1) 1 (by decide), c3 (4, 1) 2 (by decide), a0, a1, a2]
    decide
  have d16 : ∀ b, b < 63 → s3 (16, 0) b = -1 := fun b hb => by
    rw [c3 (16, 0) b (by decide), a3 (16, 0) b (by decide), ← h1, srg_app, if_pos ⟨rfl, by omega, by omega⟩]
  rw [ball, bnd_eq, show inb (33 : Int32) 63 = true by decide, grd_t, bnd_eq, bnd_eq, show tn (33 : Int32) = 33 from rfl, show tn (0 : Int32) = 0 from rfl]
  have F : ∀ (r : Rf) (k : Nat), (¬ r = (15, 0)) → (¬ r = (5, 0)) → su (su (su s3 (16, 0) 33 0) (15, 0) 0 33) (5, 0) 8 1 r k = su s3 (16, 0) 33 0 r k := fun r k h1 h2 => by rw [su_ref _ _ _ _ h2, su_ref _ _ _ _ h1]
  refine ⟨_, rfl, su_hit _ _ _ _, fun i hi => ?_, fun b hb hn => ?_, fun j j1 j2 => by omega⟩
  · have : i = 0 := by omega
    subst this
    rw [F (16, 0) _ (by decide) (by decide), su_hit]
    refine ⟨?_, rfl⟩
    rw [su_ref _ _ _ _ (by decide), su_hit]
    rfl
  · have : ¬ b = 33 := fun e => hn 0 (by omega) e.symm
    rw [F (16, 0) _ (by decide) (by decide), su_slot _ _ _ _ this]
    exact d16 b hb
theorem bi_start (P : Nat → Nat → Bool) (T : Nat → Nat → Nat) : BI P T 33 1 (fun _ => 33) (fun _ => []) 0 0 := by
  refine ⟨⟨by omega, by omega, rfl, rfl⟩, fun i hi => ⟨by show 33 < 63; omega, trivial, rfl⟩, fun i j h1 h2 => by omega, fun i y h1 h2 h3 => by omega, fun j h1 h2 => by omega⟩
theorem xf_two {s s9 s10 : St} (h1 : xf 1 s s9) (h2 : xf 2 s9 s10) : ∀ (r : Rf) (k : Nat), (¬ r = (4, 1)) → (¬ r = (4, 2)) → s10 r k = s r k := fun r k a b => (h2 r k b).trans (h1 r k a)
theorem setB_c (s : St) (u : Int32) : fX4_setBall (fX4_setBall s 1 u) 2 u = fX4_setBall (fX4_setBall s 2 u) 1 u := by
  unfold fX4_setBall
  simp only [bnd_eq]
  funext r k
  simp only [su_app]
  by_cases c1 : r = (4, 1)
  · subst c1
    simp
  · by_cases c2 : r = (4, 2)
    · subst c2
      simp
    · simp [c1, c2]
theorem setB_xf (s : St) (t : Nat) (u : Int32) : xf t s (fX4_setBall s t u) := by
  unfold fX4_setBall
  simp only [bnd_eq]
  exact ((xf.rf.su _ _).su _ _).su _ _
theorem setB_same {s s9 : St} {u : Int32} (h : ∀ k, s9 (4, 2) k = fX4_setBall s 2 u (4, 2) k) : fX4_setBall s9 2 u = s9 := by
  have e0 : s9 (4, 2) 0 = u / 9 := by rw [h]; unfold fX4_setBall; simp [bnd_eq, su_app]
  have e1 : s9 (4, 2) 1 = irm (u / 3) 3 := by rw [h]; unfold fX4_setBall; simp [bnd_eq, su_app]
  have e2 : s9 (4, 2) 2 = irm u 3 := by rw [h]; unfold fX4_setBall; simp [bnd_eq, su_app]
  unfold fX4_setBall
  simp only [bnd_eq]
  rw [su_same s9 (4, 2) 0 e0, su_same s9 (4, 2) 1 e1, su_same s9 (4, 2) 2 e2]
theorem two_steps {s : St} {r1 r2 : Rf} {f g : Nat → Int32} (h1 : RW s r1 1 f) (h2 : RW s r2 2 g) (hf : gd f) (hg : gd g) {b m : Nat} (hb : b < 63) (hm : m < 40) : ∃ s9 s10, fX4_step (fX4_setBall (fX4_setBall s 1 (nI b)) 2 (nI b)) 1 r1 (nI m) = some (nI (oW f b m), s9) ∧ fX4_step s9 2 r2 (nI m) = some (nI (oW g b m), s10) ∧ s10 (4, 1) 3 = nI (oV f b m) ∧ s10 (4, 2) 3 = nI (oV g b m) ∧ fX4_ball s10 1 = nI (oB f b m) ∧ fX4_ball s10 2 = nI (oB g b m) ∧ ∀ (r : Rf) (k : Nat), (¬ r = (4, 1)) → (¬ r = (4, 2)) → s10 r k = s r k := by
  have x2 := setB_xf s 2 (nI b)
  have h1' : RW (fX4_setBall s 2 (nI b)) r1 1 f := ⟨h1.1, h1.2.1, h1.2.2.1, fun k hk => by rw [x2 r1 k (fun e => h1.2.2.1 (by rw [e]))]; exact h1.2.2.2 k hk⟩
  obtain ⟨s9, a1, a2, a3, a4⟩ := x_out h1' hf hb hm
  rw [← setB_c] at a1
  have sm : fX4_setBall s9 2 (nI b) = s9 := setB_same (s := s) (fun k => a4 (4, 2) k (by decide))
  have h2' : RW s9 r2 2 g := ⟨h2.1, h2.2.1, h2.2.2.1, fun k hk => by rw [a4 r2 k (fun e => h2.2.2.1 (by rw [e])), x2 r2 k (fun e => h2.2.2.1 (by rw [e]))]; exact h2.2.2.2 k hk⟩
  obtain ⟨s10, c1, c2, c3, c4⟩ := x_out h2' hg hb hm
  rw [sm] at c1
  refine ⟨s9, s10, a1, c1, ?_, c2, ?_, c3, fun r k n1 n2 => by rw [c4 r k n2, a4 r k n1, x2 r k n2]⟩
  · rw [c4 (4, 1) 3 (by decide), a2]
  · unfold fX4_ball at a3 ⊢
    rw [c4 (4, 1) 0 (by decide), c4 (4, 1) 1 (by decide), c4 (4, 1) 2 (by decide)]
    exact a3
/-- two rows part here -/
def pP (f g : Nat → Int32) (b x : Nat) : Bool := !(decide (oW f b x = oW g b x ∧ oV f b x = oV g b x ∧ oB f b x = oB g b x))
def pinB (r1 r2 : Rf) (x4 : Int32) : Int32 × St → Option ((Int32 × St) ⊕ (((Int32 × St) ⊕ (St ⊕ (Int32 × Int32 × St))) ⊕ St)) := fun (q13 : Int32 × St) => match q13 with
      | (x5, σ6) =>
      if (40 : Int32) ≤ x5 then
        some (.inr (.inr σ6))
      else
        bnd (fX4_setBall σ6 1 x4) (fun σ7 =>
        bnd (fX4_setBall σ7 2 x4) (fun σ8 =>
        obi (fX4_step σ8 1 r1 x5) (fun (x6, σ9) =>
        obi (fX4_step σ9 2 r2 x5) (fun (x7, σ10) =>
        if x6 = x7 then
          if (σ10 (4, 1) 3) = (σ10 (4, 2) 3) then
            if (fX4_ball σ10 1) = (fX4_ball σ10 2) then
              obi (fX5_reach σ10 (fX4_ball σ10 1) x4 x5) (fun σ11 =>
              bnd (x5 + 1) (fun x8 =>
              some (.inl (x8, σ11))))
            else
              some (.inr (.inl (.inr (.inr (x4, x5, σ10)))))
          else
            some (.inr (.inl (.inr (.inr (x4, x5, σ10)))))
        else
          some (.inr (.inl (.inr (.inr (x4, x5, σ10)))))))))
def poB (r1 r2 : Rf) : Int32 × St → Option ((Int32 × St) ⊕ (St ⊕ (Int32 × Int32 × St))) := fun (q4 : Int32 × St) => match q4 with
  | (x3, σ4) =>
  if (63 : Int32) ≤ x3 then
    some (.inr (.inl σ4))
  else
  if (σ4 (5, 0) 8) ≤ x3 then
    some (.inr (.inl σ4))
  else
    grd (inb x3 63) (
    bnd (σ4 (15, 0) (tn x3)) (fun x4 =>
    grd (inb x4 63) (
    if (σ4 (16, 0) (tn x4)) < (6 : Int32) then
      bj (lpF (pinB r1 r2 x4) ((0 : Int32), σ4)) (fun σ5 =>
      bnd (x3 + 1) (fun x9 =>
      some (.inl (x9, σ5))))
    else
      some (.inr (.inl σ4)))))
theorem part_eq (σ : St) (r1 r2 : Rf) : fX5_part σ r1 r2 = bnd (su σ (5, 0) 7 (0 : Int32)) (fun σ1 =>
  obi (fX5_start σ1) (fun σ2 =>
  bj (lpF (poB r1 r2) ((0 : Int32), σ2)) (fun (x1, x2, σ3) =>
  obi (fX5_traceRow σ3 x1 x2) (fun σ12 =>
  some σ12)))) := rfl
