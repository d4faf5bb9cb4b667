/-- two loops beside each other, the first one turn longer -/
theorem lpq {A B α β : Type} {bX : A → Option (A ⊕ α)} {bM : B → Option (B ⊕ β)} {Q : α → β → Prop} (R : Nat → A → B → Prop)
    (hs : ∀ d a b, R d a b → (∃ a' b' d', bX a = some (.inl a') ∧ bM b = some (.inl b') ∧ d = d' + 1 ∧ R d' a' b') ∨ (∃ x y, bX a = some (.inr x) ∧ bM b = some (.inr y) ∧ Q x y) ∨ ∃ a' x y, bX a = some (.inl a') ∧ bX a' = some (.inr x) ∧ bM b = some (.inr y) ∧ Q x y) : ∀ (d : Nat) (a : A) (b : B) (f g : Nat), d < f → d < g → R d a b → ∃ x y, lp bX (f + 1) a = some x ∧ lp bM g b = some y ∧ Q x y
  | d, a, b, 0, g, hf, _, _ => by omega
  | d, a, b, f + 1, 0, _, hg, _ => by omega
  | d, a, b, f + 1, g + 1, hf, hg, hR => by
    rw [lp_S bX (f + 1), lp_S bM]
    rcases hs d a b hR with ⟨a', b', d', h1, h2, h3, h4⟩ | ⟨x, y, h1, h2, h3⟩ | ⟨a', x, y, h0, h1, h2, h3⟩
    · rw [h1, h2]
      subst h3
      exact lpq R hs d' a' b' f g (by omega) (by omega) h4
    · rw [h1, h2]
      exact ⟨x, y, rfl, rfl, h3⟩
    · rw [h0, h2]
      refine ⟨x, y, ?_, rfl, h3⟩
      show lp bX (f + 1) a' = some x
      rw [lp_S, h1]
theorem lpFq {A B α β : Type} {bX : A → Option (A ⊕ α)} {bM : B → Option (B ⊕ β)} {Q : α → β → Prop} (R : Nat → A → B → Prop)
    (hs : ∀ d a b, R d a b → (∃ a' b' d', bX a = some (.inl a') ∧ bM b = some (.inl b') ∧ d = d' + 1 ∧ R d' a' b') ∨ (∃ x y, bX a = some (.inr x) ∧ bM b = some (.inr y) ∧ Q x y) ∨ ∃ a' x y, bX a = some (.inl a') ∧ bX a' = some (.inr x) ∧ bM b = some (.inr y) ∧ Q x y) {d : Nat} {a : A} {b : B} (hd : d < 1000) (h : R d a b) : ∃ x y, lpF bX a = some x ∧ lpF bM b = some y ∧ Q x y := by
  have hF : FU = (FU - 1) + 1 := by have := FU_lt (n := 10) (by decide); omega
  have h1 : d < FU - 1 := by have := FU_lt (n := d + 1) (by omega); omega
  have h2 : d < FU := FU_lt (by omega)
  obtain ⟨x, y, g1, g2, g3⟩ := lpq R hs d a b (FU - 1) FU h1 h2 h
  refine ⟨x, y, ?_, g2, g3⟩
  unfold lpF
  rw [hF]
  exact g1
set_option maxHeartbeats 4000000 in
theorem g_way {σ τ : St} {t m n p : Nat} {r : Rf} (hr : RK σ r τ) (hp : PM σ τ m n) (hpn : p < n) : ∃ w σ' τ', fX3_wayOf σ m (nI p) r t = some (w, σ') ∧ lpF (fun (q7 : St) => match q7 with
        | σ3 =>
        obi (fX9_isOver σ3 (nI m)) (fun x1 =>
        if x1 = true then
          some (.inr (((4 : Int32), σ3)))
        else
          obi (fX9_steps σ3 (nI m)) (fun (x2, σ4) =>
          if (σ4 (9, 0) 23) = (nI p + (1 : Int32)) then
            some (.inr ((x2, σ4)))
          else
            some (.inl σ4)))) (fX9_clears τ) = some (w, τ') ∧ mg τ τ' := by
  obtain ⟨b1, b2, b3, b4⟩ := g_begin (σ := σ) (τ := τ) t
  have h40 := hp.2.1
  suffices hh : ∃ x y, fX3_wayOf σ m (nI p) r t = some x ∧ lpF (fun (q7 : St) => match q7 with
        | σ3 =>
        obi (fX9_isOver σ3 (nI m)) (fun x1 =>
        if x1 = true then
          some (.inr (((4 : Int32), σ3)))
        else
          obi (fX9_steps σ3 (nI m)) (fun (x2, σ4) =>
          if (σ4 (9, 0) 23) = (nI p + (1 : Int32)) then
            some (.inr ((x2, σ4)))
          else
            some (.inl σ4)))) (fX9_clears τ) = some y ∧ (x.1 = y.1 ∧ mg τ y.2) by
    obtain ⟨⟨x1, x2⟩, ⟨y1, y2⟩, g1, g2, g3, g4⟩ := hh
    replace g3 : x1 = y1 := g3
    subst g3
    exact ⟨_, _, _, g1, g2, g4⟩
  unfold fX3_wayOf
  rw [bnd_eq]
  refine lpFq (Q := fun (x y : Int32 × St) => x.1 = y.1 ∧ mg τ y.2) (fun d (a : Int32 × Int32 × St) (b : St) => ∃ i, d + i = p ∧ a.2.1 = nI i ∧ GQ a.2.2 t b ∧ xf t σ a.2.2 ∧ mg τ b ∧ b (9, 0) 23 = nI i) ?_ (d := p) (by omega) ⟨0, rfl, rfl, b1, b2, b3, b4⟩
  rintro d ⟨x, y, s⟩ s' ⟨i, hd, rfl, hq, fx, fm, e23⟩
  replace hq : GQ s t s' := hq
  replace fx : xf t σ s := fx
  have hr' := hr.mg fx fm
  have hp' := hp.mv fx fm
  have hin : i < n := by omega
  obtain ⟨b, o1, o2⟩ := g_over hq hr' hp' (show i ≤ n by omega) e23
  have sz : s (3, m) 2 = nI n := hp'.2.2.1
  rw [show decide (i = n) = false from decide_eq_false (by omega), Bool.false_or] at o2
  have ns : ¬ nI n ≤ nI i := by rw [leI (by omega) (by omega)]; omega
  have np : ¬ nI p < nI i := by rw [ltI (by omega) (by omega)]; omega
  cases b with
  | true =>
    refine Or.inr (Or.inl ⟨(4, s), (4, s'), ?_, ?_, rfl, fm⟩)
    · simp only [np, sz, ns, if_false, o1, obi_s, if_true]
    · simp only [o2, obi_s, if_true]
  | false =>
    obtain ⟨w, s2, t2, q1, q2, q3, q4, q5, q6⟩ := gq_step (v := s (13, m) i) hq hr' hp'.1 (show i < 40 by omega) e23 (hp'.2.2.2.2 i hin).1
    have i40 : inb (nI i) 40 = true := by rw [inb_nI (by omega)]; simp; omega
    have stX : (if nI p < nI i then (some (Sum.inr (x, s)) : Option ((Int32 × Int32 × St) ⊕ (Int32 × St))) else if s (3, m) 2 ≤ nI i then some (Sum.inr (x, s)) else obi (fX4_isEnded s t r) (fun x3 => if x3 = true then some (.inr ((4 : Int32), s)) else grd (inb (nI i) 40) (obi (fX4_step s t r (s (13, m) (tn (nI i)))) (fun (x4, σ3) => bnd (nI i + 1) (fun x5 => some (.inl (x4, x5, σ3))))))) = some (.inl (w, nI (i + 1), s2)) := by
      simp only [np, sz, ns, if_false, o1, obi_s, Bool.false_eq_true, i40, grd_t, tn_nI (show i < 2 ^ 31 by omega), q1, bnd_eq, nI_1]
    by_cases ce : i = p
    · refine Or.inr (Or.inr ⟨(w, nI (i + 1), s2), (w, s2), (w, t2), stX, ?_, ?_, rfl, fm.tr q5⟩)
      · have : nI p < nI (i + 1) := by rw [ltI (by omega) (by omega)]; omega
        simp only [this, if_true]
      · have : nI (i + 1) = nI p + 1 := by rw [nI_1, ce]
        simp only [o2, obi_s, Bool.false_eq_true, if_false, q2, q6, this, if_true]
    · refine Or.inl ⟨(w, nI (i + 1), s2), t2, d - 1, stX, ?_, by omega, i + 1, by omega, rfl, q3, fx.tr q4, fm.tr q5, q6⟩
      have : ¬ nI (i + 1) = nI p + 1 := by rw [nI_1, eqI (by omega) (by omega)]; omega
      simp only [o2, obi_s, Bool.false_eq_true, if_false, q2, q6, this]
