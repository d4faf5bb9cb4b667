/-- two loops that go step by step beside each other -/
theorem lpp {A B α β : Type} {bX : A → Option (A ⊕ α)} {bM : B → Option (B ⊕ β)} {Q : α → β → Prop} (R : Nat → A → B → Prop)
    (hs : ∀ d a b, R d a b → (∃ a' b' d', bX a = some (.inl a') ∧ bM b = some (.inl b') ∧ d = d' + 1 ∧ R d' a' b') ∨ ∃ x y, bX a = some (.inr x) ∧ bM b = some (.inr y) ∧ Q x y) : ∀ (d : Nat) (a : A) (b : B) (f g : Nat), d < f → d < g → R d a b → ∃ x y, lp bX f a = some x ∧ lp bM g b = some y ∧ Q x y
  | d, a, b, 0, g, hf, _, _ => by omega
  | d, a, b, f + 1, 0, _, hg, _ => by omega
  | d, a, b, f + 1, g + 1, hf, hg, hR => by
    rw [lp_S, lp_S]
    rcases hs d a b hR with ⟨a', b', d', h1, h2, h3, h4⟩ | ⟨x, y, h1, h2, h3⟩
    · rw [h1, h2]
      subst h3
      exact lpp R hs d' a' b' f g (by omega) (by omega) h4
    · rw [h1, h2]
      exact ⟨x, y, rfl, rfl, h3⟩
theorem lpF2 {A B α β : Type} {bX : A → Option (A ⊕ α)} {bM : B → Option (B ⊕ β)} {Q : α → β → Prop} (R : Nat → A → B → Prop)
    (hs : ∀ d a b, R d a b → (∃ a' b' d', bX a = some (.inl a') ∧ bM b = some (.inl b') ∧ d = d' + 1 ∧ R d' a' b') ∨ ∃ x y, bX a = some (.inr x) ∧ bM b = some (.inr y) ∧ Q x y) {d : Nat} {a : A} {b : B} (hd : d < 100000) (h : R d a b) : ∃ x y, lpF bX a = some x ∧ lpF bM b = some y ∧ Q x y := lpp R hs d a b FU FU (FU_lt hd) (FU_lt hd) h
/-- a match that both sides know -/
def PM (σ τ : St) (m n : Nat) : Prop := m < 12 ∧ n ≤ 40 ∧ σ (3, m) 2 = nI n ∧ τ (36, 0) m = nI n ∧ ∀ k, k < n → τ (37, 0) (40 * m + k) = mv (σ (13, m) k) ∧ τ (38, 0) (40 * m + k) = σ (14, m) k
theorem PM.mv {σ σ' τ τ' : St} {m n t : Nat} (h : PM σ τ m n) (hx : xf t σ σ') (hm : mg τ τ') : PM σ' τ' m n := by
  obtain ⟨h1, h2, h3, h4, h5⟩ := h
  refine ⟨h1, h2, by rw [hx _ _ (by simp), h3], by rw [hm _ _ (by simp), h4], fun k hk => ?_⟩
  rw [hm _ _ (by simp), hm _ _ (by simp), hx _ _ (by simp), hx _ _ (by simp)]
  exact h5 k hk
theorem Im_PM {σ : St} (h : Iv σ) {m : Nat} (hm : m < 12) : ∃ n, PM σ σ m n := by
  obtain ⟨n, t, h1, h2, e1, e2, e3, e4, e5, -⟩ := h.2.2.2.2.2 m hm
  exact ⟨n, hm, h1, e1, e2, e5⟩
theorem g_over {σ τ : St} {t m n i : Nat} {r : Rf} (hq : GQ σ t τ) (hr : RK σ r τ) (hp : PM σ τ m n) (hi : i ≤ n) (e23 : τ (9, 0) 23 = nI i) : ∃ b, fX4_isEnded σ t r = some b ∧ fX9_isOver τ (nI m) = some (decide (i = n) || b) := by
  obtain ⟨⟨c, o, l, -, -, -, -, -, -, -, -, -, h4, h5⟩, k6, k7, k8, k9⟩ := hq
  obtain ⟨p1, p2, p3, p4, -⟩ := hp
  obtain ⟨g15, e15⟩ := hr.at (show 15 < 17 by decide)
  obtain ⟨g16, e16⟩ := hr.at (show 16 < 17 by decide)
  obtain ⟨v, -, v1, v2⟩ := hr.2.2.2 15 (by decide)
  obtain ⟨w, -, w1, w2⟩ := hr.2.2.2 16 (by decide)
  unfold fX4_isEnded fX9_isOver
  simp only [show (15 : Int32) = nI 15 from rfl, show (16 : Int32) = nI 16 from rfl, g15, g16, grd_t, bnd_eq, e15, e16, v1, v2, w1, w2, h4, h5, k9, (in12 p1).1, (in12 p1).2, p4, e23, eqI (show i < 2 ^ 31 by omega) (show n < 2 ^ 31 by omega)]
  by_cases c1 : i = n
  · simp only [c1, if_true, decide_true, Bool.true_or]
    repeat' split
    all_goals exact ⟨_, rfl, trivial⟩
  · simp only [c1, if_false, decide_false, Bool.false_or]
    by_cases c2 : nI w ≤ nI i
    · simp only [c2, if_true]; exact ⟨_, rfl, rfl⟩
    · simp only [c2, if_false]
      by_cases c3 : nI v ≤ 0
      · simp only [c3, if_true]; exact ⟨_, rfl, rfl⟩
      · simp only [c3, if_false]
        by_cases c4 : nI v ≤ τ (9, 0) 13
        · simp only [c4, if_true, show ¬ (1 : Int32) = 0 by decide, if_false]; exact ⟨_, rfl, rfl⟩
        · simp only [c4, if_false]
          by_cases c5 : τ (9, 0) 14 < nI v
          · simp only [c5, if_true]; exact ⟨_, rfl, rfl⟩
          · simp only [c5, if_false, show ¬ (1 : Int32) = 0 by decide]; exact ⟨_, rfl, rfl⟩
theorem g_begin {σ τ : St} (t : Nat) : GQ (fX4_begin σ t) t (fX9_clears τ) ∧ xf t σ (fX4_begin σ t) ∧ mg τ (fX9_clears τ) ∧ fX9_clears τ (9, 0) 23 = nI 0 := by
  unfold fX4_begin fX9_clears fX9_begins
  simp only [bnd_eq]
  refine ⟨⟨⟨3, 2, 0, by decide, by decide, by decide, ?_, ?_, ?_, ?_, ?_, ?_, ?_, ?_⟩, ?_, ?_, ?_, ?_⟩, ?_, ?_, ?_⟩
  · simp [su_app]; rfl
  · simp [su_app]; rfl
  · simp [su_app]; rfl
  · simp [su_app]; rfl
  · simp [su_app]; rfl
  · simp [su_app]; rfl
  · simp [su_app]
  · simp [su_app]
  · simp [su_app]
  · simp [su_app]
  · simp [su_app]
  · simp [su_app]
  · exact (((((((((xf.rf.su _ _).su _ _).su _ _).su _ _).su _ _).su _ _).su _ _).su _ _).su _ _).su _ _
  · exact ((((((((mg.rf.st (by decide) _).st (by decide) _).st (by decide) _).st (by decide) _).st (by decide) _).st (by decide) _).st (by decide) _).st (by decide) _).st (by decide) _
  · simp [su_app]; rfl
set_option maxHeartbeats 2000000 in
theorem g_plays {σ τ : St} {t m n : Nat} {r : Rf} (hr : RK σ r τ) (hp : PM σ τ m n) : ∃ σ' τ', fX3_playUnder σ m r t = some σ' ∧ fX9_plays τ (nI m) = some τ' ∧ GQ σ' t τ' ∧ xf t σ σ' ∧ mg τ τ' := by
  obtain ⟨b1, b2, b3, b4⟩ := g_begin (σ := σ) (τ := τ) t
  have h40 := hp.2.1
  unfold fX3_playUnder fX9_plays
  rw [bnd_eq, bnd_eq]
  refine lpF2 (Q := fun σ' τ' => GQ σ' t τ' ∧ xf t σ σ' ∧ mg τ τ') (fun d a b => ∃ i, d + i = n ∧ a.1 = nI i ∧ GQ a.2 t b ∧ xf t σ a.2 ∧ mg τ b ∧ b (9, 0) 23 = nI i) ?_ (d := n) (by omega) ⟨0, rfl, rfl, b1, b2, b3, b4⟩
  rintro d ⟨x, s⟩ s' ⟨i, hd, rfl, hq, fx, fm, e23⟩
  replace hq : GQ s t s' := hq
  replace fx : xf t σ s := fx
  have hr' := hr.mg fx fm
  have hp' := hp.mv fx fm
  obtain ⟨b, o1, o2⟩ := g_over hq hr' hp' (show i ≤ n by omega) e23
  have sz : s (3, m) 2 = nI n := hp'.2.2.1
  by_cases ci : i = n
  · subst ci
    refine Or.inr ⟨s, s', ?_, ?_, hq, fx, fm⟩
    · simp only [sz, leI (show i < 2 ^ 31 by omega) (show i < 2 ^ 31 by omega), Nat.le_refl, if_true]
    · simp only [o2, decide_true, Bool.true_or, obi_s, if_true]
  · have hin : i < n := by omega
    rw [show decide (i = n) = false from decide_eq_false ci, Bool.false_or] at o2
    have ns : ¬ nI n ≤ nI i := by rw [leI (by omega) (by omega)]; omega
    cases b with
    | true =>
      refine Or.inr ⟨s, s', ?_, ?_, hq, fx, fm⟩
      · simp only [sz, ns, if_false, o1, obi_s, if_true]
      · simp only [o2, obi_s, if_true]
    | false =>
      obtain ⟨w, s2, t2, q1, q2, q3, q4, q5, q6⟩ := gq_step (v := s (13, m) i) hq hr' hp'.1 (show i < 40 by omega) e23 (hp'.2.2.2.2 i hin).1
      have i40 : inb (nI i) 40 = true := by rw [inb_nI (by omega)]; simp; omega
      refine Or.inl ⟨(nI (i + 1), s2), t2, d - 1, ?_, ?_, by omega, i + 1, by omega, rfl, q3, fx.tr q4, fm.tr q5, q6⟩
      · simp only [sz, ns, if_false, o1, obi_s, Bool.false_eq_true, i40, grd_t, tn_nI (show i < 2 ^ 31 by omega), q1, bnd_eq, nI_1]
      · simp only [o2, obi_s, Bool.false_eq_true, if_false, q2]
