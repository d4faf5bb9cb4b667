/-! ===== the search of the class ===== -/
theorem fb_holes : ∀ (m n : Nat) (f : Nat → Nat), (∀ i, i < n → f i < m) → (∀ i j, i < j → j < n → f i ≠ f j) → n ≤ m := by
  intro m
  induction m with
  | zero =>
    intro n f h1 _
    rcases Nat.eq_zero_or_pos n with h | h
    · omega
    · exact absurd (h1 0 h) (Nat.not_lt_zero _)
  | succ m ih =>
    intro n f h1 h2
    by_cases hx : ∃ i, i < n ∧ f i = m
    · obtain ⟨a, ha, hfa⟩ := hx
      have hg := ih (n - 1) (fun i => if i < a then f i else f (i + 1)) (by
        intro i hi
        by_cases q : i < a
        · simp only [if_pos q]
          have b1 := h1 i (by omega)
          have b2 := h2 i a q ha
          omega
        · simp only [if_neg q]
          have b1 := h1 (i + 1) (by omega)
          have b2 := h2 a (i + 1) (by omega) (by omega)
          omega) (by
        intro i j hij hj
        by_cases q : i < a
        · by_cases r : j < a
          · simp only [if_pos q, if_pos r]
            exact h2 i j hij (by omega)
          · simp only [if_pos q, if_neg r]
            exact h2 i (j + 1) (by omega) (by omega)
        · have r : ¬ j < a := by omega
          simp only [if_neg q, if_neg r]
          exact h2 (i + 1) (j + 1) (by omega) (by omega))
      omega
    · have hg := ih n f (fun i hi => by
        have b1 := h1 i hi
        have b2 : f i ≠ m := fun e => hx ⟨i, hi, e⟩
        omega) h2
      omega
def BI (P : Nat → Nat → Bool) (T : Nat → Nat → Nat) (b0 n : Nat) (qb : Nat → Nat) (qp : Nat → List Nat) (h x : Nat) : Prop :=
  (1 ≤ n ∧ n ≤ 63 ∧ qb 0 = b0 ∧ qp 0 = []) ∧
  (∀ i, i < n → qb i < 63 ∧ okR P T b0 (qp i) ∧ fol T b0 (qp i) = qb i) ∧
  (∀ i j, i < j → j < n → (¬ qb i = qb j) ∧ cdk 1 (qp i) < cdk 1 (qp j)) ∧
  (∀ i y, i < n → y < 40 → (i < h ∨ (i = h ∧ y < x)) → P (qb i) y = false ∧ ∃ j, j < n ∧ qb j = T (qb i) y ∧ cdk 1 (qp j) ≤ 64 * cdk 1 (qp i) + y) ∧
  (∀ j, 0 < j → j < n → ∃ i y, i < j ∧ y < 40 ∧ qp j = qp i ++ [y] ∧ (i < h ∨ (i = h ∧ y < x)))
theorem cdk_1 (r : List Nat) (y : Nat) : cdk 1 (r ++ [y]) = 64 * cdk 1 r + y := by
  rw [cdk_app]
  rfl
theorem bfs_go {P : Nat → Nat → Bool} {T : Nat → Nat → Nat} {b0 n : Nat} {qb : Nat → Nat} {qp : Nat → List Nat} {h x : Nat} (B : BI P T b0 n qb qp h x) (C : Nat) (hC : ∀ j z, j < n → z < 40 → 64 * cdk 1 (qp j) + z ≤ C → j < h ∨ (j = h ∧ z < x)) : ∀ (s q : List Nat) (j : Nat), j < n → qb j = fol T b0 q → cdk 1 (qp j) ≤ cdk 1 q → PR P T (fol T b0 q) s → ¬ cdk 1 (q ++ s) ≤ C
  | [], q, j, _, _, _, hp, _ => hp.elim
  | z :: s, q, j, hj, e1, e2, hp, hc => by
    obtain ⟨B1, B2, B3, B4, B5⟩ := B
    rw [cdk_app] at hc
    have c1 : 64 * cdk 1 q + z ≤ cdk (64 * cdk 1 q + z) s := cdk_ge s _
    have c2 : cdk (64 * cdk 1 q + z) s ≤ C := hc
    have z40 : z < 40 := by
      cases s with
      | nil => exact hp.1
      | cons y s => exact hp.1
    obtain ⟨p1, j', j1, j2, j3⟩ := B4 j z hj z40 (hC j z hj z40 (by omega))
    have hs : ¬ s = [] := by
      intro e
      subst e
      have := hp.2
      rw [← e1, p1] at this
      cases this
    have hp' := ((PR_c hs).1 hp).2.2
    have f2 : fol T b0 (q ++ [z]) = T (fol T b0 q) z := by rw [fol_app]; rfl
    refine bfs_go ⟨B1, B2, B3, B4, B5⟩ C hC s (q ++ [z]) j' j1 (by rw [j2, f2, e1]) (by rw [cdk_1]; omega) (by rw [f2]; exact hp') ?_
    rw [cdk_app, cdk_1]
    exact c2
theorem bfs_core {P : Nat → Nat → Bool} {T : Nat → Nat → Nat} {b0 n : Nat} {qb : Nat → Nat} {qp : Nat → List Nat} {h x : Nat} (B : BI P T b0 n qb qp h x) (hx : x ≤ 40) (hh : h < n) {r : List Nat} (hr : PR P T b0 r) : 64 * cdk 1 (qp h) + x ≤ cdk 1 r := by
  by_cases c : 64 * cdk 1 (qp h) + x ≤ cdk 1 r
  · exact c
  · exfalso
    refine bfs_go B (cdk 1 r) ?_ r [] 0 (by have := B.1.1; omega) (by rw [B.1.2.2.1]; rfl) (by rw [B.1.2.2.2]; exact Nat.le_refl _) hr (Nat.le_refl _)
    intro j z hj hz hle
    by_cases e : j < h
    · exact Or.inl e
    · by_cases e2 : j = h
      · subst e2
        exact Or.inr ⟨rfl, by omega⟩
      · exfalso
        have := (B.2.2.1 h j (by omega) hj).2
        omega
theorem bfs_end {P : Nat → Nat → Bool} {T : Nat → Nat → Nat} {b0 n : Nat} {qb : Nat → Nat} {qp : Nat → List Nat} {h x : Nat} (B : BI P T b0 n qb qp h x) (hh : n ≤ h) {r : List Nat} (hr : PR P T b0 r) : False := by
  refine bfs_go B (cdk 1 r) ?_ r [] 0 (by have := B.1.1; omega) (by rw [B.1.2.2.1]; rfl) (by rw [B.1.2.2.2]; exact Nat.le_refl _) hr (Nat.le_refl _)
  intro j z hj _ _
  exact Or.inl (by omega)
theorem bi_key {P : Nat → Nat → Bool} {T : Nat → Nat → Nat} {b0 n : Nat} {qb : Nat → Nat} {qp : Nat → List Nat} {h x : Nat} (B : BI P T b0 n qb qp h x) (hh : h < n) {j : Nat} (hj : j < n) : cdk 1 (qp j) < 64 * cdk 1 (qp h) + x ∨ (j = 0 ∧ cdk 1 (qp j) ≤ cdk 1 (qp h)) := by
  by_cases c : j = 0
  · subst c
    by_cases d : h = 0
    · subst d; exact Or.inr ⟨rfl, Nat.le_refl _⟩
    · have := (B.2.2.1 0 h (by omega) hh).2
      exact Or.inr ⟨rfl, by omega⟩
  · obtain ⟨i, y, i1, i2, i3, i4⟩ := B.2.2.2.2 j (by omega) hj
    rw [i3, cdk_1]
    rcases i4 with i4 | ⟨i4, i5⟩
    · have := (B.2.2.1 i h i4 hh).2
      exact Or.inl (by omega)
    · subst i4
      exact Or.inl (by omega)
theorem bi_lt {P : Nat → Nat → Bool} {T : Nat → Nat → Nat} {b0 n : Nat} {qb : Nat → Nat} {qp : Nat → List Nat} {h x : Nat} (B : BI P T b0 n qb qp h x) (hh : h < n) {j : Nat} (hj : j < n) : cdk 1 (qp j) < 64 * cdk 1 (qp h) + x := by
  have k1 := cdk_ge (qp h) 1
  rcases bi_key B hh hj with c | ⟨-, c⟩ <;> omega
theorem bi_old {P : Nat → Nat → Bool} {T : Nat → Nat → Nat} {b0 n : Nat} {qb : Nat → Nat} {qp : Nat → List Nat} {h x : Nat} (B : BI P T b0 n qb qp h x) (hh : h < n) (hP : P (qb h) x = false) {j : Nat} (hj : j < n) (e : qb j = T (qb h) x) : BI P T b0 n qb qp h (x + 1) := by
  have hk := bi_lt B hh hj
  obtain ⟨B1, B2, B3, B4, B5⟩ := B
  refine ⟨B1, B2, B3, fun i y hi hy hc => ?_, fun j' h1 h2 => ?_⟩
  · by_cases c : i = h ∧ y = x
    · obtain ⟨rfl, rfl⟩ := c
      exact ⟨hP, j, hj, e, by omega⟩
    · exact B4 i y hi hy (by omega)
  · obtain ⟨i, y, i1, i2, i3, i4⟩ := B5 j' h1 h2
    exact ⟨i, y, i1, i2, i3, by omega⟩
def updN {α : Type} (f : Nat → α) (n : Nat) (v : α) : Nat → α := fun i => if i = n then v else f i
theorem updN_n {α : Type} (f : Nat → α) (n : Nat) (v : α) : updN f n v n = v := if_pos rfl
theorem updN_o {α : Type} (f : Nat → α) {n i : Nat} (v : α) (h : i < n) : updN f n v i = f i := if_neg (by omega)
theorem bi_full {P : Nat → Nat → Bool} {T : Nat → Nat → Nat} {b0 n : Nat} {qb : Nat → Nat} {qp : Nat → List Nat} {h x : Nat} (B : BI P T b0 n qb qp h x) {b' : Nat} (hb : b' < 63) (hn : ∀ i, i < n → ¬ qb i = b') : n < 63 := by
  have := fb_holes 63 (n + 1) (updN qb n b') (by
    intro i hi
    by_cases c : i = n
    · subst c; rw [updN_n]; exact hb
    · rw [updN_o _ _ (by omega)]; exact (B.2.1 i (by omega)).1) (by
    intro i j hij hj
    by_cases c : j = n
    · subst c
      rw [updN_n, updN_o _ _ hij]
      exact hn i hij
    · rw [updN_o _ _ (show j < n by omega), updN_o _ _ (show i < n by omega)]
      exact (B.2.2.1 i j hij (by omega)).1)
  omega
theorem bi_new {P : Nat → Nat → Bool} {T : Nat → Nat → Nat} {b0 n : Nat} {qb : Nat → Nat} {qp : Nat → List Nat} {h x : Nat} (B : BI P T b0 n qb qp h x) (hh : h < n) (hx : x < 40) (hP : P (qb h) x = false) (hb : T (qb h) x < 63) (hn : ∀ i, i < n → ¬ qb i = T (qb h) x) : BI P T b0 (n + 1) (updN qb n (T (qb h) x)) (updN qp n (qp h ++ [x])) h (x + 1) := by
  have hf := bi_full B hb hn
  have hlt := fun {j : Nat} (hj : j < n) => bi_lt B hh hj
  obtain ⟨B1, B2, B3, B4, B5⟩ := B
  refine ⟨⟨by omega, by omega, by rw [updN_o _ _ (by omega)]; exact B1.2.2.1, by rw [updN_o _ _ (by omega)]; exact B1.2.2.2⟩, fun i hi => ?_, fun i j hij hj => ?_, fun i y hi hy hc => ?_, fun j h1 h2 => ?_⟩
  · by_cases c : i = n
    · subst c
      rw [updN_n, updN_n]
      obtain ⟨o1, o2, o3⟩ := B2 h hh
      refine ⟨hb, (okR_app _ _ _).2 ⟨o2, ?_⟩, by rw [fol_app, o3]; rfl⟩
      rw [o3]
      exact ⟨hx, hP, trivial⟩
    · rw [updN_o _ _ (by omega), updN_o _ _ (by omega)]
      exact B2 i (by omega)
  · by_cases c : j = n
    · subst c
      rw [updN_n, updN_n, updN_o _ _ hij, updN_o _ _ hij, cdk_1]
      exact ⟨hn i hij, hlt hij⟩
    · rw [updN_o _ _ (show j < n by omega), updN_o _ _ (show i < n by omega), updN_o _ _ (show j < n by omega), updN_o _ _ (show i < n by omega)]
      exact B3 i j hij (by omega)
  · have hin : i < n := by omega
    rw [updN_o _ _ hin, updN_o _ _ hin]
    by_cases c : i = h ∧ y = x
    · obtain ⟨rfl, rfl⟩ := c
      exact ⟨hP, n, by omega, by rw [updN_n], by rw [updN_n, cdk_1]; exact Nat.le_refl _⟩
    · obtain ⟨p1, j, j1, j2, j3⟩ := B4 i y hin hy (by omega)
      exact ⟨p1, j, by omega, by rw [updN_o _ _ j1]; exact j2, by rw [updN_o _ _ j1]; exact j3⟩
  · by_cases c : j = n
    · subst c
      exact ⟨h, x, hh, hx, by rw [updN_n, updN_o _ _ hh], Or.inr ⟨rfl, by omega⟩⟩
    · obtain ⟨i, y, i1, i2, i3, i4⟩ := B5 j h1 (by omega)
      exact ⟨i, y, i1, i2, by rw [updN_o _ _ (show j < n by omega), updN_o _ _ (show i < n by omega)]; exact i3, by omega⟩
theorem bi_next {P : Nat → Nat → Bool} {T : Nat → Nat → Nat} {b0 n : Nat} {qb : Nat → Nat} {qp : Nat → List Nat} {h : Nat} (B : BI P T b0 n qb qp h 40) : BI P T b0 n qb qp (h + 1) 0 := by
  obtain ⟨B1, B2, B3, B4, B5⟩ := B
  refine ⟨B1, B2, B3, fun i y hi hy hc => B4 i y hi hy (by omega), fun j h1 h2 => ?_⟩
  obtain ⟨i, y, i1, i2, i3, i4⟩ := B5 j h1 h2
  exact ⟨i, y, i1, i2, i3, by omega⟩
