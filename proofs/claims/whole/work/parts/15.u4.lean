/-! ===== rows of moments: the search by itself ===== -/
def okR (P : Nat → Nat → Bool) (T : Nat → Nat → Nat) : Nat → List Nat → Prop
  | _, [] => True
  | b, x :: r => x < 40 ∧ P b x = false ∧ okR P T (T b x) r
def fol (T : Nat → Nat → Nat) : Nat → List Nat → Nat
  | b, [] => b
  | b, x :: r => fol T (T b x) r
def PR (P : Nat → Nat → Bool) (T : Nat → Nat → Nat) : Nat → List Nat → Prop
  | _, [] => False
  | b, [x] => x < 40 ∧ P b x = true
  | b, x :: y :: r => x < 40 ∧ P b x = false ∧ PR P T (T b x) (y :: r)
def cdk : Nat → List Nat → Nat
  | k, [] => k
  | k, x :: r => cdk (64 * k + x) r
theorem PR_1 {P : Nat → Nat → Bool} {T : Nat → Nat → Nat} {b x : Nat} : PR P T b [x] ↔ x < 40 ∧ P b x = true := Iff.rfl
theorem PR_c {P : Nat → Nat → Bool} {T : Nat → Nat → Nat} {b x : Nat} {r : List Nat} (hr : ¬ r = []) : PR P T b (x :: r) ↔ x < 40 ∧ P b x = false ∧ PR P T (T b x) r := by
  cases r with
  | nil => exact absurd rfl hr
  | cons y r => exact Iff.rfl
theorem okR_app {P : Nat → Nat → Bool} {T : Nat → Nat → Nat} : ∀ (r s : List Nat) (b : Nat), okR P T b (r ++ s) ↔ okR P T b r ∧ okR P T (fol T b r) s
  | [], s, b => ⟨fun h => ⟨trivial, h⟩, fun h => h.2⟩
  | x :: r, s, b => by
    show (x < 40 ∧ P b x = false ∧ okR P T (T b x) (r ++ s)) ↔ (x < 40 ∧ P b x = false ∧ okR P T (T b x) r) ∧ okR P T (fol T (T b x) r) s
    rw [okR_app r s (T b x)]
    exact ⟨fun ⟨a, b, c, d⟩ => ⟨⟨a, b, c⟩, d⟩, fun ⟨⟨a, b, c⟩, d⟩ => ⟨a, b, c, d⟩⟩
theorem fol_app {T : Nat → Nat → Nat} : ∀ (r s : List Nat) (b : Nat), fol T b (r ++ s) = fol T (fol T b r) s
  | [], s, b => rfl
  | x :: r, s, b => fol_app r s (T b x)
theorem PR_app {P : Nat → Nat → Bool} {T : Nat → Nat → Nat} : ∀ (r s : List Nat) (b : Nat), ¬ s = [] → (PR P T b (r ++ s) ↔ okR P T b r ∧ PR P T (fol T b r) s)
  | [], s, b, _ => ⟨fun h => ⟨trivial, h⟩, fun h => h.2⟩
  | x :: r, s, b, hs => by
    show PR P T b (x :: (r ++ s)) ↔ (x < 40 ∧ P b x = false ∧ okR P T (T b x) r) ∧ PR P T (fol T (T b x) r) s
    have hne : ¬ (r ++ s) = [] := by
      intro e
      exact hs (List.append_eq_nil_iff.1 e).2
    rw [PR_c hne, PR_app r s (T b x) hs]
    exact ⟨fun ⟨a, b, c, d⟩ => ⟨⟨a, b, c⟩, d⟩, fun ⟨⟨a, b, c⟩, d⟩ => ⟨a, b, c, d⟩⟩
theorem cdk_app : ∀ (r s : List Nat) (k : Nat), cdk k (r ++ s) = cdk (cdk k r) s
  | [], _, _ => rfl
  | x :: r, s, k => cdk_app r s (64 * k + x)
theorem cdk_ge : ∀ (r : List Nat) (k : Nat), k ≤ cdk k r
  | [], k => Nat.le_refl _
  | x :: r, k => Nat.le_trans (by omega) (cdk_ge r (64 * k + x))
theorem cd_A : ∀ (r r' : List Nat) (k k' : Nat), r.length = r'.length → (∀ x, x ∈ r → x < 64) → k < k' → cdk k r < cdk k' r'
  | [], [], k, k', _, _, h => h
  | [], y :: r', k, k', e, _, _ => by cases e
  | x :: r, [], k, k', e, _, _ => by cases e
  | x :: r, y :: r', k, k', e, hx, h => by
    have := hx x (List.mem_cons_self ..)
    exact cd_A r r' (64 * k + x) (64 * k' + y) (Nat.succ.inj e) (fun z hz => hx z (List.mem_cons_of_mem _ hz)) (by omega)
theorem cd_B : ∀ (r' r : List Nat) (k k' : Nat), r.length < r'.length → (∀ x, x ∈ r → x < 64) → k < 64 * k' → cdk k r < cdk k' r'
  | [], r, k, k', h, _, _ => by cases h
  | y :: s, r, k, k', h, hx, hk => by
    have h' : r.length < s.length + 1 := h
    by_cases e : r.length = s.length
    · exact cd_A r s k (64 * k' + y) e hx (by omega)
    · exact cd_B s r k (64 * k' + y) (by omega) hx (by omega)
theorem ok_64 {P : Nat → Nat → Bool} {T : Nat → Nat → Nat} : ∀ (r : List Nat) (b : Nat), okR P T b r → ∀ x, x ∈ r → x < 64
  | [], _, _, x, hx => by cases hx
  | y :: r, b, h, x, hx => by
    rcases List.mem_cons.1 hx with e | e
    · rw [e]; have := h.1; omega
    · exact ok_64 r _ h.2.2 x e
theorem PR_64 {P : Nat → Nat → Bool} {T : Nat → Nat → Nat} : ∀ (r : List Nat) (b : Nat), PR P T b r → ∀ x, x ∈ r → x < 64
  | [], _, h, _, _ => h.elim
  | [y], b, h, x, hx => by
    rcases List.mem_cons.1 hx with e | e
    · rw [e]; have := h.1; omega
    · cases e
  | y :: z :: r, b, h, x, hx => by
    rcases List.mem_cons.1 hx with e | e
    · rw [e]; have := h.1; omega
    · exact PR_64 (z :: r) _ h.2.2 x e
/-- how far it is from a ball -/
def exN (p : Nat → Bool) : Nat → Bool
  | 0 => false
  | n + 1 => exN p n || p n
theorem exN_S (p : Nat → Bool) (n : Nat) : exN p (n + 1) = (exN p n || p n) := rfl
theorem exN_iff (p : Nat → Bool) : ∀ n, exN p n = true ↔ ∃ x, x < n ∧ p x = true
  | 0 => ⟨fun h => (by cases h), fun ⟨x, h, _⟩ => by omega⟩
  | n + 1 => by
    rw [exN_S, Bool.or_eq_true, exN_iff p n]
    constructor
    · rintro (⟨x, h1, h2⟩ | h)
      · exact ⟨x, by omega, h2⟩
      · exact ⟨n, by omega, h⟩
    · rintro ⟨x, h1, h2⟩
      by_cases c : x = n
      · subst c; exact Or.inr h2
      · exact Or.inl ⟨x, by omega, h2⟩
theorem exN_cong {p q : Nat → Bool} : ∀ n, (∀ x, x < n → p x = q x) → exN p n = exN q n
  | 0, _ => rfl
  | n + 1, h => by rw [exN_S, exN_S, exN_cong n (fun x hx => h x (by omega)), h n (by omega)]
def cnd (P : Nat → Nat → Bool) (T : Nat → Nat → Nat) (d : Nat → Nat) (k b x : Nat) : Bool := if k = 0 then P b x else (!(P b x) && decide (d (T b x) = k))
def dk (P : Nat → Nat → Bool) (T : Nat → Nat → Nat) : Nat → Nat → Nat
  | 0, _ => 99
  | k + 1, b => if dk P T k b = 99 then (if exN (cnd P T (dk P T k) k b) 40 = true then k + 1 else 99) else dk P T k b
theorem dk_S (P : Nat → Nat → Bool) (T : Nat → Nat → Nat) (k b : Nat) : dk P T (k + 1) b = if dk P T k b = 99 then (if exN (cnd P T (dk P T k) k b) 40 = true then k + 1 else 99) else dk P T k b := rfl
theorem dk_A {P : Nat → Nat → Bool} {T : Nat → Nat → Nat} : ∀ k b, k ≤ 6 → ¬ dk P T k b = 99 → 1 ≤ dk P T k b ∧ dk P T k b ≤ k ∧ ∃ r, PR P T b r ∧ r.length = dk P T k b
  | 0, b, _, h => absurd rfl h
  | k + 1, b, hk, h => by
    rw [dk_S] at h ⊢
    by_cases c : dk P T k b = 99
    · rw [if_pos c] at h ⊢
      by_cases e : exN (cnd P T (dk P T k) k b) 40 = true
      · rw [if_pos e]
        obtain ⟨x, hx, hc⟩ := (exN_iff _ 40).1 e
        refine ⟨by omega, by omega, ?_⟩
        unfold cnd at hc
        by_cases k0 : k = 0
        · rw [if_pos k0] at hc
          exact ⟨[x], ⟨hx, hc⟩, by rw [k0]; rfl⟩
        · rw [if_neg k0, Bool.and_eq_true, decide_eq_true_eq] at hc
          obtain ⟨h1, h2⟩ := hc
          obtain ⟨-, -, r, r1, r2⟩ := dk_A (P := P) (T := T) k (T b x) (by omega) (by omega)
          refine ⟨x :: r, ?_, by rw [List.length_cons, r2, h2]⟩
          have hne : ¬ r = [] := by
            intro e0
            rw [e0] at r1
            exact r1
          exact (PR_c hne).2 ⟨hx, by simpa using h1, r1⟩
      · rw [if_neg e] at h
        exact absurd rfl h
    · rw [if_neg c]
      obtain ⟨h1, h2, h3⟩ := dk_A (P := P) (T := T) k b (by omega) c
      exact ⟨h1, by omega, h3⟩
theorem dk_B {P : Nat → Nat → Bool} {T : Nat → Nat → Nat} : ∀ k b r, k ≤ 6 → PR P T b r → r.length ≤ k → dk P T k b ≤ r.length
  | 0, b, r, _, h, hl => by
    have : r = [] := List.length_eq_zero_iff.1 (by omega)
    subst this
    exact h.elim
  | k + 1, b, r, hk, h, hl => by
    rw [dk_S]
    by_cases c : dk P T k b = 99
    · rw [if_pos c]
      have hl' : r.length = k + 1 := by
        by_cases e : r.length ≤ k
        · have := dk_B k b r (by omega) h e
          omega
        · omega
      have : exN (cnd P T (dk P T k) k b) 40 = true := by
        rw [exN_iff]
        match r, h with
        | [], h => exact h.elim
        | [x], h =>
          refine ⟨x, h.1, ?_⟩
          unfold cnd
          have : k = 0 := by
            have e : ([x] : List Nat).length = 1 := rfl
            omega
          rw [if_pos this]
          exact h.2
        | x :: y :: r', h =>
          have e1 : (x :: y :: r').length = r'.length + 2 := rfl
          have e2 : (y :: r').length = r'.length + 1 := rfl
          refine ⟨x, h.1, ?_⟩
          unfold cnd
          rw [if_neg (by omega), h.2.1]
          have b1 := dk_B k (T b x) (y :: r') (by omega) h.2.2 (by omega)
          obtain ⟨a1, a2, s, s1, s2⟩ := dk_A (P := P) (T := T) k (T b x) (by omega) (by omega)
          have : dk P T k (T b x) = k := by
            by_cases q : dk P T k (T b x) = k
            · exact q
            · exfalso
              have hne : ¬ s = [] := by
                intro e0
                rw [e0] at s1
                exact s1
              have := dk_B k b (x :: s) (by omega) ((PR_c hne).2 ⟨h.1, h.2.1, s1⟩) (by rw [List.length_cons]; omega)
              rw [List.length_cons] at this
              omega
          rw [this]
          simp
      rw [if_pos this]
      omega
    · rw [if_neg c]
      obtain ⟨a1, a2, a3⟩ := dk_A (P := P) (T := T) k b (by omega) c
      by_cases e : r.length ≤ k
      · exact dk_B k b r (by omega) h e
      · omega
/-- the least row, from within -/
theorem greedy {P : Nat → Nat → Bool} {T : Nat → Nat → Nat} {b0 : Nat} {ρ : List Nat} (hρ : PR P T b0 ρ) (hmin : ∀ r, PR P T b0 r → cdk 1 ρ ≤ cdk 1 r) (hlen : ρ.length ≤ 6) (q s : List Nat) (z : Nat) (e : ρ = q ++ z :: s) : dk P T 6 (fol T b0 q) = s.length + 1 ∧ z < 40 ∧ (s = [] → P (fol T b0 q) z = true) ∧ (¬ s = [] → P (fol T b0 q) z = false) ∧ cnd P T (dk P T 6) s.length (fol T b0 q) z = true ∧ ∀ y, y < z → cnd P T (dk P T 6) s.length (fol T b0 q) y = false := by
  have D : ∀ (q s : List Nat), ¬ s = [] → ρ = q ++ s → dk P T 6 (fol T b0 q) = s.length := by
    intro q s hs e
    rw [e] at hρ hlen hmin
    rw [List.length_append] at hlen
    obtain ⟨o1, o2⟩ := (PR_app q s b0 hs).1 hρ
    have b1 := dk_B 6 (fol T b0 q) s (by omega) o2 (by omega)
    obtain ⟨a1, a2, r, r1, r2⟩ := dk_A (P := P) (T := T) 6 (fol T b0 q) (by omega) (by omega)
    by_cases c : dk P T 6 (fol T b0 q) = s.length
    · exact c
    · exfalso
      have hne : ¬ r = [] := by
        intro e0
        rw [e0] at r1
        exact r1
      have m := hmin (q ++ r) ((PR_app q r b0 hne).2 ⟨o1, r1⟩)
      rw [cdk_app, cdk_app] at m
      have k1 := cdk_ge q 1
      have := cd_B s r (cdk 1 q) (cdk 1 q) (by omega) (PR_64 r _ r1) (by omega)
      omega
  have hz : ¬ z :: s = [] := by simp
  have d1 := D q (z :: s) hz e
  have hρ' := hρ
  rw [e] at hρ'
  obtain ⟨o1, o2⟩ := (PR_app q (z :: s) b0 hz).1 hρ'
  have k1 := cdk_ge q 1
  have hl2 : s.length + 1 ≤ 6 := by
    rw [e, List.length_append, List.length_cons] at hlen
    omega
  have cd : cdk 1 ρ = cdk (64 * cdk 1 q + z) s := by rw [e, cdk_app]; rfl
  by_cases hs : s = []
  · subst hs
    have o2' := PR_1.1 o2
    refine ⟨d1, o2'.1, fun _ => o2'.2, fun h => absurd rfl h, o2'.2, fun y hy => ?_⟩
    cases hc : cnd P T (dk P T 6) ([] : List Nat).length (fol T b0 q) y with
    | false => rfl
    | true =>
      exfalso
      have m := hmin (q ++ [y]) ((PR_app q [y] b0 (by simp)).2 ⟨o1, by have := o2'.1; omega, hc⟩)
      rw [cd, cdk_app] at m
      have m' : 64 * cdk 1 q + z ≤ 64 * cdk 1 q + y := m
      omega
  · obtain ⟨p1, p2, p3⟩ := (PR_c hs).1 o2
    have d2 := D (q ++ [z]) s hs (by rw [e]; simp)
    have f2 : fol T b0 (q ++ [z]) = T (fol T b0 q) z := by rw [fol_app]; rfl
    rw [f2] at d2
    have sl : ¬ s.length = 0 := fun h => hs (List.length_eq_zero_iff.1 h)
    refine ⟨d1, p1, fun h => absurd h hs, fun _ => p2, ?_, fun y hy => ?_⟩
    · unfold cnd
      rw [if_neg sl, p2, d2]
      simp
    · cases hc : cnd P T (dk P T 6) s.length (fol T b0 q) y with
      | false => rfl
      | true =>
        exfalso
        unfold cnd at hc
        rw [if_neg sl, Bool.and_eq_true, decide_eq_true_eq] at hc
        obtain ⟨h1, h2⟩ := hc
        obtain ⟨-, -, r, r1, r2⟩ := dk_A (P := P) (T := T) 6 (T (fol T b0 q) y) (by omega) (by omega)
        have hne : ¬ r = [] := by
          intro e0
          rw [e0] at r1
          exact r1
        have m := hmin (q ++ y :: r) ((PR_app q (y :: r) b0 (by simp)).2 ⟨o1, (PR_c hne).2 ⟨by omega, by simpa using h1, r1⟩⟩)
        rw [cd, cdk_app] at m
        have m' : cdk (64 * cdk 1 q + z) s ≤ cdk (64 * cdk 1 q + y) r := m
        have := cd_A r s (64 * cdk 1 q + y) (64 * cdk 1 q + z) (by omega) (PR_64 r _ r1) (by omega)
        omega
