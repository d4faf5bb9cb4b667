/-- the parts from a place on: the fault, or what they do -/
def pl (n : Nat) (t : Nat → Nat) : Nat → Nat → Nat ⊕ List Eff
  | 0, _ => .inr []
  | f + 1, p => match rp n t p with
    | .inl q => .inl q
    | .inr (p', e) => if p' < n then (if t p' = 59 then (match pl n t f (p' + 1) with
        | .inl q => .inl q
        | .inr l => .inr (e :: l)) else .inl p') else .inr [e]
def plc (l : List Eff) (o : Nat ⊕ List Eff) : Nat ⊕ List Eff := match o with
  | .inl q => .inl q
  | .inr l' => .inr (l ++ l')
def exs (σ : St) (j : Nat) : Nat → List Eff → St
  | _, [] => σ
  | k, e :: l => exs (effX σ j k e) j (k + 1) l
theorem exs_app (j : Nat) : ∀ (l l' : List Eff) (σ : St) (k : Nat), exs σ j k (l ++ l') = exs (exs σ j k l) j (k + l.length) l'
  | [], l', σ, k => rfl
  | e :: l, l', σ, k => by
    show exs (effX σ j k e) j (k + 1) (l ++ l') = exs (exs (effX σ j k e) j (k + 1) l) j (k + (l.length + 1)) l'
    rw [exs_app j l l', show k + 1 + l.length = k + (l.length + 1) by omega]
theorem exs_fr (j : Nat) : ∀ (l : List Eff) (σ : St) (k : Nat), ∃ it sd, exs σ j k l = sr (sr σ (11, j) it) (12, j) sd
  | [], σ, k => ⟨σ (11, j), σ (12, j), by
      show σ = _
      rw [sr_same, sr_same]⟩
  | e :: l, σ, k => by
    obtain ⟨it, sd, h⟩ := exs_fr j l (effX σ j k e) (k + 1)
    refine ⟨it, sd, ?_⟩
    show exs (effX σ j k e) j (k + 1) l = _
    rw [h]
    unfold effX
    funext r q
    simp only [sr_app]
    by_cases c1 : r = (12, j)
    · simp [c1]
    · by_cases c2 : r = (11, j)
      · simp [c2]
      · simp [c1, c2]
theorem XT.rows {σ : St} {j n : Nat} {t : Nat → Nat} (h : XT σ j n t) (it sd : Nat → Int32) : XT (sr (sr σ (11, j) it) (12, j) sd) j n t := by
  obtain ⟨h1, h2, h3⟩ := h
  refine ⟨h1, by simp [sr_app, h2], fun i hi => ⟨(h3 i hi).1, ?_⟩⟩
  simp [sr_app, (h3 i hi).2]
theorem XT.exs {σ : St} {j n : Nat} {t : Nat → Nat} (h : XT σ j n t) (l : List Eff) (k : Nat) : XT (exs σ j k l) j n t := by
  obtain ⟨it, sd, e⟩ := exs_fr j l σ k
  rw [e]
  exact h.rows it sd
theorem pl_S (n : Nat) (t : Nat → Nat) (f p : Nat) : pl n t (f + 1) p = (match rp n t p with
    | .inl q => .inl q
    | .inr (p', e) => if p' < n then (if t p' = 59 then plc [e] (pl n t f (p' + 1)) else .inl p') else .inr [e]) := by
  rw [pl]
  cases rp n t p with
  | inl q => rfl
  | inr w =>
    obtain ⟨p', e⟩ := w
    simp only
    cases pl n t f (p' + 1) <;> rfl
theorem plc_c (l l' : List Eff) (o : Nat ⊕ List Eff) : plc l (plc l' o) = plc (l ++ l') o := by
  cases o with
  | inl q => rfl
  | inr w => simp [plc]
theorem rp_fault {n : Nat} {t : Nat → Nat} {p q : Nat} (h : rp n t p = .inl q) : q ≤ p + 4 := by
  have hF : ∀ p item most q, rpF n t p item most = .inl q → q = p := by
    intro p item most q h
    unfold rpF at h
    cases hf : fig n t p with
    | none => rw [hf] at h; cases h; rfl
    | some v =>
      rw [hf] at h
      simp only at h
      by_cases c : v ≤ most
      · rw [if_pos c] at h; cases h
      · rw [if_neg c] at h; cases h; rfl
  have hN : ∀ p item least q, rpN n t p item least = .inl q → q = p := by
    intro p item least q h
    unfold rpN at h
    cases hf : fig n t p with
    | none => rw [hf] at h; cases h; rfl
    | some v =>
      rw [hf] at h
      simp only at h
      cases hf2 : fig n t (p + 1) with
      | none =>
        rw [hf2] at h
        simp only at h
        by_cases c : least ≤ v
        · rw [if_pos c] at h; cases h
        · rw [if_neg c] at h; cases h; rfl
      | some v2 =>
        rw [hf2] at h
        simp only at h
        by_cases c : least ≤ 10 * v + v2
        · rw [if_pos c] at h; cases h
        · rw [if_neg c] at h; cases h; rfl
  have hC : ∀ b q, rpC n t p b = .inl q → q ≤ p + 4 := by
    intro b q h
    unfold rpC at h
    cases hf : fig n t (p + 1) with
    | none => rw [hf] at h; cases h; omega
    | some v =>
      rw [hf] at h
      simp only at h
      cases hf2 : fig n t (p + 2) with
      | none => rw [hf2] at h; cases h
      | some x =>
        rw [hf2] at h
        simp only at h
        by_cases c : 6 < x
        · rw [if_pos c] at h; cases h; omega
        · rw [if_neg c] at h
          by_cases c2 : p + 3 < n ∧ t (p + 3) = 45
          · rw [if_pos c2] at h
            cases hf3 : fig n t (p + 4) with
            | none => rw [hf3] at h; cases h; omega
            | some y =>
              rw [hf3] at h
              simp only at h
              by_cases c3 : y < x ∨ 6 < y
              · rw [if_pos c3] at h; cases h; omega
              · rw [if_neg c3] at h; cases h
          · rw [if_neg c2] at h; cases h; omega
  have hG : ∀ q, rpG n t p = .inl q → q ≤ p + 4 := by
    intro q h
    unfold rpG at h
    cases hf : fig n t (p + 1) with
    | none => rw [hf] at h; cases h; omega
    | some v =>
      rw [hf] at h
      simp only at h
      by_cases c : v = 4 ∨ v = 8 ∨ v = 9
      · rw [if_pos c] at h
        by_cases c2 : p + 2 < n ∧ t (p + 2) = 61
        · rw [if_pos c2] at h
          have := hF _ _ _ _ h
          omega
        · rw [if_neg c2] at h; cases h; omega
      · rw [if_neg c] at h; cases h; omega
  unfold rp at h
  by_cases c : p < n
  · rw [if_pos c] at h
    by_cases c1 : t p = 97
    · rw [if_pos c1] at h; have := hF _ _ _ _ h; omega
    rw [if_neg c1] at h
    by_cases c2 : t p = 101
    · rw [if_pos c2] at h; have := hN _ _ _ _ h; omega
    rw [if_neg c2] at h
    by_cases c3 : t p = 103
    · rw [if_pos c3] at h; exact hG _ h
    rw [if_neg c3] at h
    by_cases c4 : t p = 107
    · rw [if_pos c4] at h; have := hF _ _ _ _ h; omega
    rw [if_neg c4] at h
    by_cases c5 : t p = 110
    · rw [if_pos c5] at h; exact hC _ _ h
    rw [if_neg c5] at h
    by_cases c6 : t p = 116
    · rw [if_pos c6] at h; have := hN _ _ _ _ h; omega
    rw [if_neg c6] at h
    by_cases c7 : t p = 121
    · rw [if_pos c7] at h; exact hC _ _ h
    rw [if_neg c7] at h
    cases h; omega
  · rw [if_neg c] at h; cases h; omega
def RP (σ : St) (j : Nat) (o : Nat ⊕ List Eff) (x : Int32 × St) : Prop := match o with
  | .inl q => ∃ it sd z, x = (nI q, su (sr (sr σ (11, j) it) (12, j) sd) (1, j) 5 z)
  | .inr l => ∃ z, x = (-1, su (exs σ j 0 l) (1, j) 5 z)
set_option maxHeartbeats 1000000 in
theorem x_readParts {σ : St} {j n : Nat} {t : Nat → Nat} (hj : j < 11) (h : XT σ j n t) : ∃ x, fX1_readParts σ j = some x ∧ RP σ j (pl n t 28 0) x := by
  unfold fX1_readParts
  have h80 := h.1
  rw [bnd_eq]
  refine lpF_for (fun i a => ∃ l p, l.length = i ∧ 3 * i ≤ p ∧ p ≤ n ∧ a = (nI i, su (exs σ j 0 l) (1, j) 5 (nI p)) ∧ pl n t 28 0 = plc l (pl n t (28 - i) p)) 27 ?_ ?_ (by decide) ?_
  · intro i a hi ⟨l, p, hl, hp1, hp2, ha, hpl⟩
    subst ha
    have hx := (h.exs l 0).at (nI p)
    have hr := x_readPart hj hx (show p < 900 by omega) (su_hit _ _ _ _) i
    have c80 : ¬ (80 : Int32) ≤ nI i := by
      rw [show (80 : Int32) = nI 80 from rfl, leI (by decide) (by omega)]; omega
    rw [show 28 - i = (27 - i) + 1 by omega, pl_S n t (27 - i) p] at hpl
    simp only [c80, if_false]
    cases ho : rp n t p with
    | inl q =>
      rw [ho] at hr hpl
      obtain ⟨z, hz⟩ := hr
      have hq : q < 2 ^ 31 := by
        have := rp_fault ho
        omega
      refine Or.inr ⟨_, by rw [hz, obi_s]; simp only [nI_ne_m1 hq, if_false]; rfl, ?_⟩
      rw [hpl]
      obtain ⟨it, sd, e⟩ := exs_fr j l σ 0
      exact ⟨it, sd, z, by rw [su_su, e]⟩
    | inr w =>
      obtain ⟨p', e⟩ := w
      have hnx := rp_next ho
      rw [ho] at hr hpl
      have hr' : fX1_readPart (su (exs σ j 0 l) (1, j) 5 (nI p)) j (nI i) = some (-1, su (effX (su (exs σ j 0 l) (1, j) 5 (nI p)) j i e) (1, j) 5 (nI p')) := hr
      have ee : su (effX (su (exs σ j 0 l) (1, j) 5 (nI p)) j i e) (1, j) 5 (nI p') = su (exs σ j 0 (l ++ [e])) (1, j) 5 (nI p') := by
        rw [su_at_eff, su_su, exs_app, hl, Nat.zero_add]
        rfl
      rw [ee] at hr'
      have hx2 := (h.exs (l ++ [e]) 0).at (nI p')
      simp only [hr', obi_s, if_true, su_hit, hx2.2.1, ltI (show p' < 2 ^ 31 by omega) (show n < 2 ^ 31 by omega)]
      by_cases c : p' < n
      · obtain ⟨q1, q2, q3⟩ := x_char (c := 59) hx2 c (by decide)
        simp only [c, if_true, q1, grd_t, q2, show (59 : Int32) = nI 59 from rfl, q3] at hpl ⊢
        by_cases c2 : t p' = 59
        · simp only [c2, if_true, bnd_eq, su_su, nI_1] at hpl ⊢
          refine Or.inl ⟨_, rfl, l ++ [e], p' + 1, by simp [hl], by omega, by omega, rfl, ?_⟩
          rw [hpl, plc_c, show 28 - (i + 1) = 27 - i by omega]
        · simp only [c2, if_false] at hpl ⊢
          refine Or.inr ⟨_, rfl, ?_⟩
          rw [hpl]
          obtain ⟨it, sd, e'⟩ := exs_fr j (l ++ [e]) σ 0
          exact ⟨it, sd, nI p', by rw [e']⟩
      · simp only [c, if_false] at hpl ⊢
        refine Or.inr ⟨_, rfl, ?_⟩
        rw [hpl]
        exact ⟨_, rfl⟩
  · intro a ⟨l, p, hl, hp1, hp2, ha, hpl⟩
    omega
  · exact ⟨[], 0, rfl, by omega, by omega, rfl, by cases pl n t 28 0 <;> rfl⟩
def itF : List Eff → (Nat → Int32) → Nat → Int32
  | [], it => it
  | e :: l, it => itF l (effI e it)
def sdF : Nat → List Eff → (Nat → Int32) → Nat → Int32
  | _, [], sd => sd
  | k, e :: l, sd => sdF (k + 1) l (effS e k sd)
theorem exs_rows (j : Nat) : ∀ (l : List Eff) (σ : St) (k : Nat), exs σ j k l = sr (sr σ (11, j) (itF l (σ (11, j)))) (12, j) (sdF k l (σ (12, j)))
  | [], σ, k => by
      show σ = sr (sr σ (11, j) (σ (11, j))) (12, j) (σ (12, j))
      rw [sr_same, sr_same]
  | e :: l, σ, k => by
    show exs (effX σ j k e) j (k + 1) l = sr (sr σ (11, j) (itF l (effI e (σ (11, j))))) (12, j) (sdF (k + 1) l (effS e k (σ (12, j))))
    rw [exs_rows j l]
    have e1 : effX σ j k e (11, j) = effI e (σ (11, j)) := by funext q; simp [effX, sr_app]
    have e2 : effX σ j k e (12, j) = effS e k (σ (12, j)) := by funext q; simp [effX, sr_app]
    rw [e1, e2]
    unfold effX
    funext r q
    simp only [sr_app]
    by_cases c1 : r = (12, j)
    · simp [c1]
    · by_cases c2 : r = (11, j)
      · simp [c2]
      · simp [c1, c2]
/-- what a text says: the fault's place or -1, the effects -/
def saysF (n : Nat) (t : Nat → Nat) : Int32 := if n = 0 then -1 else match pl n t 28 0 with
  | .inl q => nI q
  | .inr _ => -1
def saysL (n : Nat) (t : Nat → Nat) : List Eff := if n = 0 then [] else match pl n t 28 0 with
  | .inl _ => []
  | .inr l => l
def m1f (_ : Nat) : Int32 := -1
/-- the rows of a code in the class are what its text says -/
def Xrd (σ : St) (j n : Nat) (t : Nat → Nat) : Prop := σ (1, j) 4 = saysF n t ∧ (∀ k, k < 17 → σ (11, j) k = itF (saysL n t) wpf k) ∧ ∀ k, k < 70 → σ (12, j) k = sdF 0 (saysL n t) m1f k
theorem itF_cong : ∀ (l : List Eff) {a b : Nat → Int32} (N : Nat), (∀ k, k < N → a k = b k) → (∀ e, e ∈ l → match e with | .inl w => w.1 < N | .inr _ => True) → ∀ k, k < N → itF l a k = itF l b k
  | [], a, b, N, h, _, k, hk => h k hk
  | e :: l, a, b, N, h, hl, k, hk => by
    refine itF_cong l N ?_ (fun e he => hl e (List.mem_cons_of_mem _ he)) k hk
    intro q hq
    have h0 := hl e (List.mem_cons_self ..)
    match e, h0 with
    | .inl (act, x, y, c), h0 =>
      simp only [effI, upd_app]
      rw [h q hq, h act h0]
    | .inr (item, v), _ =>
      simp only [effI, upd_app]
      rw [h q hq]
theorem sdF_cong : ∀ (l : List Eff) (i : Nat) {a b : Nat → Int32} (N : Nat), (∀ k, k < N → a k = b k) → ∀ k, k < N → sdF i l a k = sdF i l b k
  | [], i, a, b, N, h, k, hk => h k hk
  | e :: l, i, a, b, N, h, k, hk => by
    refine sdF_cong l (i + 1) N ?_ k hk
    intro q hq
    match e with
    | .inl (act, x, y, c) =>
      simp only [effS]
      rw [h q hq]
    | .inr (item, v) =>
      simp only [effS]
      rw [h q hq]
/-- what the effects of a text may be -/
def EOk (e : Eff) : Prop := match e with
  | .inl (act, x, y, _) => act < 10 ∧ x ≤ y ∧ y < 7
  | .inr (item, v) => (10 ≤ item ∧ item < 17) ∧ v < 100 ∧ (item < 13 → v < 10) ∧ (item = 13 ∨ item = 14 → v < 3) ∧ (item = 16 → 1 ≤ v)
theorem rp_ok {n : Nat} {t : Nat → Nat} {p p' : Nat} {e : Eff} (h : rp n t p = .inr (p', e)) : EOk e := by
  have hF : ∀ p item most p' e, rpF n t p item most = .inr (p', e) → ∃ v, e = .inr (item, v) ∧ v ≤ most := by
    intro p item most p' e h
    unfold rpF at h
    cases hf : fig n t p with
    | none => rw [hf] at h; cases h
    | some v =>
      rw [hf] at h
      simp only at h
      by_cases c : v ≤ most
      · rw [if_pos c] at h; cases h; exact ⟨v, rfl, c⟩
      · rw [if_neg c] at h; cases h
  have hN : ∀ p item least p' e, rpN n t p item least = .inr (p', e) → ∃ v, e = .inr (item, v) ∧ least ≤ v ∧ v < 100 := by
    intro p item least p' e h
    unfold rpN at h
    cases hf : fig n t p with
    | none => rw [hf] at h; cases h
    | some v =>
      rw [hf] at h
      simp only at h
      have := (fig_lt hf).1
      cases hf2 : fig n t (p + 1) with
      | none =>
        rw [hf2] at h
        simp only at h
        by_cases c : least ≤ v
        · rw [if_pos c] at h; cases h; exact ⟨_, rfl, c, by omega⟩
        · rw [if_neg c] at h; cases h
      | some v2 =>
        rw [hf2] at h
        simp only at h
        have := (fig_lt hf2).1
        by_cases c : least ≤ 10 * v + v2
        · rw [if_pos c] at h; cases h; exact ⟨_, rfl, c, by omega⟩
        · rw [if_neg c] at h; cases h
  have hC : ∀ b p' e, rpC n t p b = .inr (p', e) → EOk e := by
    intro b p' e h
    unfold rpC at h
    cases hf : fig n t (p + 1) with
    | none => rw [hf] at h; cases h
    | some v =>
      rw [hf] at h
      simp only at h
      have := (fig_lt hf).1
      cases hf2 : fig n t (p + 2) with
      | none => rw [hf2] at h; cases h; exact ⟨this, by omega, by omega⟩
      | some x =>
        rw [hf2] at h
        simp only at h
        by_cases c : 6 < x
        · rw [if_pos c] at h; cases h
        · rw [if_neg c] at h
          by_cases c2 : p + 3 < n ∧ t (p + 3) = 45
          · rw [if_pos c2] at h
            cases hf3 : fig n t (p + 4) with
            | none => rw [hf3] at h; cases h
            | some y =>
              rw [hf3] at h
              simp only at h
              by_cases c3 : y < x ∨ 6 < y
              · rw [if_pos c3] at h; cases h
              · rw [if_neg c3] at h; cases h; exact ⟨this, by omega, by omega⟩
          · rw [if_neg c2] at h; cases h
  have hG : ∀ p' e, rpG n t p = .inr (p', e) → EOk e := by
    intro p' e h
    unfold rpG at h
    cases hf : fig n t (p + 1) with
    | none => rw [hf] at h; cases h
    | some v =>
      rw [hf] at h
      simp only at h
      by_cases c : v = 4 ∨ v = 8 ∨ v = 9
      · rw [if_pos c] at h
        by_cases c2 : p + 2 < n ∧ t (p + 2) = 61
        · rw [if_pos c2] at h
          obtain ⟨u, rfl, hu⟩ := hF _ _ _ _ _ h
          have : 10 ≤ (if v = 4 then 10 else v + 3) ∧ (if v = 4 then 10 else v + 3) < 13 := by
            rcases c with rfl | rfl | rfl <;> decide
          exact ⟨by omega, by omega, by omega, by omega, by omega⟩
        · rw [if_neg c2] at h; cases h
      · rw [if_neg c] at h; cases h
  unfold rp at h
  by_cases c : p < n
  · rw [if_pos c] at h
    by_cases c1 : t p = 97
    · rw [if_pos c1] at h; obtain ⟨v, rfl, hv⟩ := hF _ _ _ _ _ h; exact ⟨by omega, by omega, by omega, by omega, by omega⟩
    rw [if_neg c1] at h
    by_cases c2 : t p = 101
    · rw [if_pos c2] at h; obtain ⟨v, rfl, hv⟩ := hN _ _ _ _ _ h; exact ⟨by omega, by omega, by omega, by omega, by omega⟩
    rw [if_neg c2] at h
    by_cases c3 : t p = 103
    · rw [if_pos c3] at h; exact hG _ _ h
    rw [if_neg c3] at h
    by_cases c4 : t p = 107
    · rw [if_pos c4] at h; obtain ⟨v, rfl, hv⟩ := hF _ _ _ _ _ h; exact ⟨by omega, by omega, by omega, by omega, by omega⟩
    rw [if_neg c4] at h
    by_cases c5 : t p = 110
    · rw [if_pos c5] at h; exact hC _ _ _ h
    rw [if_neg c5] at h
    by_cases c6 : t p = 116
    · rw [if_pos c6] at h; obtain ⟨v, rfl, hv⟩ := hN _ _ _ _ _ h; exact ⟨by omega, by omega, by omega, by omega, by omega⟩
    rw [if_neg c6] at h
    by_cases c7 : t p = 121
    · rw [if_pos c7] at h; exact hC _ _ _ h
    rw [if_neg c7] at h
    cases h
  · rw [if_neg c] at h; cases h
theorem pl_ok {n : Nat} {t : Nat → Nat} : ∀ (f p : Nat) (l : List Eff), pl n t f p = .inr l → ∀ e, e ∈ l → EOk e
  | 0, p, l, h, e, he => by
    have : l = [] := by
      rw [pl] at h
      exact (Sum.inr.inj h).symm
    subst this
    cases he
  | f + 1, p, l, h, e, he => by
    rw [pl_S] at h
    cases ho : rp n t p with
    | inl q => rw [ho] at h; cases h
    | inr w =>
      obtain ⟨p', e'⟩ := w
      rw [ho] at h
      simp only at h
      have h0 := rp_ok ho
      by_cases c : p' < n
      · rw [if_pos c] at h
        by_cases c2 : t p' = 59
        · rw [if_pos c2] at h
          cases hr : pl n t f (p' + 1) with
          | inl q => rw [hr] at h; cases h
          | inr l' =>
            rw [hr] at h
            have h' : l = e' :: l' := (Sum.inr.inj h).symm
            rw [h'] at he
            rcases List.mem_cons.1 he with rfl | he
            · exact h0
            · exact pl_ok f (p' + 1) l' hr e he
        · rw [if_neg c2] at h; cases h
      · rw [if_neg c] at h
        have h' : l = [e'] := (Sum.inr.inj h).symm
        rw [h'] at he
        rw [List.mem_singleton.1 he]
        exact h0
theorem saysL_ok (n : Nat) (t : Nat → Nat) : ∀ e, e ∈ saysL n t → EOk e := by
  intro e he
  unfold saysL at he
  by_cases c : n = 0
  · rw [if_pos c] at he; cases he
  · rw [if_neg c] at he
    cases h : pl n t 28 0 with
    | inl q => rw [h] at he; cases he
    | inr l => rw [h] at he; exact pl_ok _ _ _ h e he
