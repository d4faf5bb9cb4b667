/-! ===== the parts of a set, one after another ===== -/
def ord (x : Int32) : Nat := x.toBitVec.toNat
theorem bt_tb (x : Int32) (k : Nat) : bt x k = (ord x).testBit k := rfl
theorem bt_ge (x : Int32) {k : Nat} (h : 32 ≤ k) : bt x k = false := BitVec.getLsbD_of_ge _ _ h
theorem ord_lt {x y : Int32} (q : Nat) (hx : bt x q = false) (hy : bt y q = true) (h : ∀ k, q < k → k < 32 → bt x k = bt y k) : ord x < ord y := by
  have hh : ord x / 2 ^ (q + 1) = ord y / 2 ^ (q + 1) := by
    apply Nat.eq_of_testBit_eq
    intro i
    rw [Nat.testBit_div_two_pow, Nat.testBit_div_two_pow]
    by_cases c : i + (q + 1) < 32
    · exact h _ (by omega) c
    · exact (bt_ge x (by omega)).trans (bt_ge y (by omega)).symm
  rw [bt_tb, Nat.testBit_eq_decide_div_mod_eq] at hx hy
  have hx' : ¬ ord x / 2 ^ q % 2 = 1 := by simpa using hx
  have hy' : ord y / 2 ^ q % 2 = 1 := by simpa using hy
  rw [Nat.pow_succ, ← Nat.div_div_eq_div_mul, ← Nat.div_div_eq_div_mul] at hh
  have : ord x / 2 ^ q < ord y / 2 ^ q := by omega
  by_cases c : ord x < ord y
  · exact c
  · have := Nat.div_le_div_right (c := 2 ^ q) (show ord y ≤ ord x by omega)
    omega
theorem hidiff {x y : Int32} : ∀ N, N ≤ 32 → (∀ k, N ≤ k → k < 32 → bt x k = bt y k) → x = y ∨ ∃ q, q < N ∧ ¬ bt x q = bt y q ∧ ∀ k, q < k → k < 32 → bt x k = bt y k
  | 0, _, h => Or.inl (bt_ext (fun k hk => h k (by omega) hk))
  | N + 1, hN, h => by
    by_cases c : bt x N = bt y N
    · rcases hidiff (x := x) (y := y) N (by omega) (fun k hk hk2 => by
        by_cases d : k = N
        · rw [d, c]
        · exact h k (by omega) hk2) with e | ⟨q, h1, h2, h3⟩
      · exact Or.inl e
      · exact Or.inr ⟨q, by omega, h2, h3⟩
    · exact Or.inr ⟨N, by omega, c, fun k hk hk2 => h k (by omega) hk2⟩
theorem ord_ex {x y : Int32} (h : ord x < ord y) : ∃ q, q < 32 ∧ bt x q = false ∧ bt y q = true ∧ ∀ k, q < k → k < 32 → bt x k = bt y k := by
  rcases hidiff (x := x) (y := y) 32 (by omega) (fun k hk hk2 => by omega) with e | ⟨q, h1, h2, h3⟩
  · subst e
    omega
  · refine ⟨q, h1, ?_⟩
    cases hx : bt x q with
    | false =>
      cases hy : bt y q with
      | false => rw [hx, hy] at h2; exact absurd rfl h2
      | true => exact ⟨rfl, rfl, h3⟩
    | true =>
      cases hy : bt y q with
      | true => rw [hx, hy] at h2; exact absurd rfl h2
      | false =>
        have := ord_lt q hy hx (fun k hk hk2 => (h3 k hk hk2).symm)
        omega
theorem ord_inj {x y : Int32} (h : ord x = ord y) : x = y := Int32.toBitVec_inj.1 (BitVec.eq_of_toNat_eq h)
/-- s is a part of m -/
def sb (s m : Int32) : Prop := ∀ k, k < 32 → bt s k = true → bt m k = true
def AL (u : Nat → Bool) : Nat → Bool
  | 0 => true
  | i + 1 => AL u i && u i
theorem AL_t {u : Nat → Bool} : ∀ i, (∀ j, j < i → u j = true) → AL u i = true
  | 0, _ => rfl
  | i + 1, h => by
    show (AL u i && u i) = true
    rw [AL_t i (fun j hj => h j (by omega)), h i (by omega)]
    rfl
theorem AL_f {u : Nat → Bool} {p : Nat} (hp : u p = false) : ∀ d, AL u (p + 1 + d) = false
  | 0 => by
    show (AL u p && u p) = false
    rw [hp, Bool.and_false]
  | d + 1 => by
    show (AL u (p + 1 + d) && _) = false
    rw [AL_f hp d]
    rfl
theorem carry1 (u : BitVec 32) : ∀ i, BitVec.carry (i + 1) u 1#32 false = AL u.getLsbD (i + 1)
  | 0 => by
    rw [BitVec.carry_succ, BitVec.carry_zero]
    show Bool.atLeastTwo _ _ _ = (true && u.getLsbD 0)
    rw [BitVec.getLsbD_one]
    cases u.getLsbD 0 <;> rfl
  | i + 1 => by
    rw [BitVec.carry_succ, carry1 u i, BitVec.getLsbD_one]
    show Bool.atLeastTwo _ _ _ = (AL u.getLsbD (i + 1) && u.getLsbD (i + 1))
    have : decide (i + 1 = 0) = false := by simp
    rw [this, Bool.and_false]
    cases u.getLsbD (i + 1) <;> cases AL u.getLsbD (i + 1) <;> rfl
theorem inc_bit (u : BitVec 32) {i : Nat} (hi : i < 32) : (u + 1#32).getLsbD i = (u.getLsbD i ^^ AL u.getLsbD i) := by
  rw [BitVec.getLsbD_add hi, BitVec.getLsbD_one]
  cases i with
  | zero => rw [BitVec.carry_zero]; cases u.getLsbD 0 <;> rfl
  | succ i =>
    rw [carry1]
    have : decide (i + 1 = 0) = false := by simp
    rw [this, Bool.and_false, Bool.false_xor]
theorem bt_next {s m : Int32} (h : sb s m) {i : Nat} (hi : i < 32) : bt ((s - m) &&& m) i = (bt m i && (bt s i ^^ AL (fun k => bt s k || !(bt m k)) i)) := by
  have hz : s.toBitVec &&& ~~~ m.toBitVec = 0#32 := by
    apply BitVec.eq_of_getLsbD_eq
    intro k hk
    rw [BitVec.getLsbD_and, BitVec.getLsbD_not, BitVec.getLsbD_zero]
    have := h k hk
    unfold bt at this
    cases hb : s.toBitVec.getLsbD k with
    | false => rfl
    | true => rw [this hb]; simp
  have e : (s - m).toBitVec = (s.toBitVec ||| ~~~ m.toBitVec) + 1#32 := by
    rw [Int32.toBitVec_sub, BitVec.sub_eq_add_neg, BitVec.neg_eq_not_add, ← BitVec.add_assoc, BitVec.add_eq_or_of_and_eq_zero _ _ hz]
  have ux : ∀ k, k < 32 → (s.toBitVec ||| ~~~ m.toBitVec).getLsbD k = (bt s k || !(bt m k)) := by
    intro k hk
    rw [BitVec.getLsbD_or, BitVec.getLsbD_not]
    simp [hk, bt]
  have al : ∀ j, j ≤ 32 → AL (s.toBitVec ||| ~~~ m.toBitVec).getLsbD j = AL (fun k => bt s k || !(bt m k)) j := by
    intro j
    induction j with
    | zero => intro _; rfl
    | succ j ih =>
      intro hj
      show (AL _ j && _) = (AL _ j && _)
      rw [ih (by omega), ux j (by omega)]
  rw [bt_and]
  show ((s - m).toBitVec.getLsbD i && bt m i) = _
  rw [e, inc_bit _ hi, al i (by omega), ux i hi]
  cases hm : bt m i with
  | false => simp
  | true => simp
theorem sb_next {s m : Int32} (h : sb s m) : sb ((s - m) &&& m) m := by
  intro k hk
  rw [bt_next h hk]
  cases bt m k <;> simp
/-- the lowest place that is missing -/
theorem low_miss {s m : Int32} (h : sb s m) (hne : ¬ s = m) : ∃ p, p < 32 ∧ bt m p = true ∧ bt s p = false ∧ ∀ k, k < p → bt s k = bt m k := by
  have key : ∀ N, N ≤ 32 → (∀ k, k < N → bt s k = bt m k) ∨ ∃ p, p < N ∧ bt m p = true ∧ bt s p = false ∧ ∀ k, k < p → bt s k = bt m k := by
    intro N
    induction N with
    | zero => intro _; exact Or.inl (fun k hk => by omega)
    | succ N ih =>
      intro hN
      rcases ih (by omega) with a | ⟨p, h1, h2⟩
      · cases hs : bt s N with
        | true => exact Or.inl (fun k hk => by
            by_cases c : k = N
            · rw [c, hs, h N (by omega) hs]
            · exact a k (by omega))
        | false =>
          cases hm : bt m N with
          | true => exact Or.inr ⟨N, by omega, hm, hs, a⟩
          | false => exact Or.inl (fun k hk => by
            by_cases c : k = N
            · rw [c, hs, hm]
            · exact a k (by omega))
      · exact Or.inr ⟨p, by omega, h2⟩
  rcases key 32 (by omega) with a | h
  · exact absurd (bt_ext (fun k hk => a k hk)) hne
  · exact h
/-- the bits of the next part -/
theorem next_bits {s m : Int32} (h : sb s m) (hne : ¬ s = m) : ∃ p, p < 32 ∧ bt m p = true ∧ bt s p = false ∧ (∀ k, k < p → bt s k = bt m k) ∧ bt ((s - m) &&& m) p = true ∧ (∀ k, k < p → bt ((s - m) &&& m) k = false) ∧ ∀ k, p < k → k < 32 → bt ((s - m) &&& m) k = bt s k := by
  obtain ⟨p, h1, h2, h3, h4⟩ := low_miss h hne
  have at' : ∀ k, k ≤ p → AL (fun k => bt s k || !(bt m k)) k = true := fun k hk => AL_t k (fun j hj => by
    show (bt s j || !(bt m j)) = true
    rw [h4 j (by omega)]
    cases bt m j <;> rfl)
  refine ⟨p, h1, h2, h3, h4, ?_, ?_, ?_⟩
  · rw [bt_next h h1, at' p (by omega), h2, h3]; rfl
  · intro k hk
    rw [bt_next h (by omega), at' k (by omega), h4 k hk]
    cases bt m k <;> rfl
  · intro k hk hk2
    have : AL (fun k => bt s k || !(bt m k)) k = false := by
      have := AL_f (u := fun k => bt s k || !(bt m k)) (p := p) (by show (bt s p || !(bt m p)) = false; rw [h2, h3]; rfl) (k - (p + 1))
      rw [show p + 1 + (k - (p + 1)) = k by omega] at this
      exact this
    rw [bt_next h hk2, this]
    cases hs : bt s k with
    | false => simp
    | true => rw [h k hk2 hs]; rfl
theorem next_up {s m : Int32} (h : sb s m) (hne : ¬ s = m) : ord s < ord ((s - m) &&& m) := by
  obtain ⟨p, h1, h2, h3, h4, h5, h6, h7⟩ := next_bits h hne
  exact ord_lt p h3 h5 (fun k hk hk2 => (h7 k hk hk2).symm)
theorem next_least {s m t : Int32} (h : sb s m) (hne : ¬ s = m) (ht : sb t m) (hst : ord s < ord t) : ord ((s - m) &&& m) ≤ ord t := by
  obtain ⟨p, h1, h2, h3, h4, h5, h6, h7⟩ := next_bits h hne
  by_cases c : ord t < ord ((s - m) &&& m)
  · exfalso
    obtain ⟨r, r1, r2, r3, r4⟩ := ord_ex c
    obtain ⟨q, q1, q2, q3, q4⟩ := ord_ex hst
    have qp : p ≤ q := by
      by_cases d : q < p
      · rw [h4 q d, ht q q1 q3] at q2; cases q2
      · omega
    have rp : p ≤ r := by
      by_cases d : r < p
      · rw [h6 r d] at r3; cases r3
      · omega
    have nq : p < q → bt ((s - m) &&& m) q = false := fun d => by rw [h7 q d q1, q2]
    by_cases d : r < q
    · have := r4 q d q1
      rw [q3, nq (by omega)] at this
      cases this
    · by_cases e : r = q
      · subst e
        rw [r2] at q3; cases q3
      · have : p < r := by omega
        rw [h7 r this r1, q4 r (by omega) r1, r2] at r3
        cases r3
  · omega
theorem next_top {m : Int32} : (m - m) &&& m = 0 := by
  rw [Int32.sub_self, Int32.zero_and]
theorem next_n0 {s m : Int32} (h : sb s m) (hne : ¬ s = m) : ¬ (s - m) &&& m = 0 := by
  intro e
  have := next_up h hne
  rw [e] at this
  have z : ord 0 = 0 := rfl
  omega
/-- how many -/
def pcn (x : Int32) : Nat → Nat
  | 0 => 0
  | N + 1 => pcn x N + (if bt x N = true then 1 else 0)
def rkn (m s : Int32) : Nat → Nat
  | 0 => 0
  | N + 1 => rkn m s N + (if bt s N = true then 2 ^ (pcn m N) else 0)
theorem rkn_S (m s : Int32) (N : Nat) : rkn m s (N + 1) = rkn m s N + (if bt s N = true then 2 ^ (pcn m N) else 0) := rfl
theorem pcn_S (x : Int32) (N : Nat) : pcn x (N + 1) = pcn x N + (if bt x N = true then 1 else 0) := rfl
theorem rk_full {m s : Int32} : ∀ N, (∀ k, k < N → bt s k = bt m k) → rkn m s N + 1 = 2 ^ (pcn m N)
  | 0, _ => rfl
  | N + 1, h => by
    have ih := rk_full N (fun k hk => h k (by omega))
    rw [rkn_S, pcn_S, h N (by omega)]
    by_cases c : bt m N = true
    · rw [if_pos c, if_pos c, Nat.pow_succ]; omega
    · rw [if_neg c, if_neg c]; simpa using ih
theorem rk_zero {m s : Int32} : ∀ N, (∀ k, k < N → bt s k = false) → rkn m s N = 0
  | 0, _ => rfl
  | N + 1, h => by
    rw [rkn_S, rk_zero N (fun k hk => h k (by omega)), h N (by omega)]
    rfl
theorem rk_le {m s : Int32} (h : sb s m) : ∀ N, N ≤ 32 → rkn m s N + 1 ≤ 2 ^ (pcn m N)
  | 0, _ => Nat.le_refl 1
  | N + 1, hN => by
    have ih := rk_le h N (by omega)
    rw [rkn_S, pcn_S]
    by_cases c : bt s N = true
    · rw [if_pos c, if_pos (h N (by omega) c), Nat.pow_succ]; omega
    · rw [if_neg c]
      by_cases d : bt m N = true
      · rw [if_pos d, Nat.pow_succ]; omega
      · rw [if_neg d]; simpa using ih
theorem rk_up {m s n : Int32} {p : Nat} (h1 : bt s p = false) (h4 : ∀ k, k < p → bt s k = bt m k) (h5 : bt n p = true) (h6 : ∀ k, k < p → bt n k = false) : ∀ d, (∀ k, p < k → k < p + 1 + d → bt n k = bt s k) → rkn m n (p + 1 + d) = rkn m s (p + 1 + d) + 1
  | 0, _ => by
    show rkn m n (p + 1) = rkn m s (p + 1) + 1
    have := rk_full (m := m) (s := s) p h4
    rw [rkn_S, rkn_S, rk_zero p h6, h1, h5]
    simp
    omega
  | d + 1, h => by
    show rkn m n (p + 1 + d + 1) = rkn m s (p + 1 + d + 1) + 1
    rw [rkn_S, rkn_S, rk_up h1 h4 h5 h6 d (fun k hk hk2 => h k hk (by omega)), h (p + 1 + d) (by omega) (by omega)]
    omega
theorem rk_next {s m : Int32} (h : sb s m) (hne : ¬ s = m) : rkn m ((s - m) &&& m) 32 = rkn m s 32 + 1 := by
  obtain ⟨p, h1, h2, h3, h4, h5, h6, h7⟩ := next_bits h hne
  have := rk_up (m := m) h3 h4 h5 h6 (31 - p) (fun k hk hk2 => h7 k hk (by omega))
  rw [show p + 1 + (31 - p) = 32 by omega] at this
  exact this
theorem rk_top {s m : Int32} (h : sb s m) : rkn m s 32 + 1 = 2 ^ (pcn m 32) ↔ s = m := by
  constructor
  · intro e
    by_cases c : s = m
    · exact c
    · have h1 := rk_next h c
      have h2 := rk_le (sb_next h) 32 (by omega)
      omega
  · intro e
    subst e
    exact rk_full 32 (fun _ _ => rfl)
theorem rk_0 (m : Int32) : rkn m 0 32 = 0 := rk_zero 32 (fun k _ => bt_0 k)
theorem sb_0 (m : Int32) : sb 0 m := fun k _ h => by rw [bt_0] at h; cases h
theorem sb_rf (m : Int32) : sb m m := fun _ _ h => h
theorem pcn_17 {x : Int32} (h : ∀ k, 17 ≤ k → bt x k = false) : ∀ d, pcn x (17 + d) = pcn x 17
  | 0 => rfl
  | d + 1 => by
    show pcn x (17 + d) + (if bt x (17 + d) = true then 1 else 0) = _
    rw [pcn_17 h d, h (17 + d) (by omega)]
    rfl
theorem pcn_le (x : Int32) : ∀ N, pcn x N ≤ N
  | 0 => Nat.le_refl _
  | N + 1 => by
    rw [pcn_S]
    have := pcn_le x N
    split <;> omega
theorem pcn_sb {s m : Int32} (h : sb s m) : ∀ N, N ≤ 32 → pcn s N ≤ pcn m N
  | 0, _ => Nat.le_refl _
  | N + 1, hN => by
    rw [pcn_S, pcn_S]
    have := pcn_sb h N (by omega)
    by_cases c : bt s N = true
    · rw [if_pos c, if_pos (h N (by omega) c)]; omega
    · rw [if_neg c]; omega
theorem ord_sb {s m : Int32} (h : sb s m) : ord s ≤ ord m := by
  by_cases c : ord m < ord s
  · obtain ⟨q, h1, h2, h3, h4⟩ := ord_ex c
    rw [h q h1 h3] at h2
    cases h2
  · omega
