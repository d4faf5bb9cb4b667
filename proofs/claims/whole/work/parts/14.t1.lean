/-! ===== the cup: sets of clubs ===== -/
def lo (x : Int32) : Nat := tn (fJ6_numberOfTrailingZeros_0f7a4 x)
def lowB (n l : Nat) : Bool := (List.range l).all (fun k => !(n.testBit k))
def ntB (n : Nat) : Bool := decide (n = 0) || (decide (lo (nI n) < 12) && (decide (fJ6_numberOfTrailingZeros_0f7a4 (nI n) = nI (lo (nI n))) && (n.testBit (lo (nI n)) && lowB n (lo (nI n)))))
theorem nt_tb : ∀ a, a < 64 → ∀ b, b < 64 → ntB (64 * a + b) = true := by decide +kernel
theorem lo_ok {n : Nat} (hn : n < 4096) (h0 : ¬ n = 0) : lo (nI n) < 12 ∧ fJ6_numberOfTrailingZeros_0f7a4 (nI n) = nI (lo (nI n)) ∧ bt (nI n) (lo (nI n)) = true ∧ ∀ k, k < lo (nI n) → bt (nI n) k = false := by
  have h := nt_tb (n / 64) (by omega) (n % 64) (by omega)
  rw [show 64 * (n / 64) + n % 64 = n by omega] at h
  simp only [ntB, h0, decide_false, Bool.false_or, Bool.and_eq_true, decide_eq_true_eq] at h
  obtain ⟨h1, h2, h3, h4⟩ := h
  have o : ord (nI n) = n := pk_tn (by omega)
  refine ⟨h1, h2, by rw [bt_tb, o]; exact h3, fun k hk => ?_⟩
  rw [bt_tb, o]
  unfold lowB at h4
  rw [List.all_eq_true] at h4
  have := h4 k (List.mem_range.2 hk)
  simpa using this
theorem m_lowest {n : Nat} (hn : n < 4096) (h0 : ¬ n = 0) : fX9_lowest (nI n) = some (nI (lo (nI n))) := by
  obtain ⟨h1, h2, h3, h4⟩ := lo_ok hn h0
  unfold fX9_lowest
  refine lpF_fx (fun i s => s = nI i) (lo (nI n)) ?_ ?_ (by omega) rfl
  · intro i s hi hs
    subst hs
    refine Or.inl ⟨_, ?_, rfl⟩
    show (if (nI n >>> (nI i &&& 31)) &&& 1 = 0 then _ else _) = _
    rw [if_pos ((bit0 (nI n) (show i < 17 by omega)).2 (h4 i hi)), bnd_eq, nI_1]
  · intro s hs
    subst hs
    refine ⟨_, ?_, rfl⟩
    show (if (nI n >>> (nI (lo (nI n)) &&& 31)) &&& 1 = 0 then _ else _) = _
    rw [if_neg]
    intro e
    rw [(bit0 (nI n) (show lo (nI n) < 17 by omega)).1 e] at h3
    cases h3
def rst (x : Int32) (p y : Nat) : Int32 := x &&& ((((1 : Int32) <<< (nI p &&& 31)) ||| ((1 : Int32) <<< (nI y &&& 31))) ^^^ (-1 : Int32))
theorem rst_bt (x : Int32) {p y k : Nat} (hp : p < 17) (hy : y < 17) (hk : k < 32) : bt (rst x p y) k = (bt x k && !(decide (k = p) || decide (k = y))) := by
  unfold rst
  rw [bt_and, bt_not _ hk, bt_or, bt_1h p hp k hk, bt_1h y hy k hk]
theorem bt_xor (x y : Int32) (k : Nat) : bt (x ^^^ y) k = (bt x k ^^ bt y k) := by
  unfold bt
  rw [Int32.toBitVec_xor, BitVec.getLsbD_xor]
theorem rst_x {x : Int32} {p y : Nat} (hp : p < 17) (hy : y < 17) (hpy : ¬ p = y) (bp : bt x p = true) (by' : bt x y = true) : (x ^^^ ((1 : Int32) <<< (nI p &&& 31))) ^^^ ((1 : Int32) <<< (nI y &&& 31)) = rst x p y := by
  apply bt_ext
  intro k hk
  rw [rst_bt x hp hy hk, bt_xor, bt_xor, bt_1h p hp k hk, bt_1h y hy k hk]
  by_cases c1 : k = p
  · have c2 : ¬ k = y := by omega
    simp [c1, bp, hpy]
  · by_cases c2 : k = y
    · simp [c1, c2, by']
      omega
    · simp [c1, c2]
theorem rst_sb (x : Int32) {p y : Nat} (hp : p < 17) (hy : y < 17) : sb (rst x p y) x := by
  intro k hk
  rw [rst_bt x hp hy hk, Bool.and_eq_true]
  exact fun w => w.1
theorem rst_lt {x : Int32} {p y : Nat} (hp : p < 17) (hy : y < 17) (hpy : p < y) (by' : bt x y = true) : ord (rst x p y) < ord x := by
  have h := ord_sb (rst_sb x hp hy)
  by_cases c : ord (rst x p y) = ord x
  · have := ord_inj c
    have e := rst_bt x hp hy (show y < 32 by omega)
    rw [this, by'] at e
    simp at e
  · omega
theorem rst_pc {x : Int32} {p y : Nat} (hp : p < 17) (hy : y < 17) (hpy : ¬ p = y) (bp : bt x p = true) (by' : bt x y = true) : ∀ N, N ≤ 32 → pcn (rst x p y) N + (if p < N then 1 else 0) + (if y < N then 1 else 0) = pcn x N
  | 0, _ => rfl
  | N + 1, hN => by
    have ih := rst_pc hp hy hpy bp by' N (by omega)
    rw [pcn_S, pcn_S, rst_bt x hp hy (by omega)]
    by_cases c1 : N = p
    · subst c1
      rw [bp]
      simp only [decide_true, Bool.true_or, Bool.not_true, Bool.and_false, Bool.false_eq_true, if_false, if_true]
      rw [if_neg (by omega)] at ih
      rw [if_pos (by omega)]
      by_cases c2 : y < N
      · rw [if_pos c2] at ih
        rw [if_pos (by omega)]
        omega
      · rw [if_neg c2] at ih
        rw [if_neg (by omega)]
        omega
    · by_cases c2 : N = y
      · subst c2
        rw [by']
        simp only [decide_true, Bool.or_true, Bool.not_true, Bool.and_false, Bool.false_eq_true, if_false, if_true]
        rw [if_neg (show ¬ N < N by omega)] at ih
        rw [if_pos (show N < N + 1 by omega)]
        by_cases c3 : p < N
        · rw [if_pos c3] at ih
          rw [if_pos (by omega)]
          omega
        · rw [if_neg c3] at ih
          rw [if_neg (by omega)]
          omega
      · simp only [c1, c2, decide_false, Bool.or_self, Bool.not_false, Bool.and_true]
        have e1 : (p < N + 1) = (p < N) := by apply propext; omega
        have e2 : (y < N + 1) = (y < N) := by apply propext; omega
        simp only [e1, e2]
        omega
theorem pcn_z {x : Int32} : ∀ N, pcn x N = 0 → ∀ k, k < N → bt x k = false
  | 0, _, k, hk => by omega
  | N + 1, h, k, hk => by
    rw [pcn_S] at h
    by_cases c : k = N
    · subst c
      cases hb : bt x k with
      | false => rfl
      | true => rw [hb, if_pos rfl] at h; omega
    · exact pcn_z N (by omega) k (by omega)
/-- the numbers of the cup -/
def mtB (W : Nat → Nat → Nat) (a : Nat) (x : Int32) (y : Nat) : Bool := decide (lo x < y) && (bt x y && decide (W (lo x) y ≤ a))
def smN (f : Nat → Nat) : Nat → Nat
  | 0 => 0
  | n + 1 => smN f n + f n
theorem smN_S (f : Nat → Nat) (n : Nat) : smN f (n + 1) = smN f n + f n := rfl
theorem smN_cong {f g : Nat → Nat} : ∀ n, (∀ k, k < n → f k = g k) → smN f n = smN g n
  | 0, _ => rfl
  | n + 1, h => by rw [smN_S, smN_S, smN_cong n (fun k hk => h k (by omega)), h n (by omega)]
theorem smN_le {f : Nat → Nat} {B : Nat} (h : ∀ k, f k ≤ B) : ∀ n, smN f n ≤ n * B
  | 0 => by simp [smN]
  | n + 1 => by
    rw [smN_S, Nat.succ_mul]
    have := smN_le h n
    have := h n
    omega
theorem smN_0 {f : Nat → Nat} : ∀ n, (∀ k, k < n → f k = 0) → smN f n = 0
  | 0, _ => rfl
  | n + 1, h => by rw [smN_S, smN_0 n (fun k hk => h k (by omega)), h n (by omega)]
theorem smN_ge {f : Nat → Nat} {m : Nat} : ∀ d, (∀ k, m ≤ k → k < m + d → f k = 0) → smN f (m + d) = smN f m
  | 0, _ => rfl
  | d + 1, h => by
    show smN f (m + d) + f (m + d) = _
    rw [smN_ge d (fun k hk hk2 => h k hk (by omega)), h (m + d) (by omega) (by omega), Nat.add_zero]
theorem smN_pos {f : Nat → Nat} : ∀ n, 0 < smN f n ↔ ∃ k, k < n ∧ 0 < f k
  | 0 => ⟨fun h => absurd h (Nat.lt_irrefl 0), fun ⟨k, hk, _⟩ => by omega⟩
  | n + 1 => by
    rw [smN_S]
    constructor
    · intro h
      by_cases c : 0 < f n
      · exact ⟨n, by omega, c⟩
      · obtain ⟨k, h1, h2⟩ := (smN_pos (f := f) n).1 (by omega)
        exact ⟨k, by omega, h2⟩
    · rintro ⟨k, h1, h2⟩
      by_cases c : k = n
      · subst c; omega
      · have := (smN_pos (f := f) n).2 ⟨k, by omega, h2⟩
        omega
def DN (W : Nat → Nat → Nat) (a : Nat) : Nat → Int32 → Nat
  | 0, x => if x = 0 then 1 else 0
  | k + 1, x => if x = 0 then 1 else smN (fun y => if mtB W a x y = true then DN W a k (rst x (lo x) y) else 0) 12
theorem DN_le (W : Nat → Nat → Nat) (a : Nat) : ∀ k x, DN W a k x ≤ 12 ^ k
  | 0, x => by unfold DN; split <;> decide
  | k + 1, x => by
    unfold DN
    split
    · exact Nat.pow_pos (by decide)
    · rw [Nat.pow_succ, Nat.mul_comm]
      refine smN_le (fun y => ?_) 12
      split
      · exact DN_le W a k _
      · exact Nat.zero_le _
def omin : Option Nat → Option Nat → Option Nat
  | none, b => b
  | some a, none => some a
  | some a, some b => some (if a ≤ b then a else b)
def LM (c : Nat → Option Nat) : Nat → Option Nat
  | 0 => none
  | n + 1 => omin (LM c n) (c n)
theorem LM_S (c : Nat → Option Nat) (n : Nat) : LM c (n + 1) = omin (LM c n) (c n) := rfl
theorem omin_n (a : Option Nat) : omin a none = a := by cases a <;> rfl
theorem LM_cong {c d : Nat → Option Nat} : ∀ n, (∀ k, k < n → c k = d k) → LM c n = LM d n
  | 0, _ => rfl
  | n + 1, h => by rw [LM_S, LM_S, LM_cong n (fun k hk => h k (by omega)), h n (by omega)]
theorem LM_0 {c : Nat → Option Nat} : ∀ n, (∀ k, k < n → c k = none) → LM c n = none
  | 0, _ => rfl
  | n + 1, h => by rw [LM_S, LM_0 n (fun k hk => h k (by omega)), h n (by omega)]; rfl
theorem LM_ge {c : Nat → Option Nat} {m : Nat} : ∀ d, (∀ k, m ≤ k → k < m + d → c k = none) → LM c (m + d) = LM c m
  | 0, _ => rfl
  | d + 1, h => by
    show omin (LM c (m + d)) (c (m + d)) = _
    rw [LM_ge d (fun k hk hk2 => h k hk (by omega)), h (m + d) (by omega) (by omega), omin_n]
theorem LM_le {c : Nat → Option Nat} {B : Nat} (h : ∀ k v, c k = some v → v ≤ B) : ∀ n v, LM c n = some v → v ≤ B
  | 0, v, e => by cases e
  | n + 1, v, e => by
    rw [LM_S] at e
    cases h1 : LM c n with
    | none => rw [h1] at e; exact h n v e
    | some a =>
      have ha := LM_le h n a h1
      rw [h1] at e
      cases h2 : c n with
      | none => rw [h2] at e; cases e; exact ha
      | some b =>
        have hb := h n b h2
        rw [h2] at e
        have e' : (if a ≤ b then a else b) = v := Option.some.inj e
        split at e' <;> omega
theorem LM_mem {c : Nat → Option Nat} : ∀ n v, LM c n = some v → ∃ k, k < n ∧ c k = some v
  | 0, v, e => by cases e
  | n + 1, v, e => by
    rw [LM_S] at e
    cases h1 : LM c n with
    | none => rw [h1] at e; exact ⟨n, by omega, e⟩
    | some a =>
      rw [h1] at e
      obtain ⟨k, k1, k2⟩ := LM_mem n a h1
      cases h2 : c n with
      | none => rw [h2] at e; cases e; exact ⟨k, by omega, k2⟩
      | some b =>
        rw [h2] at e
        have e' : (if a ≤ b then a else b) = v := Option.some.inj e
        split at e'
        · exact ⟨k, by omega, by rw [k2, e']⟩
        · exact ⟨n, by omega, by rw [h2, e']⟩
theorem LM_some {c : Nat → Option Nat} : ∀ n, (∃ v, LM c n = some v) ↔ ∃ k, k < n ∧ ∃ v, c k = some v
  | 0 => ⟨fun ⟨v, e⟩ => by (cases e), fun ⟨k, hk, _⟩ => by omega⟩
  | n + 1 => by
    constructor
    · rintro ⟨v, e⟩
      obtain ⟨k, k1, k2⟩ := LM_mem (n + 1) v e
      exact ⟨k, k1, v, k2⟩
    · rintro ⟨k, k1, v, k2⟩
      rw [LM_S]
      by_cases c1 : k = n
      · subst c1
        rw [k2]
        cases LM c k with
        | none => exact ⟨v, rfl⟩
        | some a => exact ⟨_, rfl⟩
      · obtain ⟨w, e⟩ := (LM_some (c := c) n).2 ⟨k, by omega, v, k2⟩
        rw [e]
        cases c n with
        | none => exact ⟨w, rfl⟩
        | some a => exact ⟨_, rfl⟩
def DL (W : Nat → Nat → Nat) (a : Nat) : Nat → Int32 → Option Nat
  | 0, x => if x = 0 then some 0 else none
  | k + 1, x => if x = 0 then some 0 else LM (fun y => if mtB W a x y = true then (DL W a k (rst x (lo x) y)).map (· + W (lo x) y) else none) 12
theorem DL_le {W : Nat → Nat → Nat} {a : Nat} (ha : a ≤ 99) : ∀ k x v, DL W a k x = some v → v ≤ 99 * k
  | 0, x, v, e => by
    unfold DL at e
    split at e
    · cases e; omega
    · cases e
  | k + 1, x, v, e => by
    unfold DL at e
    split at e
    · cases e; omega
    · refine LM_le (B := 99 * (k + 1)) (fun y w hw => ?_) 12 v e
      split at hw
      · rename_i hm
        cases h : DL W a k (rst x (lo x) y) with
        | none => rw [h] at hw; cases hw
        | some u =>
          rw [h] at hw
          have := DL_le ha k _ u h
          have hw' : u + W (lo x) y = w := Option.some.inj hw
          simp only [mtB, Bool.and_eq_true, decide_eq_true_eq] at hm
          omega
      · cases hw
theorem DN_DL {W : Nat → Nat → Nat} {a : Nat} : ∀ k x, 0 < DN W a k x ↔ ∃ v, DL W a k x = some v
  | 0, x => by
    unfold DN DL
    split
    · exact ⟨fun _ => ⟨0, rfl⟩, fun _ => by decide⟩
    · exact ⟨fun h => absurd h (by decide), fun ⟨v, e⟩ => by cases e⟩
  | k + 1, x => by
    unfold DN DL
    split
    · exact ⟨fun _ => ⟨0, rfl⟩, fun _ => by decide⟩
    · rw [smN_pos, LM_some]
      constructor
      · rintro ⟨y, hy, h⟩
        refine ⟨y, hy, ?_⟩
        split at h
        · rename_i hm
          obtain ⟨v, e⟩ := (DN_DL k _).1 h
          exact ⟨_, by rw [if_pos hm, e]; rfl⟩
        · omega
      · rintro ⟨y, hy, v, h⟩
        refine ⟨y, hy, ?_⟩
        split at h
        · rename_i hm
          rw [if_pos hm]
          refine (DN_DL k _).2 ?_
          cases h' : DL W a k (rst x (lo x) y) with
          | none => rw [h'] at h; cases h
          | some u => exact ⟨u, rfl⟩
        · cases h
