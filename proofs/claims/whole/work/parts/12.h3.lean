/-! ===== bits ===== -/
def bt (x : Int32) (k : Nat) : Bool := x.toBitVec.getLsbD k
theorem and1 (y : Int32) : (y &&& 1 = 1) ↔ y.toBitVec.getLsbD 0 = true := by
  constructor
  · intro h
    have := congrArg (fun z => (Int32.toBitVec z).getLsbD 0) h
    simp only [Int32.toBitVec_and, BitVec.getLsbD_and] at this
    rw [show BitVec.getLsbD (Int32.toBitVec 1) 0 = true by decide, Bool.and_true] at this
    exact this
  · intro h
    apply Int32.toBitVec_inj.1
    rw [Int32.toBitVec_and]
    apply BitVec.eq_of_getLsbD_eq
    intro k hk
    rw [BitVec.getLsbD_and]
    by_cases c : k = 0
    · subst c
      rw [h]
      decide
    · have : BitVec.getLsbD (Int32.toBitVec 1) k = false := by
        rw [show Int32.toBitVec 1 = 1#32 by decide, BitVec.getLsbD_one]
        simp
        omega
      rw [this]
      simp
theorem smod_k : ∀ k, k < 17 → ((nI k &&& 31).toBitVec.smod 32).toNat = k := by decide +kernel
theorem bit_iff (x : Int32) {k : Nat} (hk : k < 17) : ((x >>> (nI k &&& 31)) &&& 1 = 1) ↔ bt x k = true := by
  rw [and1, Int32.toBitVec_shiftRight]
  unfold bt BitVec.sshiftRight'
  rw [smod_k k hk, BitVec.getLsbD_sshiftRight]
  have : k + 0 < 32 := by omega
  simp [this]
  omega
theorem bt_and (x y : Int32) (k : Nat) : bt (x &&& y) k = (bt x k && bt y k) := by
  unfold bt
  rw [Int32.toBitVec_and, BitVec.getLsbD_and]
theorem bt_or (x y : Int32) (k : Nat) : bt (x ||| y) k = (bt x k || bt y k) := by
  unfold bt
  rw [Int32.toBitVec_or, BitVec.getLsbD_or]
theorem bt_not (x : Int32) {k : Nat} (hk : k < 32) : bt (x ^^^ (-1)) k = !(bt x k) := by
  unfold bt
  rw [Int32.toBitVec_xor, BitVec.getLsbD_xor, show Int32.toBitVec (-1) = BitVec.allOnes 32 by decide, BitVec.getLsbD_allOnes]
  simp [hk]
theorem bt_0 (k : Nat) : bt 0 k = false := by
  unfold bt
  rw [show Int32.toBitVec 0 = 0#32 by decide, BitVec.getLsbD_zero]
theorem bt_1 : ∀ i, i < 17 → ∀ k, k < 17 → bt ((1 : Int32) <<< (nI i &&& 31)) k = decide (k = i) := by decide +kernel
theorem dm_bit (f g : Nat → Int32) {k : Nat} (hk : k < 17) : ∀ N, N ≤ 17 → bt (dm f g N) k = (decide (k < N) && !(decide (f k = g k)))
  | 0, _ => by
    show bt 0 k = _
    rw [bt_0]
    simp
  | N + 1, hN => by
    rw [dm_S, bt_or, dm_bit f g hk N (by omega)]
    by_cases c : f N = g N
    · rw [if_pos c, bt_0]
      by_cases d : k = N
      · subst d; simp [c]
      · have : decide (k < N + 1) = decide (k < N) := decide_eq_decide.2 (by omega)
        simp [this]
    · rw [if_neg c, bt_1 N (by omega) k hk]
      by_cases d : k = N
      · subst d; simp [c]
      · have : decide (k < N + 1) = decide (k < N) := decide_eq_decide.2 (by omega)
        simp [this, d]
theorem mixf_b (a : Int32) (f g : Nat → Int32) {k : Nat} (hk : k < 17) : mixf a f g k = if bt a k = true then g k else f k := by
  unfold mixf
  by_cases c : bt a k = true
  · rw [if_pos c, if_pos ((bit_iff a hk).2 c)]
  · rw [if_neg c, if_neg (fun e => c ((bit_iff a hk).1 e))]
theorem dm_sym (f g : Nat → Int32) : ∀ N, dm f g N = dm g f N
  | 0 => rfl
  | N + 1 => by
    rw [dm_S, dm_S, dm_sym f g N]
    by_cases c : f N = g N
    · rw [if_pos c, if_pos c.symm]
    · rw [if_neg c, if_neg (fun e => c e.symm)]
/-- what is given and what is taken make the same row -/
theorem mix_swap (f g : Nat → Int32) (A B : Int32) (h : (dm f g 17 &&& A) &&& B = 0) {k : Nat} (hk : k < 17) : mixf (dm g f 17 &&& A) g f k = mixf (dm f g 17 &&& (B ||| (A ^^^ (-1)))) f g k := by
  rw [mixf_b _ _ _ hk, mixf_b _ _ _ hk, and_or_not _ _ _ h, dm_sym g f, bt_and, bt_and, bt_not A (by omega), dm_bit f g hk 17 (Nat.le_refl _)]
  by_cases c : f k = g k
  · simp [c]
  · cases hA : bt A k <;> simp [c, hk]
theorem mm_lt {i j : Nat} (hi : i < 12) (hj : j < 12) : mmin (nI i) (nI j) = nI (min i j) ∧ mmax (nI i) (nI j) = nI (max i j) := by
  unfold mmin mmax
  simp only [ltI (show j < 2 ^ 31 by omega) (show i < 2 ^ 31 by omega), ltI (show i < 2 ^ 31 by omega) (show j < 2 ^ 31 by omega)]
  constructor
  · by_cases c : j < i
    · rw [if_pos c, Nat.min_eq_right (by omega)]
    · rw [if_neg c, Nat.min_eq_left (by omega)]
  · by_cases c : i < j
    · rw [if_pos c, Nat.max_eq_right (by omega)]
    · rw [if_neg c, Nat.max_eq_left (by omega)]
