theorem nI_ord {x : Int32} (h : ord x < 2 ^ 31) : x = nI (ord x) := by
  apply Int32.toBitVec_inj.1
  apply BitVec.eq_of_toNat_eq
  show _ = (BitVec.ofNat 32 _).toNat
  rw [BitVec.toNat_ofNat]
  exact (Nat.mod_eq_of_lt (by omega)).symm
theorem ord_nI {n : Nat} (h : n < 2 ^ 32) : ord (nI n) = n := pk_tn h
theorem nI_bt {n k m : Nat} (h : n < 2 ^ m) (hm : m ≤ 31) (hk : m ≤ k) : bt (nI n) k = false := by
  have : 2 ^ m ≤ 2 ^ 31 := Nat.pow_le_pow_right (by omega) hm
  rw [bt_tb, ord_nI (by omega)]
  exact Nat.testBit_lt_two_pow (Nat.lt_of_lt_of_le h (Nat.pow_le_pow_right (by omega) hk))
theorem pcn_hi {x : Int32} {m : Nat} (h : ∀ k, m ≤ k → bt x k = false) : ∀ d, pcn x (m + d) = pcn x m
  | 0 => rfl
  | d + 1 => by
    show pcn x (m + d) + (if bt x (m + d) = true then 1 else 0) = _
    rw [pcn_hi h d, h (m + d) (by omega)]
    rfl
theorem pc12 {n : Nat} (hn : n < 4096) : pcn (nI n) 17 ≤ 12 := by
  rw [show pcn (nI n) 17 = pcn (nI n) 12 from pcn_hi (m := 12) (fun k hk => nI_bt (m := 12) hn (by decide) hk) 5]
  exact pcn_le _ _
theorem rst_n {n p y : Nat} (hn : n < 4096) (hp : p < 17) (hy : y < 17) (hpy : p < y) (by' : bt (nI n) y = true) : ∃ r, r < n ∧ rst (nI n) p y = nI r := by
  have h := rst_lt hp hy hpy by'
  rw [ord_nI (show n < 2 ^ 32 by omega)] at h
  exact ⟨_, h, nI_ord (by omega)⟩
theorem mt_ok {W : Nat → Nat → Nat} {a n y : Nat} (hn : n < 4096) (h0 : ¬ n = 0) (hy : y < 12) (h : mtB W a (nI n) y = true) : lo (nI n) < y ∧ bt (nI n) y = true ∧ W (lo (nI n)) y ≤ a ∧ ∃ r, r < n ∧ rst (nI n) (lo (nI n)) y = nI r ∧ pcn (nI r) 17 + 2 = pcn (nI n) 17 ∧ sb (nI r) (nI n) := by
  simp only [mtB, Bool.and_eq_true, decide_eq_true_eq] at h
  obtain ⟨h1, h2, h3⟩ := h
  obtain ⟨l1, l2, l3, l4⟩ := lo_ok hn h0
  obtain ⟨r, r1, r2⟩ := rst_n hn (show lo (nI n) < 17 by omega) (show y < 17 by omega) h1 h2
  have := rst_pc (x := nI n) (p := lo (nI n)) (y := y) (by omega) (by omega) (by omega) l3 h2 17 (by omega)
  rw [if_pos (by omega), if_pos (by omega), r2] at this
  refine ⟨h1, h2, h3, r, r1, r2, by omega, ?_⟩
  rw [← r2]
  exact rst_sb _ (by omega) (by omega)
theorem nI_z {n : Nat} (hn : n < 4096) (h : nI n = 0) : n = 0 := by
  have := congrArg ord h
  rw [ord_nI (by omega)] at this
  exact this
theorem pc_0 {n : Nat} (hn : n < 4096) (h : pcn (nI n) 17 = 0) : n = 0 := by
  apply nI_z hn
  apply bt_ext
  intro k hk
  rw [bt_0]
  by_cases c : k < 17
  · exact pcn_z 17 h k c
  · exact nI_bt (m := 12) hn (by decide) (by omega)
theorem D_st {W : Nat → Nat → Nat} {a : Nat} : ∀ k n, n < 4096 → pcn (nI n) 17 ≤ 2 * k → DN W a k (nI n) = DN W a (k + 1) (nI n) ∧ DL W a k (nI n) = DL W a (k + 1) (nI n)
  | 0, n, hn, hp => by
    have := pc_0 hn (by omega)
    subst this
    exact ⟨rfl, rfl⟩
  | k + 1, n, hn, hp => by
    by_cases h0 : n = 0
    · subst h0
      exact ⟨rfl, rfl⟩
    · have hz : ¬ nI n = 0 := fun e => h0 (nI_z hn e)
      constructor
      · show (if nI n = 0 then _ else _) = (if nI n = 0 then _ else _)
        rw [if_neg hz, if_neg hz]
        refine smN_cong 12 (fun y hy => ?_)
        by_cases c : mtB W a (nI n) y = true
        · obtain ⟨-, -, -, r, r1, r2, r3, -⟩ := mt_ok hn h0 hy c
          rw [if_pos c, if_pos c, r2]
          exact (D_st k r (by omega) (by omega)).1
        · rw [if_neg c, if_neg c]
      · show (if nI n = 0 then _ else _) = (if nI n = 0 then _ else _)
        rw [if_neg hz, if_neg hz]
        refine LM_cong 12 (fun y hy => ?_)
        by_cases c : mtB W a (nI n) y = true
        · obtain ⟨-, -, -, r, r1, r2, r3, -⟩ := mt_ok hn h0 hy c
          rw [if_pos c, if_pos c, r2, (D_st k r (by omega) (by omega)).2]
        · rw [if_neg c, if_neg c]
def Wy (σ : St) (a b : Nat) : Nat := tn (σ (21, 0) (a * 12 + b))
def fD (σ : St) (a : Nat) (x : Int32) (y : Nat) : Nat := if mtB (Wy σ) a x y = true then DN (Wy σ) a 6 (rst x (lo x) y) else 0
def cD (σ : St) (a : Nat) (x : Int32) (y : Nat) : Option Nat := if mtB (Wy σ) a x y = true then (DL (Wy σ) a 6 (rst x (lo x) y)).map (· + Wy σ (lo x) y) else none
theorem D_eq {σ : St} {a n : Nat} (hn : n < 4096) (h0 : ¬ n = 0) : DN (Wy σ) a 6 (nI n) = smN (fD σ a (nI n)) 12 ∧ DL (Wy σ) a 6 (nI n) = LM (cD σ a (nI n)) 12 := by
  have h := D_st (W := Wy σ) (a := a) 6 n hn (pc12 hn)
  have hz : ¬ nI n = 0 := fun e => h0 (nI_z hn e)
  constructor
  · rw [h.1]
    show (if nI n = 0 then _ else _) = _
    rw [if_neg hz]
    rfl
  · rw [h.2]
    show (if nI n = 0 then _ else _) = _
    rw [if_neg hz]
    rfl
def enc : Option Nat → Int32
  | none => -1
  | some v => nI v
theorem enc_m1 {v : Nat} (h : v < 2 ^ 31) : ¬ nI v = -1 := by
  intro e
  have := congrArg Int32.toInt e
  rw [nI_toInt h] at this
  have : (-1 : Int32).toInt = -1 := rfl
  omega
theorem way_at {σ : St} (hI : Iv σ) {a b : Nat} (ha : a < 12) (hb : b < 12) (hab : ¬ a = b) : Wy σ a b ≤ 99 ∧ σ (21, 0) (a * 12 + b) = nI (Wy σ a b) ∧ σ (48, 0) (12 * a + b) = nI (Wy σ a b) := by
  obtain ⟨w, h1, h2, h3⟩ := hI.2.2.2.1 a b ha hb hab
  have : Wy σ a b = w := by
    unfold Wy
    rw [h2, tn_nI (by omega)]
  rw [this]
  exact ⟨h1, h2, h3⟩
/-- an even part -/
def EP (n z : Nat) : Prop := sb (nI z) (nI n) ∧ pcn (nI z) 17 % 2 = 0
theorem and_not0 (x m : Int32) : (x &&& (m ^^^ (-1 : Int32)) = 0) ↔ sb x m := by
  constructor
  · intro e k hk hb
    have := congrArg (fun z => bt z k) e
    simp only [bt_and, bt_0, bt_not m hk, hb, Bool.true_and] at this
    simpa using this
  · intro h
    apply bt_ext
    intro k hk
    rw [bt_and, bt_0, bt_not m hk]
    cases hb : bt x k with
    | false => rfl
    | true => rw [h k hk hb]; rfl
theorem irm2 {p : Nat} (hp : p < 2 ^ 31) : (irm (nI p) 2 = 0) ↔ p % 2 = 0 := by
  have : irm (nI p) 2 = nI (p % 2) := pk_rem hp (by decide) (by decide)
  rw [this]
  rcases Nat.mod_two_eq_zero_or_one p with h | h
  · rw [h]; exact ⟨fun _ => rfl, fun _ => rfl⟩
  · rw [h]; exact ⟨fun e => absurd e (by decide), fun e => absurd e (by decide)⟩
theorem inb17 {n : Nat} (hn : n < 4096) : inb (nI n) 131072 = true := by
  rw [inb_nI (by omega)]
  simp
  omega
theorem inb4 {n : Nat} (hn : n < 4096) : inb (nI n) 4096 = true ∧ tn (nI n) = n := by
  rw [inb_nI (by omega), tn_nI (by omega)]
  simp
  exact hn
theorem x_isPart {n z : Nat} (hz : z < 4096) : fX7_isPart (nI z) (nI n) = true ↔ EP n z := by
  unfold fX7_isPart EP
  rw [x_bit (inb17 hz)]
  have p := pc12 hz
  by_cases c1 : sb (nI z) (nI n)
  · rw [if_pos ((and_not0 _ _).2 c1)]
    by_cases c2 : pcn (nI z) 17 % 2 = 0
    · rw [if_pos ((irm2 (by omega)).2 c2)]
      exact ⟨fun _ => ⟨c1, c2⟩, fun _ => rfl⟩
    · rw [if_neg (fun e => c2 ((irm2 (by omega)).1 e))]
      exact ⟨fun e => (by cases e), fun e => absurd e.2 c2⟩
  · rw [if_neg (fun e => c1 ((and_not0 _ _).1 e))]
    exact ⟨fun e => (by cases e), fun e => absurd e.1 c1⟩
theorem EP_le {n z : Nat} (hn : n < 4096) (hz : z < 4096) (h : EP n z) : z ≤ n := by
  have := ord_sb h.1
  rw [ord_nI (by omega), ord_nI (by omega)] at this
  exact this
theorem EP_r {n z r : Nat} (h : EP n z) (h1 : sb (nI r) (nI z)) (h2 : pcn (nI r) 17 + 2 = pcn (nI z) 17) : EP n r := ⟨fun k hk hb => h.1 k hk (h1 k hk hb), by have := h.2; omega⟩
theorem in144 {a b : Nat} (ha : a < 12) (hb : b < 12) : inb (nI (a * 12 + b)) 144 = true ∧ tn (nI (a * 12 + b)) = a * 12 + b := by
  rw [inb_nI (by omega), tn_nI (by omega)]
  simp
  omega
theorem x_canMeet {σ s : St} (hI : Iv σ) (h21 : ∀ k, s (21, 0) k = σ (21, 0) k) {n a y : Nat} (hn : n < 4096) (h0 : ¬ n = 0) (ha : a ≤ 99) (hy : y < 12) (hl : lo (nI n) < y) : fX7_canMeet s (nI n) (nI (lo (nI n))) (nI y) (nI a) = some (mtB (Wy σ) a (nI n) y) := by
  obtain ⟨l1, l2, l3, l4⟩ := lo_ok hn h0
  obtain ⟨w1, w2, -⟩ := way_at hI l1 hy (show ¬ lo (nI n) = y by omega)
  unfold fX7_canMeet
  have b1 := bit_iff (nI n) (show y < 17 by omega)
  rw [(ix12 _ _).1, (in144 l1 hy).1, grd_t, (in144 l1 hy).2, h21, w2]
  by_cases c : bt (nI n) y = true
  · rw [if_pos (b1.2 c)]
    by_cases d : a < Wy σ (lo (nI n)) y
    · rw [if_pos (by rw [ltI (by omega) (by omega)]; exact d)]
      have : mtB (Wy σ) a (nI n) y = false := by
        simp [mtB]
        intro _ _
        exact d
      rw [this]
    · rw [if_neg (by rw [ltI (by omega) (by omega)]; exact d)]
      have : mtB (Wy σ) a (nI n) y = true := by
        simp [mtB]
        exact ⟨hl, c, by omega⟩
      rw [this]
  · rw [if_neg (fun e => c (b1.1 e))]
    have : mtB (Wy σ) a (nI n) y = false := by
      simp [mtB]
      intro _ e
      exact absurd e c
    rw [this]
theorem fD_0 {σ : St} {a : Nat} {x : Int32} {k : Nat} (h : k ≤ lo x ∨ bt x k = false) : fD σ a x k = 0 ∧ cD σ a x k = none := by
  have : mtB (Wy σ) a x k = false := by
    simp [mtB]
    intro h1 h2
    rcases h with h | h
    · omega
    · rw [h2] at h; cases h
  unfold fD cD
  rw [this]
  exact ⟨rfl, rfl⟩
