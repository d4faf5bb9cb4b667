theorem nI_and (a b : Nat) : nI a &&& nI b = nI (a &&& b) := by
  apply Int32.toBitVec_inj.1
  show BitVec.ofNat 32 a &&& BitVec.ofNat 32 b = BitVec.ofNat 32 (a &&& b)
  rw [BitVec.ofNat_and]
theorem m_ones (a : Int32) : fX9_ones a = some (nI (pcn a 17)) := by
  unfold fX9_ones
  refine lpF_fx (fun i s => s = (nI (pcn a i), nI i)) 17 ?_ ?_ (by decide) rfl
  · intro i s hi hs
    subst hs
    refine Or.inl ⟨_, ?_, rfl⟩
    have c17 : ¬ (17 : Int32) ≤ nI i := by rw [show (17 : Int32) = nI 17 from rfl, leI (by decide) (by omega)]; omega
    have hb : (a >>> (nI i &&& 31)) &&& 1 = nI (if bt a i = true then 1 else 0) := by
      by_cases c : bt a i = true
      · rw [if_pos c, (bit_iff a hi).2 c]; rfl
      · rw [if_neg c, (bit0 a hi).2 (by simpa using c)]; rfl
    show (if (17 : Int32) ≤ nI i then _ else _) = _
    rw [if_neg c17, bnd_eq, bnd_eq, hb, nI_add, nI_1, ← pcn_S]
  · intro s hs
    subst hs
    exact ⟨_, by simp only [show (17 : Int32) ≤ nI 17 by decide, if_true], rfl⟩
def bcN (n : Nat) : Nat :=
  (fun x1 => (fun x2 => (fun x3 => (fun x4 => Nat.land (Nat.add x4 (Nat.div x4 65536)) 63) (Nat.add x3 (Nat.div x3 256))) (Nat.land (Nat.add x2 (Nat.div x2 16)) 252645135)) (Nat.add (Nat.land x1 858993459) (Nat.land (Nat.div x1 4) 858993459))) (Nat.sub n (Nat.land (Nat.div n 2) 1431655765))
def ppN (n : Nat) : Nat → Nat
  | 0 => 0
  | N + 1 => Nat.add (ppN n N) (Nat.land 1 (Nat.shiftRight n N))
theorem pp_pc {n : Nat} (hn : n < 2 ^ 32) : ∀ N, pcn (nI n) N = ppN n N
  | 0 => rfl
  | N + 1 => by
    rw [pcn_S, pp_pc hn N]
    show _ = ppN n N + (1 &&& (n >>> N))
    rw [bt_tb, show ord (nI n) = n from pk_tn hn]
    show _ + (if (1 &&& (n >>> N) != 0) = true then 1 else 0) = _
    rw [Nat.one_and_eq_mod_two]
    rcases Nat.mod_two_eq_zero_or_one (n >>> N) with h | h <;> rw [h] <;> rfl
def bcC (n : Nat) : Bool := Nat.beq (bcN n) (Nat.add (bcN (Nat.div n 2)) (Nat.mod n 2))
theorem bc_t0 : ∀ a, a < 32 → ∀ b, b < 256 → bcC (Nat.add (Nat.mul 256 (Nat.add 0 a)) b) = true := by decide +kernel
theorem bc_t1 : ∀ a, a < 32 → ∀ b, b < 256 → bcC (Nat.add (Nat.mul 256 (Nat.add 32 a)) b) = true := by decide +kernel
theorem bc_t2 : ∀ a, a < 32 → ∀ b, b < 256 → bcC (Nat.add (Nat.mul 256 (Nat.add 64 a)) b) = true := by decide +kernel
theorem bc_t3 : ∀ a, a < 32 → ∀ b, b < 256 → bcC (Nat.add (Nat.mul 256 (Nat.add 96 a)) b) = true := by decide +kernel
theorem bc_t4 : ∀ a, a < 32 → ∀ b, b < 256 → bcC (Nat.add (Nat.mul 256 (Nat.add 128 a)) b) = true := by decide +kernel
theorem bc_t5 : ∀ a, a < 32 → ∀ b, b < 256 → bcC (Nat.add (Nat.mul 256 (Nat.add 160 a)) b) = true := by decide +kernel
theorem bc_t6 : ∀ a, a < 32 → ∀ b, b < 256 → bcC (Nat.add (Nat.mul 256 (Nat.add 192 a)) b) = true := by decide +kernel
theorem bc_t7 : ∀ a, a < 32 → ∀ b, b < 256 → bcC (Nat.add (Nat.mul 256 (Nat.add 224 a)) b) = true := by decide +kernel
theorem bc_t8 : ∀ a, a < 32 → ∀ b, b < 256 → bcC (Nat.add (Nat.mul 256 (Nat.add 256 a)) b) = true := by decide +kernel
theorem bc_t9 : ∀ a, a < 32 → ∀ b, b < 256 → bcC (Nat.add (Nat.mul 256 (Nat.add 288 a)) b) = true := by decide +kernel
theorem bc_t10 : ∀ a, a < 32 → ∀ b, b < 256 → bcC (Nat.add (Nat.mul 256 (Nat.add 320 a)) b) = true := by decide +kernel
theorem bc_t11 : ∀ a, a < 32 → ∀ b, b < 256 → bcC (Nat.add (Nat.mul 256 (Nat.add 352 a)) b) = true := by decide +kernel
theorem bc_t12 : ∀ a, a < 32 → ∀ b, b < 256 → bcC (Nat.add (Nat.mul 256 (Nat.add 384 a)) b) = true := by decide +kernel
theorem bc_t13 : ∀ a, a < 32 → ∀ b, b < 256 → bcC (Nat.add (Nat.mul 256 (Nat.add 416 a)) b) = true := by decide +kernel
theorem bc_t14 : ∀ a, a < 32 → ∀ b, b < 256 → bcC (Nat.add (Nat.mul 256 (Nat.add 448 a)) b) = true := by decide +kernel
theorem bc_t15 : ∀ a, a < 32 → ∀ b, b < 256 → bcC (Nat.add (Nat.mul 256 (Nat.add 480 a)) b) = true := by decide +kernel
theorem bc_h {n : Nat} (hn : n < 131072) : bcN n = bcN (n / 2) + n % 2 := by
  have key : ∀ c, c < 16 → (∀ a, a < 32 → ∀ b, b < 256 → bcC (Nat.add (Nat.mul 256 (Nat.add (32 * c) a)) b) = true) → n / 8192 = c → bcC n = true := by
    intro c hc h e
    have h' := h (n / 256 - 32 * c) (by omega) (n % 256) (by omega)
    have q : Nat.add (Nat.mul 256 (Nat.add (32 * c) (n / 256 - 32 * c))) (n % 256) = n := by
      show 256 * (32 * c + (n / 256 - 32 * c)) + n % 256 = n
      omega
    rw [q] at h'
    exact h'
  have all : bcC n = true := by
    have hd : n / 8192 < 16 := by omega
    have cs : n / 8192 = 0 ∨ n / 8192 = 1 ∨ n / 8192 = 2 ∨ n / 8192 = 3 ∨ n / 8192 = 4 ∨ n / 8192 = 5 ∨ n / 8192 = 6 ∨ n / 8192 = 7 ∨ n / 8192 = 8 ∨ n / 8192 = 9 ∨ n / 8192 = 10 ∨ n / 8192 = 11 ∨ n / 8192 = 12 ∨ n / 8192 = 13 ∨ n / 8192 = 14 ∨ n / 8192 = 15 := by omega
    rcases cs with e | e | e | e | e | e | e | e | e | e | e | e | e | e | e | e
    · exact key 0 (by decide) bc_t0 e
    · exact key 1 (by decide) bc_t1 e
    · exact key 2 (by decide) bc_t2 e
    · exact key 3 (by decide) bc_t3 e
    · exact key 4 (by decide) bc_t4 e
    · exact key 5 (by decide) bc_t5 e
    · exact key 6 (by decide) bc_t6 e
    · exact key 7 (by decide) bc_t7 e
    · exact key 8 (by decide) bc_t8 e
    · exact key 9 (by decide) bc_t9 e
    · exact key 10 (by decide) bc_t10 e
    · exact key 11 (by decide) bc_t11 e
    · exact key 12 (by decide) bc_t12 e
    · exact key 13 (by decide) bc_t13 e
    · exact key 14 (by decide) bc_t14 e
    · exact key 15 (by decide) bc_t15 e
  exact Nat.eq_of_beq_eq_true all
theorem pp_h (n : Nat) : ∀ N, ppN n (N + 1) = ppN (n / 2) N + n % 2
  | 0 => by
    show 0 + (1 &&& (n >>> 0)) = 0 + n % 2
    rw [Nat.one_and_eq_mod_two, Nat.shiftRight_zero]
  | N + 1 => by
    show ppN n (N + 1) + (1 &&& (n >>> (N + 1))) = ppN (n / 2) N + (1 &&& ((n / 2) >>> N)) + n % 2
    rw [pp_h n N, show n >>> (N + 1) = (n / 2) >>> N by rw [Nat.add_comm, Nat.shiftRight_add]; rfl]
    omega
theorem bc_pp : ∀ N n, N ≤ 17 → n < 2 ^ N → bcN n = ppN n N
  | 0, n, _, h => by
    have : n = 0 := by simpa using h
    subst this
    rfl
  | N + 1, n, hN, h => by
    have p : 2 ^ (N + 1) ≤ 2 ^ 17 := Nat.pow_le_pow_right (by omega) hN
    rw [bc_h (by omega), pp_h, bc_pp N (n / 2) (by omega) (by rw [Nat.pow_succ] at h; omega)]
theorem bc_n {n : Nat} (hn : n < 131072) : bcN n = ppN n 17 := bc_pp 17 n (Nat.le_refl _) hn
theorem x_bc {n : Nat} (hn : n < 131072) : fJ6_bitCount_0f7a4 (nI n) = nI (bcN n) := by
  have u1 : ∀ z, z < 2 ^ 32 → ius (nI z) 1 = nI (z / 2) := fun z hz => pk_ushrN hz 1 1 (by decide)
  have u2 : ∀ z, z < 2 ^ 32 → ius (nI z) 2 = nI (z / 4) := fun z hz => pk_ushrN hz 2 2 (by decide)
  have u4 : ∀ z, z < 2 ^ 32 → ius (nI z) 4 = nI (z / 16) := fun z hz => pk_ushrN hz 4 4 (by decide)
  have u8 : ∀ z, z < 2 ^ 32 → ius (nI z) 8 = nI (z / 256) := fun z hz => pk_ushrN hz 8 8 (by decide)
  have u16 : ∀ z, z < 2 ^ 32 → ius (nI z) 16 = nI (z / 65536) := fun z hz => pk_ushrN hz 16 16 (by decide)
  have b1 : (n / 2) &&& 1431655765 ≤ n := Nat.le_trans Nat.and_le_left (by omega)
  have e1 : nI n - (ius (nI n) 1 &&& 1431655765) = nI (n - ((n / 2) &&& 1431655765)) := by
    rw [u1 n (by omega), show (1431655765 : Int32) = nI 1431655765 from rfl, nI_and, pk_sub b1]
  unfold fJ6_bitCount_0f7a4
  simp only [bnd_eq]
  rw [e1]
  generalize h1 : n - ((n / 2) &&& 1431655765) = x1
  have x1b : x1 < 131072 := by omega
  have e2 : (nI x1 &&& 858993459) + (ius (nI x1) 2 &&& 858993459) = nI ((x1 &&& 858993459) + ((x1 / 4) &&& 858993459)) := by
    rw [u2 x1 (by omega), show (858993459 : Int32) = nI 858993459 from rfl, nI_and, nI_and, nI_add]
  rw [e2]
  generalize h2 : (x1 &&& 858993459) + ((x1 / 4) &&& 858993459) = x2
  have x2b : x2 < 262144 := by
    have a1 : x1 &&& 858993459 ≤ x1 := Nat.and_le_left
    have a2 : (x1 / 4) &&& 858993459 ≤ x1 / 4 := Nat.and_le_left
    omega
  have e3 : (nI x2 + ius (nI x2) 4) &&& 252645135 = nI ((x2 + x2 / 16) &&& 252645135) := by
    rw [u4 x2 (by omega), nI_add, show (252645135 : Int32) = nI 252645135 from rfl, nI_and]
  rw [e3]
  generalize h3 : (x2 + x2 / 16) &&& 252645135 = x3
  have x3b : x3 < 524288 := by
    have a1 : (x2 + x2 / 16) &&& 252645135 ≤ x2 + x2 / 16 := Nat.and_le_left
    omega
  rw [u8 x3 (by omega), nI_add]
  generalize h4 : x3 + x3 / 256 = x4
  rw [u16 x4 (by omega), nI_add, show (63 : Int32) = nI 63 from rfl, nI_and]
  subst h4; subst h3; subst h2; subst h1
  rfl
theorem x_bit {x : Int32} (h : inb x 131072 = true) : fJ6_bitCount_0f7a4 x = nI (pcn x 17) := by
  obtain ⟨n, hn, rfl⟩ := inb_ex (by decide) h
  rw [x_bc hn, bc_n hn, pp_pc (by omega)]
theorem inb_hi {x : Int32} (h : inb x 131072 = true) {k : Nat} (hk : 17 ≤ k) : bt x k = false := by
  obtain ⟨n, hn, rfl⟩ := inb_ex (by decide) h
  rw [bt_tb, show ord (nI n) = n from pk_tn (by omega)]
  exact Nat.testBit_lt_two_pow (Nat.lt_of_lt_of_le hn (show 2 ^ 17 ≤ 2 ^ k from Nat.pow_le_pow_right (by omega) hk))
theorem sb_inb {s m : Int32} (h : sb s m) (hm : inb m 131072 = true) : inb s 131072 = true := by
  have h1 := ord_sb h
  obtain ⟨n, hn, rfl⟩ := inb_ex (by decide) hm
  rw [show ord (nI n) = n from pk_tn (by omega)] at h1
  have : s = nI (ord s) := by
    apply Int32.toBitVec_inj.1
    apply BitVec.eq_of_toNat_eq
    show _ = (BitVec.ofNat 32 _).toNat
    rw [BitVec.toNat_ofNat]
    exact (Nat.mod_eq_of_lt (by omega)).symm
  rw [this, inb_nI (by omega)]
  simp
  omega
