/-! ===== the world as numbers: cells by family and place (written by gen/core.py) ===== -/
abbrev Rf : Type := Nat × Nat
abbrev St : Type := Rf → Nat → Int32
def cnt : Nat → Nat := fun f => match f with
  | 0 => 12
  | 1 => 11
  | 2 => 1
  | 3 => 12
  | 4 => 3
  | 5 => 1
  | 6 => 4
  | 7 => 1
  | 8 => 1
  | 9 => 1
  | 10 => 11
  | 11 => 11
  | 12 => 11
  | 13 => 12
  | 14 => 12
  | 15 => 1
  | 16 => 1
  | 17 => 1
  | 18 => 1
  | 19 => 1
  | 20 => 4
  | 21 => 1
  | 22 => 1
  | 23 => 1
  | 24 => 1
  | 25 => 1
  | 26 => 1
  | 27 => 1
  | 28 => 1
  | 29 => 1
  | 30 => 1
  | 31 => 1
  | 32 => 1
  | 33 => 1
  | 34 => 1
  | 35 => 1
  | 36 => 1
  | 37 => 1
  | 38 => 1
  | 39 => 1
  | 40 => 1
  | 41 => 1
  | 42 => 1
  | 43 => 1
  | 44 => 1
  | 45 => 1
  | 46 => 1
  | 47 => 1
  | 48 => 1
  | 49 => 1
  | 50 => 1
  | 51 => 1
  | 52 => 1
  | 53 => 1
  | 54 => 1
  | 55 => 1
  | 56 => 1
  | _ => 0
def nfl : Nat → Nat := fun f => match f with
  | 0 => 3
  | 1 => 6
  | 2 => 3
  | 3 => 4
  | 4 => 10
  | 5 => 9
  | 6 => 4
  | 7 => 2
  | 8 => 16
  | 9 => 45
  | _ => 0
def ak : Nat → Nat := fun f => match f with
  | 0 => 9
  | 1 => 9
  | 2 => 9
  | 3 => 9
  | 4 => 9
  | 5 => 9
  | 6 => 9
  | 7 => 9
  | 8 => 9
  | 9 => 9
  | 10 => 1
  | 11 => 0
  | 12 => 0
  | 13 => 0
  | 14 => 0
  | 15 => 0
  | 16 => 0
  | 17 => 0
  | 18 => 0
  | 19 => 0
  | 20 => 0
  | 21 => 0
  | 22 => 0
  | 23 => 3
  | 24 => 4
  | 25 => 5
  | 26 => 6
  | 27 => 0
  | 28 => 0
  | 29 => 0
  | 30 => 0
  | 31 => 2
  | 32 => 0
  | 33 => 0
  | 34 => 0
  | 35 => 0
  | 36 => 0
  | 37 => 0
  | 38 => 0
  | 39 => 2
  | 40 => 0
  | 41 => 0
  | 42 => 0
  | 43 => 0
  | 44 => 0
  | 45 => 0
  | 46 => 2
  | 47 => 0
  | 48 => 0
  | 49 => 0
  | 50 => 0
  | 51 => 2
  | 52 => 0
  | 53 => 0
  | 54 => 0
  | 55 => 0
  | 56 => 0
  | _ => 8
def alen : Nat → Nat := fun f => match f with
  | 10 => 80
  | 11 => 17
  | 12 => 70
  | 13 => 40
  | 14 => 40
  | 15 => 63
  | 16 => 63
  | 17 => 63
  | 18 => 63
  | 19 => 6
  | 20 => 60
  | 21 => 144
  | 22 => 4096
  | 23 => 11
  | 24 => 12
  | 25 => 12
  | 26 => 4
  | 27 => 17
  | 28 => 17
  | 29 => 11
  | 30 => 880
  | 31 => 11
  | 32 => 11
  | 33 => 187
  | 34 => 308
  | 35 => 17
  | 36 => 12
  | 37 => 480
  | 38 => 480
  | 39 => 12
  | 40 => 63
  | 41 => 17
  | 42 => 17
  | 43 => 6
  | 44 => 12
  | 45 => 12
  | 46 => 12
  | 47 => 17
  | 48 => 144
  | 49 => 4096
  | 50 => 4096
  | 51 => 4
  | 52 => 4
  | 53 => 4
  | 54 => 240
  | 55 => 60
  | 56 => 17
  | _ => 0
def elf : Nat → Nat := fun f => match f with
  | 23 => 1
  | 24 => 3
  | 25 => 0
  | 26 => 6
  | _ => 0
def rff : Nat → Nat → Option (Nat × Nat) := fun f k => match f, k with
  | 1, 0 => some (10, 0)
  | 1, 1 => some (11, 0)
  | 1, 2 => some (12, 0)
  | 3, 0 => some (13, 0)
  | 3, 1 => some (14, 0)
  | 5, 0 => some (15, 0)
  | 5, 1 => some (16, 0)
  | 5, 2 => some (17, 0)
  | 5, 3 => some (18, 0)
  | 5, 4 => some (19, 0)
  | 5, 5 => some (4, 1)
  | 5, 6 => some (4, 2)
  | 6, 0 => some (20, 0)
  | 7, 0 => some (21, 0)
  | 7, 1 => some (22, 0)
  | 8, 0 => some (23, 0)
  | 8, 1 => some (24, 0)
  | 8, 2 => some (25, 0)
  | 8, 3 => some (26, 0)
  | 8, 4 => some (27, 0)
  | 8, 5 => some (28, 0)
  | 8, 6 => some (4, 0)
  | 8, 7 => some (5, 0)
  | 8, 8 => some (2, 0)
  | 8, 9 => some (7, 0)
  | 9, 0 => some (29, 0)
  | 9, 1 => some (30, 0)
  | 9, 2 => some (31, 0)
  | 9, 3 => some (32, 0)
  | 9, 4 => some (33, 0)
  | 9, 5 => some (34, 0)
  | 9, 9 => some (35, 0)
  | 9, 16 => some (36, 0)
  | 9, 17 => some (37, 0)
  | 9, 18 => some (38, 0)
  | 9, 19 => some (39, 0)
  | 9, 24 => some (40, 0)
  | 9, 25 => some (41, 0)
  | 9, 26 => some (42, 0)
  | 9, 27 => some (43, 0)
  | 9, 29 => some (44, 0)
  | 9, 30 => some (45, 0)
  | 9, 31 => some (46, 0)
  | 9, 32 => some (47, 0)
  | 9, 36 => some (48, 0)
  | 9, 37 => some (49, 0)
  | 9, 38 => some (50, 0)
  | 9, 39 => some (51, 0)
  | 9, 40 => some (52, 0)
  | 9, 41 => some (53, 0)
  | 9, 42 => some (54, 0)
  | 9, 43 => some (55, 0)
  | _, _ => none
def wpL : List Int32 := [127, 127, 127, 127, 127, 127, 127, 127, 127, 127, 0, 1, 1, 0, 0, 0, 99]
def wpf (i : Nat) : Int32 := wpL.getD i 0
def wcells : List Rf := (List.range 56).flatMap fun f => (List.range (cnt f)).map fun j => (f, j)
abbrev wpr : Rf := (56, 0)
theorem wcells_mem {f j : Nat} (hf : f < 56) (hj : j < cnt f) : (f, j) ∈ wcells := by
  simp only [wcells, List.mem_flatMap, List.mem_map, List.mem_range]
  exact ⟨f, hf, j, hj, rfl⟩
theorem wcells_lt {r : Rf} (h : r ∈ wcells) : r.1 < 56 ∧ r.2 < cnt r.1 := by
  simp only [wcells, List.mem_flatMap, List.mem_map, List.mem_range] at h
  obtain ⟨f, hf, j, hj, rfl⟩ := h
  exact ⟨hf, hj⟩
theorem wcells_nodup : wcells.Nodup := by decide +kernel
def sr (σ : St) (r : Rf) (f : Nat → Int32) : St := fun r' => if r' = r then f else σ r'
def su (σ : St) (r : Rf) (i : Nat) (v : Int32) : St := sr σ r (upd (σ r) i v)
theorem sr_self (σ : St) (r : Rf) (f : Nat → Int32) : sr σ r f r = f := if_pos rfl
theorem sr_ne (σ : St) {r r' : Rf} (f : Nat → Int32) (h : ¬ r' = r) : sr σ r f r' = σ r' := if_neg h
abbrev tn (i : Int32) : Nat := i.toNatClampNeg
def inb (i : Int32) (n : Nat) : Bool := !(decide (i < 0)) && decide (i.toNatClampNeg < n)
theorem inb_in {i : Int32} {n : Nat} (h : inb i n = true) : vp_in i n := by
  simp only [inb, Bool.and_eq_true, Bool.not_eq_true', decide_eq_false_iff_not, decide_eq_true_eq] at h
  intro q
  rcases q with q | q
  · exact h.1 q
  · omega
theorem inb_lt {i : Int32} {n : Nat} (h : inb i n = true) : tn i < n := by
  simp only [inb, Bool.and_eq_true, decide_eq_true_eq] at h
  exact h.2
/-- an array of ints that can be read; one that can be written -/
def isIA (r : Rf) : Bool := decide (ak r.1 = 0) && decide (r.2 < cnt r.1)
def isWA (r : Rf) : Bool := isIA r && decide (r.1 < 56)
theorem ak_out {f : Nat} (h : 56 < f) : ak f = 8 := by
  unfold ak
  split <;> first | rfl | (exfalso; omega)
theorem ia_wp {f j : Nat} (h0 : ak f = 0) (h1 : j < cnt f) (hf : ¬ f < 56) : f = 56 ∧ j = 0 := by
  by_cases e : f = 56
  · subst e
    exact ⟨rfl, Nat.lt_one_iff.mp h1⟩
  · have := ak_out (f := f) (by omega)
    omega
/-- remainder, narrowing, as the machine has them -/
def irm (x y : Int32) : Int32 := x - x / y * y
def ius (x y : Int32) : Int32 := (x.toUInt32 >>> (y.toUInt32 &&& Int32.toUInt32 31)).toInt32
def i2bb (x : Int32) : Int32 := x.toInt8.toInt32
def i2ss (x : Int32) : Int32 := x.toInt16.toInt32
def i2cc (x : Int32) : Int32 := (x.toUInt32 % 65536).toInt32
def nbo (x : Int32) : Int32 := vp_nar .boolean x
def nch (x : Int32) : Int32 := vp_nar .char x
def mmax (x y : Int32) : Int32 := if x < y then y else x
def mmin (x y : Int32) : Int32 := if y < x then y else x
abbrev b2i (b : Bool) : Int32 := if b = true then 1 else 0
theorem nar_b2i (b : Bool) : narrow .boolean (.int (b2i b)) = .int (b2i b) := by cases b <;> rfl
/-- arraycopy within the world's ints -/
def acpOk (r : Rf) (sp : Int32) (q : Rf) (dp n : Int32) : Bool := isIA r && (isWA q && (!(decide (sp < 0)) && (!(decide (dp < 0)) && (!(decide (n < 0)) && (decide (tn sp + tn n ≤ alen r.1) && decide (tn dp + tn n ≤ alen q.1))))))
def acp (σ : St) (r : Rf) (sp : Int32) (q : Rf) (dp n : Int32) : St := sr σ q (va_cpy (σ r) (σ q) (tn sp) (tn dp) (tn n))
/-! loops, choices that meet again, names for values -/
def lp {α β : Type} (body : α → Option (α ⊕ β)) : Nat → α → Option β
  | 0, _ => none
  | n + 1, a => match body a with
    | none => none
    | some (.inl a') => lp body n a'
    | some (.inr b) => some b
theorem lp_cert {α β : Type} {body : α → Option (α ⊕ β)} {G : α → Prop} {X : β → Prop} (h : ∀ a r, body a = some r → (match r with | .inl a' => G a' | .inr b => X b) → G a) : ∀ (n : Nat) (a : α) (b : β), lp body n a = some b → X b → G a
  | 0, a, b, h0, _ => by simp [lp] at h0
  | n + 1, a, b, h0, hb => by
    unfold lp at h0
    cases hq : body a with
    | none => rw [hq] at h0; cases h0
    | some r =>
      rw [hq] at h0
      cases r with
      | inl a' => exact h a _ hq (lp_cert h n a' b h0 hb)
      | inr b' => cases h0; exact h a _ hq hb
def bnd {α β : Type} (a : α) (k : α → β) : β := k a
def obi {α β : Type} (x : Option α) (k : α → Option β) : Option β := match x with
  | none => none
  | some a => k a
theorem obi_some {α β : Type} {x : Option α} {k : α → Option β} {b : β} (h : obi x k = some b) : ∃ a, x = some a ∧ k a = some b := by
  cases x with
  | none => cases h
  | some a => exact ⟨a, rfl, h⟩
/-- an early leaf, or on -/
def bj {β τ : Type} (x : Option (β ⊕ τ)) (k : τ → Option β) : Option β := match x with
  | none => none
  | some (.inl b) => some b
  | some (.inr t) => k t
theorem bj_some {β τ : Type} {x : Option (β ⊕ τ)} {k : τ → Option β} {b : β} (h : bj x k = some b) : ∃ y, x = some y ∧ ((y = .inl b) ∨ ∃ t, y = .inr t ∧ k t = some b) := by
  cases x with
  | none => cases h
  | some y =>
    cases y with
    | inl c => cases h; exact ⟨_, rfl, Or.inl rfl⟩
    | inr t => exact ⟨_, rfl, Or.inr ⟨t, rfl, h⟩⟩
def grd {β : Type} (c : Bool) (k : Option β) : Option β := match c with
  | true => k
  | false => none
theorem grd_some {β : Type} {c : Bool} {k : Option β} {b : β} (h : grd c k = some b) : c = true ∧ k = some b := by
  cases c with
  | false => cases h
  | true => exact ⟨rfl, h⟩
def FU : Nat := 100000
theorem bnd_ex {α β : Type} {a : α} {k : α → β} {b : β} (h : bnd a k = b) : ∃ x, a = x ∧ k x = b := ⟨a, rfl, h⟩
theorem ite_t {c : Prop} {hd : Decidable c} {α : Type} {a b x : α} (hc : c) (h : (if c then a else b) = x) : a = x := by rw [if_pos hc] at h; exact h
theorem ite_f {c : Prop} {hd : Decidable c} {α : Type} {a b x : α} (hc : ¬ c) (h : (if c then a else b) = x) : b = x := by rw [if_neg hc] at h; exact h
theorem b2i_z {b : Bool} (h : b2i b = 0) : ¬ b = true := by cases b <;> simp_all [b2i]
theorem b2i_nz {b : Bool} (h : ¬ b2i b = 0) : b = true := by cases b <;> simp_all [b2i]
theorem bj_l {β τ : Type} {y : β ⊕ τ} {r r0 : β} {k : τ → Option β} (hx : some (Sum.inl r0) = some y) (hy : y = .inl r ∨ ∃ t, y = .inr t ∧ k t = some r) : some r0 = some r := by
  cases hx
  rcases hy with h | ⟨t, h, -⟩
  · cases h; rfl
  · cases h
theorem bj_r {β τ : Type} {y : β ⊕ τ} {r : β} {t0 : τ} {k : τ → Option β} (hx : y = .inr t0) (hy : y = .inl r ∨ ∃ t, y = .inr t ∧ k t = some r) : k t0 = some r := by
  subst hx
  rcases hy with h | ⟨t, h, h2⟩
  · cases h
  · cases h; exact h2
theorem pj2 {α0 : Type} {α1 : Type} {a0 b0 : α0} {a1 b1 : α1} (h : (a0, a1) = (b0, b1)) : a0 = b0 ∧ a1 = b1 := by
  simp only [Prod.mk.injEq] at h
  exact h
theorem pj3 {α0 : Type} {α1 : Type} {α2 : Type} {a0 b0 : α0} {a1 b1 : α1} {a2 b2 : α2} (h : (a0, a1, a2) = (b0, b1, b2)) : a0 = b0 ∧ a1 = b1 ∧ a2 = b2 := by
  simp only [Prod.mk.injEq] at h
  exact h
theorem pj4 {α0 : Type} {α1 : Type} {α2 : Type} {α3 : Type} {a0 b0 : α0} {a1 b1 : α1} {a2 b2 : α2} {a3 b3 : α3} (h : (a0, a1, a2, a3) = (b0, b1, b2, b3)) : a0 = b0 ∧ a1 = b1 ∧ a2 = b2 ∧ a3 = b3 := by
  simp only [Prod.mk.injEq] at h
  exact h
theorem pj5 {α0 : Type} {α1 : Type} {α2 : Type} {α3 : Type} {α4 : Type} {a0 b0 : α0} {a1 b1 : α1} {a2 b2 : α2} {a3 b3 : α3} {a4 b4 : α4} (h : (a0, a1, a2, a3, a4) = (b0, b1, b2, b3, b4)) : a0 = b0 ∧ a1 = b1 ∧ a2 = b2 ∧ a3 = b3 ∧ a4 = b4 := by
  simp only [Prod.mk.injEq] at h
  exact h
theorem pj6 {α0 : Type} {α1 : Type} {α2 : Type} {α3 : Type} {α4 : Type} {α5 : Type} {a0 b0 : α0} {a1 b1 : α1} {a2 b2 : α2} {a3 b3 : α3} {a4 b4 : α4} {a5 b5 : α5} (h : (a0, a1, a2, a3, a4, a5) = (b0, b1, b2, b3, b4, b5)) : a0 = b0 ∧ a1 = b1 ∧ a2 = b2 ∧ a3 = b3 ∧ a4 = b4 ∧ a5 = b5 := by
  simp only [Prod.mk.injEq] at h
  exact h
theorem pj7 {α0 : Type} {α1 : Type} {α2 : Type} {α3 : Type} {α4 : Type} {α5 : Type} {α6 : Type} {a0 b0 : α0} {a1 b1 : α1} {a2 b2 : α2} {a3 b3 : α3} {a4 b4 : α4} {a5 b5 : α5} {a6 b6 : α6} (h : (a0, a1, a2, a3, a4, a5, a6) = (b0, b1, b2, b3, b4, b5, b6)) : a0 = b0 ∧ a1 = b1 ∧ a2 = b2 ∧ a3 = b3 ∧ a4 = b4 ∧ a5 = b5 ∧ a6 = b6 := by
  simp only [Prod.mk.injEq] at h
  exact h
theorem pj8 {α0 : Type} {α1 : Type} {α2 : Type} {α3 : Type} {α4 : Type} {α5 : Type} {α6 : Type} {α7 : Type} {a0 b0 : α0} {a1 b1 : α1} {a2 b2 : α2} {a3 b3 : α3} {a4 b4 : α4} {a5 b5 : α5} {a6 b6 : α6} {a7 b7 : α7} (h : (a0, a1, a2, a3, a4, a5, a6, a7) = (b0, b1, b2, b3, b4, b5, b6, b7)) : a0 = b0 ∧ a1 = b1 ∧ a2 = b2 ∧ a3 = b3 ∧ a4 = b4 ∧ a5 = b5 ∧ a6 = b6 ∧ a7 = b7 := by
  simp only [Prod.mk.injEq] at h
  exact h
theorem pj9 {α0 : Type} {α1 : Type} {α2 : Type} {α3 : Type} {α4 : Type} {α5 : Type} {α6 : Type} {α7 : Type} {α8 : Type} {a0 b0 : α0} {a1 b1 : α1} {a2 b2 : α2} {a3 b3 : α3} {a4 b4 : α4} {a5 b5 : α5} {a6 b6 : α6} {a7 b7 : α7} {a8 b8 : α8} (h : (a0, a1, a2, a3, a4, a5, a6, a7, a8) = (b0, b1, b2, b3, b4, b5, b6, b7, b8)) : a0 = b0 ∧ a1 = b1 ∧ a2 = b2 ∧ a3 = b3 ∧ a4 = b4 ∧ a5 = b5 ∧ a6 = b6 ∧ a7 = b7 ∧ a8 = b8 := by
  simp only [Prod.mk.injEq] at h
  exact h
def bjp {β τ : Type} (x : β ⊕ τ) (k : τ → β) : β := match x with
  | .inl b => b
  | .inr t => k t
theorem bjp_some {β τ : Type} {x : β ⊕ τ} {k : τ → β} {b : β} (h : bjp x k = b) : ∃ y, x = y ∧ ((y = .inl b) ∨ ∃ t, y = .inr t ∧ k t = b) := by
  cases x with
  | inl c => exact ⟨_, rfl, Or.inl (congrArg _ h)⟩
  | inr t => exact ⟨_, rfl, Or.inr ⟨t, rfl, h⟩⟩
theorem bjp_l {β τ : Type} {y : β ⊕ τ} {r r0 : β} {k : τ → β} (hx : Sum.inl r0 = y) (hy : y = .inl r ∨ ∃ t, y = .inr t ∧ k t = r) : r0 = r := by
  cases hx
  rcases hy with h | ⟨t, h, -⟩
  · cases h; rfl
  · cases h
theorem bjp_r {β τ : Type} {y : β ⊕ τ} {r : β} {t0 : τ} {k : τ → β} (hx : y = .inr t0) (hy : y = .inl r ∨ ∃ t, y = .inr t ∧ k t = r) : k t0 = r := by
  subst hx
  rcases hy with h | ⟨t, h, h2⟩
  · cases h
  · cases h; exact h2
def lk {α β : Type} (G : α → Prop) (r : β) (y : α ⊕ β) : Prop := match y with
  | .inl a => G a
  | .inr b => b = r
theorem lp_ct {α β : Type} {body : α → Option (α ⊕ β)} {G : α → Prop} {r : β} (hb : ∀ a y, body a = some y → lk G r y → G a) {n : Nat} {a : α} (h : lp body n a = some r) : G a :=
  lp_cert (X := fun b => b = r) (fun a y hx hk => hb a y hx (by cases y <;> exact hk)) n a r h rfl
theorem lp_c {α β : Type} {G : α → Prop} {r : β} {y : α ⊕ β} {a1 : α} (hx : some (Sum.inl a1) = some y) (hk : lk G r y) : G a1 := by cases hx; exact hk
theorem lp_x {α β : Type} {G : α → Prop} {r r0 : β} {y : α ⊕ β} (hx : some (Sum.inr r0) = some y) (hk : lk G r y) : some r0 = some r := by cases hx; exact congrArg some hk
theorem ia_of {f j : Nat} (h0 : ak f = 0) (h1 : j < cnt f) : isIA (f, j) = true := by simp [isIA, h0, h1]
theorem wa_of {f j : Nat} (h0 : ak f = 0) (h1 : j < cnt f) (h2 : f < 56) : isWA (f, j) = true := by simp [isWA, isIA, h0, h1, h2]
theorem and_t {a b : Bool} (h : (a && b) = true) : a = true ∧ b = true := by simpa using h
/-! the words -/
def isNest : Cond → Bool
  | .fieldLinkNest .. => true
  | .methodLinkNest .. => true
  | .castable .. => true
  | _ => false
def Tw : List Cond := lw_tbl.filter goodWord
def nestWs : List Cond := lw_tbl.filter isNest
theorem inTw {w : Cond} (i : Nat) (h : lw_tbl[i]? = some w) (g : goodWord w = true) : w ∈ Tw := List.mem_filter.mpr ⟨List.mem_of_getElem? h, g⟩
theorem inNw {w : Cond} (i : Nat) (h : lw_tbl[i]? = some w) (g : isNest w = true) : w ∈ nestWs := List.mem_filter.mpr ⟨List.mem_of_getElem? h, g⟩
theorem Tw_good {big : List Cond} (h : ∀ w ∈ Tw, w ∈ big) : GoodIn big Tw := fun w hw => ⟨h w hw, good_of_word (List.mem_filter.mp hw).2⟩
theorem nest_warm {w : Cond} (hn : isNest w = true) {s U : State} (hW : s.WarmedH U.vm) (h : va_Nw w s) : va_Nw w U := by
  cases w <;> first | (simp [isNest] at hn; done) | exact va_Nw.warmF hW h | exact va_Nw.warmM hW h | exact va_Nw.warmC hW h
theorem nest_same {w : Cond} (hn : isNest w = true) {s U : State} (hv : s.vm = U.vm) (h : va_Nw w s) : va_Nw w U := by
  cases w <;> first | (simp [isNest] at hn; done) | exact va_Nw.same rfl hv h
/-! what a cell holds -/
def fv (α : Rf → Nat) (σ : St) (f j k : Nat) : Value := match rff f k with
  | some q => .ref (α (q.1, j + q.2))
  | none => .int (σ (f, j) k)
def ent (α : Rf → Nat) (cA : Nat → ClassId) (σ : St) (r : Rf) : va_E :=
  if ak r.1 = 9 then .inr (r.1, (List.range (nfl r.1)).map (fv α σ r.1 r.2))
  else if 3 ≤ ak r.1 then .inl (cA (ak r.1), alen r.1, .inr (.inr (.inr (.inr (fun i => some (α (elf r.1, i)))))))
  else .inl (cA (ak r.1), alen r.1, .inl (σ r))
theorem ent_obj {α : Rf → Nat} {cA : Nat → ClassId} {σ : St} {r : Rf} (h : ak r.1 = 9) : ent α cA σ r = .inr (r.1, (List.range (nfl r.1)).map (fv α σ r.1 r.2)) := if_pos h
theorem ent_int {α : Rf → Nat} {cA : Nat → ClassId} {σ : St} {r : Rf} (h : ak r.1 < 3) : ent α cA σ r = .inl (cA (ak r.1), alen r.1, .inl (σ r)) := by
  rw [ent, if_neg (by omega), if_neg (by omega)]
theorem ent_ref {α : Rf → Nat} {cA : Nat → ClassId} {σ : St} {r : Rf} (h : 3 ≤ ak r.1) (h9 : ak r.1 < 9) : ent α cA σ r = .inl (cA (ak r.1), alen r.1, .inr (.inr (.inr (.inr (fun i => some (α (elf r.1, i))))))) := by
  rw [ent, if_neg (by omega), if_pos h]
theorem ent_off {α : Rf → Nat} {cA : Nat → ClassId} {σ σ' : St} {r : Rf} (h : σ' r = σ r) : ent α cA σ' r = ent α cA σ r := by
  have hf : ∀ k, fv α σ' r.1 r.2 k = fv α σ r.1 r.2 k := fun k => by
    unfold fv
    cases rff r.1 k with
    | some q => rfl
    | none => show Value.int (σ' r k) = Value.int (σ r k); rw [h]
  unfold ent
  rw [h, funext hf]
def wsO (α : Rf → Nat) (cA : Nat → ClassId) (σ : St) : va_W := wcells.map fun r => (α r, ent α cA σ r)
def tysO (cA : Nat → ClassId) : List (ClassId × FieldType) := [(cA 0, .int), (cA 1, .char), (cA 2, .boolean), (cA 3, .object "ElevenCodes$Code"), (cA 4, .object "ElevenCodes$Match"), (cA 5, .object "ElevenCodes$Club"), (cA 6, .object "ElevenCodes$Sheet")]
/-- what is the same for all calls: launch, places, array kinds, tables, cells that may change -/
abbrev Gx : Type := Launch × (Rf → Nat) × (Nat → ClassId) × (Nat → ClassId) × (Nat → Nat → Nat) × (Nat → Prop)
def Rep (G : Gx) (σ : St) (H : Heap) : Prop := va_P (G.2.2.2.1, G.2.2.2.2.1) vwCl (wsO G.2.1 G.2.2.1 σ) H ∧ ∀ i, i < 17 → σ wpr i = wpf i
def AD (G : Gx) : Prop := (∀ r ∈ wcells, G.2.2.2.2.2 (G.2.1 r)) ∧ ∀ r ∈ wcells, ∀ r' ∈ wcells, G.2.1 r = G.2.1 r' → r = r'
theorem wsO_at {α : Rf → Nat} {cA : Nat → ClassId} {σ : St} {k : Nat} {x : Nat × va_E} (h : (wsO α cA σ)[k]? = some x) : ∃ r, wcells[k]? = some r ∧ x = (α r, ent α cA σ r) := by
  unfold wsO at h
  rw [List.getElem?_map] at h
  cases hr : wcells[k]? with
  | none => rw [hr] at h; cases h
  | some r => rw [hr] at h; exact ⟨r, rfl, (Option.some.inj h).symm⟩
theorem wsO_of {α : Rf → Nat} {cA : Nat → ClassId} {σ : St} {k : Nat} {r : Rf} (h : wcells[k]? = some r) : (wsO α cA σ)[k]? = some (α r, ent α cA σ r) := by
  unfold wsO
  rw [List.getElem?_map, h]
  rfl
theorem wcells_place {r : Rf} (h : r ∈ wcells) : ∃ k : Nat, wcells[k]? = some r := List.getElem?_of_mem h
theorem wcells_inj {i j : Nat} {r : Rf} (hi : wcells[i]? = some r) (hj : wcells[j]? = some r) : i = j :=
  (List.getElem?_inj (List.getElem?_eq_some_iff.mp hi).1 wcells_nodup).mp (hi.trans hj.symm)
theorem Rep.one {G : Gx} {σ : St} {H : Heap} (h : Rep G σ H) {r : Rf} (hr : r ∈ wcells) : va_P (G.2.2.2.1, G.2.2.2.2.1) vwCl [(G.2.1 r, ent G.2.1 G.2.2.1 σ r)] H := by
  obtain ⟨k, hk⟩ := wcells_place hr
  intro i q hi
  have hi0 : i = 0 := by
    have := (List.getElem?_eq_some_iff.mp hi).1
    simp at this
    omega
  subst hi0
  cases hi
  exact h.1 k _ (wsO_of hk)
theorem AD.D {G : Gx} (h : AD G) (σ : St) : va_D G.2.2.2.2.2 (wsO G.2.1 G.2.2.1 σ) := by
  refine ⟨fun i j x y hi hj he => ?_, fun k q hk => ?_⟩
  · obtain ⟨r, h1, rfl⟩ := wsO_at hi
    obtain ⟨r', h2, rfl⟩ := wsO_at hj
    have := h.2 r (List.mem_of_getElem? h1) r' (List.mem_of_getElem? h2) he
    subst this
    exact wcells_inj h1 h2
  · obtain ⟨r, h1, rfl⟩ := wsO_at hk
    exact h.1 r (List.mem_of_getElem? h1)
theorem Rep.set {G : Gx} {σ σ' : St} {H1 : Heap} {k : Nat} {r : Rf} (hr : wcells[k]? = some r) (h1 : va_P (G.2.2.2.1, G.2.2.2.2.1) vwCl ((wsO G.2.1 G.2.2.1 σ).set k (G.2.1 r, ent G.2.1 G.2.2.1 σ' r)) H1) (ho : ∀ r', ¬ r' = r → σ' r' = σ r') (hw : ∀ i, i < 17 → σ wpr i = wpf i) : Rep G σ' H1 := by
  refine ⟨fun i x hx => ?_, fun i hi => ?_⟩
  · obtain ⟨r0, h2, rfl⟩ := wsO_at hx
    have hl : k < (wsO G.2.1 G.2.2.1 σ).length := (List.getElem?_eq_some_iff.mp (wsO_of (α := G.2.1) (cA := G.2.2.1) (σ := σ) hr)).1
    by_cases hik : i = k
    · subst hik
      cases hr.symm.trans h2
      exact h1 i _ (by rw [List.getElem?_set_self hl])
    · have hne : ¬ r0 = r := fun e => hik (wcells_inj h2 (e ▸ hr))
      rw [ent_off (ho r0 hne)]
      exact h1 i _ (by rw [List.getElem?_set_ne (Ne.symm hik)]; exact wsO_of h2)
  · have hne : ¬ wpr = r := fun e => by
      have := wcells_lt (List.mem_of_getElem? hr)
      rw [← e] at this
      exact absurd this.1 (by decide)
    rw [ho wpr hne]
    exact hw i hi
/-- what holds at a state beside the numbers -/
def WF (G : Gx) (U : State) : Prop := AD G ∧ va_K (G.2.2.2.1, G.2.2.2.2.1) vwCl (tysO G.2.2.1) U ∧ (∀ w ∈ nestWs, va_Nw w U) ∧ va_Z "ElevenCodes" "WITHOUT_PARTS" "[I" (.ref (G.2.1 wpr)) G.2.2.2.2.2 U U.heap ∧ va_X (G.2.1 wpr) 17 wpf U U.heap ∧ G.2.1 wpr < U.heap.size ∧ ¬ G.2.2.2.2.2 (G.2.1 wpr)
theorem WF.calling {G : Gx} {U : State} (h : WF G U) (g : JFrame) (mk : MethodId) (a : Array Value) : WF G (U.calling g mk a) := by
  obtain ⟨h1, h2, h3, h4, h5, h6, h7⟩ := h
  refine ⟨h1, va_K.moved (u := U) (U := U.calling g mk a) (Vm.Alike.refl U.vm) h2, fun w hw => nest_same (s := U) (U := U.calling g mk a) (List.mem_filter.mp hw).2 rfl (h3 w hw), ?_, ?_, h6, h7⟩
  · exact va_Z.moved (u := U) (U := U.calling g mk a) (Vm.Alike.refl U.vm) h4
  · exact va_X.moved (u := U) (U := U.calling g mk a) (Vm.Alike.refl U.vm) h5
theorem WF.next {G : Gx} {s U : State} {H : Heap} {locs : List Loc} (h : WF G s) (hS : va_S G.2.2.2.2.2 s.heap H locs) (hU : U.heap = H) (hW : s.WarmedH U.vm) : WF G U := by
  obtain ⟨h1, h2, h3, h4, h5, h6, h7⟩ := h
  refine ⟨h1, va_K.moved hW.alike h2, fun w hw => nest_warm (List.mem_filter.mp hw).2 hW (h3 w hw), ?_, ?_, ?_, h7⟩
  · rw [hU]
    exact (h4.moved hW.alike).kept (fun a ha hA => hS.2.1 a ha hA)
  · rw [hU]
    exact (h5.moved hW.alike).kept (hS.2.1 _ h6 h7)
  · rw [hU]
    exact Nat.lt_of_lt_of_le h6 hS.1
/-- a method's run: what is the same for it, then its frame's own -/
abbrev Kx : Type := Gx × Program × Env × Room × State × MethodId × Array Value × List Frame × Method × Code × Nat × Nat × Nat × (State → Prop)
def TW (K : Kx) (pc : Nat) (ls : List (Nat × Value)) (st : List Value) (σ : St) : Prop := match K with
  | (G, p, e, R, s, m, args, below, meth, c, cells, slots, nL, Q) => ∀ (H : Heap) (locs : List Loc), Rep G σ H → va_S G.2.2.2.2.2 s.heap H locs → ∀ la : Array Slot, lv_has la nL ls → W p G.1 e R s m args below meth c H locs cells slots Q (F0 m pc la st)
def Cx (K : Kx) (cc : ByteArray) (own : String) : Prop := match K with
  | (G, p, e, R, s, m, args, below, meth, c, cells, slots, nL, Q) => p.tables.exec = Jvm.exec ∧ c.code = cc ∧ c.maxLocals = nL ∧ s.vm.findClass own = some m.cls ∧ (∀ w ∈ Tw, w.before args s = true) ∧ WF G s ∧ meth.locks = false ∧ cells ≤ R.cells ∧ slots ≤ R.slots
def rv (K : Kx) (r : Rf) : Value := .ref (K.1.2.1 r)
def RmOk (K : Kx) (d : Nat) : Prop := match K with
  | (G, p, e, R, s, m, args, below, meth, c, cells, slots, nL, Q) => d + 1 ≤ R.frames ∧ 40 * d + 40 ≤ R.locals
def nLof (K : Kx) : Nat := match K with
  | (G, p, e, R, s, m, args, below, meth, c, cells, slots, nL, Q) => nL
section TWs
variable {K : Kx} {cc : ByteArray} {own : String} {pc : Nat} {ls lv' : List (Nat × Value)} {st rest : List Value} {σ : St}
theorem tw_sub (ks : List Nat) (hl : lv_pick ls ks = lv') (k : TW K pc lv' st σ) : TW K pc ls st σ := by
  obtain ⟨G, p, e, R, s, m, args, below, meth, c, cells, slots, nL, Q⟩ := K
  exact fun H lo hP hS la h => k H lo hP hS la (lv_sub h ks hl)
theorem tw_topi {x y : Int32} (h : y = x) (k : TW K pc ls (.int y :: st) σ) : TW K pc ls (.int x :: st) σ := h ▸ k
theorem tw_topl {x y : Int64} (h : y = x) (k : TW K pc ls (.long y :: st) σ) : TW K pc ls (.long x :: st) σ := h ▸ k
theorem tw_iconst (C : Cx K cc own) {n : Int} {v : Int32} (hd : decode cc pc = .ok (.iconst n, 1)) (hv : Int32.ofInt n = v) (k : TW K (pc + 1) ls (.int v :: st) σ) : TW K pc ls st σ := by
  obtain ⟨G, p, e, R, s, m, args, below, meth, c, cells, slots, nL, Q⟩ := K
  exact fun H lo hP hS la h => lv_iconst C.1 C.2.1 hd hv (k H lo hP hS la h)
theorem tw_bipush (C : Cx K cc own) {n : Int} {v : Int32} (hd : decode cc pc = .ok (.bipush n, 2)) (hv : (Int8.ofInt n).toInt32 = v) (k : TW K (pc + 2) ls (.int v :: st) σ) : TW K pc ls st σ := by
  obtain ⟨G, p, e, R, s, m, args, below, meth, c, cells, slots, nL, Q⟩ := K
  exact fun H lo hP hS la h => lv_bipush C.1 C.2.1 hd hv (k H lo hP hS la h)
theorem tw_sipush (C : Cx K cc own) {n : Int} {v : Int32} (hd : decode cc pc = .ok (.sipush n, 3)) (hv : (Int16.ofInt n).toInt32 = v) (k : TW K (pc + 3) ls (.int v :: st) σ) : TW K pc ls st σ := by
  obtain ⟨G, p, e, R, s, m, args, below, meth, c, cells, slots, nL, Q⟩ := K
  exact fun H lo hP hS la h => lv_sipush C.1 C.2.1 hd hv (k H lo hP hS la h)
theorem tw_ldc (C : Cx K cc own) {idx : Nat} {v : Int32} (hw : Cond.constant own idx v ∈ Tw) (hd : decode cc pc = .ok (.ldc idx, 2)) (k : TW K (pc + 2) ls (.int v :: st) σ) : TW K pc ls st σ := by
  obtain ⟨G, p, e, R, s, m, args, below, meth, c, cells, slots, nL, Q⟩ := K
  exact fun H lo hP hS la h => lv_ldc C.1 C.2.1 C.2.2.2.1 (C.2.2.2.2.1 _ hw) hd (k H lo hP hS la h)
theorem tw_ldcw (C : Cx K cc own) {idx : Nat} {v : Int32} (hw : Cond.constant own idx v ∈ Tw) (hd : decode cc pc = .ok (.ldc_w idx, 3)) (k : TW K (pc + 3) ls (.int v :: st) σ) : TW K pc ls st σ := by
  obtain ⟨G, p, e, R, s, m, args, below, meth, c, cells, slots, nL, Q⟩ := K
  exact fun H lo hP hS la h => lv_ldcw C.1 C.2.1 C.2.2.2.1 (C.2.2.2.2.1 _ hw) hd (k H lo hP hS la h)
theorem tw_ldc2 (C : Cx K cc own) {idx : Nat} {v : Int64} (hw : Cond.constantLong own idx v ∈ Tw) (hd : decode cc pc = .ok (.ldc2_w idx, 3)) (k : TW K (pc + 3) ls (.long v :: st) σ) : TW K pc ls st σ := by
  obtain ⟨G, p, e, R, s, m, args, below, meth, c, cells, slots, nL, Q⟩ := K
  exact fun H lo hP hS la h => lv_ldc2 C.1 C.2.1 C.2.2.2.1 (C.2.2.2.2.1 _ hw) hd (k H lo hP hS la h)
theorem tw_iload_n (C : Cx K cc own) {q : Fin 4} {i z : Nat} {x : Int32} (hd : decode cc pc = .ok (.iload_n q, 1)) (hi : (q : Nat) = i) (hz : ls[z]? = some (i, .int x)) (k : TW K (pc + 1) ls (.int x :: st) σ) : TW K pc ls st σ := by
  obtain ⟨G, p, e, R, s, m, args, below, meth, c, cells, slots, nL, Q⟩ := K
  exact fun H lo hP hS la h => lv_iload_n C.1 C.2.1 hd hi (lv_at h z hz) (k H lo hP hS la h)
theorem tw_iload (C : Cx K cc own) {i z : Nat} {x : Int32} (hd : decode cc pc = .ok (.iload i, 2)) (hz : ls[z]? = some (i, .int x)) (k : TW K (pc + 2) ls (.int x :: st) σ) : TW K pc ls st σ := by
  obtain ⟨G, p, e, R, s, m, args, below, meth, c, cells, slots, nL, Q⟩ := K
  exact fun H lo hP hS la h => lv_iload C.1 C.2.1 hd (lv_at h z hz) (k H lo hP hS la h)
theorem tw_lload_n (C : Cx K cc own) {q : Fin 4} {i z : Nat} {x : Int64} (hd : decode cc pc = .ok (.lload_n q, 1)) (hi : (q : Nat) = i) (hz : ls[z]? = some (i, .long x)) (k : TW K (pc + 1) ls (.long x :: st) σ) : TW K pc ls st σ := by
  obtain ⟨G, p, e, R, s, m, args, below, meth, c, cells, slots, nL, Q⟩ := K
  exact fun H lo hP hS la h => lv_lload_n C.1 C.2.1 hd hi (lv_at h z hz) (k H lo hP hS la h)
theorem tw_aload_n (C : Cx K cc own) {q : Fin 4} {i z : Nat} {r : Rf} (hd : decode cc pc = .ok (.aload_n q, 1)) (hi : (q : Nat) = i) (hz : ls[z]? = some (i, rv K r)) (k : TW K (pc + 1) ls (rv K r :: st) σ) : TW K pc ls st σ := by
  obtain ⟨G, p, e, R, s, m, args, below, meth, c, cells, slots, nL, Q⟩ := K
  exact fun H lo hP hS la h => lv_aload_n C.1 C.2.1 hd hi (lv_at h z hz) (k H lo hP hS la h)
theorem tw_aload (C : Cx K cc own) {i z : Nat} {r : Rf} (hd : decode cc pc = .ok (.aload i, 2)) (hz : ls[z]? = some (i, rv K r)) (k : TW K (pc + 2) ls (rv K r :: st) σ) : TW K pc ls st σ := by
  obtain ⟨G, p, e, R, s, m, args, below, meth, c, cells, slots, nL, Q⟩ := K
  exact fun H lo hP hS la h => lv_aload C.1 C.2.1 hd (lv_at h z hz) (k H lo hP hS la h)
/-- the listed locals behind a store, in any order -/
def lsOk (ls : List (Nat × Value)) (i : Nat) (v : Value) (lv' : List (Nat × Value)) (ks : List Nat) : Prop := lv_pick ((i, v) :: ls.filter (fun q => !(q.1 == i) && !(q.1 + 1 == i && q.2.category == 2))) ks = lv'
theorem tw_istore_n (C : Cx K cc own) {q : Fin 4} {i : Nat} {x : Int32} (ks : List Nat) (hd : decode cc pc = .ok (.istore_n q, 1)) (hi : (q : Nat) = i) (hn : i < nLof K) (hl : lsOk ls i (.int x) lv' ks) (k : TW K (pc + 1) lv' st σ) : TW K pc ls (.int x :: st) σ := by
  obtain ⟨G, p, e, R, s, m, args, below, meth, c, cells, slots, nL, Q⟩ := K
  exact fun H lo hP hS la h => lv_istore_n C.1 C.2.1 hd hi h hn rfl (fun la' h' => k H lo hP hS la' (lv_sub h' ks hl))
theorem tw_istore (C : Cx K cc own) {i : Nat} {x : Int32} (ks : List Nat) (hd : decode cc pc = .ok (.istore i, 2)) (hn : i < nLof K) (hl : lsOk ls i (.int x) lv' ks) (k : TW K (pc + 2) lv' st σ) : TW K pc ls (.int x :: st) σ := by
  obtain ⟨G, p, e, R, s, m, args, below, meth, c, cells, slots, nL, Q⟩ := K
  exact fun H lo hP hS la h => lv_istore C.1 C.2.1 hd h hn rfl (fun la' h' => k H lo hP hS la' (lv_sub h' ks hl))
theorem tw_astore_n (C : Cx K cc own) {q : Fin 4} {i : Nat} {r : Rf} (ks : List Nat) (hd : decode cc pc = .ok (.astore_n q, 1)) (hi : (q : Nat) = i) (hn : i < nLof K) (hl : lsOk ls i (rv K r) lv' ks) (k : TW K (pc + 1) lv' st σ) : TW K pc ls (rv K r :: st) σ := by
  obtain ⟨G, p, e, R, s, m, args, below, meth, c, cells, slots, nL, Q⟩ := K
  exact fun H lo hP hS la h => lv_astore_n C.1 C.2.1 hd hi h hn rfl (fun la' h' => k H lo hP hS la' (lv_sub h' ks hl))
theorem tw_astore (C : Cx K cc own) {i : Nat} {r : Rf} (ks : List Nat) (hd : decode cc pc = .ok (.astore i, 2)) (hn : i < nLof K) (hl : lsOk ls i (rv K r) lv' ks) (k : TW K (pc + 2) lv' st σ) : TW K pc ls (rv K r :: st) σ := by
  obtain ⟨G, p, e, R, s, m, args, below, meth, c, cells, slots, nL, Q⟩ := K
  exact fun H lo hP hS la h => lv_astore C.1 C.2.1 hd h hn rfl (fun la' h' => k H lo hP hS la' (lv_sub h' ks hl))
def lsOk2 (ls : List (Nat × Value)) (i : Nat) (v : Value) (lv' : List (Nat × Value)) (ks : List Nat) : Prop := lv_pick ((i, v) :: ls.filter (fun q => !(q.1 == i) && (!(q.1 == i + 1) && !(q.1 + 1 == i && q.2.category == 2)))) ks = lv'
theorem tw_lstore_n (C : Cx K cc own) {q : Fin 4} {i : Nat} {x : Int64} (ks : List Nat) (hd : decode cc pc = .ok (.lstore_n q, 1)) (hi : (q : Nat) = i) (hn : i + 1 < nLof K) (hl : lsOk2 ls i (.long x) lv' ks) (k : TW K (pc + 1) lv' st σ) : TW K pc ls (.long x :: st) σ := by
  obtain ⟨G, p, e, R, s, m, args, below, meth, c, cells, slots, nL, Q⟩ := K
  exact fun H lo hP hS la h => lv_lstore_n C.1 C.2.1 hd hi h hn rfl (fun la' h' => k H lo hP hS la' (lv_sub h' ks hl))
theorem tw_iinc (C : Cx K cc own) {i z : Nat} {n : Int} {x v : Int32} (ks : List Nat) (hd : decode cc pc = .ok (.iinc i n, 3)) (hz : ls[z]? = some (i, .int x)) (hv : x + Int32.ofInt n = v) (hn : i < nLof K) (hl : lsOk ls i (.int v) lv' ks) (k : TW K (pc + 3) lv' st σ) : TW K pc ls st σ := by
  obtain ⟨G, p, e, R, s, m, args, below, meth, c, cells, slots, nL, Q⟩ := K
  exact fun H lo hP hS la h => lv_iinc C.1 C.2.1 hd h hz hv hn rfl (fun la' h' => k H lo hP hS la' (lv_sub h' ks hl))
theorem tw_dup (C : Cx K cc own) {v : Value} (hd : decode cc pc = .ok (.dup, 1)) (hv : v.category = 1) (k : TW K (pc + 1) ls (v :: v :: st) σ) : TW K pc ls (v :: st) σ := by
  obtain ⟨G, p, e, R, s, m, args, below, meth, c, cells, slots, nL, Q⟩ := K
  exact fun H lo hP hS la h => lv_dup C.1 C.2.1 hd hv (k H lo hP hS la h)
theorem tw_dup2 (C : Cx K cc own) {v w : Value} (hd : decode cc pc = .ok (.dup2, 1)) (hv : v.category = 1) (hw : w.category = 1) (k : TW K (pc + 1) ls (v :: w :: v :: w :: st) σ) : TW K pc ls (v :: w :: st) σ := by
  obtain ⟨G, p, e, R, s, m, args, below, meth, c, cells, slots, nL, Q⟩ := K
  exact fun H lo hP hS la h => lv_dup2_11 C.1 C.2.1 hd hv hw (k H lo hP hS la h)
theorem tw_pop (C : Cx K cc own) {v : Value} (hd : decode cc pc = .ok (.pop, 1)) (hv : v.category = 1) (k : TW K (pc + 1) ls st σ) : TW K pc ls (v :: st) σ := by
  obtain ⟨G, p, e, R, s, m, args, below, meth, c, cells, slots, nL, Q⟩ := K
  exact fun H lo hP hS la h => lv_pop C.1 C.2.1 hd hv (k H lo hP hS la h)
theorem tw_goto (C : Cx K cc own) {off : Int} {tgt : Nat} (hd : decode cc pc = .ok (.goto off, 3)) (ht : (pc : Int) + off = (tgt : Int)) (k : TW K tgt ls st σ) : TW K pc ls st σ := by
  obtain ⟨G, p, e, R, s, m, args, below, meth, c, cells, slots, nL, Q⟩ := K
  exact fun H lo hP hS la h => lv_goto C.1 C.2.1 hd ht (k H lo hP hS la h)
theorem tw_iadd (C : Cx K cc own) {x y : Int32} (hd : decode cc pc = .ok (.iadd, 1)) (k : TW K (pc + 1) ls (.int (x + y) :: st) σ) : TW K pc ls (.int y :: .int x :: st) σ := by
  obtain ⟨G, p, e, R, s, m, args, below, meth, c, cells, slots, nL, Q⟩ := K
  exact fun H lo hP hS la h => lv_iadd C.1 C.2.1 hd (k H lo hP hS la h)
theorem tw_isub (C : Cx K cc own) {x y : Int32} (hd : decode cc pc = .ok (.isub, 1)) (k : TW K (pc + 1) ls (.int (x - y) :: st) σ) : TW K pc ls (.int y :: .int x :: st) σ := by
  obtain ⟨G, p, e, R, s, m, args, below, meth, c, cells, slots, nL, Q⟩ := K
  exact fun H lo hP hS la h => lv_isub C.1 C.2.1 hd (k H lo hP hS la h)
theorem tw_imul (C : Cx K cc own) {x y : Int32} (hd : decode cc pc = .ok (.imul, 1)) (k : TW K (pc + 1) ls (.int (x * y) :: st) σ) : TW K pc ls (.int y :: .int x :: st) σ := by
  obtain ⟨G, p, e, R, s, m, args, below, meth, c, cells, slots, nL, Q⟩ := K
  exact fun H lo hP hS la h => lv_imul C.1 C.2.1 hd (k H lo hP hS la h)
theorem tw_iand (C : Cx K cc own) {x y : Int32} (hd : decode cc pc = .ok (.iand, 1)) (k : TW K (pc + 1) ls (.int (x &&& y) :: st) σ) : TW K pc ls (.int y :: .int x :: st) σ := by
  obtain ⟨G, p, e, R, s, m, args, below, meth, c, cells, slots, nL, Q⟩ := K
  exact fun H lo hP hS la h => lv_iand C.1 C.2.1 hd (k H lo hP hS la h)
theorem tw_ior (C : Cx K cc own) {x y : Int32} (hd : decode cc pc = .ok (.ior, 1)) (k : TW K (pc + 1) ls (.int (x ||| y) :: st) σ) : TW K pc ls (.int y :: .int x :: st) σ := by
  obtain ⟨G, p, e, R, s, m, args, below, meth, c, cells, slots, nL, Q⟩ := K
  exact fun H lo hP hS la h => lv_ior C.1 C.2.1 hd (k H lo hP hS la h)
theorem tw_ixor (C : Cx K cc own) {x y : Int32} (hd : decode cc pc = .ok (.ixor, 1)) (k : TW K (pc + 1) ls (.int (x ^^^ y) :: st) σ) : TW K pc ls (.int y :: .int x :: st) σ := by
  obtain ⟨G, p, e, R, s, m, args, below, meth, c, cells, slots, nL, Q⟩ := K
  exact fun H lo hP hS la h => lv_ixor C.1 C.2.1 hd (k H lo hP hS la h)
theorem tw_ishl (C : Cx K cc own) {x y : Int32} (hd : decode cc pc = .ok (.ishl, 1)) (k : TW K (pc + 1) ls (.int (x <<< (y &&& 31)) :: st) σ) : TW K pc ls (.int y :: .int x :: st) σ := by
  obtain ⟨G, p, e, R, s, m, args, below, meth, c, cells, slots, nL, Q⟩ := K
  exact fun H lo hP hS la h => lv_ishl C.1 C.2.1 hd (k H lo hP hS la h)
theorem tw_ishr (C : Cx K cc own) {x y : Int32} (hd : decode cc pc = .ok (.ishr, 1)) (k : TW K (pc + 1) ls (.int (x >>> (y &&& 31)) :: st) σ) : TW K pc ls (.int y :: .int x :: st) σ := by
  obtain ⟨G, p, e, R, s, m, args, below, meth, c, cells, slots, nL, Q⟩ := K
  exact fun H lo hP hS la h => lv_ishr C.1 C.2.1 hd (k H lo hP hS la h)
theorem tw_idiv (C : Cx K cc own) {x y : Int32} (hd : decode cc pc = .ok (.idiv, 1)) (hy : ¬ y = 0) (k : TW K (pc + 1) ls (.int (x / y) :: st) σ) : TW K pc ls (.int y :: .int x :: st) σ := by
  obtain ⟨G, p, e, R, s, m, args, below, meth, c, cells, slots, nL, Q⟩ := K
  exact fun H lo hP hS la h => lv_idiv C.1 C.2.1 hd hy (k H lo hP hS la h)
theorem tw_irem (C : Cx K cc own) {x y : Int32} (hd : decode cc pc = .ok (.irem, 1)) (hy : ¬ y = 0) (k : TW K (pc + 1) ls (.int (irm x y) :: st) σ) : TW K pc ls (.int y :: .int x :: st) σ := by
  obtain ⟨G, p, e, R, s, m, args, below, meth, c, cells, slots, nL, Q⟩ := K
  exact fun H lo hP hS la h => lv_irem C.1 C.2.1 hd hy (k H lo hP hS la h)
theorem tw_iushr (C : Cx K cc own) {x y : Int32} (hd : decode cc pc = .ok (.iushr, 1)) (k : TW K (pc + 1) ls (.int (ius x y) :: st) σ) : TW K pc ls (.int y :: .int x :: st) σ := by
  obtain ⟨G, p, e, R, s, m, args, below, meth, c, cells, slots, nL, Q⟩ := K
  exact fun H lo hP hS la h => lv_iushr C.1 C.2.1 hd rfl (k H lo hP hS la h)
theorem tw_i2b (C : Cx K cc own) {x : Int32} (hd : decode cc pc = .ok (.i2b, 1)) (k : TW K (pc + 1) ls (.int (i2bb x) :: st) σ) : TW K pc ls (.int x :: st) σ := by
  obtain ⟨G, p, e, R, s, m, args, below, meth, c, cells, slots, nL, Q⟩ := K
  exact fun H lo hP hS la h => lv_i2b C.1 C.2.1 hd rfl (k H lo hP hS la h)
theorem tw_i2s (C : Cx K cc own) {x : Int32} (hd : decode cc pc = .ok (.i2s, 1)) (k : TW K (pc + 1) ls (.int (i2ss x) :: st) σ) : TW K pc ls (.int x :: st) σ := by
  obtain ⟨G, p, e, R, s, m, args, below, meth, c, cells, slots, nL, Q⟩ := K
  exact fun H lo hP hS la h => lv_i2s C.1 C.2.1 hd rfl (k H lo hP hS la h)
theorem tw_i2c (C : Cx K cc own) {x : Int32} (hd : decode cc pc = .ok (.i2c, 1)) (k : TW K (pc + 1) ls (.int (i2cc x) :: st) σ) : TW K pc ls (.int x :: st) σ := by
  obtain ⟨G, p, e, R, s, m, args, below, meth, c, cells, slots, nL, Q⟩ := K
  exact fun H lo hP hS la h => lv_i2c C.1 C.2.1 hd rfl (k H lo hP hS la h)
theorem tw_i2l (C : Cx K cc own) {x : Int32} (hd : decode cc pc = .ok (.i2l, 1)) (k : TW K (pc + 1) ls (.long x.toInt64 :: st) σ) : TW K pc ls (.int x :: st) σ := by
  obtain ⟨G, p, e, R, s, m, args, below, meth, c, cells, slots, nL, Q⟩ := K
  exact fun H lo hP hS la h => lv_i2l C.1 C.2.1 hd rfl (k H lo hP hS la h)
theorem tw_ladd (C : Cx K cc own) {x y : Int64} (hd : decode cc pc = .ok (.ladd, 1)) (k : TW K (pc + 1) ls (.long (x + y) :: st) σ) : TW K pc ls (.long y :: .long x :: st) σ := by
  obtain ⟨G, p, e, R, s, m, args, below, meth, c, cells, slots, nL, Q⟩ := K
  exact fun H lo hP hS la h => lv_ladd C.1 C.2.1 hd (k H lo hP hS la h)
theorem tw_lmul (C : Cx K cc own) {x y : Int64} (hd : decode cc pc = .ok (.lmul, 1)) (k : TW K (pc + 1) ls (.long (x * y) :: st) σ) : TW K pc ls (.long y :: .long x :: st) σ := by
  obtain ⟨G, p, e, R, s, m, args, below, meth, c, cells, slots, nL, Q⟩ := K
  exact fun H lo hP hS la h => lv_lmul C.1 C.2.1 hd (k H lo hP hS la h)
theorem tw_lcmp (C : Cx K cc own) {x y : Int64} (hd : decode cc pc = .ok (.lcmp, 1)) (k : TW K (pc + 1) ls (.int (lg_cmp x y) :: st) σ) : TW K pc ls (.long y :: .long x :: st) σ := by
  obtain ⟨G, p, e, R, s, m, args, below, meth, c, cells, slots, nL, Q⟩ := K
  exact fun H lo hP hS la h => W.lcmp C.1 C.2.1 hd (k H lo hP hS la h)

theorem tw_if_eq (C : Cx K cc own) {x : Int32} {off : Int} {tgt : Nat} (hd : decode cc pc = .ok (.ifCond .eq off, 3)) (ht : (pc : Int) + off = (tgt : Int)) (kt : x = 0 → TW K tgt ls st σ) (kf : ¬ x = 0 → TW K (pc + 3) ls st σ) : TW K pc ls (.int x :: st) σ := by
  obtain ⟨G, p, e, R, s, m, args, below, meth, c, cells, slots, nL, Q⟩ := K
  exact fun H lo hP hS la h => lv_if_eq C.1 C.2.1 hd ht (fun q => kt q H lo hP hS la h) (fun q => kf q H lo hP hS la h)
theorem tw_ic_eq (C : Cx K cc own) {x y : Int32} {off : Int} {tgt : Nat} (hd : decode cc pc = .ok (.if_icmp .eq off, 3)) (ht : (pc : Int) + off = (tgt : Int)) (kt : x = y → TW K tgt ls st σ) (kf : ¬ x = y → TW K (pc + 3) ls st σ) : TW K pc ls (.int y :: .int x :: st) σ := by
  obtain ⟨G, p, e, R, s, m, args, below, meth, c, cells, slots, nL, Q⟩ := K
  exact fun H lo hP hS la h => lv_icmp_eq C.1 C.2.1 hd ht (fun q => kt q H lo hP hS la h) (fun q => kf q H lo hP hS la h)
theorem tw_if_ne (C : Cx K cc own) {x : Int32} {off : Int} {tgt : Nat} (hd : decode cc pc = .ok (.ifCond .ne off, 3)) (ht : (pc : Int) + off = (tgt : Int)) (kt : ¬ x = 0 → TW K tgt ls st σ) (kf : x = 0 → TW K (pc + 3) ls st σ) : TW K pc ls (.int x :: st) σ := by
  obtain ⟨G, p, e, R, s, m, args, below, meth, c, cells, slots, nL, Q⟩ := K
  exact fun H lo hP hS la h => lv_if_ne C.1 C.2.1 hd ht (fun q => kt q H lo hP hS la h) (fun q => kf q H lo hP hS la h)
theorem tw_ic_ne (C : Cx K cc own) {x y : Int32} {off : Int} {tgt : Nat} (hd : decode cc pc = .ok (.if_icmp .ne off, 3)) (ht : (pc : Int) + off = (tgt : Int)) (kt : ¬ x = y → TW K tgt ls st σ) (kf : x = y → TW K (pc + 3) ls st σ) : TW K pc ls (.int y :: .int x :: st) σ := by
  obtain ⟨G, p, e, R, s, m, args, below, meth, c, cells, slots, nL, Q⟩ := K
  exact fun H lo hP hS la h => lv_icmp_ne C.1 C.2.1 hd ht (fun q => kt q H lo hP hS la h) (fun q => kf q H lo hP hS la h)
theorem tw_if_lt (C : Cx K cc own) {x : Int32} {off : Int} {tgt : Nat} (hd : decode cc pc = .ok (.ifCond .lt off, 3)) (ht : (pc : Int) + off = (tgt : Int)) (kt : x < 0 → TW K tgt ls st σ) (kf : ¬ x < 0 → TW K (pc + 3) ls st σ) : TW K pc ls (.int x :: st) σ := by
  obtain ⟨G, p, e, R, s, m, args, below, meth, c, cells, slots, nL, Q⟩ := K
  exact fun H lo hP hS la h => lv_if_lt C.1 C.2.1 hd ht (fun q => kt q H lo hP hS la h) (fun q => kf q H lo hP hS la h)
theorem tw_ic_lt (C : Cx K cc own) {x y : Int32} {off : Int} {tgt : Nat} (hd : decode cc pc = .ok (.if_icmp .lt off, 3)) (ht : (pc : Int) + off = (tgt : Int)) (kt : x < y → TW K tgt ls st σ) (kf : ¬ x < y → TW K (pc + 3) ls st σ) : TW K pc ls (.int y :: .int x :: st) σ := by
  obtain ⟨G, p, e, R, s, m, args, below, meth, c, cells, slots, nL, Q⟩ := K
  exact fun H lo hP hS la h => lv_icmp_lt C.1 C.2.1 hd ht (fun q => kt q H lo hP hS la h) (fun q => kf q H lo hP hS la h)
theorem tw_if_ge (C : Cx K cc own) {x : Int32} {off : Int} {tgt : Nat} (hd : decode cc pc = .ok (.ifCond .ge off, 3)) (ht : (pc : Int) + off = (tgt : Int)) (kt : 0 ≤ x → TW K tgt ls st σ) (kf : ¬ 0 ≤ x → TW K (pc + 3) ls st σ) : TW K pc ls (.int x :: st) σ := by
  obtain ⟨G, p, e, R, s, m, args, below, meth, c, cells, slots, nL, Q⟩ := K
  exact fun H lo hP hS la h => lv_if_ge C.1 C.2.1 hd ht (fun q => kt q H lo hP hS la h) (fun q => kf q H lo hP hS la h)
theorem tw_ic_ge (C : Cx K cc own) {x y : Int32} {off : Int} {tgt : Nat} (hd : decode cc pc = .ok (.if_icmp .ge off, 3)) (ht : (pc : Int) + off = (tgt : Int)) (kt : y ≤ x → TW K tgt ls st σ) (kf : ¬ y ≤ x → TW K (pc + 3) ls st σ) : TW K pc ls (.int y :: .int x :: st) σ := by
  obtain ⟨G, p, e, R, s, m, args, below, meth, c, cells, slots, nL, Q⟩ := K
  exact fun H lo hP hS la h => lv_icmp_ge C.1 C.2.1 hd ht (fun q => kt q H lo hP hS la h) (fun q => kf q H lo hP hS la h)
theorem tw_if_gt (C : Cx K cc own) {x : Int32} {off : Int} {tgt : Nat} (hd : decode cc pc = .ok (.ifCond .gt off, 3)) (ht : (pc : Int) + off = (tgt : Int)) (kt : 0 < x → TW K tgt ls st σ) (kf : ¬ 0 < x → TW K (pc + 3) ls st σ) : TW K pc ls (.int x :: st) σ := by
  obtain ⟨G, p, e, R, s, m, args, below, meth, c, cells, slots, nL, Q⟩ := K
  exact fun H lo hP hS la h => lv_if_gt C.1 C.2.1 hd ht (fun q => kt q H lo hP hS la h) (fun q => kf q H lo hP hS la h)
theorem tw_ic_gt (C : Cx K cc own) {x y : Int32} {off : Int} {tgt : Nat} (hd : decode cc pc = .ok (.if_icmp .gt off, 3)) (ht : (pc : Int) + off = (tgt : Int)) (kt : y < x → TW K tgt ls st σ) (kf : ¬ y < x → TW K (pc + 3) ls st σ) : TW K pc ls (.int y :: .int x :: st) σ := by
  obtain ⟨G, p, e, R, s, m, args, below, meth, c, cells, slots, nL, Q⟩ := K
  exact fun H lo hP hS la h => lv_icmp_gt C.1 C.2.1 hd ht (fun q => kt q H lo hP hS la h) (fun q => kf q H lo hP hS la h)
theorem tw_if_le (C : Cx K cc own) {x : Int32} {off : Int} {tgt : Nat} (hd : decode cc pc = .ok (.ifCond .le off, 3)) (ht : (pc : Int) + off = (tgt : Int)) (kt : x ≤ 0 → TW K tgt ls st σ) (kf : ¬ x ≤ 0 → TW K (pc + 3) ls st σ) : TW K pc ls (.int x :: st) σ := by
  obtain ⟨G, p, e, R, s, m, args, below, meth, c, cells, slots, nL, Q⟩ := K
  exact fun H lo hP hS la h => lv_if_le C.1 C.2.1 hd ht (fun q => kt q H lo hP hS la h) (fun q => kf q H lo hP hS la h)
theorem tw_ic_le (C : Cx K cc own) {x y : Int32} {off : Int} {tgt : Nat} (hd : decode cc pc = .ok (.if_icmp .le off, 3)) (ht : (pc : Int) + off = (tgt : Int)) (kt : x ≤ y → TW K tgt ls st σ) (kf : ¬ x ≤ y → TW K (pc + 3) ls st σ) : TW K pc ls (.int y :: .int x :: st) σ := by
  obtain ⟨G, p, e, R, s, m, args, below, meth, c, cells, slots, nL, Q⟩ := K
  exact fun H lo hP hS la h => lv_icmp_le C.1 C.2.1 hd ht (fun q => kt q H lo hP hS la h) (fun q => kf q H lo hP hS la h)

theorem tw_tabIn (C : Cx K cc own) {dflt lo hi : Int} {offs : Array Int} {len : Nat} {x : Int32} {off : Int} {tgt : Nat} (hd : decode cc pc = .ok (.tableswitch dflt lo hi offs, len)) (v : Int32) (hx : x = v) (h1 : ¬ v.toInt < lo) (h2 : ¬ hi < v.toInt) (ho : offs[(v.toInt - lo).toNat]? = some off) (ht : (pc : Int) + off = (tgt : Int)) (k : TW K tgt ls st σ) : TW K pc ls (.int x :: st) σ := by
  obtain ⟨G, p, e, R, s, m, args, below, meth, c, cells, slots, nL, Q⟩ := K
  subst hx
  exact fun H lo hP hS la h => lv_tableIn C.1 C.2.1 hd h1 h2 ho ht (k H lo hP hS la h)
theorem tw_tabZ (C : Cx K cc own) {dflt lo hi : Int} {offs : Array Int} {len : Nat} {x : Int32} {off : Int} {tgt : Nat} (hd : decode cc pc = .ok (.tableswitch dflt lo hi offs, len)) (v : Int) (hx : x.toInt = v) (h1 : ¬ v < lo) (h2 : ¬ hi < v) (ho : offs[(v - lo).toNat]? = some off) (ht : (pc : Int) + off = (tgt : Int)) (k : TW K tgt ls st σ) : TW K pc ls (.int x :: st) σ := by
  obtain ⟨G, p, e, R, s, m, args, below, meth, c, cells, slots, nL, Q⟩ := K
  subst hx
  exact fun H lo hP hS la h => lv_tableIn C.1 C.2.1 hd h1 h2 ho ht (k H lo hP hS la h)
theorem tw_tabOut (C : Cx K cc own) {dflt lo hi : Int} {offs : Array Int} {len : Nat} {x : Int32} {tgt : Nat} (hd : decode cc pc = .ok (.tableswitch dflt lo hi offs, len)) (h : x.toInt < lo ∨ hi < x.toInt) (ht : (pc : Int) + dflt = (tgt : Int)) (k : TW K tgt ls st σ) : TW K pc ls (.int x :: st) σ := by
  obtain ⟨G, p, e, R, s, m, args, below, meth, c, cells, slots, nL, Q⟩ := K
  exact fun H lo hP hS la h' => lv_tableOut C.1 C.2.1 hd h ht (k H lo hP hS la h')
/-! fields -/
def FL (own : String) (idx f k : Nat) (ty : FieldType) : Prop := ∃ q : vw_C, vwCl[f]? = some q ∧ k < q.2.2 ∧ q.2.2 = nfl f ∧ (∀ w ∈ u_ws q.1 q.2.1 q.2.2, w ∈ Tw) ∧ (∃ ty0 : Nat → FieldType, ∀ k, k < q.2.2 → parseFieldDescriptor (q.2.1 k).2.2.1 = some (ty0 k)) ∧ (∀ a, a < q.2.2 → ∀ b, b < q.2.2 → a ≠ b → (q.2.1 a).2.1 ≠ (q.2.1 b).2.1) ∧ parseFieldDescriptor (q.2.1 k).2.2.1 = some ty ∧
  (Cond.fieldLink own idx (q.2.1 k).1 (q.2.1 k).2.1 (q.2.1 k).2.2.1 ∈ Tw ∨ ∃ host, Cond.fieldLinkNest own idx (q.2.1 k).1 (q.2.1 k).2.1 (q.2.1 k).2.2.1 host ∈ nestWs)
theorem fv_get {α : Rf → Nat} {σ : St} {f j k n : Nat} (hk : k < n) : ((List.range n).map (fv α σ f j))[k]? = some (fv α σ f j k) := by
  rw [List.getElem?_map, List.getElem?_range hk]
  rfl
theorem tw_getF (C : Cx K cc own) {idx f j k : Nat} {ty : FieldType} (hF : FL own idx f k ty) (h9 : ak f = 9) (hr : (f, j) ∈ wcells) (hd : decode cc pc = .ok (.getfield idx, 3)) (kk : TW K (pc + 3) ls (fv K.1.2.1 σ f j k :: st) σ) : TW K pc ls (rv K (f, j) :: st) σ := by
  obtain ⟨G, p, e, R, s, m, args, below, meth, c, cells, slots, nL, Q⟩ := K
  obtain ⟨q, hc, hk, hn, hin, -, -, -, hl⟩ := hF
  obtain ⟨C1, T1, N1⟩ := q
  intro H lo hP hS la h
  have h1 := hP.one hr
  rw [ent_obj h9] at h1
  rcases hl with hl | ⟨host, hl⟩
  · exact va_get C.1 C.2.1 C.2.2.2.2.1 hin C.2.2.2.1 C.2.2.2.2.2.1.2.1 h1 0 rfl hc k hk (C.2.2.2.2.1 _ hl) (fun _ x => x) (fv_get (hn ▸ hk)) hd (kk H lo hP hS la h)
  · exact va_getN C.1 C.2.1 C.2.2.2.2.1 hin C.2.2.2.1 C.2.2.2.2.2.1.2.1 h1 0 rfl hc k hk (va_Nw.use rfl (C.2.2.2.2.2.1.2.2.1 _ hl)) (fun _ x => x) (fv_get (hn ▸ hk)) hd (kk H lo hP hS la h)
theorem tw_getI (C : Cx K cc own) {idx f j k : Nat} {ty : FieldType} (hF : FL own idx f k ty) (h9 : ak f = 9) (hr : (f, j) ∈ wcells) (hk : rff f k = none) (hd : decode cc pc = .ok (.getfield idx, 3)) (kk : TW K (pc + 3) ls (.int (σ (f, j) k) :: st) σ) : TW K pc ls (rv K (f, j) :: st) σ := by
  refine tw_getF C hF h9 hr hd ?_
  unfold fv
  rw [hk]
  exact kk
theorem tw_getR (C : Cx K cc own) {idx f j k g z j' : Nat} {ty : FieldType} (hF : FL own idx f k ty) (h9 : ak f = 9) (hr : (f, j) ∈ wcells) (hk : rff f k = some (g, z)) (hj : j + z = j') (hd : decode cc pc = .ok (.getfield idx, 3)) (kk : TW K (pc + 3) ls (rv K (g, j') :: st) σ) : TW K pc ls (rv K (f, j) :: st) σ := by
  subst hj
  refine tw_getF C hF h9 hr hd ?_
  unfold fv
  rw [hk]
  exact kk
theorem fv_su {α : Rf → Nat} {σ : St} {f j k i : Nat} {x : Int32} (h : ¬ i = k) : fv α (su σ (f, j) k x) f j i = fv α σ f j i := by
  unfold fv
  cases rff f i with
  | some q => rfl
  | none => simp [su, sr, upd, h]
theorem fv_set {α : Rf → Nat} {σ : St} {f j k n : Nat} {x : Int32} (hk : rff f k = none) : ((List.range n).map (fv α σ f j)).set k (.int x) = (List.range n).map (fv α (su σ (f, j) k x) f j) := by
  apply List.ext_getElem?
  intro i
  rw [List.getElem?_set]
  by_cases hi : k = i
  · subst hi
    by_cases hl : k < n
    · rw [if_pos rfl, if_pos (by simpa using hl), List.getElem?_map, List.getElem?_range hl]
      simp [fv, hk, su, sr, upd]
    · rw [if_pos rfl, if_neg (by simpa using hl), List.getElem?_eq_none (by simp; omega)]
  · rw [if_neg hi]
    by_cases hl : i < n
    · rw [fv_get hl, fv_get hl, fv_su (Ne.symm hi)]
    · rw [List.getElem?_eq_none (by simp; omega), List.getElem?_eq_none (by simp; omega)]
theorem tw_put (C : Cx K cc own) {idx f j k : Nat} {ty : FieldType} {x : Int32} (hF : FL own idx f k ty) (hfin : ∀ q, vwCl[f]? = some q → (q.2.1 k).2.2.2 = false) (h9 : ak f = 9) (hr : (f, j) ∈ wcells) (hk0 : rff f k = none) (hn : narrow ty (.int x) = .int x) (hfit : fits ty (.int x) = true) (hd : decode cc pc = .ok (.putfield idx, 3)) (kk : TW K (pc + 3) ls st (su σ (f, j) k x)) : TW K pc ls (.int x :: rv K (f, j) :: st) σ := by
  obtain ⟨G, p, e, R, s, m, args, below, meth, c, cells, slots, nL, Q⟩ := K
  obtain ⟨q, hc, hk, hnn, hin, ⟨ty0, hty0⟩, hnm, hty, hl⟩ := hF
  have hfin := hfin q hc
  obtain ⟨C1, T1, N1⟩ := q
  intro H lo hP hS la h
  obtain ⟨z, hz⟩ := wcells_place hr
  have hz' : (wsO G.2.1 G.2.2.1 σ)[z]? = some (G.2.1 (f, j), .inr (f, (List.range (nfl f)).map (fv G.2.1 σ f j))) := by
    rw [wsO_of hz, ent_obj h9]
  have fin : ∀ (H1 : Heap) (locs1 : List Loc), va_P (G.2.2.2.1, G.2.2.2.2.1) vwCl ((wsO G.2.1 G.2.2.1 σ).set z (G.2.1 (f, j), .inr (f, ((List.range (nfl f)).map (fv G.2.1 σ f j)).set k (.int x)))) H1 → va_D G.2.2.2.2.2 ((wsO G.2.1 G.2.2.1 σ).set z (G.2.1 (f, j), .inr (f, ((List.range (nfl f)).map (fv G.2.1 σ f j)).set k (.int x)))) → va_S G.2.2.2.2.2 s.heap H1 locs1 → W p G.1 e R s m args below meth c H1 locs1 cells slots Q (F0 m (pc + 3) la st) := by
    intro H1 locs1 h1 h2 h3
    refine kk H1 locs1 (Rep.set (σ := σ) hz ?_ (fun r' hr' => sr_ne _ _ hr') hP.2) h3 la h
    rw [ent_obj h9]
    rw [fv_set hk0] at h1
    exact h1
  rcases hl with hl | ⟨host, hl⟩
  · exact va_put C.1 C.2.1 C.2.2.2.2.1 hin ty0 hty0 hnm C.2.2.2.1 C.2.2.2.2.2.1.2.1 hP.1 (C.2.2.2.2.2.1.1.D σ) hS z hz' hc k hk (C.2.2.2.2.1 _ hl) (fun _ x => x) hfin hty hn hfit (by simp; omega) hd fin
  · exact va_putN C.1 C.2.1 C.2.2.2.2.1 hin ty0 hty0 hnm C.2.2.2.1 C.2.2.2.2.2.1.2.1 hP.1 (C.2.2.2.2.2.1.1.D σ) hS z hz' hc k hk (va_Nw.use rfl (C.2.2.2.2.2.1.2.2.1 _ hl)) (fun _ x => x) hfin hty hn hfit (by simp; omega) hd fin
/-! arrays -/
theorem tys_at {cA : Nat → ClassId} : (tysO cA)[0]? = some (cA 0, .int) := rfl
theorem tw_iald (C : Cx K cc own) {r : Rf} {i : Int32} (hr : isIA r = true) (hi : inb i (alen r.1) = true) (hd : decode cc pc = .ok (.iaload, 1)) (kk : TW K (pc + 1) ls (.int (σ r (tn i)) :: st) σ) : TW K pc ls (.int i :: rv K r :: st) σ := by
  obtain ⟨G, p, e, R, s, m, args, below, meth, c, cells, slots, nL, Q⟩ := K
  simp only [isIA, Bool.and_eq_true, decide_eq_true_eq] at hr
  intro H lo hP hS la h
  by_cases hf : r.1 < 56
  · have h1 := hP.one (wcells_mem (f := r.1) (j := r.2) hf hr.2)
    rw [ent_int (r := (r.1, r.2)) (show ak r.1 < 3 by omega)] at h1
    simp only [hr.1] at h1
    exact va_iald C.1 C.2.1 C.2.2.2.2.2.1.2.1 h1 0 0 rfl rfl (inb_in hi) hd (kk H lo hP hS la h)
  · obtain ⟨f, j⟩ := r
    have hf' := ia_wp hr.1 hr.2 hf
    obtain ⟨rfl, rfl⟩ := hf'
    have hlt := inb_lt hi
    refine va_sld C.1 C.2.1 C.2.2.2.2.2.1.2.2.2.2.1 C.2.2.2.2.2.1.2.2.2.2.2.1 C.2.2.2.2.2.1.2.2.2.2.2.2 hS (inb_in hi) hd ?_
    have e1 := hP.2 (tn i) hlt
    rw [← e1]
    exact kk H lo hP hS la h
theorem tw_zald (C : Cx K cc own) {r : Rf} {i : Int32} (hk : ak r.1 = 2) (hr : r ∈ wcells) (hi : inb i (alen r.1) = true) (hd : decode cc pc = .ok (.baload, 1)) (kk : TW K (pc + 1) ls (.int (σ r (tn i)) :: st) σ) : TW K pc ls (.int i :: rv K r :: st) σ := by
  obtain ⟨G, p, e, R, s, m, args, below, meth, c, cells, slots, nL, Q⟩ := K
  intro H lo hP hS la h
  have h1 := hP.one hr
  rw [ent_int (by omega), hk] at h1
  exact va_zald C.1 C.2.1 C.2.2.2.2.2.1.2.1 h1 0 2 rfl rfl (inb_in hi) hd (kk H lo hP hS la h)
theorem tw_cald (C : Cx K cc own) {r : Rf} {i : Int32} (hk : ak r.1 = 1) (hr : r ∈ wcells) (hi : inb i (alen r.1) = true) (hd : decode cc pc = .ok (.caload, 1)) (kk : TW K (pc + 1) ls (.int (σ r (tn i)) :: st) σ) : TW K pc ls (.int i :: rv K r :: st) σ := by
  obtain ⟨G, p, e, R, s, m, args, below, meth, c, cells, slots, nL, Q⟩ := K
  intro H lo hP hS la h
  have h1 := hP.one hr
  rw [ent_int (by omega), hk] at h1
  exact va_cald C.1 C.2.1 C.2.2.2.2.2.1.2.1 h1 0 1 rfl rfl (inb_in hi) hd (kk H lo hP hS la h)
theorem tw_aald (C : Cx K cc own) {f j : Nat} {i : Int32} {g : Nat} (hg : elf f = g) (t0 : Nat) (Cn : String) (hty : ∀ cA, (tysO cA)[t0]? = some (cA (ak f), .object Cn)) (hk : 3 ≤ ak f) (hk9 : ak f < 9) (hr : (f, j) ∈ wcells) (hi : inb i (alen f) = true) (hd : decode cc pc = .ok (.aaload, 1)) (kk : TW K (pc + 1) ls (rv K (g, tn i) :: st) σ) : TW K pc ls (.int i :: rv K (f, j) :: st) σ := by
  obtain ⟨G, p, e, R, s, m, args, below, meth, c, cells, slots, nL, Q⟩ := K
  subst hg
  intro H lo hP hS la h
  have h1 := hP.one hr
  rw [ent_ref hk hk9] at h1
  exact va_aldq C.1 C.2.1 C.2.2.2.2.2.1.2.1 h1 0 t0 rfl (hty _) (inb_in hi) hd (kk H lo hP hS la h)
theorem Rep.row {G : Gx} {σ : St} {H1 : Heap} {k : Nat} {r : Rf} {f : Nat → Int32} (hr : wcells[k]? = some r) (h3 : ak r.1 < 3) (h1 : va_P (G.2.2.2.1, G.2.2.2.2.1) vwCl ((wsO G.2.1 G.2.2.1 σ).set k (G.2.1 r, .inl (G.2.2.1 (ak r.1), alen r.1, .inl f))) H1) (hw : ∀ i, i < 17 → σ wpr i = wpf i) : Rep G (sr σ r f) H1 := by
  refine Rep.set (σ := σ) hr ?_ (fun r' hr' => sr_ne _ _ hr') hw
  rw [ent_int h3, sr_self]
  exact h1
theorem tw_iast (C : Cx K cc own) {r : Rf} {i x : Int32} (hr : isWA r = true) (hi : inb i (alen r.1) = true) (hd : decode cc pc = .ok (.iastore, 1)) (kk : TW K (pc + 1) ls st (su σ r (tn i) x)) : TW K pc ls (.int x :: .int i :: rv K r :: st) σ := by
  obtain ⟨G, p, e, R, s, m, args, below, meth, c, cells, slots, nL, Q⟩ := K
  simp only [isWA, isIA, Bool.and_eq_true, decide_eq_true_eq] at hr
  intro H lo hP hS la h
  obtain ⟨z, hz⟩ := wcells_place (wcells_mem (f := r.1) (j := r.2) hr.2 hr.1.2)
  have h3 : ak r.1 < 3 := by omega
  refine va_iast C.1 C.2.1 C.2.2.2.2.2.1.2.1 hP.1 (C.2.2.2.2.2.1.1.D σ) hS z 0 (cA := G.2.2.1 0) (n := alen r.1) (f := σ r) (by rw [wsO_of hz, ent_int h3, hr.1.1]) rfl (inb_in hi) hd (fun H1 locs1 h1 _ h4 => ?_)
  refine kk H1 locs1 (Rep.row hz h3 ?_ hP.2) h4 la h
  rw [hr.1.1]
  exact h1
theorem tw_zast (C : Cx K cc own) {r : Rf} {i x : Int32} (hk : ak r.1 = 2) (hr : r ∈ wcells) (hi : inb i (alen r.1) = true) (hd : decode cc pc = .ok (.bastore, 1)) (kk : TW K (pc + 1) ls st (su σ r (tn i) (nbo x))) : TW K pc ls (.int x :: .int i :: rv K r :: st) σ := by
  obtain ⟨G, p, e, R, s, m, args, below, meth, c, cells, slots, nL, Q⟩ := K
  intro H lo hP hS la h
  obtain ⟨z, hz⟩ := wcells_place hr
  have h3 : ak r.1 < 3 := by omega
  refine va_zast C.1 C.2.1 C.2.2.2.2.2.1.2.1 hP.1 (C.2.2.2.2.2.1.1.D σ) hS z 2 (cA := G.2.2.1 2) (n := alen r.1) (f := σ r) (by rw [wsO_of hz, ent_int h3, hk]) rfl (inb_in hi) hd (fun H1 locs1 h1 _ h4 => ?_)
  refine kk H1 locs1 (Rep.row hz h3 ?_ hP.2) h4 la h
  rw [hk]
  exact h1
theorem tw_cast (C : Cx K cc own) {r : Rf} {i x : Int32} (hk : ak r.1 = 1) (hr : r ∈ wcells) (hi : inb i (alen r.1) = true) (hd : decode cc pc = .ok (.castore, 1)) (kk : TW K (pc + 1) ls st (su σ r (tn i) (nch x))) : TW K pc ls (.int x :: .int i :: rv K r :: st) σ := by
  obtain ⟨G, p, e, R, s, m, args, below, meth, c, cells, slots, nL, Q⟩ := K
  intro H lo hP hS la h
  obtain ⟨z, hz⟩ := wcells_place hr
  have h3 : ak r.1 < 3 := by omega
  refine va_cast C.1 C.2.1 C.2.2.2.2.2.1.2.1 hP.1 (C.2.2.2.2.2.1.1.D σ) hS z 1 (cA := G.2.2.1 1) (n := alen r.1) (f := σ r) (by rw [wsO_of hz, ent_int h3, hk]) rfl (inb_in hi) hd (fun H1 locs1 h1 _ h4 => ?_)
  refine kk H1 locs1 (Rep.row hz h3 ?_ hP.2) h4 la h
  rw [hk]
  exact h1
theorem tw_alen (C : Cx K cc own) {r : Rf} (hr : isWA r = true) (hd : decode cc pc = .ok (.arraylength, 1)) (kk : TW K (pc + 1) ls (.int (Int32.ofNat (alen r.1)) :: st) σ) : TW K pc ls (rv K r :: st) σ := by
  obtain ⟨G, p, e, R, s, m, args, below, meth, c, cells, slots, nL, Q⟩ := K
  simp only [isWA, isIA, Bool.and_eq_true, decide_eq_true_eq] at hr
  intro H lo hP hS la h
  have h1 := hP.one (wcells_mem (f := r.1) (j := r.2) hr.2 hr.1.2)
  rw [ent_int (r := (r.1, r.2)) (show ak r.1 < 3 by omega)] at h1
  simp only [hr.1.1] at h1
  exact va_alen C.1 C.2.1 C.2.2.2.2.2.1.2.1 h1 0 0 rfl rfl rfl hd (kk H lo hP hS la h)
/-- the static row -/
theorem tw_gets (C : Cx K cc own) {idx : Nat} (hw : Cond.fieldLink own idx "ElevenCodes" "WITHOUT_PARTS" "[I" ∈ Tw) (hd : decode cc pc = .ok (.getstatic idx, 3)) (kk : TW K (pc + 3) ls (rv K wpr :: st) σ) : TW K pc ls st σ := by
  obtain ⟨G, p, e, R, s, m, args, below, meth, c, cells, slots, nL, Q⟩ := K
  exact fun H lo hP hS la h => va_gets C.1 C.2.1 C.2.2.2.2.2.1.2.2.2.1 hS C.2.2.2.1 (C.2.2.2.2.1 _ hw) (fun _ x => x) hd (kk H lo hP hS la h)
theorem tw_getsN (C : Cx K cc own) {idx : Nat} {host : String} (hw : Cond.fieldLinkNest own idx "ElevenCodes" "WITHOUT_PARTS" "[I" host ∈ nestWs) (hd : decode cc pc = .ok (.getstatic idx, 3)) (kk : TW K (pc + 3) ls (rv K wpr :: st) σ) : TW K pc ls st σ := by
  obtain ⟨G, p, e, R, s, m, args, below, meth, c, cells, slots, nL, Q⟩ := K
  exact fun H lo hP hS la h => va_getsN C.1 C.2.1 C.2.2.2.2.2.1.2.2.2.1 hS C.2.2.2.1 (va_Nw.use rfl (C.2.2.2.2.2.1.2.2.1 _ hw)) (fun _ x => x) hd (kk H lo hP hS la h)
/-! a method's contract -/
def rmd (d : Nat) : Room := { frames := d, cells := 0, slots := 0, locals := 40 * d }
def Qf (G : Gx) (v : Option Value) (σ' : St) : Array Value → State → Outcome → State → Prop := fun _ st o t => o = .returned v ∧ Rep G σ' t.heap ∧ va_F G.2.2.2.2.2 st t
def MS (G : Gx) (d : Nat) (y : MethodName) (cc : ByteArray) (maxL : Nat) (ret : Option FieldType) (av : List Value) (σ : St) (v : Option Value) (σ' : St) : Prop :=
  Met G.1 y (Cond.code y cc maxL ret :: Tw) (rmd d) (va_Pc av (fun U => WF G U ∧ Rep G σ U.heap)) (Qf G v σ') 0 0 G.2.2.2.2.2
/-- the run of a method whose contract is asked -/
def Kof (G : Gx) (p : Program) (e : Env) (d : Nat) (s : State) (m : MethodId) (args : Array Value) (below : List Frame) (meth : Method) (c : Code) (nL : Nat) (v : Option Value) (σ' : St) : Kx :=
  (G, p, e, rmd d, s, m, args, below, meth, c, 0, 0, nL, MQ below (Qf G v σ') args s 0 0 G.2.2.2.2.2)
def Ks (K : Kx) (G : Gx) (d nL : Nat) (ret : Option FieldType) (v : Option Value) (σ' : St) : Prop := ∃ p e s m args below meth c, K = Kof G p e d s m args below meth c nL v σ' ∧ meth.sig.returnType = ret
theorem MS_of {G : Gx} {d : Nat} {y : MethodName} {cc : ByteArray} {maxL : Nat} {ret : Option FieldType} {av : List Value} {σ : St} {v : Option Value} {σ' : St} {lv : List (Nat × Value)} (hy : plainName y.cls = true) (hav : (lg_sl av).length ≤ maxL) (hlv : lv_args 0 av = lv)
    (body : ∀ K : Kx, K.1 = G → nLof K = maxL → Cx K cc y.cls → RmOk K (d - 1) → Ks K G d maxL ret v σ' → TW K 0 lv [] σ) (hd : 0 < d) : MS G d y cc maxL ret av σ v σ' := by
  refine Met.ofW (cc := cc) (maxL := maxL) (ret := ret) hy rfl ?_
  intro p e s m args below meth c s₁ B hml hv
  obtain ⟨rfl, hWF, hRep⟩ := hv
  have hts := atoms_spec (ws := Cond.code y cc maxL ret :: Tw) B.pre
  have hown : s.vm.findClass y.cls = some m.cls := findClass_of_methodNamed B.named
  have hl := lv_entry av hav
  rw [lg_entry_eq]
  generalize (lg_sl av ++ List.replicate (maxL - (lg_sl av).length) Slot.unset).toArray = la at hl ⊢
  rw [hlv] at hl
  have hR : (headSpec (Cond.code y cc maxL ret :: Tw) (rmd d)).room = rmd d := rfl
  rw [hR]
  have hb := body (Kof G p e d s m av.toArray below meth c maxL v σ') rfl rfl ⟨B.exec, B.bytes, hml, hown, fun w hw => hts w (List.mem_cons_of_mem _ hw), hWF, B.notSynchronized, Nat.zero_le _, Nat.zero_le _⟩ ⟨by show d - 1 + 1 ≤ d; omega, by show 40 * (d - 1) + 40 ≤ 40 * d; omega⟩ ⟨p, e, s, m, av.toArray, below, meth, c, rfl, B.returns⟩
  exact hb s.heap [] hRep va_S.rf la hl
section Rets
variable {G : Gx} {d nL : Nat} {v : Option Value} {σ' : St}
theorem tw_iret (C : Cx K cc own) (hK : Ks K G d nL (some .int) v σ') {x : Int32} (hv : v = some (.int x)) (hσ : σ' = σ) (hd : decode cc pc = .ok (.ireturn, 1)) : TW K pc ls [.int x] σ := by
  obtain ⟨p, e, s, m, args, below, meth, c, rfl, hr⟩ := hK
  subst hv; subst hσ
  exact fun H lo hP hS la h => W.iret (v := x) C.1 C.2.1 hr (fun t ht hW => ⟨rfl, by rw [ht]; exact hP, hS.F ht⟩) hS.2.2 hd C.2.2.2.2.2.2.1
theorem tw_zret (C : Cx K cc own) (hK : Ks K G d nL (some .boolean) v σ') {x : Int32} (hn : narrow .boolean (.int x) = .int x) (hv : v = some (.int x)) (hσ : σ' = σ) (hd : decode cc pc = .ok (.ireturn, 1)) : TW K pc ls [.int x] σ := by
  obtain ⟨p, e, s, m, args, below, meth, c, rfl, hr⟩ := hK
  subst hv; subst hσ
  exact fun H lo hP hS la h => W.zret (v := x) C.1 C.2.1 hr hn (fun t ht hW => ⟨rfl, by rw [ht]; exact hP, hS.F ht⟩) hS.2.2 hd C.2.2.2.2.2.2.1
theorem tw_lret (C : Cx K cc own) (hK : Ks K G d nL (some .long) v σ') {x : Int64} (hv : v = some (.long x)) (hσ : σ' = σ) (hd : decode cc pc = .ok (.lreturn, 1)) : TW K pc ls [.long x] σ := by
  obtain ⟨p, e, s, m, args, below, meth, c, rfl, hr⟩ := hK
  subst hv; subst hσ
  exact fun H lo hP hS la h => W.lret (v := x) C.1 C.2.1 hr (fun t ht hW => ⟨rfl, by rw [ht]; exact hP, hS.F ht⟩) hS.2.2 hd C.2.2.2.2.2.2.1
theorem tw_vret (C : Cx K cc own) (hK : Ks K G d nL none v σ') (hv : v = none) (hσ : σ' = σ) (hd : decode cc pc = .ok (.return_, 1)) : TW K pc ls [] σ := by
  obtain ⟨p, e, s, m, args, below, meth, c, rfl, hr⟩ := hK
  subst hv; subst hσ
  exact fun H lo hP hS la h => W.vret C.1 C.2.1 hr (fun t ht hW => ⟨rfl, by rw [ht]; exact hP, hS.F ht⟩) hS.2.2 hd C.2.2.2.2.2.2.1
theorem tw_aret (C : Cx K cc own) {ty : FieldType} (hK : Ks K G d nL (some (.array ty)) v σ') {r : Rf} (hv : v = some (.ref (G.2.1 r))) (hσ : σ' = σ) (hd : decode cc pc = .ok (.areturn, 1)) : TW K pc ls [rv K r] σ := by
  obtain ⟨p, e, s, m, args, below, meth, c, rfl, hr⟩ := hK
  subst hv; subst hσ
  exact fun H lo hP hS la h => W.aret C.1 C.2.1 hr (Or.inr ⟨_, rfl⟩) (Or.inr ⟨_, rfl⟩) (fun t ht hW => ⟨rfl, by rw [ht]; exact hP, hS.F ht⟩) hS.2.2 hd C.2.2.2.2.2.2.1
end Rets
/-! calls -/
/-- what the tables say of a method, once for all calls -/
def MI (y : MethodName) (bytes : ByteArray) (maxL : Nat) (ret : Option FieldType) (n : Nat) : Prop :=
  Cond.code y bytes maxL ret ∈ Tw ∧ Cond.initialized y.cls ∈ Tw ∧ maxL ≤ 21 ∧ (y.cls ≠ "java/lang/invoke/MethodHandle" ∧ y.cls ≠ "java/lang/invoke/VarHandle" ∧ (parseMethodDescriptor y.desc).map (fun d => d.parameters.length) = some n)
theorem MS.blind {G : Gx} {av : List Value} {σ : St} : FrameBlind (va_Pc av (fun U => WF G U ∧ Rep G σ U.heap)) := fun a U g mk h => ⟨h.1, h.2.1.calling g mk a, h.2.2⟩
theorem ws_good {y : MethodName} {bytes : ByteArray} {maxL : Nat} {ret : Option FieldType} (h : Cond.code y bytes maxL ret ∈ Tw) : GoodIn Tw (Cond.code y bytes maxL ret :: Tw) := fun w hw => by
  rcases List.mem_cons.mp hw with rfl | hw
  · exact ⟨h, good_of_word (List.mem_filter.mp h).2⟩
  · exact ⟨hw, good_of_word (List.mem_filter.mp hw).2⟩
theorem callB_mi {R : Room} {s : State} {args : Array Value} {own : String} {idx : Nat} {y : MethodName} {bytes : ByteArray} {maxL : Nat} {ret : Option FieldType} {n d : Nat} (ht : ∀ w ∈ Tw, w.before args s = true) (hi : MI y bytes maxL ret n) (hl : Cond.methodLink own idx y ∈ Tw) (hR : d + 1 ≤ R.frames ∧ 40 * d + 40 ≤ R.locals) : CallB R s args own idx y bytes maxL ret (Cond.code y bytes maxL ret :: Tw) (rmd d) 0 0 n :=
  callB_of n ht (ws_good hi.1) rfl rfl rfl (ht _ hi.2.1) (ht _ hl) hi.2.2.2 ⟨hR.1, by show 8 + (maxL + 11) + 40 * d ≤ R.locals; have := hi.2.2.1; omega⟩
theorem run_go {p : Program} {G : Gx} {e : Env} {R : Room} {s : State} {m : MethodId} {args : Array Value} {below : List Frame} {meth : Method} {c : Code} {H : Heap} {locs : List Loc} {cells slots : Nat} {Q : State → Prop} {la : Array Slot} {st : List Value} {v : Option Value} {σ' : St} {a : Array Value} {pc : Nat}
    (hr : va_Run p G.1 e R s m args below meth c H locs cells slots 0 0 (F0 m pc la st) rest (Qf G v σ' a) G.2.2.2.2.2) (hS : va_S G.2.2.2.2.2 s.heap H locs)
    (kk : ∀ (H1 : Heap) (locs1 : List Loc), Rep G σ' H1 → va_S G.2.2.2.2.2 s.heap H1 locs1 → W p G.1 e R s m args below meth c H1 locs1 cells slots Q (F0 m (pc + 3) la (v.toList ++ rest))) : W p G.1 e R s m args below meth c H locs cells slots Q (F0 m pc la st) := by
  intro T hT X
  obtain ⟨v', st₀, t, T', L, h0, X', hL, e1, e2, ⟨hv, hp, hz, hk⟩, stp⟩ := hr T hT X
  cases hv
  rw [h0] at hz hk
  obtain ⟨t2, a1, b1⟩ := kk T'.heap (locs ++ L) (by rw [e1]; exact hp)
    ⟨Nat.le_trans hS.1 (by rw [e1]; exact hz), fun q h1 h2 => by rw [e1, hk q (Nat.lt_of_lt_of_le h1 hS.1) h2]; exact hS.2.1 q h1 h2, fun q hq => by
      rcases List.mem_append.mp hq with h | h
      · exact hS.2.2 q h
      · exact hL q h⟩ T' rfl X'
  exact ⟨t2, stp t2 a1, b1⟩
theorem tw_callV (C : Cx K cc own) {d : Nat} (hR : RmOk K d) {y : MethodName} {bytes : ByteArray} {maxL n idx : Nat} {ret : Option FieldType} {r : Rf} {As : List Value} {v : Option Value} {σ' : St} (hM : MS K.1 d y bytes maxL ret (rv K r :: As) σ v σ') (hi : MI y bytes maxL ret n) (hin : Cond.instanceMethod y ∈ Tw) (hse : Cond.selects y.cls y y ∈ Tw) (hl : Cond.methodLink own idx y ∈ Tw)
    (hr : r ∈ wcells) (h9 : ak r.1 = 9) (hC : (vwCl[r.1]?).map (·.1) = some y.cls) (hst : st = As.reverse ++ (rv K r :: rest)) (hn : As.length = n) (hW : (rest.map fun v => v.category).sum ≤ 8) (hd : decode cc pc = .ok (.invokevirtual idx, 3)) (kk : TW K (pc + 3) ls (v.toList ++ rest) σ') : TW K pc ls st σ := by
  obtain ⟨G, p, e, R, s, m, args, below, meth, c, cells, slots, nL, Q⟩ := K
  subst hst
  intro H lo hP hS la h
  have h1 := hP.one hr
  rw [ent_obj h9] at h1
  obtain ⟨q, hq, hqc⟩ : ∃ q, vwCl[r.1]? = some q ∧ q.1 = y.cls := by
    cases hv : vwCl[r.1]? with
    | none => rw [hv] at hC; cases hC
    | some q => rw [hv] at hC; exact ⟨q, rfl, Option.some.inj hC⟩
  obtain ⟨cellB, b1, b2, b3⟩ := va_recv C.2.2.2.2.2.1.2.1 h1 (ci := r.1) (q0 := 0) hq rfl
  rw [hqc] at b3
  refine run_go (va_runV (As := As) (rest := rest) ⟨C.1, C.2.1, C.2.2.1, C.2.2.2.1, C.2.2.2.2.1⟩ hM ⟨callB_mi C.2.2.2.2.1 hi hl hR, C.2.2.2.2.1 _ hin, C.2.2.2.2.1 _ hse⟩ ⟨MS.blind, ⟨cellB, b1, b2, b3⟩, fun U hU hW => ⟨rfl, C.2.2.2.2.2.1.next hS hU hW, by rw [hU]; exact hP⟩⟩ rfl hn h.1 rfl (lv_room hW) hd ⟨C.2.2.2.2.2.2.2.1, C.2.2.2.2.2.2.2.2⟩) hS (fun H1 locs1 h2 h3 => kk H1 locs1 h2 h3 la h)
theorem tw_callS (C : Cx K cc own) {d : Nat} (hR : RmOk K d) {y : MethodName} {bytes : ByteArray} {maxL n idx : Nat} {ret : Option FieldType} {As : List Value} {v : Option Value} {σ' : St} (hM : MS K.1 d y bytes maxL ret As σ v σ') (hi : MI y bytes maxL ret n) (hsta : Cond.static y ∈ Tw) (hl : Cond.methodLink own idx y ∈ Tw)
    (hst : st = As.reverse ++ rest) (hn : As.length = n) (hW : (rest.map fun v => v.category).sum ≤ 8) (hd : decode cc pc = .ok (.invokestatic idx, 3)) (kk : TW K (pc + 3) ls (v.toList ++ rest) σ') : TW K pc ls st σ := by
  obtain ⟨G, p, e, R, s, m, args, below, meth, c, cells, slots, nL, Q⟩ := K
  subst hst
  intro H lo hP hS la h
  refine run_go (va_runS (As := As) (rest := rest) ⟨C.1, C.2.1, C.2.2.1, C.2.2.2.1, C.2.2.2.2.1⟩ hM ⟨callB_mi C.2.2.2.2.1 hi hl hR, C.2.2.2.2.1 _ hsta⟩ ⟨MS.blind, fun U hU hW => ⟨rfl, C.2.2.2.2.2.1.next hS hU hW, by rw [hU]; exact hP⟩⟩ rfl hn h.1 rfl (lv_room hW) hd ⟨C.2.2.2.2.2.2.2.1, C.2.2.2.2.2.2.2.2⟩) hS (fun H1 locs1 h2 h3 => kk H1 locs1 h2 h3 la h)
theorem tw_callSN (C : Cx K cc own) {d : Nat} (hR : RmOk K d) {y : MethodName} {bytes : ByteArray} {maxL n idx : Nat} {host : String} {ret : Option FieldType} {As : List Value} {v : Option Value} {σ' : St} (hM : MS K.1 d y bytes maxL ret As σ v σ') (hi : MI y bytes maxL ret n) (hsta : Cond.static y ∈ Tw) (hl : Cond.methodLinkNest own idx y host ∈ nestWs)
    (hst : st = As.reverse ++ rest) (hn : As.length = n) (hW : (rest.map fun v => v.category).sum ≤ 8) (hd : decode cc pc = .ok (.invokestatic idx, 3)) (kk : TW K (pc + 3) ls (v.toList ++ rest) σ') : TW K pc ls st σ := by
  obtain ⟨G, p, e, R, s, m, args, below, meth, c, cells, slots, nL, Q⟩ := K
  subst hst
  intro H lo hP hS la h
  have hR' : d + 1 ≤ R.frames ∧ 40 * d + 40 ≤ R.locals := hR
  refine run_go (va_runSN (As := As) (rest := rest) ⟨C.1, C.2.1, C.2.2.1, C.2.2.2.1, C.2.2.2.2.1⟩ hM ⟨va_cnB n C.2.2.2.2.1 (ws_good hi.1) rfl rfl rfl (C.2.2.2.2.2.1.2.2.1 _ hl) (C.2.2.2.2.1 _ hi.2.1) hi.2.2.2 ⟨hR'.1, by show 8 + (maxL + 11) + 40 * d ≤ R.locals; have := hi.2.2.1; omega⟩, C.2.2.2.2.1 _ hsta, trivial⟩ ⟨MS.blind, fun U hU hW => ⟨rfl, C.2.2.2.2.2.1.next hS hU hW, by rw [hU]; exact hP⟩⟩ rfl hn h.1 rfl (lv_room hW) hd ⟨C.2.2.2.2.2.2.2.1, C.2.2.2.2.2.2.2.2⟩) hS (fun H1 locs1 h2 h3 => kk H1 locs1 h2 h3 la h)
theorem tw_mmax (C : Cx K cc own) {d : Nat} (hR : RmOk K d) {idx : Nat} {x y : Int32} (hl : Cond.methodLink own idx Lib.Math.max.name ∈ Tw) (h1 : Cond.static Lib.Math.max.name ∈ Tw) (h2 : Cond.initialized "java/lang/Math" ∈ Tw) (h3 : Cond.code Lib.Math.max.name Lib.Math.max.code 2 (some .int) ∈ Tw) (hW : (st.map fun v => v.category).sum ≤ 8) (hd : decode cc pc = .ok (.invokestatic idx, 3)) (kk : TW K (pc + 3) ls (.int (mmax x y) :: st) σ) : TW K pc ls (.int y :: .int x :: st) σ := by
  obtain ⟨G, p, e, R, s, m, args, below, meth, c, cells, slots, nL, Q⟩ := K
  have hR' : d + 1 ≤ R.frames ∧ 40 * d + 40 ≤ R.locals := hR
  exact fun H lo hP hS la h => va_mmax C.1 C.2.1 (C.2.2.1.trans h.1.symm) C.2.2.2.1 (C.2.2.2.2.1 _ hl) (C.2.2.2.2.1 _ h1) (C.2.2.2.2.1 _ h2) (C.2.2.2.2.1 _ h3) (by omega) (by omega) C.2.2.2.2.2.2.2.1 C.2.2.2.2.2.2.2.2 hd (kk H lo hP hS la h)
theorem tw_mmin (C : Cx K cc own) {d : Nat} (hR : RmOk K d) {idx : Nat} {x y : Int32} (hl : Cond.methodLink own idx Lib.Math.min.name ∈ Tw) (h1 : Cond.static Lib.Math.min.name ∈ Tw) (h2 : Cond.initialized "java/lang/Math" ∈ Tw) (h3 : Cond.code Lib.Math.min.name Lib.Math.min.code 2 (some .int) ∈ Tw) (hW : (st.map fun v => v.category).sum ≤ 8) (hd : decode cc pc = .ok (.invokestatic idx, 3)) (kk : TW K (pc + 3) ls (.int (mmin x y) :: st) σ) : TW K pc ls (.int y :: .int x :: st) σ := by
  obtain ⟨G, p, e, R, s, m, args, below, meth, c, cells, slots, nL, Q⟩ := K
  have hR' : d + 1 ≤ R.frames ∧ 40 * d + 40 ≤ R.locals := hR
  exact fun H lo hP hS la h => va_mmin C.1 C.2.1 (C.2.2.1.trans h.1.symm) C.2.2.2.1 (C.2.2.2.2.1 _ hl) (C.2.2.2.2.1 _ h1) (C.2.2.2.2.1 _ h2) (C.2.2.2.2.1 _ h3) (by omega) (by omega) C.2.2.2.2.2.2.2.1 C.2.2.2.2.2.2.2.2 hd (kk H lo hP hS la h)
theorem tw_acp (C : Cx K cc own) {d : Nat} (hR : RmOk K d) {idx : Nat} {r q : Rf} {sp dp n : Int32} (hok : acpOk r sp q dp n = true) (hl : Cond.methodLink own idx arraycopyName ∈ Tw) (h1 : Cond.native arraycopyName ∈ Tw) (h2 : Cond.static arraycopyName ∈ Tw) (h3 : Cond.initialized "java/lang/System" ∈ Tw) (hW : (st.map fun v => v.category).sum ≤ 8) (hd : decode cc pc = .ok (.invokestatic idx, 3)) (kk : TW K (pc + 3) ls st (acp σ r sp q dp n)) : TW K pc ls (.int n :: .int dp :: rv K q :: .int sp :: rv K r :: st) σ := by
  obtain ⟨G, p, e, R, s, m, args, below, meth, c, cells, slots, nL, Q⟩ := K
  have hR' : d + 1 ≤ R.frames ∧ 40 * d + 40 ≤ R.locals := hR
  have hnw : nativeFrameWords "java/lang/System" "arraycopy" 5 ≤ 20 := by decide
  simp only [acpOk, isWA, isIA, Bool.and_eq_true, Bool.not_eq_true', decide_eq_false_iff_not, decide_eq_true_eq] at hok
  obtain ⟨⟨hr0, hr1⟩, ⟨⟨hq0, hq1⟩, hq2⟩, g1, g2, g3, g4, g5⟩ := hok
  intro H lo hP hS la h
  obtain ⟨z, hz⟩ := wcells_place (wcells_mem (f := q.1) (j := q.2) hq2 hq1)
  have hq3 : ak q.1 < 3 := by omega
  have fin : ∀ (f : Nat → Int32), (∀ i, i < tn sp + tn n → f i = σ r i) → ∀ (H1 : Heap) (locs1 : List Loc), va_P (G.2.2.2.1, G.2.2.2.2.1) vwCl ((wsO G.2.1 G.2.2.1 σ).set z (G.2.1 q, .inl (G.2.2.1 0, alen q.1, .inl (va_cpy f (σ q) (tn sp) (tn dp) (tn n))))) H1 → va_D G.2.2.2.2.2 ((wsO G.2.1 G.2.2.1 σ).set z (G.2.1 q, .inl (G.2.2.1 0, alen q.1, .inl (va_cpy f (σ q) (tn sp) (tn dp) (tn n))))) → va_S G.2.2.2.2.2 s.heap H1 locs1 → W p G.1 e R s m args below meth c H1 locs1 cells slots Q (F0 m (pc + 3) la st) := by
    intro f hf H1 locs1 k1 _ k3
    refine kk H1 locs1 (Rep.row hz hq3 ?_ hP.2) k3 la h
    rw [hq0]
    have e1 : va_cpy (σ r) (σ q) (tn sp) (tn dp) (tn n) = va_cpy f (σ q) (tn sp) (tn dp) (tn n) := by
      funext i
      unfold va_cpy
      by_cases hi : tn dp ≤ i ∧ i < tn dp + tn n
      · rw [if_pos hi, if_pos hi, hf _ (by omega)]
      · rw [if_neg hi, if_neg hi]
    rw [e1]
    exact k1
  by_cases hf : r.1 < 56
  · obtain ⟨z0, hz0⟩ := wcells_place (wcells_mem (f := r.1) (j := r.2) hf hr1)
    have hr3 : ak r.1 < 3 := by omega
    exact va_copyi C.1 C.2.1 (C.2.2.1.trans h.1.symm) C.2.2.2.1 (C.2.2.2.2.1 _ hl) (C.2.2.2.2.1 _ h1) (C.2.2.2.2.1 _ h2) (C.2.2.2.2.1 _ h3) C.2.2.2.2.2.1.2.1 hP.1 (C.2.2.2.2.2.1.1.D σ) hS z0 z 0 0 (c0 := G.2.2.1 0) (c1 := G.2.2.1 0) (n0 := alen r.1) (n1 := alen q.1) (f := σ r) (g := σ q) (ty := .int) (by rw [wsO_of hz0, ent_int hr3, hr0]) (by rw [wsO_of hz, ent_int hq3, hq0]) rfl rfl rfl g1 g2 g3 g4 g5 (fun _ _ => rfl) (by omega) (by omega) hd (fin (σ r) (fun _ _ => rfl))
  · obtain ⟨f, j⟩ := r
    have hf' := ia_wp hr0 hr1 hf
    obtain ⟨rfl, rfl⟩ := hf'
    exact va_copyx C.1 C.2.1 (C.2.2.1.trans h.1.symm) C.2.2.2.1 (C.2.2.2.2.1 _ hl) (C.2.2.2.2.1 _ h1) (C.2.2.2.2.1 _ h2) (C.2.2.2.2.1 _ h3) C.2.2.2.2.2.1.2.1 hP.1 (C.2.2.2.2.2.1.1.D σ) hS C.2.2.2.2.2.1.2.2.2.2.1 C.2.2.2.2.2.1.2.2.2.2.2.1 C.2.2.2.2.2.1.2.2.2.2.2.2 z 0 (c1 := G.2.2.1 0) (n1 := alen q.1) (g := σ q) (by rw [wsO_of hz, ent_int hq3, hq0]) rfl g1 g2 g3 g4 g5 (by omega) (by omega) hd (fin wpf (fun i hi => (hP.2 i (Nat.lt_of_lt_of_le hi g4)).symm))
end TWs
