/-! ===== a code's text ===== -/
theorem su_su (σ : St) (r : Rf) (i : Nat) (a b : Int32) : su (su σ r i a) r i b = su σ r i b := by
  funext r' k
  simp only [su_app]
  by_cases h : r' = r ∧ k = i <;> simp [h]
theorem su_comm (σ : St) {r r' : Rf} {i i' : Nat} (a b : Int32) (h : ¬ (r = r' ∧ i = i')) : su (su σ r i a) r' i' b = su (su σ r' i' b) r i a := by
  funext q k
  simp only [su_app]
  by_cases h1 : q = r' ∧ k = i'
  · obtain ⟨rfl, rfl⟩ := h1
    have : ¬ (q = r ∧ k = i) := fun e => h ⟨e.1.symm, e.2.symm⟩
    simp [this]
  · simp [h1]
/-- the figure at a place -/
def fig (n : Nat) (t : Nat → Nat) (p : Nat) : Option Nat := if p < n ∧ 48 ≤ t p ∧ t p ≤ 57 then some (t p - 48) else none
def fgI (x : Option Nat) : Int32 := match x with
  | none => -1
  | some d => nI d
theorem fig_lt {n : Nat} {t : Nat → Nat} {p d : Nat} (h : fig n t p = some d) : d < 10 ∧ p < n := by
  unfold fig at h
  by_cases c : p < n ∧ 48 ≤ t p ∧ t p ≤ 57
  · rw [if_pos c] at h
    have := Option.some.inj h
    omega
  · rw [if_neg c] at h
    cases h
def XT (σ : St) (j n : Nat) (t : Nat → Nat) : Prop := n ≤ 80 ∧ σ (1, j) 3 = nI n ∧ ∀ i, i < n → t i < 256 ∧ σ (10, j) i = nI (t i)
theorem nI_ne_m1 {d : Nat} (h : d < 2 ^ 31) : ¬ nI d = -1 := by
  intro e
  have := congrArg Int32.toInt e
  rw [nI_toInt h, show (-1 : Int32).toInt = -1 from rfl] at this
  omega
theorem x_fig {σ : St} {j n : Nat} {t : Nat → Nat} (h : XT σ j n t) {p : Nat} (hp : p < 2 ^ 31) : fX1_figureAt σ j (nI p) = some (fgI (fig n t p)) := by
  obtain ⟨hn, e1, e2⟩ := h
  unfold fX1_figureAt fig
  rw [e1]
  simp only [nI_pos hp, if_false, leI (show n < 2 ^ 31 by omega) hp]
  by_cases c1 : n ≤ p
  · have : ¬ (p < n ∧ 48 ≤ t p ∧ t p ≤ 57) := by omega
    simp only [c1, if_true, this, if_false, fgI]
  · obtain ⟨h1, h2⟩ := e2 p (by omega)
    have c2 : inb (nI p) 80 = true := by rw [inb_nI hp]; simp; omega
    simp only [c1, if_false, c2, grd_t, tn_nI hp, h2, show (48 : Int32) = nI 48 from rfl, show (57 : Int32) = nI 57 from rfl, ltI (show t p < 2 ^ 31 by omega) (show 48 < 2 ^ 31 by decide), leI (show t p < 2 ^ 31 by omega) (show 57 < 2 ^ 31 by decide)]
    by_cases c3 : t p < 48
    · have : ¬ (p < n ∧ 48 ≤ t p ∧ t p ≤ 57) := by omega
      simp only [c3, if_true, this, if_false, fgI]
    · by_cases c4 : t p ≤ 57
      · have : p < n ∧ 48 ≤ t p ∧ t p ≤ 57 := by omega
        simp only [c3, c4, if_true, if_false, this, and_self, fgI, pk_sub (show 48 ≤ t p by omega)]
      · have : ¬ (p < n ∧ 48 ≤ t p ∧ t p ≤ 57) := by omega
        rw [if_neg c3, if_neg c4, if_neg this]
        rfl
/-- what a part does: cells of an act are let or not; an item becomes a number -/
abbrev Eff : Type := (Nat × Nat × Nat × Bool) ⊕ (Nat × Nat)
/-- a part from place p on: the fault, or the place behind it and what it does -/
def rpC (n : Nat) (t : Nat → Nat) (p : Nat) (b : Bool) : Nat ⊕ (Nat × Eff) := match fig n t (p + 1) with
  | none => .inl (p + 1)
  | some act => match fig n t (p + 2) with
    | none => .inr (p + 2, .inl (act, 0, 6, b))
    | some x => if 6 < x then .inl (p + 2) else if p + 3 < n ∧ t (p + 3) = 45 then (match fig n t (p + 4) with
        | none => .inl (p + 4)
        | some y => if y < x ∨ 6 < y then .inl (p + 4) else .inr (p + 5, .inl (act, x, y, b))) else .inl (p + 3)
def rpF (n : Nat) (t : Nat → Nat) (p item most : Nat) : Nat ⊕ (Nat × Eff) := match fig n t p with
  | none => .inl p
  | some v => if v ≤ most then .inr (p + 1, .inr (item, v)) else .inl p
def rpG (n : Nat) (t : Nat → Nat) (p : Nat) : Nat ⊕ (Nat × Eff) := match fig n t (p + 1) with
  | none => .inl (p + 1)
  | some act => if act = 4 ∨ act = 8 ∨ act = 9 then (if p + 2 < n ∧ t (p + 2) = 61 then rpF n t (p + 3) (if act = 4 then 10 else act + 3) 9 else .inl (p + 2)) else .inl (p + 1)
def rpN (n : Nat) (t : Nat → Nat) (p item least : Nat) : Nat ⊕ (Nat × Eff) := match fig n t p with
  | none => .inl p
  | some d => match fig n t (p + 1) with
    | none => if least ≤ d then .inr (p + 1, .inr (item, d)) else .inl p
    | some d2 => if least ≤ 10 * d + d2 then .inr (p + 2, .inr (item, 10 * d + d2)) else .inl p
def rp (n : Nat) (t : Nat → Nat) (p : Nat) : Nat ⊕ (Nat × Eff) :=
  if p < n then
    if t p = 97 then rpF n t (p + 1) 13 2
    else if t p = 101 then rpN n t (p + 1) 15 0
    else if t p = 103 then rpG n t p
    else if t p = 107 then rpF n t (p + 1) 14 2
    else if t p = 110 then rpC n t p false
    else if t p = 116 then rpN n t (p + 1) 16 1
    else if t p = 121 then rpC n t p true
    else .inl p
  else .inl p
/-- the bits of cells x to y -/
def msk (x y : Nat) : Int32 := ((2 : Int32) <<< (nI y &&& 31)) - ((1 : Int32) <<< (nI x &&& 31))
def bitop (b : Bool) (v m : Int32) : Int32 := if b = true then v ||| m else v &&& (m ^^^ (-1))
/-- what a part does to a row of items, to the row of parts' numbers by act and cell -/
def effI (e : Eff) (it : Nat → Int32) : Nat → Int32 := match e with
  | .inl (act, x, y, b) => upd it act (bitop b (it act) (msk x y))
  | .inr (item, v) => upd it item (nI v)
def effS (e : Eff) (k : Nat) (sd : Nat → Int32) : Nat → Int32 := match e with
  | .inl (act, x, y, _) => fun q => if act * 7 + x ≤ q ∧ q < act * 7 + (y + 1) then nI k else sd q
  | .inr _ => sd
theorem bit_step (b : Bool) (v : Int32) : ∀ x, x < 7 → ∀ i, i < 7 → x + i < 7 → (if b = true then bitop b v (if i = 0 then 0 else msk x (x + i - 1)) ||| ((1 : Int32) <<< (nI (x + i) &&& 31)) else bitop b v (if i = 0 then 0 else msk x (x + i - 1)) &&& (((1 : Int32) <<< (nI (x + i) &&& 31)) ^^^ (-1))) = bitop b v (msk x (x + i)) := by
  intro x hx i hi hxi
  cases b with
  | true =>
    have h : ∀ x, x < 7 → ∀ i, i < 7 → x + i < 7 → (if i = 0 then 0 else msk x (x + i - 1)) ||| ((1 : Int32) <<< (nI (x + i) &&& 31)) = msk x (x + i) := by decide +kernel
    simp only [bitop, if_true]
    rw [Int32.or_assoc, h x hx i hi hxi]
  | false =>
    have h : ∀ x, x < 7 → ∀ i, i < 7 → x + i < 7 → ((if i = 0 then 0 else msk x (x + i - 1)) ^^^ (-1)) &&& (((1 : Int32) <<< (nI (x + i) &&& 31)) ^^^ (-1)) = msk x (x + i) ^^^ (-1) := by decide +kernel
    simp only [bitop, Bool.false_eq_true, if_false]
    rw [Int32.and_assoc, h x hx i hi hxi]
theorem bit_0 (b : Bool) (v : Int32) : bitop b v 0 = v := by
  cases b with
  | true => simp [bitop]
  | false => simp only [bitop, Bool.false_eq_true, if_false]; rw [show (0 : Int32) ^^^ (-1) = -1 by decide]; exact Int32.and_neg_one
