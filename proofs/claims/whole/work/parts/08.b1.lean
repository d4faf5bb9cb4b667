/-! ===== numbers ===== -/
theorem tn_eq (a : Int32) : tn a = a.toInt.toNat := rfl
theorem inb_iff {a : Int32} {n : Nat} : inb a n = true ↔ 0 ≤ a.toInt ∧ a.toInt < (n : Int) := by
  simp only [inb, Bool.and_eq_true, Bool.not_eq_true', decide_eq_false_iff_not, decide_eq_true_eq, Int32.lt_iff_toInt_lt]
  rw [show a.toNatClampNeg = a.toInt.toNat from rfl, show (0 : Int32).toInt = 0 from rfl]
  omega
theorem inb_nI {j n : Nat} (hj : j < 2 ^ 31) : inb (nI j) n = decide (j < n) := by
  rw [Bool.eq_iff_iff, inb_iff, nI_toInt hj]
  simp
theorem inb_ex {a : Int32} {n : Nat} (hn : n < 2 ^ 31) (h : inb a n = true) : ∃ j, j < n ∧ a = nI j := by
  rw [inb_iff] at h
  refine ⟨a.toInt.toNat, by omega, ?_⟩
  apply Int32.toInt_inj.mp
  rw [nI_toInt (by omega)]
  omega
theorem tn_nI {j : Nat} (hj : j < 2 ^ 31) : tn (nI j) = j := nI_clamp hj
theorem nI_lit (n : Nat) : nI n = Int32.ofNat n := rfl
theorem grd_t {β : Type} {k : Option β} : grd true k = k := rfl
theorem grd_f {β : Type} {k : Option β} : grd false k = none := rfl
theorem obi_s {α β : Type} {a : α} {k : α → Option β} : obi (some a) k = k a := rfl
theorem bj_sl {β τ : Type} {b : β} {k : τ → Option β} : bj (some (.inl b)) k = some b := rfl
theorem bj_sr {β τ : Type} {t : τ} {k : τ → Option β} : bj (some (.inr t)) k = k t := rfl
theorem bjp_sl {β τ : Type} {b : β} {k : τ → β} : bjp (.inl b) k = b := rfl
theorem bjp_sr {β τ : Type} {t : τ} {k : τ → β} : bjp (.inr t) k = k t := rfl
theorem su_app (σ : St) (r r' : Rf) (i k : Nat) (v : Int32) : su σ r i v r' k = if r' = r ∧ k = i then v else σ r' k := by
  unfold su sr
  by_cases e : r' = r
  · subst e
    by_cases e2 : k = i <;> simp [upd, e2]
  · simp [e]
theorem su_hit (σ : St) (r : Rf) (i : Nat) (v : Int32) : su σ r i v r i = v := by simp [su_app]
theorem su_ref (σ : St) {r r' : Rf} (i k : Nat) (v : Int32) (h : ¬ r' = r) : su σ r i v r' k = σ r' k := by simp [su_app, h]
theorem su_slot (σ : St) (r r' : Rf) {i k : Nat} (v : Int32) (h : ¬ k = i) : su σ r i v r' k = σ r' k := by simp [su_app, h]
/-! ===== ranges, on both sides ===== -/
theorem i32_le {a b : Int32} : a ≤ b ↔ a.toInt ≤ b.toInt := Int32.le_iff_toInt_le
theorem i32_lt {a b : Int32} : a < b ↔ a.toInt < b.toInt := Int32.lt_iff_toInt_lt
theorem rX (a : Int32) (n : Nat) (c : Int32) (hc : c.toInt = (n : Int)) : (if a < 0 then false else if c ≤ a then false else true) = inb a n := by
  rw [Bool.eq_iff_iff, inb_iff]
  simp only [i32_le, i32_lt, show (0 : Int32).toInt = 0 from rfl, hc]
  split
  · simp; omega
  · split
    · simp; omega
    · simp; omega
theorem rM (a : Int32) (n : Nat) (c : Int32) (hc : c.toInt + 1 = (n : Int)) : fX9_in a 0 c = inb a n := by
  unfold fX9_in
  rw [Bool.eq_iff_iff, inb_iff]
  simp only [i32_lt, show (0 : Int32).toInt = 0 from rfl]
  split
  · simp; omega
  · split
    · simp; omega
    · simp; omega
theorem x_isCode (a : Int32) : fX8_isCode a = inb a 11 := rX a 11 11 (by decide)
theorem x_isItem (a : Int32) : fX8_isItem a = inb a 17 := rX a 17 17 (by decide)
theorem x_isItemSet (a : Int32) : fX8_isItemSet a = inb a 131072 := rX a 131072 131072 (by decide)
theorem x_isAct (a : Int32) : fX8_isAct a = inb a 10 := rX a 10 10 (by decide)
theorem x_isCell (a : Int32) : fX8_isCell a = inb a 7 := rX a 7 7 (by decide)
theorem x_isPW (a : Int32) : fX8_isPlayedWhat a = inb a 9 := rX a 9 9 (by decide)
theorem x_isSheet (a : Int32) : fX8_isSheet a = inb a 4 := rX a 4 4 (by decide)
theorem x_isType (a : Int32) : fX8_isType a = inb a 3 := rX a 3 3 (by decide)
theorem x_isSeen (a : Int32) : fX8_isSeen a = inb a 40 := rX a 40 40 (by decide)
theorem x_isWay (a : Int32) : fX8_isWay a = inb a 100 := by
  unfold fX8_isWay
  rw [Bool.eq_iff_iff, inb_iff]
  simp only [i32_lt, show (0 : Int32).toInt = 0 from rfl, show (99 : Int32).toInt = 99 from rfl]
  split
  · simp; omega
  · split
    · simp; omega
    · simp; omega
theorem m_isCode (a : Int32) : fX9_isCode a = inb a 11 := rM a 11 10 (by decide)
theorem m_isSheet (a : Int32) : fX9_isSheet a = inb a 4 := rM a 4 3 (by decide)
/-! ===== what holds between class and reference ===== -/
/-- numbers of matches, clubs, the rule, the finding -/
def Ib (σ : St) : Prop := ∃ nm nc a b q : Nat, nm ≤ 12 ∧ nc ≤ 12 ∧ 1 ≤ a ∧ a ≤ b ∧ b ≤ 9 ∧ q ≤ 12 ∧
  σ (8, 0) 10 = nI nm ∧ σ (9, 0) 15 = nI nm ∧ σ (8, 0) 11 = nI nc ∧ σ (9, 0) 28 = nI nc ∧ σ (8, 0) 12 = nI a ∧ σ (9, 0) 33 = nI a ∧ σ (8, 0) 13 = nI b ∧ σ (9, 0) 34 = nI b ∧ σ (8, 0) 14 = nI q ∧ σ (9, 0) 35 = nI q ∧ σ (8, 0) 15 = σ (9, 0) 44
/-- a club's code, items, membership -/
def Ic (σ : St) : Prop := ∀ c, c < 12 → ∃ k h m : Nat, k < 11 ∧ h < 131072 ∧ m < 2 ∧ σ (0, c) 0 = nI k ∧ σ (44, 0) c = nI k ∧ σ (0, c) 1 = nI h ∧ σ (45, 0) c = nI h ∧ σ (0, c) 2 = nI m ∧ σ (46, 0) c = nI m ∧ (∀ nc, σ (8, 0) 11 = nI nc → nc ≤ 12 → nc ≤ c → m = 0)
def Il (σ : St) : Prop := ∀ k, k < 17 → σ (27, 0) k = σ (47, 0) k
def Iw (σ : St) : Prop := ∀ a b, a < 12 → b < 12 → ¬ a = b → ∃ w : Nat, w ≤ 99 ∧ σ (21, 0) (a * 12 + b) = nI w ∧ σ (48, 0) (12 * a + b) = nI w
def Is (σ : St) : Prop := ∀ s, s < 4 → ∃ l t n : Nat, l < 2 ∧ t < 3 ∧ n ≤ 60 ∧ σ (6, s) 1 = nI l ∧ σ (51, 0) s = nI (1 - l) ∧ σ (6, s) 2 = nI t ∧ σ (52, 0) s = nI t ∧ σ (6, s) 3 = nI n ∧ σ (53, 0) s = nI n ∧ ∀ i, i < 60 → σ (20, s) i = σ (54, 0) (60 * s + i)
def mv (v : Int32) : Int32 := if inb v 40 = true then v else -1
def Im (σ : St) : Prop := ∀ m, m < 12 → ∃ n t : Nat, n ≤ 40 ∧ t < 2 ∧ σ (3, m) 2 = nI n ∧ σ (36, 0) m = nI n ∧ σ (3, m) 3 = nI t ∧ σ (39, 0) m = nI t ∧ (∀ k, k < n → σ (37, 0) (40 * m + k) = mv (σ (13, m) k) ∧ σ (38, 0) (40 * m + k) = σ (14, m) k) ∧ (∀ k, k < 40 → σ (14, m) k = -1 ∨ σ (14, m) k = 0 ∨ σ (14, m) k = 1) ∧
  (∀ nm, σ (8, 0) 10 = nI nm → nm ≤ 12 → nm ≤ m → t = 0 ∧ ∀ k, k < 40 → σ (14, m) k = -1)
/-- a piece that hangs on the named slots and families alone goes over what doesn't touch them -/
def dep (D : List Nat) (P : St → Prop) : Prop := ∀ σ σ' : St, (∀ (r : Rf) (k : Nat), cod r k ∈ D → σ' r k = σ r k) → P σ → P σ'
theorem dep.mv {D L : List Nat} {P : St → Prop} {σ σ' : St} (h : dep D P) (hm : modi L σ σ') (hd : ∀ x ∈ D, ¬ x ∈ L) (hP : P σ) : P σ' := h σ σ' (fun r k hr => hm r k (hd _ hr)) hP
theorem cod_o {f j k : Nat} (h : f < 10) : cod (f, j) k = 1000 + 100 * f + k := if_pos h
theorem cod_a {f j k : Nat} (h : ¬ f < 10) : cod (f, j) k = f := if_neg h
abbrev dIb : List Nat := [1810, 1811, 1812, 1813, 1814, 1815, 1915, 1928, 1933, 1934, 1935, 1944]
abbrev dIc : List Nat := [1000, 1001, 1002, 44, 45, 46, 1811]
abbrev dIl : List Nat := [27, 47]
abbrev dIw : List Nat := [21, 48]
abbrev dIs : List Nat := [1601, 1602, 1603, 51, 52, 53, 20, 54]
abbrev dIm : List Nat := [1302, 1303, 36, 39, 37, 38, 13, 14, 1810]
theorem dep_Ib : dep dIb Ib := by
  intro σ σ' h ⟨nm, nc, a, b, q, h1, h2, h3, h4, h5, h6, e1, e2, e3, e4, e5, e6, e7, e8, e9, e10, e11⟩
  refine ⟨nm, nc, a, b, q, h1, h2, h3, h4, h5, h6, ?_⟩
  simp only [h (8, 0) 10 (by decide), h (9, 0) 15 (by decide), h (8, 0) 11 (by decide), h (9, 0) 28 (by decide), h (8, 0) 12 (by decide), h (9, 0) 33 (by decide), h (8, 0) 13 (by decide), h (9, 0) 34 (by decide), h (8, 0) 14 (by decide), h (9, 0) 35 (by decide), h (8, 0) 15 (by decide), h (9, 0) 44 (by decide)]
  exact ⟨e1, e2, e3, e4, e5, e6, e7, e8, e9, e10, e11⟩
theorem dep_Ic : dep dIc Ic := by
  intro σ σ' h hI c hc
  have g : ∀ (f j k : Nat), f < 10 → 1000 + 100 * f + k ∈ dIc → σ' (f, j) k = σ (f, j) k := fun f j k hf hm => h (f, j) k (by rw [cod_o hf]; exact hm)
  have g2 : ∀ (f k : Nat), ¬ f < 10 → f ∈ dIc → σ' (f, 0) k = σ (f, 0) k := fun f k hf hm => h (f, 0) k (by rw [cod_a hf]; exact hm)
  simp only [g 0 c 0 (by decide) (by decide), g 0 c 1 (by decide) (by decide), g 0 c 2 (by decide) (by decide), g 8 0 11 (by decide) (by decide), g2 44 c (by decide) (by decide), g2 45 c (by decide) (by decide), g2 46 c (by decide) (by decide)]
  exact hI c hc
theorem dep_Il : dep dIl Il := by
  intro σ σ' h hI k hk
  rw [h (27, 0) k (by rw [cod_a (by decide)]; decide), h (47, 0) k (by rw [cod_a (by decide)]; decide)]
  exact hI k hk
theorem dep_Iw : dep dIw Iw := by
  intro σ σ' h hI a b ha hb hne
  rw [h (21, 0) _ (by rw [cod_a (by decide)]; decide), h (48, 0) _ (by rw [cod_a (by decide)]; decide)]
  exact hI a b ha hb hne
theorem dep_Is : dep dIs Is := by
  intro σ σ' h hI s hs
  have g : ∀ (f j k : Nat), f < 10 → 1000 + 100 * f + k ∈ dIs → σ' (f, j) k = σ (f, j) k := fun f j k hf hm => h (f, j) k (by rw [cod_o hf]; exact hm)
  have g2 : ∀ (f j k : Nat), ¬ f < 10 → f ∈ dIs → σ' (f, j) k = σ (f, j) k := fun f j k hf hm => h (f, j) k (by rw [cod_a hf]; exact hm)
  obtain ⟨l, t, n, h1, h2, h3, e1, e2, e3, e4, e5, e6, e7⟩ := hI s hs
  refine ⟨l, t, n, h1, h2, h3, ?_⟩
  simp only [g 6 s 1 (by decide) (by decide), g 6 s 2 (by decide) (by decide), g 6 s 3 (by decide) (by decide), fun j k => g2 51 j k (by decide) (by decide), fun j k => g2 52 j k (by decide) (by decide), fun j k => g2 53 j k (by decide) (by decide), fun j k => g2 20 j k (by decide) (by decide), fun j k => g2 54 j k (by decide) (by decide)]
  exact ⟨e1, e2, e3, e4, e5, e6, e7⟩
theorem dep_Im : dep dIm Im := by
  intro σ σ' h hI m hm
  have g : ∀ (f j k : Nat), f < 10 → 1000 + 100 * f + k ∈ dIm → σ' (f, j) k = σ (f, j) k := fun f j k hf hm => h (f, j) k (by rw [cod_o hf]; exact hm)
  have g2 : ∀ (f j k : Nat), ¬ f < 10 → f ∈ dIm → σ' (f, j) k = σ (f, j) k := fun f j k hf hm => h (f, j) k (by rw [cod_a hf]; exact hm)
  obtain ⟨n, t, h1, h2, h3⟩ := hI m hm
  refine ⟨n, t, h1, h2, ?_⟩
  simp only [g 3 m 2 (by decide) (by decide), g 3 m 3 (by decide) (by decide), g 8 0 10 (by decide) (by decide), fun j k => g2 36 j k (by decide) (by decide), fun j k => g2 39 j k (by decide) (by decide), fun j k => g2 37 j k (by decide) (by decide), fun j k => g2 38 j k (by decide) (by decide), fun j k => g2 13 j k (by decide) (by decide), fun j k => g2 14 j k (by decide) (by decide)]
  exact h3
