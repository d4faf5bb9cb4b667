def mfr (j : Nat) (σ σ' : St) : Prop := ∀ (r : Rf) (k : Nat), ¬ (r = (9, 0) ∧ (k = 7 ∨ k = 8)) → ¬ (r = (33, 0) ∧ 17 * j ≤ k ∧ k < 17 * j + 17) → ¬ (r = (34, 0) ∧ 28 * j ≤ k ∧ k < 28 * j + 28) → σ' r k = σ r k
theorem mfr.rf (j : Nat) (σ : St) : mfr j σ σ := fun _ _ _ _ _ => rfl
theorem mfr.st {j : Nat} {σ σ' : St} (h : mfr j σ σ') {r : Rf} {i : Nat} {v : Int32} (hr : (r = (9, 0) ∧ (i = 7 ∨ i = 8)) ∨ (r = (33, 0) ∧ 17 * j ≤ i ∧ i < 17 * j + 17) ∨ (r = (34, 0) ∧ 28 * j ≤ i ∧ i < 28 * j + 28)) : mfr j σ (su σ' r i v) := by
  intro r' k h1 h2 h3
  rw [su_app, if_neg ?_]
  · exact h r' k h1 h2 h3
  · rintro ⟨rfl, rfl⟩
    rcases hr with c | c | c
    · exact h1 c
    · exact h2 c
    · exact h3 c
theorem mfr.s7 {j : Nat} {σ σ' : St} (h : mfr j σ σ') (v : Int32) : mfr j σ (su σ' (9, 0) 7 v) := h.st (Or.inl ⟨rfl, Or.inl rfl⟩)
theorem mfr.s8 {j : Nat} {σ σ' : St} (h : mfr j σ σ') (v : Int32) : mfr j σ (su σ' (9, 0) 8 v) := h.st (Or.inl ⟨rfl, Or.inr rfl⟩)
theorem mfr.s33 {j : Nat} {σ σ' : St} (h : mfr j σ σ') {k : Nat} (hk : k < 17) (v : Int32) : mfr j σ (su σ' (33, 0) (17 * j + k) v) := h.st (Or.inr (Or.inl ⟨rfl, by omega, by omega⟩))
theorem mfr.s34 {j : Nat} {σ σ' : St} (h : mfr j σ σ') {k : Nat} (hk : k < 28) (v : Int32) : mfr j σ (su σ' (34, 0) (28 * j + k) v) := h.st (Or.inr (Or.inr ⟨rfl, by omega, by omega⟩))
theorem mfr.tr {j : Nat} {σ σ' σ'' : St} (h : mfr j σ σ') (h' : mfr j σ' σ'') : mfr j σ σ'' := fun r k h1 h2 h3 => (h' r k h1 h2 h3).trans (h r k h1 h2 h3)
theorem MT.fr {σ σ' : St} {j n : Nat} {t : Nat → Nat} (h : MT σ j n t) (hf : mfr j σ σ') : MT σ' j n t := by
  obtain ⟨h1, h2, h3, h4, h5⟩ := h
  refine ⟨h1, h2, ?_, ?_, fun i hi => ⟨(h5 i hi).1, ?_⟩⟩
  · rw [hf _ _ (by simp) (by simp) (by simp), h3]
  · rw [hf _ _ (by simp) (by simp) (by simp), h4]
  · rw [hf _ _ (by simp) (by simp) (by simp), (h5 i hi).2]
theorem bn_eq {σ : St} {j n : Nat} {t : Nat → Nat} (hm : MT σ j n t) (p : Nat) {c : Nat} (hc : c < 2 ^ 31) : (bn n t p = nI c) = (p < n ∧ t p = c) := by
  unfold bn
  by_cases c2 : p < n
  · have := (hm.2.2.2.2 p c2).1
    rw [if_pos c2, eqI (by omega) hc]
    simp [c2]
  · rw [if_neg c2]
    have : ¬ (-1 : Int32) = nI c := fun e => nI_ne_m1 hc e.symm
    simp [c2, this]
theorem inN {v lo hi : Nat} (h1 : v < 2 ^ 31) (h2 : lo < 2 ^ 31) (h3 : hi < 2 ^ 31) : (fX9_in (nI v) (nI lo) (nI hi) = true) = (lo ≤ v ∧ v ≤ hi) := by
  unfold fX9_in
  simp only [ltI h1 h2, ltI h3 h1]
  by_cases c1 : v < lo
  · have : ¬ (lo ≤ v ∧ v ≤ hi) := by omega
    simp [c1, this]
  · by_cases c2 : hi < v
    · have : ¬ (lo ≤ v ∧ v ≤ hi) := by omega
      simp [c1, c2, this]
    · have : (lo ≤ v ∧ v ≤ hi) := by omega
      simp [c1, c2, this]
def rcl (n : Nat) (t : Nat → Nat) (p : Nat) : Nat ⊕ (Nat × Nat × Nat) := match fig n t p with
  | none => .inr (p, 0, 6)
  | some x => if 6 < x then .inl p else if p + 1 < n ∧ t (p + 1) = 45 then (match fig n t (p + 2) with
      | none => .inl (p + 2)
      | some y => if y < x ∨ 6 < y then .inl (p + 2) else .inr (p + 3, x, y)) else .inl (p + 1)
def rcC (act : Nat) (b : Bool) (o : Nat ⊕ (Nat × Nat × Nat)) : Nat ⊕ (Nat × Eff) := match o with
  | .inl q => .inl q
  | .inr (p', x, y) => .inr (p', .inl (act, x, y, b))
theorem rpC_eq (n : Nat) (t : Nat → Nat) (p : Nat) (b : Bool) : rpC n t p b = (match fig n t (p + 1) with
    | none => .inl (p + 1)
    | some act => rcC act b (rcl n t (p + 2))) := by
  unfold rpC rcl
  cases fig n t (p + 1) with
  | none => rfl
  | some act =>
    simp only
    cases fig n t (p + 2) with
    | none => rfl
    | some x =>
      simp only
      by_cases c : 6 < x
      · rw [if_pos c, if_pos c]; rfl
      · rw [if_neg c, if_neg c]
        by_cases c2 : p + 3 < n ∧ t (p + 3) = 45
        · rw [if_pos c2, if_pos (show p + 2 + 1 < n ∧ t (p + 2 + 1) = 45 from c2)]
          show _ = rcC act b (match fig n t (p + 4) with
            | none => .inl (p + 4)
            | some y => if y < x ∨ 6 < y then .inl (p + 4) else .inr (p + 5, x, y))
          cases fig n t (p + 4) with
          | none => rfl
          | some y =>
            simp only
            by_cases c3 : y < x ∨ 6 < y
            · rw [if_pos c3, if_pos c3]; rfl
            · rw [if_neg c3, if_neg c3]; rfl
        · rw [if_neg c2, if_neg (show ¬ (p + 2 + 1 < n ∧ t (p + 2 + 1) = 45) from c2)]; rfl
theorem m_fig1 {σ : St} {j n p : Nat} {t : Nat → Nat} (h : MT σ j n t) (hp : p < 900) (ha : σ (9, 0) 7 = nI p) (hf8 : σ (9, 0) 8 = -1) (lo hi : Int32) : fX9_figures σ 1 lo hi = (match fig n t p with
    | none => some (0, su σ (9, 0) 8 (nI p))
    | some v => if fX9_in (nI v) lo hi = true then some (nI v, su σ (9, 0) 7 (nI (p + 1))) else some (nI v, su (su σ (9, 0) 7 (nI (p + 1))) (9, 0) 8 (nI p))) := by
  have := m_fig h hp ha hf8 (w := 1) (Or.inl rfl) lo hi
  rw [show (1 : Int32) = nI 1 from rfl, this]
  unfold fgs
  cases fig n t p <;> rfl
set_option maxHeartbeats 2000000 in
theorem m_cells {σ : St} {j n p : Nat} {t : Nat → Nat} (h : MT σ j n t) (hp : p < 900) (ha : σ (9, 0) 7 = nI p) (hf8 : σ (9, 0) 8 = -1) : match rcl n t p with
    | .inl q => ∃ v z, fX9_cellsTold σ = some (v, su (su σ (9, 0) 7 z) (9, 0) 8 (nI q))
    | .inr (p', x, y) => fX9_cellsTold σ = some (msk x y, su σ (9, 0) 7 (nI p')) := by
  unfold fX9_cellsTold rcl
  rw [if_pos hf8, m_byte h (by omega) ha, obi_s, obi_s]
  cases hf : fig n t p with
  | none =>
    simp only
    rw [su_same σ _ _ ha, show msk 0 6 = 127 by decide]
    rcases bn_none h hf with c | ⟨c1, c2⟩
    · rw [if_pos c]
    · rw [if_neg c1, if_neg (by rw [i32_le]; rw [i32_lt] at c2; omega)]
  | some x =>
    have hx := (fig_lt hf).1
    have f1 := m_fig1 h hp ha hf8 0 6
    rw [hf] at f1
    simp only [show (0 : Int32) = nI 0 from rfl, show (6 : Int32) = nI 6 from rfl, inN (show x < 2 ^ 31 by omega) (show 0 < 2 ^ 31 by decide) (show 6 < 2 ^ 31 by decide)] at f1
    rw [bn_some hf, if_neg (by rw [show (48 : Int32) = nI 48 from rfl, ltI (by omega) (by decide)]; omega), if_pos (by rw [show (57 : Int32) = nI 57 from rfl, leI (by omega) (by decide)]; omega)]
    simp only
    by_cases c6 : 6 < x
    · rw [if_pos c6]
      rw [if_neg (by omega)] at f1
      have h8 : ∀ σ', su σ' (9, 0) 8 (nI p) (9, 0) 8 = nI p := fun σ' => su_hit _ _ _ _
      have hne := nI_ne_m1 (show p < 2 ^ 31 by omega)
      have fF : ∀ z, fX9_figures (su (su (su σ (9, 0) 7 (nI (p + 1))) (9, 0) 8 (nI p)) (9, 0) 7 z) 1 (nI x) 6 = some (0, su (su (su σ (9, 0) 7 (nI (p + 1))) (9, 0) 8 (nI p)) (9, 0) 7 z) := fun z => m_figF _ _ _ (by rw [s78, h8]; exact hne)
      simp only [show (0 : Int32) = nI 0 from rfl, show (6 : Int32) = nI 6 from rfl] at fF ⊢
      simp only [f1, obi_s, h8, hne, if_false, bnd_eq, fF, s78]
      refine ⟨nI 0, nI (p + 1) + 1, ?_⟩
      rw [s87, su_hit, su_comm _ _ _ (by simp), su_su]
    · rw [if_neg c6]
      rw [if_pos (by omega)] at f1
      have h1 := h.s7 (nI (p + 1))
      have h81 : su σ (9, 0) 7 (nI (p + 1)) (9, 0) 8 = -1 := by rw [s78, hf8]
      have b1 := m_byte h1 (show p + 1 < 1000 by omega) (su_hit _ _ _ _)
      simp only [show (0 : Int32) = nI 0 from rfl, show (6 : Int32) = nI 6 from rfl]
      simp only [f1, obi_s, h81, if_true, b1, bnd_eq, show (45 : Int32) = nI 45 from rfl, bn_eq h (p + 1) (show 45 < 2 ^ 31 by decide)]
      by_cases c45 : p + 1 < n ∧ t (p + 1) = 45
      · simp only [c45, and_self, if_true, obi_s, su_hit, su_su, nI_1]
        have h2 := h.s7 (nI (p + 1 + 1))
        have h82 : su σ (9, 0) 7 (nI (p + 1 + 1)) (9, 0) 8 = -1 := by rw [s78, hf8]
        have f2 := m_fig1 h2 (show p + 2 < 900 + 2 - 2 by have := h.1; omega) (su_hit _ _ _ _) h82 (nI x) (nI 6)
        rw [f2]
        cases hf2 : fig n t (p + 2) with
        | none =>
          simp only [obi_s, su_hit, nI_ne_m1 (show p + 1 + 1 < 2 ^ 31 by omega), if_false]
          exact ⟨_, _, rfl⟩
        | some y =>
          have hy := (fig_lt hf2).1
          simp only [inN (show y < 2 ^ 31 by omega) (show x < 2 ^ 31 by omega) (show 6 < 2 ^ 31 by decide)]
          by_cases c3 : y < x ∨ 6 < y
          · rw [if_pos c3, if_neg (by omega), obi_s]
            simp only [su_hit, nI_ne_m1 (show p + 1 + 1 < 2 ^ 31 by omega), if_false, su_su]
            exact ⟨_, _, rfl⟩
          · rw [if_neg c3, if_pos (by omega), obi_s]
            simp only [su_su, s78, hf8, if_true]
            rfl
      · simp only [c45, if_false, obi_s]
        have hne := nI_ne_m1 (show p + 1 < 2 ^ 31 by omega)
        have fF : ∀ z, fX9_figures (su (su (su σ (9, 0) 7 (nI (p + 1))) (9, 0) 8 (nI (p + 1))) (9, 0) 7 z) 1 (nI x) (nI 6) = some (0, su (su (su σ (9, 0) 7 (nI (p + 1))) (9, 0) 8 (nI (p + 1))) (9, 0) 7 z) := fun z => m_figF _ _ _ (by rw [s78, su_hit]; exact hne)
        simp only [su_hit, fF, obi_s, s78, hne, if_false, s87, show ((0:Int32)) = nI 0 from rfl]
        refine ⟨nI 0, nI (p + 1) + 1, ?_⟩
        rw [su_comm _ _ _ (by simp), su_su]
