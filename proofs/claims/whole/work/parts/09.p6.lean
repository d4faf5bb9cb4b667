/-! ===== a text in the reference ===== -/
theorem lp_S {α β : Type} (body : α → Option (α ⊕ β)) (n : Nat) (a : α) : lp body (n + 1) a = (match body a with
    | none => none
    | some (.inl a') => lp body n a'
    | some (.inr b) => some b) := by
  rw [lp]
  cases body a with
  | none => rfl
  | some x => cases x <;> rfl
theorem FU_S : ∃ m, FU = m + 3 := ⟨FU - 3, by have := FU_lt (n := 10) (by decide); omega⟩
theorem lpF_1 {α β : Type} {body : α → Option (α ⊕ β)} {a : α} {b : β} (h : body a = some (.inr b)) : lpF body a = some b := by
  obtain ⟨m, hm⟩ := FU_S
  unfold lpF
  rw [hm, lp_S, h]
theorem lpF_2 {α β : Type} {body : α → Option (α ⊕ β)} {a a' : α} {b : β} (h : body a = some (.inl a')) (h' : body a' = some (.inr b)) : lpF body a = some b := by
  obtain ⟨m, hm⟩ := FU_S
  unfold lpF
  rw [hm, lp_S, h]
  show lp body (m + 2) a' = _
  rw [lp_S, h']
theorem lpF_3 {α β : Type} {body : α → Option (α ⊕ β)} {a a' a'' : α} {b : β} (h : body a = some (.inl a')) (h' : body a' = some (.inl a'')) (h'' : body a'' = some (.inr b)) : lpF body a = some b := by
  obtain ⟨m, hm⟩ := FU_S
  unfold lpF
  rw [hm, lp_S, h]
  show lp body (m + 2) a' = _
  rw [lp_S, h']
  show lp body (m + 1) a'' = _
  rw [lp_S, h'']
def MT (σ : St) (j n : Nat) (t : Nat → Nat) : Prop := n ≤ 80 ∧ j < 11 ∧ σ (9, 0) 6 = nI j ∧ σ (29, 0) j = nI n ∧ ∀ i, i < n → t i < 256 ∧ σ (30, 0) (80 * j + i) = nI (t i)
def bn (n : Nat) (t : Nat → Nat) (p : Nat) : Int32 := if p < n then nI (t p) else -1
theorem m_byte {σ : St} {j n p : Nat} {t : Nat → Nat} (h : MT σ j n t) (hp : p < 1000) (ha : σ (9, 0) 7 = nI p) : fX9_byteNow σ = some (bn n t p) := by
  obtain ⟨h1, h2, h3, h4, h5⟩ := h
  unfold fX9_byteNow bn
  have i1 : inb (nI j) 11 = true := by rw [inb_nI (by omega)]; simpa using h2
  rw [h3, i1, grd_t, tn_nI (show j < 2 ^ 31 by omega), h4, ha]
  simp only [leI (show n < 2 ^ 31 by omega) (show p < 2 ^ 31 by omega)]
  by_cases c : n ≤ p
  · rw [if_pos c, if_neg (by omega)]
  · have e80 : (80 : Int32) * nI j + nI p = nI (80 * j + p) := by rw [show (80 : Int32) = nI 80 from rfl, pk_mul, nI_add]
    have i2 : inb (nI (80 * j + p)) 880 = true := by rw [inb_nI (by omega)]; simp; omega
    rw [if_neg c, if_pos (by omega), e80, i2, grd_t, tn_nI (show 80 * j + p < 2 ^ 31 by omega), (h5 p (by omega)).2]
theorem bn_some {n : Nat} {t : Nat → Nat} {p v : Nat} (h : fig n t p = some v) : bn n t p = nI (v + 48) := by
  unfold fig at h
  by_cases c : p < n ∧ 48 ≤ t p ∧ t p ≤ 57
  · rw [if_pos c] at h
    have := Option.some.inj h
    unfold bn
    rw [if_pos c.1, show t p = v + 48 by omega]
  · rw [if_neg c] at h; cases h
theorem bn_none {σ : St} {j n : Nat} {t : Nat → Nat} (hm : MT σ j n t) {p : Nat} (h : fig n t p = none) : bn n t p < 48 ∨ (¬ bn n t p < 48 ∧ 57 < bn n t p) := by
  unfold fig at h
  by_cases c : p < n ∧ 48 ≤ t p ∧ t p ≤ 57
  · rw [if_pos c] at h; cases h
  · unfold bn
    by_cases c2 : p < n
    · have := (hm.2.2.2.2 p c2).1
      rw [if_pos c2, show (48 : Int32) = nI 48 from rfl, show (57 : Int32) = nI 57 from rfl, ltI (by omega) (by decide), ltI (by decide) (by omega)]
      omega
    · rw [if_neg c2]
      exact Or.inl (by decide)
theorem MT.s7 {σ : St} {j n : Nat} {t : Nat → Nat} (h : MT σ j n t) (z : Int32) : MT (su σ (9, 0) 7 z) j n t := by
  obtain ⟨h1, h2, h3, h4, h5⟩ := h
  refine ⟨h1, h2, by simp [su_app, h3], by simp [su_app, h4], fun i hi => ⟨(h5 i hi).1, by simp [su_app, (h5 i hi).2]⟩⟩
theorem MT.s8 {σ : St} {j n : Nat} {t : Nat → Nat} (h : MT σ j n t) (z : Int32) : MT (su σ (9, 0) 8 z) j n t := by
  obtain ⟨h1, h2, h3, h4, h5⟩ := h
  refine ⟨h1, h2, by simp [su_app, h3], by simp [su_app, h4], fun i hi => ⟨(h5 i hi).1, by simp [su_app, (h5 i hi).2]⟩⟩
theorem s78 (σ : St) (z : Int32) : su σ (9, 0) 7 z (9, 0) 8 = σ (9, 0) 8 := by simp [su_app]
theorem s87 (σ : St) (z : Int32) : su σ (9, 0) 8 z (9, 0) 7 = σ (9, 0) 7 := by simp [su_app]
theorem m_figF {σ : St} (a lo hi : Int32) (h : ¬ σ (9, 0) 8 = -1) : fX9_figures σ a lo hi = some (0, σ) := by
  unfold fX9_figures
  rw [bnd_eq]
  have e := lpF_1 (a := ((0 : Int32), σ)) (b := ((0 : Int32), σ)) (body := (fun (q3 : Int32 × St) => match q3 with
  | (x3, σ2) =>
  if (σ2 (9, 0) 8) = (-1 : Int32) then
    if (σ (9, 0) 7 + a) ≤ (σ2 (9, 0) 7) then
      some (.inr ((x3, σ2)))
    else
      obi (fX9_byteNow σ2) (fun x4 =>
      if x4 < (48 : Int32) then
        some (.inr ((x3, σ2)))
      else
        obi (fX9_byteNow σ2) (fun x5 =>
        if (57 : Int32) < x5 then
          some (.inr ((x3, σ2)))
        else
          obi (fX9_byteNow σ2) (fun x6 =>
          bnd ((((10 : Int32) * x3) + x6) - (48 : Int32)) (fun x7 =>
          bnd (su σ2 (9, 0) 7 ((σ2 (9, 0) 7) + (1 : Int32))) (fun σ3 =>
          some (.inl (x7, σ3)))))))
  else
    some (.inr ((x3, σ2))))) (by simp only [h, if_false])
  rw [e, obi_s]
  simp only [h, if_false]
/-- what the figures of a number say: nothing is there, or the number and the place behind it -/
def fgs (n : Nat) (t : Nat → Nat) (w p : Nat) : Option (Nat × Nat) := match fig n t p with
  | none => none
  | some v => if w = 1 then some (v, p + 1) else match fig n t (p + 1) with
    | none => some (v, p + 1)
    | some v2 => some (10 * v + v2, p + 2)
theorem fgs_lt {n : Nat} {t : Nat → Nat} {w p v q : Nat} (h : fgs n t w p = some (v, q)) : v < 100 ∧ p < q ∧ q ≤ n ∧ (w = 1 → v < 10 ∧ q = p + 1) := by
  unfold fgs at h
  cases hf : fig n t p with
  | none => rw [hf] at h; cases h
  | some a =>
    have ha := fig_lt hf
    rw [hf] at h
    simp only at h
    by_cases c : w = 1
    · rw [if_pos c] at h; cases h; omega
    · rw [if_neg c] at h
      cases hf2 : fig n t (p + 1) with
      | none => rw [hf2] at h; cases h; omega
      | some b =>
        have hb := fig_lt hf2
        rw [hf2] at h; cases h; omega
set_option maxHeartbeats 2000000 in
theorem m_fig {σ : St} {j n p w : Nat} {t : Nat → Nat} (h : MT σ j n t) (hp : p < 900) (ha : σ (9, 0) 7 = nI p) (hf8 : σ (9, 0) 8 = -1) (hw : w = 1 ∨ w = 2) (lo hi : Int32) : fX9_figures σ (nI w) lo hi = (match fgs n t w p with
    | none => some (0, su σ (9, 0) 8 (nI p))
    | some (v, q) => if fX9_in (nI v) lo hi = true then some (nI v, su σ (9, 0) 7 (nI q)) else some (nI v, su (su σ (9, 0) 7 (nI q)) (9, 0) 8 (nI p))) := by
  unfold fX9_figures
  rw [bnd_eq, ha]
  have hnx : ∀ q, p ≤ q → q < p + w → ¬ nI p + nI w ≤ nI q := by
    intro q h1 h2
    rw [nI_add, leI (by omega) (by omega)]; omega
  have hex : nI p + nI w ≤ nI (p + w) := by
    rw [nI_add, leI (by omega) (by omega)]; omega
  have bd : ∀ (x : Int32) (q : Nat), q < 1000 → p ≤ q → q < p + w → (σ' : St) → MT σ' j n t → σ' (9, 0) 7 = nI q → σ' (9, 0) 8 = -1 →
      (if (σ' (9, 0) 8) = (-1 : Int32) then
    if (nI p + nI w) ≤ (σ' (9, 0) 7) then
      some (.inr ((x, σ')))
    else
      obi (fX9_byteNow σ') (fun x4 =>
      if x4 < (48 : Int32) then
        some (.inr ((x, σ')))
      else
        obi (fX9_byteNow σ') (fun x5 =>
        if (57 : Int32) < x5 then
          some (.inr ((x, σ')))
        else
          obi (fX9_byteNow σ') (fun x6 =>
          bnd ((((10 : Int32) * x) + x6) - (48 : Int32)) (fun x7 =>
          bnd (su σ' (9, 0) 7 ((σ' (9, 0) 7) + (1 : Int32))) (fun σ3 =>
          (some (.inl (x7, σ3)) : Option ((Int32 × St) ⊕ (Int32 × St))))))))
  else
    some (.inr ((x, σ')))) = (match fig n t q with
      | none => some (.inr (x, σ'))
      | some v => some (.inl ((10 : Int32) * x + nI (v + 48) - 48, su σ' (9, 0) 7 (nI (q + 1))))) := by
    intro x q hq h1 h2 σ' hm h7 h8
    rw [if_pos h8, h7, if_neg (hnx q h1 h2), m_byte hm hq h7, obi_s]
    cases hf : fig n t q with
    | none =>
      rcases bn_none hm hf with c | ⟨c1, c2⟩
      · rw [if_pos c]
      · rw [if_neg c1, obi_s, if_pos c2]
    | some v =>
      have hv := (fig_lt hf).1
      have e := bn_some hf
      rw [e, if_neg (by rw [show (48 : Int32) = nI 48 from rfl, ltI (by omega) (by decide)]; omega), obi_s, if_neg (by rw [show (57 : Int32) = nI 57 from rfl, ltI (by decide) (by omega)]; omega), obi_s, bnd_eq, bnd_eq, nI_1]
  have v1 : ∀ v : Nat, v < 10 → (10 : Int32) * 0 + nI (v + 48) - 48 = nI v := by decide +kernel
  have v2 : ∀ v : Nat, v < 10 → ∀ b : Nat, b < 10 → (10 : Int32) * nI v + nI (b + 48) - 48 = nI (10 * v + b) := by decide +kernel
  have pe : ∀ q : Nat, q < 1000 → (nI q = nI p) = (q = p) := fun q hq => eqI (by omega) (by omega)
  unfold fgs
  cases hf : fig n t p with
  | none =>
    have b1 := bd 0 p (by omega) (Nat.le_refl _) (by omega) σ h ha hf8
    rw [hf] at b1
    rw [lpF_1 b1, obi_s]
    simp only [hf8, if_true, ha, bj_sr, bnd_eq]
  | some v =>
    have hv := (fig_lt hf).1
    have b1 := bd 0 p (by omega) (Nat.le_refl _) (by omega) σ h ha hf8
    rw [hf] at b1
    simp only [v1 v hv] at b1
    have hm1 := h.s7 (nI (p + 1))
    have h81 : su σ (9, 0) 7 (nI (p + 1)) (9, 0) 8 = -1 := by rw [s78, hf8]
    rcases hw with rfl | rfl
    · rw [lpF_2 (b := (nI v, su σ (9, 0) 7 (nI (p + 1)))) b1 (by
        simp only [h81, if_true, su_hit, hex])]
      simp only [obi_s, h81, if_true, su_hit, pe (p + 1) (by omega), show ¬ p + 1 = p by omega, if_false]
      by_cases c : fX9_in (nI v) lo hi = true
      · rw [if_pos c, if_pos c, bj_sl]
      · rw [if_neg c, if_neg c, bj_sr, bnd_eq]
    · simp only [show ¬ (2 : Nat) = 1 by decide, if_false]
      have b2 := bd (nI v) (p + 1) (by omega) (by omega) (by omega) _ hm1 (su_hit _ _ _ _) h81
      cases hf2 : fig n t (p + 1) with
      | none =>
        rw [hf2] at b2
        rw [lpF_2 b1 b2]
        simp only [obi_s, h81, if_true, su_hit, pe (p + 1) (by omega), show ¬ p + 1 = p by omega, if_false]
        by_cases c : fX9_in (nI v) lo hi = true
        · rw [if_pos c, if_pos c, bj_sl]
        · rw [if_neg c, if_neg c, bj_sr, bnd_eq]
      | some u =>
        have hu := (fig_lt hf2).1
        rw [hf2] at b2
        have b3 := b2.trans (show _ = some (.inl (nI (10 * v + u), su σ (9, 0) 7 (nI (p + 1 + 1)))) by
          show some (Sum.inl ((10 : Int32) * nI v + nI (u + 48) - 48, su (su σ (9, 0) 7 (nI (p + 1))) (9, 0) 7 (nI (p + 1 + 1)))) = _
          rw [v2 v hv u hu, su_su])
        have h82 : su σ (9, 0) 7 (nI (p + 1 + 1)) (9, 0) 8 = -1 := by rw [s78, hf8]
        rw [lpF_3 (b := (nI (10 * v + u), su σ (9, 0) 7 (nI (p + 1 + 1)))) b1 b3 (by
          simp only [h82, if_true, su_hit]
          rw [if_pos hex])]
        simp only [obi_s, h82, if_true, su_hit, pe (p + 1 + 1) (by omega), show ¬ p + 1 + 1 = p by omega, if_false]
        by_cases c : fX9_in (nI (10 * v + u)) lo hi = true
        · rw [if_pos c, if_pos c, bj_sl]
        · rw [if_neg c, if_neg c, bj_sr, bnd_eq]
