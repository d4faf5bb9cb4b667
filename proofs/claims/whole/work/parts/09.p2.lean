theorem XT.at {σ : St} {j n : Nat} {t : Nat → Nat} (h : XT σ j n t) (z : Int32) : XT (su σ (1, j) 5 z) j n t := by
  obtain ⟨h1, h2, h3⟩ := h
  refine ⟨h1, by simp [su_app, h2], fun i hi => ⟨(h3 i hi).1, ?_⟩⟩
  simp [su_app, (h3 i hi).2]
theorem ix7 (a b : Nat) : nI a * (7 : Int32) + nI b = nI (a * 7 + b) := by
  rw [show (7 : Int32) = nI 7 from rfl, pk_mul, nI_add]
/-- what a part does in the class's state -/
def effX (σ : St) (j k : Nat) (e : Eff) : St := sr (sr σ (11, j) (effI e (σ (11, j)))) (12, j) (effS e k (σ (12, j)))
theorem sr_app (σ : St) (r r' : Rf) (f : Nat → Int32) (k : Nat) : sr σ r f r' k = if r' = r then f k else σ r' k := by
  unfold sr
  by_cases h : r' = r <;> simp [h]
theorem sr_row (σ : St) (r r' : Rf) (f : Nat → Int32) : sr σ r f r' = if r' = r then f else σ r' := rfl
theorem su_at_eff (σ : St) (j k : Nat) (e : Eff) (z : Int32) : effX (su σ (1, j) 5 z) j k e = su (effX σ j k e) (1, j) 5 z := by
  unfold effX
  have h1 : su σ (1, j) 5 z (11, j) = σ (11, j) := by funext q; simp [su_app]
  have h2 : su σ (1, j) 5 z (12, j) = σ (12, j) := by funext q; simp [su_app]
  rw [h1, h2]
  funext r q
  simp only [su_app, sr_app]
  by_cases c1 : r = (12, j)
  · subst c1; simp
  · by_cases c2 : r = (11, j)
    · subst c2; simp
    · simp [c1, c2]
theorem effX_set (σ : St) (j k item v : Nat) : effX σ j k (.inr (item, v)) = su σ (11, j) item (nI v) := by
  unfold effX effI effS
  funext r q
  simp only [su_app, sr_app, upd_app]
  by_cases c1 : r = (12, j)
  · subst c1; simp
  · by_cases c2 : r = (11, j)
    · subst c2; simp
    · simp [c1, c2]
set_option maxHeartbeats 1000000 in
theorem x_say {σ : St} {j k act x y : Nat} (hj : j < 11) (hact : act < 10) (hxy : x ≤ y) (hy : y < 7) (b : Bool) : fX1_say σ j (nI k) (nI act) (nI x) (nI y) b = some (effX σ j k (.inl (act, x, y, b))) := by
  unfold fX1_say
  have ta := tn_nI (show act < 2 ^ 31 by omega)
  have ia : inb (nI act) 17 = true := by rw [inb_nI (by omega)]; simp; omega
  refine lpF_fx (fun i a => a = (nI (x + i), sr (sr σ (11, j) (upd (σ (11, j)) act (bitop b (σ (11, j) act) (if i = 0 then 0 else msk x (x + i - 1))))) (12, j) (fun q => if act * 7 + x ≤ q ∧ q < act * 7 + (x + i) then nI k else σ (12, j) q))) (y + 1 - x) ?_ ?_ (by omega) ?_
  · intro i a hi ha
    subst ha
    refine Or.inl ⟨_, ?_, rfl⟩
    have u1 : ¬ nI y < nI (x + i) := nI_nlt (by omega) (by omega)
    have u2 : inb (nI (act * 7 + (x + i))) 70 = true := by rw [inb_nI (by omega)]; simp; omega
    have bs := bit_step b (σ (11, j) act) x (by omega) i (by omega) (by omega)
    have e1 : sr (sr σ (11, j) (upd (σ (11, j)) act (bitop b (σ (11, j) act) (if i = 0 then 0 else msk x (x + i - 1))))) (12, j) (fun q => if act * 7 + x ≤ q ∧ q < act * 7 + (x + i) then nI k else σ (12, j) q) (11, j) act = bitop b (σ (11, j) act) (if i = 0 then 0 else msk x (x + i - 1)) := by
      simp [sr_app, upd_app]
    simp only [u1, if_false, ia, grd_t, ta, e1, bnd_eq, ix7, u2, tn_nI (show act * 7 + (x + i) < 2 ^ 31 by omega), nI_1]
    have fin : ∀ w, w = bitop b (σ (11, j) act) (msk x (x + i)) → su (su (sr (sr σ (11, j) (upd (σ (11, j)) act (bitop b (σ (11, j) act) (if i = 0 then 0 else msk x (x + i - 1))))) (12, j) (fun q => if act * 7 + x ≤ q ∧ q < act * 7 + (x + i) then nI k else σ (12, j) q)) (11, j) act w) (12, j) (act * 7 + (x + i)) (nI k) = sr (sr σ (11, j) (upd (σ (11, j)) act (bitop b (σ (11, j) act) (if i + 1 = 0 then 0 else msk x (x + (i + 1) - 1))))) (12, j) (fun q => if act * 7 + x ≤ q ∧ q < act * 7 + (x + (i + 1)) then nI k else σ (12, j) q) := by
      intro w hw
      subst hw
      funext r q
      simp only [su_app, sr_app, upd_app]
      by_cases c1 : r = (12, j)
      · subst c1
        simp only [true_and, if_true]
        by_cases c2 : q = act * 7 + (x + i)
        · rw [if_pos c2, if_pos (by omega)]
        · rw [if_neg c2, if_neg (by simp)]
          by_cases c3 : act * 7 + x ≤ q ∧ q < act * 7 + (x + i)
          · rw [if_pos c3, if_pos (by omega)]
          · rw [if_neg c3, if_neg (by omega)]
      · by_cases c2 : r = (11, j)
        · subst c2
          by_cases c3 : q = act
          · subst c3
            simp
          · simp [c3]
        · simp [c1, c2]
    cases b with
    | true =>
      simp only [if_true, obi_s] at bs ⊢
      rw [fin _ bs]
      simp only [Nat.add_assoc]
    | false =>
      simp only [Bool.false_eq_true, if_false, obi_s] at bs ⊢
      rw [fin _ bs]
      simp only [Nat.add_assoc]
  · intro a ha
    subst ha
    refine ⟨_, by simp only [show nI y < nI (x + (y + 1 - x)) from nI_lt (by omega) (by omega), if_true]; rfl, ?_⟩
    unfold effX effI effS
    simp only
    have e0 : ¬ y + 1 - x = 0 := by omega
    rw [if_neg e0, show x + (y + 1 - x) - 1 = y by omega, show x + (y + 1 - x) = y + 1 by omega]
  · simp only [Nat.add_zero, if_true, bit_0, Prod.mk.injEq, true_and]
    funext r q
    simp only [sr_app, upd_app]
    by_cases c1 : r = (12, j)
    · subst c1
      rw [if_pos rfl, if_neg (by omega)]
    · by_cases c2 : r = (11, j)
      · subst c2
        by_cases c3 : q = act <;> simp [c3]
      · simp [c1, c2]
/-- the reader's answer: a fault, the place then being anything; or none, and what the part did -/
def RX (σ : St) (j k : Nat) (x : Option (Int32 × St)) (o : Nat ⊕ (Nat × Eff)) : Prop := match o with
  | .inl q => ∃ z, x = some (nI q, su σ (1, j) 5 z)
  | .inr (p', e) => x = some (-1, su (effX σ j k e) (1, j) 5 (nI p'))
theorem su_at0 (σ : St) (j : Nat) {p : Int32} (h : σ (1, j) 5 = p) : su σ (1, j) 5 p = σ := su_same σ _ _ h
set_option maxHeartbeats 1000000 in
theorem x_readFigure {σ : St} {j n p : Nat} {t : Nat → Nat} (hj : j < 11) (h : XT σ j n t) (hp : p < 1000) (ha : σ (1, j) 5 = nI p) {item most : Nat} (hi : item < 17) (hm : most < 10) (k : Nat) : RX σ j k (fX1_readFigure σ j (nI item) (nI most)) (rpF n t p item most) := by
  unfold fX1_readFigure rpF
  rw [ha, x_fig h (by omega), obi_s]
  cases hf : fig n t p with
  | none => exact ⟨nI p, by simp only [fgI, if_true]; rw [su_at0 σ j ha]⟩
  | some v =>
    have hv := (fig_lt hf).1
    have ii : inb (nI item) 17 = true := by rw [inb_nI (by omega)]; simpa using hi
    simp only [fgI, nI_ne_m1 (show v < 2 ^ 31 by omega), if_false, leI (show v < 2 ^ 31 by omega) (show most < 2 ^ 31 by omega)]
    by_cases c : v ≤ most
    · simp only [c, if_true, ii, grd_t, bnd_eq, tn_nI (show item < 2 ^ 31 by omega), RX]
      have : su σ (11, j) item (nI v) (1, j) 5 = nI p := by simp [su_app, ha]
      rw [this, nI_1, effX_set]
    · simp only [c, if_false, RX]
      exact ⟨nI p, by rw [su_at0 σ j ha]⟩
set_option maxHeartbeats 1000000 in
theorem x_readNumber {σ : St} {j n p : Nat} {t : Nat → Nat} (hj : j < 11) (h : XT σ j n t) (hp : p < 1000) (ha : σ (1, j) 5 = nI p) {item least : Nat} (hi : item < 17) (hm : least < 10) (k : Nat) : RX σ j k (fX1_readNumber σ j (nI item) (nI least)) (rpN n t p item least) := by
  unfold fX1_readNumber rpN
  rw [bnd_eq, ha, x_fig h (by omega), obi_s]
  have ii : inb (nI item) 17 = true := by rw [inb_nI (by omega)]; simpa using hi
  have tii := tn_nI (show item < 2 ^ 31 by omega)
  cases hf : fig n t p with
  | none => exact ⟨nI p, by simp only [fgI, if_true]; rw [su_at0 σ j ha]⟩
  | some v =>
    have hv := (fig_lt hf).1
    simp only [fgI, nI_ne_m1 (show v < 2 ^ 31 by omega), if_false, bnd_eq, nI_1, su_hit]
    rw [x_fig (h.at _) (by omega), obi_s]
    cases hf2 : fig n t (p + 1) with
    | none =>
      simp only [fgI, if_true, leI (show least < 2 ^ 31 by omega) (show v < 2 ^ 31 by omega)]
      by_cases c : least ≤ v
      · simp only [c, if_true, ii, grd_t, tii, RX, effX_set]
        rw [su_comm _ _ _ (by simp)]
      · simp only [c, if_false, RX]
        exact ⟨_, rfl⟩
    | some v2 =>
      have hv2 := (fig_lt hf2).1
      have e10 : (10 : Int32) * nI v + nI v2 = nI (10 * v + v2) := by rw [show (10 : Int32) = nI 10 from rfl, pk_mul, nI_add]
      simp only [fgI, nI_ne_m1 (show v2 < 2 ^ 31 by omega), if_false, bnd_eq, nI_1, su_hit, su_su, e10, leI (show least < 2 ^ 31 by omega) (show 10 * v + v2 < 2 ^ 31 by omega)]
      by_cases c : least ≤ 10 * v + v2
      · simp only [c, if_true, ii, grd_t, tii, RX, effX_set]
        rw [su_comm _ _ _ (by simp)]
      · simp only [c, if_false, RX]
        exact ⟨_, rfl⟩

theorem x_char {σ : St} {j n p c : Nat} {t : Nat → Nat} (h : XT σ j n t) (hp : p < n) (hc : c < 2 ^ 31) : inb (nI p) 80 = true ∧ tn (nI p) = p ∧ (σ (10, j) p = nI c) = (t p = c) := by
  obtain ⟨h1, h2, h3⟩ := h
  refine ⟨by rw [inb_nI (by omega)]; simp; omega, tn_nI (by omega), ?_⟩
  rw [(h3 p hp).2]
  exact eqI (by have := (h3 p hp).1; omega) hc
set_option maxHeartbeats 1000000 in
theorem x_readPoints {σ : St} {j n p : Nat} {t : Nat → Nat} (hj : j < 11) (h : XT σ j n t) (hp : p < 900) (ha : σ (1, j) 5 = nI (p + 1)) (k : Nat) : RX σ j k (fX1_readPoints σ j) (rpG n t p) := by
  unfold fX1_readPoints rpG
  rw [ha, x_fig h (by omega), obi_s]
  cases hf : fig n t (p + 1) with
  | none =>
    simp only [fgI, show ¬ (-1 : Int32) = 4 by decide, show ¬ (-1 : Int32) = 8 by decide, show ¬ (-1 : Int32) = 9 by decide, if_false, bj_sl, RX]
    exact ⟨nI (p + 1), by rw [su_at0 σ j ha]⟩
  | some v =>
    have hv := (fig_lt hf).1
    simp only [fgI, show (4 : Int32) = nI 4 from rfl, show (8 : Int32) = nI 8 from rfl, show (9 : Int32) = nI 9 from rfl, eqI (show v < 2 ^ 31 by omega) (show 4 < 2 ^ 31 by decide), eqI (show v < 2 ^ 31 by omega) (show 8 < 2 ^ 31 by decide), eqI (show v < 2 ^ 31 by omega) (show 9 < 2 ^ 31 by decide)]
    have key : ∀ it : Nat, it < 17 → RX σ j k (bnd (su σ (1, j) 5 (nI (p + 1) + 1)) (fun σ1 =>
  if (σ1 (1, j) 3) ≤ (σ1 (1, j) 5) then
    some (σ1 (1, j) 5, σ1)
  else
    grd (inb (σ1 (1, j) 5) 80) (
    if (σ1 (10, j) (tn (σ1 (1, j) 5))) = (61 : Int32) then
      bnd (su σ1 (1, j) 5 ((σ1 (1, j) 5) + (1 : Int32))) (fun σ2 =>
      obi (fX1_readFigure σ2 j (nI it) (nI 9)) (fun (x3, σ3) =>
      some (x3, σ3)))
    else
      some (σ1 (1, j) 5, σ1)))) (if p + 2 < n ∧ t (p + 2) = 61 then rpF n t (p + 3) it 9 else .inl (p + 2)) := by
      intro it hit
      have h1 := h.at (nI (p + 2))
      rw [bnd_eq, nI_1, su_hit, h1.2.1]
      simp only [leI (show n < 2 ^ 31 by have := h.1; omega) (show p + 2 < 2 ^ 31 by omega)]
      by_cases c : n ≤ p + 2
      · have c' : ¬ (p + 2 < n ∧ t (p + 2) = 61) := by omega
        rw [if_pos c, if_neg c']
        exact ⟨_, rfl⟩
      · obtain ⟨q1, q2, q3⟩ := x_char (c := 61) h1 (show p + 2 < n by omega) (by decide)
        rw [if_neg c, q1, grd_t, q2]
        simp only [show (61 : Int32) = nI 61 from rfl, q3]
        by_cases c2 : t (p + 2) = 61
        · rw [if_pos c2, if_pos ⟨by omega, c2⟩, bnd_eq, su_su, nI_1]
          have r := x_readFigure (σ := su σ (1, j) 5 (nI (p + 3))) (p := p + 3) hj (h.at _) (by omega) (su_hit _ _ _ _) hit (show 9 < 10 by decide) k
          cases ho : rpF n t (p + 3) it 9 with
          | inl q =>
            rw [ho] at r
            obtain ⟨z, hz⟩ := r
            exact ⟨z, by rw [hz, su_su]; rfl⟩
          | inr w =>
            obtain ⟨p', e⟩ := w
            rw [ho] at r
            show _ = _
            rw [show fX1_readFigure (su σ (1, j) 5 (nI (p + 3))) j (nI it) (nI 9) = _ from r, su_at_eff, su_su]
            rfl
        · rw [if_neg c2, if_neg (fun q => c2 q.2)]
          exact ⟨_, rfl⟩
    by_cases c4 : v = 4
    · simp only [c4, if_true, true_or, bj_sr]
      exact key 10 (by decide)
    · by_cases c8 : v = 8
      · simp only [c8, show ¬ (8 : Nat) = 4 by decide, if_false, if_true, true_or, or_true, bj_sr]
        exact key 11 (by decide)
      · by_cases c9 : v = 9
        · simp only [c9, show ¬ (9 : Nat) = 4 by decide, show ¬ (9 : Nat) = 8 by decide, if_false, if_true, or_true, bj_sr]
          exact key 12 (by decide)
        · simp only [c4, c8, c9, if_false, or_self, bj_sl, RX]
          exact ⟨nI (p + 1), by rw [su_at0 σ j ha]⟩
