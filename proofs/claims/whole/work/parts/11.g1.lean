/-! ===== the game: a play of the class and the ball of the reference ===== -/
def cs (c o l : Nat) : St := fun r k => if r.1 = 4 then (if k = 0 then nI c else if k = 1 then nI o else if k = 2 then nI l else 0) else if r.1 = 9 then (if k = 10 then nI c else if k = 11 then nI o else if k = 12 then nI l else 0) else 0
theorem can_tb : ∀ c, c < 7 → ∀ o, o < 3 → ∀ l, l < 3 → ∀ s, s < 2 → ∀ a, a < 10 → fX4_canBe (cs c o l) 0 (nI s) (nI a) = fX9_canBe (cs c o l) (nI s) (nI a) := by decide +kernel
def gcan (c o l s a : Nat) : Bool := fX4_canBe (cs c o l) 0 (nI s) (nI a)
theorem x_canBe {σ : St} {t c o l : Nat} (e0 : σ (4, t) 0 = nI c) (e1 : σ (4, t) 1 = nI o) (e2 : σ (4, t) 2 = nI l) (s a : Nat) : fX4_canBe σ t (nI s) (nI a) = gcan c o l s a := by
  unfold gcan fX4_canBe
  rw [e0, e1, e2]
  rfl
theorem m_canBe {τ : St} {c o l : Nat} (e0 : τ (9, 0) 10 = nI c) (e1 : τ (9, 0) 11 = nI o) (e2 : τ (9, 0) 12 = nI l) {s a : Nat} (hc : c < 7) (ho : o < 3) (hl : l < 3) (hs : s < 2) (ha : a < 10) : fX9_canBe τ (nI s) (nI a) = gcan c o l s a := by
  unfold gcan
  rw [can_tb c hc o ho l hl s hs a ha]
  unfold fX9_canBe
  rw [e0, e1, e2]
  rfl
def own (s c : Nat) : Nat := if s = 0 then c else 6 - c
theorem own_x : ∀ s, s < 2 → ∀ c, c < 7 → fX8_fromOwnEnd (nI s) (nI c) = nI (own s c) := by decide +kernel
theorem own_m : ∀ s, s < 2 → ∀ c, c < 7 → fX9_ownCell (nI s) (nI c) = nI (own s c) := by decide +kernel
theorem own_lt {s c : Nat} (hc : c < 7) : own s c < 7 := by unfold own; split <;> omega
def onw (s c d : Nat) : Nat := own s (min 6 (own s c + d))
theorem on_2 : ∀ s, s < 2 → ∀ c, c < 7 → fX9_on (nI s) (nI c) 2 = nI (onw s c 2) ∧ fX8_fromOwnEnd (nI s) (mmin 6 (nI (own s c) + 2)) = nI (onw s c 2) := by decide +kernel
theorem on_1 : ∀ s, s < 2 → ∀ c, c < 7 → own s c < 6 → fX9_on (nI s) (nI c) 1 = nI (onw s c 1) ∧ fX8_fromOwnEnd (nI s) (nI (own s c) + 1) = nI (onw s c 1) ∧ (nI (own s c) + 1 = 6 ↔ fX9_ownCell (nI s) (nI (onw s c 1)) = 6) := by decide +kernel
theorem on_6 : ∀ s, s < 2 → ∀ c, c < 7 → fX9_on (nI s) (nI c) 6 = nI (own s 6) ∧ fX8_fromOwnEnd (nI s) 6 = nI (own s 6) := by decide +kernel
def bck (s c : Nat) : Nat := own s (own s c - 1)
theorem on_b : ∀ s, s < 2 → ∀ c, c < 7 → fX9_on (nI s) (nI c) (-1) = nI (bck s c) ∧ fX8_fromOwnEnd (nI s) (mmax 0 (nI (own s c) - 1)) = nI (bck s c) := by decide +kernel
theorem can_4b : ∀ c, c < 7 → ∀ o, o < 3 → ∀ l, l < 3 → ∀ s, s < 2 → (!(gcan c o l s 4) || (decide (o = s) && decide (own s c < 6))) = true := by decide +kernel
theorem can_4 {c o l s : Nat} (hc : c < 7) (ho : o < 3) (hl : l < 3) (hs : s < 2) (h : gcan c o l s 4 = true) : o = s ∧ own s c < 6 := by
  have := can_4b c hc o ho l hl s hs
  rw [h] at this
  simpa using this
/-- the play and the ball tell the same -/
def GR (σ : St) (t : Nat) (τ : St) : Prop := ∃ c o l : Nat, c < 7 ∧ o < 3 ∧ l < 3 ∧ σ (4, t) 0 = nI c ∧ τ (9, 0) 10 = nI c ∧ σ (4, t) 1 = nI o ∧ τ (9, 0) 11 = nI o ∧ σ (4, t) 2 = nI l ∧ τ (9, 0) 12 = nI l ∧ σ (4, t) 4 = τ (9, 0) 13 ∧ σ (4, t) 5 = τ (9, 0) 14
def xf (t : Nat) (σ σ' : St) : Prop := ∀ (r : Rf) (k : Nat), ¬ r = (4, t) → σ' r k = σ r k
def mf (τ τ' : St) : Prop := ∀ (r : Rf) (k : Nat), ¬ (r = (9, 0) ∧ 10 ≤ k ∧ k < 15) → τ' r k = τ r k
theorem xf.su {t : Nat} {σ σ' : St} (h : xf t σ σ') (k : Nat) (v : Int32) : xf t σ (su σ' (4, t) k v) := fun r q hr => by rw [su_app, if_neg (fun w => hr w.1)]; exact h r q hr
theorem mf.st {τ τ' : St} (h : mf τ τ') {k : Nat} (hk : 10 ≤ k ∧ k < 15) (v : Int32) : mf τ (su τ' (9, 0) k v) := fun r q hr => by
  rw [su_app, if_neg (fun w => hr ⟨w.1, by omega⟩)]
  exact h r q hr
theorem xf.rf {t : Nat} {σ : St} : xf t σ σ := fun _ _ _ => rfl
theorem mf.rf {τ : St} : mf τ τ := fun _ _ _ => rfl
/-- what stays beside the ball in the class: the counts -/
def XC (σ : St) (t : Nat) (σ' : St) (dl ds dh dm : Int32) : Prop := σ' (4, t) 6 = σ (4, t) 6 + dl ∧ σ' (4, t) 7 = σ (4, t) 7 + ds ∧ σ' (4, t) 8 = σ (4, t) 8 + dh ∧ σ' (4, t) 9 = σ (4, t) 9 + dm
theorem a0 (x : Int32) : x + 0 = x := Int32.add_zero x
theorem m_ball (τ : St) (a b c : Int32) : fX9_ball τ a b c = su (su (su τ (9, 0) 10 a) (9, 0) 11 b) (9, 0) 12 c := rfl
theorem x_bec (σ : St) (t : Nat) (a b c : Int32) : fX4_becomes σ t a b c = su (su (su σ (4, t) 0 a) (4, t) 1 b) (4, t) 2 c := rfl
/-- both sides lay the ball: in a state that has only been counted in -/
theorem gr_ball {σ σ1 τ τ1 : St} {t c o l : Nat} (hc : c < 7) (ho : o < 3) (hl : l < 3) (h4 : σ1 (4, t) 4 = τ1 (9, 0) 13) (h5 : σ1 (4, t) 5 = τ1 (9, 0) 14) (hx : xf t σ σ1) (hm : mf τ τ1) : GR (fX4_becomes σ1 t (nI c) (nI o) (nI l)) t (fX9_ball τ1 (nI c) (nI o) (nI l)) ∧ xf t σ (fX4_becomes σ1 t (nI c) (nI o) (nI l)) ∧ mf τ (fX9_ball τ1 (nI c) (nI o) (nI l)) := by
  rw [m_ball, x_bec]
  refine ⟨⟨c, o, l, hc, ho, hl, by simp [su_app], by simp [su_app], by simp [su_app], by simp [su_app], by simp [su_app], by simp [su_app], by simp [su_app, h4], by simp [su_app, h5]⟩, ((hx.su _ _).su _ _).su _ _, ((hm.st (by decide) _).st (by decide) _).st (by decide) _⟩
