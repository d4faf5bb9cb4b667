/-- a row of items that can be played by -/
def RK (σ : St) (r : Rf) (τ : St) : Prop := isIA r = true ∧ alen r.1 = 17 ∧ (¬ r.1 = 4) ∧ (∀ k, k < 17 → ∃ v : Nat, v < 128 ∧ σ r k = nI v ∧ τ (35, 0) k = nI v)
theorem RK.at {σ τ : St} {r : Rf} (h : RK σ r τ) {k : Nat} (hk : k < 17) : (isIA r && inb (nI k) (alen r.1)) = true ∧ tn (nI k) = k := by
  rw [h.1, h.2.1, (in17 hk).1]
  exact ⟨rfl, (in17 hk).2⟩
theorem RK.mv {σ σ' τ τ' : St} {r : Rf} {t : Nat} (h : RK σ r τ) (hx : xf t σ σ') (hm : mf τ τ') : RK σ' r τ' := by
  refine ⟨h.1, h.2.1, h.2.2.1, fun k hk => ?_⟩
  obtain ⟨v, h1, h2, h3⟩ := h.2.2.2 k hk
  refine ⟨v, h1, ?_, ?_⟩
  · rw [hx r k (fun e => h.2.2.1 (by rw [e])), h2]
  · rw [hm _ _ (by simp), h3]
def nxt (s : Nat) (w : Int32) : Nat := if w = 0 then 2 else if w = 1 then 1 - s else s
theorem nxt_x : ∀ s, s < 2 → (1 : Int32) - nI s = nI (1 - s) := by decide
theorem nxt_lt {s : Nat} (hs : s < 2) (w : Int32) : nxt s w < 3 := by unfold nxt; split <;> (try split) <;> omega
/-- points are won on both sides -/
theorem gr_score {σ σ1 τ τ1 : St} {t s v : Nat} (hs : s < 2) (hv : 0 < v) (hv' : v < 128) (h4 : σ1 (4, t) 4 = τ1 (9, 0) 13) (h5 : σ1 (4, t) 5 = τ1 (9, 0) 14) (hx : xf t σ σ1) (hm : mf τ τ1) {k : Nat} (hk : k = 4 ∨ k = 8 ∨ k = 9) (h35 : τ1 (35, 0) (if k = 4 then 10 else k + 3) = nI v) {w : Int32} (h14 : τ1 (35, 0) 14 = w) : ∃ τ', fX9_scores τ1 (nI s) (nI k) = some τ' ∧ GR (fX4_score σ1 t (nI s) (nI v) w) t τ' ∧ xf t σ (fX4_score σ1 t (nI s) (nI v) w) ∧ mf τ τ' ∧ XC σ1 t (fX4_score σ1 t (nI s) (nI v) w) 0 0 0 0 := by
  have eX : fX4_score σ1 t (nI s) (nI v) w = su (su (su (su (su σ1 (4, t) 3 (nI v)) (4, t) (4 + s) (σ1 (4, t) (4 + s) + nI v)) (4, t) 0 3) (4, t) 2 0) (4, t) 1 (nI (nxt s w)) := by
    unfold fX4_score nxt
    simp only [bnd_eq]
    rcases (show s = 0 ∨ s = 1 by omega) with rfl | rfl
    · simp only [show (nI 0 : Int32) = 0 from rfl, if_true, su_slot _ (4, t) (4, t) (nI v) (show ¬ 4 = 3 by decide)]
      by_cases w0 : w = 0
      · simp only [w0, if_true]; rfl
      · by_cases w1 : w = 1
        · simp only [w0, w1, show ¬ (1 : Int32) = 0 by decide, if_false, if_true, su_su]; rfl
        · simp only [w0, w1, if_false, su_su]; rfl
    · simp only [show (nI 1 : Int32) = 1 from rfl, show ¬ (1 : Int32) = 0 by decide, if_false, su_slot _ (4, t) (4, t) (nI v) (show ¬ 5 = 3 by decide)]
      by_cases w0 : w = 0
      · simp only [w0, if_true]; rfl
      · by_cases w1 : w = 1
        · simp only [w1, show ¬ (1 : Int32) = 0 by decide, if_false, if_true, su_su]; rfl
        · simp only [w0, w1, if_false, su_su]; rfl
  have nv : ¬ nI v ≤ 0 := by rw [show (0 : Int32) = nI 0 from rfl, leI (by omega) (by decide)]; omega
  have ix : (if (nI k : Int32) = 4 then (10 : Int32) else nI k + 3) = nI (if k = 4 then 10 else k + 3) := by
    rcases hk with rfl | rfl | rfl <;> rfl
  have ix17 : (if k = 4 then 10 else k + 3) < 17 := by rcases hk with rfl | rfl | rfl <;> decide
  have eM : fX9_scores τ1 (nI s) (nI k) = some (fX9_ball (su (su τ1 (9, 0) 13 (τ1 (9, 0) 13 + (if s = 0 then nI v else 0))) (9, 0) 14 (τ1 (9, 0) 14 + (if s = 1 then nI v else 0))) 3 (nI (nxt s w)) 0) := by
    unfold fX9_scores
    rw [bnd_eq, ix, (in17 ix17).1, grd_t, bnd_eq, (in17 ix17).2, h35]
    have r14 : ∀ a b : Int32, su (su τ1 (9, 0) 13 a) (9, 0) 14 b (35, 0) (tn 14) = w := by
      intro a b
      rw [show tn 14 = 14 from rfl, su_app, if_neg (by simp), su_app, if_neg (by simp), h14]
    have r13 : ∀ a : Int32, su τ1 (9, 0) 13 a (9, 0) 14 = τ1 (9, 0) 14 := fun a => by simp [su_app]
    simp only [bnd_eq, nv, if_false, r14, r13]
    rcases (show s = 0 ∨ s = 1 by omega) with rfl | rfl
    · simp only [show (nI 0 : Int32) = 0 from rfl, show ¬ (0 : Int32) = 1 by decide, if_true, if_false, show ¬ (0 : Nat) = 1 by decide]
      congr 3
      unfold nxt
      split
      · rfl
      · split <;> rfl
    · simp only [show (nI 1 : Int32) = 1 from rfl, show ¬ (1 : Int32) = 0 by decide, if_true, if_false, show ¬ (1 : Nat) = 0 by decide]
      congr 3
      unfold nxt
      split
      · rfl
      · split <;> rfl
  refine ⟨_, eM, ?_, ?_, ?_, ?_⟩
  · rw [eX, m_ball]
    refine ⟨3, nxt s w, 0, by decide, nxt_lt hs w, by decide, ?_, ?_, ?_, ?_, ?_, ?_, ?_, ?_⟩
    · simp [su_app]; rfl
    · simp [su_app]; rfl
    · simp [su_app]
    · simp [su_app]
    · simp [su_app]; rfl
    · simp [su_app]; rfl
    · rcases (show s = 0 ∨ s = 1 by omega) with rfl | rfl <;> simp [su_app, h4]
    · rcases (show s = 0 ∨ s = 1 by omega) with rfl | rfl <;> simp [su_app, h5]
  · rw [eX]
    exact ((((hx.su _ _).su _ _).su _ _).su _ _).su _ _
  · rw [m_ball]
    exact ((((hm.st (by decide) _).st (by decide) _).st (by decide) _).st (by decide) _).st (by decide) _
  · rw [eX]
    rcases (show s = 0 ∨ s = 1 by omega) with rfl | rfl
    · refine ⟨?_, ?_, ?_, ?_⟩ <;> simp [su_app]
    · refine ⟨?_, ?_, ?_, ?_⟩ <;> simp [su_app]
