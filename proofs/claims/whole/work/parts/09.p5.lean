def WP (σ : St) : Prop := ∀ i, i < 17 → σ wpr i = wpf i
set_option maxHeartbeats 1000000 in
theorem x_forget {σ : St} {j : Nat} (hj : j < 11) (hw : WP σ) : ∃ f g, fX1_forgetParts σ j = some (sr (sr σ (11, j) f) (12, j) g) ∧ (∀ k, k < 17 → f k = wpf k) ∧ ∀ k, k < 70 → g k = -1 := by
  unfold fX1_forgetParts
  have ok : acpOk wpr 0 (11, j) 0 17 = true := by
    have h1 : isWA (11, j) = true := wa_of (f := 11) rfl hj (by decide)
    have h2 : isIA wpr = true := by decide
    simp [acpOk, h1, h2]
    decide
  rw [ok, grd_t, bnd_eq, fill_ok _ (wa_of (f := 12) rfl hj (by decide)), obi_s]
  unfold acp
  refine ⟨_, _, rfl, ?_, ?_⟩
  · intro k hk
    rw [va_cpy, show tn 0 = 0 from rfl, show tn 17 = 17 from rfl]
    simp only [Nat.zero_le, true_and, Nat.zero_add, hk, if_true, Nat.sub_zero]
    exact hw k hk
  · intro k hk
    rw [if_pos (show k < alen 12 from hk)]
theorem pl_fault {n : Nat} {t : Nat → Nat} : ∀ (f p q : Nat), p ≤ n → pl n t f p = .inl q → q ≤ n + 4
  | 0, p, q, hp, h => by rw [pl] at h; cases h
  | f + 1, p, q, hp, h => by
    rw [pl_S] at h
    cases ho : rp n t p with
    | inl q' => rw [ho] at h; cases h; have := rp_fault ho; omega
    | inr w =>
      obtain ⟨p', e'⟩ := w
      rw [ho] at h
      simp only at h
      have h0 := rp_next ho
      by_cases c : p' < n
      · rw [if_pos c] at h
        by_cases c2 : t p' = 59
        · rw [if_pos c2] at h
          cases hr : pl n t f (p' + 1) with
          | inl q =>
            rw [hr] at h
            cases h
            exact pl_fault f (p' + 1) _ (by omega) hr
          | inr l' => rw [hr] at h; cases h
        · rw [if_neg c2] at h; cases h; omega
      · rw [if_neg c] at h; cases h
/-- the class's state with a code's rows, reader's place and fault laid anew -/
def cst (σ : St) (j : Nat) (f g : Nat → Int32) (z v : Int32) : St := su (su (sr (sr σ (11, j) f) (12, j) g) (1, j) 5 z) (1, j) 4 v
theorem cst_11 (σ : St) (j : Nat) (f g : Nat → Int32) (z v : Int32) : cst σ j f g z v (11, j) = f := by funext q; simp [cst, su_app, sr_app]
theorem cst_12 (σ : St) (j : Nat) (f g : Nat → Int32) (z v : Int32) : cst σ j f g z v (12, j) = g := by funext q; simp [cst, su_app, sr_app]
theorem cst_4 (σ : St) (j : Nat) (f g : Nat → Int32) (z v : Int32) : cst σ j f g z v (1, j) 4 = v := by simp [cst, su_app]
theorem cst_o (σ : St) (j : Nat) (f g : Nat → Int32) (z v : Int32) {r : Rf} {k : Nat} (h1 : ¬ r = (11, j)) (h2 : ¬ r = (12, j)) (h3 : ¬ (r = (1, j) ∧ k = 4)) (h4 : ¬ (r = (1, j) ∧ k = 5)) : cst σ j f g z v r k = σ r k := by simp [cst, su_app, sr_app, h1, h2, h3, h4]
theorem WP.rows {σ : St} (h : WP σ) {r : Rf} {f : Nat → Int32} (hr : ¬ wpr = r) : WP (sr σ r f) := fun i hi => by rw [sr_app, if_neg hr]; exact h i hi
theorem WP.su {σ : St} (h : WP σ) {r : Rf} {k : Nat} {v : Int32} (hr : ¬ wpr = r) : WP (su σ r k v) := fun i hi => by rw [su_app, if_neg (fun e => hr e.1)]; exact h i hi
theorem wp_ne {f j : Nat} (h : f < 56) : ¬ wpr = (f, j) := fun e => by have := congrArg Prod.fst e; simp at this; omega
set_option maxHeartbeats 2000000 in
theorem x_read {σ : St} {j n : Nat} {t : Nat → Nat} (hj : j < 11) (h : XT σ j n t) (hw : WP σ) : ∃ f g z, fX1_read σ j = some (cst σ j f g z (saysF n t)) ∧ (∀ k, k < 17 → f k = itF (saysL n t) wpf k) ∧ ∀ k, k < 70 → g k = sdF 0 (saysL n t) m1f k := by
  unfold fX1_read
  obtain ⟨f0, g0, e0, hf0, hg0⟩ := x_forget hj hw
  rw [e0, obi_s]
  have h1 := h.rows f0 g0
  have hw1 : WP (sr (sr σ (11, j) f0) (12, j) g0) := (hw.rows (wp_ne (by decide))).rows (wp_ne (by decide))
  rw [h1.2.1]
  have h80 := h.1
  simp only [show (0 : Int32) = nI 0 from rfl, eqI (show n < 2 ^ 31 by omega) (show 0 < 2 ^ 31 by decide)]
  by_cases c : n = 0
  · simp only [c, if_true, obi_s, bnd_eq, su_hit, saysF, saysL]
    refine ⟨f0, g0, σ (1, j) 5, ?_, hf0, hg0⟩
    congr 1
    unfold cst
    congr 1
    rw [su_same]
    simp [sr_app]
  · obtain ⟨x, e1, hx⟩ := x_readParts hj h1
    simp only [c, if_false, e1, obi_s, bnd_eq, su_hit, saysF, saysL]
    cases ho : pl n t 28 0 with
    | inl q =>
      rw [ho] at hx
      obtain ⟨it, sd, z, rfl⟩ := hx
      have hq := pl_fault 28 0 q (Nat.zero_le _) ho
      simp only [nI_ne_m1 (show q < 2 ^ 31 by omega), if_false]
      have hw2 : WP (su (su (sr (sr (sr (sr σ (11, j) f0) (12, j) g0) (11, j) it) (12, j) sd) (1, j) 5 z) (1, j) 4 (nI q)) := ((((hw1.rows (wp_ne (by decide))).rows (wp_ne (by decide))).su (wp_ne (by decide))).su (wp_ne (by decide)))
      obtain ⟨f1, g1, e2, hf1, hg1⟩ := x_forget hj hw2
      rw [e2, obi_s]
      refine ⟨f1, g1, z, ?_, hf1, hg1⟩
      congr 1
      unfold cst
      funext r q
      simp only [su_app, sr_app]
      by_cases c1 : r = (12, j)
      · simp [c1]
      · by_cases c2 : r = (11, j)
        · simp [c2]
        · simp [c1, c2]
    | inr l =>
      rw [ho] at hx
      obtain ⟨z, rfl⟩ := hx
      simp only [if_true]
      have okl := pl_ok 28 0 l ho
      rw [exs_rows]
      have r1 : sr (sr σ (11, j) f0) (12, j) g0 (11, j) = f0 := by funext q; simp [sr_app]
      have r2 : sr (sr σ (11, j) f0) (12, j) g0 (12, j) = g0 := by funext q; simp [sr_app]
      rw [r1, r2]
      refine ⟨itF l f0, sdF 0 l g0, z, ?_, ?_, ?_⟩
      · congr 1
        unfold cst
        funext r q
        simp only [su_app, sr_app]
        by_cases c1 : r = (12, j)
        · simp [c1]
        · by_cases c2 : r = (11, j)
          · simp [c2]
          · simp [c1, c2]
      · refine itF_cong l 17 hf0 ?_
        intro e he
        have := okl e he
        match e, this with
        | .inl (act, x, y, b), this => exact Nat.lt_of_lt_of_le this.1 (by decide)
        | .inr w, _ => trivial
      · exact sdF_cong l 0 70 hg0
