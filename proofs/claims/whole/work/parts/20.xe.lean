theorem wp_row {args : Array Value} {s : State} (hgv : (Jvm.Cond.and given_1 narrow_1).before args s = true) {a : Nat} (hv : tWP.eval args s none [] s = some (.ref a)) : va_X a 17 wpf s s.heap := by
  have hf := flat_of_before _ hgv
  have h1 : (Cond.arrayOf tWP .int).before args s = true := hf _ (by decide +kernel)
  have h2 : (Cond.eq (.length tWP) (.int 17)).before args s = true := hf _ (by decide +kernel)
  simp only [Cond.before, Cond.holds, Cond.value, hv] at h1
  have hkn : s.knowsType .int = true := rfl
  simp only [hkn, Bool.not_true, Bool.false_eq_true, if_false, beq_iff_eq, Option.bind_eq_bind, Option.bind_eq_some_iff] at h1
  obtain ⟨cell, hc, k, hk, h3⟩ := h1
  have h4 : cell.vm.isStatics = false ∧ cell.vm ≠ .unknown ∧ ∃ comp, k.kind = .array comp .int := by
    cases hkd : k.kind <;> rw [hkd] at h3 <;> simp_all
  obtain ⟨g1, g2, comp, g3⟩ := h4
  have hat : s.arrayAt? a = some cell := by
    simp [State.arrayAt?, hc, hk, g1, g2, g3]
  have hsz : cell.slots.size = 17 := by
    have he : (Term.length tWP).eval args s none [] s = if cell.slots.size < 2 ^ 31 then some (.int cell.slots.size.toInt32) else none := by
      simp [Term.eval] at hv ⊢
      simp [hv, hat]
    have hz : (Term.int 17).eval args s none [] s = some (.int 17) := rfl
    simp only [Cond.before, Cond.holds, Cond.value, he, hz] at h2
    by_cases hlt : cell.slots.size < 2 ^ 31
    · rw [if_pos hlt] at h2
      simp at h2
      have : nI cell.slots.size = nI 17 := h2
      exact (nI_eq hlt (by decide)).mp this
    · rw [if_neg hlt] at h2
      simp at h2
  refine ⟨cell, hc, ⟨fun k h => (by rw [h] at g1; cases g1), k, hk, comp, g3⟩, g2, hsz, fun j hj => ?_⟩
  have cs : j = 0 ∨ j = 1 ∨ j = 2 ∨ j = 3 ∨ j = 4 ∨ j = 5 ∨ j = 6 ∨ j = 7 ∨ j = 8 ∨ j = 9 ∨ j = 10 ∨ j = 11 ∨ j = 12 ∨ j = 13 ∨ j = 14 ∨ j = 15 ∨ j = 16 := by omega
  rcases cs with rfl | rfl | rfl | rfl | rfl | rfl | rfl | rfl | rfl | rfl | rfl | rfl | rfl | rfl | rfl | rfl | rfl
  · exact wp_elem hv hat (j := 0) (by decide) (by decide) (hf _ (by decide +kernel))
  · exact wp_elem hv hat (j := 1) (by decide) (by decide) (hf _ (by decide +kernel))
  · exact wp_elem hv hat (j := 2) (by decide) (by decide) (hf _ (by decide +kernel))
  · exact wp_elem hv hat (j := 3) (by decide) (by decide) (hf _ (by decide +kernel))
  · exact wp_elem hv hat (j := 4) (by decide) (by decide) (hf _ (by decide +kernel))
  · exact wp_elem hv hat (j := 5) (by decide) (by decide) (hf _ (by decide +kernel))
  · exact wp_elem hv hat (j := 6) (by decide) (by decide) (hf _ (by decide +kernel))
  · exact wp_elem hv hat (j := 7) (by decide) (by decide) (hf _ (by decide +kernel))
  · exact wp_elem hv hat (j := 8) (by decide) (by decide) (hf _ (by decide +kernel))
  · exact wp_elem hv hat (j := 9) (by decide) (by decide) (hf _ (by decide +kernel))
  · exact wp_elem hv hat (j := 10) (by decide) (by decide) (hf _ (by decide +kernel))
  · exact wp_elem hv hat (j := 11) (by decide) (by decide) (hf _ (by decide +kernel))
  · exact wp_elem hv hat (j := 12) (by decide) (by decide) (hf _ (by decide +kernel))
  · exact wp_elem hv hat (j := 13) (by decide) (by decide) (hf _ (by decide +kernel))
  · exact wp_elem hv hat (j := 14) (by decide) (by decide) (hf _ (by decide +kernel))
  · exact wp_elem hv hat (j := 15) (by decide) (by decide) (hf _ (by decide +kernel))
  · exact wp_elem hv hat (j := 16) (by decide) (by decide) (hf _ (by decide +kernel))
section TTw
variable {K : Kx} {h pc : Nat} {ls : List (Nat × Value)} {st : List Value}
theorem tc_tw {w ce sl : Nat} (hα : K.1.2.1 = aF h w) (hk : ∀ G p e R s m args below meth c cells slots nL Q, K = (G, p, e, R, s, m, args, below, meth, c, cells, slots, nL, Q) → cells = ce ∧ slots = sl) (k : TW K pc ls st st0) : TC K h ce sl pc ls st 148 (EF K.1) := by
  obtain ⟨G, p, e, R, s, m, args, below, meth, c, cells, slots, nL, Q⟩ := K
  obtain ⟨rfl, rfl⟩ := hk _ _ _ _ _ _ _ _ _ _ _ _ _ _ rfl
  exact fun H lo hP hS la hh => k H lo (Rep_of hα hP) hS la hh
end TTw
