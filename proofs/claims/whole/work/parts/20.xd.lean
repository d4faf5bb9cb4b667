/-! ===== the law from its start, where the static row is of its class ===== -/
theorem nl_RL_7 : NL RL 7 8 [.null, .null, .null, .null, .null, .null, .null, .null, .null, .null, .int 0, .int 0, .int 0, .int 0, .int 0, .int 0] := ⟨RX8, TX8, 16, tyX8, rfl, rfl, inw8, tyX8_ok, by decide +kernel, (inTw 100 (by decide +kernel) rfl), (inTw 101 (by decide +kernel) rfl), (inTw 86 (by decide +kernel) rfl)⟩
theorem nl_RL_10 : NL RL 10 9 [.null, .null, .null, .null, .null, .null, .int 0, .int 0, .int 0, .null, .int 0, .int 0, .int 0, .int 0, .int 0, .int 0, .null, .null, .null, .null, .int 0, .int 0, .int 0, .int 0, .null, .null, .null, .null, .int 0, .null, .null, .null, .null, .int 0, .int 0, .int 0, .null, .null, .null, .null, .null, .null, .null, .null, .int 0] := ⟨RX9, TX9, 45, tyX9, rfl, rfl, inw9, tyX9_ok, by decide +kernel, (inTw 922 (by decide +kernel) rfl), (inTw 923 (by decide +kernel) rfl), (inTw 96 (by decide +kernel) rfl)⟩
theorem mln_RL_9 : Cond.methodLink RL 9 yX8_init ∈ Tw := (inTw 102 (by decide +kernel) rfl)
theorem mln_RL_12 : Cond.methodLink RL 12 yX9_init ∈ Tw := (inTw 924 (by decide +kernel) rfl)
theorem ly_wp : Cond.laysStatic "ElevenCodes" "WITHOUT_PARTS" "[I" ∈ lw_tbl := List.mem_of_getElem? (i := 117) (by decide +kernel)
theorem in_X8 : Cond.initialized "ElevenCodes" ∈ Tw := (inTw 86 (by decide +kernel) rfl)
theorem ins0 : Cond.instantiable RX0 3 ∈ Tw := (inTw 293 (by decide +kernel) rfl)
theorem ins1 : Cond.instantiable RX1 6 ∈ Tw := (inTw 239 (by decide +kernel) rfl)
theorem ins2 : Cond.instantiable RX2 3 ∈ Tw := (inTw 205 (by decide +kernel) rfl)
theorem ins3 : Cond.instantiable RX3 4 ∈ Tw := (inTw 272 (by decide +kernel) rfl)
theorem ins4 : Cond.instantiable RX4 10 ∈ Tw := (inTw 126 (by decide +kernel) rfl)
theorem ins5 : Cond.instantiable RX5 9 ∈ Tw := (inTw 167 (by decide +kernel) rfl)
theorem ins6 : Cond.instantiable RX6 4 ∈ Tw := (inTw 308 (by decide +kernel) rfl)
theorem ins7 : Cond.instantiable RX7 2 ∈ Tw := (inTw 224 (by decide +kernel) rfl)
theorem ins8 : Cond.instantiable RX8 16 ∈ Tw := (inTw 101 (by decide +kernel) rfl)
theorem ins9 : Cond.instantiable RX9 45 ∈ Tw := (inTw 923 (by decide +kernel) rfl)
theorem nest_of {w : Cond} (hn : isNest w = true) {A : Array Value} {U : State} (h : w.before A U = true) : va_Nw w U := by
  cases w <;> first | (simp [isNest] at hn; done) | exact va_Nw.of rfl h
abbrev tWP : Term := .static "ElevenCodes" "WITHOUT_PARTS" "[I"
theorem wp_elem {args : Array Value} {s : State} {a : Nat} {cell : Cell} (hv : tWP.eval args s none [] s = some (.ref a)) (ha : s.arrayAt? a = some cell) {j v : Int32} {k : Nat} (hj : ¬ j < 0) (hk : j.toNatClampNeg = k) (h : (Cond.eq (.elem tWP (.int j)) (.int v)).before args s = true) : cell.slots[k]? = some (.int v) := by
  have he : (Term.elem tWP (.int j)).eval args s none [] s = cell.slots[k]? := by
    simp [Term.eval, hj, ha, hk] at hv ⊢
    simp [hv, ha, hk]
  have hz : (Term.int v).eval args s none [] s = some (.int v) := rfl
  simp only [Cond.before, Cond.holds, Cond.value, he, hz] at h
  cases hs : cell.slots[k]? with
  | none => rw [hs] at h; simp at h
  | some w => rw [hs] at h; cases w <;> simp_all
theorem K_of {s : State} {args : Array Value} (hTw : ∀ w ∈ Tw, w.before args s = true) (hAO : ∀ C ∈ AOs, va_AO C s) : ∃ (dC : Nat → ClassId) (dI : Nat → Nat → Nat) (cA : Nat → ClassId), va_K (dC, dI) vwCl (tysO cA) s := by
  have h0 : ∀ c : Nat, ∃ (cC : ClassId) (iS : Nat → Nat), ∀ q, vwCl[c]? = some q → u_Kn s q.1 q.2.1 q.2.2 cC iS := by
    intro c
    have cs : c = 0 ∨ c = 1 ∨ c = 2 ∨ c = 3 ∨ c = 4 ∨ c = 5 ∨ c = 6 ∨ c = 7 ∨ c = 8 ∨ c = 9 ∨ 10 ≤ c := by omega
    rcases cs with rfl | rfl | rfl | rfl | rfl | rfl | rfl | rfl | rfl | rfl | hc
    · obtain ⟨a, b, h⟩ := u_known hTw inw0 (hTw _ ins0)
      exact ⟨a, b, fun q hq => by cases hq; exact h⟩
    · obtain ⟨a, b, h⟩ := u_known hTw inw1 (hTw _ ins1)
      exact ⟨a, b, fun q hq => by cases hq; exact h⟩
    · obtain ⟨a, b, h⟩ := u_known hTw inw2 (hTw _ ins2)
      exact ⟨a, b, fun q hq => by cases hq; exact h⟩
    · obtain ⟨a, b, h⟩ := u_known hTw inw3 (hTw _ ins3)
      exact ⟨a, b, fun q hq => by cases hq; exact h⟩
    · obtain ⟨a, b, h⟩ := u_known hTw inw4 (hTw _ ins4)
      exact ⟨a, b, fun q hq => by cases hq; exact h⟩
    · obtain ⟨a, b, h⟩ := u_known hTw inw5 (hTw _ ins5)
      exact ⟨a, b, fun q hq => by cases hq; exact h⟩
    · obtain ⟨a, b, h⟩ := u_known hTw inw6 (hTw _ ins6)
      exact ⟨a, b, fun q hq => by cases hq; exact h⟩
    · obtain ⟨a, b, h⟩ := u_known hTw inw7 (hTw _ ins7)
      exact ⟨a, b, fun q hq => by cases hq; exact h⟩
    · obtain ⟨a, b, h⟩ := u_known hTw inw8 (hTw _ ins8)
      exact ⟨a, b, fun q hq => by cases hq; exact h⟩
    · obtain ⟨a, b, h⟩ := u_known hTw inw9 (hTw _ ins9)
      exact ⟨a, b, fun q hq => by cases hq; exact h⟩
    · exact ⟨0, fun _ => 0, fun q hq => by rw [List.getElem?_eq_none (by exact hc)] at hq; cases hq⟩
  obtain ⟨c0, k0, p0, a1, a2, a3⟩ := Cond.arrayClass_spec (hTw _ ac_int)
  obtain ⟨c1, k1, p1, b1, b2, b3⟩ := Cond.arrayClass_spec (hTw _ ac_char)
  obtain ⟨c2, k2, p2, d1, d2, d3⟩ := Cond.arrayClass_spec (hTw _ ac_boolean)
  obtain ⟨p3, c3, k3, e1, -, e2, e3, e4⟩ := Cond.arrayOver_spec (va_AO.use (A := args) (hAO _ ao_RX1))
  obtain ⟨p4, c4, k4, f1, -, f2, f3, f4⟩ := Cond.arrayOver_spec (va_AO.use (A := args) (hAO _ ao_RX3))
  obtain ⟨p5, c5, k5, g1, -, g2, g3, g4⟩ := Cond.arrayOver_spec (va_AO.use (A := args) (hAO _ ao_RX0))
  obtain ⟨p6, c6, k6, i1, -, i2, i3, i4⟩ := Cond.arrayOver_spec (va_AO.use (A := args) (hAO _ ao_RX6))
  refine ⟨fun c => Classical.choose (h0 c), fun c => Classical.choose (Classical.choose_spec (h0 c)), fun k => [c0, c1, c2, c3, c4, c5, c6].getD k 0, fun c q hq => Classical.choose_spec (Classical.choose_spec (h0 c)) q hq, fun k q hq => ?_⟩
  have hk : k < 7 := (List.getElem?_eq_some_iff.mp hq).1
  have cs : k = 0 ∨ k = 1 ∨ k = 2 ∨ k = 3 ∨ k = 4 ∨ k = 5 ∨ k = 6 := by omega
  rcases cs with rfl | rfl | rfl | rfl | rfl | rfl | rfl
  · cases hq; exact ⟨fun n z => ⟨fun k h => (by cases h), k0, a2, p0, a3⟩, a1⟩
  · cases hq; exact ⟨fun n z => ⟨fun k h => (by cases h), k1, b2, p1, b3⟩, b1⟩
  · cases hq; exact ⟨fun n z => ⟨fun k h => (by cases h), k2, d2, p2, d3⟩, d1⟩
  · cases hq; exact ⟨fun n z => ⟨fun k h => (by cases h), k3, e2, p3, e3⟩, k3, p3, e2, e3, e1, e4⟩
  · cases hq; exact ⟨fun n z => ⟨fun k h => (by cases h), k4, f2, p4, f3⟩, k4, p4, f2, f3, f1, f4⟩
  · cases hq; exact ⟨fun n z => ⟨fun k h => (by cases h), k5, g2, p5, g3⟩, k5, p5, g2, g3, g1, g4⟩
  · cases hq; exact ⟨fun n z => ⟨fun k h => (by cases h), k6, i2, p6, i3⟩, k6, p6, i2, i3, i1, i4⟩
theorem ao_in : ∀ C ∈ AOs, Cond.arrayOver (.object C) ∈ lw_tbl := by decide +kernel
