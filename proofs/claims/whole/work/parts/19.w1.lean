/-! ===== the law ===== -/
def SX (K : Kx) (b L : Nat) (xs : Nat → Int32) : Prop := match K with
  | (G, p, e, R, s, m, args, below, meth, c, cells, slots, nL, Q) => va_X b L xs s s.heap ∧ b < s.heap.size ∧ ¬ G.2.2.2.2.2 b
section TWl
variable {K : Kx} {cc : ByteArray} {own : String} {pc : Nat} {ls lv' : List (Nat × Value)} {st rest : List Value} {σ : St}
theorem tw_aload_b (C : Cx K cc own) {q : Fin 4} {i z b : Nat} (hd : decode cc pc = .ok (.aload_n q, 1)) (hi : (q : Nat) = i) (hz : ls[z]? = some (i, .ref b)) (k : TW K (pc + 1) ls (.ref b :: st) σ) : TW K pc ls st σ := by
  obtain ⟨G, p, e, R, s, m, args, below, meth, c, cells, slots, nL, Q⟩ := K
  exact fun H lo hP hS la h => lv_aload_n C.1 C.2.1 hd hi (lv_at h z hz) (k H lo hP hS la h)
theorem tw_script (C : Cx K cc own) {b L : Nat} {xs : Nat → Int32} (hX : SX K b L xs) {j : Nat} (hj : j < L) (hL : L < 2 ^ 31) {z : Int32} (hz : z = nI j) (hd : decode cc pc = .ok (.iaload, 1)) (k : TW K (pc + 1) ls (.int (xs j) :: st) σ) : TW K pc ls (.int z :: .ref b :: st) σ := by
  obtain ⟨G, p, e, R, s, m, args, below, meth, c, cells, slots, nL, Q⟩ := K
  subst hz
  intro H lo hP hS la h
  refine va_sld C.1 C.2.1 hX.1 hX.2.1 hX.2.2 hS (vp_in_nI hj hL) hd ?_
  rw [nI_clamp (by omega)]
  exact k H lo hP hS la h
theorem tw_slen (C : Cx K cc own) {b L : Nat} {xs : Nat → Int32} (hX : SX K b L xs) (hd : decode cc pc = .ok (.arraylength, 1)) (k : TW K (pc + 1) ls (.int (nI L) :: st) σ) : TW K pc ls (.ref b :: st) σ := by
  obtain ⟨G, p, e, R, s, m, args, below, meth, c, cells, slots, nL, Q⟩ := K
  exact fun H lo hP hS la h => va_slen C.1 C.2.1 hX.1 hX.2.1 hX.2.2 hS hd (k H lo hP hS la h)
end TWl
theorem lg_same (x : Int64) : lg_cmp x x = 0 := by
  unfold lg_cmp
  simp
abbrev Ll (K : Kx) (b i : Nat) : List (Nat × Value) := [(0, .ref b), (1, rv K (8, 0)), (2, rv K (9, 0)), (3, .int (nI i))]
