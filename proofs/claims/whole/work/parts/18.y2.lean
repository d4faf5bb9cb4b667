theorem oy_enact {σ : St} (h : Iy σ) (a1 : Int32) : ∃ v σ1 σ2, fX8_enact σ a1 = some (v, σ1) ∧ fX9_enact σ1 a1 = some (v, σ2) ∧ Iy σ2 := by
  obtain ⟨v, s1, s2, e1, e2, h2⟩ := op_enact h.1 a1
  refine ⟨v, s1, s2, e1, e2, h2, it27 ?_ (mX9_enact e2) (by decide)⟩
  unfold fX8_enact at e1
  rw [x_isCode] at e1
  by_cases c : inb a1 11 = true
  · rw [if_pos c, c, grd_t] at e1
    obtain ⟨-, e1⟩ := grd_some e1
    rw [bnd_eq] at e1
    have e' := (Prod.mk.inj (Option.some.inj e1)).2
    obtain ⟨j, hj, rfl⟩ := inb_ex (by decide) c
    intro k hk
    rw [← e']
    have : acp σ (11, tn (nI j)) 0 (27, 0) 0 17 (27, 0) k = σ (11, j) k := by
      unfold acp
      rw [sr_self, pk_cpy_in (by show 0 ≤ k; omega) (by show k < 0 + 17; omega), (in11 hj).2]
      show σ (11, j) (0 + (k - 0)) = _
      rw [Nat.zero_add, Nat.sub_zero]
    rw [this]
    exact h.1.2.it hj hk
  · rw [if_neg c] at e1
    have e' := (Prod.mk.inj (Option.some.inj e1)).2
    rw [← e']
    exact h.2
theorem put27 {x3 x : Int32} {σ r : St} (h : lpF (fun (q10 : Int32 × St) => match q10 with
        | (x4, σ2) =>
        if (σ2 (8, 0) 11) ≤ x4 then
          some (.inr σ2)
        else
          obi (if ((x3 >>> (x4 &&& 31)) &&& (1 : Int32)) = (1 : Int32) then
            grd (inb x4 12) (bnd (su σ2 (0, (tn x4)) 2 (0 : Int32)) (fun σ4 =>
            some σ4))
          else
            some σ2) (fun σ3 =>
          bnd (x4 + 1) (fun x5 =>
          some (.inl (x5, σ3))))) (x, σ) = some r) : r (27, 0) = σ (27, 0) := by
  refine lpF_ct (G := fun a : Int32 × St => r (27, 0) = a.2 (27, 0)) (r := r) ?_ h
  rintro ⟨x4, σ2⟩ y hb hk
  show r (27, 0) = σ2 (27, 0)
  replace hb : (if (σ2 (8, 0) 11) ≤ x4 then
          some (.inr σ2)
        else
          obi (if ((x3 >>> (x4 &&& 31)) &&& (1 : Int32)) = (1 : Int32) then
            grd (inb x4 12) (bnd (su σ2 (0, (tn x4)) 2 (0 : Int32)) (fun σ4 =>
            some σ4))
          else
            some σ2) (fun σ3 =>
          bnd (x4 + 1) (fun x5 =>
          some (.inl (x5, σ3))))) = some y := hb
  by_cases c : σ2 (8, 0) 11 ≤ x4
  · rw [if_pos c] at hb
    have e := Option.some.inj hb
    subst e
    have e2 : σ2 = r := hk
    rw [e2]
  · rw [if_neg c] at hb
    obtain ⟨s3, h1, h2⟩ := obi_some hb
    rw [bnd_eq] at h2
    have e := Option.some.inj h2
    subst e
    have e2 : r (27, 0) = s3 (27, 0) := hk
    rw [e2]
    by_cases d : ((x3 >>> (x4 &&& 31)) &&& (1 : Int32)) = (1 : Int32)
    · rw [if_pos d] at h1
      obtain ⟨-, h1⟩ := grd_some h1
      rw [bnd_eq] at h1
      have e3 := Option.some.inj h1
      subst e3
      funext k
      exact su_ref _ _ _ _ (by simp)
    · rw [if_neg d] at h1
      rw [Option.some.inj h1]
theorem oy_put {σ : St} (h : Iy σ) (a1 a2 : Int32) : ∃ v σ1 σ2, fX8_put σ a1 a2 = some (v, σ1) ∧ fX9_put σ1 a1 a2 = some (v, σ2) ∧ Iy σ2 := by
  obtain ⟨v, s1, s2, e1, e2, h2⟩ := op_put h.1 a1 a2
  refine ⟨v, s1, s2, e1, e2, h2, it27 ?_ (mX9_put e2) (by decide)⟩
  unfold fX8_put at e1
  rw [x_isCode, x_isItem] at e1
  by_cases c : inb a1 17 = true
  case neg =>
    rw [if_neg c] at e1
    rw [← (Prod.mk.inj (Option.some.inj e1)).2]
    exact h.2
  rw [if_pos c] at e1
  by_cases c2 : inb a2 11 = true
  case neg =>
    rw [if_neg c2] at e1
    rw [← (Prod.mk.inj (Option.some.inj e1)).2]
    exact h.2
  rw [if_pos c2] at e1
  obtain ⟨-, e1⟩ := grd_some e1
  obtain ⟨-, e1⟩ := grd_some e1
  rw [bnd_eq] at e1
  obtain ⟨x2, q1, e1⟩ := obi_some e1
  cases x2 with
  | false =>
    rw [if_neg (by decide)] at e1
    rw [← (Prod.mk.inj (Option.some.inj e1)).2]
    exact h.2
  | true =>
    rw [if_pos rfl] at e1
    obtain ⟨x3, q2, e1⟩ := obi_some e1
    obtain ⟨s3, q3, e1⟩ := obi_some e1
    obtain ⟨-, e1⟩ := grd_some e1
    rw [bnd_eq] at e1
    rw [← (Prod.mk.inj (Option.some.inj e1)).2]
    obtain ⟨i, hi, rfl⟩ := inb_ex (by decide) c
    obtain ⟨j, hj, rfl⟩ := inb_ex (by decide) c2
    intro k hk
    rw [(in17 hi).2, (in11 hj).2]
    by_cases d : k = i
    · subst d
      rw [su_hit]
      exact h.1.2.it hj hk
    · rw [su_slot _ _ _ _ d, put27 q3]
      exact h.2 k hk
