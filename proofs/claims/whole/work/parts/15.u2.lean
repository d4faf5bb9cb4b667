def oW (f : Nat → Int32) (b m : Nat) : Nat := if gcan (b / 9) (b / 3 % 3) (b % 3) (m / 10 % 2) (m % 10) = true then (if LT f (b / 9) m = true then 1 else 2) else 0
def oQ (f : Nat → Int32) (b m : Nat) : Int32 × Int32 × Int32 × Int32 := if gcan (b / 9) (b / 3 % 3) (b % 3) (m / 10 % 2) (m % 10) = true then (if LT f (b / 9) m = true then goT f (nI (m / 10 % 2)) (nI (m % 10)) (nI (b / 9)) (nI (b / 3 % 3)) (nI (b % 3)) else (0, nI (b / 9), nI (1 - m / 10 % 2), nI 0)) else (0, nI (b / 9), nI (b / 3 % 3), nI (b % 3))
def oB (f : Nat → Int32) (b m : Nat) : Nat := 9 * tn (oQ f b m).2.1 + 3 * tn (oQ f b m).2.2.1 + tn (oQ f b m).2.2.2
def oV (f : Nat → Int32) (b m : Nat) : Nat := tn (oQ f b m).1
/-- a row that a text makes -/
def gd (f : Nat → Int32) : Prop := itOk f ∧ ∀ k, 10 ≤ k → k < 13 → ∃ v : Nat, v < 10 ∧ f k = nI v
theorem goT_v (f : Nat → Int32) (s a c o l : Int32) : (goT f s a c o l).1 = 0 ∨ (goT f s a c o l).1 = f 10 ∨ (goT f s a c o l).1 = f 11 ∨ (goT f s a c o l).1 = f 12 := by
  unfold goT scT
  by_cases c1 : a = 0 ∨ a = 6
  · rw [if_pos c1]; exact Or.inl rfl
  rw [if_neg c1]
  by_cases c2 : a = 1
  · rw [if_pos c2]; exact Or.inl rfl
  rw [if_neg c2]
  by_cases c3 : a = 2 ∨ a = 3
  · rw [if_pos c3]; exact Or.inl rfl
  rw [if_neg c3]
  by_cases c4 : a = 4
  · rw [if_pos c4]
    split
    · split
      · split
        · exact Or.inl rfl
        · exact Or.inr (Or.inl rfl)
      · exact Or.inl rfl
    · exact Or.inl rfl
  rw [if_neg c4]
  by_cases c5 : a = 5
  · rw [if_pos c5]; exact Or.inl rfl
  rw [if_neg c5]
  by_cases c7 : a = 7
  · rw [if_pos c7]; exact Or.inl rfl
  rw [if_neg c7]
  by_cases d : (if a = 8 then f 11 else f 12) ≤ 0
  · rw [if_pos d]; exact Or.inl rfl
  · rw [if_neg d]
    by_cases e : a = 8
    · rw [if_pos e]; exact Or.inr (Or.inr (Or.inl rfl))
    · rw [if_neg e]; exact Or.inr (Or.inr (Or.inr rfl))
/-- the smallest X that bears a row and a ball -/
def xc (f : Nat → Int32) (c o l : Nat) : St := fun r k => if r = (4, 0) then (if k = 0 then nI c else if k = 1 then nI o else if k = 2 then nI l else 0) else f k
/-- and the smallest M -/
def mc (f : Nat → Int32) (c o l : Nat) : St := fun r k => if r = (9, 0) then (if k = 10 then nI c else if k = 11 then nI o else if k = 12 then nI l else 0) else f k
theorem xc_row (f : Nat → Int32) (c o l k : Nat) : xc f c o l (28, 0) k = f k := by
  unfold xc
  rw [if_neg (by decide)]
theorem xc_rw (f : Nat → Int32) (c o l : Nat) : RW (xc f c o l) (28, 0) 0 f := ⟨by decide, rfl, by decide, fun k _ => xc_row f c o l k⟩
theorem xc_rk {f : Nat → Int32} (hf : itOk f) (c o l : Nat) {τ : St} (h : ∀ k, k < 17 → τ (35, 0) k = f k) : RK (xc f c o l) (28, 0) τ := by
  refine ⟨by decide, rfl, by decide, fun k hk => ?_⟩
  obtain ⟨v, hv, e⟩ := hf k hk
  exact ⟨v, hv, by rw [xc_row, e], by rw [h k hk, e]⟩
theorem goT_ok {f : Nat → Int32} (hf : itOk f) {c o l s a : Nat} (hc : c < 7) (ho : o < 3) (hl : l < 3) (hs : s < 2) (ha : a < 10) (hcb : gcan c o l s a = true) : ∃ c' o' l' : Nat, c' < 7 ∧ o' < 3 ∧ l' < 3 ∧ (goT f (nI s) (nI a) (nI c) (nI o) (nI l)).2 = (nI c', nI o', nI l') := by
  obtain ⟨s1, e1, -, g1⟩ := x_goT (xc_rw f c o l) rfl (nI s) (nI a)
  obtain ⟨σ', τ', q1, q2, q3, -⟩ := gr_go (σ := xc f c o l) (τ := mc f c o l) (t := 0) (r := (28, 0)) hc ho hl hs ha rfl rfl rfl rfl rfl rfl rfl rfl hcb (xc_rk hf c o l (fun k _ => by unfold mc; rw [if_neg (by decide)]))
  have : σ' = s1 := Option.some.inj (q1.symm.trans e1)
  subst this
  obtain ⟨c', o', l', u1, u2, u3, u4, -, u6, -, u8, -⟩ := q3
  obtain ⟨-, g2, g3, g4, -⟩ := g1
  refine ⟨c', o', l', u1, u2, u3, ?_⟩
  show (goT f (nI s) (nI a) (xc f c o l (4, 0) 0) (xc f c o l (4, 0) 1) (xc f c o l (4, 0) 2)).2 = _
  exact Prod.ext (g2.symm.trans u4) (Prod.ext (g3.symm.trans u6) (g4.symm.trans u8))
theorem oQ_ok {f : Nat → Int32} (hf : gd f) {b m : Nat} (hb : b < 63) (hm : m < 40) : ∃ v c' o' l' : Nat, v < 10 ∧ c' < 7 ∧ o' < 3 ∧ l' < 3 ∧ oQ f b m = (nI v, nI c', nI o', nI l') ∧ oB f b m = 9 * c' + 3 * o' + l' ∧ oV f b m = v := by
  have key : ∃ v c' o' l' : Nat, v < 10 ∧ c' < 7 ∧ o' < 3 ∧ l' < 3 ∧ oQ f b m = (nI v, nI c', nI o', nI l') := by
    unfold oQ
    by_cases c1 : gcan (b / 9) (b / 3 % 3) (b % 3) (m / 10 % 2) (m % 10) = true
    · rw [if_pos c1]
      by_cases c2 : LT f (b / 9) m = true
      · rw [if_pos c2]
        obtain ⟨c', o', l', h1, h2, h3, h4⟩ := goT_ok hf.1 (show b / 9 < 7 by omega) (show b / 3 % 3 < 3 by omega) (show b % 3 < 3 by omega) (show m / 10 % 2 < 2 by omega) (show m % 10 < 10 by omega) c1
        have hv : ∃ v : Nat, v < 10 ∧ (goT f (nI (m / 10 % 2)) (nI (m % 10)) (nI (b / 9)) (nI (b / 3 % 3)) (nI (b % 3))).1 = nI v := by
          rcases goT_v f (nI (m / 10 % 2)) (nI (m % 10)) (nI (b / 9)) (nI (b / 3 % 3)) (nI (b % 3)) with e | e | e | e
          · exact ⟨0, by decide, e⟩
          · obtain ⟨v, h1, h2⟩ := hf.2 10 (by decide) (by decide)
            exact ⟨v, h1, e.trans h2⟩
          · obtain ⟨v, h1, h2⟩ := hf.2 11 (by decide) (by decide)
            exact ⟨v, h1, e.trans h2⟩
          · obtain ⟨v, h1, h2⟩ := hf.2 12 (by decide) (by decide)
            exact ⟨v, h1, e.trans h2⟩
        obtain ⟨v, v1, v2⟩ := hv
        exact ⟨v, c', o', l', v1, h1, h2, h3, Prod.ext v2 h4⟩
      · rw [if_neg c2]
        exact ⟨0, b / 9, 1 - m / 10 % 2, 0, by decide, by omega, by omega, by decide, rfl⟩
    · rw [if_neg c1]
      exact ⟨0, b / 9, b / 3 % 3, b % 3, by decide, by omega, by omega, by omega, rfl⟩
  obtain ⟨v, c', o', l', h1, h2, h3, h4, e⟩ := key
  refine ⟨v, c', o', l', h1, h2, h3, h4, e, ?_, ?_⟩
  · unfold oB
    rw [e]
    show 9 * tn (nI c') + 3 * tn (nI o') + tn (nI l') = _
    rw [tn_nI (by omega), tn_nI (by omega), tn_nI (by omega)]
  · unfold oV
    rw [e]
    exact tn_nI (by omega)
theorem oB_lt {f : Nat → Int32} (hf : gd f) {b m : Nat} (hb : b < 63) (hm : m < 40) : oB f b m < 63 := by
  obtain ⟨v, c', o', l', h1, h2, h3, h4, -, e, -⟩ := oQ_ok hf hb hm
  omega
theorem d9 {b : Nat} (hb : b < 63) : nI b / 9 = nI (b / 9) ∧ irm (nI b / 3) 3 = nI (b / 3 % 3) ∧ irm (nI b) 3 = nI (b % 3) := by
  refine ⟨pk_div (d := 9) (by omega) (by decide) (by decide), ?_, pk_rem (d := 3) (by omega) (by decide) (by decide)⟩
  rw [show nI b / 3 = nI (b / 3) from pk_div (d := 3) (by omega) (by decide) (by decide)]
  exact pk_rem (d := 3) (by omega) (by decide) (by decide)
set_option maxHeartbeats 1000000 in
theorem x_out {s : St} {t : Nat} {r : Rf} {f : Nat → Int32} (hr : RW s r t f) (hf : gd f) {b m : Nat} (hb : b < 63) (hm : m < 40) : ∃ s', fX4_step (fX4_setBall s t (nI b)) t r (nI m) = some (nI (oW f b m), s') ∧ s' (4, t) 3 = nI (oV f b m) ∧ fX4_ball s' t = nI (oB f b m) ∧ xf t s s' := by
  obtain ⟨v, c', o', l', h1, h2, h3, h4, eQ, eB, eV⟩ := oQ_ok hf hb hm
  obtain ⟨j1, j2, j3, j4, -, -⟩ := side_n m hm
  unfold fX4_step
  rw [bnd_eq, bnd_eq, x_isSeen, inb_nI (by omega), decide_eq_true hm, if_pos rfl, bnd_eq, bnd_eq, j1, j2]
  generalize hs2 : su (su (fX4_setBall s t (nI b)) (4, t) 9 (fX4_setBall s t (nI b) (4, t) 9 + 1)) (4, t) 3 0 = s2
  have fx : xf t s s2 := by
    subst hs2
    unfold fX4_setBall
    simp only [bnd_eq]
    exact ((((xf.rf.su _ _).su _ _).su _ _).su _ _).su _ _
  obtain ⟨q1, q2, q3⟩ := d9 hb
  have y0 : s2 (4, t) 0 = nI (b / 9) := by subst hs2; unfold fX4_setBall; simp [su_app, bnd_eq, q1]
  have y1 : s2 (4, t) 1 = nI (b / 3 % 3) := by subst hs2; unfold fX4_setBall; simp [su_app, bnd_eq, q2]
  have y2 : s2 (4, t) 2 = nI (b % 3) := by subst hs2; unfold fX4_setBall; simp [su_app, bnd_eq, q3]
  have y3 : s2 (4, t) 3 = 0 := by subst hs2; simp [su_app]
  have hr2 : RW s2 r t f := ⟨hr.1, hr.2.1, hr.2.2.1, fun k hk => by rw [fx r k (fun e => hr.2.2.1 (by rw [e]))]; exact hr.2.2.2 k hk⟩
  have ball : ∀ (z : St) (c o l : Nat), z (4, t) 0 = nI c → z (4, t) 1 = nI o → z (4, t) 2 = nI l → fX4_ball z t = nI (9 * c + 3 * o + l) := by
    intro z c o l e0 e1 e2
    unfold fX4_ball
    rw [e0, e1, e2, show (3 : Int32) = nI 3 from rfl, pk_mul, nI_add, pk_mul, nI_add]
    congr 1
    omega
  rw [x_canBe y0 y1 y2]
  unfold oW
  by_cases c1 : gcan (b / 9) (b / 3 % 3) (b % 3) (m / 10 % 2) (m % 10) = true
  · rw [if_pos c1, if_pos c1, x_isLetT hr2 hm y0, obi_s]
    by_cases c2 : LT f (b / 9) m = true
    · rw [if_pos c2, if_pos c2]
      obtain ⟨s3, e3, x3, g1, g2, g3, g4, -⟩ := x_goT hr2 y3 (nI (m / 10 % 2)) (nI (m % 10))
      have eQ' : goT f (nI (m / 10 % 2)) (nI (m % 10)) (s2 (4, t) 0) (s2 (4, t) 1) (s2 (4, t) 2) = (nI v, nI c', nI o', nI l') := by
        rw [y0, y1, y2, ← eQ]
        unfold oQ
        rw [if_pos c1, if_pos c2]
      rw [eQ'] at g1 g2 g3 g4
      refine ⟨s3, by rw [e3, obi_s]; rfl, by rw [g1, eV], by rw [ball s3 c' o' l' g2 g3 g4, eB], fx.tr x3⟩
    · rw [if_neg c2, if_neg c2, bnd_eq]
      have eQ' : (0, nI (b / 9), nI (1 - m / 10 % 2), nI 0) = (nI v, nI c', nI o', nI l') := by
        rw [← eQ]
        unfold oQ
        rw [if_pos c1, if_neg c2]
      have z1 := congrArg (fun q : Int32 × Int32 × Int32 × Int32 => q.1) eQ'
      have z2 := congrArg (fun q : Int32 × Int32 × Int32 × Int32 => q.2.1) eQ'
      have z3 := congrArg (fun q : Int32 × Int32 × Int32 × Int32 => q.2.2.1) eQ'
      have z4 := congrArg (fun q : Int32 × Int32 × Int32 × Int32 => q.2.2.2) eQ'
      refine ⟨_, rfl, ?_, ?_, ?_⟩
      · unfold fX4_stop
        simp [su_app, bnd_eq, y3, eV]
        exact z1
      · rw [eB]
        refine ball _ c' o' l' ?_ ?_ ?_
        · unfold fX4_stop
          simp [su_app, bnd_eq, y0]
          exact z2
        · unfold fX4_stop
          simp [su_app, bnd_eq, nxt_x _ (show m / 10 % 2 < 2 by omega)]
          exact z3
        · unfold fX4_stop
          simp [su_app, bnd_eq]
          exact z4
      · unfold fX4_stop
        simp only [bnd_eq]
        exact fx.tr (((xf.rf.su _ _).su _ _).su _ _)
  · rw [if_neg c1, if_neg c1]
    have eQ' : (0, nI (b / 9), nI (b / 3 % 3), nI (b % 3)) = (nI v, nI c', nI o', nI l') := by
      rw [← eQ]
      unfold oQ
      rw [if_neg c1]
    have z1 := congrArg (fun q : Int32 × Int32 × Int32 × Int32 => q.1) eQ'
    have z2 := congrArg (fun q : Int32 × Int32 × Int32 × Int32 => q.2.1) eQ'
    have z3 := congrArg (fun q : Int32 × Int32 × Int32 × Int32 => q.2.2.1) eQ'
    have z4 := congrArg (fun q : Int32 × Int32 × Int32 × Int32 => q.2.2.2) eQ'
    exact ⟨s2, rfl, by rw [y3, eV]; exact z1, by rw [eB]; exact ball s2 c' o' l' (y0.trans z2) (y1.trans z3) (y2.trans z4), fx⟩
