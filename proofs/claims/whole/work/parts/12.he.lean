theorem or_z (a : Int32) : a ||| 0 = a := Int32.or_zero
def fndB (m0 p0 q0 : Int32) : Int32 × Int32 × Int32 × St → Option ((Int32 × Int32 × Int32 × St) ⊕ (Int32 × St)) := fun (q15 : Int32 × Int32 × Int32 × St) => match q15 with
        | (x6, x7, x8, σ7) =>
        grd (inb (m0) 12) (
        if (σ7 (36, 0) (tn (m0))) ≤ x8 then
          some (.inr ((x6, σ7)))
        else
          if x7 = 0 then
            some (.inr ((x6, σ7)))
          else
            grd (inb (((40 : Int32) * m0) + x8) 480) (
            bnd (σ7 (37, 0) (tn (((40 : Int32) * m0) + x8))) (fun x9 =>
            grd (inb (((40 : Int32) * m0) + x8) 480) (
            bnd (σ7 (38, 0) (tn (((40 : Int32) * m0) + x8))) (fun x10 =>
            bnd (if x9 = (-1 : Int32) then
              (0 : Int32)
            else
              (1 : Int32)) (fun x11 =>
            obi (if x11 = 0 then
              some (x6, x11, σ7)
            else
              if (fX9_canBe σ7 (irm (x9 / (10 : Int32)) (2 : Int32)) (irm x9 (10 : Int32))) = true then
                bnd (if x10 = (-1 : Int32) then
                  (0 : Int32)
                else
                  (1 : Int32)) (fun x14 =>
                bnd (if x14 = 0 then
                  (0 : Int32)
                else
                  if (20 : Int32) ≤ x9 then
                    (0 : Int32)
                  else
                    if (irm x9 (10 : Int32)) = p0 then
                      if (fX9_ownCell (x9 / (10 : Int32)) (σ7 (9, 0) 10)) = q0 then
                        (1 : Int32)
                      else
                        (0 : Int32)
                    else
                      (0 : Int32)) (fun x15 =>
                bnd (if x15 = 0 then
                  (0 : Int32)
                else
                  if x10 = (1 : Int32) then
                    (1 : Int32)
                  else
                    (2 : Int32)) (fun x16 =>
                bnd (x6 ||| x16) (fun x17 =>
                obi (if x14 = 0 then
                  some ((0 : Int32), σ7)
                else
                  obi (fX9_goesOn σ7 x9 x10) (fun (x19, σ10) =>
                  some (x19, σ10))) (fun (x18, σ9) =>
                some (x17, x14, σ9))))))
              else
                some (x6, x11, σ7)) (fun (x12, x13, σ8) =>
            bnd (x8 + 1) (fun x20 =>
            some (.inl (x12, x13, x20, σ8))))))))))
theorem s10_n : ∀ z, z < 20 → nI z / 10 = nI (z / 10 % 2) := by decide +kernel
set_option maxHeartbeats 4000000 in
theorem g_custom {σ τ : St} {t m n p q : Nat} (B : Int32) (hr : RK σ wpr τ) (hp : PM σ τ m n) (hv : ∀ k, k < n → σ (14, m) k = -1 ∨ σ (14, m) k = 0 ∨ σ (14, m) k = 1) : ∃ v σ' τ', fX3_customOf σ m (nI p) (nI q) t = some (v, σ') ∧ lpF (fndB (nI m) (nI p) (nI q)) (B, (1 : Int32), (0 : Int32), fX9_begins τ) = some (B ||| v, τ') ∧ mf τ τ' := by
  have h40 := hp.2.1
  have hm12 := hp.1
  obtain ⟨i1, i2⟩ := in12 hm12
  have bg : GR (fX4_begin σ t) t (fX9_begins τ) ∧ xf t σ (fX4_begin σ t) ∧ mf τ (fX9_begins τ) := by
    refine ⟨?_, (g_begin (σ := σ) (τ := τ) t).2.1, ?_⟩
    · unfold fX4_begin fX9_begins
      simp only [bnd_eq]
      refine ⟨3, 2, 0, by decide, by decide, by decide, ?_, ?_, ?_, ?_, ?_, ?_, ?_, ?_⟩
      · simp [su_app]; rfl
      · simp [su_app]; rfl
      · simp [su_app]; rfl
      · simp [su_app]; rfl
      · simp [su_app]; rfl
      · simp [su_app]; rfl
      · simp [su_app]
      · simp [su_app]
    · unfold fX9_begins
      simp only [bnd_eq]
      exact ((((mf.rf.st (by decide) _).st (by decide) _).st (by decide) _).st (by decide) _).st (by decide) _
  have mtr : ∀ {a b c : St}, mf a b → mf b c → mf a c := fun h h' r k hr => (h' r k hr).trans (h r k hr)
  suffices hh : ∃ y x, lpF (fndB (nI m) (nI p) (nI q)) (B, (1 : Int32), (0 : Int32), fX9_begins τ) = some y ∧ fX3_customOf σ m (nI p) (nI q) t = some x ∧ (y.1 = B ||| x.1 ∧ mf τ y.2) by
    obtain ⟨⟨y1, y2⟩, ⟨x1, x2⟩, g1, g2, g3, g4⟩ := hh
    replace g3 : y1 = B ||| x1 := g3
    subst g3
    exact ⟨x1, x2, y2, g2, g1, g4⟩
  unfold fX3_customOf
  rw [bnd_eq]
  refine lpFq (Q := fun (y x : Int32 × St) => y.1 = B ||| x.1 ∧ mf τ y.2) (fun d (b : Int32 × Int32 × Int32 × St) (a : Int32 × Int32 × St) => ∃ i, d + i = n ∧ a.2.1 = nI i ∧ b.1 = B ||| a.1 ∧ b.2.1 = 1 ∧ b.2.2.1 = nI i ∧ GR a.2.2 t b.2.2.2 ∧ xf t σ a.2.2 ∧ mf τ b.2.2.2) ?_ (d := n) (by omega) ⟨0, rfl, rfl, (or_z B).symm, rfl, rfl, bg.1, bg.2.1, bg.2.2⟩
  rintro d ⟨ac, fl, y, s'⟩ ⟨acc, x, s⟩ ⟨i, hd, hx0, hx1, hx2, hx3, hq, fx, fm⟩
  replace hx0 : x = nI i := hx0
  replace hx1 : ac = B ||| acc := hx1
  replace hx2 : fl = 1 := hx2
  replace hx3 : y = nI i := hx3
  subst hx0 hx1 hx2 hx3
  replace hq : GR s t s' := hq
  replace fx : xf t σ s := fx
  replace fm : mf τ s' := fm
  have hr' : RK s wpr s' := hr.mv fx fm
  have hp' : PM s s' m n := hp.mv fx fm.g
  have sz : s (3, m) 2 = nI n := hp'.2.2.1
  have sz' : s' (36, 0) m = nI n := hp'.2.2.2.1
  by_cases ci : i = n
  · subst ci
    have le : nI i ≤ nI i := by rw [i32_le]; omega
    refine Or.inr (Or.inl ⟨(B ||| acc, s'), (acc, s), ?_, ?_, rfl, fm⟩)
    · simp only [fndB, i1, grd_t, i2, sz', le, if_true]
    · simp only [sz, le, if_true]
  have hin : i < n := by omega
  have ns : ¬ nI n ≤ nI i := by rw [leI (by omega) (by omega)]; omega
  have e40 : (40 : Int32) * nI m + nI i = nI (40 * m + i) := by rw [show (40 : Int32) = nI 40 from rfl, pk_mul, nI_add]
  have i480 : inb (nI (40 * m + i)) 480 = true := by rw [inb_nI (by omega)]; simp; omega
  have i40 : inb (nI i) 40 = true := by rw [inb_nI (by omega)]; simp; omega
  obtain ⟨e37, e38⟩ := hp'.2.2.2.2 i hin
  have hu : s (14, m) i = -1 ∨ s (14, m) i = 0 ∨ s (14, m) i = 1 := by rw [fx _ _ (by simp)]; exact hv i hin
  have ext : ∀ (ac' : Int32) (s'' : St), s'' (36, 0) m = nI n → fndB (nI m) (nI p) (nI q) (ac', 0, nI (i + 1), s'') = some (.inr (ac', s'')) := by
    intro ac' s'' h
    simp only [fndB, i1, grd_t, i2, h, if_true]
    split <;> rfl
  obtain ⟨v, hv13⟩ : ∃ v, s (13, m) i = v := ⟨_, rfl⟩
  obtain ⟨u, hv14⟩ : ∃ u, s (14, m) i = u := ⟨_, rfl⟩
  rw [hv13] at e37
  rw [hv14] at e38 hu
  have tX := tn_nI (show i < 2 ^ 31 by omega)
  have tM := tn_nI (show 40 * m + i < 2 ^ 31 by omega)
  have n10 : ¬ (1 : Int32) = 0 := by decide
  by_cases hb : inb v 40 = true
  case neg =>
    have mvn : mv v = -1 := by unfold mv; rw [if_neg hb]
    refine Or.inr (Or.inr ⟨(B ||| acc, 0, nI (i + 1), s'), (B ||| acc, s'), (acc, s), ?_, ext _ _ sz', ?_, rfl, fm⟩)
    · simp only [fndB, i1, grd_t, i2, sz', ns, if_false, n10, e40, i480, tM, bnd_eq, e37, mvn, if_true, obi_s, nI_1]
    · show (if s (3, m) 2 ≤ nI i then _ else _) = _
      rw [sz, if_neg ns, i40, grd_t, tX, hv13, x_isSeen, if_neg hb]
  obtain ⟨z, hz, rfl⟩ := inb_ex (by decide) hb
  have mvz : mv (nI z) = nI z := by unfold mv; rw [if_pos hb]
  have nz : ¬ nI z = -1 := nI_ne_m1 (by omega)
  obtain ⟨j1, j2, j3, j4, -, -⟩ := side_n z hz
  have hs : z / 10 % 2 < 2 := Nat.mod_lt _ (by decide)
  have ha : z % 10 < 10 := Nat.mod_lt _ (by decide)
  have hq0 := hq
  obtain ⟨c, o, l, hc, ho, hl, y0, n0, y1, n1, y2, n2, y4, y5⟩ := hq
  have xc := x_canBe y0 y1 y2 (z / 10 % 2) (z % 10)
  have mc := m_canBe n0 n1 n2 hc ho hl hs ha
  by_cases hcb : gcan c o l (z / 10 % 2) (z % 10) = true
  case neg =>
    refine Or.inl ⟨(B ||| acc, 1, nI (i + 1), s'), (acc, nI (i + 1), s), d - 1, ?_, ?_, by omega, i + 1, by omega, rfl, rfl, rfl, rfl, hq0, fx, fm⟩
    · simp only [fndB, i1, grd_t, i2, sz', ns, if_false, n10, e40, i480, tM, bnd_eq, e37, mvz, nz, j3, j4, mc, hcb, Bool.false_eq_true, obi_s, nI_1]
    · simp only [sz, ns, if_false, i40, grd_t, tX, hv13, x_isSeen, hb, if_true, bnd_eq, j1, j2, xc, hcb, Bool.false_eq_true, bj_sr, nI_1]
  by_cases um : u = -1
  · subst um
    refine Or.inr (Or.inr ⟨(B ||| acc, 0, nI (i + 1), s'), (B ||| acc, s'), (acc, s), ?_, ext _ _ sz', ?_, rfl, fm⟩)
    · simp only [fndB, i1, grd_t, i2, sz', ns, if_false, n10, e40, i480, tM, bnd_eq, e37, mvz, nz, j3, j4, mc, hcb, obi_s, nI_1, e38, if_true, or_z]
    · simp only [sz, ns, if_false, i40, grd_t, tX, hv13, hv14, x_isSeen, hb, if_true, bnd_eq, j1, j2, xc, hcb, bj_sl]
  have g20 : ((20 : Int32) ≤ nI z) = (20 ≤ z) := leI (a := 20) (by decide) (by omega)
  -- what is found here, on both sides
  have val : ∀ w : Int32, ∃ E : Int32, (if (20 : Int32) ≤ nI z then (some acc : Option Int32) else if (nI (z % 10) : Int32) = nI p then if fX8_fromOwnEnd (nI (z / 10 % 2)) (s (4, t) 0) = nI q then some (acc ||| w) else some acc else some acc) = some E ∧ ((B ||| acc) ||| (if (if (20 : Int32) ≤ nI z then (0 : Int32) else if (nI (z % 10) : Int32) = nI p then if fX9_ownCell (nI z / 10) (s' (9, 0) 10) = nI q then 1 else 0 else 0) = 0 then 0 else w)) = B ||| E := by
    intro w
    by_cases k1 : 20 ≤ z
    · exact ⟨acc, by simp only [g20, k1, if_true], by simp only [g20, k1, if_true, or_z]⟩
    · have so := s10_n z (by omega)
      by_cases k2 : (nI (z % 10) : Int32) = nI p
      · have ox := own_x _ hs c hc
        have om := own_m _ hs c hc
        by_cases k3 : (nI (own (z / 10 % 2) c) : Int32) = nI q
        · exact ⟨acc ||| w, by simp only [g20, k1, if_false, k2, if_true, y0, ox, k3], by simp only [g20, k1, if_false, k2, if_true, so, n0, om, k3, n10, Int32.or_assoc]⟩
        · exact ⟨acc, by simp only [g20, k1, if_false, k2, if_true, y0, ox, k3], by simp only [g20, k1, if_false, k2, if_true, so, n0, om, k3, or_z]⟩
      · exact ⟨acc, by simp only [g20, k1, if_false, k2], by simp only [g20, k1, if_false, k2, if_true, or_z]⟩
  by_cases u1 : u = 1
  · subst u1
    obtain ⟨E, v1, v2⟩ := val 1
    obtain ⟨s3, t3, g1, g2, g3, g4, g5, -⟩ := gr_go hc ho hl hs ha y0 n0 y1 n1 y2 n2 y4 y5 hcb hr'
    refine Or.inl ⟨(B ||| E, 1, nI (i + 1), t3), (E, nI (i + 1), s3), d - 1, ?_, ?_, by omega, i + 1, by omega, rfl, rfl, rfl, rfl, g3, fx.tr g4, mtr fm g5⟩
    · have go : fX9_goesOn s' (nI z) 1 = some (1, t3) := by
        unfold fX9_goesOn
        simp only [bnd_eq, j3, j4, mc, hcb, if_true, show ¬ (1 : Int32) = -1 by decide, if_false, bj_sr, g2, obi_s, bj_sl]
      simp only [fndB, i1, grd_t, i2, sz', ns, if_false, n10, e40, i480, tM, bnd_eq, e37, mvz, nz, j3, j4, mc, hcb, obi_s, nI_1, e38, if_true, show ¬ (1 : Int32) = -1 by decide, go, v2]
    · simp only [sz, ns, if_false, i40, grd_t, tX, hv13, hv14, x_isSeen, hb, if_true, bnd_eq, j1, j2, xc, hcb, show ¬ (1 : Int32) = -1 by decide, v1, obi_s, g1, bj_sr, nI_1]
  · obtain ⟨E, v1, v2⟩ := val 2
    refine Or.inl ⟨(B ||| E, 1, nI (i + 1), fX9_ball s' (nI c) (nI (1 - z / 10 % 2)) 0), (E, nI (i + 1), fX4_stop s t (nI (z / 10 % 2))), d - 1, ?_, ?_, by omega, i + 1, by omega, rfl, rfl, rfl, rfl, ?_, ?_, ?_⟩
    · have go : fX9_goesOn s' (nI z) u = some (2, fX9_ball s' (nI c) (nI (1 - z / 10 % 2)) 0) := by
        unfold fX9_goesOn
        simp only [bnd_eq, j3, j4, mc, hcb, if_true, um, u1, if_false, bj_sl, bj_sr, n0, nxt_x _ hs]
      simp only [fndB, i1, grd_t, i2, sz', ns, if_false, n10, e40, i480, tM, bnd_eq, e37, mvz, nz, j3, j4, mc, hcb, obi_s, nI_1, e38, if_true, um, u1, go, v2]
    · simp only [sz, ns, if_false, i40, grd_t, tX, hv13, hv14, x_isSeen, hb, if_true, bnd_eq, j1, j2, xc, hcb, um, u1, v1, obi_s, bj_sr, nI_1]
    · unfold fX4_stop
      simp only [bnd_eq, nxt_x _ hs, m_ball]
      refine ⟨c, 1 - z / 10 % 2, 0, hc, by omega, by decide, ?_, ?_, ?_, ?_, ?_, ?_, ?_, ?_⟩
      · simp [su_app, y0]
      · simp [su_app]
      · simp [su_app]
      · simp [su_app]
      · simp [su_app]; rfl
      · simp [su_app]; rfl
      · simp [su_app, y4]
      · simp [su_app, y5]
    · unfold fX4_stop
      simp only [bnd_eq]
      exact fx.tr (((xf.rf.su _ _).su _ _).su _ _)
    · rw [m_ball]
      exact mtr fm (((mf.rf.st (by decide) _).st (by decide) _).st (by decide) _)
