theorem side_n : ∀ m, m < 40 → fX8_sideOf (nI m) = nI (m / 10 % 2) ∧ fX8_actOf (nI m) = nI (m % 10) ∧ irm (nI m / 10) 2 = nI (m / 10 % 2) ∧ irm (nI m) 10 = nI (m % 10) ∧ ((nI m < 20) = (m < 20)) ∧ ((nI m ≤ 19) = (m < 20)) := by
  intro m hm
  have h : ∀ m, m < 40 → fX8_sideOf (nI m) = nI (m / 10 % 2) ∧ fX8_actOf (nI m) = nI (m % 10) ∧ irm (nI m / 10) 2 = nI (m / 10 % 2) ∧ irm (nI m) 10 = nI (m % 10) := by decide +kernel
  obtain ⟨h1, h2, h3, h4⟩ := h m hm
  refine ⟨h1, h2, h3, h4, ?_, ?_⟩
  · rw [show (20 : Int32) = nI 20 from rfl, ltI (by omega) (by decide)]
  · rw [show (19 : Int32) = nI 19 from rfl, leI (by omega) (by decide)]
    exact propext (by omega)
theorem g_isLet {σ τ : St} {t c m : Nat} {r : Rf} (hc : c < 7) (hm : m < 40) (x0 : σ (4, t) 0 = nI c) (m0 : τ (9, 0) 10 = nI c) (hr : RK σ r τ) : ∃ b, fX4_isLet σ t r (nI m) = some b ∧ fX9_isLet τ (nI m) = some b := by
  obtain ⟨h1, h2, h3, h4, h5, h6⟩ := side_n m hm
  have hs : m / 10 % 2 < 2 := Nat.mod_lt _ (by decide)
  have ha : m % 10 < 17 := by omega
  obtain ⟨g, e⟩ := hr.at ha
  obtain ⟨g13, e13⟩ := hr.at (show 13 < 17 by decide)
  obtain ⟨v, -, v1, v2⟩ := hr.2.2.2 (m % 10) ha
  obtain ⟨w, -, w1, w2⟩ := hr.2.2.2 13 (by decide)
  unfold fX4_isLet fX9_isLet
  simp only [bnd_eq, h1, h2, h3, h4, h5, h6, x0, m0, own_x _ hs c hc, own_m _ hs c hc, g, e, v1, v2, (in17 ha).1, grd_t, show (13 : Int32) = nI 13 from rfl, g13, e13, w1, w2, show tn (nI 13) = 13 from rfl]
  by_cases c1 : m < 20
  · simp only [c1, if_true, bj_sr]
    split
    · exact ⟨_, rfl, rfl⟩
    · exact ⟨_, rfl, rfl⟩
  · simp only [c1, if_false]
    by_cases c2 : (nI w : Int32) = 2
    · simp only [c2, if_true, bj_sl, show ¬ (1 : Int32) = 0 by decide, if_false]
      exact ⟨_, rfl, rfl⟩
    · by_cases c3 : (nI w : Int32) = 1
      · by_cases c4 : (nI (m % 10) : Int32) = 1
        · simp only [c3, c4, show ¬ (1 : Int32) = 2 by decide, if_true, bj_sl, show ¬ (1 : Int32) = 0 by decide, if_false]
          exact ⟨_, rfl, rfl⟩
        · by_cases c5 : (nI (m % 10) : Int32) = 3
          · simp only [c3, c5, show ¬ (1 : Int32) = 2 by decide, show ¬ (3 : Int32) = 1 by decide, if_true, bj_sl, show ¬ (1 : Int32) = 0 by decide, if_false]
            exact ⟨_, rfl, rfl⟩
          · simp only [c3, c4, c5, show ¬ (1 : Int32) = 2 by decide, if_true, if_false, bj_sr]
            split
            · exact ⟨_, rfl, rfl⟩
            · exact ⟨_, rfl, rfl⟩
      · simp only [c2, c3, if_true, if_false, bj_sr]
        split
        · exact ⟨_, rfl, rfl⟩
        · exact ⟨_, rfl, rfl⟩
/-- the whole play and the whole game tell the same -/
def GQ (σ : St) (t : Nat) (τ : St) : Prop := GR σ t τ ∧ σ (4, t) 6 = τ (9, 0) 20 ∧ σ (4, t) 7 = τ (9, 0) 21 ∧ σ (4, t) 8 = τ (9, 0) 22 ∧ σ (4, t) 9 = τ (9, 0) 23
def mg (τ τ' : St) : Prop := ∀ (r : Rf) (k : Nat), ¬ (r = (9, 0) ∧ ((10 ≤ k ∧ k < 15) ∨ (20 ≤ k ∧ k < 24))) → τ' r k = τ r k
theorem mg.rf {τ : St} : mg τ τ := fun _ _ _ => rfl
theorem mg.tr {τ τ' τ'' : St} (h : mg τ τ') (h' : mg τ' τ'') : mg τ τ'' := fun r k hr => (h' r k hr).trans (h r k hr)
theorem mf.g {τ τ' : St} (h : mf τ τ') : mg τ τ' := fun r k hr => h r k (fun e => hr ⟨e.1, Or.inl e.2⟩)
theorem mg.st {τ τ' : St} (h : mg τ τ') {k : Nat} (hk : (10 ≤ k ∧ k < 15) ∨ (20 ≤ k ∧ k < 24)) (v : Int32) : mg τ (su τ' (9, 0) k v) := fun r q hr => by
  rw [su_app, if_neg (fun (w : r = (9, 0) ∧ q = k) => hr ⟨w.1, by rw [w.2]; exact hk⟩)]
  exact h r q hr
theorem xf.tr {t : Nat} {σ σ' σ'' : St} (h : xf t σ σ') (h' : xf t σ' σ'') : xf t σ σ'' := fun r k hr => (h' r k hr).trans (h r k hr)
theorem RK.mg {σ σ' τ τ' : St} {r : Rf} {t : Nat} (h : RK σ r τ) (hx : xf t σ σ') (hm : mg τ τ') : RK σ' r τ' := by
  refine ⟨h.1, h.2.1, h.2.2.1, fun k hk => ?_⟩
  obtain ⟨v, h1, h2, h3⟩ := h.2.2.2 k hk
  refine ⟨v, h1, ?_, ?_⟩
  · rw [hx r k (fun e => h.2.2.1 (by rw [e])), h2]
  · rw [hm _ _ (by simp), h3]
set_option maxHeartbeats 4000000 in
theorem gq_step {σ τ : St} {t m i : Nat} {r : Rf} {v : Int32} (hq : GQ σ t τ) (hr : RK σ r τ) (hm : m < 12) (hi : i < 40) (e23 : τ (9, 0) 23 = nI i) (e37 : τ (37, 0) (40 * m + i) = mv v) : ∃ w σ' τ', fX4_step σ t r v = some (w, σ') ∧ fX9_steps τ (nI m) = some (w, τ') ∧ GQ σ' t τ' ∧ xf t σ σ' ∧ mg τ τ' ∧ τ' (9, 0) 23 = nI (i + 1) := by
  obtain ⟨⟨c, o, l, hc, ho, hl, x0, m0, x1, m1, x2, m2, h4, h5⟩, k6, k7, k8, k9⟩ := hq
  have e40 : (40 : Int32) * nI m + nI i = nI (40 * m + i) := by rw [show (40 : Int32) = nI 40 from rfl, pk_mul, nI_add]
  have i480 : inb (nI (40 * m + i)) 480 = true := by rw [inb_nI (by omega)]; simp; omega
  unfold fX4_step fX9_steps
  rw [e23, e40, i480, grd_t, bnd_eq, bnd_eq, bnd_eq, bnd_eq, tn_nI (by omega), e37, nI_1, k9, e23, nI_1, x_isSeen]
  generalize hs2 : su (su σ (4, t) 9 (nI (i + 1))) (4, t) 3 0 = s2
  generalize ht1 : su τ (9, 0) 23 (nI (i + 1)) = t1
  have fx : xf t σ s2 := by subst hs2; exact (xf.rf.su _ _).su _ _
  have fm : mg τ t1 := by subst ht1; exact mg.rf.st (by decide) _
  have y0 : s2 (4, t) 0 = nI c := by subst hs2; simp [su_app, x0]
  have y1 : s2 (4, t) 1 = nI o := by subst hs2; simp [su_app, x1]
  have y2 : s2 (4, t) 2 = nI l := by subst hs2; simp [su_app, x2]
  have n0 : t1 (9, 0) 10 = nI c := by subst ht1; simp [su_app, m0]
  have n1 : t1 (9, 0) 11 = nI o := by subst ht1; simp [su_app, m1]
  have n2 : t1 (9, 0) 12 = nI l := by subst ht1; simp [su_app, m2]
  have y4 : s2 (4, t) 4 = t1 (9, 0) 13 := by subst hs2 ht1; simp [su_app, h4]
  have y5 : s2 (4, t) 5 = t1 (9, 0) 14 := by subst hs2 ht1; simp [su_app, h5]
  have y6 : s2 (4, t) 6 = t1 (9, 0) 20 := by subst hs2 ht1; simp [su_app, k6]
  have y7 : s2 (4, t) 7 = t1 (9, 0) 21 := by subst hs2 ht1; simp [su_app, k7]
  have y8 : s2 (4, t) 8 = t1 (9, 0) 22 := by subst hs2 ht1; simp [su_app, k8]
  have y9 : s2 (4, t) 9 = t1 (9, 0) 23 := by subst hs2 ht1; simp [su_app]
  have n23 : t1 (9, 0) 23 = nI (i + 1) := by subst ht1; simp [su_app]
  have hr2 : RK s2 r t1 := hr.mg fx fm
  have gr2 : GR s2 t t1 := ⟨c, o, l, hc, ho, hl, y0, n0, y1, n1, y2, n2, y4, y5⟩
  by_cases hb : inb v 40 = true
  case neg =>
    have : mv v = -1 := by unfold mv; rw [if_neg hb]
    rw [if_neg hb, this, bnd_eq, bnd_eq, if_pos rfl]
    exact ⟨_, _, _, rfl, rfl, ⟨gr2, y6, y7, y8, y9⟩, fx, fm, n23⟩
  obtain ⟨q, hq, rfl⟩ := inb_ex (by decide) hb
  have : mv (nI q) = nI q := by unfold mv; rw [if_pos hb]
  rw [if_pos hb, this, bnd_eq (nI q), bnd_eq t1, if_neg (nI_ne_m1 (show q < 2 ^ 31 by omega))]
  obtain ⟨j1, j2, j3, j4, -, -⟩ := side_n q hq
  have hs : q / 10 % 2 < 2 := Nat.mod_lt _ (by decide)
  have ha : q % 10 < 10 := Nat.mod_lt _ (by decide)
  unfold fX9_goesOn
  simp only [bnd_eq, j1, j2, j3, j4, x_canBe y0 y1 y2, m_canBe n0 n1 n2 hc ho hl hs ha]
  by_cases hcb : gcan c o l (q / 10 % 2) (q % 10) = true
  case neg =>
    simp only [hcb, if_false, obi_s, show ¬ (0 : Int32) = 1 by decide, show ¬ (0 : Int32) = 2 by decide, a0]
    refine ⟨0, s2, _, rfl, rfl, ⟨⟨c, o, l, hc, ho, hl, y0, ?_, y1, ?_, y2, ?_, ?_, ?_⟩, ?_, ?_, ?_, ?_⟩, fx, ((fm.st (by decide) _).st (by decide) _).st (by decide) _, ?_⟩
    all_goals simp [su_app, n0, n1, n2, y4, y5, y6, y7, y8, y9, n23]
  obtain ⟨b, b1, b2⟩ := g_isLet hc hq y0 n0 hr2
  simp only [hcb, if_true, b1, b2, obi_s]
  cases b with
  | true =>
    obtain ⟨s3, t3, g1, g2, g3, g4, g5, g6, g7, g8, g9⟩ := gr_go hc ho hl hs ha y0 n0 y1 n1 y2 n2 y4 y5 hcb hr2
    simp only [if_true, bj_sr, g1, g2, obi_s, bj_sl, show ¬ (1 : Int32) = 2 by decide, if_false, a0]
    obtain ⟨c', o', l', u1, u2, u3, u4, u5, u6, u7, u8, u9, u10, u11⟩ := g3
    have w20 : t3 (9, 0) 20 = t1 (9, 0) 20 := g5 _ _ (by simp)
    have w21 : t3 (9, 0) 21 = t1 (9, 0) 21 := g5 _ _ (by simp)
    have w22 : t3 (9, 0) 22 = t1 (9, 0) 22 := g5 _ _ (by simp)
    have w23 : t3 (9, 0) 23 = t1 (9, 0) 23 := g5 _ _ (by simp)
    have e7 : (if (nI (q % 10) : Int32) = 7 then (1 : Int32) else 0) = if q % 10 = 7 then 1 else 0 := by
      have : ((nI (q % 10) : Int32) = 7) = (q % 10 = 7) := eqI (b := 7) (by omega) (by decide)
      simp only [this]
    rw [e7]
    refine ⟨1, s3, _, rfl, rfl, ⟨⟨c', o', l', u1, u2, u3, u4, ?_, u6, ?_, u8, ?_, ?_, ?_⟩, ?_, ?_, ?_, ?_⟩, fx.tr g4, (((fm.tr g5.g).st (by decide) _).st (by decide) _).st (by decide) _, ?_⟩
    · simp [su_app, u5]
    · simp [su_app, u7]
    · simp [su_app, u9]
    · simp [su_app, u10]
    · simp [su_app, u11]
    · simp [su_app, g6, y6, w20]
    · simp [su_app, g7, y7, w21]
    · simp [su_app, g8, y8, w22]
    · simp [su_app, g9, y9, w23]
    · simp [su_app, w23, n23]
  | false =>
    simp only [Bool.false_eq_true, if_false, bj_sl, bj_sr, obi_s, show ¬ (2 : Int32) = 1 by decide, if_true, a0]
    rw [nxt_x _ hs]
    unfold fX4_stop
    simp only [bnd_eq, nxt_x _ hs]
    refine ⟨2, _, _, rfl, rfl, ⟨⟨c, 1 - q / 10 % 2, 0, hc, by omega, by decide, ?_, ?_, ?_, ?_, ?_, ?_, ?_, ?_⟩, ?_, ?_, ?_, ?_⟩, fx.tr (((xf.rf.su _ _).su _ _).su _ _), ?_, ?_⟩
    · simp [su_app, y0]
    · simp [su_app, m_ball, n0]
    · simp [su_app]
    · simp [su_app, m_ball]
    · simp [su_app]; rfl
    · simp [su_app, m_ball]; rfl
    · simp [su_app, m_ball, y4]
    · simp [su_app, m_ball, y5]
    · simp [su_app, m_ball, y6]
    · simp [su_app, m_ball, y7]
    · simp [su_app, m_ball, y8]
    · simp [su_app, m_ball, y9]
    · rw [m_ball]
      exact (((((fm.st (by decide) _).st (by decide) _).st (by decide) _).st (by decide) _).st (by decide) _).st (by decide) _
    · simp [su_app, m_ball, n23]
