set_option maxHeartbeats 4000000 in
theorem gr_go {σ τ : St} {t : Nat} {r : Rf} {c o l s a : Nat} (hc : c < 7) (ho : o < 3) (hl : l < 3) (hs : s < 2) (ha : a < 10) (x0 : σ (4, t) 0 = nI c) (m0 : τ (9, 0) 10 = nI c) (x1 : σ (4, t) 1 = nI o) (m1 : τ (9, 0) 11 = nI o) (x2 : σ (4, t) 2 = nI l) (m2 : τ (9, 0) 12 = nI l) (h4 : σ (4, t) 4 = τ (9, 0) 13) (h5 : σ (4, t) 5 = τ (9, 0) 14) (hcb : gcan c o l s a = true) (hr : RK σ r τ) : ∃ σ' τ', fX4_goOn σ t r (nI s) (nI a) = some σ' ∧ fX9_does τ (nI s) (nI a) = some τ' ∧ GR σ' t τ' ∧ xf t σ σ' ∧ mf τ τ' ∧ XC σ t σ' 1 0 (if a = 7 then 1 else 0) 0 := by
  have hox := own_x s hs c hc
  obtain ⟨o21, o22⟩ := on_2 s hs c hc
  obtain ⟨o61, o62⟩ := on_6 s hs c hc
  obtain ⟨ob1, ob2⟩ := on_b s hs c hc
  generalize hs1 : su σ (4, t) 6 (σ (4, t) 6 + 1) = s1
  have f1 : xf t σ s1 := by subst hs1; exact xf.rf.su _ _
  have s10 : s1 (4, t) 0 = nI c := by subst hs1; simp [su_app, x0]
  have s12 : s1 (4, t) 2 = nI l := by subst hs1; simp [su_app, x2]
  have s14 : s1 (4, t) 4 = τ (9, 0) 13 := by subst hs1; simp [su_app, h4]
  have s15 : s1 (4, t) 5 = τ (9, 0) 14 := by subst hs1; simp [su_app, h5]
  have c1 : XC σ t s1 1 0 0 0 := by subst hs1; refine ⟨?_, ?_, ?_, ?_⟩ <;> simp [su_app]
  have cb : ∀ (z : St) (p q w : Int32) (dh : Int32), XC σ t z 1 0 dh 0 → XC σ t (fX4_becomes z t p q w) 1 0 dh 0 := by
    intro z p q w dh h
    rw [x_bec]
    obtain ⟨q1, q2, q3, q4⟩ := h
    refine ⟨?_, ?_, ?_, ?_⟩
    · rw [← q1]; simp [su_app]
    · rw [← q2]; simp [su_app]
    · rw [← q3]; simp [su_app]
    · rw [← q4]; simp [su_app]
  have own6 : own s 6 < 7 := own_lt (by decide)
  have onw_lt : ∀ d, onw s c d < 7 := fun d => own_lt (by omega)
  have bck_lt : bck s c < 7 := own_lt (by have := own_lt (s := s) hc; omega)
  have l2 : (2 : Int32) = nI 2 := rfl
  have l0 : (0 : Int32) = nI 0 := rfl
  have l1 : (1 : Int32) = nI 1 := rfl
  have row : ∀ k, k < 17 → s1 r k = τ (35, 0) k := by
    intro k hk
    obtain ⟨v, -, e1, e2⟩ := hr.2.2.2 k hk
    rw [f1 r k (fun e => hr.2.2.1 (by rw [e])), e1, e2]
  obtain ⟨g10, t10⟩ := hr.at (show 10 < 17 by decide)
  obtain ⟨g11, t11⟩ := hr.at (show 11 < 17 by decide)
  obtain ⟨g12, t12⟩ := hr.at (show 12 < 17 by decide)
  obtain ⟨g14, t14⟩ := hr.at (show 14 < 17 by decide)
  have k10 : (10 : Int32) = nI 10 := rfl
  have k11 : (11 : Int32) = nI 11 := rfl
  have k12 : (12 : Int32) = nI 12 := rfl
  have k14 : (14 : Int32) = nI 14 := rfl
  have ca : a = 0 ∨ a = 1 ∨ a = 2 ∨ a = 3 ∨ a = 4 ∨ a = 5 ∨ a = 6 ∨ a = 7 ∨ a = 8 ∨ a = 9 := by omega
  unfold fX4_goOn fX9_does
  rw [x0, hox, m0, m2, bnd_eq, bnd_eq, hs1, s10]
  have scA : ∀ k, k = 8 ∨ k = 9 → ∃ σ' τ', (if s1 r (k + 3) ≤ 0 then some (fX4_becomes s1 t (fX8_fromOwnEnd (nI s) 6) 2 0) else some (fX4_score s1 t (nI s) (s1 r (k + 3)) (s1 r 14))) = some σ' ∧ fX9_scores τ (nI s) (nI k) = some τ' ∧ GR σ' t τ' ∧ xf t σ σ' ∧ mf τ τ' ∧ XC σ t σ' 1 0 0 0 := by
    intro k hk
    have hk17 : k + 3 < 17 := by omega
    obtain ⟨v, hv, e1, e2⟩ := hr.2.2.2 (k + 3) hk17
    have e3 : s1 r (k + 3) = nI v := by rw [row _ hk17, e2]
    have hi : (if k = 4 then 10 else k + 3) = k + 3 := by rw [if_neg (by omega)]
    by_cases v0 : 0 < v
    · obtain ⟨τ', q1, q2, q3, q4, q5⟩ := gr_score (σ := σ) (σ1 := s1) (τ := τ) (τ1 := τ) (t := t) hs v0 hv s14 s15 f1 mf.rf (k := k) (by omega) (by rw [hi, e2]) (w := s1 r 14) (row 14 (by decide)).symm
      have nv : ¬ nI v ≤ 0 := by rw [show (0 : Int32) = nI 0 from rfl, leI (by omega) (by decide)]; omega
      rw [e3, if_neg nv]
      refine ⟨_, _, rfl, q1, q2, q3, q4, ?_⟩
      obtain ⟨u1, u2, u3, u4⟩ := q5
      obtain ⟨w1, w2, w3, w4⟩ := c1
      exact ⟨by rw [u1, w1, a0], by rw [u2, w2, a0], by rw [u3, w3, a0], by rw [u4, w4, a0]⟩
    · have v0' : v = 0 := by omega
      subst v0'
      rw [e3, if_pos (show (nI 0 : Int32) ≤ 0 by decide), o62, l2]
      have eM : fX9_scores τ (nI s) (nI k) = some (fX9_ball (su (su τ (9, 0) 13 (τ (9, 0) 13)) (9, 0) 14 (τ (9, 0) 14)) (nI (own s 6)) (nI 2) (nI 0)) := by
        unfold fX9_scores
        have ix : (if (nI k : Int32) = 4 then (10 : Int32) else nI k + 3) = nI (k + 3) := by
          rcases hk with rfl | rfl <;> rfl
        have k7 : ¬ (nI k : Int32) ≤ 7 := by rcases hk with rfl | rfl <;> decide
        rw [bnd_eq, ix, (in17 hk17).1, grd_t, bnd_eq, (in17 hk17).2, e2]
        have zz : ∀ p : Prop, [Decidable p] → (if p then (nI 0 : Int32) else 0) = 0 := by intro p _; split <;> rfl
        have r10 : su (su τ (9, 0) 13 (τ (9, 0) 13)) (9, 0) 14 (τ (9, 0) 14) (9, 0) 10 = nI c := by simp [su_app, m0]
        have r14 : su τ (9, 0) 13 (τ (9, 0) 13) (9, 0) 14 = τ (9, 0) 14 := by simp [su_app]
        simp only [bnd_eq, zz, a0, show (nI 0 : Int32) ≤ 0 by decide, if_true, k7, if_false, r14, r10, o61]
        rfl
      obtain ⟨q1, q2, q3⟩ := gr_ball (σ := σ) (σ1 := s1) (τ := τ) (τ1 := su (su τ (9, 0) 13 (τ (9, 0) 13)) (9, 0) 14 (τ (9, 0) 14)) (t := t) own6 (show 2 < 3 by decide) (show 0 < 3 by decide) (by simp [su_app, s14]) (by simp [su_app, s15]) f1 ((mf.rf.st (by decide) _).st (by decide) _)
      exact ⟨_, _, rfl, eM, q1, q2, q3, cb _ _ _ _ _ c1⟩
  rcases ca with rfl | rfl | rfl | rfl | rfl | rfl | rfl | rfl | rfl | rfl
  · obtain ⟨q1, q2, q3⟩ := gr_ball (σ := σ) (σ1 := s1) (τ := τ) (τ1 := τ) (t := t) (onw_lt 2) (show 2 < 3 by decide) (show 2 < 3 by decide) s14 s15 f1 mf.rf
    simp only [show ((nI 0 : Int32) = 0) = True from eq_true (by decide), show ((nI 0 : Int32) = 1) = False from eq_false (by decide), show ((nI 0 : Int32) = 2) = False from eq_false (by decide), show ((nI 0 : Int32) = 3) = False from eq_false (by decide), show ((nI 0 : Int32) = 4) = False from eq_false (by decide), show ((nI 0 : Int32) = 5) = False from eq_false (by decide), show ((nI 0 : Int32) = 6) = False from eq_false (by decide), show ((nI 0 : Int32) = 7) = False from eq_false (by decide), show ((nI 0 : Int32) = 8) = False from eq_false (by decide), show ((nI 0 : Int32) = 9) = False from eq_false (by decide), or_self, or_true, true_or, if_true, if_false, bnd_eq]
    rw [o21, o22]
    exact ⟨_, _, rfl, rfl, q1, q2, q3, cb _ _ _ _ _ c1⟩
  · obtain ⟨q1, q2, q3⟩ := gr_ball (σ := σ) (σ1 := s1) (τ := τ) (τ1 := τ) (t := t) hc (show s < 3 by omega) (show 0 < 3 by decide) s14 s15 f1 mf.rf
    simp only [show ((nI 1 : Int32) = 0) = False from eq_false (by decide), show ((nI 1 : Int32) = 1) = True from eq_true (by decide), show ((nI 1 : Int32) = 2) = False from eq_false (by decide), show ((nI 1 : Int32) = 3) = False from eq_false (by decide), show ((nI 1 : Int32) = 4) = False from eq_false (by decide), show ((nI 1 : Int32) = 5) = False from eq_false (by decide), show ((nI 1 : Int32) = 6) = False from eq_false (by decide), show ((nI 1 : Int32) = 7) = False from eq_false (by decide), show ((nI 1 : Int32) = 8) = False from eq_false (by decide), show ((nI 1 : Int32) = 9) = False from eq_false (by decide), or_self, or_true, true_or, if_true, if_false, bnd_eq]
    exact ⟨_, _, rfl, rfl, q1, q2, q3, cb _ _ _ _ _ c1⟩
  · obtain ⟨q1, q2, q3⟩ := gr_ball (σ := σ) (σ1 := s1) (τ := τ) (τ1 := τ) (t := t) hc (show s < 3 by omega) (show 1 < 3 by decide) s14 s15 f1 mf.rf
    simp only [show ((nI 2 : Int32) = 0) = False from eq_false (by decide), show ((nI 2 : Int32) = 1) = False from eq_false (by decide), show ((nI 2 : Int32) = 2) = True from eq_true (by decide), show ((nI 2 : Int32) = 3) = False from eq_false (by decide), show ((nI 2 : Int32) = 4) = False from eq_false (by decide), show ((nI 2 : Int32) = 5) = False from eq_false (by decide), show ((nI 2 : Int32) = 6) = False from eq_false (by decide), show ((nI 2 : Int32) = 7) = False from eq_false (by decide), show ((nI 2 : Int32) = 8) = False from eq_false (by decide), show ((nI 2 : Int32) = 9) = False from eq_false (by decide), or_self, or_true, true_or, if_true, if_false, bnd_eq]
    exact ⟨_, _, rfl, rfl, q1, q2, q3, cb _ _ _ _ _ c1⟩
  · obtain ⟨q1, q2, q3⟩ := gr_ball (σ := σ) (σ1 := s1) (τ := τ) (τ1 := τ) (t := t) hc (show s < 3 by omega) (show 1 < 3 by decide) s14 s15 f1 mf.rf
    simp only [show ((nI 3 : Int32) = 0) = False from eq_false (by decide), show ((nI 3 : Int32) = 1) = False from eq_false (by decide), show ((nI 3 : Int32) = 2) = False from eq_false (by decide), show ((nI 3 : Int32) = 3) = True from eq_true (by decide), show ((nI 3 : Int32) = 4) = False from eq_false (by decide), show ((nI 3 : Int32) = 5) = False from eq_false (by decide), show ((nI 3 : Int32) = 6) = False from eq_false (by decide), show ((nI 3 : Int32) = 7) = False from eq_false (by decide), show ((nI 3 : Int32) = 8) = False from eq_false (by decide), show ((nI 3 : Int32) = 9) = False from eq_false (by decide), or_self, or_true, true_or, if_true, if_false, bnd_eq]
    exact ⟨_, _, rfl, rfl, q1, q2, q3, cb _ _ _ _ _ c1⟩
  · obtain ⟨ho', hlt⟩ := can_4 hc ho hl hs hcb
    obtain ⟨p1, p2, p3⟩ := on_1 s hs c hc hlt
    simp only [show ((nI 4 : Int32) = 0) = False from eq_false (by decide), show ((nI 4 : Int32) = 1) = False from eq_false (by decide), show ((nI 4 : Int32) = 2) = False from eq_false (by decide), show ((nI 4 : Int32) = 3) = False from eq_false (by decide), show ((nI 4 : Int32) = 4) = True from eq_true (by decide), show ((nI 4 : Int32) = 5) = False from eq_false (by decide), show ((nI 4 : Int32) = 6) = False from eq_false (by decide), show ((nI 4 : Int32) = 7) = False from eq_false (by decide), show ((nI 4 : Int32) = 8) = False from eq_false (by decide), show ((nI 4 : Int32) = 9) = False from eq_false (by decide), or_self, or_true, true_or, if_true, if_false, bnd_eq]
    rw [p1, p2]
    generalize hs5 : su s1 (4, t) 0 (nI (onw s c 1)) = s5
    generalize hm4 : fX9_ball τ (nI (onw s c 1)) (nI s) (nI l) = t4
    have f5 : xf t σ s5 := by subst hs5; exact f1.su _ _
    have g4 : mf τ t4 := by subst hm4; rw [m_ball]; exact ((mf.rf.st (by decide) _).st (by decide) _).st (by decide) _
    have c5 : XC σ t s5 1 0 0 0 := by
      subst hs5
      obtain ⟨w1, w2, w3, w4⟩ := c1
      exact ⟨by rw [← w1]; simp [su_app], by rw [← w2]; simp [su_app], by rw [← w3]; simp [su_app], by rw [← w4]; simp [su_app]⟩
    have s52 : s5 (4, t) 2 = nI l := by subst hs5; simp [su_app, s12]
    have s54 : s5 (4, t) 4 = t4 (9, 0) 13 := by subst hs5 hm4; rw [m_ball]; simp [su_app, s14]
    have s55 : s5 (4, t) 5 = t4 (9, 0) 14 := by subst hs5 hm4; rw [m_ball]; simp [su_app, s15]
    have t412 : t4 (9, 0) 12 = nI l := by subst hm4; rw [m_ball]; simp [su_app]
    have t410 : t4 (9, 0) 10 = nI (onw s c 1) := by subst hm4; rw [m_ball]; simp [su_app]
    have gr5 : GR s5 t t4 := by
      refine ⟨onw s c 1, o, l, onw_lt 1, ho, hl, by subst hs5; simp [su_app], t410, ?_, ?_, s52, t412, s54, s55⟩
      · subst hs5 hs1; simp [su_app, x1]
      · subst hm4; rw [m_ball, ho']; simp [su_app]
    have r5 : ∀ k, k < 17 → s5 r k = t4 (35, 0) k := by
      intro k hk
      rw [f5 r k (fun e => hr.2.2.1 (by rw [e])), g4 _ _ (by simp)]
      obtain ⟨v, -, e1, e2⟩ := hr.2.2.2 k hk
      rw [e1, e2]
    rw [s52, t412]
    by_cases cl : (nI l : Int32) = 1
    case neg =>
      rw [if_neg cl, if_neg cl]
      exact ⟨_, _, rfl, rfl, gr5, f5, g4, c5⟩
    rw [if_pos cl, if_pos cl, t410]
    by_cases c6 : nI (own s c) + 1 = 6
    case neg =>
      rw [if_neg c6, if_neg (fun e => c6 (p3.2 e))]
      exact ⟨_, _, rfl, rfl, gr5, f5, g4, c5⟩
    rw [if_pos c6, if_pos (p3.1 c6), k10, g10, grd_t, t10, k14, g14, t14, grd_t, grd_t]
    obtain ⟨v, hv, e1, e2⟩ := hr.2.2.2 10 (by decide)
    have e3 : s5 r 10 = nI v := by rw [f5 r _ (fun e => hr.2.2.1 (by rw [e])), e1]
    have e4 : t4 (35, 0) 10 = nI v := by rw [g4 _ _ (by simp), e2]
    rw [e3]
    by_cases v0 : 0 < v
    · obtain ⟨τ', q1, q2, q3, q4, q5⟩ := gr_score (σ := σ) (σ1 := s5) (τ := τ) (τ1 := t4) (t := t) hs v0 hv s54 s55 f5 g4 (k := 4) (Or.inl rfl) e4 (w := s5 r 14) (r5 14 (by decide)).symm
      have nv : ¬ nI v ≤ 0 := by rw [show (0 : Int32) = nI 0 from rfl, leI (by omega) (by decide)]; omega
      rw [if_neg nv, q1, obi_s]
      refine ⟨_, _, rfl, rfl, q2, q3, q4, ?_⟩
      obtain ⟨u1, u2, u3, u4⟩ := q5
      obtain ⟨w1, w2, w3, w4⟩ := c5
      exact ⟨by rw [u1, w1, a0], by rw [u2, w2, a0], by rw [u3, w3, a0]; rfl, by rw [u4, w4, a0]⟩
    · have v0' : v = 0 := by omega
      subst v0'
      rw [if_pos (show (nI 0 : Int32) ≤ 0 by decide)]
      have eM : fX9_scores t4 (nI s) (nI 4) = some t4 := by
        unfold fX9_scores
        rw [bnd_eq, show (if (nI 4 : Int32) = 4 then (10 : Int32) else nI 4 + 3) = nI 10 from rfl, (in17 (show 10 < 17 by decide)).1, grd_t, bnd_eq, (in17 (show 10 < 17 by decide)).2, e4]
        have zz : ∀ p : Prop, [Decidable p] → (if p then (nI 0 : Int32) else 0) = 0 := by intro p _; split <;> rfl
        simp only [bnd_eq, zz, a0, show (nI 0 : Int32) ≤ 0 by decide, if_true, show (nI 4 : Int32) ≤ 7 by decide]
        rw [su_same t4 _ _ rfl, su_same t4 _ _ rfl]
      rw [eM, obi_s]
      exact ⟨_, _, rfl, rfl, gr5, f5, g4, c5⟩
  · obtain ⟨q1, q2, q3⟩ := gr_ball (σ := σ) (σ1 := s1) (τ := τ) (τ1 := τ) (t := t) bck_lt (show 2 < 3 by decide) (show 2 < 3 by decide) s14 s15 f1 mf.rf
    simp only [show ((nI 5 : Int32) = 0) = False from eq_false (by decide), show ((nI 5 : Int32) = 1) = False from eq_false (by decide), show ((nI 5 : Int32) = 2) = False from eq_false (by decide), show ((nI 5 : Int32) = 3) = False from eq_false (by decide), show ((nI 5 : Int32) = 4) = False from eq_false (by decide), show ((nI 5 : Int32) = 5) = True from eq_true (by decide), show ((nI 5 : Int32) = 6) = False from eq_false (by decide), show ((nI 5 : Int32) = 7) = False from eq_false (by decide), show ((nI 5 : Int32) = 8) = False from eq_false (by decide), show ((nI 5 : Int32) = 9) = False from eq_false (by decide), or_self, or_true, true_or, if_true, if_false, bnd_eq]
    rw [ob1, ob2]
    exact ⟨_, _, rfl, rfl, q1, q2, q3, cb _ _ _ _ _ c1⟩
  · obtain ⟨q1, q2, q3⟩ := gr_ball (σ := σ) (σ1 := s1) (τ := τ) (τ1 := τ) (t := t) (onw_lt 2) (show 2 < 3 by decide) (show 2 < 3 by decide) s14 s15 f1 mf.rf
    simp only [show ((nI 6 : Int32) = 0) = False from eq_false (by decide), show ((nI 6 : Int32) = 1) = False from eq_false (by decide), show ((nI 6 : Int32) = 2) = False from eq_false (by decide), show ((nI 6 : Int32) = 3) = False from eq_false (by decide), show ((nI 6 : Int32) = 4) = False from eq_false (by decide), show ((nI 6 : Int32) = 5) = False from eq_false (by decide), show ((nI 6 : Int32) = 6) = True from eq_true (by decide), show ((nI 6 : Int32) = 7) = False from eq_false (by decide), show ((nI 6 : Int32) = 8) = False from eq_false (by decide), show ((nI 6 : Int32) = 9) = False from eq_false (by decide), or_self, or_true, true_or, if_true, if_false, bnd_eq]
    rw [o21, o22]
    exact ⟨_, _, rfl, rfl, q1, q2, q3, cb _ _ _ _ _ c1⟩
  · generalize hs8 : su s1 (4, t) 8 (s1 (4, t) 8 + 1) = s8
    have f8 : xf t σ s8 := by subst hs8; exact f1.su _ _
    have c8 : XC σ t s8 1 0 1 0 := by
      subst hs8
      obtain ⟨w1, w2, w3, w4⟩ := c1
      exact ⟨by rw [← w1]; simp [su_app], by rw [← w2]; simp [su_app], by rw [su_hit, w3, a0], by rw [← w4]; simp [su_app]⟩
    obtain ⟨q1, q2, q3⟩ := gr_ball (σ := σ) (σ1 := s8) (τ := τ) (τ1 := τ) (t := t) hc (show 2 < 3 by decide) (show 0 < 3 by decide) (by subst hs8; simp [su_app, s14]) (by subst hs8; simp [su_app, s15]) f8 mf.rf
    simp only [show ((nI 7 : Int32) = 0) = False from eq_false (by decide), show ((nI 7 : Int32) = 1) = False from eq_false (by decide), show ((nI 7 : Int32) = 2) = False from eq_false (by decide), show ((nI 7 : Int32) = 3) = False from eq_false (by decide), show ((nI 7 : Int32) = 4) = False from eq_false (by decide), show ((nI 7 : Int32) = 5) = False from eq_false (by decide), show ((nI 7 : Int32) = 6) = False from eq_false (by decide), show ((nI 7 : Int32) = 7) = True from eq_true (by decide), show ((nI 7 : Int32) = 8) = False from eq_false (by decide), show ((nI 7 : Int32) = 9) = False from eq_false (by decide), or_self, or_true, true_or, if_true, if_false, bnd_eq]
    rw [show s8 (4, t) 0 = nI c by subst hs8; simp [su_app, s10]]
    exact ⟨_, _, rfl, rfl, q1, q2, q3, cb _ _ _ _ _ c8⟩
  · obtain ⟨σ', τ', q1, q2, q3⟩ := scA 8 (Or.inl rfl)
    simp only [show ((nI 8 : Int32) = 0) = False from eq_false (by decide), show ((nI 8 : Int32) = 1) = False from eq_false (by decide), show ((nI 8 : Int32) = 2) = False from eq_false (by decide), show ((nI 8 : Int32) = 3) = False from eq_false (by decide), show ((nI 8 : Int32) = 4) = False from eq_false (by decide), show ((nI 8 : Int32) = 5) = False from eq_false (by decide), show ((nI 8 : Int32) = 6) = False from eq_false (by decide), show ((nI 8 : Int32) = 7) = False from eq_false (by decide), show ((nI 8 : Int32) = 8) = True from eq_true (by decide), show ((nI 8 : Int32) = 9) = False from eq_false (by decide), or_self, or_true, true_or, if_true, if_false, bnd_eq]
    rw [k11, g11, grd_t, t11, obi_s, k14, g14, grd_t, t14, q2, obi_s]
    exact ⟨σ', τ', q1, rfl, q3⟩
  · obtain ⟨σ', τ', q1, q2, q3⟩ := scA 9 (Or.inr rfl)
    simp only [show ((nI 9 : Int32) = 0) = False from eq_false (by decide), show ((nI 9 : Int32) = 1) = False from eq_false (by decide), show ((nI 9 : Int32) = 2) = False from eq_false (by decide), show ((nI 9 : Int32) = 3) = False from eq_false (by decide), show ((nI 9 : Int32) = 4) = False from eq_false (by decide), show ((nI 9 : Int32) = 5) = False from eq_false (by decide), show ((nI 9 : Int32) = 6) = False from eq_false (by decide), show ((nI 9 : Int32) = 7) = False from eq_false (by decide), show ((nI 9 : Int32) = 8) = False from eq_false (by decide), show ((nI 9 : Int32) = 9) = True from eq_true (by decide), or_self, or_true, true_or, if_true, if_false, bnd_eq]
    rw [k12, g12, grd_t, t12, obi_s, k14, g14, grd_t, t14, q2, obi_s]
    exact ⟨σ', τ', q1, rfl, q3⟩
