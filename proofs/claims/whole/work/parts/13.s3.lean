/-! ===== who is hurt ===== -/
theorem steps22 {τ τ' : St} {a w : Int32} {h : Nat} (e : fX9_steps τ a = some (w, τ')) (eh : τ (9, 0) 22 = nI h) : ∃ h' : Nat, h' ≤ h + 1 ∧ τ' (9, 0) 22 = nI h' := by
  unfold fX9_steps at e
  cases hb : inb (((40 : Int32) * a) + (τ (9, 0) 23)) 480 with
  | false => rw [hb, grd_f] at e; cases e
  | true =>
    rw [hb, grd_t, bnd_eq, bnd_eq] at e
    by_cases c : τ (37, 0) (tn (((40 : Int32) * a) + (τ (9, 0) 23))) = -1
    · rw [if_pos c] at e
      have e' := (Prod.mk.inj (Option.some.inj e)).2
      refine ⟨h, by omega, ?_⟩
      rw [← e', su_slot _ _ _ _ (by decide), eh]
    · rw [if_neg c] at e
      cases hg : fX9_goesOn (su τ (9, 0) 23 ((τ (9, 0) 23) + (1 : Int32))) (τ (37, 0) (tn (((40 : Int32) * a) + (τ (9, 0) 23)))) (-1 : Int32) with
      | none => rw [hg] at e; cases e
      | some p =>
        obtain ⟨x2, σ2⟩ := p
        have mg := mX9_goesOn hg
        have e2 : σ2 (9, 0) 22 = nI h := by
          rw [mg (9, 0) 22 (by rw [cod_o (by decide)]; decide), su_slot _ _ _ _ (by decide), eh]
        rw [hg, obi_s] at e
        simp only [bnd_eq] at e
        have e' := (Prod.mk.inj (Option.some.inj e)).2
        rw [← e', su_hit, su_slot _ _ _ _ (by decide), su_slot _ _ _ _ (by decide), e2]
        split
        · split
          · exact ⟨h + 1, by omega, by rw [← nI_1]⟩
          · exact ⟨h, by omega, by simp⟩
        · exact ⟨h, by omega, by simp⟩
theorem g_plays2 {σ τ : St} {t m n : Nat} {r : Rf} (hr : RK σ r τ) (hp : PM σ τ m n) : ∃ σ' τ', fX3_playUnder σ m r t = some σ' ∧ fX9_plays τ (nI m) = some τ' ∧ GQ σ' t τ' ∧ xf t σ σ' ∧ mg τ τ' ∧ ∃ h : Nat, h ≤ 40 ∧ τ' (9, 0) 22 = nI h := by
  obtain ⟨b1, b2, b3, b4⟩ := g_begin (σ := σ) (τ := τ) t
  have h40 := hp.2.1
  unfold fX3_playUnder fX9_plays
  rw [bnd_eq, bnd_eq]
  have z22 : fX9_clears τ (9, 0) 22 = nI 0 := by
    unfold fX9_clears
    simp only [bnd_eq]
    rw [su_slot _ _ _ _ (by decide), su_hit]
    rfl
  refine lpF2 (Q := fun σ' τ' => GQ σ' t τ' ∧ xf t σ σ' ∧ mg τ τ' ∧ ∃ h : Nat, h ≤ 40 ∧ τ' (9, 0) 22 = nI h) (fun d a b => ∃ i, d + i = n ∧ a.1 = nI i ∧ GQ a.2 t b ∧ xf t σ a.2 ∧ mg τ b ∧ b (9, 0) 23 = nI i ∧ ∃ h : Nat, h ≤ i ∧ b (9, 0) 22 = nI h) ?_ (d := n) (by omega) ⟨0, rfl, rfl, b1, b2, b3, b4, 0, by omega, z22⟩
  rintro d ⟨x, s⟩ s' ⟨i, hd, rfl, hq, fx, fm, e23, h, hh, e22⟩
  replace hq : GQ s t s' := hq
  replace fx : xf t σ s := fx
  have hr' := hr.mg fx fm
  have hp' := hp.mv fx fm
  obtain ⟨b, o1, o2⟩ := g_over hq hr' hp' (show i ≤ n by omega) e23
  have sz : s (3, m) 2 = nI n := hp'.2.2.1
  by_cases ci : i = n
  · subst ci
    refine Or.inr ⟨s, s', ?_, ?_, hq, fx, fm, h, by omega, e22⟩
    · simp only [sz, leI (show i < 2 ^ 31 by omega) (show i < 2 ^ 31 by omega), Nat.le_refl, if_true]
    · simp only [o2, decide_true, Bool.true_or, obi_s, if_true]
  · have hin : i < n := by omega
    rw [show decide (i = n) = false from decide_eq_false ci, Bool.false_or] at o2
    have ns : ¬ nI n ≤ nI i := by rw [leI (by omega) (by omega)]; omega
    cases b with
    | true =>
      refine Or.inr ⟨s, s', ?_, ?_, hq, fx, fm, h, by omega, e22⟩
      · simp only [sz, ns, if_false, o1, obi_s, if_true]
      · simp only [o2, obi_s, if_true]
    | false =>
      obtain ⟨w, s2, t2, q1, q2, q3, q4, q5, q6⟩ := gq_step (v := s (13, m) i) hq hr' hp'.1 (show i < 40 by omega) e23 (hp'.2.2.2.2 i hin).1
      have i40 : inb (nI i) 40 = true := by rw [inb_nI (by omega)]; simp; omega
      obtain ⟨h', hh', e22'⟩ := steps22 q2 e22
      refine Or.inl ⟨(nI (i + 1), s2), t2, d - 1, ?_, ?_, by omega, i + 1, by omega, rfl, q3, fx.tr q4, fm.tr q5, q6, h', by omega, e22'⟩
      · simp only [sz, ns, if_false, o1, obi_s, Bool.false_eq_true, i40, grd_t, tn_nI (show i < 2 ^ 31 by omega), q1, bnd_eq, nI_1]
      · simp only [o2, obi_s, Bool.false_eq_true, if_false, q2]
abbrev BP : List Nat := [28, 1200, 1201, 1202, 31, 32, 33, 34, 35, 1906, 1907, 1908, 1910, 1911, 1912, 1913, 1914, 1920, 1921, 1922, 1923, 1400, 1401, 1402, 1403, 1404, 1405, 1406, 1407, 1408, 1409]
theorem BP_Iv : ∀ x ∈ dIv, ¬ x ∈ BP := by decide
theorem pm_two {σ s τ : St} (hI : Iv σ) (h1 : modi BP σ s) (h2 : modi BP σ τ) {m : Nat} (hm : m < 12) : ∃ n, PM s τ m n := by
  obtain ⟨n, p1, p2, p3, p4, p5⟩ := Im_PM hI hm
  refine ⟨n, p1, p2, by rw [h1 (3, m) 2 (by rw [cod_o (by decide)]; decide), p3], by rw [h2 (36, 0) m (by rw [cod_a (by decide)]; decide), p4], fun k hk => ?_⟩
  rw [h2 (37, 0) _ (by rw [cod_a (by decide)]; decide), h2 (38, 0) _ (by rw [cod_a (by decide)]; decide), h1 (13, m) _ (by rw [cod_a (by decide)]; decide), h1 (14, m) _ (by rw [cod_a (by decide)]; decide)]
  exact p5 k hk
theorem hurt2 {σ s τ : St} (hI : Iv σ) (h1 : modi BP σ s) (h2 : modi BP σ τ) {f : Nat → Int32} (hf : itOk f) (r1 : ∀ k, k < 17 → s (28, 0) k = f k) (r2 : ∀ k, k < 17 → τ (35, 0) k = f k) : ∃ (v : Nat) (s' τ' : St), v ≤ 480 ∧ fX8_hurtInAll s = some (nI v, s') ∧ fX9_hurtNow τ = some (nI v, τ') := by
  obtain ⟨nm, hnm, e1, e2⟩ := match_at hI
  have key : ∃ (x y : Int32 × St), fX8_hurtInAll s = some x ∧ fX9_hurtNow τ = some y ∧ (∃ v : Nat, v ≤ 480 ∧ x.1 = nI v ∧ y.1 = nI v) := by
    unfold fX8_hurtInAll fX9_hurtNow
    refine lpF2 (A := Int32 × Int32 × St) (B := Int32 × Int32 × St) (Q := fun (x y : Int32 × St) => ∃ v : Nat, v ≤ 480 ∧ x.1 = nI v ∧ y.1 = nI v) (fun d a b => ∃ i v : Nat, d + i = nm ∧ v ≤ 40 * i ∧ a.1 = nI v ∧ b.1 = nI v ∧ a.2.1 = nI i ∧ b.2.1 = nI i ∧ xf 0 s a.2.2 ∧ mg τ b.2.2) ?_ (d := nm) (by omega) ⟨0, 0, rfl, by omega, rfl, rfl, rfl, rfl, xf.rf, mg.rf⟩
    rintro d ⟨x, y, s1⟩ ⟨x', y', t1⟩ ⟨i, v, hd, hv, rfl, rfl, rfl, rfl, fx, fm⟩
    replace fx : xf 0 s s1 := fx
    replace fm : mg τ t1 := fm
    have c1 : s1 (8, 0) 10 = nI nm := by rw [fx (8, 0) 10 (by decide), h1 (8, 0) 10 (by rw [cod_o (by decide)]; decide), e1]
    have c2 : t1 (9, 0) 15 = nI nm := by rw [fm (9, 0) 15 (by simp), h2 (9, 0) 15 (by rw [cod_o (by decide)]; decide), e2]
    by_cases ci : i = nm
    · refine Or.inr ⟨(nI v, s1), (nI v, t1), ?_, ?_, v, by omega, rfl, rfl⟩
      · show (if s1 (8, 0) 10 ≤ nI i then _ else _) = _
        rw [c1, if_pos (by rw [leI (by omega) (by omega)]; omega)]
      · show (if t1 (9, 0) 15 ≤ nI i then _ else _) = _
        rw [c2, if_pos (by rw [leI (by omega) (by omega)]; omega)]
    · obtain ⟨n, pm⟩ := pm_two hI h1 h2 (show i < 12 by omega)
      have rk : RK s (28, 0) τ := by
        refine ⟨by decide, rfl, by decide, fun k hk => ?_⟩
        obtain ⟨w, hw, ew⟩ := hf k hk
        exact ⟨w, hw, by rw [r1 k hk, ew], by rw [r2 k hk, ew]⟩
      obtain ⟨s2, t2, g1, g2, g3, g4, g5, h, hh, g6⟩ := g_plays2 (t := 0) (rk.mg fx fm) (pm.mv fx fm)
      have g8 : s2 (4, 0) 8 = nI h := by rw [g3.2.2.2.1, g6]
      obtain ⟨i1, i2⟩ := in12 (show i < 12 by omega)
      refine Or.inl ⟨(nI (v + h), nI (i + 1), s2), (nI (v + h), nI (i + 1), t2), d - 1, ?_, ?_, by omega, i + 1, v + h, by omega, by omega, rfl, rfl, rfl, rfl, fx.tr g4, fm.tr g5⟩
      · show (if s1 (8, 0) 10 ≤ nI i then _ else _) = _
        rw [c1, if_neg (by rw [leI (by omega) (by omega)]; omega), i1, grd_t, i2, g1, obi_s, bnd_eq, bnd_eq, g8, nI_add, nI_1]
      · show (if t1 (9, 0) 15 ≤ nI i then _ else _) = _
        rw [c2, if_neg (by rw [leI (by omega) (by omega)]; omega), g2, obi_s, bnd_eq, bnd_eq, g6, nI_add, nI_1]
  obtain ⟨⟨x, s'⟩, ⟨y, τ'⟩, k1, k2, v, hv, rfl, rfl⟩ := key
  exact ⟨v, s', τ', hv, k1, k2⟩
/-- how many are hurt in all matches under the row f -/
def HU (σ : St) (f : Nat → Int32) : Int32 := match fX8_hurtInAll (srg σ (28, 0) 0 17 f) with
  | some (v, _) => v
  | none => 0
theorem hurts {σ : St} (hI : Iv σ) {f : Nat → Int32} (hf : itOk f) : ∃ v : Nat, v ≤ 480 ∧ HU σ f = nI v ∧ (∀ s, modi BP σ s → (∀ k, k < 17 → s (28, 0) k = f k) → ∃ s', fX8_hurtInAll s = some (nI v, s')) ∧ ∀ τ, modi BP σ τ → (∀ k, k < 17 → τ (35, 0) k = f k) → ∃ τ', fX9_hurtNow τ = some (nI v, τ') := by
  have m0 : modi BP σ (srg σ (28, 0) 0 17 f) := (modi.rf (L := BP)).srg (by decide) (by decide)
  have r0 : ∀ k, k < 17 → srg σ (28, 0) 0 17 f (28, 0) k = f k := fun k hk => by rw [srg_app, if_pos ⟨rfl, by omega, by omega⟩, Nat.sub_zero]
  have m9 : modi BP σ (srg σ (35, 0) 0 17 f) := (modi.rf (L := BP)).srg (by decide) (by decide)
  have r9 : ∀ k, k < 17 → srg σ (35, 0) 0 17 f (35, 0) k = f k := fun k hk => by rw [srg_app, if_pos ⟨rfl, by omega, by omega⟩, Nat.sub_zero]
  obtain ⟨v, s', t', hv, e1, e2⟩ := hurt2 hI m0 m9 hf r0 r9
  refine ⟨v, hv, ?_, fun s hs hr => ?_, fun τ hτ hr => ?_⟩
  · unfold HU
    rw [e1]
  · obtain ⟨v', s', t'', hv', e1', e2'⟩ := hurt2 hI hs m9 hf hr r9
    have := (Prod.mk.inj (Option.some.inj (e2'.symm.trans e2))).1
    exact ⟨s', by rw [e1', this]⟩
  · obtain ⟨v', s', t'', hv', e1', e2'⟩ := hurt2 hI m0 hτ hf r0 hr
    have := (Prod.mk.inj (Option.some.inj (e1'.symm.trans e1))).1
    exact ⟨t'', by rw [e2', this]⟩
theorem HU_cong {σ : St} {f g : Nat → Int32} (h : ∀ k, k < 17 → f k = g k) : HU σ f = HU σ g := by
  have : srg σ (28, 0) 0 17 f = srg σ (28, 0) 0 17 g := by
    funext r k
    rw [srg_app, srg_app]
    by_cases c : r = (28, 0) ∧ 0 ≤ k ∧ k < 0 + 17
    · rw [if_pos c, if_pos c, h _ (by omega)]
    · rw [if_neg c, if_neg c]
  unfold HU
  rw [this]
