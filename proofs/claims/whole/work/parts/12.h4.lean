set_option maxHeartbeats 4000000 in
theorem op_between {σ : St} (hI : Ix σ) (a1 a2 a3 a4 : Int32) : ∃ v σ1 σ2, fX8_between σ a1 a2 a3 a4 = some (v, σ1) ∧ fX9_between σ1 a1 a2 a3 a4 = some (v, σ2) ∧ Ix σ2 := by
  obtain ⟨nm, hnm, e1, e2⟩ := match_at hI.1
  obtain ⟨nc, hnc, n1, n2⟩ := club_at hI.1
  have uM : ∀ s : St, s (9, 0) 15 = nI nm → s (9, 0) 28 = nI nc → fX9_between s a1 a2 a3 a4 = (if (inb a1 nc && (inb a2 nc && !(decide (a1 = a2)))) = true then if inb a3 nm = true then if inb a4 9 = true then obi (fX9_doAgree s a1 a2) (fun (x1, σ1) =>
        if x1 = true then
          grd (inb a1 12) (
          grd (inb a2 12) (
          obi (fX9_givesOf σ1 a1 a2) (fun (x2, σ2) =>
          obi (fX9_mix σ2 (σ1 (44, 0) (tn a1)) (σ1 (44, 0) (tn a2)) x2) (fun σ3 =>
          obi (fX9_plays σ3 a3) (fun σ4 =>
          some (fX9_toldOf σ4 a4, σ4))))))
        else
          some ((-3 : Int32), σ1)) else some (-2, s) else some (-2, s) else some (-2, s)) := by
    intro s h1 h2
    unfold fX9_between
    rw [areTwo_m (by omega) h2, m_isMatch (by omega) h1, rM a4 9 8 (by decide)]
  unfold fX8_between
  rw [areTwo_x (by omega) n1, x_isMatch (by omega) e1, x_isPW]
  by_cases c1 : (inb a1 nc && (inb a2 nc && !(decide (a1 = a2)))) = true
  case neg => exact ⟨-2, σ, σ, by rw [if_neg c1], by rw [uM σ e2 n2, if_neg c1], hI⟩
  by_cases c2 : inb a3 nm = true
  case neg => exact ⟨-2, σ, σ, by rw [if_pos c1, if_neg c2], by rw [uM σ e2 n2, if_pos c1, if_neg c2], hI⟩
  by_cases c3 : inb a4 9 = true
  case neg => exact ⟨-2, σ, σ, by rw [if_pos c1, if_pos c2, if_neg c3], by rw [uM σ e2 n2, if_pos c1, if_pos c2, if_neg c3], hI⟩
  rw [if_pos c1, if_pos c2, if_pos c3]
  have c1' := c1
  obtain ⟨i, j, hi, hj, hij, rfl, rfl⟩ := areTwo_ex hnc c1'
  obtain ⟨m, hm, rfl⟩ := inb_ex (by omega) c2
  obtain ⟨w, hw, rfl⟩ := inb_ex (by decide) c3
  have hi12 : i < 12 := by omega
  have hj12 : j < 12 := by omega
  obtain ⟨ki, h, m', q1, -, -, e1i, e2i, e3i, e4i, -⟩ := club_x hI.1 hi12
  obtain ⟨kj, h', m'', q2, -, -, f1, f2, f3, f4, -⟩ := club_x hI.1 hj12
  rw [x_atOdds hi12 hj12 q1 q2 e1i f1, obi_s, e3i, f3]
  by_cases d : (dm (σ (11, ki)) (σ (11, kj)) 17 &&& nI h) &&& nI h' = 0
  case neg =>
    obtain ⟨s, e, w1, w2⟩ := m_doAgree hi12 hj12 q1 q2 e2i f2 e4i f4 hI.2
    refine ⟨-3, σ, s, by rw [if_neg d], ?_, hI.rd w2 w1⟩
    rw [uM σ e2 n2, if_pos c1, if_pos c2, if_pos c3, e, obi_s]
    simp only [d, decide_false, Bool.false_eq_true, if_false]
  rw [if_pos d, bnd_eq, bnd_eq, (mm_lt hi12 hj12).1, (mm_lt hi12 hj12).2]
  -- the class's mixed row
  have key : ∃ s1, obi (fX8_itemsOf σ (nI (min i j))) (fun x4 =>
          obi (fX8_itemsOf σ (nI (max i j))) (fun x5 =>
          obi (fX8_givenBy σ (nI (min i j)) (nI (max i j))) (fun x6 =>
          obi (fX8_mix σ x4 x5 x6) (fun σ1 =>
          grd (inb (nI m) 12) (
          obi (fX3_playUnder σ1 (tn (nI m)) (28, 0) 0) (fun σ2 =>
          some (fX4_answer σ2 0 (nI w), σ2))))))) = obi (fX3_playUnder s1 m (28, 0) 0) (fun σ2 => some (fX4_answer σ2 0 (nI w), σ2)) ∧ modi [28] σ s1 ∧ ∀ k, k < 17 → s1 (28, 0) k = mixf (dm (σ (11, ki)) (σ (11, kj)) 17 &&& (nI h' ||| (if j ≤ i then nI h ^^^ (-1) else 0))) (σ (11, ki)) (σ (11, kj)) k := by
    obtain ⟨i1, i2⟩ := in12 (show m < 12 by omega)
    by_cases lt : i < j
    · rw [Nat.min_eq_left (by omega), Nat.max_eq_right (by omega), x_itemsOf hi12 q1 e1i, obi_s, x_itemsOf hj12 q2 f1, obi_s, x_givenBy hi12 hj12 q1 q2 e1i f1, obi_s, if_neg (by omega), if_neg (by omega), Int32.or_zero, f3, i1, i2]
      have em := x_mix (σ := σ) (r1 := (11, ki)) (r2 := (11, kj)) (ia_of (f := 11) rfl q1) (ia_of (f := 11) rfl q2) rfl rfl (by simp) (by simp) (dm (σ (11, ki)) (σ (11, kj)) 17 &&& nI h')
      refine ⟨_, by rw [em, obi_s, grd_t], mX8_mix em, fun k hk => ?_⟩
      rw [srg_app, if_pos ⟨rfl, by omega, by omega⟩, Nat.sub_zero]
    · rw [Nat.min_eq_right (by omega), Nat.max_eq_left (by omega), x_itemsOf hj12 q2 f1, obi_s, x_itemsOf hi12 q1 e1i, obi_s, x_givenBy hj12 hi12 q2 q1 f1 e1i, obi_s, if_neg (by omega), if_pos (by omega), e3i, i1, i2]
      have em := x_mix (σ := σ) (r1 := (11, kj)) (r2 := (11, ki)) (ia_of (f := 11) rfl q2) (ia_of (f := 11) rfl q1) rfl rfl (by simp) (by simp) (dm (σ (11, kj)) (σ (11, ki)) 17 &&& nI h)
      refine ⟨_, by rw [em, obi_s, grd_t], mX8_mix em, fun k hk => ?_⟩
      rw [srg_app, if_pos ⟨rfl, by omega, by omega⟩, Nat.sub_zero]
      exact mix_swap _ _ _ _ d hk
  obtain ⟨s1, eX, m1, row⟩ := key
  rw [eX]
  have hs : Id s1 := dep_Id.mv m1 (by decide) hI.2
  have hv1 : Iv s1 := hI.1.mv m1 (by decide)
  obtain ⟨n, pm⟩ := Im_PM hv1 (show m < 12 by omega)
  have r11 : ∀ q, s1 (11, q) = σ (11, q) := fun q => by funext k; exact m1 _ _ (by rw [cod_a (by decide)]; decide)
  generalize hg : dm (σ (11, ki)) (σ (11, kj)) 17 &&& (nI h' ||| (if j ≤ i then nI h ^^^ (-1) else 0)) = g at row
  have rr : ∀ k, k < 17 → s1 (28, 0) k = mixf g (s1 (11, ki)) (s1 (11, kj)) k := by
    intro k hk
    rw [r11, r11, row k hk]
  obtain ⟨σ', -, -, p1, -⟩ := play_go (a := g) (r := (28, 0)) hs modi.rf hs pm q1 q2 (by decide) rfl (by decide) rr
  have mp := mX3_playUnder p1
  have hs' : Id σ' := dep_Id.mv mp (by decide) hs
  have mall : modi (28 :: XP) σ σ' := modi.tr (modi.tr (modi.rf (L := 28 :: XP)) m1 (by decide)) mp (by decide)
  have t44 : ∀ k, σ' (44, 0) k = σ (44, 0) k := fun k => mall _ _ (by rw [cod_a (by decide)]; decide)
  have t45 : ∀ k, σ' (45, 0) k = σ (45, 0) k := fun k => mall _ _ (by rw [cod_a (by decide)]; decide)
  have t11 : ∀ q, σ' (11, q) = σ (11, q) := fun q => by funext k; exact mall _ _ (by rw [cod_a (by decide)]; decide)
  obtain ⟨τa, ea, ha1, ha2⟩ := m_doAgree hi12 hj12 q1 q2 (show σ' (44, 0) i = nI ki by rw [t44, e2i]) (show σ' (44, 0) j = nI kj by rw [t44, f2]) (show σ' (45, 0) i = nI h by rw [t45, e4i]) (show σ' (45, 0) j = nI h' by rw [t45, f4]) hs'
  rw [t11, t11] at ea
  obtain ⟨τb, eb, hb1, hb2⟩ := m_givesOf hi12 hj12 q1 q2 (show τa (44, 0) i = nI ki by rw [ha2.M (by simp), t44, e2i]) (show τa (44, 0) j = nI kj by rw [ha2.M (by simp), t44, f2]) ha1
  have a11 : ∀ q, τa (11, q) = σ (11, q) := fun q => by rw [← t11]; funext k; exact ha2.X (by simp)
  rw [a11, a11, ha2.M (by simp), ha2.M (by simp), t45, t45, e4i, f4, hg] at eb
  have mb : modi AP s1 τb := modi.tr (modi.tr (modi.tr (modi.rf (L := AP)) mp (by decide)) ha2 (by decide)) hb2 (by decide)
  obtain ⟨σ'', τ1, τ2, p1', p2, p3, p4, p5, p6⟩ := play_go (a := g) (r := (28, 0)) hb1 mb hs pm q1 q2 (by decide) rfl (by decide) rr
  have : σ'' = σ' := Option.some.inj (p1'.symm.trans p1)
  subst this
  refine ⟨fX4_answer σ'' 0 (nI w), σ'', τ2, by rw [p1, obi_s], ?_, ?_⟩
  · rw [uM σ'' (by rw [mall (9, 0) 15 (by rw [cod_o (by decide)]; decide), e2]) (by rw [mall (9, 0) 28 (by rw [cod_o (by decide)]; decide), n2]), if_pos c1, if_pos c2, if_pos c3, ea, obi_s]
    simp only [d, decide_true, if_true, (in12 hi12).1, (in12 hj12).1, (in12 hi12).2, (in12 hj12).2, grd_t, eb, obi_s, ha2.M (f := 44) (j := 0) (k := i) (by simp), ha2.M (f := 44) (j := 0) (k := j) (by simp), t44, e2i, f2, p2, p3, g_told p4 hw]
  · exact hI.ap (modi.tr (modi.tr (modi.tr (modi.tr (modi.rf (L := 28 :: AP)) mall (by decide)) ha2 (by decide)) hb2 (by decide)) p6 (by decide)) p5
