abbrev XP : List Nat := [1400, 1401, 1402, 1403, 1404, 1405, 1406, 1407, 1408, 1409]
abbrev GP : List Nat := [1910, 1911, 1912, 1913, 1914, 1920, 1921, 1922, 1923]
abbrev MP : List Nat := [31, 32, 33, 34, 35, 1906, 1907, 1908, 1910, 1911, 1912, 1913, 1914, 1920, 1921, 1922, 1923]
abbrev AP : List Nat := [31, 32, 33, 34, 35, 1906, 1907, 1908, 1910, 1911, 1912, 1913, 1914, 1920, 1921, 1922, 1923, 1400, 1401, 1402, 1403, 1404, 1405, 1406, 1407, 1408, 1409]
theorem PM.ap {σ τ τ' : St} {m n : Nat} (h : PM σ τ m n) (hm : modi AP τ τ') : PM σ τ' m n := by
  obtain ⟨h1, h2, h3, h4, h5⟩ := h
  refine ⟨h1, h2, h3, by rw [hm (36, 0) m (by rw [cod_a (by decide)]; decide), h4], fun k hk => ?_⟩
  rw [hm (37, 0) _ (by rw [cod_a (by decide)]; decide), hm (38, 0) _ (by rw [cod_a (by decide)]; decide)]
  exact h5 k hk
theorem play_go {s τ : St} {m n i j : Nat} {a : Int32} {r : Rf} (hτ : Id τ) (hm : modi AP s τ) (hs : Id s) (hp : PM s s m n) (hi : i < 11) (hj : j < 11) (r1 : isIA r = true) (r2 : alen r.1 = 17) (r3 : ¬ r.1 = 4) (r4 : ∀ k, k < 17 → s r k = mixf a (s (11, i)) (s (11, j)) k) : ∃ σ' τ1 τ2, fX3_playUnder s m r 0 = some σ' ∧ fX9_mix τ (nI i) (nI j) a = some τ1 ∧ fX9_plays τ1 (nI m) = some τ2 ∧ GQ σ' 0 τ2 ∧ Id τ2 ∧ modi MP τ τ2 := by
  obtain ⟨τ1, e1, h1, m1, q1⟩ := m_mix hτ hi hj a
  have r11 : ∀ q k, τ (11, q) k = s (11, q) k := fun q k => hm _ _ (by rw [cod_a (by decide)]; decide)
  have rk : RK s r τ1 := by
    refine ⟨r1, r2, r3, fun k hk => ?_⟩
    rw [r4 k hk, q1 k hk]
    unfold mixf
    rw [r11, r11]
    obtain ⟨v, hv, e⟩ := hs.it hi hk
    obtain ⟨w, hw, e'⟩ := hs.it hj hk
    by_cases c : (a >>> (nI k &&& 31)) &&& 1 = 1
    · rw [if_pos c]; exact ⟨w, hw, e', e'⟩
    · rw [if_neg c]; exact ⟨v, hv, e, e⟩
  have pm : PM s τ1 m n := (hp.ap hm).ap (modi.tr (modi.rf (L := AP)) m1 (by decide))
  obtain ⟨σ', τ2, g1, g2, g3, g4, g5⟩ := g_plays (t := 0) rk pm
  have m2 := mX9_plays g2
  exact ⟨σ', τ1, τ2, g1, e1, g2, g3, dep_Id.mv m2 (by decide) h1, modi.tr (modi.tr (modi.rf (L := MP)) m1 (by decide)) m2 (by decide)⟩
theorem i32_anti {a b : Int32} (h1 : a ≤ b) (h2 : b ≤ a) : a = b := by
  rw [i32_le] at h1 h2
  exact Int32.toInt_inj.1 (by omega)
theorem g_win {σ τ : St} {t : Nat} (h : GQ σ t τ) : fX4_winner σ t = fX9_toldOf τ 6 := by
  obtain ⟨⟨c, o, l, -, -, -, -, -, -, -, -, -, h4, h5⟩, -⟩ := h
  unfold fX4_winner fX9_toldOf
  rw [h4, h5]
  simp only [show ¬ (6 : Int32) = 0 by decide, show ¬ (6 : Int32) = 1 by decide, show ¬ (6 : Int32) = 2 by decide, show ¬ (6 : Int32) = 3 by decide, show ¬ (6 : Int32) = 4 by decide, show ¬ (6 : Int32) = 5 by decide, if_false, if_true]
  by_cases c1 : τ (9, 0) 13 = τ (9, 0) 14
  · rw [c1]
    have : τ (9, 0) 14 ≤ τ (9, 0) 14 := by rw [i32_le]; omega
    simp [this]
  · rw [if_neg c1]
    by_cases c2 : τ (9, 0) 13 ≤ τ (9, 0) 14
    · rw [if_pos c2, if_pos c2, if_neg (fun e => c1 (i32_anti c2 e))]
    · rw [if_neg c2, if_neg c2]
theorem g_told {σ τ : St} {t : Nat} (h : GQ σ t τ) {w : Nat} (hw : w < 9) : fX4_answer σ t (nI w) = fX9_toldOf τ (nI w) := by
  have hwin := g_win h
  obtain ⟨⟨c, o, l, -, -, -, x0, m0, x1, m1, -, -, h4, h5⟩, k6, k7, k8, k9⟩ := h
  have : w = 0 ∨ w = 1 ∨ w = 2 ∨ w = 3 ∨ w = 4 ∨ w = 5 ∨ w = 6 ∨ w = 7 ∨ w = 8 := by omega
  unfold fX4_answer
  rw [hwin, h4, h5, k6, k7, k8, k9, x0, x1]
  rcases this with rfl | rfl | rfl | rfl | rfl | rfl | rfl | rfl | rfl
  · rfl
  · rfl
  · rfl
  · rfl
  · rfl
  · rfl
  · rfl
  · show nI c = τ (9, 0) 10
    rw [m0]
  · show nI o = τ (9, 0) 11
    rw [m1]
theorem Ix.ap {σ σ' : St} (h : Ix σ) (hm : modi (28 :: AP) σ σ') (hI : Id σ') : Ix σ' := ⟨h.1.mv hm (by decide), hI⟩
theorem match_at {σ : St} (hI : Iv σ) : ∃ nm : Nat, nm ≤ 12 ∧ σ (8, 0) 10 = nI nm ∧ σ (9, 0) 15 = nI nm := by
  obtain ⟨nm, nc, a, b, q, h1, h2, h3, h4, h5, h6, e1, e2, -⟩ := hI.1
  exact ⟨nm, h1, e1, e2⟩
set_option maxHeartbeats 2000000 in
theorem op_played {σ : St} (hI : Ix σ) (a1 a2 a3 a4 a5 : Int32) : ∃ v σ1 σ2, fX8_played σ a1 a2 a3 a4 a5 = some (v, σ1) ∧ fX9_played σ1 a1 a2 a3 a4 a5 = some (v, σ2) ∧ Ix σ2 := by
  obtain ⟨nm, hnm, e1, e2⟩ := match_at hI.1
  have uX : fX8_played σ a1 a2 a3 a4 a5 = (if inb a1 nm = true then if inb a2 11 = true then if inb a3 11 = true then if inb a4 131072 = true then if inb a5 9 = true then grd (inb a2 11) (
            grd (inb a3 11) (
            obi (fX8_mix σ (11, (tn a2)) (11, (tn a3)) a4) (fun σ1 =>
            grd (inb a1 12) (
            obi (fX3_playUnder σ1 (tn a1) (28, 0) 0) (fun σ2 =>
            some (fX4_answer σ2 0 a5, σ2)))))) else some (-2, σ) else some (-2, σ) else some (-2, σ) else some (-2, σ) else some (-2, σ)) := by
    unfold fX8_played
    rw [x_isMatch (by omega) e1, x_isCode, x_isCode, x_isItemSet, x_isPW]
  have uM : ∀ s : St, s (9, 0) 15 = nI nm → fX9_played s a1 a2 a3 a4 a5 = (if inb a1 nm = true then if inb a2 11 = true then if inb a3 11 = true then if inb a4 131072 = true then if inb a5 9 = true then obi (fX9_mix s a2 a3 a4) (fun σ1 =>
            obi (fX9_plays σ1 a1) (fun σ2 =>
            some (fX9_toldOf σ2 a5, σ2))) else some (-2, s) else some (-2, s) else some (-2, s) else some (-2, s) else some (-2, s)) := by
    intro s hs
    unfold fX9_played
    rw [m_isMatch (by omega) hs, m_isCode, m_isCode, rM a4 131072 131071 (by decide), rM a5 9 8 (by decide)]
  rw [uX]
  by_cases c1 : inb a1 nm = true
  case neg => exact ⟨-2, σ, σ, by rw [if_neg c1], by rw [uM σ e2, if_neg c1], hI⟩
  by_cases c2 : inb a2 11 = true
  case neg => exact ⟨-2, σ, σ, by rw [if_pos c1, if_neg c2], by rw [uM σ e2, if_pos c1, if_neg c2], hI⟩
  by_cases c3 : inb a3 11 = true
  case neg => exact ⟨-2, σ, σ, by rw [if_pos c1, if_pos c2, if_neg c3], by rw [uM σ e2, if_pos c1, if_pos c2, if_neg c3], hI⟩
  by_cases c4 : inb a4 131072 = true
  case neg => exact ⟨-2, σ, σ, by rw [if_pos c1, if_pos c2, if_pos c3, if_neg c4], by rw [uM σ e2, if_pos c1, if_pos c2, if_pos c3, if_neg c4], hI⟩
  by_cases c5 : inb a5 9 = true
  case neg => exact ⟨-2, σ, σ, by rw [if_pos c1, if_pos c2, if_pos c3, if_pos c4, if_neg c5], by rw [uM σ e2, if_pos c1, if_pos c2, if_pos c3, if_pos c4, if_neg c5], hI⟩
  obtain ⟨m, hm, rfl⟩ := inb_ex (by omega) c1
  obtain ⟨i, hi, rfl⟩ := inb_ex (by decide) c2
  obtain ⟨j, hj, rfl⟩ := inb_ex (by decide) c3
  obtain ⟨w, hw, rfl⟩ := inb_ex (by decide) c5
  have em := x_mix (σ := σ) (r1 := (11, i)) (r2 := (11, j)) (ia_of (f := 11) rfl hi) (ia_of (f := 11) rfl hj) rfl rfl (by simp) (by simp) a4
  have m1 := mX8_mix em
  generalize hs1 : srg σ (28, 0) 0 17 (mixf a4 (σ (11, i)) (σ (11, j))) = s1 at em m1
  have hs : Id s1 := dep_Id.mv m1 (by decide) hI.2
  have hv1 : Iv s1 := hI.1.mv m1 (by decide)
  obtain ⟨n, pm⟩ := Im_PM hv1 (show m < 12 by omega)
  have r11 : ∀ q, s1 (11, q) = σ (11, q) := fun q => by funext k; exact m1 _ _ (by rw [cod_a (by decide)]; decide)
  have rr : ∀ k, k < 17 → s1 (28, 0) k = mixf a4 (s1 (11, i)) (s1 (11, j)) k := by
    intro k hk
    rw [r11, r11, ← hs1, srg_app, if_pos ⟨rfl, by omega, by omega⟩, Nat.sub_zero]
  obtain ⟨σ', -, -, p1, -⟩ := play_go (a := a4) (r := (28, 0)) hs modi.rf hs pm hi hj (by decide) rfl (by decide) rr
  have mp := mX3_playUnder p1
  have hs' : Id σ' := dep_Id.mv mp (by decide) hs
  obtain ⟨σ'', τ1, τ2, p1', p2, p3, p4, p5, p6⟩ := play_go (a := a4) (r := (28, 0)) hs' (modi.tr (modi.rf (L := AP)) mp (by decide)) hs pm hi hj (by decide) rfl (by decide) rr
  have : σ'' = σ' := Option.some.inj (p1'.symm.trans p1)
  subst this
  have e2' : σ'' (9, 0) 15 = nI nm := by rw [mp (9, 0) 15 (by rw [cod_o (by decide)]; decide), m1 (9, 0) 15 (by rw [cod_o (by decide)]; decide), e2]
  refine ⟨fX4_answer σ'' 0 (nI w), σ'', τ2, ?_, ?_, ?_⟩
  · rw [if_pos c1, if_pos c2, if_pos c3, if_pos c4, if_pos c5, (in11 hi).1, grd_t, (in11 hj).1, grd_t, (in11 hi).2, (in11 hj).2, em, obi_s, (in12 (show m < 12 by omega)).1, grd_t, (in12 (show m < 12 by omega)).2, p1, obi_s]
  · rw [uM _ e2', if_pos c1, if_pos c2, if_pos c3, if_pos c4, if_pos c5, p2, obi_s, p3, obi_s, g_told p4 hw]
  · exact hI.ap (modi.tr (modi.tr (modi.tr (modi.rf (L := 28 :: AP)) m1 (by decide)) mp (by decide)) p6 (by decide)) p5
