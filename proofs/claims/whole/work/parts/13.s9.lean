theorem inb_m1 {b : Int32} (h : inb b 131072 = true) : ¬ b = -1 := by
  intro e
  subst e
  cases h
theorem Mn_red {σ : St} (hI : Ix σ) (hl : itOk (σ (27, 0))) {nc j : Nat} (hnc : nc ≤ 12) (hj : j < 11) {a1 b : Int32} (h : Mn (EB σ nc j) (a1 &&& dm (σ (27, 0)) (σ (11, j)) 17) b) : Mn (EB σ nc j) a1 b := by
  refine ⟨fun k hk hb => ?_, fun t ht => ?_⟩
  · have := h.1 k hk hb
    rw [bt_and, Bool.and_eq_true] at this
    exact this.1
  · have sp : sb (t &&& dm (σ (27, 0)) (σ (11, j)) 17) (a1 &&& dm (σ (27, 0)) (σ (11, j)) 17) := by
      intro k hk
      rw [bt_and, bt_and, Bool.and_eq_true, Bool.and_eq_true]
      exact fun w => ⟨ht k hk w.1, w.2⟩
    have sq : sb (t &&& dm (σ (27, 0)) (σ (11, j)) 17) t := by
      intro k hk
      rw [bt_and, Bool.and_eq_true]
      exact fun w => w.1
    refine (h.2 _ sp).tr ?_
    have rows : ∀ k, k < 17 → rw9 σ j (t &&& dm (σ (27, 0)) (σ (11, j)) 17) k = rw9 σ j t k := by
      intro k hk
      unfold rw9
      rw [mixf_b _ _ _ hk, mixf_b _ _ _ hk, bt_and, dm_bit _ _ hk 17 (Nat.le_refl _)]
      by_cases c : σ (27, 0) k = σ (11, j) k
      · simp [c]
      · simp [c, hk]
    have o := ord_sb sq
    have p := pcn_sb sq 17 (by omega)
    have e1 : SV σ nc (rw9 σ j (t &&& dm (σ (27, 0)) (σ (11, j)) 17)) = SV σ nc (rw9 σ j t) := SV_cong modi.rf rows
    have e2 : HU σ (rw9 σ j (t &&& dm (σ (27, 0)) (σ (11, j)) 17)) = HU σ (rw9 σ j t) := HU_cong rows
    unfold KL EB ky
    rw [e1, e2]
    omega
set_option maxHeartbeats 1000000 in
theorem m_best {σ σ1 : St} (hI : Ix σ) (hI1 : Ix σ1) (hl : itOk (σ (27, 0))) {nc j : Nat} (hnc : nc ≤ 12) (n2 : σ (9, 0) 28 = nI nc) (hj : j < 11) (h01 : modi BP σ σ1) {m : Int32} (hm : inb m 131072 = true) (hp : pcn m 32 ≤ 9) : ∃ b s', lpF (bstB m (nI j)) ((-1 : Int32), (0 : Int32), (0 : Int32), (0 : Int32), (1 : Int32), σ1) = some (b, SV σ nc (rw9 σ j b), HU σ (rw9 σ j b), s') ∧ Mn (EB σ nc j) m b ∧ Id s' ∧ modi MP σ1 s' := by
  generalize hN : pcn m 32 = P at hp
  have N5 : 2 ^ P ≤ 2 ^ 9 := Nat.pow_le_pow_right (by omega) hp
  have N0 : 0 < 2 ^ P := Nat.pow_pos (by omega)
  have key : ∃ r, lpF (bstB m (nI j)) ((-1 : Int32), (0 : Int32), (0 : Int32), (0 : Int32), (1 : Int32), σ1) = some r ∧ Mn (EB σ nc j) m r.1 ∧ r.2.1 = SV σ nc (rw9 σ j r.1) ∧ r.2.2.1 = HU σ (rw9 σ j r.1) ∧ Id r.2.2.2 ∧ modi MP σ1 r.2.2.2 := by
    refine lpF_for (fun i a => Id a.2.2.2.2.2 ∧ modi MP σ1 a.2.2.2.2.2 ∧ ((i < 2 ^ P ∧ a.2.2.2.2.1 = 1 ∧ sb a.2.2.2.1 m ∧ rkn m a.2.2.2.1 32 = i ∧ ((a.2.2.2.1 = 0 ∧ a.1 = -1) ∨ (Bst (EB σ nc j) m a.2.2.2.1 a.1 ∧ a.2.1 = SV σ nc (rw9 σ j a.1) ∧ a.2.2.1 = HU σ (rw9 σ j a.1)))) ∨ (i = 2 ^ P ∧ a.2.2.2.2.1 = 0 ∧ Mn (EB σ nc j) m a.1 ∧ a.2.1 = SV σ nc (rw9 σ j a.1) ∧ a.2.2.1 = HU σ (rw9 σ j a.1)))) (2 ^ P) ?_ ?_ (by omega) ?_
    · rintro i ⟨b, x6, x7, c, x9, s⟩ hi ⟨h0, h1, h2⟩
      replace h0 : Id s := h0
      replace h1 : modi MP σ1 s := h1
      rcases h2 with ⟨-, rfl, h3, h4, h5⟩ | ⟨h3, -⟩
      case inr => omega
      replace h3 : sb c m := h3
      replace h4 : rkn m c 32 = i := h4
      have hc := sb_inb h3 hm
      have hb : b = -1 ∨ (inb b 131072 = true ∧ x6 = SV σ nc (rw9 σ j b) ∧ x7 = HU σ (rw9 σ j b)) := by
        rcases h5 with ⟨-, e⟩ | ⟨e1, e2⟩
        · exact Or.inl e
        · exact Or.inr ⟨sb_inb e1.1 hm, e2⟩
      obtain ⟨b', s', k1, k2, k3, k4⟩ := m_try hI hI1 hl hnc n2 hj h01 h1 h0 (a1 := m) hc b x6 x7 hb
      have k6 : (c = 0 ∧ b' = 0) ∨ (Bst (EB σ nc j) m c b ∧ b' = if EB σ nc j b ≤ EB σ nc j c then b else c) := by
        rcases h5 with ⟨e0, e⟩ | ⟨e1, e2⟩
        · replace e0 : c = 0 := e0
          replace e : b = -1 := e
          rcases k4 with ⟨-, k⟩ | ⟨k, -⟩
          · exact Or.inl ⟨e0, by rw [k, e0]⟩
          · exact absurd e k
        · replace e1 : Bst (EB σ nc j) m c b := e1
          rcases k4 with ⟨k, -⟩ | ⟨-, k⟩
          · exact absurd k (inb_m1 (sb_inb e1.1 hm))
          · exact Or.inr ⟨e1, k⟩
      have go := sel_go (EB σ nc j) hm h3 h4 k6
      rw [hN] at go
      refine Or.inl ⟨_, k1, k2, k3, ?_⟩
      rcases go with ⟨g1, g0, g2⟩ | ⟨g1, g0, g2, g3, g4⟩
      · refine Or.inr ⟨g1, ?_, g2, rfl, rfl⟩
        show (if (c - m) &&& m = 0 then (0 : Int32) else 1) = 0
        rw [if_pos (by rw [g0]; exact next_top)]
      · refine Or.inl ⟨g1, ?_, g2, g3, Or.inr ⟨g4, rfl, rfl⟩⟩
        show (if (c - m) &&& m = 0 then (0 : Int32) else 1) = 1
        rw [if_neg (next_n0 h3 g0)]
    · rintro ⟨b, x6, x7, c, x9, s⟩ ⟨h0, h1, h2⟩
      rcases h2 with ⟨h3, -⟩ | ⟨-, h9, h3, h6, h7⟩
      · omega
      · replace h9 : x9 = 0 := h9
        replace h6 : x6 = SV σ nc (rw9 σ j b) := h6
        replace h7 : x7 = HU σ (rw9 σ j b) := h7
        subst h9
        subst h6
        subst h7
        refine ⟨(b, SV σ nc (rw9 σ j b), HU σ (rw9 σ j b), s), ?_, h3, rfl, rfl, h0, h1⟩
        rw [bstB_at, if_pos rfl]
    · show Id σ1 ∧ modi MP σ1 σ1 ∧ ((0 < 2 ^ P ∧ (1 : Int32) = 1 ∧ sb 0 m ∧ rkn m 0 32 = 0 ∧ (((0 : Int32) = 0 ∧ (-1 : Int32) = -1) ∨ (Bst (EB σ nc j) m 0 (-1) ∧ (0 : Int32) = SV σ nc (rw9 σ j (-1)) ∧ (0 : Int32) = HU σ (rw9 σ j (-1))))) ∨ (0 = 2 ^ P ∧ (1 : Int32) = 0 ∧ Mn (EB σ nc j) m (-1) ∧ (0 : Int32) = SV σ nc (rw9 σ j (-1)) ∧ (0 : Int32) = HU σ (rw9 σ j (-1))))
      exact ⟨hI1.2, modi.rf, Or.inl ⟨N0, rfl, sb_0 m, rk_0 m, Or.inl ⟨rfl, rfl⟩⟩⟩
  obtain ⟨⟨b, x, y, s⟩, e, k1, k2, k3, k4, k5⟩ := key
  replace k2 : x = SV σ nc (rw9 σ j b) := k2
  replace k3 : y = HU σ (rw9 σ j b) := k3
  subst k2
  subst k3
  exact ⟨b, s, e, k1, k4, k5⟩
set_option maxHeartbeats 1000000 in
theorem op_best {σ : St} (hI : Ix σ) (hl : itOk (σ (27, 0))) (a1 a2 a3 : Int32) : ∃ v σ1 σ2, fX8_best σ a1 a2 a3 = some (v, σ1) ∧ fX9_best σ1 a1 a2 a3 = some (v, σ2) ∧ Ix σ2 := by
  obtain ⟨nc, hnc, n1, n2⟩ := club_at hI.1
  have uM : ∀ s : St, fX9_best s a1 a2 a3 = (if inb a1 131072 = true then
    if (9 : Int32) < nI (pcn a1 17) then
      some ((-2 : Int32), s)
    else
      if inb a2 11 = true then
        if inb a3 3 = true then
          obi (lpF (bstB a1 a2) ((-1 : Int32), (0 : Int32), (0 : Int32), (0 : Int32), (1 : Int32), s)) (fun (x2, x3, x4, σ1) =>
          if a3 = 0 then
            some (x2, σ1)
          else
            if a3 = (1 : Int32) then
              some (x3, σ1)
            else
              some (x4, σ1))
        else
          some ((-2 : Int32), s)
      else
        some ((-2 : Int32), s)
  else
    some ((-2 : Int32), s)) := by
    intro s
    rw [best_eq, rM a1 131072 131071 (by decide), m_ones, obi_s, m_isCode, rM a3 3 2 (by decide)]
  have uX : fX8_best σ a1 a2 a3 = (if inb a1 131072 = true then
    if (9 : Int32) < (fJ6_bitCount_0f7a4 a1) then
      some ((-2 : Int32), σ)
    else
      if inb a2 11 = true then
        if inb a3 3 = true then
            grd (inb a2 11) (
            obi (fX8_seekLines σ a1 (11, (tn a2))) (fun σ1 =>
            if a3 = 0 then
              some (σ1 (2, 0) 0, σ1)
            else
              if a3 = (1 : Int32) then
                some (σ1 (2, 0) 1, σ1)
              else
                some (σ1 (2, 0) 2, σ1)))
        else
            some ((-2 : Int32), σ)
      else
        some ((-2 : Int32), σ)
  else
    some ((-2 : Int32), σ)) := by
    unfold fX8_best
    rw [x_isItemSet, x_isCode]
    by_cases c : inb a3 3 = true
    · have c' := inb_iff.1 c
      have g1 : ¬ a3 < 0 := by rw [i32_lt]; have : (0 : Int32).toInt = 0 := rfl; omega
      have g2 : a3 ≤ 2 := by rw [i32_le]; have : (2 : Int32).toInt = 2 := rfl; omega
      rw [if_neg g1, if_pos g2, if_pos c]
    · rw [if_neg c]
      by_cases g1 : a3 < 0
      · rw [if_pos g1]
      · have g2 : ¬ a3 ≤ 2 := by
          intro g2
          apply c
          rw [inb_iff]
          rw [i32_lt] at g1
          rw [i32_le] at g2
          have : (0 : Int32).toInt = 0 := rfl
          have : (2 : Int32).toInt = 2 := rfl
          omega
        rw [if_neg g1, if_neg g2]
  rw [uX]
  by_cases c1 : inb a1 131072 = true
  case neg => exact ⟨-2, σ, σ, by rw [if_neg c1], by rw [uM σ, if_neg c1], hI⟩
  rw [x_bit c1]
  by_cases c2 : (9 : Int32) < nI (pcn a1 17)
  case pos => exact ⟨-2, σ, σ, by rw [if_pos c1, if_pos c2], by rw [uM σ, if_pos c1, if_pos c2], hI⟩
  by_cases c3 : inb a2 11 = true
  case neg => exact ⟨-2, σ, σ, by rw [if_pos c1, if_neg c2, if_neg c3], by rw [uM σ, if_pos c1, if_neg c2, if_neg c3], hI⟩
  by_cases c4 : inb a3 3 = true
  case neg => exact ⟨-2, σ, σ, by rw [if_pos c1, if_neg c2, if_pos c3, if_neg c4], by rw [uM σ, if_pos c1, if_neg c2, if_pos c3, if_neg c4], hI⟩
  obtain ⟨j, hj, rfl⟩ := inb_ex (by decide) c3
  have p9 : pcn a1 17 ≤ 9 := by
    have := pcn_le a1 17
    rw [show (9 : Int32) = nI 9 from rfl, ltI (by decide) (by omega)] at c2
    omega
  have p32 : pcn a1 32 ≤ 9 := by
    have : pcn a1 32 = pcn a1 17 := pcn_17 (fun k hk => inb_hi c1 hk) 15
    omega
  have sx : sb (a1 &&& dm (σ (27, 0)) (σ (11, j)) 17) a1 := by
    intro k hk
    rw [bt_and, Bool.and_eq_true]
    exact fun w => w.1
  obtain ⟨s, b, e1, e2, e3⟩ := x_best hI hl hnc n1 hj (a1 := a1) (sb_inb sx c1) (Nat.le_trans (pcn_sb sx 32 (by omega)) p32)
  have ms := mX8_seekLines e1
  have h01 : modi BP σ s := modi.tr (modi.rf (L := BP)) ms (by decide)
  have hI1 : Ix s := ⟨hI.1.mv h01 BP_Iv, dep_Id.mv ms (by decide) hI.2⟩
  obtain ⟨b', s', k1, k2, k3, k4⟩ := m_best hI hI1 hl hnc n2 hj h01 c1 p32
  have : b' = b := Mn_one c1 k2 (Mn_red hI hl hnc hj e2)
  subst this
  have hI2 : Ix s' := ⟨hI1.1.mv k4 (by decide), k3⟩
  rw [if_pos c1, if_neg c2, if_pos c3, if_pos c4, (in11 hj).1, grd_t, (in11 hj).2, e1, obi_s]
  have uM' : fX9_best s a1 (nI j) a3 = (if a3 = 0 then some (b', s') else if a3 = 1 then some (SV σ nc (rw9 σ j b'), s') else some (HU σ (rw9 σ j b'), s')) := by
    rw [uM s, if_pos c1, if_neg c2, if_pos c3, if_pos c4, k1, obi_s]
  rw [e3.1, e3.2.1, e3.2.2]
  by_cases d0 : a3 = 0
  · exact ⟨_, s, s', by rw [if_pos d0], by rw [uM', if_pos d0], hI2⟩
  · by_cases d1 : a3 = 1
    · exact ⟨_, s, s', by rw [if_neg d0, if_pos d1], by rw [uM', if_neg d0, if_pos d1], hI2⟩
    · exact ⟨_, s, s', by rw [if_neg d0, if_neg d1], by rw [uM', if_neg d0, if_neg d1], hI2⟩
