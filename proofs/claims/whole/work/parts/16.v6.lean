theorem modi_srg {L : List Nat} {σ s : St} (h : modi L σ s) (r : Rf) (lo n : Nat) (g : Nat → Int32) : modi L (srg σ r lo n g) (srg s r lo n g) := by
  intro r' k hk
  rw [srg_app, srg_app]
  by_cases c : r' = r ∧ lo ≤ k ∧ k < lo + n
  · rw [if_pos c, if_pos c]
  · rw [if_neg c, if_neg c]
    exact h r' k hk
theorem Is_many {σ : St} (hI : Iv σ) {s c : Nat} (hs : s < 4) (hc : c ≤ 60) (v : Nat → Int32) : Iv (srg (srg σ (20, s) 0 c v) (54, 0) (60 * s) c v) := by
  have m : modi [20, 54] σ (srg (srg σ (20, s) 0 c v) (54, 0) (60 * s) c v) := ((modi.rf (L := [20, 54])).srg (by simp) (by simp)).srg (by decide) (by decide)
  obtain ⟨h1, h2, h3, h4, h5, h6⟩ := hI
  refine ⟨dep_Ib.mv m (by decide) h1, dep_Ic.mv m (by decide) h2, dep_Il.mv m (by decide) h3, dep_Iw.mv m (by decide) h4, ?_, dep_Im.mv m (by decide) h6⟩
  intro s' hs'
  obtain ⟨l, t, n, q1, q2, q3, e1, e2, e3, e4, e5, e6, e7⟩ := h5 s' hs'
  refine ⟨l, t, n, q1, q2, q3, ?_, ?_, ?_, ?_, ?_, ?_, fun i hi => ?_⟩
  · rw [m (6, s') 1 (by rw [cod_o (by decide)]; simp), e1]
  · rw [m (51, 0) s' (by rw [cod_a (by decide)]; decide), e2]
  · rw [m (6, s') 2 (by rw [cod_o (by decide)]; simp), e3]
  · rw [m (52, 0) s' (by rw [cod_a (by decide)]; decide), e4]
  · rw [m (6, s') 3 (by rw [cod_o (by decide)]; simp), e5]
  · rw [m (53, 0) s' (by rw [cod_a (by decide)]; decide), e6]
  · rw [srg_ne _ _ _ _ _ (by simp), srg_app, srg_app]
    by_cases d : s' = s
    · subst d
      by_cases q : i < c
      · rw [if_pos ⟨rfl, by omega, by omega⟩, if_pos ⟨rfl, by omega, by omega⟩]
        congr 1
        omega
      · rw [if_neg (by omega), if_neg (by omega), srg_ne _ _ _ _ _ (by simp)]
        exact e7 i hi
    · rw [if_neg (fun w => d (congrArg Prod.snd w.1)), if_neg (by omega), srg_ne _ _ _ _ _ (by simp)]
      exact e7 i hi
theorem mm_min {L n : Nat} (hL : L ≤ 6) (hn : n ≤ 60) : mmin (nI L) (nI n) = nI (min L n) := by
  unfold mmin
  simp only [ltI (show n < 2 ^ 31 by omega) (show L < 2 ^ 31 by omega)]
  by_cases c : n < L
  · rw [if_pos c, Nat.min_eq_right (by omega)]
  · rw [if_neg c, Nat.min_eq_left (by omega)]
set_option maxHeartbeats 1000000 in
theorem op_write {σ : St} (hI : Ix σ) (a1 a2 a3 : Int32) : ∃ v σ1 σ2, fX8_write σ a1 a2 a3 = some (v, σ1) ∧ fX9_write σ1 a1 a2 a3 = some (v, σ2) ∧ Ix σ2 := by
  unfold fX8_write
  rw [x_isCode, x_isCode, x_isSheet]
  have uM : ∀ τ : St, fX9_write τ a1 a2 a3 = (if inb a1 11 = true then
    if inb a2 11 = true then
      if inb a3 4 = true then
        grd (inb a3 4) (
        if (τ (51, 0) (tn a3)) = 0 then
          bnd (fX9_meets τ (1 : Int32)) (fun (x4, σ4) =>
          some (x4, σ4))
        else
          obi (fX9_partsOf τ a1 a2) (fun (x1, σ1) =>
          lpF (fun (q7 : Int32 × St) => match q7 with
          | (x2, σ2) =>
          if x1 ≤ x2 then
            some (.inr ((x2, σ2)))
          else
            grd (inb a3 4) (
            if (σ2 (53, 0) (tn a3)) ≤ x2 then
              some (.inr ((x2, σ2)))
            else
              grd (inb x2 6) (
              obi (fX9_keep σ2 a3 x2 (σ2 (43, 0) (tn x2))) (fun σ3 =>
              bnd (x2 + 1) (fun x3 =>
              some (.inl (x3, σ3))))))) ((0 : Int32), σ1)))
      else
        some ((-2 : Int32), τ)
    else
      some ((-2 : Int32), τ)
  else
    some ((-2 : Int32), τ)) := by
    intro τ
    unfold fX9_write
    rw [m_isCode, m_isCode, m_isSheet]
  by_cases c1 : inb a1 11 = true
  case neg => exact ⟨-2, σ, σ, by rw [if_neg c1], by rw [uM, if_neg c1], hI⟩
  by_cases c2 : inb a2 11 = true
  case neg => exact ⟨-2, σ, σ, by rw [if_pos c1, if_neg c2], by rw [uM, if_pos c1, if_neg c2], hI⟩
  by_cases c3 : inb a3 4 = true
  case neg => exact ⟨-2, σ, σ, by rw [if_pos c1, if_pos c2, if_neg c3], by rw [uM, if_pos c1, if_pos c2, if_neg c3], hI⟩
  obtain ⟨i, hi, rfl⟩ := inb_ex (by decide) c1
  obtain ⟨j, hj, rfl⟩ := inb_ex (by decide) c2
  obtain ⟨s4, hs4, rfl⟩ := inb_ex (by decide) c3
  have t4 : tn (nI s4) = s4 := tn_nI (by omega)
  obtain ⟨l, t, n, q1, q2, q3, z1, z2, z3, z4, z5, z6, z7⟩ := hI.1.2.2.2.2.1 s4 hs4
  rcases nI2 q1 with rfl | rfl
  case inr =>
    refine ⟨-10 - 1, su σ (8, 0) 15 1, su (su σ (8, 0) 15 1) (9, 0) 44 1, ?_, ?_, ?_⟩
    · rw [if_pos c1, if_pos c2, if_pos c3, c3, grd_t, t4, z1, if_neg (by decide)]
      unfold fX8_refuse
      simp only [bnd_eq]
    · rw [uM, if_pos c1, if_pos c2, if_pos c3, c3, grd_t, t4, su_ref _ _ _ _ (by decide), z2, if_pos (by decide)]
      unfold fX9_meets
      simp only [bnd_eq]
    · exact ⟨Iv_find hI.1 1, dep_Id.mv (L := [1815, 1944]) (((modi.rf).su (by rw [cod_o (by decide)]; decide)).su (by rw [cod_o (by decide)]; decide)) (by decide) hI.2⟩
  obtain ⟨s, L, e1, hL, e7, m1, d1, all⟩ := both_parts hI.2 hi hj
  have w2 : s (6, s4) 2 = nI t := by rw [m1 (6, s4) 2 (by rw [cod_o (by decide)]; simp), z3]
  have w3 : s (6, s4) 3 = nI n := by rw [m1 (6, s4) 3 (by rw [cod_o (by decide)]; simp), z5]
  have in6 : ∀ k, k < 6 → inb (nI k) 6 = true ∧ tn (nI k) = k := fun k hk => by
    rw [inb_nI (by omega), tn_nI (by omega)]
    simp
    exact hk
  generalize hC : min L n = C
  have C1 : C ≤ L := by omega
  have C2 : C ≤ n := by omega
  have xl : lpF (fun (q11 : Int32 × St) => match q11 with
          | (x2, σ2) =>
          if nI C ≤ x2 then
            some (.inr ((nI C, σ2)))
          else
            grd (inb (nI s4) 4) (
            grd (inb x2 6) (
            obi (fX6_setItem σ2 (tn (nI s4)) x2 (σ2 (19, 0) (tn x2))) (fun σ3 =>
            bnd (x2 + 1) (fun x3 =>
            some (.inl (x3, σ3))))))) ((0 : Int32), s) = some (nI C, srg s (20, s4) 0 C (fun k => kp t (s (19, 0) k))) := by
    refine lpF_fx (fun k q => q = (nI k, srg s (20, s4) 0 k (fun k => kp t (s (19, 0) k)))) C ?_ ?_ (by omega) (by rw [srg_0]; rfl)
    · intro k q hk hq
      subst hq
      refine Or.inl ⟨_, ?_, rfl⟩
      obtain ⟨k1, k2⟩ := in6 k (by omega)
      have sg := srg_su s (20, s4) 0 k (fun k => kp t (s (19, 0) k)) (v := kp t (s (19, 0) k)) rfl
      rw [Nat.zero_add] at sg
      have st := x_setItem (σ := srg s (20, s4) 0 k (fun k => kp t (s (19, 0) k))) (s := s4) (t := t) (n := n) (i := k) q2 q3 (by omega) (by rw [srg_ne _ _ _ _ _ (by simp), w2]) (by rw [srg_ne _ _ _ _ _ (by simp), w3]) (s (19, 0) k)
      rw [← sg]
      show (if nI C ≤ nI k then _ else _) = _
      rw [if_neg (by rw [leI (by omega) (by omega)]; omega), c3, grd_t, k1, grd_t, k2, t4, srg_ne _ _ _ _ _ (by simp), st, obi_s, bnd_eq, nI_1]
    · intro q hq
      subst hq
      refine ⟨_, ?_, rfl⟩
      show (if nI C ≤ nI C then _ else _) = _
      rw [if_pos (by rw [i32_le]; omega)]
  have mx : modi [20] s (srg s (20, s4) 0 C (fun k => kp t (s (19, 0) k))) := (modi.rf (L := [20])).srg (by simp) (by simp)
  have dx : Id (srg s (20, s4) 0 C (fun k => kp t (s (19, 0) k))) := dep_Id.mv mx (by decide) d1
  obtain ⟨τ, t1, t2, t3, t5⟩ := all _ dx mx
  have mall : ∀ {F : Nat} (k : Nat), 50 < F → F < 54 → τ (F, 0) k = σ (F, 0) k := fun {F} k h1 h2 => by
    have nP : ¬ F ∈ PX := by simp; omega
    rw [t3 (F, 0) k (by rw [cod_a (by omega)]; exact nP), mx (F, 0) k (by rw [cod_a (by omega)]; simp; omega), m1 (F, 0) k (by rw [cod_a (by omega)]; exact nP)]
  have ml : lpF (fun (q7 : Int32 × St) => match q7 with
          | (x2, σ2) =>
          if (if L = 0 then -1 else nI L) ≤ x2 then
            some (.inr ((x2, σ2)))
          else
            grd (inb (nI s4) 4) (
            if (σ2 (53, 0) (tn (nI s4))) ≤ x2 then
              some (.inr ((x2, σ2)))
            else
              grd (inb x2 6) (
              obi (fX9_keep σ2 (nI s4) x2 (σ2 (43, 0) (tn x2))) (fun σ3 =>
              bnd (x2 + 1) (fun x3 =>
              some (.inl (x3, σ3))))))) ((0 : Int32), τ) = some (nI C, srg τ (54, 0) (60 * s4) C (fun k => kp t (s (19, 0) k))) := by
    have le : ∀ k, k ≤ 6 → (((if L = 0 then -1 else nI L) ≤ nI k) = (L ≤ k)) := fun k hk => by
      by_cases z : L = 0
      · rw [if_pos z]
        apply propext
        rw [i32_le, nI_toInt (by omega)]
        have : (-1 : Int32).toInt = -1 := rfl
        omega
      · rw [if_neg z, leI (by omega) (by omega)]
    refine lpF_fx (fun k q => q = (nI k, srg τ (54, 0) (60 * s4) k (fun k => kp t (s (19, 0) k)))) C ?_ ?_ (by omega) (by rw [srg_0]; rfl)
    · intro k q hk hq
      subst hq
      refine Or.inl ⟨_, ?_, rfl⟩
      obtain ⟨k1, k2⟩ := in6 k (by omega)
      have sg := srg_su τ (54, 0) (60 * s4) k (fun k => kp t (s (19, 0) k)) (v := kp t (s (19, 0) k)) rfl
      have st := m_keep (σ := srg τ (54, 0) (60 * s4) k (fun k => kp t (s (19, 0) k))) (s := s4) (t := t) (i := k) hs4 q2 (by omega) (by rw [srg_ne _ _ _ _ _ (by decide), mall s4 (by decide) (by decide), z4]) (s (19, 0) k)
      rw [← sg]
      show (if (if L = 0 then -1 else nI L) ≤ nI k then _ else _) = _
      rw [if_neg (by rw [le k (by omega)]; omega), c3, grd_t, t4, srg_ne _ _ _ _ _ (by decide), mall s4 (by decide) (by decide), z6, if_neg (by rw [leI (by omega) (by omega)]; omega), k1, grd_t, k2, srg_ne _ _ _ _ _ (by decide), ← t5 k (by omega), st, obi_s, bnd_eq, nI_1]
    · intro q hq
      subst hq
      refine ⟨_, ?_, rfl⟩
      show (if (if L = 0 then -1 else nI L) ≤ nI C then _ else _) = _
      by_cases d : L ≤ C
      · rw [if_pos (by rw [le C (by omega)]; exact d)]
      · rw [if_neg (by rw [le C (by omega)]; exact d), c3, grd_t, t4, srg_ne _ _ _ _ _ (by decide), mall s4 (by decide) (by decide), z6, if_pos (by rw [leI (by omega) (by omega)]; omega)]
  refine ⟨nI C, srg s (20, s4) 0 C (fun k => kp t (s (19, 0) k)), srg τ (54, 0) (60 * s4) C (fun k => kp t (s (19, 0) k)), ?_, ?_, ?_, ?_⟩
  · rw [if_pos c1, if_pos c2, if_pos c3, c3, grd_t, t4, z1, if_pos (show nI 0 = 0 from rfl), (in11 hi).1, grd_t, (in11 hj).1, grd_t, (in11 hi).2, (in11 hj).2, e1, obi_s, grd_t, e7, w3, mm_min hL q3, hC, bnd_eq]
    rw [c3, t4] at xl
    exact xl
  · rw [uM, if_pos c1, if_pos c2, if_pos c3, c3, grd_t, t4]
    have e51 : srg s (20, s4) 0 C (fun k => kp t (s (19, 0) k)) (51, 0) s4 = nI 1 := by rw [srg_ne _ _ _ _ _ (by simp), m1 (51, 0) s4 (by rw [cod_a (by decide)]; decide), z2]
    rw [e51, if_neg (by decide), t1, obi_s]
    rw [c3, t4] at ml
    exact ml
  · have y1 : Iv (srg (srg σ (20, s4) 0 C (fun k => kp t (s (19, 0) k))) (54, 0) (60 * s4) C (fun k => kp t (s (19, 0) k))) := Is_many hI.1 hs4 (by omega) _
    have y2 : modi PX (srg σ (20, s4) 0 C (fun k => kp t (s (19, 0) k))) τ := (modi_srg m1 (20, s4) 0 C _).tr t3 (fun _ h => h)
    exact y1.mv (modi_srg y2 (54, 0) (60 * s4) C _) PX_Iv
  · exact dep_Id.mv (L := [54]) ((modi.rf (L := [54])).srg (by decide) (by decide)) (by decide) t2
