/-- how many of the first N -/
def cn (p : Nat → Bool) : Nat → Int32
  | 0 => 0
  | i + 1 => cn p i + (if p i = true then 1 else 0)
theorem cn_S (p : Nat → Bool) (i : Nat) : cn p (i + 1) = cn p i + (if p i = true then 1 else 0) := rfl
theorem cn_cong {p q : Nat → Bool} : ∀ (N : Nat), (∀ i, i < N → p i = q i) → cn p N = cn q N
  | 0, _ => rfl
  | N + 1, h => by rw [cn_S, cn_S, cn_cong N (fun i hi => h i (by omega)), h N (by omega)]
theorem cn_0 {p : Nat → Bool} : ∀ (N : Nat), (∀ i, i < N → p i = false) → cn p N = 0
  | 0, _ => rfl
  | N + 1, h => by rw [cn_S, cn_0 N (fun i hi => h i (by omega)), h N (by omega)]; rfl
theorem x_cnt (g : Nat → Int32) {N : Nat} (hN : N ≤ 12) : lpF (fun (q1 : Int32 × Int32) => match q1 with
  | (x1, x2) =>
  if nI N ≤ x2 then
    some (.inr x1)
  else
    grd (inb x2 12) (
    bnd (if (g (tn x2)) = 0 then
      x1
    else
      bnd (x1 + 1) (fun x4 =>
      x4)) (fun x3 =>
    bnd (x2 + 1) (fun x5 =>
    some (.inl (x3, x5)))))) ((0 : Int32), (0 : Int32)) = some (cn (fun i => !(decide (g i = 0))) N) := by
  refine lpF_fx (fun i a => a = (cn (fun i => !(decide (g i = 0))) i, nI i)) N ?_ ?_ (by omega) rfl
  · intro i a hi ha
    subst ha
    refine Or.inl ⟨_, ?_, rfl⟩
    obtain ⟨i1, i2⟩ := in12 (show i < 12 by omega)
    simp only [leI (show N < 2 ^ 31 by omega) (show i < 2 ^ 31 by omega), show ¬ N ≤ i by omega, if_false, i1, grd_t, i2, bnd_eq, nI_1, cn_S]
    by_cases c : g i = 0
    · simp [c]
    · simp [c]
  · intro a ha
    subst ha
    exact ⟨_, by simp only [leI (show N < 2 ^ 31 by omega) (show N < 2 ^ 31 by omega), Nat.le_refl, if_true], rfl⟩
theorem m_cnt (g : Nat → Int32) {N : Nat} (hN : N ≤ 12) : lpF (fun (q1 : Int32 × Int32) => match q1 with
  | (x1, x2) =>
  if nI N ≤ x2 then
    some (.inr x1)
  else
    grd (inb x2 12) (
    bnd (if (g (tn x2)) = 0 then
      (0 : Int32)
    else
      (1 : Int32)) (fun x3 =>
    bnd (x1 + x3) (fun x4 =>
    bnd (x2 + 1) (fun x5 =>
    some (.inl (x4, x5))))))) ((0 : Int32), (0 : Int32)) = some (cn (fun i => !(decide (g i = 0))) N) := by
  refine lpF_fx (fun i a => a = (cn (fun i => !(decide (g i = 0))) i, nI i)) N ?_ ?_ (by omega) rfl
  · intro i a hi ha
    subst ha
    refine Or.inl ⟨_, ?_, rfl⟩
    obtain ⟨i1, i2⟩ := in12 (show i < 12 by omega)
    simp only [leI (show N < 2 ^ 31 by omega) (show i < 2 ^ 31 by omega), show ¬ N ≤ i by omega, if_false, i1, grd_t, i2, bnd_eq, nI_1, cn_S]
    by_cases c : g i = 0
    · simp [c]
    · simp [c]
  · intro a ha
    subst ha
    exact ⟨_, by simp only [leI (show N < 2 ^ 31 by omega) (show N < 2 ^ 31 by omega), Nat.le_refl, if_true], rfl⟩
def sumF (g : Nat → Int32) : Nat → Int32
  | 0 => 0
  | i + 1 => sumF g i + g i
theorem sumF_cong {p q : Nat → Int32} : ∀ (N : Nat), (∀ i, i < N → p i = q i) → sumF p N = sumF q N
  | 0, _ => rfl
  | N + 1, h => by show sumF p N + p N = sumF q N + q N; rw [sumF_cong N (fun i hi => h i (by omega)), h N (by omega)]
theorem x_sum (g : Nat → Int32) : lpF (fun (q18 : Int32 × Int32) => match q18 with
            | (x11, x12) =>
            if (11 : Int32) ≤ x12 then
              some (.inr x11)
            else
              grd (inb x12 11) (
              bnd (x11 + (g (tn x12))) (fun x13 =>
              bnd (x12 + 1) (fun x14 =>
              some (.inl (x13, x14)))))) ((0 : Int32), (0 : Int32)) = some (sumF g 11) := by
  refine lpF_fx (fun i a => a = (sumF g i, nI i)) 11 ?_ ?_ (by decide) rfl
  · intro i a hi ha
    subst ha
    refine Or.inl ⟨_, ?_, rfl⟩
    obtain ⟨i1, i2⟩ := in11 hi
    have c11 : ¬ (11 : Int32) ≤ nI i := by rw [show (11 : Int32) = nI 11 from rfl, leI (by decide) (by omega)]; omega
    simp only [c11, if_false, i1, grd_t, i2, bnd_eq, nI_1]
    rfl
  · intro a ha
    subst ha
    exact ⟨_, by simp only [show (11 : Int32) ≤ nI 11 by decide, if_true], rfl⟩
theorem op_count {σ : St} (hI : Ix σ) (a1 : Int32) : ∃ v, fX8_count σ a1 = some v ∧ fX9_count σ a1 = some v := by
  obtain ⟨nm, nc, a, b, q, h1, h2, h3, h4, h5, h6, e1, e2, e3, e4, e5, e6, e7, e8, e9, e10, e11⟩ := hI.1.1
  have c1 : fX8_toldMatches σ = some (cn (fun i => !(decide (σ (3, i) 3 = 0))) nm) := by
    unfold fX8_toldMatches
    rw [e1]
    exact x_cnt (fun i => σ (3, i) 3) h1
  have d1 : lpF (fun (q2 : Int32 × Int32) => match q2 with
      | (x1, x2) =>
      if nI nm ≤ x2 then
        some (.inr x1)
      else
        grd (inb x2 12) (
        bnd (if (σ (39, 0) (tn x2)) = 0 then
          (0 : Int32)
        else
          (1 : Int32)) (fun x3 =>
        bnd (x1 + x3) (fun x4 =>
        bnd (x2 + 1) (fun x5 =>
        some (.inl (x4, x5))))))) ((0 : Int32), (0 : Int32)) = some (cn (fun i => !(decide (σ (3, i) 3 = 0))) nm) := by
    rw [cn_cong (q := fun i => !(decide (σ (39, 0) i = 0))) nm ?_]
    · exact m_cnt (fun i => σ (39, 0) i) h1
    · intro i hi
      obtain ⟨n, t, w1, w2, -, -, w3, w4, -⟩ := hI.1.2.2.2.2.2 i (by omega)
      rw [w3, w4]
  have c3 : fX8_members σ = some (cn (fun i => !(decide (σ (0, i) 2 = 0))) nc) := by
    unfold fX8_members
    rw [e3]
    exact x_cnt (fun i => σ (0, i) 2) h2
  have d3 : lpF (fun (q2 : Int32 × Int32) => match q2 with
      | (x1, x2) =>
      if nI nc ≤ x2 then
        some (.inr x1)
      else
        grd (inb x2 12) (
        bnd (if (σ (46, 0) (tn x2)) = 0 then
          (0 : Int32)
        else
          (1 : Int32)) (fun x3 =>
        bnd (x1 + x3) (fun x4 =>
        bnd (x2 + 1) (fun x5 =>
        some (.inl (x4, x5))))))) ((0 : Int32), (0 : Int32)) = some (cn (fun i => !(decide (σ (0, i) 2 = 0))) nc) := by
    rw [cn_cong (q := fun i => !(decide (σ (46, 0) i = 0))) nc ?_]
    · exact m_cnt (fun i => σ (46, 0) i) h2
    · intro i hi
      obtain ⟨k, h, m, -, -, -, -, -, -, -, w3, w4⟩ := club_x hI.1 (show i < 12 by omega)
      rw [w3, w4]
  have c4 : fX8_bytesOfCodes σ = some (sumF (fun i => σ (1, i) 3) 11) := by
    unfold fX8_bytesOfCodes
    exact x_sum (fun i => σ (1, i) 3)
  have d4 : lpF (fun (q18 : Int32 × Int32) => match q18 with
            | (x11, x12) =>
            if (11 : Int32) ≤ x12 then
              some (.inr x11)
            else
              grd (inb x12 11) (
              bnd (x11 + (σ (29, 0) (tn x12))) (fun x13 =>
              bnd (x12 + 1) (fun x14 =>
              some (.inl (x13, x14)))))) ((0 : Int32), (0 : Int32)) = some (sumF (fun i => σ (1, i) 3) 11) := by
    rw [sumF_cong (q := fun i => σ (29, 0) i) 11 ?_]
    · exact x_sum (fun i => σ (29, 0) i)
    · intro i hi
      obtain ⟨n, t, hx, hm, -⟩ := hI.2.2 i hi
      show σ (1, i) 3 = σ (29, 0) i
      rw [hx.2.1, hm.1]
  unfold fX8_count fX9_count
  rw [c1, c3, c4, e1, e2, e3, e4, e5, e6, e7, e8, e9, e10, e11, d1, d3, d4]
  simp only [obi_s]
  by_cases k0 : a1 = 0
  · simp only [k0, if_true]; exact ⟨_, rfl, rfl⟩
  by_cases k1 : a1 = 1
  · simp only [k0, k1, if_true, if_false]; exact ⟨_, rfl, rfl⟩
  by_cases k2 : a1 = 2
  · simp only [k0, k1, k2, if_true, if_false]; exact ⟨_, rfl, rfl⟩
  by_cases k3 : a1 = 3
  · simp only [k0, k1, k2, k3, if_true, if_false]; exact ⟨_, rfl, rfl⟩
  by_cases k4 : a1 = 4
  · simp only [k0, k1, k2, k3, k4, if_true, if_false]; exact ⟨_, rfl, rfl⟩
  by_cases k5 : a1 = 5
  · simp only [k0, k1, k2, k3, k4, k5, if_true, if_false]; exact ⟨_, rfl, rfl⟩
  by_cases k6 : a1 = 6
  · simp only [k0, k1, k2, k3, k4, k5, k6, if_true, if_false]; exact ⟨_, rfl, rfl⟩
  by_cases k7 : a1 = 7
  · simp only [k0, k1, k2, k3, k4, k5, k6, k7, if_true, if_false]; exact ⟨_, rfl, rfl⟩
  by_cases k8 : a1 = 8
  · simp only [k0, k1, k2, k3, k4, k5, k6, k7, k8, if_true, if_false]; exact ⟨_, rfl, rfl⟩
  simp only [k0, k1, k2, k3, k4, k5, k6, k7, k8, if_false]; exact ⟨_, rfl, rfl⟩
set_option maxHeartbeats 1000000 in
theorem op_enact {σ : St} (hI : Ix σ) (a1 : Int32) : ∃ v σ1 σ2, fX8_enact σ a1 = some (v, σ1) ∧ fX9_enact σ1 a1 = some (v, σ2) ∧ Ix σ2 := by
  have mx := @mX8_enact σ a1
  by_cases c : inb a1 11 = true
  case neg =>
    refine ⟨-2, σ, σ, ?_, ?_, hI⟩
    · unfold fX8_enact; rw [x_isCode, if_neg c]
    · unfold fX9_enact; rw [m_isCode, if_neg c]
  obtain ⟨j, hj, rfl⟩ := inb_ex (by decide) c
  have tj := tn_nI (show j < 2 ^ 31 by omega)
  have ok : acpOk (11, j) 0 (27, 0) 0 17 = true := by
    have h1 : isWA (27, 0) = true := by decide
    have h2 : isIA (11, j) = true := ia_of (f := 11) rfl hj
    simp [acpOk, h1, h2]
    decide
  have eX : fX8_enact σ (nI j) = some (1, acp σ (11, j) 0 (27, 0) 0 17) := by
    unfold fX8_enact
    rw [x_isCode, if_pos c, c, grd_t, tj, ok, grd_t, bnd_eq]
  have m1 := mx eX
  have row : ∀ k, k < 17 → acp σ (11, j) 0 (27, 0) 0 17 (27, 0) k = σ (11, j) k := by
    intro k hk
    unfold acp
    rw [sr_app, if_pos rfl, va_cpy, show tn 0 = 0 from rfl, show tn 17 = 17 from rfl]
    simp only [Nat.zero_le, true_and, Nat.zero_add, hk, if_true, Nat.sub_zero]
  generalize acp σ (11, j) 0 (27, 0) 0 17 = s at eX m1 row
  have hId : Id s := dep_Id.mv m1 (by decide) hI.2
  have r11 : ∀ k, s (11, j) k = σ (11, j) k := fun k => m1 _ _ (by rw [cod_a (by decide)]; decide)
  have key : ∃ b, fX9_enact s (nI j) = some b ∧ b.1 = 1 ∧ Id b.2 ∧ (∀ k, k < 17 → b.2 (47, 0) k = s (11, j) k) := by
    unfold fX9_enact
    rw [m_isCode, if_pos c]
    refine lpF_for (fun i a => a.1 = nI i ∧ Id a.2 ∧ modi (47 :: RR) s a.2 ∧ ∀ k, k < i → a.2 (47, 0) k = s (11, j) k) 17 ?_ ?_ (by decide) ⟨rfl, hId, modi.rf, fun k hk => by omega⟩
    · rintro i ⟨x, s1⟩ hi ⟨rfl, h1, h2, h3⟩
      have c17 : ¬ (17 : Int32) ≤ nI i := by rw [show (17 : Int32) = nI 17 from rfl, leI (by decide) (by omega)]; omega
      obtain ⟨s2, e2, q1, q2⟩ := m_itemOf hj hi h1
      obtain ⟨i1, i2⟩ := in17 hi
      have w : s1 (11, j) i = s (11, j) i := h2 _ _ (by rw [cod_a (by decide)]; decide)
      have mm : modi (47 :: RR) s (su s2 (47, 0) i (s (11, j) i)) := (h2.tr q2 (by decide)).su (by rw [cod_a (by decide)]; decide)
      refine Or.inl ⟨(nI (i + 1), su s2 (47, 0) i (s (11, j) i)), by simp only [c17, if_false, e2, obi_s, i1, grd_t, i2, bnd_eq, nI_1, w], rfl, ?_, mm, ?_⟩
      · exact dep_Id.mv (L := [47]) ((modi.rf).su (by rw [cod_a (by decide)]; decide)) (by decide) q1
      · intro k hk
        show su s2 (47, 0) i (s (11, j) i) (47, 0) k = _
        rw [su_app]
        by_cases ck : k = i
        · rw [if_pos ⟨rfl, ck⟩, ck]
        · rw [if_neg (fun q => ck q.2), q2.M (by simp)]
          exact h3 k (by omega)
    · rintro ⟨x, s1⟩ ⟨rfl, h1, h2, h3⟩
      exact ⟨(1, s1), by simp only [show (17 : Int32) ≤ nI 17 by decide, if_true], rfl, h1, h3⟩
  obtain ⟨⟨v, s2⟩, e2, rfl, h1, h3⟩ := key
  have m2 := mX9_enact e2
  refine ⟨_, _, _, eX, e2, ?_, h1⟩
  obtain ⟨g1, g2, g3, g4, g5, g6⟩ := hI.1
  refine ⟨dep_Ib.mv m2 (by decide) (dep_Ib.mv m1 (by decide) g1), dep_Ic.mv m2 (by decide) (dep_Ic.mv m1 (by decide) g2), ?_, dep_Iw.mv m2 (by decide) (dep_Iw.mv m1 (by decide) g4), dep_Is.mv m2 (by decide) (dep_Is.mv m1 (by decide) g5), dep_Im.mv m2 (by decide) (dep_Im.mv m1 (by decide) g6)⟩
  intro k hk
  rw [show s2 (47, 0) k = s (11, j) k from h3 k hk, m2 (27, 0) k (by rw [cod_a (by decide)]; decide), row k hk, r11]
