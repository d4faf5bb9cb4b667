theorem i3 {a : Int32} : inb a 4 = true → a = 0 ∨ a = 1 ∨ a = 2 ∨ a = 3 := by
  intro h
  obtain ⟨j, hj, rfl⟩ := inb_ex (by decide) h
  have : j = 0 ∨ j = 1 ∨ j = 2 ∨ j = 3 := by omega
  rcases this with rfl | rfl | rfl | rfl
  · exact Or.inl rfl
  · exact Or.inr (Or.inl rfl)
  · exact Or.inr (Or.inr (Or.inl rfl))
  · exact Or.inr (Or.inr (Or.inr rfl))
theorem op_motion {σ : St} (hI : Ix σ) (a1 a2 a3 : Int32) : ∃ v σ2, fX8_motion σ a1 a2 a3 = some v ∧ fX9_motion σ a1 a2 a3 = some (v, σ2) ∧ Ix σ2 := by
  obtain ⟨nc, hnc, n1, n2⟩ := club_at hI.1
  unfold fX8_motion fX9_motion
  rw [x_isItem, x_isCode, rM a1 17 16 (by decide), m_isCode, rM a3 4 3 (by decide)]
  by_cases c : inb a1 17 = true
  case neg =>
    rw [if_neg c, if_neg c]
    exact ⟨_, _, rfl, rfl, hI⟩
  by_cases d : inb a2 11 = true
  case neg =>
    rw [if_pos c, if_pos c, if_neg d, if_neg d]
    exact ⟨_, _, rfl, rfl, hI⟩
  rw [if_pos c, if_pos c, if_pos d, if_pos d]
  by_cases e : inb a3 4 = true
  case neg =>
    rw [if_neg e]
    by_cases d1 : a3 < 0
    · rw [if_pos d1]
      exact ⟨_, _, rfl, rfl, hI⟩
    · have d2 : ¬ a3 ≤ 3 := by
        intro e'
        refine e (inb_iff.2 ⟨?_, ?_⟩)
        · rw [i32_lt] at d1
          have : (0 : Int32).toInt = 0 := rfl
          omega
        · rw [i32_le] at e'
          have : (3 : Int32).toInt = 3 := rfl
          omega
      rw [if_neg d1, if_neg d2]
      exact ⟨_, _, rfl, rfl, hI⟩
  obtain ⟨a, ha, rfl⟩ := inb_ex (by decide) c
  obtain ⟨j, hj, rfl⟩ := inb_ex (by decide) d
  obtain ⟨s, em, h1, m1⟩ := m_motionOf hI hI.2 modi.rf ha hj hnc n1 n2 a3
  rw [if_pos e, em, obi_s, d, grd_t, c, grd_t, bnd_eq, tn_nI (by omega), tn_nI (by omega)]
  refine ⟨mot σ a (σ (11, j) a) nc a3, s, ?_, rfl, hI.rd m1 h1⟩
  rw [x_votesFor hI.1 ha hnc n1, x_votesAgainst hI.1 ha hnc n1, x_isCarried hI.1 ha hnc n1, x_leaving hI.1 ha hnc n1]
  unfold mot
  rcases i3 e with rfl | rfl | rfl | rfl
  · rfl
  · rfl
  · simp only [show ¬ (2 : Int32) < 0 by decide, show (2 : Int32) ≤ 3 by decide, show ¬ (2 : Int32) = 0 by decide, show ¬ (2 : Int32) = 1 by decide, if_false, if_true, obi_s]
    split <;> rfl
  · rfl
theorem bitv (x : Int32) (i : Nat) : (x >>> (nI i &&& 31)) &&& 1 = 0 ∨ (x >>> (nI i &&& 31)) &&& 1 = 1 := by
  generalize x >>> (nI i &&& 31) = y
  by_cases h : y.toBitVec.getLsbD 0 = true
  · right
    apply Int32.toBitVec_inj.1
    rw [Int32.toBitVec_and]
    apply BitVec.eq_of_getLsbD_eq
    intro k hk
    rw [BitVec.getLsbD_and]
    by_cases c : k = 0
    · subst c
      rw [h]
      decide
    · have : BitVec.getLsbD (Int32.toBitVec 1) k = false := by
        rw [show Int32.toBitVec 1 = 1#32 by decide, BitVec.getLsbD_one]
        simp
        omega
      rw [this]
      simp
  · left
    apply Int32.toBitVec_inj.1
    rw [Int32.toBitVec_and]
    apply BitVec.eq_of_getLsbD_eq
    intro k hk
    rw [BitVec.getLsbD_and]
    by_cases c : k = 0
    · subst c
      rw [show y.toBitVec.getLsbD 0 = false from by cases hh : y.toBitVec.getLsbD 0 with | true => exact absurd hh h | false => rfl]
      decide
    · have : BitVec.getLsbD (Int32.toBitVec 1) k = false := by
        rw [show Int32.toBitVec 1 = 1#32 by decide, BitVec.getLsbD_one]
        simp
        omega
      rw [this]
      simp
set_option maxHeartbeats 2000000 in
theorem op_put {σ : St} (hI : Ix σ) (a1 a2 : Int32) : ∃ v σ1 σ2, fX8_put σ a1 a2 = some (v, σ1) ∧ fX9_put σ1 a1 a2 = some (v, σ2) ∧ Ix σ2 := by
  obtain ⟨nc, hnc, n1, n2⟩ := club_at hI.1
  by_cases c : inb a1 17 = true
  case neg =>
    refine ⟨-2, σ, σ, ?_, ?_, hI⟩
    · unfold fX8_put; rw [x_isItem, if_neg c]
    · unfold fX9_put; rw [rM a1 17 16 (by decide), if_neg c]
  by_cases d : inb a2 11 = true
  case neg =>
    refine ⟨-2, σ, σ, ?_, ?_, hI⟩
    · unfold fX8_put; rw [x_isItem, if_pos c, x_isCode, if_neg d]
    · unfold fX9_put; rw [rM a1 17 16 (by decide), if_pos c, m_isCode, if_neg d]
  obtain ⟨a, ha, rfl⟩ := inb_ex (by decide) c
  obtain ⟨j, hj, rfl⟩ := inb_ex (by decide) d
  have ta := tn_nI (show a < 2 ^ 31 by omega)
  have tj := tn_nI (show j < 2 ^ 31 by omega)
  generalize hx : σ (11, j) a = x
  generalize hF : car σ (cn (fun i => mem σ i && decide (itm σ a i = x)) nc) (vAg σ a x nc) = F
  generalize hL : bs (fun i => mem σ i && (hol σ a i && !(decide (itm σ a i = x)))) nc = L
  have eX0 : fX8_put σ (nI a) (nI j) = (if F = true then obi (lpF (fun (q10 : Int32 × St) => match q10 with
        | (x4, σ2) =>
        if (σ2 (8, 0) 11) ≤ x4 then
          some (.inr σ2)
        else
          obi (if ((L >>> (x4 &&& 31)) &&& (1 : Int32)) = (1 : Int32) then
            grd (inb x4 12) (bnd (su σ2 (0, (tn x4)) 2 (0 : Int32)) (fun σ4 =>
            some σ4))
          else
            some σ2) (fun σ3 =>
          bnd (x4 + 1) (fun x5 =>
          some (.inl (x5, σ3))))) ((0 : Int32), σ)) (fun σ1 => some ((1 : Int32), su σ1 (27, 0) a x)) else some (0, σ)) := by
    unfold fX8_put
    rw [x_isItem, if_pos c, x_isCode, if_pos d, d, grd_t, c, grd_t, bnd_eq, tj, ta, hx, x_isCarried hI.1 ha hnc n1, obi_s, hF, x_leaving hI.1 ha hnc n1, obi_s, hL]
    rfl
  cases F with
  | false =>
    obtain ⟨s, em, h1, m1⟩ := m_motionOf hI hI.2 modi.rf ha hj hnc n1 n2 2
    refine ⟨0, σ, s, by rw [eX0]; rfl, ?_, hI.rd m1 h1⟩
    have e2 : mot σ a (σ (11, j) a) nc 2 = 0 := by
      unfold mot
      rw [hx, hF]
      rfl
    unfold fX9_put
    rw [rM (nI a) 17 16 (by decide), if_pos c, m_isCode, if_pos d, em, obi_s, e2]
    rfl
  | true =>
    have lo : lpF (fun (q10 : Int32 × St) => match q10 with
        | (x4, σ2) =>
        if (σ2 (8, 0) 11) ≤ x4 then
          some (.inr σ2)
        else
          obi (if ((L >>> (x4 &&& 31)) &&& (1 : Int32)) = (1 : Int32) then
            grd (inb x4 12) (bnd (su σ2 (0, (tn x4)) 2 (0 : Int32)) (fun σ4 =>
            some σ4))
          else
            some σ2) (fun σ3 =>
          bnd (x4 + 1) (fun x5 =>
          some (.inl (x5, σ3))))) ((0 : Int32), σ) = some (fun r k => if r.1 = 0 ∧ k = 2 ∧ r.2 < nc ∧ ((L >>> (nI r.2 &&& 31)) &&& (1 : Int32)) = 1 then 0 else σ r k) := by
      refine lpF_fx (fun i s => s = (nI i, fun r k => if r.1 = 0 ∧ k = 2 ∧ r.2 < i ∧ ((L >>> (nI r.2 &&& 31)) &&& (1 : Int32)) = 1 then 0 else σ r k)) nc ?_ ?_ (by omega) (by
        congr 1
        funext r k
        rw [if_neg (by rintro ⟨-, -, q, -⟩; omega)])
      · intro i s hi hs
        subst hs
        refine Or.inl ⟨_, ?_, rfl⟩
        obtain ⟨i1, i2⟩ := in12 (show i < 12 by omega)
        simp only [show ¬ (8 : Nat) = 0 by decide, false_and, if_false, n1, leI (show nc < 2 ^ 31 by omega) (show i < 2 ^ 31 by omega), show ¬ nc ≤ i by omega, i1, grd_t, i2, bnd_eq, nI_1]
        by_cases cL : (L >>> (nI i &&& 31)) &&& 1 = 1
        · simp only [cL, if_true, obi_s]
          congr 3
          funext r k
          rw [su_app]
          by_cases ce : r = (0, i) ∧ k = 2
          · obtain ⟨rfl, rfl⟩ := ce
            simp [cL]
          · rw [if_neg ce]
            by_cases cf : r.1 = 0 ∧ k = 2 ∧ r.2 < i ∧ ((L >>> (nI r.2 &&& 31)) &&& (1 : Int32)) = 1
            · rw [if_pos cf, if_pos ⟨cf.1, cf.2.1, by omega, cf.2.2.2⟩]
            · rw [if_neg cf, if_neg]
              rintro ⟨q1, q2, q3, q4⟩
              have : r.2 = i := by
                by_cases c' : r.2 = i
                · exact c'
                · exact absurd ⟨q1, q2, by omega, q4⟩ cf
              exact ce ⟨by rw [← this, ← q1], q2⟩
        · simp only [cL, if_false, obi_s]
          congr 3
          funext r k
          by_cases cf : r.1 = 0 ∧ k = 2 ∧ r.2 < i ∧ ((L >>> (nI r.2 &&& 31)) &&& (1 : Int32)) = 1
          · rw [if_pos cf, if_pos ⟨cf.1, cf.2.1, by omega, cf.2.2.2⟩]
          · rw [if_neg cf, if_neg]
            rintro ⟨q1, q2, q3, q4⟩
            have : r.2 = i := by
              by_cases c' : r.2 = i
              · exact c'
              · exact absurd ⟨q1, q2, by omega, q4⟩ cf
            rw [this] at q4
            exact cL q4
      · intro s hs
        subst hs
        exact ⟨_, by simp only [show ¬ (8 : Nat) = 0 by decide, false_and, if_false, n1, leI (show nc < 2 ^ 31 by omega) (show nc < 2 ^ 31 by omega), Nat.le_refl, if_true], rfl⟩
    rw [lo, if_pos rfl, obi_s] at eX0
    generalize hs1 : su (fun r k => if r.1 = 0 ∧ k = 2 ∧ r.2 < nc ∧ ((L >>> (nI r.2 &&& 31)) &&& (1 : Int32)) = 1 then 0 else σ r k) (27, 0) a x = τ at eX0
    have mX : modi [27, 1002] σ τ := mX8_put eX0
    have mQ : modi RQ σ τ := modi.tr (modi.rf (L := RQ) (σ := σ)) mX (by decide)
    have hτ : Id τ := dep_Id.mv mX (by decide) hI.2
    obtain ⟨s1, f1, g1, m1⟩ := m_motionOf hI hτ mQ ha hj hnc n1 n2 2
    have mQ1 : modi RQ σ s1 := mQ.tr m1 (by decide)
    obtain ⟨s2, f2, g2, m2⟩ := m_motionOf hI g1 mQ1 ha hj hnc n1 n2 3
    have mQ2 : modi RQ σ s2 := mQ1.tr m2 (by decide)
    obtain ⟨s3, f3, g3, m3⟩ := m_itemOf hj ha g2
    have mQ3 : modi RQ σ s3 := mQ2.tr m3 (by decide)
    have e2 : mot σ a (σ (11, j) a) nc 2 = 1 := by
      unfold mot
      rw [hx, hF]
      rfl
    have e3 : mot σ a (σ (11, j) a) nc 3 = L := by
      unfold mot
      rw [hx, hL]
      rfl
    rw [e2] at f1
    rw [e3] at f2
    rw [show s2 (11, j) a = x by rw [mQ2.PM (by simp), hx]] at f3
    have nb : ∀ y : Int32, y = 0 ∨ y = 1 → nbo y = y := by rintro y (rfl | rfl) <;> decide
    have lo2 : lpF (fun (q9 : Int32 × St) => match q9 with
        | (x4, σ5) =>
        if (σ5 (9, 0) 28) ≤ x4 then
          some (.inr (((1 : Int32), σ5)))
        else
          grd (inb x4 12) (
          bnd (if (σ5 (46, 0) (tn x4)) = 0 then
            (0 : Int32)
          else
            if ((L >>> (x4 &&& 31)) &&& (1 : Int32)) = 0 then
              (1 : Int32)
            else
              (0 : Int32)) (fun x5 =>
          grd (inb x4 12) (bnd (su σ5 (46, 0) (tn x4) (nbo x5)) (fun σ6 =>
          bnd (x4 + 1) (fun x6 =>
          some (.inl (x6, σ6)))))))) ((0 : Int32), su s3 (47, 0) a x) = some (1, srg (su s3 (47, 0) a x) (46, 0) 0 nc (fun k => if σ (46, 0) k = 0 then 0 else if ((L >>> (nI k &&& 31)) &&& (1 : Int32)) = 0 then 1 else 0)) := by
      refine lpF_fx (fun i s => s = (nI i, srg (su s3 (47, 0) a x) (46, 0) 0 i (fun k => if σ (46, 0) k = 0 then 0 else if ((L >>> (nI k &&& 31)) &&& (1 : Int32)) = 0 then 1 else 0))) nc ?_ ?_ (by omega) (by rw [srg_0]; rfl)
      · intro i s hi hs
        subst hs
        refine Or.inl ⟨_, ?_, rfl⟩
        obtain ⟨i1, i2⟩ := in12 (show i < 12 by omega)
        have r1 : srg (su s3 (47, 0) a x) (46, 0) 0 i (fun k => if σ (46, 0) k = 0 then 0 else if ((L >>> (nI k &&& 31)) &&& (1 : Int32)) = 0 then 1 else 0) (9, 0) 28 = nI nc := by
          rw [srg_app, if_neg (by simp), su_app, if_neg (by simp), mQ3.PM (by simp), n2]
        have r2 : srg (su s3 (47, 0) a x) (46, 0) 0 i (fun k => if σ (46, 0) k = 0 then 0 else if ((L >>> (nI k &&& 31)) &&& (1 : Int32)) = 0 then 1 else 0) (46, 0) i = σ (46, 0) i := by
          rw [srg_app, if_neg (by simp), su_app, if_neg (by simp), mQ3.PM (by simp)]
        simp only [r1, leI (show nc < 2 ^ 31 by omega) (show i < 2 ^ 31 by omega), show ¬ nc ≤ i by omega, if_false, i1, grd_t, i2, bnd_eq, r2, nI_1]
        have hv : nbo (if σ (46, 0) i = 0 then 0 else if L >>> (nI i &&& 31) &&& 1 = 0 then 1 else 0) = (if σ (46, 0) i = 0 then 0 else if L >>> (nI i &&& 31) &&& 1 = 0 then 1 else 0) := by
          refine nb _ ?_
          by_cases q1 : σ (46, 0) i = 0
          · simp [q1]
          · by_cases q2 : L >>> (nI i &&& 31) &&& 1 = 0
            · simp [q1, q2]
            · simp [q1, q2]
        have sg := srg_su (su s3 (47, 0) a x) (46, 0) 0 i (fun k => if σ (46, 0) k = 0 then 0 else if ((L >>> (nI k &&& 31)) &&& (1 : Int32)) = 0 then 1 else 0) hv
        rw [Nat.zero_add] at sg
        rw [sg]
      · intro s hs
        subst hs
        have r1 : srg (su s3 (47, 0) a x) (46, 0) 0 nc (fun k => if σ (46, 0) k = 0 then 0 else if ((L >>> (nI k &&& 31)) &&& (1 : Int32)) = 0 then 1 else 0) (9, 0) 28 = nI nc := by
          rw [srg_app, if_neg (by simp), su_app, if_neg (by simp), mQ3.PM (by simp), n2]
        exact ⟨_, by simp only [r1, leI (show nc < 2 ^ 31 by omega) (show nc < 2 ^ 31 by omega), Nat.le_refl, if_true], rfl⟩
    have eM : fX9_put τ (nI a) (nI j) = some (1, srg (su s3 (47, 0) a x) (46, 0) 0 nc (fun k => if σ (46, 0) k = 0 then 0 else if ((L >>> (nI k &&& 31)) &&& (1 : Int32)) = 0 then 1 else 0)) := by
      unfold fX9_put
      rw [rM (nI a) 17 16 (by decide), if_pos c, m_isCode, if_pos d, f1, obi_s]
      simp only [show ¬ (1 : Int32) = 0 by decide, if_false]
      rw [f2, obi_s]
      simp only
      rw [f3, obi_s]
      simp only
      rw [c, grd_t, bnd_eq, ta, lo2]
    generalize hs4 : srg (su s3 (47, 0) a x) (46, 0) 0 nc (fun k => if σ (46, 0) k = 0 then 0 else if ((L >>> (nI k &&& 31)) &&& (1 : Int32)) = 0 then 1 else 0) = s4 at eM
    have m4 := mX9_put eM
    refine ⟨1, τ, s4, eX0, eM, ?_, ?_⟩
    · obtain ⟨b1, b2, b3, b4, b5, b6⟩ := hI.1
      refine ⟨dep_Ib.mv m4 (by decide) (dep_Ib.mv mX (by decide) b1), ?_, ?_, dep_Iw.mv m4 (by decide) (dep_Iw.mv mX (by decide) b4), dep_Is.mv m4 (by decide) (dep_Is.mv mX (by decide) b5), dep_Im.mv m4 (by decide) (dep_Im.mv mX (by decide) b6)⟩
      · intro i hi
        obtain ⟨k, h, m, p1, p2, p3, p4, p5, p6, p7, p8, p9, p10⟩ := b2 i hi
        have t0 : s4 (0, i) 0 = σ (0, i) 0 := by rw [m4 (0, i) 0 (by rw [cod_o (by decide)]; decide), mX (0, i) 0 (by rw [cod_o (by decide)]; decide)]
        have t1 : s4 (0, i) 1 = σ (0, i) 1 := by rw [m4 (0, i) 1 (by rw [cod_o (by decide)]; decide), mX (0, i) 1 (by rw [cod_o (by decide)]; decide)]
        have t44 : s4 (44, 0) i = σ (44, 0) i := by rw [m4 (44, 0) i (by rw [cod_a (by decide)]; decide), mX (44, 0) i (by rw [cod_a (by decide)]; decide)]
        have t45 : s4 (45, 0) i = σ (45, 0) i := by rw [m4 (45, 0) i (by rw [cod_a (by decide)]; decide), mX (45, 0) i (by rw [cod_a (by decide)]; decide)]
        have t11 : s4 (8, 0) 11 = σ (8, 0) 11 := by rw [m4 (8, 0) 11 (by rw [cod_o (by decide)]; decide), mX (8, 0) 11 (by rw [cod_o (by decide)]; decide)]
        have t2 : s4 (0, i) 2 = if i < nc ∧ ((L >>> (nI i &&& 31)) &&& (1 : Int32)) = 1 then 0 else nI m := by
          rw [m4 (0, i) 2 (by rw [cod_o (by decide)]; decide), ← hs1, su_app, if_neg (by simp)]
          simp [p8]
        have t46 : s4 (46, 0) i = if i < nc then (if m = 0 then 0 else if ((L >>> (nI i &&& 31)) &&& (1 : Int32)) = 0 then 1 else 0) else nI m := by
          rw [← hs4, srg_app]
          by_cases ci : i < nc
          · rw [if_pos ⟨rfl, by omega, by omega⟩, if_pos ci, Nat.sub_zero, p9]
            have : (nI m = 0) = (m = 0) := eqI (b := 0) (by omega) (by decide)
            simp only [this]
          · rw [if_neg (by simp; omega), if_neg ci, su_app, if_neg (by simp), mQ3.PM (by simp), p9]
        refine ⟨k, h, if i < nc ∧ ((L >>> (nI i &&& 31)) &&& (1 : Int32)) = 1 then 0 else m, p1, p2, by split <;> omega, by rw [t0, p4], by rw [t44, p5], by rw [t1, p6], by rw [t45, p7], ?_, ?_, ?_⟩
        · rw [t2]; split <;> rfl
        · rw [t46]
          by_cases ci : i < nc
          · rcases bitv L i with q | q
            · have q' : ¬ ((L >>> (nI i &&& 31)) &&& (1 : Int32)) = 1 := by rw [q]; decide
              simp only [ci, q, q', if_true, and_false, if_false, true_and]
              rcases (show m = 0 ∨ m = 1 by omega) with rfl | rfl <;> rfl
            · have q' : ¬ ((L >>> (nI i &&& 31)) &&& (1 : Int32)) = 0 := by rw [q]; decide
              simp only [ci, q, q', if_true, and_self, if_false]
              split <;> rfl
          · rw [if_neg ci, if_neg (fun w => ci w.1)]
        · intro nc' w1 w2 w3
          rw [t11] at w1
          have := p10 nc' w1 w2 w3
          split <;> omega
      · intro k hk
        have t27 : s4 (27, 0) k = if k = a then x else σ (27, 0) k := by
          rw [m4 (27, 0) k (by rw [cod_a (by decide)]; decide), ← hs1, su_app]
          simp
        have t47 : s4 (47, 0) k = if k = a then x else σ (47, 0) k := by
          rw [← hs4, srg_app, if_neg (by simp), su_app]
          by_cases ck : k = a
          · rw [if_pos ⟨rfl, ck⟩, if_pos ck]
          · rw [if_neg (fun w => ck w.2), if_neg ck, mQ3.PM (by simp)]
        rw [t27, t47, b3 k hk]
    · rw [← hs4]
      refine dep_Id.mv (L := [46, 47]) (σ := s3) ?_ (by decide) g3
      intro r k hr
      rw [srg_app, if_neg, su_app, if_neg]
      · rintro ⟨rfl, -⟩
        exact hr (by rw [cod_a (by decide)]; decide)
      · rintro ⟨rfl, -⟩
        exact hr (by rw [cod_a (by decide)]; decide)
