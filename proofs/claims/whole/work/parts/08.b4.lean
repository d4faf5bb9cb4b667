def srg (σ : St) (r : Rf) (lo n : Nat) (g : Nat → Int32) : St := sr σ r (fun k => if lo ≤ k ∧ k < lo + n then g (k - lo) else σ r k)
theorem srg_0 (σ : St) (r : Rf) (lo : Nat) (g : Nat → Int32) : srg σ r lo 0 g = σ := by
  unfold srg
  have : (fun k => if lo ≤ k ∧ k < lo + 0 then g (k - lo) else σ r k) = σ r := by
    funext k
    rw [if_neg (by omega)]
  rw [this, sr_same]
theorem srg_su (σ : St) (r : Rf) (lo i : Nat) (g : Nat → Int32) {v : Int32} (hv : v = g i) : su (srg σ r lo i g) r (lo + i) v = srg σ r lo (i + 1) g := by
  subst hv
  unfold srg
  rw [su_sr]
  congr 1
  funext k
  rw [upd_app]
  by_cases hk : k = lo + i
  · subst hk
    rw [if_pos rfl, if_pos (by omega), Nat.add_sub_cancel_left]
  · rw [if_neg hk]
    by_cases h2 : lo ≤ k ∧ k < lo + i
    · rw [if_pos h2, if_pos (by omega)]
    · rw [if_neg h2, if_neg (by omega)]
theorem srg_app (σ : St) (r r' : Rf) (lo n k : Nat) (g : Nat → Int32) : srg σ r lo n g r' k = if r' = r ∧ lo ≤ k ∧ k < lo + n then g (k - lo) else σ r' k := by
  unfold srg sr
  by_cases h : r' = r
  · subst h
    by_cases h2 : lo ≤ k ∧ k < lo + n
    · rw [if_pos rfl, if_pos h2, if_pos ⟨rfl, h2⟩]
    · rw [if_pos rfl, if_neg h2, if_neg (fun q => h2 q.2)]
  · rw [if_neg h, if_neg (fun q => h q.1)]
theorem srg_ne (σ : St) {r r' : Rf} (lo n k : Nat) (g : Nat → Int32) (h : ¬ r' = r) : srg σ r lo n g r' k = σ r' k := by rw [srg_app, if_neg (fun q => h q.1)]
theorem su_srg (σ : St) {r r' : Rf} (lo n k : Nat) (g : Nat → Int32) (v : Int32) (h : ¬ r = r') : su (srg σ r lo n g) r' k v = srg (su σ r' k v) r lo n g := by
  funext r2 k2
  rw [su_app, srg_app, srg_app, su_app]
  by_cases h1 : r2 = r'
  · subst h1
    have h2 : ¬ r2 = r := fun e => h e.symm
    simp [h2]
  · simp [h1]
theorem modi.srg {L : List Nat} {σ σ1 : St} {r : Rf} {lo n : Nat} {g : Nat → Int32} (h : modi L σ σ1) (h10 : ¬ r.1 < 10) (hr : r.1 ∈ L) : modi L σ (srg σ1 r lo n g) := h.sr h10 hr
theorem fill_srg {σ : St} {r : Rf} (v : Int32) (hr : isWA r = true) : fJ7_fill_53178 σ r v = some (srg σ r 0 (alen r.1) (fun _ => v)) := by
  rw [fill_ok v hr]
  unfold srg
  simp
set_option maxHeartbeats 1000000 in
theorem op_sheet {σ : St} (hI : Iv σ) (a1 a2 a3 : Int32) : ∃ v σ1 σ2, fX8_sheet σ a1 a2 a3 = some (v, σ1) ∧ fX9_sheet σ1 a1 a2 a3 = some (v, σ2) ∧ Iv σ2 := by
  by_cases c1 : inb a1 4 = true
  · by_cases c2 : inb a2 3 = true
    · by_cases c3 : a3 ≤ 60
      · by_cases c4 : 0 ≤ a3
        · obtain ⟨s, hs4, rfl⟩ := inb_ex (by decide) c1
          obtain ⟨t, ht3, rfl⟩ := inb_ex (by decide) c2
          have c5 : inb a3 61 = true := by
            rw [inb_iff]
            rw [i32_le] at c3 c4
            rw [show (60 : Int32).toInt = 60 from rfl] at c3
            rw [show (0 : Int32).toInt = 0 from rfl] at c4
            omega
          obtain ⟨n, hn, rfl⟩ := inb_ex (by decide) c5
          have ts := tn_nI (show s < 2 ^ 31 by omega)
          have wa : isWA (20, s) = true := wa_of rfl hs4 (by decide)
          have g1 : fX8_sheet σ (nI s) (nI t) (nI n) = some (nI n, su (su (su (srg σ (20, s) 0 60 (fun _ => 0)) (6, s) 1 0) (6, s) 2 (nI t)) (6, s) 3 (nI n)) := by
            simp [fX8_sheet, x_isSheet, c1, x_isType, c2, c3, c4, grd_t, ts, fX6_renew, fill_srg 0 wa, obi_s, bnd]
            rfl
          generalize hσ1 : su (su (su (srg σ (20, s) 0 60 (fun _ => 0)) (6, s) 1 0) (6, s) 2 (nI t)) (6, s) 3 (nI n) = σ1 at g1
          have g2 : fX9_sheet σ1 (nI s) (nI t) (nI n) = some (nI n, srg (su (su (su σ1 (51, 0) s 1) (52, 0) s (nI t)) (53, 0) s (nI n)) (54, 0) (60 * s) 60 (fun _ => 0)) := by
            simp only [fX9_sheet, m_isSheet, c1, rM (nI t) 3 2 (by decide), c2, c3, c4, grd_t, ts, bnd_eq, nbo1, if_true]
            refine lpF_fx (fun i a => a = (nI i, srg (su (su (su σ1 (51, 0) s 1) (52, 0) s (nI t)) (53, 0) s (nI n)) (54, 0) (60 * s) i (fun _ => 0))) 60 ?_ ?_ (by decide) ?_
            · intro i a hi ha
              subst ha
              refine Or.inl ⟨_, ?_, rfl⟩
              have t1 : ¬ (60 : Int32) ≤ nI i := nI_ge (b := 60) hi (by decide)
              have t2 : inb (nI (60 * s + i)) 240 = true := by rw [inb_nI (by omega)]; simp; omega
              simp only [t1, if_false, ix60, t2, grd_t, tn_nI (show 60 * s + i < 2 ^ 31 by omega), nI_1]
              rw [srg_su _ _ _ _ _ rfl]
            · intro a ha
              subst ha
              exact ⟨_, by simp only [show (60 : Int32) ≤ nI 60 from by decide, if_true], rfl⟩
            · simp only [srg_0, nI_0]
          have hmod : modi [20, 1601, 1602, 1603] σ σ1 := by
            rw [← hσ1]
            exact modi.su (modi.su (modi.su (modi.srg modi.rf (show ¬ (20 : Nat) < 10 by decide) (show (20 : Nat) ∈ _ by decide)) (show (1601 : Nat) ∈ _ by decide)) (show (1602 : Nat) ∈ _ by decide)) (show (1603 : Nat) ∈ _ by decide)
          have hmod2 : modi [20, 1601, 1602, 1603, 51, 52, 53, 54] σ (srg (su (su (su σ1 (51, 0) s 1) (52, 0) s (nI t)) (53, 0) s (nI n)) (54, 0) (60 * s) 60 (fun _ => 0)) :=
            modi.srg (modi.su (modi.su (modi.su (modi.tr modi.rf hmod (by decide)) (show (51 : Nat) ∈ _ by decide)) (show (52 : Nat) ∈ _ by decide)) (show (53 : Nat) ∈ _ by decide)) (show ¬ (54 : Nat) < 10 by decide) (show (54 : Nat) ∈ _ by decide)
          obtain ⟨hb, hc, hl, hw, hs, hm⟩ := id hI
          refine ⟨_, _, _, g1, g2, dep_Ib.mv hmod2 (by decide) hb, dep_Ic.mv hmod2 (by decide) hc, dep_Il.mv hmod2 (by decide) hl, dep_Iw.mv hmod2 (by decide) hw, ?_, dep_Im.mv hmod2 (by decide) hm⟩
          intro s' hs'
          obtain ⟨l', t', n', p1, p2, p3, z1, z2, z3, z4, z5, z6, z7⟩ := hs s' hs'
          by_cases hss : s' = s
          · subst hss
            refine ⟨0, t, n, by decide, ht3, by omega, ?_⟩
            rw [← hσ1]
            simp [su_app, srg_app, nI_0]
            refine ⟨rfl, fun i hi => ?_⟩
            rw [if_pos hi, if_pos (by omega)]
          · refine ⟨l', t', n', p1, p2, p3, ?_⟩
            rw [← hσ1]
            simp [su_app, srg_app, hss, z1, z2, z3, z4, z5, z6]
            intro i hi
            rw [if_neg (by omega)]
            exact z7 i hi
        · refine ⟨-10 - 5, su σ (8, 0) 15 5, su (su σ (8, 0) 15 5) (9, 0) 44 5, ?_, ?_, Iv_find hI 5⟩
          · simp [fX8_sheet, x_isSheet, c1, x_isType, c2, c3, c4, bnd, fX8_refuse]
          · simp [fX9_sheet, m_isSheet, c1, rM a2 3 2 (by decide), c2, c3, c4, bnd, fX9_meets]
      · refine ⟨-2, σ, σ, ?_, ?_, hI⟩
        · simp [fX8_sheet, x_isSheet, c1, x_isType, c2, c3]
        · simp [fX9_sheet, m_isSheet, c1, rM a2 3 2 (by decide), c2, c3]
    · refine ⟨-2, σ, σ, ?_, ?_, hI⟩
      · simp [fX8_sheet, x_isSheet, c1, x_isType, c2]
      · simp [fX9_sheet, m_isSheet, c1, rM a2 3 2 (by decide), c2]
  · refine ⟨-2, σ, σ, ?_, ?_, hI⟩
    · simp [fX8_sheet, x_isSheet, c1]
    · simp [fX9_sheet, m_isSheet, c1]
/-- what a type keeps of a number -/
def kp (t : Nat) (v : Int32) : Int32 := if t = 0 then i2bb v else if t = 1 then i2ss v else v
theorem kp3 {t : Nat} (h : t < 3) : t = 0 ∨ t = 1 ∨ t = 2 := by omega
theorem x_setItem {σ : St} {s t n i : Nat} (ht : t < 3) (hn : n ≤ 60) (hi : i < n) (e3 : σ (6, s) 2 = nI t) (e5 : σ (6, s) 3 = nI n) (v : Int32) : fX6_setItem σ s (nI i) v = some (su σ (20, s) i (kp t v)) := by
  have hh : fX6_has σ s (nI i) = true := by
    unfold fX6_has
    rw [e5, rX (nI i) n (nI n) (nI_toInt (by omega)), inb_nI (by omega)]
    simpa using hi
  have c3 : inb (nI i) 60 = true := by rw [inb_nI (by omega)]; simp; omega
  rcases kp3 ht with rfl | rfl | rfl
  · simp [fX6_setItem, hh, e3, nI_0, c3, grd_t, bnd, kp, tn_nI (show i < 2 ^ 31 by omega)]
  · simp [fX6_setItem, hh, e3, show ¬ nI 1 = 0 by decide, show nI 1 = 1 by decide, c3, grd_t, bnd, kp, tn_nI (show i < 2 ^ 31 by omega)]
  · simp [fX6_setItem, hh, e3, show ¬ nI 2 = 0 by decide, show ¬ nI 2 = 1 by decide, c3, grd_t, bnd, kp, tn_nI (show i < 2 ^ 31 by omega)]
theorem m_keep {σ : St} {s t i : Nat} (hs : s < 4) (ht : t < 3) (hi : i < 60) (e4 : σ (52, 0) s = nI t) (v : Int32) : fX9_keep σ (nI s) (nI i) v = some (su σ (54, 0) (60 * s + i) (kp t v)) := by
  have c1 : inb (nI s) 4 = true := by rw [inb_nI (by omega)]; simpa using hs
  have c4 : inb (nI (60 * s + i)) 240 = true := by rw [inb_nI (by omega)]; simp; omega
  have ts := tn_nI (show s < 2 ^ 31 by omega)
  have ti := tn_nI (show 60 * s + i < 2 ^ 31 by omega)
  rcases kp3 ht with rfl | rfl | rfl
  · simp [fX9_keep, c1, grd_t, ts, e4, nI_0, obi_s, ix60, c4, bnd, kp, ti]
  · simp [fX9_keep, c1, grd_t, ts, e4, show ¬ nI 1 = 0 by decide, show nI 1 = 1 by decide, obi_s, ix60, c4, bnd, kp, ti]
  · simp [fX9_keep, c1, grd_t, ts, e4, show ¬ nI 2 = 0 by decide, show ¬ nI 2 = 1 by decide, obi_s, ix60, c4, bnd, kp, ti]
/-- one item of a sheet, on both sides -/
theorem Is_lay {σ : St} (hI : Iv σ) {s i : Nat} (hs4 : s < 4) (hi : i < 60) (x : Int32) : Iv (su (su σ (20, s) i x) (54, 0) (60 * s + i) x) := by
  obtain ⟨hb, hc, hl, hw, hs, hm⟩ := id hI
  have hmod : modi [20, 54] σ (su (su σ (20, s) i x) (54, 0) (60 * s + i) x) := modi.su (modi.su modi.rf (show (20 : Nat) ∈ _ by decide)) (show (54 : Nat) ∈ _ by decide)
  refine ⟨dep_Ib.mv hmod (by decide) hb, dep_Ic.mv hmod (by decide) hc, dep_Il.mv hmod (by decide) hl, dep_Iw.mv hmod (by decide) hw, ?_, dep_Im.mv hmod (by decide) hm⟩
  intro s' hs'
  obtain ⟨l', t', n', p1, p2, p3, z1, z2, z3, z4, z5, z6, z7⟩ := hs s' hs'
  refine ⟨l', t', n', p1, p2, p3, ?_⟩
  simp [su_app, z1, z2, z3, z4, z5, z6]
  intro i' hi'
  rw [z7 i' hi']
  by_cases hss : s' = s
  · subst hss
    by_cases hii : i' = i
    · simp [hii]
    · simp [hii]
  · rw [if_neg (fun q => hss q.1), if_neg (by omega)]
set_option maxHeartbeats 1000000 in
theorem op_lay {σ : St} (hI : Iv σ) (a1 a2 a3 a4 : Int32) : ∃ v σ1 σ2, fX8_lay σ a1 a2 a3 a4 = some (v, σ1) ∧ fX9_lay σ1 a1 a2 a3 a4 = some (v, σ2) ∧ Iv σ2 := by
  by_cases c1 : inb a1 4 = true
  · by_cases c2 : inb a2 3 = true
    · obtain ⟨s, hs4, rfl⟩ := inb_ex (by decide) c1
      have ts := tn_nI (show s < 2 ^ 31 by omega)
      obtain ⟨f1, f2, f3⟩ := find_ok hI.2.2.2.2.1 hs4 a2 a3
      rcases f2 with f2 | f2
      · obtain ⟨n, i, hn, hi, rfl, hsz⟩ := f3 f2
        obtain ⟨l, t, n', q1, q2, q3, e1, e2, e3, e4, e5, e6, e7⟩ := hI.2.2.2.2.1 s hs4
        have hmod : modi [20] σ (su σ (20, s) i (kp t a4)) := modi.su modi.rf (show (20 : Nat) ∈ _ by decide)
        have g1 : fX8_lay σ (nI s) a2 (nI i) a4 = some (1, su σ (20, s) i (kp t a4)) := by
          simp [fX8_lay, x_isSheet, c1, x_isType, c2, grd_t, ts, bnd, f2, x_setItem q2 hn hi e3 hsz, obi_s]
        have f1' : fX9_lacks (su σ (20, s) i (kp t a4)) (nI s) a2 (nI i) = some 0 := by
          rw [show fX9_lacks (su σ (20, s) i (kp t a4)) (nI s) a2 (nI i) = fX9_lacks σ (nI s) a2 (nI i) by
            unfold fX9_lacks
            simp only [su_ref σ (r := (20, s)) (r' := (51, 0)) _ _ _ (by simp), su_ref σ (r := (20, s)) (r' := (52, 0)) _ _ _ (by simp), su_ref σ (r := (20, s)) (r' := (53, 0)) _ _ _ (by simp)]]
          rw [f1, f2]
        have g2 : fX9_lay (su σ (20, s) i (kp t a4)) (nI s) a2 (nI i) a4 = some (1, su (su σ (20, s) i (kp t a4)) (54, 0) (60 * s + i) (kp t a4)) := by
          simp [fX9_lay, m_isSheet, c1, rM a2 3 2 (by decide), c2, f1', obi_s, m_keep (σ := su σ (20, s) i (kp t a4)) hs4 q2 (show i < 60 by omega) (by simp [su_app, e4])]
        exact ⟨_, _, _, g1, g2, Is_lay hI hs4 (by omega) _⟩
      · refine ⟨-10 - fX8_findingOf σ s a2 a3, su σ (8, 0) 15 (fX8_findingOf σ s a2 a3), su (su σ (8, 0) 15 (fX8_findingOf σ s a2 a3)) (9, 0) 44 (fX8_findingOf σ s a2 a3), ?_, ?_, Iv_find hI _⟩
        · simp [fX8_lay, x_isSheet, c1, x_isType, c2, grd_t, ts, bnd, not_z_pos f2, fX8_refuse]
        · have g : fX9_lacks (su σ (8, 0) 15 (fX8_findingOf σ s a2 a3)) (nI s) a2 a3 = some (fX8_findingOf σ s a2 a3) := by
            rw [(find_ok (dep_Is.mv (L := [1815]) (modi.su modi.rf (by decide)) (by decide) hI.2.2.2.2.1) hs4 a2 a3).1, dep_find]
            intro k
            simp [su_app]
          simp [fX9_lay, m_isSheet, c1, rM a2 3 2 (by decide), c2, g, obi_s, not_le_pos f2, bnd, fX9_meets]
    · refine ⟨-2, σ, σ, ?_, ?_, hI⟩
      · simp [fX8_lay, x_isSheet, c1, x_isType, c2]
      · simp [fX9_lay, m_isSheet, c1, rM a2 3 2 (by decide), c2]
  · refine ⟨-2, σ, σ, ?_, ?_, hI⟩
    · simp [fX8_lay, x_isSheet, c1]
    · simp [fX9_lay, m_isSheet, c1]
