def ptI (x3 x5 : Int32) : Int32 × St → Option ((Int32 × St) ⊕ (Int32 × St)) := fun (q12 : Int32 × St) => match q12 with
      | (x7, σ5) =>
      bj (if x5 = (1 : Int32) then
        obi (fX9_doPart σ5 x3 x7) (fun (x9, σ8) =>
        if x9 = true then
          some (.inl (.inr ((x7, σ8))))
        else
          some (.inr σ8))
      else
        obi (fX9_goesNear σ5 x3 x7 (x5 - (1 : Int32))) (fun (x8, σ7) =>
        if x8 = true then
          some (.inl (.inr ((x7, σ7))))
        else
          some (.inr σ7))) (fun σ6 =>
      bnd (x7 + 1) (fun x10 =>
      some (.inl (x10, σ6))))
theorem ptI_at (x3 x5 x7 : Int32) (σ5 : St) : ptI x3 x5 (x7, σ5) = bj (if x5 = (1 : Int32) then
        obi (fX9_doPart σ5 x3 x7) (fun (x9, σ8) =>
        if x9 = true then
          some (.inl (.inr ((x7, σ8))))
        else
          some (.inr σ8))
      else
        obi (fX9_goesNear σ5 x3 x7 (x5 - (1 : Int32))) (fun (x8, σ7) =>
        if x8 = true then
          some (.inl (.inr ((x7, σ7))))
        else
          some (.inr σ7))) (fun σ6 =>
      bnd (x7 + 1) (fun x10 =>
      some (.inl (x10, σ6)))) := rfl
def ptO (x2 : Int32) : Int32 × Int32 × St → Option ((Int32 × Int32 × St) ⊕ (Int32 × St)) := fun (q7 : Int32 × Int32 × St) => match q7 with
    | (x3, x4, σ3) =>
    if x2 ≤ x4 then
      some (.inr ((x2, σ3)))
    else
      bnd (x2 - x4) (fun x5 =>
      obi (lpF (ptI x3 x5) ((0 : Int32), σ3)) (fun (x6, σ4) =>
      grd (inb x4 6) (bnd (su σ4 (43, 0) (tn x4) x6) (fun σ9 =>
      obi (if x5 = (1 : Int32) then
        some (x3, σ9)
      else
        obi (fX9_end σ9 x3 x6 true) (fun (x12, σ11) =>
        some (irm x12 (100 : Int32), σ11))) (fun (x11, σ10) =>
      bnd (x4 + 1) (fun x13 =>
      some (.inl (x11, x13, σ10))))))))
theorem partsOf_eq (σ : St) (a1 a2 : Int32) : fX9_partsOf σ a1 a2 = obi (fX9_distances σ a1 a2) (fun σ1 =>
  bnd (fX9_begins σ1) (fun σ2 =>
  bnd (fX9_ballNumber σ2) (fun x1 =>
  grd (inb x1 63) (
  bnd (σ2 (40, 0) (tn x1)) (fun x2 =>
  if x2 = (99 : Int32) then
    some ((-1 : Int32), σ2)
  else
    lpF (ptO x2) (x1, (0 : Int32), σ2)))))) := rfl
theorem m_find {s : St} {f g : Nat → Int32} (hr : MR s f g) (hf : gd f) (hg : gd g) {k b z : Nat} (hk : k < 6) (hb : b < 63) (hz : z < 40) (ha : ∀ b', b' < 63 → s (40, 0) b' = nI (dk (pP f g) (oB f) 6 b')) (hd : dk (pP f g) (oB f) 6 b = k + 1) (c1 : cnd (pP f g) (oB f) (dk (pP f g) (oB f) 6) k b z = true) (c0 : ∀ y, y < z → cnd (pP f g) (oB f) (dk (pP f g) (oB f) 6) k b y = false) : ∃ s', lpF (ptI (nI b) (nI (k + 1))) ((0 : Int32), s) = some (nI z, s') ∧ modi QL s s' := by
  have stp : ∀ y (q : St), y < 40 → MR q f g → (∀ b', b' < 63 → q (40, 0) b' = nI (dk (pP f g) (oB f) 6 b')) → ∃ q', ptI (nI b) (nI (k + 1)) (nI y, q) = (if cnd (pP f g) (oB f) (dk (pP f g) (oB f) 6) k b y = true then some (.inr (nI y, q')) else some (.inl (nI (y + 1), q'))) ∧ modi QL q q' := by
    intro y q hy hrq haq
    rw [ptI_at]
    by_cases k0 : k = 0
    · subst k0
      obtain ⟨q', e1, e2⟩ := m_doPart hrq hf hg hb hy
      refine ⟨q', ?_, e2⟩
      rw [if_pos (show nI (0 + 1) = 1 from rfl), e1, obi_s]
      unfold cnd
      rw [if_pos rfl]
      cases pP f g b y with
      | true => show bj (some (Sum.inl (Sum.inr (nI y, q')))) _ = _; rw [bj_sl]; rfl
      | false => show bj (some (Sum.inr q')) _ = _; rw [bj_sr, bnd_eq, nI_1]; rfl
    · obtain ⟨q', e1, e2⟩ := m_near (k := k) hrq hf hg hb hy
      have n1 : ¬ nI (k + 1) = (1 : Int32) := fun e => k0 (by have := (nI_eq (a := k + 1) (b := 1) (by omega) (by decide)).1 e; omega)
      refine ⟨q', ?_, e2⟩
      rw [if_neg n1, nI_pred, e1, obi_s]
      have eq : ((!(decide (oW f b y = 0)) && !(pP f g b y)) && decide (q (40, 0) (oB f b y) = nI k)) = cnd (pP f g) (oB f) (dk (pP f g) (oB f) 6) k b y := by
        unfold cnd
        rw [if_neg k0, haq _ (oB_lt hf hb hy)]
        have ek : decide (nI (dk (pP f g) (oB f) 6 (oB f b y)) = nI k) = decide (dk (pP f g) (oB f) 6 (oB f b y) = k) := by
          have := dk_lt (pP f g) (oB f) 6 (oB f b y) (by omega)
          exact decide_eq_decide.2 (nI_eq (by omega) (by omega))
        rw [ek]
        by_cases w0 : oW f b y = 0
        · have : oB f b y = b := (oW_0 (g := g) w0).2.2 hb
          rw [decide_eq_true w0, this, hd, decide_eq_false (show ¬ k + 1 = k by omega)]
          simp
        · rw [decide_eq_false w0]
          simp
      rw [← eq]
      cases ((!(decide (oW f b y = 0)) && !(pP f g b y)) && decide (q (40, 0) (oB f b y) = nI k)) with
      | true => show bj (some (Sum.inl (Sum.inr (nI y, q')))) _ = _; rw [bj_sl]; rfl
      | false => show bj (some (Sum.inr q')) _ = _; rw [bj_sr, bnd_eq, nI_1]; rfl
  have key : ∃ r, lpF (ptI (nI b) (nI (k + 1))) ((0 : Int32), s) = some r ∧ r.1 = nI z ∧ modi QL s r.2 := by
    refine lpF_for (fun y a => a.1 = nI y ∧ modi QL s a.2) z ?_ ?_ (by omega) ⟨rfl, modi.rf⟩
    · rintro y ⟨x, q⟩ hy ⟨rfl, h1⟩
      replace h1 : modi QL s q := h1
      obtain ⟨q', e1, e2⟩ := stp y q (by omega) (hr.q h1) (fun b' hb' => by rw [h1 (40, 0) b' (by rw [cod_a (by decide)]; decide)]; exact ha b' hb')
      refine Or.inl ⟨(nI (y + 1), q'), ?_, rfl, h1.tr e2 (by decide)⟩
      rw [e1, c0 y hy, if_neg (by decide)]
    · rintro ⟨x, q⟩ ⟨rfl, h1⟩
      replace h1 : modi QL s q := h1
      obtain ⟨q', e1, e2⟩ := stp z q hz (hr.q h1) (fun b' hb' => by rw [h1 (40, 0) b' (by rw [cod_a (by decide)]; decide)]; exact ha b' hb')
      refine ⟨(nI z, q'), ?_, rfl, h1.tr e2 (by decide)⟩
      rw [e1, c1, if_pos rfl]
  obtain ⟨⟨x, q⟩, e1, e2, e3⟩ := key
  replace e2 : x = nI z := e2
  subst e2
  exact ⟨q, e1, e3⟩
theorem fol_lt {f : Nat → Int32} (hf : gd f) {P : Nat → Nat → Bool} : ∀ (r : List Nat) (b : Nat), b < 63 → okR P (oB f) b r → fol (oB f) b r < 63
  | [], b, hb, _ => hb
  | x :: r, b, hb, h => fol_lt hf r (oB f b x) (oB_lt hf hb h.1) h.2.2
set_option maxHeartbeats 1000000 in
theorem m_path {s : St} {f g : Nat → Int32} (hr : MR s f g) (hf : gd f) (hg : gd g) (ha : ∀ b', b' < 63 → s (40, 0) b' = nI (dk (pP f g) (oB f) 6 b')) {ρ : List Nat} (hρ : PR (pP f g) (oB f) 33 ρ) (hmin : ∀ r, PR (pP f g) (oB f) 33 r → cdk 1 ρ ≤ cdk 1 r) (hlen : ρ.length ≤ 6) : ∃ s', lpF (ptO (nI ρ.length)) (nI 33, (0 : Int32), s) = some (nI ρ.length, s') ∧ modi (43 :: QL) s s' ∧ rowIs s' 43 ρ := by
  have key : ∃ r, lpF (ptO (nI ρ.length)) (nI 33, (0 : Int32), s) = some r ∧ r.1 = nI ρ.length ∧ modi (43 :: QL) s r.2 ∧ rowIs r.2 43 ρ := by
    refine lpF_for (fun d a => a.2.1 = nI d ∧ modi (43 :: QL) s a.2.2 ∧ (∃ q t, ρ = q ++ t ∧ q.length = d ∧ (¬ t = [] → a.1 = nI (fol (oB f) 33 q))) ∧ ∀ a' y b, ρ = a' ++ y :: b → a'.length < d → a.2.2 (43, 0) a'.length = nI y) ρ.length ?_ ?_ (by omega) ⟨rfl, modi.rf, ⟨[], ρ, rfl, rfl, fun _ => rfl⟩, fun a' y b _ h => by omega⟩
    · rintro d ⟨x, y, q⟩ hd ⟨e1, h1, ⟨p, t, e2, e3, e4⟩, h3⟩
      replace e1 : y = nI d := e1
      replace h1 : modi (43 :: QL) s q := h1
      replace e4 : ¬ t = [] → x = nI (fol (oB f) 33 p) := e4
      replace h3 : ∀ a' y b, ρ = a' ++ y :: b → a'.length < d → q (43, 0) a'.length = nI y := h3
      subst e1
      cases t with
      | nil =>
        rw [e2, List.append_nil] at hd
        omega
      | cons z t =>
        have e4' := e4 (by simp)
        subst e4'
        obtain ⟨g1, g2, g3, g4, g5, g6⟩ := greedy hρ hmin hlen p t z e2
        have ok : okR (pP f g) (oB f) 33 p := ((PR_app p (z :: t) 33 (by simp)).1 (by rw [← e2]; exact hρ)).1
        have hb := fol_lt hf p 33 (by decide) ok
        have lt : ρ.length = d + (t.length + 1) := by rw [e2, List.length_append, List.length_cons, e3]
        have hr' : MR q f g := hr.mv (modi.tr (modi.rf (L := 40 :: 43 :: QL)) h1 (by decide))
        have ha' : ∀ b', b' < 63 → q (40, 0) b' = nI (dk (pP f g) (oB f) 6 b') := fun b' hb' => by rw [h1 (40, 0) b' (by rw [cod_a (by decide)]; decide)]; exact ha b' hb'
        obtain ⟨q1, f1, f2⟩ := m_find hr' hf hg (show t.length < 6 by omega) hb g2 ha' g1 g5 g6
        have in6 : inb (nI d) 6 = true ∧ tn (nI d) = d := by
          rw [inb_nI (by omega), tn_nI (by omega)]
          simp
          omega
        have x5 : nI ρ.length - nI d = nI (t.length + 1) := by rw [pk_sub (by omega), lt]; congr 1; omega
        have m2 : modi (43 :: QL) s (su q1 (43, 0) d (nI z)) := (h1.tr f2 (by decide)).su (by rw [cod_a (by decide)]; decide)
        have row : ∀ (q2 : St), modi QL (su q1 (43, 0) d (nI z)) q2 → ∀ a' y b, ρ = a' ++ y :: b → a'.length < d + 1 → q2 (43, 0) a'.length = nI y := by
          intro q2 hq a' y b e hl
          rw [hq (43, 0) _ (by rw [cod_a (by decide)]; decide)]
          by_cases c : a'.length = d
          · rw [c, su_hit]
            have := List.append_inj (e2.symm.trans e) (by rw [e3, c])
            rw [(List.cons.inj this.2).1]
          · rw [su_slot _ _ _ _ c, f2 (43, 0) _ (by rw [cod_a (by decide)]; decide)]
            exact h3 a' y b e (by omega)
        have head : ∀ (x11 : Int32) (q2 : St), (if nI (t.length + 1) = (1 : Int32) then some (nI (fol (oB f) 33 p), su q1 (43, 0) d (nI z)) else obi (fX9_end (su q1 (43, 0) d (nI z)) (nI (fol (oB f) 33 p)) (nI z) true) (fun (x12, σ11) => some (irm x12 (100 : Int32), σ11))) = some (x11, q2) → ptO (nI ρ.length) (nI (fol (oB f) 33 p), nI d, q) = some (.inl (x11, nI (d + 1), q2)) := by
          intro x11 q2 hx
          show (if nI ρ.length ≤ nI d then _ else _) = _
          rw [if_neg (by rw [leI (by omega) (by omega)]; omega), x5, bnd_eq, f1, obi_s]
          show grd (inb (nI d) 6) (bnd (su q1 (43, 0) (tn (nI d)) (nI z)) _) = _
          rw [in6.1, grd_t, in6.2, bnd_eq, hx, obi_s]
          show bnd (nI d + 1) _ = _
          rw [bnd_eq, nI_1]
        by_cases t0 : t = []
        · subst t0
          refine Or.inl ⟨_, head (nI (fol (oB f) 33 p)) (su q1 (43, 0) d (nI z)) (by rw [if_pos (show nI (([] : List Nat).length + 1) = 1 from rfl)]), rfl, m2, ⟨p ++ [z], [], by rw [e2]; simp, by rw [List.length_append, e3]; rfl, fun h => absurd rfl h⟩, row _ modi.rf⟩
        · have n1 : ¬ nI (t.length + 1) = (1 : Int32) := fun e => t0 (List.length_eq_zero_iff.1 (by have := (nI_eq (a := t.length + 1) (b := 1) (by omega) (by decide)).1 e; omega))
          have hr2 : MR (su q1 (43, 0) d (nI z)) f g := (hr'.q f2).mv ((modi.rf (L := 40 :: 43 :: QL)).su (by rw [cod_a (by decide)]; decide))
          obtain ⟨q2, k1⟩ := m_end (τ := su q1 (43, 0) d (nI z)) true (f := f) (fun k hk => by rw [if_pos rfl]; exact (hr2 k hk).1) hf hb g2
          have k2 := mX9_end k1
          have w0 : ¬ oW f (fol (oB f) 33 p) z = 0 := by
            intro w
            have hB := (oW_0 (g := g) w).2.2 hb
            have sl : ¬ t.length = 0 := fun h => t0 (List.length_eq_zero_iff.1 h)
            unfold cnd at g5
            rw [if_neg sl, hB, g1, decide_eq_false (show ¬ t.length + 1 = t.length by omega), Bool.and_false] at g5
            cases g5
          refine Or.inl ⟨_, head (nI (oB f (fol (oB f) 33 p) z)) q2 (by rw [if_neg n1, k1, obi_s]; show some (irm (ec f (fol (oB f) 33 p) z) 100, q2) = _; rw [(ec_B hf hb g2 w0).1]), rfl, m2.tr k2 (by decide), ⟨p ++ [z], t, by rw [e2]; simp, by rw [List.length_append, e3]; rfl, fun _ => by rw [fol_app]; rfl⟩, row q2 k2⟩
    · rintro ⟨x, y, q⟩ ⟨e1, h1, -, h3⟩
      replace e1 : y = nI ρ.length := e1
      subst e1
      refine ⟨(nI ρ.length, q), ?_, rfl, h1, fun a y b e => h3 a y b e (by rw [e, List.length_append, List.length_cons]; omega)⟩
      show (if nI ρ.length ≤ nI ρ.length then _ else _) = _
      rw [if_pos (by rw [i32_le]; omega)]
  obtain ⟨⟨x, q⟩, e1, e2, e3, e4⟩ := key
  replace e2 : x = nI ρ.length := e2
  subst e2
  exact ⟨q, e1, e3, e4⟩
theorem m_parts {τ : St} (h : Id τ) {i j : Nat} (hi : i < 11) (hj : j < 11) : ((∀ r, PR (PF τ i j) (TF τ i) 33 r → 7 ≤ r.length) → ∃ τ', fX9_partsOf τ (nI i) (nI j) = some (-1, τ') ∧ Id τ') ∧ ∀ ρ, PR (PF τ i j) (TF τ i) 33 ρ → (∀ r, PR (PF τ i j) (TF τ i) 33 r → cdk 1 ρ ≤ cdk 1 r) → ρ.length ≤ 6 → ∃ τ', fX9_partsOf τ (nI i) (nI j) = some (nI ρ.length, τ') ∧ Id τ' ∧ rowIs τ' 43 ρ := by
  obtain ⟨t1, e1, d1, r1, a1⟩ := m_dist h hi hj
  have mb := mX9_begins (σ := t1) rfl
  have ball : fX9_ballNumber (fX9_begins t1) = nI 33 := by
    unfold fX9_ballNumber fX9_begins
    simp only [bnd_eq]
    simp [su_app]
    decide
  have a40 : ∀ b, b < 63 → fX9_begins t1 (40, 0) b = nI (dk (PF τ i j) (TF τ i) 6 b) := fun b hb => by rw [mb (40, 0) b (by rw [cod_a (by decide)]; decide)]; exact a1 b hb
  have r2 : MR (fX9_begins t1) (τ (11, i)) (τ (11, j)) := r1.q (modi.tr (modi.rf (L := QL)) mb (by decide))
  have d2 : Id (fX9_begins t1) := dep_Id.mv mb (by decide) d1
  rw [partsOf_eq, e1, obi_s, bnd_eq, bnd_eq, ball, show inb (nI 33) 63 = true by decide, grd_t, bnd_eq, show tn (nI 33) = 33 from rfl, a40 33 (by decide)]
  constructor
  · intro hno
    have : dk (PF τ i j) (TF τ i) 6 33 = 99 := by
      by_cases c : dk (PF τ i j) (TF τ i) 6 33 = 99
      · exact c
      · obtain ⟨-, c2, r, c3, c4⟩ := dk_A (P := PF τ i j) (T := TF τ i) 6 33 (by omega) c
        have := hno r c3
        omega
    rw [this, if_pos (show nI 99 = 99 from rfl)]
    exact ⟨_, rfl, d2⟩
  · intro ρ hρ hmin hlen
    have hd : dk (PF τ i j) (TF τ i) 6 33 = ρ.length := by
      cases ρ with
      | nil => exact hρ.elim
      | cons z t => exact (greedy hρ hmin hlen [] t z rfl).1
    have n99 : ¬ nI ρ.length = (99 : Int32) := fun e => by
      have := (nI_eq (a := ρ.length) (b := 99) (by omega) (by decide)).1 e
      omega
    rw [hd, if_neg n99]
    obtain ⟨s', p1, p2, p3⟩ := m_path r2 (h.gd hi) (h.gd hj) a40 hρ hmin hlen
    exact ⟨s', p1, dep_Id.mv p2 (by decide) d2, p3⟩
