abbrev QL : List Nat := [35, 1910, 1911, 1912, 1913, 1914]
def MR (τ : St) (f g : Nat → Int32) : Prop := ∀ k, k < 17 → τ (41, 0) k = f k ∧ τ (42, 0) k = g k
theorem MR.mv {τ τ' : St} {f g : Nat → Int32} (h : MR τ f g) (hm : modi (40 :: 43 :: QL) τ τ') : MR τ' f g := fun k hk => by
  rw [hm (41, 0) k (by rw [cod_a (by decide)]; decide), hm (42, 0) k (by rw [cod_a (by decide)]; decide)]
  exact h k hk
theorem MR.q {τ τ' : St} {f g : Nat → Int32} (h : MR τ f g) (hm : modi QL τ τ') : MR τ' f g := h.mv (modi.tr (modi.rf (L := 40 :: 43 :: QL)) hm (by decide))
theorem m_doPart {τ : St} {f g : Nat → Int32} (hr : MR τ f g) (hf : gd f) (hg : gd g) {b m : Nat} (hb : b < 63) (hm : m < 40) : ∃ τ', fX9_doPart τ (nI b) (nI m) = some (pP f g b m, τ') ∧ modi QL τ τ' := by
  have key : ∃ τ', fX9_doPart τ (nI b) (nI m) = some (pP f g b m, τ') := by
    unfold fX9_doPart
    obtain ⟨t1, e1⟩ := m_end (τ := τ) true (f := f) (fun k hk => by rw [if_pos rfl]; exact (hr k hk).1) hf hb hm
    have hr1 := hr.q (mX9_end e1)
    obtain ⟨t2, e2⟩ := m_end (τ := t1) false (f := g) (fun k hk => by rw [if_neg (by decide)]; exact (hr1 k hk).2) hg hb hm
    rw [e1, obi_s]
    show ∃ τ', obi (fX9_end t1 (nI b) (nI m) false) _ = _
    rw [e2, obi_s]
    refine ⟨t2, ?_⟩
    show (if ec f b m = ec g b m then _ else _) = _
    have q := ec_eq hf hg hb hm
    by_cases c : pP f g b m = false
    · rw [if_pos (q.2 c), c]
    · rw [if_neg (fun e => c (q.1 e))]
      cases h : pP f g b m with
      | false => exact absurd h c
      | true => rfl
  obtain ⟨τ', e⟩ := key
  exact ⟨τ', e, mX9_doPart e⟩
theorem m_near {τ : St} {f g : Nat → Int32} (hr : MR τ f g) (hf : gd f) (hg : gd g) {b m k : Nat} (hb : b < 63) (hm : m < 40) : ∃ τ', fX9_goesNear τ (nI b) (nI m) (nI k) = some ((!(decide (oW f b m = 0)) && !(pP f g b m)) && decide (τ (40, 0) (oB f b m) = nI k), τ') ∧ modi QL τ τ' := by
  have key : ∃ τ', fX9_goesNear τ (nI b) (nI m) (nI k) = some ((!(decide (oW f b m = 0)) && !(pP f g b m)) && decide (τ (40, 0) (oB f b m) = nI k), τ') := by
    unfold fX9_goesNear
    obtain ⟨t1, e1⟩ := m_end (τ := τ) true (f := f) (fun k hk => by rw [if_pos rfl]; exact (hr k hk).1) hf hb hm
    have m1 := mX9_end e1
    have hr1 := hr.q m1
    obtain ⟨t2, e2⟩ := m_end (τ := t1) false (f := g) (fun k hk => by rw [if_neg (by decide)]; exact (hr1 k hk).2) hg hb hm
    have m2 := mX9_end e2
    rw [e1, obi_s]
    show ∃ τ', (if ec f b m = -1 then _ else _) = _
    by_cases c0 : oW f b m = 0
    · refine ⟨t1, ?_⟩
      rw [if_pos (by unfold ec; rw [if_pos c0]), decide_eq_true c0]
      rfl
    · obtain ⟨q1, q2⟩ := ec_B hf hb hm c0
      rw [if_neg q2, e2, obi_s, decide_eq_false c0]
      refine ⟨t2, ?_⟩
      show (if ec f b m = ec g b m then _ else _) = _
      have q := ec_eq hf hg hb hm
      obtain ⟨u1, u2⟩ := in63 (oB_lt hf hb hm)
      have e40 : t2 (40, 0) (oB f b m) = τ (40, 0) (oB f b m) := by rw [m2 (40, 0) _ (by rw [cod_a (by decide)]; decide), m1 (40, 0) _ (by rw [cod_a (by decide)]; decide)]
      by_cases c : pP f g b m = false
      · rw [if_pos (q.2 c), c, q1, u1, grd_t, u2, e40]
        by_cases d : τ (40, 0) (oB f b m) = nI k
        · rw [if_pos d, decide_eq_true d]; rfl
        · rw [if_neg d, decide_eq_false d]; rfl
      · rw [if_neg (fun e => c (q.1 e))]
        cases h : pP f g b m with
        | false => exact absurd h c
        | true => rfl
  obtain ⟨τ', e⟩ := key
  exact ⟨τ', e, mX9_goesNear e⟩
def mxB (x6 x7 : Int32) : Int32 × St → Option ((Int32 × St) ⊕ St) := fun (q28 : Int32 × St) => match q28 with
      | (x8, σ14) =>
      if (40 : Int32) ≤ x8 then
        some (.inr σ14)
      else
        grd (inb x7 63) (
        if (σ14 (40, 0) (tn x7)) = (99 : Int32) then
          obi (if x6 = (1 : Int32) then
            obi (fX9_doPart σ14 x7 x8) (fun (x11, σ17) =>
            if x11 = true then
              some ((1 : Int32), σ17)
            else
              some ((99 : Int32), σ17))
          else
            obi (fX9_goesNear σ14 x7 x8 (x6 - (1 : Int32))) (fun (x10, σ16) =>
            if x10 = true then
              some (x6, σ16)
            else
              some ((99 : Int32), σ16))) (fun (x9, σ15) =>
          grd (inb x7 63) (bnd (su σ15 (40, 0) (tn x7) x9) (fun σ18 =>
          bnd (x8 + 1) (fun x12 =>
          some (.inl (x12, σ18))))))
        else
          some (.inr σ14))
theorem mxB_at (x6 x7 x8 : Int32) (σ14 : St) : mxB x6 x7 (x8, σ14) = (if (40 : Int32) ≤ x8 then
        some (.inr σ14)
      else
        grd (inb x7 63) (
        if (σ14 (40, 0) (tn x7)) = (99 : Int32) then
          obi (if x6 = (1 : Int32) then
            obi (fX9_doPart σ14 x7 x8) (fun (x11, σ17) =>
            if x11 = true then
              some ((1 : Int32), σ17)
            else
              some ((99 : Int32), σ17))
          else
            obi (fX9_goesNear σ14 x7 x8 (x6 - (1 : Int32))) (fun (x10, σ16) =>
            if x10 = true then
              some (x6, σ16)
            else
              some ((99 : Int32), σ16))) (fun (x9, σ15) =>
          grd (inb x7 63) (bnd (su σ15 (40, 0) (tn x7) x9) (fun σ18 =>
          bnd (x8 + 1) (fun x12 =>
          some (.inl (x12, σ18))))))
        else
          some (.inr σ14))) := rfl
def myB (x6 : Int32) : Int32 × St → Option ((Int32 × St) ⊕ St) := fun (q24 : Int32 × St) => match q24 with
    | (x7, σ12) =>
    if (63 : Int32) ≤ x7 then
      some (.inr σ12)
    else
      obi (lpF (mxB x6 x7) ((0 : Int32), σ12)) (fun σ13 =>
      bnd (x7 + 1) (fun x13 =>
      some (.inl (x13, σ13))))
def mzB : Int32 × St → Option ((Int32 × St) ⊕ St) := fun (q20 : Int32 × St) => match q20 with
  | (x6, σ10) =>
  if (7 : Int32) ≤ x6 then
    some (.inr σ10)
  else
    obi (lpF (myB x6) ((0 : Int32), σ10)) (fun σ11 =>
    bnd (x6 + 1) (fun x14 =>
    some (.inl (x14, σ11))))
theorem exN_up {p : Nat → Bool} {x y : Nat} (h : exN p x = true) (hy : x ≤ y) : exN p y = true := by
  obtain ⟨z, z1, z2⟩ := (exN_iff p x).1 h
  exact (exN_iff p y).2 ⟨z, by omega, z2⟩
set_option maxHeartbeats 1000000 in
theorem in_ball {s : St} {f g : Nat → Int32} (hr : MR s f g) (hf : gd f) (hg : gd g) {k b : Nat} (hk : k < 6) (hb : b < 63) {arr : Nat → Nat} (ha : ∀ b', b' < 63 → s (40, 0) b' = nI (arr b')) (hl : ∀ b', arr b' < 100) : ∃ s', lpF (mxB (nI (k + 1)) (nI b)) ((0 : Int32), s) = some s' ∧ modi (40 :: QL) s s' ∧ ∀ b', b' < 63 → s' (40, 0) b' = nI (if b' = b ∧ arr b = 99 ∧ exN (cnd (pP f g) (oB f) arr k b) 40 = true then k + 1 else arr b') := by
  obtain ⟨i1, i2⟩ := in63 hb
  by_cases c99 : arr b = 99
  case neg =>
    refine lpF_for (fun _ a => a = ((0 : Int32), s)) 0 (fun i a hi => by omega) ?_ (by decide) rfl
    intro a e
    subst e
    refine ⟨s, ?_, modi.rf, fun b' hb' => ?_⟩
    · have := hl b
      have n99 : ¬ nI (arr b) = (99 : Int32) := fun e => c99 ((nI_eq (a := arr b) (b := 99) (by omega) (by decide)).1 e)
      rw [mxB_at, if_neg (by decide), i1, grd_t, i2, ha b hb, if_neg n99]
    · rw [if_neg (fun w => c99 w.2.1)]
      exact ha b' hb'
  · refine lpF_for (fun x a => a.1 = nI x ∧ modi (40 :: QL) s a.2 ∧ ∀ b', b' < 63 → a.2 (40, 0) b' = nI (if b' = b ∧ exN (cnd (pP f g) (oB f) arr k b) x = true then k + 1 else arr b')) 40 ?_ ?_ (by decide) ⟨rfl, modi.rf, fun b' hb' => by rw [if_neg (fun w => by cases w.2)]; exact ha b' hb'⟩
    · rintro x ⟨y, z⟩ hx ⟨rfl, h1, h2⟩
      replace h1 : modi (40 :: QL) s z := h1
      replace h2 : ∀ b', b' < 63 → z (40, 0) b' = nI (if b' = b ∧ exN (cnd (pP f g) (oB f) arr k b) x = true then k + 1 else arr b') := h2
      have c40 : ¬ (40 : Int32) ≤ nI x := by rw [show (40 : Int32) = nI 40 from rfl, leI (by decide) (by omega)]; omega
      have hb1 := h2 b hb
      by_cases ce : exN (cnd (pP f g) (oB f) arr k b) x = true
      · rw [if_pos ⟨rfl, ce⟩] at hb1
        refine Or.inr ⟨z, ?_, h1, fun b' hb' => ?_⟩
        · have n99 : ¬ nI (k + 1) = (99 : Int32) := fun e => by
            have := (nI_eq (a := k + 1) (b := 99) (by omega) (by decide)).1 e
            omega
          rw [mxB_at, if_neg c40, i1, grd_t, i2, hb1, if_neg n99]
        · rw [h2 b' hb']
          have up := exN_up ce (show x ≤ 40 by omega)
          by_cases d : b' = b
          · rw [if_pos ⟨d, ce⟩, if_pos ⟨d, c99, up⟩]
          · rw [if_neg (fun w => d w.1), if_neg (fun w => d w.1)]
      · rw [if_neg (fun w => ce w.2), c99] at hb1
        have harr : ∀ b', b' < 63 → z (40, 0) b' = nI (arr b') := fun b' hb' => by rw [h2 b' hb', if_neg (fun w => ce w.2)]
        have hr' : MR z f g := hr.mv (modi.tr (modi.rf (L := 40 :: 43 :: QL)) h1 (by decide))
        have cval : ∃ z', (if nI (k + 1) = (1 : Int32) then
            obi (fX9_doPart z (nI b) (nI x)) (fun (x11, σ17) =>
            if x11 = true then
              some ((1 : Int32), σ17)
            else
              some ((99 : Int32), σ17))
          else
            obi (fX9_goesNear z (nI b) (nI x) (nI (k + 1) - (1 : Int32))) (fun (x10, σ16) =>
            if x10 = true then
              some (nI (k + 1), σ16)
            else
              some ((99 : Int32), σ16))) = some (nI (if cnd (pP f g) (oB f) arr k b x = true then k + 1 else 99), z') ∧ modi QL z z' := by
          by_cases k0 : k = 0
          · subst k0
            obtain ⟨z', e1, e2⟩ := m_doPart hr' hf hg hb hx
            refine ⟨z', ?_, e2⟩
            rw [if_pos (show nI (0 + 1) = 1 from rfl), e1, obi_s]
            unfold cnd
            rw [if_pos rfl]
            cases pP f g b x <;> rfl
          · obtain ⟨z', e1, e2⟩ := m_near (k := k) hr' hf hg hb hx
            refine ⟨z', ?_, e2⟩
            have n1 : ¬ nI (k + 1) = (1 : Int32) := fun e => k0 (by have := (nI_eq (a := k + 1) (b := 1) (by omega) (by decide)).1 e; omega)
            rw [if_neg n1, nI_pred, e1, obi_s]
            have eq : ((!(decide (oW f b x = 0)) && !(pP f g b x)) && decide (z (40, 0) (oB f b x) = nI k)) = cnd (pP f g) (oB f) arr k b x := by
              unfold cnd
              rw [if_neg k0, harr _ (oB_lt hf hb hx)]
              have ek : decide (nI (arr (oB f b x)) = nI k) = decide (arr (oB f b x) = k) := by
                have := hl (oB f b x)
                exact decide_eq_decide.2 (nI_eq (by omega) (by omega))
              rw [ek]
              by_cases w0 : oW f b x = 0
              · have : oB f b x = b := (oW_0 (g := g) w0).2.2 hb
                rw [decide_eq_true w0, this, c99, decide_eq_false (show ¬ 99 = k by omega)]
                simp
              · rw [decide_eq_false w0]
                simp
            show (if ((!(decide (oW f b x = 0)) && !(pP f g b x)) && decide (z (40, 0) (oB f b x) = nI k)) = true then _ else _) = _
            rw [eq]
            cases cnd (pP f g) (oB f) arr k b x <;> rfl
        obtain ⟨z', e1, e2⟩ := cval
        refine Or.inl ⟨(nI (x + 1), su z' (40, 0) b (nI (if cnd (pP f g) (oB f) arr k b x = true then k + 1 else 99))), ?_, rfl, ?_, fun b' hb' => ?_⟩
        · rw [mxB_at, if_neg c40, i1, grd_t, i2, hb1, if_pos (show nI 99 = (99 : Int32) from rfl), e1, obi_s]
          show grd true (bnd (su z' (40, 0) b (nI (if cnd (pP f g) (oB f) arr k b x = true then k + 1 else 99))) _) = _
          rw [grd_t, bnd_eq, bnd_eq, nI_1]
        · exact (h1.tr (e2) (by decide)).su (by rw [cod_a (by decide)]; decide)
        · show su z' (40, 0) b (nI (if cnd (pP f g) (oB f) arr k b x = true then k + 1 else 99)) (40, 0) b' = _
          rw [exN_S, show exN (cnd (pP f g) (oB f) arr k b) x = false by simpa using ce, Bool.false_or]
          by_cases d : b' = b
          · subst d
            rw [su_hit]
            by_cases q : cnd (pP f g) (oB f) arr k b' x = true
            · rw [if_pos q, if_pos ⟨rfl, q⟩]
            · rw [if_neg q, if_neg (fun w => q w.2), c99]
          · rw [su_slot _ _ _ _ d, if_neg (fun w => d w.1), e2 (40, 0) b' (by rw [cod_a (by decide)]; decide), harr b' hb']
    · rintro ⟨y, z⟩ ⟨rfl, h1, h2⟩
      replace h2 : ∀ b', b' < 63 → z (40, 0) b' = nI (if b' = b ∧ exN (cnd (pP f g) (oB f) arr k b) 40 = true then k + 1 else arr b') := h2
      refine ⟨z, by rw [mxB_at, if_pos (by decide)], h1, fun b' hb' => ?_⟩
      rw [h2 b' hb']
      by_cases d : b' = b ∧ exN (cnd (pP f g) (oB f) arr k b) 40 = true
      · rw [if_pos d, if_pos ⟨d.1, c99, d.2⟩]
      · rw [if_neg d, if_neg (fun w => d ⟨w.1, w.2.2⟩)]
