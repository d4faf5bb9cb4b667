theorem snoc : ∀ (q : List Nat), q = [] ∨ ∃ p y, q = p ++ [y]
  | [] => Or.inl rfl
  | x :: q => by
    rcases snoc q with e | ⟨p, y, e⟩
    · exact Or.inr ⟨[], x, by rw [e]; rfl⟩
    · exact Or.inr ⟨x :: p, y, by rw [e]; rfl⟩
def FI (P : Nat → Nat → Bool) (T : Nat → Nat → Nat) (k : Nat) (e : Nat → Nat) (b x : Nat) : Prop :=
  e 33 = 0 ∧ (∀ b', b' < 63 → ¬ e b' = 99 → e b' ≤ k + 1 ∧ ∃ r, okR P T 33 r ∧ fol T 33 r = b' ∧ r.length = e b') ∧
  (∀ b' y, b' < 63 → y < 40 → (e b' < k ∨ (e b' = k ∧ (b' < b ∨ (b' = b ∧ y < x)))) → P b' y = false ∧ e (T b' y) ≤ e b' + 1)
theorem FI_min {P : Nat → Nat → Bool} {T : Nat → Nat → Nat} (hT : ∀ b x, b < 63 → x < 40 → T b x < 63) {k b x : Nat} {e : Nat → Nat} (F : FI P T k e b x) : ∀ n q, q.length ≤ n → n ≤ k → okR P T 33 q → e (fol T 33 q) ≤ q.length ∧ fol T 33 q < 63
  | 0, q, h1, _, _ => by
    have : q = [] := List.length_eq_zero_iff.1 (by omega)
    subst this
    exact ⟨by rw [show fol T 33 [] = 33 from rfl, F.1]; exact Nat.zero_le _, by show 33 < 63; omega⟩
  | n + 1, q, h1, h2, ho => by
    rcases snoc q with e0 | ⟨p, y, e0⟩
    · subst e0
      exact ⟨by rw [show fol T 33 [] = 33 from rfl, F.1]; exact Nat.zero_le _, by show 33 < 63; omega⟩
    · subst e0
      have l : (p ++ [y]).length = p.length + 1 := by rw [List.length_append]; rfl
      obtain ⟨o1, o2⟩ := (okR_app p [y] 33).1 ho
      obtain ⟨i1, i2⟩ := FI_min hT F n p (by omega) (by omega) o1
      have c := (F.2.2 (fol T 33 p) y i2 o2.1 (Or.inl (by omega))).2
      have f2 : fol T 33 (p ++ [y]) = T (fol T 33 p) y := by rw [fol_app]; rfl
      rw [f2, l]
      exact ⟨by omega, hT _ _ i2 o2.1⟩
theorem FI_PR {P : Nat → Nat → Bool} {T : Nat → Nat → Nat} (hT : ∀ b x, b < 63 → x < 40 → T b x < 63) {k b x : Nat} {e : Nat → Nat} (F : FI P T k e b x) {r : List Nat} (hr : PR P T 33 r) : k + 1 ≤ r.length := by
  by_cases c : k + 1 ≤ r.length
  · exact c
  · exfalso
    rcases snoc r with e0 | ⟨p, y, e0⟩
    · subst e0; exact hr
    · subst e0
      have l : (p ++ [y]).length = p.length + 1 := by rw [List.length_append]; rfl
      obtain ⟨o1, o2⟩ := (PR_app p [y] 33 (by simp)).1 hr
      have o3 := PR_1.1 o2
      obtain ⟨i1, i2⟩ := FI_min hT F p.length p (Nat.le_refl _) (by omega) o1
      have := (F.2.2 (fol T 33 p) y i2 o3.1 (Or.inl (by omega))).1
      rw [o3.2] at this
      cases this
theorem FI_relax {P : Nat → Nat → Bool} {T : Nat → Nat → Nat} (hT : ∀ b x, b < 63 → x < 40 → T b x < 63) {k b x : Nat} {e : Nat → Nat} (F : FI P T k e b x) (hk : k < 20) (hb : b < 63) (hx : x < 40) (eb : e b = k) (hP : P b x = false) : FI P T k (fun c => if c = T b x ∧ e c = 99 then k + 1 else e c) b (x + 1) := by
  obtain ⟨F1, F2, F3⟩ := F
  have le : ∀ c, (fun c => if c = T b x ∧ e c = 99 then k + 1 else e c) c ≤ e c := fun c => by
    show (if c = T b x ∧ e c = 99 then k + 1 else e c) ≤ e c
    split
    · rename_i h; omega
    · exact Nat.le_refl _
  have sm : ∀ c, e c ≤ k → (fun c => if c = T b x ∧ e c = 99 then k + 1 else e c) c = e c := fun c hc => by
    show (if c = T b x ∧ e c = 99 then k + 1 else e c) = e c
    rw [if_neg (by omega)]
  have gt : ∀ c, (fun c => if c = T b x ∧ e c = 99 then k + 1 else e c) c ≤ k → e c ≤ k := fun c hc => by
    have hc' : (if c = T b x ∧ e c = 99 then k + 1 else e c) ≤ k := hc
    split at hc'
    · omega
    · exact hc'
  refine ⟨by rw [sm 33 (by omega)]; exact F1, fun c hc hne => ?_, fun c y hc hy hcond => ?_⟩
  · by_cases q : c = T b x ∧ e c = 99
    · have hv : (fun c => if c = T b x ∧ e c = 99 then k + 1 else e c) c = k + 1 := if_pos q
      rw [hv]
      obtain ⟨r, r1, r2, r3⟩ := (F2 b hb (by omega)).2
      refine ⟨Nat.le_refl _, r ++ [x], (okR_app r [x] 33).2 ⟨r1, by rw [r2]; exact ⟨hx, hP, trivial⟩⟩, by rw [fol_app, r2, q.1]; rfl, by rw [List.length_append, r3, eb]; rfl⟩
    · have hv : (fun c => if c = T b x ∧ e c = 99 then k + 1 else e c) c = e c := if_neg q
      rw [hv] at hne ⊢
      exact F2 c hc hne
  · have ec : e c ≤ k := gt c (by rcases hcond with h | ⟨h, -⟩ <;> omega)
    rw [sm c ec] at hcond ⊢
    by_cases q : c = b ∧ y = x
    · obtain ⟨rfl, rfl⟩ := q
      refine ⟨hP, ?_⟩
      show (if T c y = T c y ∧ e (T c y) = 99 then k + 1 else e (T c y)) ≤ e c + 1
      by_cases d : e (T c y) = 99
      · rw [if_pos ⟨rfl, d⟩]; omega
      · rw [if_neg (fun w => d w.2)]
        have := (F2 (T c y) (hT c y hc hy) d).1
        omega
    · obtain ⟨p1, p2⟩ := F3 c y hc hy (by omega)
      exact ⟨p1, Nat.le_trans (le _) p2⟩
def mfI (x4 x5 a2 : Int32) : Int32 × St → Option ((Int32 × St) ⊕ (((Int32 × St) ⊕ (((Int32 × St) ⊕ ((Int32 × St) ⊕ (Int32 × St))) ⊕ St)) ⊕ St)) := fun (q24 : Int32 × St) => match q24 with
          | (x6, σ12) =>
          if (40 : Int32) ≤ x6 then
            some (.inr (.inr σ12))
          else
            grd (inb x5 63) (
            if (σ12 (40, 0) (tn x5)) = x4 then
              bnd (fX9_lays σ12 x5) (fun σ13 =>
              obi (fX9_goesOn σ13 x6 (-1 : Int32)) (fun (x7, σ14) =>
              bnd (if a2 = 0 then
                σ14 (9, 0) 13
              else
                σ14 (9, 0) 14) (fun x8 =>
              if x8 ≤ 0 then
                bnd (fX9_ballNumber σ14) (fun x9 =>
                grd (inb x9 63) (
                obi (if (σ14 (40, 0) (tn x9)) = (99 : Int32) then
                  some (x4 + (1 : Int32))
                else
                  grd (inb x9 63) (
                  some (σ14 (40, 0) (tn x9)))) (fun x10 =>
                grd (inb x9 63) (bnd (su σ14 (40, 0) (tn x9) x10) (fun σ15 =>
                bnd (x6 + 1) (fun x11 =>
                some (.inl (x11, σ15))))))))
              else
                some (.inr (.inl (.inr (.inl (.inr (.inr (x4, σ14))))))))))
            else
              some (.inr (.inr σ12)))
theorem mfI_at (x4 x5 a2 x6 : Int32) (σ12 : St) : mfI x4 x5 a2 (x6, σ12) = (if (40 : Int32) ≤ x6 then
            some (.inr (.inr σ12))
          else
            grd (inb x5 63) (
            if (σ12 (40, 0) (tn x5)) = x4 then
              bnd (fX9_lays σ12 x5) (fun σ13 =>
              obi (fX9_goesOn σ13 x6 (-1 : Int32)) (fun (x7, σ14) =>
              bnd (if a2 = 0 then
                σ14 (9, 0) 13
              else
                σ14 (9, 0) 14) (fun x8 =>
              if x8 ≤ 0 then
                bnd (fX9_ballNumber σ14) (fun x9 =>
                grd (inb x9 63) (
                obi (if (σ14 (40, 0) (tn x9)) = (99 : Int32) then
                  some (x4 + (1 : Int32))
                else
                  grd (inb x9 63) (
                  some (σ14 (40, 0) (tn x9)))) (fun x10 =>
                grd (inb x9 63) (bnd (su σ14 (40, 0) (tn x9) x10) (fun σ15 =>
                bnd (x6 + 1) (fun x11 =>
                some (.inl (x11, σ15))))))))
              else
                some (.inr (.inl (.inr (.inl (.inr (.inr (x4, σ14))))))))))
            else
              some (.inr (.inr σ12)))) := rfl
def mfM (x4 a2 : Int32) : Int32 × St → Option ((Int32 × St) ⊕ (((Int32 × St) ⊕ ((Int32 × St) ⊕ (Int32 × St))) ⊕ St)) := fun (q20 : Int32 × St) => match q20 with
        | (x5, σ10) =>
        if (63 : Int32) ≤ x5 then
          some (.inr (.inr σ10))
        else
          bj (lpF (mfI x4 x5 a2) ((0 : Int32), σ10)) (fun σ11 =>
          bnd (x5 + 1) (fun x12 =>
          some (.inl (x12, σ11))))
theorem mfM_at (x4 a2 x5 : Int32) (σ10 : St) : mfM x4 a2 (x5, σ10) = (if (63 : Int32) ≤ x5 then
          some (.inr (.inr σ10))
        else
          bj (lpF (mfI x4 x5 a2) ((0 : Int32), σ10)) (fun σ11 =>
          bnd (x5 + 1) (fun x12 =>
          some (.inl (x12, σ11))))) := rfl
def mfO (a2 : Int32) : Int32 × St → Option ((Int32 × St) ⊕ ((Int32 × St) ⊕ (Int32 × St))) := fun (q15 : Int32 × St) => match q15 with
      | (x4, σ8) =>
      if (20 : Int32) ≤ x4 then
        some (.inr (.inl ((-1 : Int32), σ8)))
      else
        bj (lpF (mfM x4 a2) ((0 : Int32), σ8)) (fun σ9 =>
        bnd (x4 + 1) (fun x13 =>
        some (.inl (x13, σ9))))
theorem mfO_at (a2 x4 : Int32) (σ8 : St) : mfO a2 (x4, σ8) = (if (20 : Int32) ≤ x4 then
        some (.inr (.inl ((-1 : Int32), σ8)))
      else
        bj (lpF (mfM x4 a2) ((0 : Int32), σ8)) (fun σ9 =>
        bnd (x4 + 1) (fun x13 =>
        some (.inl (x13, σ9))))) := rfl
theorem few_eq (σ : St) (a1 a2 : Int32) : fX9_fewest σ a1 a2 = (if (fX9_isCode a1) = true then
    if (fX9_in a2 (0 : Int32) (1 : Int32)) = true then
      obi (fX9_mix σ a1 a1 (0 : Int32)) (fun σ1 =>
      obi (lpF (fun (q5 : Int32 × St) => match q5 with
      | (x1, σ3) =>
      if (63 : Int32) ≤ x1 then
        some (.inr σ3)
      else
        grd (inb x1 63) (bnd (su σ3 (40, 0) (tn x1) (99 : Int32)) (fun σ4 =>
        bnd (x1 + 1) (fun x2 =>
        some (.inl (x2, σ4)))))) ((0 : Int32), σ1)) (fun σ2 =>
      bnd (fX9_begins σ2) (fun σ5 =>
      grd (inb (fX9_ballNumber σ5) 63) (bnd (su σ5 (40, 0) (tn (fX9_ballNumber σ5)) (0 : Int32)) (fun σ6 =>
      bj (lpF (mfO a2) ((0 : Int32), σ6)) (fun (x3, σ7) =>
      some (x3 + (1 : Int32), σ7)))))))
    else
      some ((-2 : Int32), σ)
  else
    some ((-2 : Int32), σ)) := rfl
abbrev KL' : List Nat := [40, 1910, 1911, 1912, 1913, 1914]
def AR (s : St) (e : Nat → Nat) : Prop := ∀ b, b < 63 → s (40, 0) b = nI (e b)
def SM (e : Nat → Nat) : Prop := ∀ b, e b < 100
set_option maxHeartbeats 1000000 in
theorem m_fi {σ s : St} {f : Nat → Int32} (hf : gd f) {a : Nat} (ha : a < 2) (hr : ∀ k, k < 17 → σ (35, 0) k = f k) {k b : Nat} (hk : k < 20) (hb : b < 63) {e : Nat → Nat} (hm : modi KL' σ s) (A : AR s e) (S : SM e) (F : FI (sP f a) (oB f) k e b 0) : ∃ res, lpF (mfI (nI k) (nI b) (nI a)) ((0 : Int32), s) = some res ∧ ((∃ s' e', res = Sum.inr s' ∧ modi KL' σ s' ∧ AR s' e' ∧ SM e' ∧ FI (sP f a) (oB f) k e' (b + 1) 0) ∨ (∃ s' e' x, res = Sum.inl (Sum.inr (Sum.inl (Sum.inr (Sum.inr (nI k, s'))))) ∧ modi KL' σ s' ∧ FI (sP f a) (oB f) k e' b x ∧ e' b = k ∧ x < 40 ∧ sP f a b x = true)) := by
  have hT : ∀ b x, b < 63 → x < 40 → oB f b x < 63 := fun b x h1 h2 => oB_lt hf h1 h2
  obtain ⟨i1, i2⟩ := in63 hb
  by_cases eb : e b = k
  case neg =>
    refine lpF_for (fun _ q => q = ((0 : Int32), s)) 0 (fun i a hi => by omega) ?_ (by decide) rfl
    intro q eq
    subst eq
    refine ⟨Sum.inr s, ?_, Or.inl ⟨s, e, rfl, hm, A, S, F.1, F.2.1, fun b' y h1 h2 h3 => F.2.2 b' y h1 h2 ?_⟩⟩
    · have := S b
      rw [mfI_at, if_neg (by decide), i1, grd_t, i2, A b hb, if_neg (fun w => eb ((nI_eq (by omega) (by omega)).1 w))]
    · rcases h3 with h | ⟨h, h4⟩
      · exact Or.inl h
      · refine Or.inr ⟨h, ?_⟩
        by_cases c : b' = b
        · subst c; exact absurd h eb
        · omega
  · refine lpF_for (fun x q => q.1 = nI x ∧ modi KL' σ q.2 ∧ ∃ e', AR q.2 e' ∧ SM e' ∧ FI (sP f a) (oB f) k e' b x ∧ e' b = k) 40 ?_ ?_ (by decide) ⟨rfl, hm, e, A, S, F, eb⟩
    · rintro x ⟨y, z⟩ hx ⟨rfl, m', e', A', S', F', eb'⟩
      replace m' : modi KL' σ z := m'
      replace A' : AR z e' := A'
      have c40 : ¬ (40 : Int32) ≤ nI x := by rw [show (40 : Int32) = nI 40 from rfl, leI (by decide) (by omega)]; omega
      obtain ⟨t', g1, g2, g3, g4, g5⟩ := m_out (τ := z) (f := f) (fun k hk => by rw [m' (35, 0) k (by rw [cod_a (by decide)]; decide)]; exact hr k hk) hf hb hx
      have mt : modi KL' σ t' := fun r k h => by
        rw [g2 r k (by
          rintro ⟨rfl, h1, h2⟩
          apply h
          rw [cod_o (by decide)]
          simp
          omega)]
        exact m' r k h
      obtain ⟨v, _, _, _, vl, _, _, _, _, _, ve⟩ := oQ_ok hf hb hx
      have hB := hT b x hb hx
      obtain ⟨u1, u2⟩ := in63 hB
      have A2 : ∀ c, c < 63 → t' (40, 0) c = nI (e' c) := fun c hc => by rw [g2 (40, 0) c (by simp)]; exact A' c hc
      have x8 : (if nI a = (0 : Int32) then t' (9, 0) 13 else t' (9, 0) 14) = nI (if sP f a b x = true then oV f b x else 0) := by
        rw [g3, g4]
        unfold sP
        rcases (show a = 0 ∨ a = 1 by omega) with rfl | rfl
        · rw [if_pos (show nI 0 = 0 from rfl)]
          by_cases d : x / 10 % 2 = 0
          · rw [if_pos d, d]
            by_cases q : 0 < oV f b x
            · simp [q]
            · have : oV f b x = 0 := by omega
              simp [this]
          · simp [d]
        · rw [if_neg (by decide)]
          by_cases d : x / 10 % 2 = 0
          · simp [d]
          · have d1 : x / 10 % 2 = 1 := by omega
            rw [if_neg d, d1]
            by_cases q : 0 < oV f b x
            · simp [q]
            · have : oV f b x = 0 := by omega
              simp [this]
      have red : ∀ r, (if nI (if sP f a b x = true then oV f b x else 0) ≤ (0 : Int32) then
                bnd (nI (oB f b x)) (fun x9 =>
                grd (inb x9 63) (
                obi (if (t' (40, 0) (tn x9)) = (99 : Int32) then
                  some (nI k + (1 : Int32))
                else
                  grd (inb x9 63) (
                  some (t' (40, 0) (tn x9)))) (fun x10 =>
                grd (inb x9 63) (bnd (su t' (40, 0) (tn x9) x10) (fun σ15 =>
                bnd (nI x + 1) (fun x11 =>
                (some (.inl (x11, σ15)) : Option ((Int32 × St) ⊕ (((Int32 × St) ⊕ (((Int32 × St) ⊕ ((Int32 × St) ⊕ (Int32 × St))) ⊕ St)) ⊕ St)))))))))
              else
                some (.inr (.inl (.inr (.inl (.inr (.inr (nI k, t')))))))) = r → mfI (nI k) (nI b) (nI a) (nI x, z) = r := by
        intro r hr'
        rw [mfI_at, if_neg c40, i1, grd_t, i2, A' b hb, eb', if_pos rfl, bnd_eq, g1, obi_s]
        show bnd (if nI a = (0 : Int32) then t' (9, 0) 13 else t' (9, 0) 14) _ = r
        rw [x8, bnd_eq, g5]
        exact hr'
      by_cases c : sP f a b x = true
      · have c' := c
        simp only [sP, Bool.and_eq_true, decide_eq_true_eq] at c'
        refine Or.inr ⟨_, red _ ?_, Or.inr ⟨t', e', x, rfl, mt, F', eb', hx, c⟩⟩
        rw [if_pos c, if_neg (by rw [show (0 : Int32) = nI 0 from rfl, leI (by omega) (by decide)]; omega)]
      · have c0 : sP f a b x = false := by simpa using c
        have F2 := FI_relax hT F' hk hb hx eb' c0
        have val : (if nI (e' (oB f b x)) = (99 : Int32) then some (nI (k + 1)) else some (nI (e' (oB f b x)))) = some (nI (if oB f b x = oB f b x ∧ e' (oB f b x) = 99 then k + 1 else e' (oB f b x))) := by
          have := S' (oB f b x)
          by_cases q : e' (oB f b x) = 99
          · rw [q, if_pos (show nI 99 = 99 from rfl), if_pos ⟨rfl, rfl⟩]
          · have n99 : ¬ nI (e' (oB f b x)) = (99 : Int32) := fun w => q ((nI_eq (a := e' (oB f b x)) (b := 99) (by omega) (by decide)).1 w)
            rw [if_neg n99, if_neg (fun w => q w.2)]
        refine Or.inl ⟨(nI (x + 1), su t' (40, 0) (oB f b x) (nI (if oB f b x = oB f b x ∧ e' (oB f b x) = 99 then k + 1 else e' (oB f b x)))), red _ ?_, rfl, mt.su (by rw [cod_a (by decide)]; decide), (fun c => if c = oB f b x ∧ e' c = 99 then k + 1 else e' c), fun c hc => ?_, fun c => ?_, F2, ?_⟩
        · rw [if_neg c, if_pos (by decide), bnd_eq, u1, grd_t, u2, A2 _ hB, nI_1, grd_t, val, obi_s, grd_t, bnd_eq, bnd_eq, nI_1]
        · show su t' (40, 0) (oB f b x) _ (40, 0) c = nI (if c = oB f b x ∧ e' c = 99 then k + 1 else e' c)
          by_cases q : c = oB f b x
          · subst q
            rw [su_hit]
          · rw [su_slot _ _ _ _ q, if_neg (fun w => q w.1)]
            exact A2 c hc
        · show (if c = oB f b x ∧ e' c = 99 then k + 1 else e' c) < 100
          have := S' c
          split <;> omega
        · show (if b = oB f b x ∧ e' b = 99 then k + 1 else e' b) = k
          rw [if_neg (by omega), eb']
    · rintro ⟨y, z⟩ ⟨rfl, m', e', A', S', F', eb'⟩
      refine ⟨Sum.inr z, by rw [mfI_at, if_pos (by decide)], Or.inl ⟨z, e', rfl, m', A', S', F'.1, F'.2.1, fun b' y h1 h2 h3 => F'.2.2 b' y h1 h2 ?_⟩⟩
      omega
