/-! ===== one moment, by numbers ===== -/
def scT (f : Nat → Int32) (s p : Int32) : Int32 × Int32 × Int32 × Int32 := (p, 3, (if f 14 = 0 then 2 else if f 14 = 1 then 1 - s else s), 0)
def goT (f : Nat → Int32) (s a c o l : Int32) : Int32 × Int32 × Int32 × Int32 :=
  if a = 0 ∨ a = 6 then (0, fX8_fromOwnEnd s (mmin 6 (fX8_fromOwnEnd s c + 2)), 2, 2)
  else if a = 1 then (0, c, s, 0)
  else if a = 2 ∨ a = 3 then (0, c, s, 1)
  else if a = 4 then
    (if l = 1 then
      (if fX8_fromOwnEnd s c + 1 = 6 then
        (if f 10 ≤ 0 then (0, fX8_fromOwnEnd s (fX8_fromOwnEnd s c + 1), o, l) else scT f s (f 10))
      else (0, fX8_fromOwnEnd s (fX8_fromOwnEnd s c + 1), o, l))
    else (0, fX8_fromOwnEnd s (fX8_fromOwnEnd s c + 1), o, l))
  else if a = 5 then (0, fX8_fromOwnEnd s (mmax 0 (fX8_fromOwnEnd s c - 1)), 2, 2)
  else if a = 7 then (0, c, 2, 0)
  else if (if a = 8 then f 11 else f 12) ≤ 0 then (0, fX8_fromOwnEnd s 6, 2, 0) else scT f s (if a = 8 then f 11 else f 12)
def RW (σ : St) (r : Rf) (t : Nat) (f : Nat → Int32) : Prop := isIA r = true ∧ alen r.1 = 17 ∧ (¬ r.1 = 4) ∧ ∀ k, k < 17 → σ r k = f k
theorem RW.at {σ : St} {r : Rf} {t : Nat} {f : Nat → Int32} (h : RW σ r t f) {k : Nat} (hk : k < 17) : (isIA r && inb (nI k) (alen r.1)) = true := by
  rw [h.1, h.2.1, (in17 hk).1]
  rfl
def GT (σ : St) (t : Nat) (s : Int32) (σ' : St) (q : Int32 × Int32 × Int32 × Int32) : Prop := σ' (4, t) 3 = q.1 ∧ σ' (4, t) 0 = q.2.1 ∧ σ' (4, t) 1 = q.2.2.1 ∧ σ' (4, t) 2 = q.2.2.2 ∧ σ' (4, t) 4 = σ (4, t) 4 + (if s = 0 then q.1 else 0) ∧ σ' (4, t) 5 = σ (4, t) 5 + (if s = 0 then 0 else q.1)
theorem gt_bec {σ s1 : St} {t : Nat} {s : Int32} (h3 : s1 (4, t) 3 = 0) (h4 : s1 (4, t) 4 = σ (4, t) 4) (h5 : s1 (4, t) 5 = σ (4, t) 5) (c o l : Int32) : GT σ t s (fX4_becomes s1 t c o l) (0, c, o, l) := by
  rw [x_bec]
  refine ⟨?_, ?_, ?_, ?_, ?_, ?_⟩ <;> simp [su_app, h3, h4, h5]
theorem gt_sc {σ s1 : St} {t : Nat} {s p w : Int32} {f : Nat → Int32} (h4 : s1 (4, t) 4 = σ (4, t) 4) (h5 : s1 (4, t) 5 = σ (4, t) 5) (hw : w = f 14) : GT σ t s (fX4_score s1 t s p w) (scT f s p) := by
  unfold fX4_score scT
  simp only [bnd_eq]
  by_cases c1 : s = 0
  · rw [if_pos c1]
    by_cases c2 : w = 0
    · rw [if_pos c2]
      rw [hw] at c2
      refine ⟨?_, ?_, ?_, ?_, ?_, ?_⟩ <;> simp [su_app, h4, h5, c1, c2]
    · rw [if_neg c2]
      rw [hw] at c2
      refine ⟨?_, ?_, ?_, ?_, ?_, ?_⟩ <;> simp [su_app, h4, h5, c1, c2, hw]
  · rw [if_neg c1]
    by_cases c2 : w = 0
    · rw [if_pos c2]
      rw [hw] at c2
      refine ⟨?_, ?_, ?_, ?_, ?_, ?_⟩ <;> simp [su_app, h4, h5, c1, c2]
    · rw [if_neg c2]
      rw [hw] at c2
      refine ⟨?_, ?_, ?_, ?_, ?_, ?_⟩ <;> simp [su_app, h4, h5, c1, c2, hw]
theorem xf_bec {σ s1 : St} {t : Nat} (h : xf t σ s1) (c o l : Int32) : xf t σ (fX4_becomes s1 t c o l) := by
  rw [x_bec]
  exact ((h.su _ _).su _ _).su _ _
theorem xf_sc {σ s1 : St} {t : Nat} (h : xf t σ s1) (s p w : Int32) : xf t σ (fX4_score s1 t s p w) := by
  unfold fX4_score
  simp only [bnd_eq]
  split
  · split
    · exact ((((h.su _ _).su _ _).su _ _).su _ _).su _ _
    · exact ((((h.su _ _).su _ _).su _ _).su _ _).su _ _
  · split
    · exact (((((h.su _ _).su _ _).su _ _).su _ _).su _ _).su _ _
    · exact (((((h.su _ _).su _ _).su _ _).su _ _).su _ _).su _ _
set_option maxHeartbeats 1000000 in
theorem x_goT {σ : St} {t : Nat} {r : Rf} {f : Nat → Int32} (hr : RW σ r t f) (h3 : σ (4, t) 3 = 0) (s a : Int32) : ∃ σ', fX4_goOn σ t r s a = some σ' ∧ xf t σ σ' ∧ GT σ t s σ' (goT f s a (σ (4, t) 0) (σ (4, t) 1) (σ (4, t) 2)) := by
  unfold fX4_goOn goT
  simp only [bnd_eq]
  generalize hs1 : su σ (4, t) 6 (σ (4, t) 6 + 1) = s1
  have f1 : xf t σ s1 := by subst hs1; exact xf.rf.su _ _
  have r1 : ∀ k, k < 17 → s1 r k = f k := fun k hk => by rw [← hs1, su_ref _ _ _ _ (fun e => hr.2.2.1 (by rw [e]))]; exact hr.2.2.2 k hk
  have s0 : s1 (4, t) 0 = σ (4, t) 0 := by subst hs1; simp [su_app]
  have q1 : s1 (4, t) 1 = σ (4, t) 1 := by subst hs1; simp [su_app]
  have q2 : s1 (4, t) 2 = σ (4, t) 2 := by subst hs1; simp [su_app]
  have q3 : s1 (4, t) 3 = 0 := by subst hs1; simp [su_app, h3]
  have q4 : s1 (4, t) 4 = σ (4, t) 4 := by subst hs1; simp [su_app]
  have q5 : s1 (4, t) 5 = σ (4, t) 5 := by subst hs1; simp [su_app]
  have g10 : (isIA r && inb (10 : Int32) (alen r.1)) = true := hr.at (show 10 < 17 by decide)
  have g11 : (isIA r && inb (11 : Int32) (alen r.1)) = true := hr.at (show 11 < 17 by decide)
  have g12 : (isIA r && inb (12 : Int32) (alen r.1)) = true := hr.at (show 12 < 17 by decide)
  have g14 : (isIA r && inb (14 : Int32) (alen r.1)) = true := hr.at (show 14 < 17 by decide)
  have t10 : tn (10 : Int32) = 10 := rfl
  have t11 : tn (11 : Int32) = 11 := rfl
  have t12 : tn (12 : Int32) = 12 := rfl
  have t14 : tn (14 : Int32) = 14 := rfl
  by_cases c1 : a = 0 ∨ a = 6
  · rw [if_pos c1, if_pos c1]
    exact ⟨_, rfl, xf_bec f1 _ _ _, gt_bec q3 q4 q5 _ _ _⟩
  rw [if_neg c1, if_neg c1]
  by_cases c2 : a = 1
  · rw [if_pos c2, if_pos c2, s0]
    exact ⟨_, rfl, xf_bec f1 _ _ _, gt_bec q3 q4 q5 _ _ _⟩
  rw [if_neg c2, if_neg c2]
  by_cases c3 : a = 2 ∨ a = 3
  · rw [if_pos c3, if_pos c3, s0]
    exact ⟨_, rfl, xf_bec f1 _ _ _, gt_bec q3 q4 q5 _ _ _⟩
  rw [if_neg c3, if_neg c3]
  by_cases c4 : a = 4
  · rw [if_pos c4, if_pos c4, g10, g14, grd_t, grd_t, grd_t, t10, t14]
    generalize hs5 : su s1 (4, t) 0 (fX8_fromOwnEnd s (fX8_fromOwnEnd s (σ (4, t) 0) + 1)) = s5
    have r5 : ∀ k, k < 17 → s5 r k = f k := fun k hk => by rw [← hs5, su_ref _ _ _ _ (fun e => hr.2.2.1 (by rw [e]))]; exact r1 k hk
    have f5 : xf t σ s5 := by subst hs5; exact f1.su _ _
    have u2 : s5 (4, t) 2 = σ (4, t) 2 := by subst hs5; simp [su_app, q2]
    have same : GT σ t s s5 (0, fX8_fromOwnEnd s (fX8_fromOwnEnd s (σ (4, t) 0) + 1), σ (4, t) 1, σ (4, t) 2) := by
      subst hs5
      refine ⟨?_, ?_, ?_, ?_, ?_, ?_⟩ <;> simp [su_app, q1, q2, q3, q4, q5]
    rw [u2, r5 10 (by decide), r5 14 (by decide)]
    by_cases d1 : σ (4, t) 2 = 1
    · rw [if_pos d1, if_pos d1]
      by_cases d2 : fX8_fromOwnEnd s (σ (4, t) 0) + 1 = 6
      · rw [if_pos d2, if_pos d2]
        by_cases d3 : f 10 ≤ 0
        · rw [if_pos d3, if_pos d3]
          exact ⟨_, rfl, f5, same⟩
        · rw [if_neg d3, if_neg d3]
          exact ⟨_, rfl, xf_sc f5 _ _ _, gt_sc (by subst hs5; simp [su_app, q4]) (by subst hs5; simp [su_app, q5]) rfl⟩
      · rw [if_neg d2, if_neg d2]
        exact ⟨_, rfl, f5, same⟩
    · rw [if_neg d1, if_neg d1]
      exact ⟨_, rfl, f5, same⟩
  rw [if_neg c4, if_neg c4]
  by_cases c5 : a = 5
  · rw [if_pos c5, if_pos c5]
    exact ⟨_, rfl, xf_bec f1 _ _ _, gt_bec q3 q4 q5 _ _ _⟩
  rw [if_neg c5, if_neg c5]
  by_cases c7 : a = 7
  · rw [if_pos c7, if_pos c7]
    refine ⟨_, rfl, xf_bec (f1.su _ _) _ _ _, ?_⟩
    have : su s1 (4, t) 8 (s1 (4, t) 8 + 1) (4, t) 0 = σ (4, t) 0 := by simp [su_app, s0]
    rw [this]
    exact gt_bec (by simp [su_app, q3]) (by simp [su_app, q4]) (by simp [su_app, q5]) _ _ _
  rw [if_neg c7, if_neg c7, g11, g12, g14, grd_t, grd_t, t11, t12, r1 11 (by decide), r1 12 (by decide)]
  have pull : (if a = 8 then some (f 11) else some (f 12)) = some (if a = 8 then f 11 else f 12) := by split <;> rfl
  rw [pull, obi_s]
  by_cases d : (if a = 8 then f 11 else f 12) ≤ 0
  · rw [if_pos d, if_pos d]
    exact ⟨_, rfl, xf_bec f1 _ _ _, gt_bec q3 q4 q5 _ _ _⟩
  · rw [if_neg d, if_neg d, grd_t, t14, r1 14 (by decide)]
    exact ⟨_, rfl, xf_sc f1 _ _ _, gt_sc q4 q5 rfl⟩
/-- is it let, by the row -/
def lstt (f : Nat → Int32) (c : Nat) : St := fun r k => if r = (4, 0) then nI c else f k
def LT (f : Nat → Int32) (c m : Nat) : Bool := fX4_isLet (lstt f c) 0 (28, 0) (nI m) == some true
theorem x_isLetT {σ : St} {t : Nat} {r : Rf} {f : Nat → Int32} (hr : RW σ r t f) {c m : Nat} (hm : m < 40) (h0 : σ (4, t) 0 = nI c) : fX4_isLet σ t r (nI m) = some (LT f c m) := by
  obtain ⟨h1, h2, h3, h4, h5, h6⟩ := side_n m hm
  have ha : m % 10 < 17 := by omega
  have ga := hr.at ha
  have g13 : (isIA r && inb (13 : Int32) (alen r.1)) = true := hr.at (show 13 < 17 by decide)
  have ga' : (isIA (28, 0) && inb (nI (m % 10)) (alen (28, 0).1)) = true := by
    rw [show isIA (28, 0) = true by decide, show alen (28, 0).1 = 17 from rfl, (in17 ha).1]
    rfl
  have g13' : (isIA (28, 0) && inb (13 : Int32) (alen (28, 0).1)) = true := by decide
  have ta := (in17 ha).2
  have t13 : tn (13 : Int32) = 13 := rfl
  have rd : ∀ k, k < 17 → lstt f c (28, 0) k = f k := fun k _ => by unfold lstt; rw [if_neg (by decide)]
  have rc : lstt f c (4, 0) 0 = nI c := by unfold lstt; rw [if_pos rfl]
  have e : fX4_isLet σ t r (nI m) = fX4_isLet (lstt f c) 0 (28, 0) (nI m) := by
    unfold fX4_isLet
    simp only [bnd_eq, h1, h2, ga, g13, ga', g13', grd_t, ta, t13, h0, rc, rd _ ha, rd 13 (by decide), hr.2.2.2 _ ha, hr.2.2.2 13 (by decide)]
  have ex : ∃ b, fX4_isLet (lstt f c) 0 (28, 0) (nI m) = some b := by
    unfold fX4_isLet
    simp only [bnd_eq, h1, h2, ga', g13', grd_t, ta, t13, rc, rd _ ha, rd 13 (by decide)]
    repeat' split
    all_goals exact ⟨_, rfl⟩
  obtain ⟨b, hb⟩ := ex
  rw [e]
  unfold LT
  rw [hb]
  cases b <;> rfl
