def itm (σ : St) (a i : Nat) : Int32 := σ (11, tn (σ (0, i) 0)) a
def mem (σ : St) (i : Nat) : Bool := !(decide (σ (0, i) 2 = 0))
def hol (σ : St) (a i : Nat) : Bool := decide (((σ (0, i) 1 >>> (nI a &&& 31)) &&& 1) = 1)
def bs (p : Nat → Bool) : Nat → Int32
  | 0 => 0
  | i + 1 => bs p i ||| (if p i = true then (1 : Int32) <<< (nI i &&& 31) else 0)
theorem bs_S (p : Nat → Bool) (i : Nat) : bs p (i + 1) = bs p i ||| (if p i = true then (1 : Int32) <<< (nI i &&& 31) else 0) := rfl
theorem x_club {σ : St} (hI : Iv σ) {i : Nat} (hi : i < 12) : ∃ k, k < 11 ∧ σ (0, i) 0 = nI k ∧ σ (44, 0) i = nI k ∧ fX8_itemsOf σ (nI i) = some (11, k) ∧ (∀ a, itm σ a i = σ (11, k) a) ∧ isIA (11, k) = true := by
  obtain ⟨k, h, m, q1, -, -, e1, e2, -⟩ := club_x hI hi
  refine ⟨k, q1, e1, e2, x_itemsOf hi q1 e1, fun a => ?_, ia_of (f := 11) rfl q1⟩
  unfold itm
  rw [e1, tn_nI (by omega)]
theorem x_votesFor {σ : St} (hI : Iv σ) {a nc : Nat} (ha : a < 17) (hnc : nc ≤ 12) (n1 : σ (8, 0) 11 = nI nc) (x : Int32) : fX8_votesFor σ (nI a) x = some (cn (fun i => mem σ i && decide (itm σ a i = x)) nc) := by
  unfold fX8_votesFor
  rw [n1]
  refine lpF_fx (fun i s => s = (cn (fun i => mem σ i && decide (itm σ a i = x)) i, nI i)) nc ?_ ?_ (by omega) rfl
  · intro i s hi hs
    subst hs
    refine Or.inl ⟨_, ?_, rfl⟩
    obtain ⟨i1, i2⟩ := in12 (show i < 12 by omega)
    obtain ⟨a1, a2⟩ := in17 ha
    obtain ⟨k, k1, k2, k3, k4, k5, k6⟩ := x_club hI (show i < 12 by omega)
    simp only [leI (show nc < 2 ^ 31 by omega) (show i < 2 ^ 31 by omega), show ¬ nc ≤ i by omega, if_false, i1, grd_t, i2, bnd_eq, nI_1, cn_S, k4, obi_s, k6, show alen 11 = 17 from rfl, a1, a2, Bool.and_self, mem, k5]
    by_cases c : σ (0, i) 2 = 0
    · simp [c, obi_s]
    · by_cases d : σ (11, k) a = x
      · simp [c, d, obi_s]
      · simp [c, d, obi_s]
  · intro s hs
    subst hs
    exact ⟨_, by simp only [leI (show nc < 2 ^ 31 by omega) (show nc < 2 ^ 31 by omega), Nat.le_refl, if_true], rfl⟩
theorem x_leaving {σ : St} (hI : Iv σ) {a nc : Nat} (ha : a < 17) (hnc : nc ≤ 12) (n1 : σ (8, 0) 11 = nI nc) (x : Int32) : fX8_leaving σ (nI a) x = some (bs (fun i => mem σ i && (hol σ a i && !(decide (itm σ a i = x)))) nc) := by
  unfold fX8_leaving
  rw [n1]
  refine lpF_fx (fun i s => s = (bs (fun i => mem σ i && (hol σ a i && !(decide (itm σ a i = x)))) i, nI i)) nc ?_ ?_ (by omega) rfl
  · intro i s hi hs
    subst hs
    refine Or.inl ⟨_, ?_, rfl⟩
    obtain ⟨i1, i2⟩ := in12 (show i < 12 by omega)
    obtain ⟨a1, a2⟩ := in17 ha
    obtain ⟨k, k1, k2, k3, k4, k5, k6⟩ := x_club hI (show i < 12 by omega)
    simp only [leI (show nc < 2 ^ 31 by omega) (show i < 2 ^ 31 by omega), show ¬ nc ≤ i by omega, if_false, i1, grd_t, i2, bnd_eq, nI_1, bs_S, k4, obi_s, k6, show alen 11 = 17 from rfl, a1, a2, Bool.and_self, mem, hol, k5]
    by_cases c : σ (0, i) 2 = 0
    · simp [c, obi_s]
    · by_cases e : (σ (0, i) 1 >>> (nI a &&& 31)) &&& 1 = 1
      · by_cases d : σ (11, k) a = x
        · simp [c, d, e, obi_s]
        · simp [c, d, e, obi_s]
      · simp [c, e, obi_s]
  · intro s hs
    subst hs
    exact ⟨_, by simp only [leI (show nc < 2 ^ 31 by omega) (show nc < 2 ^ 31 by omega), Nat.le_refl, if_true], rfl⟩
def vAg (σ : St) (a : Nat) (x : Int32) (N : Nat) : Int32 := if σ (27, 0) a = x then 0 else cn (fun i => mem σ i && decide (itm σ a i = σ (27, 0) a)) N
theorem x_votesAgainst {σ : St} (hI : Iv σ) {a nc : Nat} (ha : a < 17) (hnc : nc ≤ 12) (n1 : σ (8, 0) 11 = nI nc) (x : Int32) : fX8_votesAgainst σ (nI a) x = some (vAg σ a x nc) := by
  unfold fX8_votesAgainst vAg
  obtain ⟨a1, a2⟩ := in17 ha
  rw [a1, grd_t, a2]
  by_cases c : σ (27, 0) a = x
  · rw [if_pos c, if_pos c]
  · rw [if_neg c, if_neg c, grd_t, x_votesFor hI ha hnc n1, obi_s]
def car (σ : St) (F A : Int32) : Bool := if F * σ (8, 0) 13 < σ (8, 0) 12 * (F + A) then false else if F + A < σ (8, 0) 14 then false else true
theorem x_isCarried {σ : St} (hI : Iv σ) {a nc : Nat} (ha : a < 17) (hnc : nc ≤ 12) (n1 : σ (8, 0) 11 = nI nc) (x : Int32) : fX8_isCarried σ (nI a) x = some (car σ (cn (fun i => mem σ i && decide (itm σ a i = x)) nc) (vAg σ a x nc)) := by
  unfold fX8_isCarried car
  rw [x_votesFor hI ha hnc n1, obi_s, x_votesAgainst hI ha hnc n1, obi_s, bnd_eq]
  split
  · rfl
  · split <;> rfl
theorem va_cn (σ : St) (a : Nat) (x : Int32) (N : Nat) : vAg σ a x N = cn (fun i => mem σ i && (!(decide (itm σ a i = x)) && decide (itm σ a i = σ (27, 0) a))) N := by
  unfold vAg
  by_cases c : σ (27, 0) a = x
  · rw [if_pos c, cn_0]
    intro i hi
    by_cases d : itm σ a i = x
    · simp [d]
    · simp [c, d]
  · rw [if_neg c]
    refine cn_cong N ?_
    intro i hi
    by_cases d : itm σ a i = σ (27, 0) a
    · simp [d, c]
    · simp [d]
def mot (σ : St) (a : Nat) (x : Int32) (nc : Nat) (w : Int32) : Int32 :=
  if w = 0 then cn (fun i => mem σ i && decide (itm σ a i = x)) nc else if w = 1 then vAg σ a x nc else if w = 2 then (if car σ (cn (fun i => mem σ i && decide (itm σ a i = x)) nc) (vAg σ a x nc) = true then 1 else 0) else bs (fun i => mem σ i && (hol σ a i && !(decide (itm σ a i = x)))) nc
abbrev RQ : List Nat := [27, 1002, 31, 32, 33, 34, 1906, 1907, 1908]
theorem modi.PM {σ σ' : St} (h : modi RQ σ σ') {f j k : Nat} (hf : (f = 9 ∧ k < 100 ∧ ¬ k = 6 ∧ ¬ k = 7 ∧ ¬ k = 8) ∨ (10 ≤ f ∧ ¬ f = 27 ∧ ¬ f = 31 ∧ ¬ f = 32 ∧ ¬ f = 33 ∧ ¬ f = 34 ∧ f < 1000)) : σ' (f, j) k = σ (f, j) k := by
  refine h _ _ ?_
  by_cases c : f < 10
  · rw [cod_o c]
    simp
    omega
  · rw [cod_a c]
    simp
    omega
set_option maxHeartbeats 2000000 in
theorem m_motionOf {σ τ : St} (hI : Ix σ) (hτ : Id τ) (hm : modi RQ σ τ) {a j nc : Nat} (ha : a < 17) (hj : j < 11) (hnc : nc ≤ 12) (n1 : σ (8, 0) 11 = nI nc) (n2 : σ (9, 0) 28 = nI nc) (w : Int32) : ∃ σ', fX9_motionOf τ (nI a) (nI j) w = some (mot σ a (σ (11, j) a) nc w, σ') ∧ Id σ' ∧ modi RR τ σ' := by
  suffices hh : ∃ σ', fX9_motionOf τ (nI a) (nI j) w = some (mot σ a (σ (11, j) a) nc w, σ') ∧ Id σ' by
    obtain ⟨σ', g1, g2⟩ := hh
    exact ⟨σ', g1, g2, mX9_motionOf g1⟩
  obtain ⟨s0, e0, h0, m0'⟩ := m_itemOf hj ha hτ
  have m0 : modi RQ σ s0 := (modi.tr (modi.tr (modi.rf (L := RQ) (σ := σ)) hm (by decide)) m0' (by decide))
  rw [show τ (11, j) a = σ (11, j) a from hm.PM (by simp)] at e0
  obtain ⟨a1, a2⟩ := in17 ha
  unfold fX9_motionOf
  rw [e0, obi_s]
  simp only
  generalize σ (11, j) a = x
  have lo : ∃ b, lpF (fun (q3 : Int32 × Int32 × Int32 × Int32 × St) => match q3 with
  | (x5, x6, x7, x8, σ3) =>
  if (σ3 (9, 0) 28) ≤ x8 then
    some (.inr ((x5, x6, x7, σ3)))
  else
    grd (inb x8 12) (
    obi (if (σ3 (46, 0) (tn x8)) = 0 then
      some (x5, x6, x7, σ3)
    else
      grd (inb x8 12) (
      obi (fX9_itemOf σ3 (σ3 (44, 0) (tn x8)) (nI a)) (fun (x12, σ5) =>
      bnd (if x12 = x then
        (1 : Int32)
      else
        (0 : Int32)) (fun x13 =>
      bnd (x5 + x13) (fun x14 =>
      obi (if x12 = x then
        some (0 : Int32)
      else
        grd (inb (nI a) 17) (
        if x12 = (σ5 (47, 0) (tn (nI a))) then
          some (1 : Int32)
        else
          some (0 : Int32))) (fun x15 =>
      bnd (x6 + x15) (fun x16 =>
      obi (if x12 = x then
        some (0 : Int32)
      else
        grd (inb x8 12) (
        if (((σ5 (45, 0) (tn x8)) >>> (nI a &&& 31)) &&& (1 : Int32)) = (1 : Int32) then
          some ((1 : Int32) <<< (x8 &&& 31))
        else
          some (0 : Int32))) (fun x17 =>
      bnd (x7 ||| x17) (fun x18 =>
      some (x14, x16, x18, σ5)))))))))) (fun (x9, x10, x11, σ4) =>
    bnd (x8 + 1) (fun x19 =>
    some (.inl (x9, x10, x11, x19, σ4)))))) ((0 : Int32), (0 : Int32), (0 : Int32), (0 : Int32), s0) = some b ∧ b.1 = cn (fun i => mem σ i && decide (itm σ a i = x)) nc ∧ b.2.1 = vAg σ a x nc ∧ b.2.2.1 = bs (fun i => mem σ i && (hol σ a i && !(decide (itm σ a i = x)))) nc ∧ Id b.2.2.2 ∧ modi RQ σ b.2.2.2 := by
    rw [va_cn]
    refine lpF_for (fun i s => s.1 = cn (fun i => mem σ i && decide (itm σ a i = x)) i ∧ s.2.1 = cn (fun i => mem σ i && (!(decide (itm σ a i = x)) && decide (itm σ a i = σ (27, 0) a))) i ∧ s.2.2.1 = bs (fun i => mem σ i && (hol σ a i && !(decide (itm σ a i = x)))) i ∧ s.2.2.2.1 = nI i ∧ Id s.2.2.2.2 ∧ modi RQ σ s.2.2.2.2) nc ?_ ?_ (by omega) ⟨rfl, rfl, rfl, rfl, h0, m0⟩
    · rintro i ⟨x5, x6, x7, x8, s⟩ hi ⟨rfl, rfl, rfl, rfl, h1, m1⟩
      replace h1 : Id s := h1
      replace m1 : modi RQ σ s := m1
      obtain ⟨i1, i2⟩ := in12 (show i < 12 by omega)
      obtain ⟨k, k1, k2, k3, k4, k5, k6⟩ := x_club hI.1 (show i < 12 by omega)
      obtain ⟨-, h, m, -, -, -, -, -, c1, c2, c3, c4⟩ := club_x hI.1 (show i < 12 by omega)
      have r1 : s (9, 0) 28 = nI nc := by rw [m1.PM (by simp), n2]
      have r2 : s (46, 0) i = σ (0, i) 2 := by rw [m1.PM (by simp), c4, c3]
      have r3 : s (44, 0) i = nI k := by rw [m1.PM (by simp), k3]
      obtain ⟨s2, e2, h2, m2⟩ := m_itemOf k1 ha h1
      have r4 : s (11, k) a = itm σ a i := by rw [m1.PM (by simp), k5]
      have mm : modi RQ σ s2 := m1.tr m2 (by decide)
      have r5 : s2 (47, 0) a = σ (27, 0) a := by rw [mm.PM (by simp)]; exact (hI.1.2.2.1 a ha).symm
      have r6 : s2 (45, 0) i = σ (0, i) 1 := by rw [mm.PM (by simp), c2, c1]
      simp only [r1, leI (show nc < 2 ^ 31 by omega) (show i < 2 ^ 31 by omega), show ¬ nc ≤ i by omega, if_false, i1, grd_t, i2, bnd_eq, nI_1, r2, r3, e2, obi_s, r4, a1, a2, r5, r6, cn_S, bs_S, mem, hol]
      by_cases c : σ (0, i) 2 = 0
      · refine Or.inl ⟨(_, _, _, _, s), by simp only [c, if_true, obi_s]; rfl, ?_⟩
        simp [c, h1, m1]
      · by_cases d : itm σ a i = x
        · refine Or.inl ⟨(_, _, _, _, s2), by simp only [c, d, if_true, if_false, obi_s]; rfl, ?_⟩
          simp [c, d, h2, mm]
        · by_cases e : itm σ a i = σ (27, 0) a
          · have d' : ¬ σ (27, 0) a = x := e ▸ d
            by_cases f : (σ (0, i) 1 >>> (nI a &&& 31)) &&& 1 = 1
            · refine Or.inl ⟨(_, _, _, _, s2), by simp only [c, d', e, f, if_true, if_false, obi_s]; rfl, ?_⟩
              simp [c, d', e, f, h2, mm]
            · refine Or.inl ⟨(_, _, _, _, s2), by simp only [c, d', e, f, if_true, if_false, obi_s]; rfl, ?_⟩
              simp [c, d', e, f, h2, mm]
          · by_cases f : (σ (0, i) 1 >>> (nI a &&& 31)) &&& 1 = 1
            · refine Or.inl ⟨(_, _, _, _, s2), by simp only [c, d, e, f, if_true, if_false, obi_s]; rfl, ?_⟩
              simp [c, d, e, f, h2, mm]
            · refine Or.inl ⟨(_, _, _, _, s2), by simp only [c, d, e, f, if_true, if_false, obi_s]; rfl, ?_⟩
              simp [c, d, e, f, h2, mm]
    · rintro ⟨x5, x6, x7, x8, s⟩ ⟨rfl, rfl, rfl, rfl, h1, m1⟩
      replace h1 : Id s := h1
      replace m1 : modi RQ σ s := m1
      have r1 : s (9, 0) 28 = nI nc := by rw [m1.PM (by simp), n2]
      exact ⟨(_, _, _, s), by simp only [r1, leI (show nc < 2 ^ 31 by omega) (show nc < 2 ^ 31 by omega), Nat.le_refl, if_true], rfl, rfl, rfl, h1, m1⟩
  obtain ⟨⟨F, A, L, s⟩, e, hF, hA, hL, h1, m1⟩ := lo
  simp only at hF hA hL h1 m1
  rw [e, obi_s]
  refine ⟨s, ?_, h1⟩
  obtain ⟨nm, nc', a', b', q', -, -, -, -, -, -, -, -, -, -, u1, u2, u3, u4, u5, u6, -⟩ := hI.1.1
  have v1 : s (9, 0) 34 = σ (8, 0) 13 := by rw [m1.PM (by simp), u4, u3]
  have v2 : s (9, 0) 33 = σ (8, 0) 12 := by rw [m1.PM (by simp), u2, u1]
  have v3 : s (9, 0) 35 = σ (8, 0) 14 := by rw [m1.PM (by simp), u6, u5]
  simp only [bnd_eq, v1, v2, v3, mot, ← hF, ← hA, ← hL, car]
  by_cases w0 : w = 0
  · simp only [w0, if_true]
  by_cases w1 : w = 1
  · rw [if_neg w0, if_pos w1, if_neg w0, if_pos w1]
  by_cases w2 : w = 2
  · rw [if_neg w0, if_neg w1, if_pos w2, if_neg w0, if_neg w1, if_pos w2]
    by_cases g1 : F * σ (8, 0) 13 < σ (8, 0) 12 * (F + A)
    · simp [g1]
    · by_cases g2 : F + A < σ (8, 0) 14
      · simp [g1, g2]
      · simp [g1, g2]
  · simp only [w0, w1, w2, if_false]
