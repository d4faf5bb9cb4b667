abbrev RR : List Nat := [31, 32, 33, 34, 1906, 1907, 1908]
abbrev dIv : List Nat := dIb ++ dIc ++ dIl ++ dIw ++ dIs ++ dIm
theorem Iv.mv {L : List Nat} {σ σ' : St} (h : Iv σ) (hm : modi L σ σ') (hd : ∀ x ∈ dIv, ¬ x ∈ L) : Iv σ' := by
  obtain ⟨h1, h2, h3, h4, h5, h6⟩ := h
  have hh : ∀ D : List Nat, (∀ x ∈ D, x ∈ dIv) → ∀ x ∈ D, ¬ x ∈ L := fun D hD x hx => hd x (hD x hx)
  exact ⟨dep_Ib.mv hm (hh _ (by decide)) h1, dep_Ic.mv hm (hh _ (by decide)) h2, dep_Il.mv hm (hh _ (by decide)) h3, dep_Iw.mv hm (hh _ (by decide)) h4, dep_Is.mv hm (hh _ (by decide)) h5, dep_Im.mv hm (hh _ (by decide)) h6⟩
abbrev dId : List Nat := [1103, 1104, 10, 11, 12, 29, 30, 31, 32, 33, 34, 56]
/-- where code j lies -/
def cdd (j : Nat) (r : Rf) (k : Nat) : Prop := (r = (1, j) ∧ (k = 3 ∨ k = 4)) ∨ r = (10, j) ∨ r = (11, j) ∨ r = (12, j) ∨ (r = (29, 0) ∧ k = j) ∨ (r = (30, 0) ∧ 80 * j ≤ k ∧ k < 80 * j + 80) ∨ (r = (31, 0) ∧ k = j) ∨ (r = (32, 0) ∧ k = j) ∨ (r = (33, 0) ∧ 17 * j ≤ k ∧ k < 17 * j + 17) ∨ (r = (34, 0) ∧ 28 * j ≤ k ∧ k < 28 * j + 28)
theorem Cd.of {j : Nat} {σ σ' : St} (h : ∀ r k, cdd j r k → σ' r k = σ r k) (hc : Cd σ j) : Cd σ' j := by
  obtain ⟨n, t, hx, hm, hr, hd⟩ := hc
  have h80 := hx.1
  have e31 : σ' (31, 0) j = σ (31, 0) j := h _ _ (by simp [cdd])
  refine ⟨n, t, ⟨h80, ?_, fun i hi => ⟨(hx.2.2 i hi).1, ?_⟩⟩, ⟨?_, fun i hi => ?_⟩, ⟨?_, fun k hk => ?_, fun k hk => ?_⟩, ?_⟩
  · rw [h _ _ (by simp [cdd]), hx.2.1]
  · rw [h _ _ (by simp [cdd]), (hx.2.2 i hi).2]
  · rw [h _ _ (by simp [cdd]), hm.1]
  · rw [h _ _ (by simp [cdd]; omega), hm.2 i hi]
  · rw [h _ _ (by simp [cdd]), hr.1]
  · rw [h _ _ (by simp [cdd]), hr.2.1 k hk]
  · rw [h _ _ (by simp [cdd]), hr.2.2 k hk]
  · rcases hd with hd | ⟨hd, q1, q2, q3⟩
    · exact Or.inl (by rw [e31, hd])
    · refine Or.inr ⟨by rw [e31, hd], ?_, fun k hk => ?_, fun k hk => ?_⟩
      · rw [h _ _ (by simp [cdd]), q1]
      · rw [h _ _ (by simp [cdd]; omega), q2 k hk]
      · rw [h _ _ (by simp [cdd]; omega), q3 k hk]
theorem dep_Id : dep dId Id := by
  intro σ σ' h hI
  refine ⟨fun i hi => ?_, fun j hj => Cd.of ?_ (hI.2 j hj)⟩
  · rw [h _ _ (by rw [cod_a (by decide)]; decide)]
    exact hI.1 i hi
  · intro r k hc
    refine h r k ?_
    rcases hc with ⟨rfl, rfl | rfl⟩ | rfl | rfl | rfl | ⟨rfl, -⟩ | ⟨rfl, -⟩ | ⟨rfl, -⟩ | ⟨rfl, -⟩ | ⟨rfl, -⟩ | ⟨rfl, -⟩
    · rw [cod_o (by decide)]; decide
    · rw [cod_o (by decide)]; decide
    all_goals (rw [cod_a (by decide)]; decide)
/-- the invariant of what is told, and of the codes -/
def Ix (σ : St) : Prop := Iv σ ∧ Id σ
theorem Id.read {σ : St} (h : Id σ) {j : Nat} (hj : j < 11) (h1 : σ (31, 0) j = 1) : σ (32, 0) j = σ (1, j) 4 ∧ ∀ k, k < 17 → σ (33, 0) (17 * j + k) = σ (11, j) k := by
  obtain ⟨n, t, hx, hm, hr, hd⟩ := h.2 j hj
  rcases hd with hd | ⟨-, q1, q2, q3⟩
  · rw [hd] at h1
    exact absurd h1 (by decide)
  · exact ⟨by rw [q1, hr.1], fun k hk => by rw [q2 k hk, hr.2.1 k hk]⟩
theorem m_faultOf {σ : St} {j : Nat} (hj : j < 11) (h : Id σ) : ∃ σ', fX9_faultOf σ (nI j) = some (σ (1, j) 4, σ') ∧ Id σ' ∧ modi RR σ σ' := by
  obtain ⟨σ', e, hf, hI, h1⟩ := m_reads hj h
  have i11 : inb (nI j) 11 = true := by rw [inb_nI (by omega)]; simpa using hj
  have e2 : fX9_faultOf σ (nI j) = some (σ (1, j) 4, σ') := by
    unfold fX9_faultOf
    rw [e, obi_s, i11, grd_t, tn_nI (by omega), (hI.read hj h1).1, hf.X (by simp)]
  exact ⟨σ', e2, hI, mX9_faultOf e2⟩
theorem m_itemOf {σ : St} {j k : Nat} (hj : j < 11) (hk : k < 17) (h : Id σ) : ∃ σ', fX9_itemOf σ (nI j) (nI k) = some (σ (11, j) k, σ') ∧ Id σ' ∧ modi RR σ σ' := by
  obtain ⟨σ', e, hf, hI, h1⟩ := m_reads hj h
  have e17 : (17 : Int32) * nI j + nI k = nI (17 * j + k) := by rw [show (17 : Int32) = nI 17 from rfl, pk_mul, nI_add]
  have i11 : inb (nI (17 * j + k)) 187 = true := by rw [inb_nI (by omega)]; simp; omega
  have e2 : fX9_itemOf σ (nI j) (nI k) = some (σ (11, j) k, σ') := by
    unfold fX9_itemOf
    rw [e, obi_s, e17, i11, grd_t, tn_nI (by omega), (hI.read hj h1).2 k hk, hf.X (by simp)]
  exact ⟨σ', e2, hI, mX9_itemOf e2⟩
theorem RR_Iv : ∀ x ∈ dIv, ¬ x ∈ RR := by decide
theorem Ix.rd {σ σ' : St} (h : Ix σ) (hm : modi RR σ σ') (hI : Id σ') : Ix σ' := ⟨h.1.mv hm RR_Iv, hI⟩
theorem op_fault {σ : St} (hI : Ix σ) (a1 : Int32) : ∃ v σ2, fX8_fault σ a1 = some v ∧ fX9_fault σ a1 = some (v, σ2) ∧ Ix σ2 := by
  unfold fX8_fault fX9_fault
  rw [x_isCode, m_isCode]
  by_cases c : inb a1 11 = true
  · obtain ⟨j, hj, rfl⟩ := inb_ex (by decide) c
    obtain ⟨σ', e, h1, h2⟩ := m_faultOf hj hI.2
    rw [c, if_pos rfl, if_pos rfl, grd_t, e, obi_s, tn_nI (by omega)]
    exact ⟨_, _, rfl, rfl, hI.rd h2 h1⟩
  · rw [if_neg c, if_neg c]
    exact ⟨_, _, rfl, rfl, hI⟩
theorem op_item {σ : St} (hI : Ix σ) (a1 a2 : Int32) : ∃ v σ2, fX8_item σ a1 a2 = some v ∧ fX9_item σ a1 a2 = some (v, σ2) ∧ Ix σ2 := by
  unfold fX8_item fX9_item
  rw [x_isCode, m_isCode, x_isItem, rM a2 17 16 (by decide)]
  by_cases c : inb a1 11 = true
  · by_cases d : inb a2 17 = true
    · obtain ⟨j, hj, rfl⟩ := inb_ex (by decide) c
      obtain ⟨k, hk, rfl⟩ := inb_ex (by decide) d
      obtain ⟨σ', e, h1, h2⟩ := m_itemOf hj hk hI.2
      rw [c, d, if_pos rfl, if_pos rfl, if_pos rfl, if_pos rfl, grd_t, grd_t, e, obi_s, tn_nI (by omega), tn_nI (by omega)]
      exact ⟨_, _, rfl, rfl, hI.rd h2 h1⟩
    · rw [if_neg d, if_neg d, if_pos c, if_pos c]
      exact ⟨_, _, rfl, rfl, hI⟩
  · rw [if_neg c, if_neg c]
    exact ⟨_, _, rfl, rfl, hI⟩
/-- in which items two rows differ -/
def dm (f g : Nat → Int32) : Nat → Int32
  | 0 => 0
  | i + 1 => dm f g i ||| (if f i = g i then 0 else (1 : Int32) <<< (nI i &&& 31))
theorem dm_S (f g : Nat → Int32) (i : Nat) : dm f g (i + 1) = dm f g i ||| (if f i = g i then 0 else (1 : Int32) <<< (nI i &&& 31)) := rfl
theorem dm_cong {f g f' g' : Nat → Int32} : ∀ (N : Nat), (∀ i, i < N → f i = f' i) → (∀ i, i < N → g i = g' i) → dm f g N = dm f' g' N
  | 0, _, _ => rfl
  | N + 1, h1, h2 => by
    rw [dm_S, dm_S, dm_cong N (fun i hi => h1 i (by omega)) (fun i hi => h2 i (by omega)), h1 N (by omega), h2 N (by omega)]
theorem x_unlike {σ : St} {r0 r1 : Rf} (h0 : isIA r0 = true) (h1 : isIA r1 = true) (l0 : alen r0.1 = 17) (l1 : alen r1.1 = 17) : fX8_unlike σ r0 r1 = some (dm (σ r0) (σ r1) 17) := by
  unfold fX8_unlike
  refine lpF_fx (fun i a => a = (dm (σ r0) (σ r1) i, nI i)) 17 ?_ ?_ (by decide) rfl
  · intro i a hi ha
    subst ha
    refine Or.inl ⟨_, ?_, rfl⟩
    have c17 : ¬ (17 : Int32) ≤ nI i := by rw [show (17 : Int32) = nI 17 from rfl, leI (by decide) (by omega)]; omega
    have i1 : inb (nI i) 17 = true := by rw [inb_nI (by omega)]; simpa using hi
    simp only [c17, if_false, h0, h1, l0, l1, i1, Bool.and_self, grd_t, bnd_eq, tn_nI (show i < 2 ^ 31 by omega), nI_1, dm_S]
    by_cases c : σ r0 i = σ r1 i
    · simp only [c, if_true, Int32.or_zero]
    · simp only [c, if_false]
  · intro a ha
    subst ha
    exact ⟨_, by simp only [show (17 : Int32) ≤ nI 17 by decide, if_true], rfl⟩
theorem modi.X {σ σ' : St} (h : modi RR σ σ') {f j k : Nat} (hf : (f < 9 ∧ k < 100) ∨ (10 ≤ f ∧ f < 29)) : σ' (f, j) k = σ (f, j) k := by
  refine h _ _ ?_
  by_cases c : f < 10
  · rw [cod_o c]
    simp
    omega
  · rw [cod_a c]
    simp
    omega
theorem m_differOf {σ : St} {i j : Nat} (hi : i < 11) (hj : j < 11) (h : Id σ) : ∃ σ', fX9_differOf σ (nI i) (nI j) = some (dm (σ (11, i)) (σ (11, j)) 17, σ') ∧ Id σ' ∧ modi RR σ σ' := by
  have key : ∃ b, fX9_differOf σ (nI i) (nI j) = some b ∧ b.1 = dm (σ (11, i)) (σ (11, j)) 17 ∧ Id b.2 ∧ modi RR σ b.2 := by
    unfold fX9_differOf
    refine lpF_for (fun k a => a.1 = dm (σ (11, i)) (σ (11, j)) k ∧ a.2.1 = nI k ∧ Id a.2.2 ∧ modi RR σ a.2.2) 17 ?_ ?_ (by decide) ⟨rfl, rfl, h, modi.rf⟩
    · rintro k ⟨x, y, s⟩ hk ⟨rfl, rfl, h1, h2⟩
      have c17 : ¬ (17 : Int32) ≤ nI k := by rw [show (17 : Int32) = nI 17 from rfl, leI (by decide) (by omega)]; omega
      obtain ⟨s1, e1, q1, m1⟩ := m_itemOf hi hk h1
      obtain ⟨s2, e2, q2, m2⟩ := m_itemOf hj hk q1
      have w1 : s (11, i) k = σ (11, i) k := h2.X (by simp)
      have w2 : s1 (11, j) k = σ (11, j) k := by rw [m1.X (by simp), h2.X (by simp)]
      refine Or.inl ⟨_, by simp only [c17, if_false, e1, obi_s, e2, bnd_eq, w1, w2, nI_1]; rfl, rfl, rfl, q2, (h2.tr m1 (fun _ h => h)).tr m2 (fun _ h => h)⟩
    · rintro ⟨x, y, s⟩ ⟨rfl, rfl, h1, h2⟩
      exact ⟨(dm (σ (11, i)) (σ (11, j)) 17, s), by simp only [show (17 : Int32) ≤ nI 17 by decide, if_true], rfl, h1, h2⟩
  obtain ⟨⟨v, s⟩, e, rfl, h1, h2⟩ := key
  exact ⟨s, e, h1, h2⟩
theorem op_differ {σ : St} (hI : Ix σ) (a1 a2 : Int32) : ∃ v σ2, fX8_differ σ a1 a2 = some v ∧ fX9_differ σ a1 a2 = some (v, σ2) ∧ Ix σ2 := by
  unfold fX8_differ fX9_differ
  rw [x_isCode, m_isCode, x_isCode, m_isCode]
  by_cases c : inb a1 11 = true
  · by_cases d : inb a2 11 = true
    · obtain ⟨i, hi, rfl⟩ := inb_ex (by decide) c
      obtain ⟨j, hj, rfl⟩ := inb_ex (by decide) d
      obtain ⟨σ', e, h1, h2⟩ := m_differOf hi hj hI.2
      rw [c, d, if_pos rfl, if_pos rfl, if_pos rfl, if_pos rfl, grd_t, grd_t, tn_nI (by omega), tn_nI (by omega), x_unlike (ia_of (f := 11) rfl hi) (ia_of (f := 11) rfl hj) rfl rfl, obi_s, e, obi_s]
      exact ⟨_, _, rfl, rfl, hI.rd h2 h1⟩
    · rw [if_neg d, if_neg d, if_pos c, if_pos c]
      exact ⟨_, _, rfl, rfl, hI⟩
  · rw [if_neg c, if_neg c]
    exact ⟨_, _, rfl, rfl, hI⟩
