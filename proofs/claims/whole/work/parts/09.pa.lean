/-! ===== the codes' piece of the invariant ===== -/
def MX (σ : St) (j n : Nat) (t : Nat → Nat) : Prop := σ (29, 0) j = nI n ∧ ∀ i, i < n → σ (30, 0) (80 * j + i) = nI (t i)
def MRd (σ : St) (j n : Nat) (t : Nat → Nat) : Prop := σ (32, 0) j = saysF n t ∧ (∀ k, k < 17 → σ (33, 0) (17 * j + k) = itF (saysL n t) wpf k) ∧ ∀ k, k < 28 → σ (34, 0) (28 * j + k) = pwF (saysL n t) k
def Cd (σ : St) (j : Nat) : Prop := ∃ n t, XT σ j n t ∧ MX σ j n t ∧ Xrd σ j n t ∧ (σ (31, 0) j = 0 ∨ (σ (31, 0) j = 1 ∧ MRd σ j n t))
def Id (σ : St) : Prop := WP σ ∧ ∀ j, j < 11 → Cd σ j
def rfr (j : Nat) (σ σ' : St) : Prop := ∀ (r : Rf) (k : Nat), ¬ (r = (9, 0) ∧ (k = 6 ∨ k = 7 ∨ k = 8)) → ¬ (r = (31, 0) ∧ k = j) → ¬ (r = (32, 0) ∧ k = j) → ¬ (r = (33, 0) ∧ 17 * j ≤ k ∧ k < 17 * j + 17) → ¬ (r = (34, 0) ∧ 28 * j ≤ k ∧ k < 28 * j + 28) → σ' r k = σ r k
theorem rfr.X {j : Nat} {σ σ' : St} (h : rfr j σ σ') {r : Rf} {k : Nat} (h1 : r.1 < 9 ∨ r.1 = 10 ∨ r.1 = 11 ∨ r.1 = 12 ∨ r.1 = 29 ∨ r.1 = 30 ∨ r.1 = 56) : σ' r k = σ r k := by
  refine h r k ?_ ?_ ?_ ?_ ?_ <;> rintro ⟨rfl, -⟩ <;> simp at h1
theorem rfr.text {j j' n : Nat} {t : Nat → Nat} {σ σ' : St} (h : rfr j σ σ') (hx : XT σ j' n t) (hm : MX σ j' n t) (hr : Xrd σ j' n t) : XT σ' j' n t ∧ MX σ' j' n t ∧ Xrd σ' j' n t := by
  refine ⟨⟨hx.1, ?_, fun i hi => ⟨(hx.2.2 i hi).1, ?_⟩⟩, ⟨?_, fun i hi => ?_⟩, ?_, fun k hk => ?_, fun k hk => ?_⟩
  · rw [h.X (by simp), hx.2.1]
  · rw [h.X (by simp), (hx.2.2 i hi).2]
  · rw [h.X (by simp), hm.1]
  · rw [h.X (by simp), hm.2 i hi]
  · rw [h.X (by simp), hr.1]
  · rw [h.X (by simp), hr.2.1 k hk]
  · rw [h.X (by simp), hr.2.2 k hk]
theorem rfr.Cd {j j' : Nat} {σ σ' : St} (h : rfr j σ σ') (hn : ¬ j' = j) (hc : Cd σ j') : Cd σ' j' := by
  obtain ⟨n, t, h1, h2, h3, h4⟩ := hc
  obtain ⟨q1, q2, q3⟩ := h.text h1 h2 h3
  refine ⟨n, t, q1, q2, q3, ?_⟩
  have e31 : σ' (31, 0) j' = σ (31, 0) j' := h _ _ (by simp) (fun q => hn q.2) (by simp) (by simp) (by simp)
  rcases h4 with h4 | ⟨h4, h5⟩
  · exact Or.inl (by rw [e31, h4])
  · refine Or.inr ⟨by rw [e31, h4], ?_, fun k hk => ?_, fun k hk => ?_⟩
    · rw [h _ _ (by simp) (by simp) (fun q => hn q.2) (by simp) (by simp), h5.1]
    · rw [h _ _ (by simp) (by simp) (by simp) (by rintro ⟨-, q⟩; omega) (by simp), h5.2.1 k hk]
    · rw [h _ _ (by simp) (by simp) (by simp) (by simp) (by rintro ⟨-, q⟩; omega), h5.2.2 k hk]
theorem pw_nil (k : Nat) : pwF [] k = -1 := rfl
set_option maxHeartbeats 4000000 in
theorem m_reads {σ : St} {j : Nat} (hj : j < 11) (h : Id σ) : ∃ σ', fX9_reads σ (nI j) = some σ' ∧ rfr j σ σ' ∧ Id σ' ∧ σ' (31, 0) j = 1 := by
  obtain ⟨n, t, hx, hm, hr, hd⟩ := h.2 j hj
  have i11 : inb (nI j) 11 = true := by rw [inb_nI (by omega)]; simpa using hj
  have tj := tn_nI (show j < 2 ^ 31 by omega)
  have h80 := hx.1
  rcases hd with h31 | ⟨h31, hmr⟩
  case inr =>
    have : ¬ (1 : Int32) = 0 := by decide
    refine ⟨σ, ?_, fun _ _ _ _ _ _ _ => rfl, h, h31⟩
    unfold fX9_reads
    rw [i11, grd_t, tj, h31, if_neg this]
  have fin : ∀ σ' : St, rfr j σ σ' → σ' (31, 0) j = 1 → MRd σ' j n t → rfr j σ σ' ∧ Id σ' ∧ σ' (31, 0) j = 1 := by
    intro σ' h1 h2 h3
    refine ⟨h1, ⟨fun i hi => by rw [h1.X (by simp)]; exact h.1 i hi, fun j' hj' => ?_⟩, h2⟩
    by_cases c : j' = j
    · subst c
      obtain ⟨q1, q2, q3⟩ := h1.text hx hm hr
      exact ⟨n, t, q1, q2, q3, Or.inr ⟨h2, h3⟩⟩
    · exact h1.Cd c (h.2 j' hj')
  unfold fX9_reads
  rw [i11, grd_t, tj, if_pos h31, grd_t, bnd_eq, bnd_eq, bnd_eq, bnd_eq]
  rw [show nbo 1 = 1 by decide]
  generalize hs4 : su (su (su (su σ (31, 0) j 1) (9, 0) 6 (nI j)) (9, 0) 7 0) (9, 0) 8 (-1) = s4
  have hfr4 : rfr j σ s4 := by
    subst hs4
    intro r k q1 q2 q3 q4 q5
    rw [su_app, if_neg (fun q => q1 ⟨q.1, by omega⟩), su_app, if_neg (fun q => q1 ⟨q.1, by omega⟩), su_app, if_neg (fun q => q1 ⟨q.1, by omega⟩), su_app, if_neg q2]
  have h431 : s4 (31, 0) j = 1 := by subst hs4; simp [su_app]
  have hmt : MT s4 j n t := by
    refine ⟨h80, hj, by subst hs4; simp [su_app], ?_, fun i hi => ⟨(hx.2.2 i hi).1, ?_⟩⟩
    · rw [hfr4.X (by simp), hm.1]
    · rw [hfr4.X (by simp), hm.2 i hi]
  have mto : ∀ {s : St}, mfr j s4 s → rfr j σ s := by
    intro s hs r k q1 q2 q3 q4 q5
    rw [hs r k (fun q => q1 ⟨q.1, by omega⟩) q4 q5, hfr4 r k q1 q2 q3 q4 q5]
  have m31 : ∀ {s : St}, mfr j s4 s → s (31, 0) j = 1 := by
    intro s hs
    rw [hs _ _ (by simp) (by simp) (by simp), h431]
  have pls : ∀ s : St, fX9_plains s (nI j) = some (srg s (33, 0) (17 * j) 17 (fun k => fX9_plain (nI k))) := by
    intro s
    unfold fX9_plains
    exact loop_row (L := 187) (17 : Int32) (17 : Int32) fX9_plain rfl rfl (by omega) (by decide)
  have fil : ∀ s : St, lpF (fun (q1 : Int32 × St) => match q1 with
      | (x1, σ1) =>
      if (28 : Int32) ≤ x1 then
        some (.inr σ1)
      else
        grd (inb (((28 : Int32) * nI j) + x1) 308) (bnd (su σ1 (34, 0) (tn (((28 : Int32) * nI j) + x1)) (-1)) (fun σ2 =>
        bnd (x1 + 1) (fun x2 =>
        some (.inl (x2, σ2)))))) ((0 : Int32), s) = some (srg s (34, 0) (28 * j) 28 (fun _ => -1)) := by
    intro s
    exact loop_row (L := 308) (28 : Int32) (28 : Int32) (fun _ => -1) rfl rfl (by omega) (by decide)
  have clr : ∀ s : St, mfr j s4 s → mfr j s4 (srg (srg s (33, 0) (17 * j) 17 (fun k => fX9_plain (nI k))) (34, 0) (28 * j) 28 (fun _ => -1)) ∧ (∀ k, k < 17 → srg (srg s (33, 0) (17 * j) 17 (fun k => fX9_plain (nI k))) (34, 0) (28 * j) 28 (fun _ => -1) (33, 0) (17 * j + k) = wpf k) ∧ ∀ k, k < 28 → srg (srg s (33, 0) (17 * j) 17 (fun k => fX9_plain (nI k))) (34, 0) (28 * j) 28 (fun _ => -1) (34, 0) (28 * j + k) = -1 := by
    intro s hs
    refine ⟨?_, fun k hk => ?_, fun k hk => ?_⟩
    · intro r k q1 q2 q3
      rw [srg_app, if_neg q3, srg_app, if_neg q2, hs r k q1 q2 q3]
    · rw [srg_app, if_neg (by simp), srg_app, if_pos ⟨rfl, by omega, by omega⟩, Nat.add_sub_cancel_left, plain_w k hk]
    · rw [srg_app, if_pos ⟨rfl, by omega, by omega⟩]
  rw [pls, obi_s, fil, obi_s]
  obtain ⟨w1, w2, w3⟩ := clr s4 (mfr.rf j s4)
  generalize hs6 : srg (srg s4 (33, 0) (17 * j) 17 (fun k => fX9_plain (nI k))) (34, 0) (28 * j) 28 (fun _ => -1) = s6 at w1 w2 w3
  have h48 : s4 (9, 0) 8 = -1 := by subst hs4; simp [su_app]
  have h47 : s4 (9, 0) 7 = 0 := by subst hs4; simp [su_app]
  have h68 : s6 (9, 0) 8 = -1 := by subst hs6; simp [srg_app, h48]
  have h67 : s6 (9, 0) 7 = nI 0 := by subst hs6; simp [srg_app, h47]; rfl
  have hq6 : MQd s4 j wpf (pwF []) 0 s6 := ⟨w1, h67, h68, w2, w3⟩
  have hm6 := hmt.fr w1
  rw [grd_t, bnd_eq, hm6.2.2.2.1]
  simp only [show (0 : Int32) = nI 0 from rfl, leI (show n < 2 ^ 31 by omega) (show 0 < 2 ^ 31 by decide)]
  by_cases c0 : n ≤ 0
  · have n0 : n = 0 := by omega
    rw [if_pos c0]
    rw [lpF_1 (b := s6) (by simp only [if_true]), obi_s, grd_t, bnd_eq, h68]
    have e8 : su s6 (32, 0) j (-1) (9, 0) 8 = -1 := by rw [su_app, if_neg (by simp), h68]
    rw [if_pos e8]
    refine ⟨_, rfl, fin _ ?_ ?_ ?_⟩
    · intro r k q1 q2 q3 q4 q5
      rw [su_app, if_neg q3]
      exact mto w1 r k q1 q2 q3 q4 q5
    · rw [su_app, if_neg (by simp), m31 w1]
    · refine ⟨?_, fun k hk => ?_, fun k hk => ?_⟩
      · rw [su_hit]; simp [saysF, n0]
      · rw [su_app, if_neg (by simp), w2 k hk]; simp [saysL, n0, itF]
      · rw [su_app, if_neg (by simp), w3 k hk]; simp [saysL, n0, pw_nil]
  · rw [if_neg c0]
    obtain ⟨s9, e9, d9⟩ := m_loop hmt (show 0 < n by omega) hq6
    have n0 : ¬ n = 0 := by omega
    simp only [show (0 : Int32) = nI 0 from rfl] at e9
    rw [i11, tj] at e9
    rw [e9, obi_s, grd_t, bnd_eq]
    unfold Dn at d9
    cases hp : pl n t 28 0 with
    | inl q =>
      rw [hp] at d9
      have hq := pl_fault 28 0 q (Nat.zero_le _) hp
      have e8 : ¬ su s9 (32, 0) j (s9 (9, 0) 8) (9, 0) 8 = -1 := by
        rw [su_app, if_neg (by simp), d9.2]
        exact nI_ne_m1 (by omega)
      rw [if_neg e8, pls, obi_s]
      have fl := fil (srg (su s9 (32, 0) j (s9 (9, 0) 8)) (33, 0) (17 * j) 17 (fun k => fX9_plain (nI k)))
      simp only [show (0 : Int32) = nI 0 from rfl] at fl
      rw [fl]
      refine ⟨_, rfl, fin _ ?_ ?_ ?_⟩
      · intro r k q1 q2 q3 q4 q5
        rw [srg_app, if_neg q5, srg_app, if_neg q4, su_app, if_neg q3]
        exact mto d9.1 r k q1 q2 q3 q4 q5
      · rw [srg_app, if_neg (by simp), srg_app, if_neg (by simp), su_app, if_neg (by simp), m31 d9.1]
      · refine ⟨?_, fun k hk => ?_, fun k hk => ?_⟩
        · rw [srg_app, if_neg (by simp), srg_app, if_neg (by simp), su_hit, d9.2]; simp [saysF, n0, hp]
        · rw [srg_app, if_neg (by simp), srg_app, if_pos ⟨rfl, by omega, by omega⟩, Nat.add_sub_cancel_left, plain_w k hk]; simp [saysL, n0, hp, itF]
        · rw [srg_app, if_pos ⟨rfl, by omega, by omega⟩]; simp [saysL, n0, hp, pw_nil]
    | inr l =>
      rw [hp] at d9
      obtain ⟨d1, d2, d3, d4⟩ := d9
      have e8 : su s9 (32, 0) j (s9 (9, 0) 8) (9, 0) 8 = -1 := by
        rw [su_app, if_neg (by simp), d2]
      rw [if_pos e8]
      refine ⟨_, rfl, fin _ ?_ ?_ ?_⟩
      · intro r k q1 q2 q3 q4 q5
        rw [su_app, if_neg q3]
        exact mto d1 r k q1 q2 q3 q4 q5
      · rw [su_app, if_neg (by simp), m31 d1]
      · refine ⟨?_, fun k hk => ?_, fun k hk => ?_⟩
        · rw [su_hit, d2]; simp [saysF, n0, hp]
        · rw [su_app, if_neg (by simp), d3 k hk]; simp [saysL, n0, hp]
        · rw [su_app, if_neg (by simp), d4 k hk]; simp [saysL, n0, hp]
