def MQd (σ0 : St) (j : Nat) (it pw : Nat → Int32) (p : Nat) (σ : St) : Prop := mfr j σ0 σ ∧ σ (9, 0) 7 = nI p ∧ σ (9, 0) 8 = -1 ∧ (∀ k, k < 17 → σ (33, 0) (17 * j + k) = it k) ∧ ∀ k, k < 28 → σ (34, 0) (28 * j + k) = pw k
def MF (σ0 : St) (j q : Nat) (σ : St) : Prop := mfr j σ0 σ ∧ σ (9, 0) 8 = nI q
def pwv (e : Eff) : Int32 := match e with
  | .inl (act, x, y, _) => (128 : Int32) * nI act + msk x y
  | .inr _ => -1
def RM (σ0 : St) (j : Nat) (it pw : Nat → Int32) (x : Option (Int32 × St)) (o : Nat ⊕ (Nat × Eff)) : Prop := match o with
  | .inl q => ∃ v σ', x = some (v, σ') ∧ MF σ0 j q σ'
  | .inr (p', e) => ∃ σ', x = some (pwv e, σ') ∧ MQd σ0 j (effI e it) pw p' σ'
theorem MQd.upd {σ0 σ : St} {j p : Nat} {it pw : Nat → Int32} (h : MQd σ0 j it pw p σ) {i : Nat} (hi : i < 17) (p' : Nat) (v : Int32) : MQd σ0 j (upd it i v) pw p' (su (su σ (9, 0) 7 (nI p')) (33, 0) (17 * j + i) v) := by
  obtain ⟨h1, h2, h3, h4, h5⟩ := h
  refine ⟨(h1.s7 _).s33 hi _, by simp [su_app], by simp [su_app, h3], ?_, ?_⟩
  · intro k hk
    rw [upd_app, su_app]
    by_cases c : k = i
    · rw [if_pos c, if_pos ⟨rfl, by omega⟩]
    · rw [if_neg c, if_neg (by rintro ⟨-, e⟩; omega)]
      simp [su_app, h4 k hk]
  · intro k hk
    simp [su_app, h5 k hk]
theorem ix17 (j i : Nat) : nI (17 * j) + nI i = nI (17 * j + i) := nI_add _ _
theorem m_pi {j item : Nat} (hj : j < 11) (hi : item < 17) : inb (nI (17 * j) + nI item) 187 = true ∧ tn (nI (17 * j) + nI item) = 17 * j + item := by
  have i1 : inb (nI (17 * j + item)) 187 = true := by rw [inb_nI (by omega)]; simp; omega
  rw [ix17]
  exact ⟨i1, tn_nI (by omega)⟩
set_option maxHeartbeats 4000000 in
theorem m_readsPart {σ0 σ : St} {j n p : Nat} {t : Nat → Nat} {it pw : Nat → Int32} (h : MT σ0 j n t) (hp : p ≤ n) (hq : MQd σ0 j it pw p σ) : RM σ0 j it pw (fX9_readsPart σ) (rp n t p) := by
  have hq0 := hq
  obtain ⟨hfr, ha, hf8, hit, hpw⟩ := hq
  have hm := h.fr hfr
  have h80 := h.1
  have hj := h.2.1
  unfold fX9_readsPart
  have e17 : (17 : Int32) * nI j = nI (17 * j) := by rw [show (17 : Int32) = nI 17 from rfl, pk_mul]
  rw [bnd_eq, hm.2.2.1, e17, m_byte hm (by omega) ha, obi_s, bnd_eq, bnd_eq, ha, nI_1]
  have h1 := hm.s7 (nI (p + 1))
  have h17 : su σ (9, 0) 7 (nI (p + 1)) (9, 0) 7 = nI (p + 1) := su_hit _ _ _ _
  have h18 : su σ (9, 0) 7 (nI (p + 1)) (9, 0) 8 = -1 := by rw [s78, hf8]
  have b121 : (bn n t p = 121) = (p < n ∧ t p = 121) := bn_eq hm p (by decide)
  have b110 : (bn n t p = 110) = (p < n ∧ t p = 110) := bn_eq hm p (by decide)
  have b103 : (bn n t p = 103) = (p < n ∧ t p = 103) := bn_eq hm p (by decide)
  have b97 : (bn n t p = 97) = (p < n ∧ t p = 97) := bn_eq hm p (by decide)
  have b107 : (bn n t p = 107) = (p < n ∧ t p = 107) := bn_eq hm p (by decide)
  have b101 : (bn n t p = 101) = (p < n ∧ t p = 101) := bn_eq hm p (by decide)
  have b116 : (bn n t p = 116) = (p < n ∧ t p = 116) := bn_eq hm p (by decide)
  simp only [b121, b110, b103, b97, b107, b101, b116]
  obtain ⟨g13, u13⟩ : inb (nI (17 * j) + 13) 187 = true ∧ tn (nI (17 * j) + 13) = 17 * j + 13 := m_pi hj (show 13 < 17 by decide)
  obtain ⟨g14, u14⟩ : inb (nI (17 * j) + 14) 187 = true ∧ tn (nI (17 * j) + 14) = 17 * j + 14 := m_pi hj (show 14 < 17 by decide)
  obtain ⟨g15, u15⟩ : inb (nI (17 * j) + 15) 187 = true ∧ tn (nI (17 * j) + 15) = 17 * j + 15 := m_pi hj (show 15 < 17 by decide)
  obtain ⟨g16, u16⟩ : inb (nI (17 * j) + 16) 187 = true ∧ tn (nI (17 * j) + 16) = 17 * j + 16 := m_pi hj (show 16 < 17 by decide)
  unfold rp
  by_cases c : p < n
  case neg =>
    simp only [c, false_and, if_false, bnd_eq, if_true, bj_sl]
    exact ⟨_, _, rfl, (hfr.s7 _).s8 _, su_hit _ _ _ _⟩
  simp only [c, true_and, if_true]
  by_cases c1 : t p = 97
  · simp only [c1, Nat.reduceEqDiff, if_false, if_true, bnd_eq, show ¬ (13 : Int32) = -1 by decide, show ¬ (15 : Int32) ≤ 13 by decide]
    rw [m_fig1 h1 (by omega) h17 h18 0 2]
    unfold rpF
    cases hf : fig n t (p + 1) with
    | none =>
      simp only [obi_s, g13, u13, grd_t, bj_sl]
      exact ⟨_, _, rfl, ((hfr.s7 _).s8 _).s33 (by decide) _, by simp [su_app]⟩
    | some v =>
      have hv := (fig_lt hf).1
      simp only [show (0 : Int32) = nI 0 from rfl, show (2 : Int32) = nI 2 from rfl, inN (show v < 2 ^ 31 by omega) (show 0 < 2 ^ 31 by decide) (show 2 < 2 ^ 31 by decide), su_su]
      by_cases c3 : v ≤ 2
      · rw [if_pos ⟨by omega, c3⟩, if_pos c3]
        simp only [obi_s, g13, u13, grd_t, bj_sl]
        exact ⟨_, rfl, hq0.upd (by decide) _ _⟩
      · rw [if_neg (fun q => c3 q.2), if_neg c3]
        simp only [obi_s, g13, u13, grd_t, bj_sl]
        exact ⟨_, _, rfl, ((hfr.s7 _).s8 _).s33 (by decide) _, by simp [su_app]⟩
  by_cases c2 : t p = 101
  · simp only [c2, Nat.reduceEqDiff, if_false, if_true, bnd_eq, show ¬ (15 : Int32) = -1 by decide, show (15 : Int32) ≤ 15 by decide, show ¬ (15 : Int32) = 16 by decide]
    rw [show (2 : Int32) = nI 2 from rfl, m_fig h1 (by omega) h17 h18 (Or.inr rfl) 0 99]
    unfold rpN fgs
    cases hf : fig n t (p + 1) with
    | none =>
      simp only [obi_s, g15, u15, grd_t, bj_sl]
      exact ⟨_, _, rfl, ((hfr.s7 _).s8 _).s33 (by decide) _, by simp [su_app]⟩
    | some v =>
      have hv := (fig_lt hf).1
      simp only [show ¬ (2 : Nat) = 1 by decide, if_false]
      cases hf2 : fig n t (p + 1 + 1) with
      | none =>
        simp only [show (0 : Int32) = nI 0 from rfl, show (99 : Int32) = nI 99 from rfl, inN (show v < 2 ^ 31 by omega) (show 0 < 2 ^ 31 by decide) (show 99 < 2 ^ 31 by decide), su_su]
        rw [if_pos ⟨by omega, by omega⟩, if_pos (Nat.zero_le v)]
        simp only [obi_s, g15, u15, grd_t, bj_sl]
        exact ⟨_, rfl, hq0.upd (by decide) _ _⟩
      | some u =>
        have hu := (fig_lt hf2).1
        simp only [show (0 : Int32) = nI 0 from rfl, show (99 : Int32) = nI 99 from rfl, inN (show 10 * v + u < 2 ^ 31 by omega) (show 0 < 2 ^ 31 by decide) (show 99 < 2 ^ 31 by decide), su_su]
        rw [if_pos ⟨by omega, by omega⟩, if_pos (Nat.zero_le _)]
        simp only [obi_s, g15, u15, grd_t, bj_sl]
        exact ⟨_, rfl, hq0.upd (by decide) _ _⟩
  by_cases c3 : t p = 103
  · simp only [c3, Nat.reduceEqDiff, if_false, if_true, bnd_eq, h17]
    rw [m_fig1 h1 (by omega) h17 h18 4 9]
    unfold rpG
    have n1 : ¬ nI (p + 1) = -1 := nI_ne_m1 (by omega)
    have n2 : ¬ nI (p + 2) = -1 := nI_ne_m1 (by omega)
    have n3 : ¬ nI (p + 3) = -1 := nI_ne_m1 (by omega)
    cases hf : fig n t (p + 1) with
    | none =>
      simp only [obi_s, su_hit, s78, s87, n1, if_false, m_figF, not_false_eq_true, bj_sl]
      exact ⟨_, _, rfl, ((hfr.s7 _).s8 _).s7 _, by rw [s78, su_hit]⟩
    | some v =>
      have hv := (fig_lt hf).1
      simp only [show (4 : Int32) = nI 4 from rfl, show (9 : Int32) = nI 9 from rfl, show (8 : Int32) = nI 8 from rfl, inN (show v < 2 ^ 31 by omega) (show 4 < 2 ^ 31 by decide) (show 9 < 2 ^ 31 by decide), su_su]
      by_cases c4 : 4 ≤ v
      case neg =>
        rw [if_neg (fun q => c4 q.1), if_neg (show ¬ (v = 4 ∨ v = 8 ∨ v = 9) by omega)]
        simp only [obi_s, su_hit, s78, s87, n1, if_false, m_figF, not_false_eq_true, bj_sl]
        exact ⟨_, _, rfl, ((hfr.s7 _).s8 _).s7 _, by rw [s78, su_hit]⟩
      rw [if_pos ⟨c4, by omega⟩, obi_s]
      have h2 := hm.s7 (nI (p + 2))
      have h28 : su σ (9, 0) 7 (nI (p + 2)) (9, 0) 8 = -1 := by rw [s78, hf8]
      simp only [show p + 1 + 1 = p + 2 from rfl, h28, if_true, eqI (show v < 2 ^ 31 by omega) (show 4 < 2 ^ 31 by decide), eqI (show v < 2 ^ 31 by omega) (show 8 < 2 ^ 31 by decide), eqI (show v < 2 ^ 31 by omega) (show 9 < 2 ^ 31 by decide)]
      by_cases cv : v = 4 ∨ v = 8 ∨ v = 9
      case neg =>
        simp only [show ¬ v = 4 by omega, show ¬ v = 8 by omega, show ¬ v = 9 by omega, if_false, or_self, obi_s, su_hit, s78, s87, n1, m_figF, not_false_eq_true, bj_sl]
        exact ⟨_, _, rfl, ((hfr.s7 _).s8 _).s7 _, by rw [s78, su_hit]⟩
      have sel : (if v = 4 then su σ (9, 0) 7 (nI (p + 2)) else if v = 8 then su σ (9, 0) 7 (nI (p + 2)) else if v = 9 then su σ (9, 0) 7 (nI (p + 2)) else su (su σ (9, 0) 7 (nI (p + 2))) (9, 0) 8 (nI (p + 1))) = su σ (9, 0) 7 (nI (p + 2)) := by
        rcases cv with rfl | rfl | rfl <;> rfl
      have b2 := m_byte h2 (show p + 2 < 1000 by omega) (su_hit _ _ _ _)
      have b61 : (bn n t (p + 2) = 61) = (p + 2 < n ∧ t (p + 2) = 61) := bn_eq hm (p + 2) (by decide)
      simp only [cv, if_true, sel, h28, b2, obi_s, b61]
      by_cases c61 : p + 2 < n ∧ t (p + 2) = 61
      case neg =>
        simp only [c61, if_false, obi_s, su_hit, s78, s87, n2, m_figF, not_false_eq_true, bj_sl]
        exact ⟨_, _, rfl, ((hfr.s7 _).s8 _).s7 _, by rw [s78, su_hit]⟩
      have h3 := hm.s7 (nI (p + 2 + 1))
      have h38 : su σ (9, 0) 7 (nI (p + 2 + 1)) (9, 0) 8 = -1 := by rw [s78, hf8]
      have ei : (if v = 4 then (10 : Int32) else nI v + 3) = nI (if v = 4 then 10 else v + 3) := by
        rcases cv with rfl | rfl | rfl <;> rfl
      have ei17 : (if v = 4 then 10 else v + 3) < 17 := by
        rcases cv with rfl | rfl | rfl <;> decide
      simp only [c61, and_self, if_true, obi_s, su_hit, su_su, nI_1, ei]
      rw [m_fig1 h3 (by omega) (su_hit _ _ _ _) h38 0 (nI 9)]
      unfold rpF
      cases hf2 : fig n t (p + 3) with
      | none =>
        simp only [show p + 2 + 1 = p + 3 from rfl, hf2, obi_s, su_hit, n3, if_false, bj_sl]
        exact ⟨_, _, rfl, (hfr.s7 _).s8 _, by rw [su_hit]⟩
      | some u =>
        have hu := (fig_lt hf2).1
        simp only [show p + 2 + 1 = p + 3 from rfl, hf2, show (0 : Int32) = nI 0 from rfl, inN (show u < 2 ^ 31 by omega) (show 0 < 2 ^ 31 by decide) (show 9 < 2 ^ 31 by decide), su_su]
        rw [if_pos ⟨by omega, by omega⟩, if_pos (show u ≤ 9 by omega), obi_s]
        simp only [s78, hf8, if_true]
        obtain ⟨gi, ui⟩ := m_pi hj ei17
        simp only [gi, ui, grd_t, bj_sl]
        exact ⟨_, rfl, hq0.upd ei17 _ _⟩
  by_cases c4 : t p = 107
  · simp only [c4, Nat.reduceEqDiff, if_false, if_true, bnd_eq, show ¬ (14 : Int32) = -1 by decide, show ¬ (15 : Int32) ≤ 14 by decide]
    rw [m_fig1 h1 (by omega) h17 h18 0 2]
    unfold rpF
    cases hf : fig n t (p + 1) with
    | none =>
      simp only [obi_s, g14, u14, grd_t, bj_sl]
      exact ⟨_, _, rfl, ((hfr.s7 _).s8 _).s33 (by decide) _, by simp [su_app]⟩
    | some v =>
      have hv := (fig_lt hf).1
      simp only [show (0 : Int32) = nI 0 from rfl, show (2 : Int32) = nI 2 from rfl, inN (show v < 2 ^ 31 by omega) (show 0 < 2 ^ 31 by decide) (show 2 < 2 ^ 31 by decide), su_su]
      by_cases c3 : v ≤ 2
      · rw [if_pos ⟨by omega, c3⟩, if_pos c3]
        simp only [obi_s, g14, u14, grd_t, bj_sl]
        exact ⟨_, rfl, hq0.upd (by decide) _ _⟩
      · rw [if_neg (fun q => c3 q.2), if_neg c3]
        simp only [obi_s, g14, u14, grd_t, bj_sl]
        exact ⟨_, _, rfl, ((hfr.s7 _).s8 _).s33 (by decide) _, by simp [su_app]⟩
  by_cases c6 : t p = 116
  · simp only [c6, Nat.reduceEqDiff, if_false, if_true, bnd_eq, show ¬ (16 : Int32) = -1 by decide, show (15 : Int32) ≤ 16 by decide]
    rw [show (2 : Int32) = nI 2 from rfl, m_fig h1 (by omega) h17 h18 (Or.inr rfl) 1 99]
    unfold rpN fgs
    cases hf : fig n t (p + 1) with
    | none =>
      simp only [obi_s, g16, u16, grd_t, bj_sl]
      exact ⟨_, _, rfl, ((hfr.s7 _).s8 _).s33 (by decide) _, by simp [su_app]⟩
    | some v =>
      have hv := (fig_lt hf).1
      simp only [show ¬ (2 : Nat) = 1 by decide, if_false]
      cases hf2 : fig n t (p + 1 + 1) with
      | none =>
        simp only [show (1 : Int32) = nI 1 from rfl, show (99 : Int32) = nI 99 from rfl, inN (show v < 2 ^ 31 by omega) (show 1 < 2 ^ 31 by decide) (show 99 < 2 ^ 31 by decide), su_su]
        by_cases c7 : 1 ≤ v
        · rw [if_pos ⟨c7, by omega⟩, if_pos c7]
          simp only [obi_s, g16, u16, grd_t, bj_sl]
          exact ⟨_, rfl, hq0.upd (by decide) _ _⟩
        · rw [if_neg (fun q => c7 q.1), if_neg c7]
          simp only [obi_s, g16, u16, grd_t, bj_sl]
          exact ⟨_, _, rfl, ((hfr.s7 _).s8 _).s33 (by decide) _, by simp [su_app]⟩
      | some u =>
        have hu := (fig_lt hf2).1
        simp only [show (1 : Int32) = nI 1 from rfl, show (99 : Int32) = nI 99 from rfl, inN (show 10 * v + u < 2 ^ 31 by omega) (show 1 < 2 ^ 31 by decide) (show 99 < 2 ^ 31 by decide), su_su]
        by_cases c7 : 1 ≤ 10 * v + u
        · rw [if_pos ⟨c7, by omega⟩, if_pos c7]
          simp only [obi_s, g16, u16, grd_t, bj_sl]
          exact ⟨_, rfl, hq0.upd (by decide) _ _⟩
        · rw [if_neg (fun q => c7 q.1), if_neg c7]
          simp only [obi_s, g16, u16, grd_t, bj_sl]
          exact ⟨_, _, rfl, ((hfr.s7 _).s8 _).s33 (by decide) _, by simp [su_app]⟩
  have cellsF : ∀ s : St, ¬ s (9, 0) 8 = -1 → fX9_cellsTold s = some (127, s) := by
    intro s hs
    unfold fX9_cellsTold
    rw [if_neg hs]
  have n1 : ¬ nI (p + 1) = -1 := nI_ne_m1 (by omega)
  have h2 := hm.s7 (nI (p + 2))
  have h28 : su σ (9, 0) 7 (nI (p + 2)) (9, 0) 8 = -1 := by rw [s78, hf8]
  have cl := m_cells h2 (show p + 2 < 900 by omega) (su_hit _ _ _ _) h28
  have f1 := m_fig1 h1 (show p + 1 < 900 by omega) h17 h18 0 9
  by_cases c5 : t p = 110
  · simp only [c5, Nat.reduceEqDiff, if_false, if_true, bnd_eq, bj_sr]
    rw [rpC_eq, f1]
    cases hf : fig n t (p + 1) with
    | none =>
      simp only [obi_s, cellsF, su_hit, n1, not_false_eq_true, if_false]
      exact ⟨_, _, rfl, (hfr.s7 _).s8 _, su_hit _ _ _ _⟩
    | some act =>
      have hact := (fig_lt hf).1
      simp only [show (0 : Int32) = nI 0 from rfl, show (9 : Int32) = nI 9 from rfl, inN (show act < 2 ^ 31 by omega) (show 0 < 2 ^ 31 by decide) (show 9 < 2 ^ 31 by decide), su_su]
      rw [if_pos ⟨by omega, by omega⟩]
      obtain ⟨gi, ui⟩ := m_pi hj (show act < 17 by omega)
      cases hr : rcl n t (p + 2) with
      | inl q =>
        rw [hr] at cl
        obtain ⟨v, z, cl⟩ := cl
        have nq : ¬ nI q = -1 := nI_ne_m1 (by
          have : rpC n t p false = .inl q := by rw [rpC_eq, hf, hr]; rfl
          have : rp n t p = .inl q := by
            unfold rp
            simp only [c, c5, if_true, Nat.reduceEqDiff, if_false, this]
          have := rp_fault this
          omega)
        simp only [obi_s, show p + 1 + 1 = p + 2 from rfl, cl, su_hit, nq, if_false, rcC]
        exact ⟨_, _, rfl, ((hfr.s7 _).s7 _).s8 _, su_hit _ _ _ _⟩
      | inr w =>
        obtain ⟨p', x, y⟩ := w
        rw [hr] at cl
        simp only [obi_s, show p + 1 + 1 = p + 2 from rfl, cl, su_su, s78, hf8, if_true, gi, ui, grd_t, rcC]
        have e1 : su σ (9, 0) 7 (nI p') (33, 0) (17 * j + act) = it act := by
          rw [su_app, if_neg (by simp)]
          exact hit act (by omega)
        rw [e1]
        have e2 : ∀ v, su (su σ (9, 0) 7 (nI p')) (33, 0) (17 * j + act) v (9, 0) 8 = -1 := fun v => by simp [su_app, hf8]
        simp only [e2, if_true]
        exact ⟨_, rfl, hq0.upd (show act < 17 by omega) _ _⟩
  by_cases c7 : t p = 121
  · simp only [c7, Nat.reduceEqDiff, if_false, if_true, bnd_eq, bj_sr]
    rw [rpC_eq, f1]
    cases hf : fig n t (p + 1) with
    | none =>
      simp only [obi_s, cellsF, su_hit, n1, not_false_eq_true, if_false]
      exact ⟨_, _, rfl, (hfr.s7 _).s8 _, su_hit _ _ _ _⟩
    | some act =>
      have hact := (fig_lt hf).1
      simp only [show (0 : Int32) = nI 0 from rfl, show (9 : Int32) = nI 9 from rfl, inN (show act < 2 ^ 31 by omega) (show 0 < 2 ^ 31 by decide) (show 9 < 2 ^ 31 by decide), su_su]
      rw [if_pos ⟨by omega, by omega⟩]
      obtain ⟨gi, ui⟩ := m_pi hj (show act < 17 by omega)
      cases hr : rcl n t (p + 2) with
      | inl q =>
        rw [hr] at cl
        obtain ⟨v, z, cl⟩ := cl
        have nq : ¬ nI q = -1 := nI_ne_m1 (by
          have : rpC n t p true = .inl q := by rw [rpC_eq, hf, hr]; rfl
          have : rp n t p = .inl q := by
            unfold rp
            simp only [c, c7, if_true, Nat.reduceEqDiff, if_false, this]
          have := rp_fault this
          omega)
        simp only [obi_s, show p + 1 + 1 = p + 2 from rfl, cl, su_hit, nq, if_false, rcC]
        exact ⟨_, _, rfl, ((hfr.s7 _).s7 _).s8 _, su_hit _ _ _ _⟩
      | inr w =>
        obtain ⟨p', x, y⟩ := w
        rw [hr] at cl
        simp only [obi_s, show p + 1 + 1 = p + 2 from rfl, cl, su_su, s78, hf8, if_true, gi, ui, grd_t, rcC]
        have e1 : su σ (9, 0) 7 (nI p') (33, 0) (17 * j + act) = it act := by
          rw [su_app, if_neg (by simp)]
          exact hit act (by omega)
        rw [e1]
        have e2 : ∀ v, su (su σ (9, 0) 7 (nI p')) (33, 0) (17 * j + act) v (9, 0) 8 = -1 := fun v => by simp [su_app, hf8]
        simp only [e2, if_true]
        exact ⟨_, rfl, hq0.upd (show act < 17 by omega) _ _⟩
  simp only [c1, c2, c3, c4, c5, c6, c7, if_false, bnd_eq, if_true, bj_sl]
  exact ⟨_, _, rfl, (hfr.s7 _).s8 _, su_hit _ _ _ _⟩
