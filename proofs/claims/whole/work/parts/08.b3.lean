theorem lp_for {α β : Type} {body : α → Option (α ⊕ β)} {Q : β → Prop} (P : Nat → α → Prop) (N : Nat) (hs : ∀ i a, i < N → P i a → (∃ a', body a = some (.inl a') ∧ P (i + 1) a') ∨ ∃ b, body a = some (.inr b) ∧ Q b)
    (he : ∀ a, P N a → ∃ b, body a = some (.inr b) ∧ Q b) : ∀ (n i : Nat) (a : α), i ≤ N → N - i < n → P i a → ∃ b, lp body n a = some b ∧ Q b
  | 0, i, a, _, h, _ => by omega
  | n + 1, i, a, hi, hn, hP => by
    unfold lp
    by_cases hlt : i < N
    · rcases hs i a hlt hP with ⟨a', h1, h2⟩ | ⟨b, h1, h2⟩
      · rw [h1]
        exact lp_for P N hs he n (i + 1) a' hlt (by omega) h2
      · rw [h1]
        exact ⟨b, rfl, h2⟩
    · have : i = N := by omega
      subst this
      obtain ⟨b, h1, h2⟩ := he a hP
      rw [h1]
      exact ⟨b, rfl, h2⟩
theorem lp_fx {α β : Type} {body : α → Option (α ⊕ β)} {X : β} (P : Nat → α → Prop) (N : Nat) (hs : ∀ i a, i < N → P i a → (∃ a', body a = some (.inl a') ∧ P (i + 1) a') ∨ ∃ b, body a = some (.inr b) ∧ b = X)
    (he : ∀ a, P N a → ∃ b, body a = some (.inr b) ∧ b = X) {n : Nat} {a : α} (hn : N < n) (h0 : P 0 a) : lp body n a = some X := by
  obtain ⟨b, h1, h2⟩ := lp_for (Q := fun b => b = X) P N hs he n 0 a (Nat.zero_le _) (by omega) h0
  rw [h1, h2]
theorem FU_lt {n : Nat} (h : n < 100000) : n < FU := h
theorem bnd_eq {α β : Type} (a : α) (k : α → β) : bnd a k = k a := rfl
theorem lpF_for {α β : Type} {body : α → Option (α ⊕ β)} {Q : β → Prop} (P : Nat → α → Prop) (N : Nat) (hs : ∀ i a, i < N → P i a → (∃ a', body a = some (.inl a') ∧ P (i + 1) a') ∨ ∃ b, body a = some (.inr b) ∧ Q b)
    (he : ∀ a, P N a → ∃ b, body a = some (.inr b) ∧ Q b) {a : α} (hn : N < 100000) (h0 : P 0 a) : ∃ b, lpF body a = some b ∧ Q b := lp_for P N hs he FU 0 a (Nat.zero_le _) (Nat.lt_of_le_of_lt (Nat.sub_le _ _) (FU_lt hn)) h0
theorem lpF_fx {α β : Type} {body : α → Option (α ⊕ β)} {X : β} (P : Nat → α → Prop) (N : Nat) (hs : ∀ i a, i < N → P i a → (∃ a', body a = some (.inl a') ∧ P (i + 1) a') ∨ ∃ b, body a = some (.inr b) ∧ b = X)
    (he : ∀ a, P N a → ∃ b, body a = some (.inr b) ∧ b = X) {a : α} (hn : N < 100000) (h0 : P 0 a) : lpF body a = some X := lp_fx P N hs he (FU_lt hn) h0
theorem sr_sr (σ : St) (r : Rf) (f g : Nat → Int32) : sr (sr σ r f) r g = sr σ r g := by
  funext r' k
  unfold sr
  by_cases h : r' = r <;> simp [h]
theorem sr_same (σ : St) (r : Rf) : sr σ r (σ r) = σ := by
  funext r'
  unfold sr
  by_cases h : r' = r
  · rw [if_pos h, h]
  · rw [if_neg h]
theorem su_sr (σ : St) (r : Rf) (f : Nat → Int32) (i : Nat) (v : Int32) : su (sr σ r f) r i v = sr σ r (upd f i v) := by
  unfold su
  rw [sr_self, sr_sr]
theorem upd_app (f : Nat → Int32) (i k : Nat) (v : Int32) : upd f i v k = if k = i then v else f k := rfl
theorem wa_lt {r : Rf} (h : isWA r = true) : alen r.1 < 5000 := by
  simp only [isWA, isIA, Bool.and_eq_true, decide_eq_true_eq] at h
  have : ∀ f, f < 56 → alen f < 5000 := by decide
  exact this _ h.2
set_option maxHeartbeats 1000000 in
theorem fill_ok {σ : St} {r : Rf} (v : Int32) (hr : isWA r = true) : fJ7_fill_53178 σ r v = some (sr σ r (fun k => if k < alen r.1 then v else σ r k)) := by
  have hlt := wa_lt hr
  unfold fJ7_fill_53178
  rw [hr, grd_t]
  rw [bnd_eq]
  refine lpF_fx (fun i a => a = (nI i, sr σ r (fun k => if k < i then v else σ r k))) (alen r.1) ?_ ?_ (by omega) ?_
  · intro i a hi ha
    subst ha
    refine Or.inl ⟨(nI (i + 1), sr σ r (fun k => if k < i + 1 then v else σ r k)), ?_, rfl⟩
    have t1 : ¬ Int32.ofNat (alen r.1) ≤ nI i := nI_ge hi (by omega)
    have t2 : inb (nI i) (alen r.1) = true := by rw [inb_nI (by omega)]; simpa using hi
    simp only [t1, if_false, Bool.true_and, t2, grd_t, bnd, tn_nI (show i < 2 ^ 31 by omega), su_sr, nI_1]
    congr 4
    funext k
    rw [upd_app]
    by_cases hk : k = i
    · simp [hk]
    · by_cases h2 : k < i
      · simp [hk, h2, Nat.lt_succ_of_lt h2]
      · have : ¬ k < i + 1 := by omega
        simp [hk, h2, this]
  · intro a ha
    subst ha
    refine ⟨_, ?_, rfl⟩
    have t1 : Int32.ofNat (alen r.1) ≤ nI (alen r.1) := nI_le (Nat.le_refl _) (by omega)
    simp only [t1, if_true]
  · simp only [nI_0, Nat.not_lt_zero, if_false, Prod.mk.injEq, true_and]
    exact (sr_same σ r).symm
theorem ix60 (s i : Nat) : (60 : Int32) * nI s + nI i = nI (60 * s + i) := by
  rw [show (60 : Int32) = nI 60 from rfl, pk_mul, nI_add]
theorem nbo0 : nbo 0 = 0 := by decide
theorem nbo1 : nbo 1 = 1 := by decide
theorem op_law {σ : St} (hI : Iv σ) (a1 : Int32) : ∃ v, fX8_law σ a1 = some v ∧ fX9_law σ a1 = some v := by
  by_cases c1 : inb a1 17 = true
  · obtain ⟨k, hk, rfl⟩ := inb_ex (by decide) c1
    refine ⟨σ (27, 0) k, ?_, ?_⟩
    · simp [fX8_law, x_isItem, c1, grd_t, tn_nI (show k < 2 ^ 31 by omega)]
    · simp [fX9_law, rM (nI k) 17 16 (by decide), c1, grd_t, tn_nI (show k < 2 ^ 31 by omega), hI.2.2.1 k hk]
  · refine ⟨-2, ?_, ?_⟩
    · simp [fX8_law, x_isItem, c1]
    · simp [fX9_law, rM a1 17 16 (by decide), c1]
/-- what a refusal that is a finding does -/
theorem Iv_find {σ : St} (hI : Iv σ) (x : Int32) : Iv (su (su σ (8, 0) 15 x) (9, 0) 44 x) := by
  obtain ⟨hb, hc, hl, hw, hs, hm⟩ := hI
  have hmod : modi [1815, 1944] σ (su (su σ (8, 0) 15 x) (9, 0) 44 x) := modi.su (modi.su modi.rf (by decide)) (by decide)
  refine ⟨?_, dep_Ic.mv hmod (by decide) hc, dep_Il.mv hmod (by decide) hl, dep_Iw.mv hmod (by decide) hw, dep_Is.mv hmod (by decide) hs, dep_Im.mv hmod (by decide) hm⟩
  obtain ⟨nm, nc, a, b, q, h1, h2, h3, h4, h5, h6, e1, e2, e3, e4, e5, e6, e7, e8, e9, e10, e11⟩ := hb
  refine ⟨nm, nc, a, b, q, h1, h2, h3, h4, h5, h6, ?_⟩
  simp [su_app, e1, e2, e3, e4, e5, e6, e7, e8, e9, e10]
theorem nI2 {l : Nat} (h : l < 2) : l = 0 ∨ l = 1 := by omega
set_option maxHeartbeats 1000000 in
theorem op_lose {σ : St} (hI : Iv σ) (a1 : Int32) : ∃ v σ1 σ2, fX8_lose σ a1 = some (v, σ1) ∧ fX9_lose σ1 a1 = some (v, σ2) ∧ Iv σ2 := by
  obtain ⟨hb, hc, hl, hw, hs, hm⟩ := id hI
  by_cases c1 : inb a1 4 = true
  · obtain ⟨s, hs4, rfl⟩ := inb_ex (by decide) c1
    obtain ⟨l, t, n, q1, q2, q3, e1, e2, e3, e4, e5, e6, e7⟩ := hs s hs4
    have ts := tn_nI (show s < 2 ^ 31 by omega)
    rcases nI2 q1 with rfl | rfl
    · have g1 : fX8_lose σ (nI s) = some (nI n, su σ (6, s) 1 1) := by
        simp [fX8_lose, x_isSheet, c1, grd_t, ts, e1, bnd, su_app, e5, nI_0]
      have g2 : fX9_lose (su σ (6, s) 1 1) (nI s) = some (nI n, su (su σ (6, s) 1 1) (51, 0) s 0) := by
        have : ¬ (nI 1 : Int32) = 0 := by decide
        simp [fX9_lose, m_isSheet, c1, grd_t, ts, e2, bnd, su_app, e6, nbo0, this]
      have hmod : modi [1601, 51] σ (su (su σ (6, s) 1 1) (51, 0) s 0) := modi.su (modi.su modi.rf (show (1601 : Nat) ∈ _ by decide)) (show (51 : Nat) ∈ _ by decide)
      refine ⟨_, _, _, g1, g2, dep_Ib.mv hmod (by decide) hb, dep_Ic.mv hmod (by decide) hc, dep_Il.mv hmod (by decide) hl, dep_Iw.mv hmod (by decide) hw, ?_, dep_Im.mv hmod (by decide) hm⟩
      intro s' hs'
      obtain ⟨l', t', n', p1, p2, p3, z1, z2, z3, z4, z5, z6, z7⟩ := hs s' hs'
      by_cases hss : s' = s
      · subst hss
        refine ⟨1, t', n', by decide, p2, p3, ?_⟩
        simp [su_app, z3, z4, z5, z6, nI_0]
        exact ⟨rfl, z7⟩
      · refine ⟨l', t', n', p1, p2, p3, ?_⟩
        simp [su_app, hss, z1, z2, z3, z4, z5, z6]
        exact z7
    · refine ⟨-10 - 1, su σ (8, 0) 15 1, su (su σ (8, 0) 15 1) (9, 0) 44 1, ?_, ?_, Iv_find hI 1⟩
      · have : ¬ (nI 1 : Int32) = 0 := by decide
        simp [fX8_lose, x_isSheet, c1, grd_t, ts, e1, bnd, fX8_refuse, this]
      · simp [fX9_lose, m_isSheet, c1, grd_t, ts, e2, bnd, fX9_meets, su_app, nI_0]
  · refine ⟨-2, σ, σ, ?_, ?_, hI⟩
    · simp [fX8_lose, x_isSheet, c1]
    · simp [fX9_lose, m_isSheet, c1]
/-- the finding of an item of a sheet, on both sides -/
theorem find_ok {σ : St} (hs : Is σ) {s : Nat} (hs4 : s < 4) (a2 a3 : Int32) : fX9_lacks σ (nI s) a2 a3 = some (fX8_findingOf σ s a2 a3) ∧ (fX8_findingOf σ s a2 a3 = 0 ∨ 0 < fX8_findingOf σ s a2 a3) ∧ (fX8_findingOf σ s a2 a3 = 0 → ∃ n i : Nat, n ≤ 60 ∧ i < n ∧ a3 = nI i ∧ σ (6, s) 3 = nI n) := by
  obtain ⟨l, t, n, q1, q2, q3, e1, e2, e3, e4, e5, e6, e7⟩ := hs s hs4
  have ts := tn_nI (show s < 2 ^ 31 by omega)
  have c1 : inb (nI s) 4 = true := by rw [inb_nI (by omega)]; simpa using hs4
  have hh : fX6_has σ s a3 = inb a3 n := by
    unfold fX6_has
    rw [e5]
    exact rX a3 n (nI n) (nI_toInt (by omega))
  have hi : fX9_in a3 0 (nI n - 1) = inb a3 n := by
    refine rM a3 n _ ?_
    rw [show (1 : Int32) = nI 1 from rfl, pk_sub_toInt (by omega) (by decide)]
    omega
  have n1 : ¬ (nI 1 : Int32) = 0 := by decide
  rcases nI2 q1 with rfl | rfl
  · by_cases ht : nI t = a2
    · by_cases hb : inb a3 n = true
      · have e : fX8_findingOf σ s a2 a3 = 0 := by simp [fX8_findingOf, e1, nI_0, e3, ht, hh, hb]
        rw [e]
        obtain ⟨i, hi', rfl⟩ := inb_ex (by omega) hb
        exact ⟨by simp [fX9_lacks, c1, grd_t, ts, e2, n1, e4, ht, e6, hi, hb], Or.inl rfl, fun _ => ⟨n, i, q3, hi', rfl, e5⟩⟩
      · have e : fX8_findingOf σ s a2 a3 = 2 := by simp [fX8_findingOf, e1, nI_0, e3, ht, hh, hb]
        rw [e]
        exact ⟨by simp [fX9_lacks, c1, grd_t, ts, e2, n1, e4, ht, e6, hi, hb], Or.inr (by decide), fun h => absurd h (by decide)⟩
    · have e : fX8_findingOf σ s a2 a3 = 3 := by simp [fX8_findingOf, e1, nI_0, e3, ht]
      rw [e]
      exact ⟨by simp [fX9_lacks, c1, grd_t, ts, e2, n1, e4, ht], Or.inr (by decide), fun h => absurd h (by decide)⟩
  · have e : fX8_findingOf σ s a2 a3 = 1 := by simp [fX8_findingOf, e1, n1]
    rw [e]
    exact ⟨by simp [fX9_lacks, c1, grd_t, ts, e2, nI_0], Or.inr (by decide), fun h => absurd h (by decide)⟩
theorem not_le_pos {x : Int32} (h : 0 < x) : ¬ x ≤ 0 := by
  rw [i32_lt] at h
  rw [i32_le]
  omega
theorem not_z_pos {x : Int32} (h : 0 < x) : ¬ x = 0 := by
  intro e
  subst e
  exact absurd h (by decide)
theorem dep_find (s : Nat) (a2 a3 : Int32) {σ σ' : St} (h : ∀ k, σ' (6, s) k = σ (6, s) k) : fX8_findingOf σ' s a2 a3 = fX8_findingOf σ s a2 a3 := by
  unfold fX8_findingOf fX6_has
  rw [h 1, h 2, h 3]
set_option maxHeartbeats 1000000 in
theorem op_get {σ : St} (hI : Iv σ) (a1 a2 a3 : Int32) : ∃ v σ1 σ2, fX8_get σ a1 a2 a3 = some (v, σ1) ∧ fX9_get σ1 a1 a2 a3 = some (v, σ2) ∧ Iv σ2 := by
  by_cases c1 : inb a1 4 = true
  · by_cases c2 : inb a2 3 = true
    · obtain ⟨s, hs4, rfl⟩ := inb_ex (by decide) c1
      have ts := tn_nI (show s < 2 ^ 31 by omega)
      obtain ⟨f1, f2, f3⟩ := find_ok hI.2.2.2.2.1 hs4 a2 a3
      rcases f2 with f2 | f2
      · obtain ⟨n, i, hn, hi, rfl, hsz⟩ := f3 f2
        obtain ⟨l, t, n', q1, q2, q3, e1, e2, e3, e4, e5, e6, e7⟩ := hI.2.2.2.2.1 s hs4
        have c3 : inb (nI i) 60 = true := by rw [inb_nI (by omega)]; simp; omega
        have c4 : inb (nI (60 * s + i)) 240 = true := by rw [inb_nI (by omega)]; simp; omega
        refine ⟨σ (20, s) i, σ, σ, ?_, ?_, hI⟩
        · simp [fX8_get, x_isSheet, c1, x_isType, c2, grd_t, ts, bnd, f2, c3, tn_nI (show i < 2 ^ 31 by omega), bj_sl]
        · rw [f2] at f1
          simp [fX9_get, m_isSheet, c1, rM a2 3 2 (by decide), c2, f1, obi_s, ix60, c4, grd_t, tn_nI (show 60 * s + i < 2 ^ 31 by omega), bj_sl, e7 i (by omega)]
      · refine ⟨-2147483648, su σ (8, 0) 15 (fX8_findingOf σ s a2 a3), su (su σ (8, 0) 15 (fX8_findingOf σ s a2 a3)) (9, 0) 44 (fX8_findingOf σ s a2 a3), ?_, ?_, Iv_find hI _⟩
        · simp [fX8_get, x_isSheet, c1, x_isType, c2, grd_t, ts, bnd, not_z_pos f2, bj_sl]
        · have g : fX9_lacks (su σ (8, 0) 15 (fX8_findingOf σ s a2 a3)) (nI s) a2 a3 = some (fX8_findingOf σ s a2 a3) := by
            rw [(find_ok (dep_Is.mv (L := [1815]) (modi.su modi.rf (by decide)) (by decide) hI.2.2.2.2.1) hs4 a2 a3).1, dep_find]
            intro k
            simp [su_app]
          simp [fX9_get, m_isSheet, c1, rM a2 3 2 (by decide), c2, g, obi_s, not_le_pos f2, bnd, bj_sl]
    · refine ⟨-2147483648, σ, σ, ?_, ?_, hI⟩
      · simp [fX8_get, x_isSheet, c1, x_isType, c2, bj_sr]
      · simp [fX9_get, m_isSheet, c1, rM a2 3 2 (by decide), c2, bj_sr]
  · refine ⟨-2147483648, σ, σ, ?_, ?_, hI⟩
    · simp [fX8_get, x_isSheet, c1, bj_sr]
    · simp [fX9_get, m_isSheet, c1, bj_sr]
