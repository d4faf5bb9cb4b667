theorem itF_pt : ∀ (l : List Eff) (it : Nat → Int32), (∀ k, 10 ≤ k → k < 13 → ∃ v : Nat, v < 10 ∧ it k = nI v) → (∀ e, e ∈ l → EOk e) → ∀ k, 10 ≤ k → k < 13 → ∃ v : Nat, v < 10 ∧ itF l it k = nI v
  | [], it, h, _ => h
  | e :: l, it, h, hl => by
    refine itF_pt l (effI e it) ?_ (fun e he => hl e (List.mem_cons_of_mem _ he))
    have h0 := hl e (List.mem_cons_self ..)
    intro k hk1 hk2
    match e, h0 with
    | .inl (act, x, y, b), h0 =>
      obtain ⟨q1, q2, q3⟩ := h0
      simp only [effI, upd_app]
      rw [if_neg (by omega)]
      exact h k hk1 hk2
    | .inr (item, v), h0 =>
      obtain ⟨q1, q2, q3, -⟩ := h0
      simp only [effI, upd_app]
      by_cases c : k = item
      · rw [if_pos c]
        exact ⟨v, q3 (by omega), rfl⟩
      · rw [if_neg c]
        exact h k hk1 hk2
theorem Id.gd {σ : St} (h : Id σ) {j : Nat} (hj : j < 11) : gd (σ (11, j)) := by
  refine ⟨fun k hk => h.it hj hk, fun k k1 k2 => ?_⟩
  obtain ⟨n, t, hx, hm, hr, hd⟩ := h.2 j hj
  rw [hr.2.1 k (by omega)]
  refine itF_pt _ _ ?_ (saysL_ok n t) k k1 k2
  have hw : ∀ k, k < 13 → (!(decide (10 ≤ k)) || (decide (tn (wpf k) < 10) && decide (wpf k = nI (tn (wpf k))))) = true := by decide +kernel
  intro k k1 k2
  have := hw k k2
  simp only [k1, decide_true, Bool.not_true, Bool.false_or, Bool.and_eq_true, decide_eq_true_eq] at this
  exact ⟨_, this.1, this.2⟩
theorem x_part {σ : St} (hI : Id σ) {i j : Nat} (hi : i < 11) (hj : j < 11) : ∃ s, fX5_part σ (11, i) (11, j) = some s ∧ ((s (5, 0) 7 = 0 ∧ ∀ r, PR (PF σ i j) (TF σ i) 33 r → 7 ≤ r.length) ∨ ∃ ρ, PR (PF σ i j) (TF σ i) 33 ρ ∧ (∀ r, PR (PF σ i j) (TF σ i) 33 r → cdk 1 ρ ≤ cdk 1 r) ∧ ρ.length ≤ 6 ∧ s (5, 0) 7 = nI ρ.length ∧ rowIs s 19 ρ) := by
  rw [part_eq, bnd_eq]
  have m1 : modi [1507] σ (su σ (5, 0) 7 0) := (modi.rf (L := [1507])).su (by rw [cod_o (by decide)]; decide)
  have z7 : su σ (5, 0) 7 0 (5, 0) 7 = 0 := su_hit _ _ _ _
  generalize su σ (5, 0) 7 0 = σ1 at m1 z7
  have r11 : ∀ q, σ1 (11, q) = σ (11, q) := fun q => by funext k; exact m1 _ _ (by rw [cod_a (by decide)]; decide)
  obtain ⟨s, e1, X⟩ := x_start σ1
  have ms : modi SP σ1 s := modi.tr (modi.rf (L := SP)) (mX5_start e1) (by decide)
  have eP : PF σ1 i j = PF σ i j := by unfold PF; rw [r11, r11]
  have eT : TF σ1 i = TF σ i := by unfold TF; rw [r11]
  obtain ⟨res, e2, q⟩ := x_po hi hj (by rw [r11]; exact hI.gd hi) (by rw [r11]; exact hI.gd hj) ms X
  rw [eP, eT] at q
  rw [e1, obi_s, e2]
  rcases q with ⟨s', e, m, hr⟩ | ⟨s', n', qb, qp, h, x, e, X2, B2, hh, x40, hP, hl⟩
  · subst e
    exact ⟨s', by rw [bj_sl], Or.inl ⟨by rw [m (5, 0) 7 (by rw [cod_o (by decide)]; decide), z7], hr⟩⟩
  · subst e
    obtain ⟨s2, t1, t2, t3⟩ := x_trace (x := x) X2 B2 hh hl
    refine ⟨s2, ?_, Or.inr ⟨qp h ++ [x], ?_, fun r hr => ?_, ?_, t2, t3⟩⟩
    · rw [bj_sr]
      show obi (fX5_traceRow s' (nI (qb h)) (nI x)) _ = _
      rw [t1, obi_s]
    · obtain ⟨b1, b2, b3⟩ := B2.2.1 h hh
      rw [PR_app _ _ _ (by simp)]
      exact ⟨b2, by rw [b3]; exact ⟨x40, hP⟩⟩
    · rw [cdk_1]
      exact bfs_core B2 (by omega) hh hr
    · rw [List.length_append]
      show (qp h).length + 1 ≤ 6
      omega
theorem m_takes (τ : St) (b : Bool) : fX9_takes τ b = some (srg τ (35, 0) 0 17 (fun k => if b = true then τ (41, 0) k else τ (42, 0) k)) := by
  unfold fX9_takes
  refine lpF_fx (fun i s => s = (nI i, srg τ (35, 0) 0 i (fun k => if b = true then τ (41, 0) k else τ (42, 0) k))) 17 ?_ ?_ (by decide) (by rw [srg_0]; rfl)
  · intro i s hi hs
    subst hs
    refine Or.inl ⟨_, ?_, rfl⟩
    obtain ⟨i1, i2⟩ := in17 hi
    have c17 : ¬ (17 : Int32) ≤ nI i := by rw [show (17 : Int32) = nI 17 from rfl, leI (by decide) (by omega)]; omega
    have sg := srg_su τ (35, 0) 0 i (fun k => if b = true then τ (41, 0) k else τ (42, 0) k) (v := if b = true then τ (41, 0) i else τ (42, 0) i) rfl
    rw [Nat.zero_add] at sg
    rw [← sg]
    show (if (17 : Int32) ≤ nI i then _ else _) = _
    rw [if_neg c17, i1, grd_t, grd_t, i2, srg_ne _ _ _ _ _ (by decide), srg_ne _ _ _ _ _ (by decide)]
    cases b with
    | true => rw [if_pos rfl, if_pos rfl, obi_s, grd_t, bnd_eq, bnd_eq, nI_1]
    | false => rw [if_neg (by decide), if_neg (by decide), obi_s, grd_t, bnd_eq, bnd_eq, nI_1]
  · intro s hs
    subst hs
    exact ⟨_, by simp only [show (17 : Int32) ≤ nI 17 by decide, if_true], rfl⟩
/-- M's number of an end -/
def ecN (f : Nat → Int32) (b m : Nat) : Nat := 100000 * oW f b m + 10000 * (if m / 10 % 2 = 0 then oV f b m else 0) + 1000 * (if m / 10 % 2 = 0 then 0 else oV f b m) + oB f b m
def ec (f : Nat → Int32) (b m : Nat) : Int32 := if oW f b m = 0 then -1 else nI (ecN f b m)
theorem oW_lt (f : Nat → Int32) (b m : Nat) : oW f b m < 3 := by unfold oW; split <;> (try split) <;> omega
theorem m_end {τ : St} {f : Nat → Int32} (t : Bool) (hr : ∀ k, k < 17 → (if t = true then τ (41, 0) k else τ (42, 0) k) = f k) (hf : gd f) {b m : Nat} (hb : b < 63) (hm : m < 40) : ∃ τ', fX9_end τ (nI b) (nI m) t = some (ec f b m, τ') := by
  unfold fX9_end
  rw [m_takes, obi_s, bnd_eq]
  obtain ⟨τ', e1, e2, e3, e4, e5⟩ := m_out (τ := srg τ (35, 0) 0 17 (fun k => if t = true then τ (41, 0) k else τ (42, 0) k)) (f := f) (fun k hk => by rw [srg_app, if_pos ⟨rfl, by omega, by omega⟩, Nat.sub_zero]; exact hr k hk) hf hb hm
  rw [e1, obi_s]
  have w := oW_lt f b m
  refine ⟨τ', ?_⟩
  show (if nI (oW f b m) = 0 then _ else _) = _
  unfold ec ecN
  by_cases c : oW f b m = 0
  · rw [c, if_pos (show nI 0 = 0 from rfl), if_pos rfl]
  · rw [if_neg (nI_ne0 (by omega) (by omega)), if_neg c, e3, e4, e5, show (100000 : Int32) = nI 100000 from rfl, show (10000 : Int32) = nI 10000 from rfl, show (1000 : Int32) = nI 1000 from rfl, pk_mul, pk_mul, pk_mul, nI_add, nI_add, nI_add]
theorem oW_0 {f g : Nat → Int32} {b m : Nat} (h : oW f b m = 0) : oW g b m = 0 ∧ oQ f b m = oQ g b m ∧ (b < 63 → oB f b m = b) := by
  unfold oW at h ⊢
  by_cases c : gcan (b / 9) (b / 3 % 3) (b % 3) (m / 10 % 2) (m % 10) = true
  · rw [if_pos c] at h
    split at h <;> omega
  · rw [if_neg c]
    refine ⟨rfl, ?_, fun hb => ?_⟩
    · unfold oQ
      rw [if_neg c, if_neg c]
    · unfold oB oQ
      rw [if_neg c]
      show 9 * tn (nI (b / 9)) + 3 * tn (nI (b / 3 % 3)) + tn (nI (b % 3)) = b
      rw [tn_nI (by omega), tn_nI (by omega), tn_nI (by omega)]
      omega
theorem ec_eq {f g : Nat → Int32} (hf : gd f) (hg : gd g) {b m : Nat} (hb : b < 63) (hm : m < 40) : (ec f b m = ec g b m) ↔ pP f g b m = false := by
  have key : pP f g b m = false ↔ (oW f b m = oW g b m ∧ oV f b m = oV g b m ∧ oB f b m = oB g b m) := by
    unfold pP
    by_cases c : oW f b m = oW g b m ∧ oV f b m = oV g b m ∧ oB f b m = oB g b m
    · rw [decide_eq_true c]; exact ⟨fun _ => c, fun _ => rfl⟩
    · rw [decide_eq_false c]; exact ⟨fun h => (by cases h), fun h => absurd h c⟩
  rw [key]
  have w1 := oW_lt f b m
  have w2 := oW_lt g b m
  have b1 := oB_lt hf hb hm
  have b2 := oB_lt hg hb hm
  obtain ⟨v1, _, _, _, v1l, _, _, _, _, _, v1e⟩ := oQ_ok hf hb hm
  obtain ⟨v2, _, _, _, v2l, _, _, _, _, _, v2e⟩ := oQ_ok hg hb hm
  unfold ec
  by_cases c : oW f b m = 0
  · obtain ⟨g0, gq, -⟩ := oW_0 (g := g) c
    rw [if_pos c, if_pos g0]
    refine ⟨fun _ => ⟨by rw [c, g0], ?_, ?_⟩, fun _ => rfl⟩
    · unfold oV; rw [gq]
    · unfold oB; rw [gq]
  · have g0 : ¬ oW g b m = 0 := fun e => c (oW_0 (g := f) e).1
    rw [if_neg c, if_neg g0]
    have l1 : ecN f b m < 2 ^ 31 := by
      unfold ecN
      split <;> omega
    have l2 : ecN g b m < 2 ^ 31 := by
      unfold ecN
      split <;> omega
    rw [nI_eq l1 l2]
    unfold ecN
    by_cases d : m / 10 % 2 = 0
    · simp only [d, if_true]
      omega
    · simp only [d, if_false]
      omega
theorem ec_B {f : Nat → Int32} (hf : gd f) {b m : Nat} (hb : b < 63) (hm : m < 40) (h : ¬ oW f b m = 0) : irm (ec f b m) 100 = nI (oB f b m) ∧ ¬ ec f b m = -1 := by
  have w1 := oW_lt f b m
  have b1 := oB_lt hf hb hm
  obtain ⟨v1, _, _, _, v1l, _, _, _, _, _, v1e⟩ := oQ_ok hf hb hm
  have l1 : ecN f b m < 2 ^ 31 := by
    unfold ecN
    split <;> omega
  unfold ec
  rw [if_neg h]
  refine ⟨?_, enc_m1 l1⟩
  have : irm (nI (ecN f b m)) 100 = nI (ecN f b m % 100) := pk_rem (d := 100) l1 (by decide) (by decide)
  rw [this]
  congr 1
  unfold ecN
  omega
