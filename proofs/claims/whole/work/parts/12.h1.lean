/-! ===== rows of items ===== -/
def itOk (it : Nat → Int32) : Prop := ∀ k, k < 17 → ∃ v : Nat, v < 128 ∧ it k = nI v
def btb (b : Bool) (v x y : Nat) : Bool := decide (tn (bitop b (nI v) (msk x y)) < 128) && decide (bitop b (nI v) (msk x y) = nI (tn (bitop b (nI v) (msk x y))))
theorem bt_t : ∀ v, v < 128 → ∀ y, y < 7 → ∀ x, x < 7 → (!(decide (x ≤ y)) || (btb true v x y && btb false v x y)) = true := by decide +kernel
theorem bt_ok {v x y : Nat} (hv : v < 128) (hy : y < 7) (hxy : x ≤ y) (b : Bool) : ∃ w : Nat, w < 128 ∧ bitop b (nI v) (msk x y) = nI w := by
  have h := bt_t v hv y hy x (by omega)
  simp only [hxy, decide_true, Bool.not_true, Bool.false_or, Bool.and_eq_true] at h
  have h' : btb b v x y = true := by cases b; exact h.2; exact h.1
  simp only [btb, Bool.and_eq_true, decide_eq_true_eq] at h'
  exact ⟨_, h'.1, h'.2⟩
theorem itF_ok : ∀ (l : List Eff) (it : Nat → Int32), itOk it → (∀ e, e ∈ l → EOk e) → itOk (itF l it)
  | [], it, h, _ => h
  | e :: l, it, h, hl => by
    refine itF_ok l (effI e it) ?_ (fun e he => hl e (List.mem_cons_of_mem _ he))
    have h0 := hl e (List.mem_cons_self ..)
    intro k hk
    match e, h0 with
    | .inl (act, x, y, b), h0 =>
      obtain ⟨q1, q2, q3⟩ := h0
      simp only [effI, upd_app]
      by_cases c : k = act
      · rw [if_pos c]
        obtain ⟨v, hv, e⟩ := h act (by omega)
        rw [e]
        exact bt_ok hv q3 q2 b
      · rw [if_neg c]
        exact h k hk
    | .inr (item, v), h0 =>
      obtain ⟨q1, q2, -⟩ := h0
      simp only [effI, upd_app]
      by_cases c : k = item
      · rw [if_pos c]
        exact ⟨v, by omega, rfl⟩
      · rw [if_neg c]
        exact h k hk
theorem wpf_ok : itOk wpf := by
  have h : ∀ k, k < 17 → (decide (tn (wpf k) < 128) && decide (wpf k = nI (tn (wpf k)))) = true := by decide +kernel
  intro k hk
  have := h k hk
  simp only [Bool.and_eq_true, decide_eq_true_eq] at this
  exact ⟨_, this.1, this.2⟩
theorem Id.it {σ : St} (h : Id σ) {j k : Nat} (hj : j < 11) (hk : k < 17) : ∃ v : Nat, v < 128 ∧ σ (11, j) k = nI v := by
  obtain ⟨n, t, hx, hm, hr, hd⟩ := h.2 j hj
  rw [hr.2.1 k hk]
  exact itF_ok _ _ wpf_ok (saysL_ok n t) k hk
def bit1 (a : Int32) (k : Nat) : Prop := (a >>> (nI k &&& 31)) &&& 1 = 1
def bitD (a : Int32) (k : Nat) : Decidable (bit1 a k) := inferInstanceAs (Decidable ((a >>> (nI k &&& 31)) &&& 1 = 1))
def mixf (a : Int32) (f g : Nat → Int32) (k : Nat) : Int32 := if (a >>> (nI k &&& 31)) &&& 1 = 1 then g k else f k
theorem x_mix {σ : St} {r1 r2 : Rf} (h1 : isIA r1 = true) (h2 : isIA r2 = true) (l1 : alen r1.1 = 17) (l2 : alen r2.1 = 17) (n1 : ¬ r1 = (28, 0)) (n2 : ¬ r2 = (28, 0)) (a : Int32) : fX8_mix σ r1 r2 a = some (srg σ (28, 0) 0 17 (mixf a (σ r1) (σ r2))) := by
  unfold fX8_mix
  refine lpF_fx (fun i s => s = (nI i, srg σ (28, 0) 0 i (mixf a (σ r1) (σ r2)))) 17 ?_ ?_ (by decide) (by rw [srg_0]; rfl)
  · intro i s hi hs
    subst hs
    refine Or.inl ⟨_, ?_, rfl⟩
    obtain ⟨i1, i2⟩ := in17 hi
    have c17 : ¬ (17 : Int32) ≤ nI i := by rw [show (17 : Int32) = nI 17 from rfl, leI (by decide) (by omega)]; omega
    have q1 : srg σ (28, 0) 0 i (mixf a (σ r1) (σ r2)) r1 i = σ r1 i := by rw [srg_app, if_neg (fun e => n1 e.1)]
    have q2 : srg σ (28, 0) 0 i (mixf a (σ r1) (σ r2)) r2 i = σ r2 i := by rw [srg_app, if_neg (fun e => n2 e.1)]
    simp only [c17, if_false, h1, h2, l1, l2, i1, i2, Bool.and_self, grd_t, q1, q2, bnd_eq, nI_1]
    have sg := srg_su σ (28, 0) 0 i (mixf a (σ r1) (σ r2)) (v := mixf a (σ r1) (σ r2) i) rfl
    rw [Nat.zero_add] at sg
    rw [← sg]
    unfold mixf
    by_cases c : (a >>> (nI i &&& 31)) &&& 1 = 1
    · simp only [c, if_true, obi_s]
    · simp only [c, if_false, obi_s]
  · intro s hs
    subst hs
    exact ⟨_, by simp only [show (17 : Int32) ≤ nI 17 by decide, if_true], rfl⟩
theorem m_mix {τ : St} (h : Id τ) {i j : Nat} (hi : i < 11) (hj : j < 11) (a : Int32) : ∃ τ', fX9_mix τ (nI i) (nI j) a = some τ' ∧ Id τ' ∧ modi (35 :: RR) τ τ' ∧ ∀ k, k < 17 → τ' (35, 0) k = mixf a (τ (11, i)) (τ (11, j)) k := by
  unfold fX9_mix
  refine (lpF_for (Q := fun τ' => Id τ' ∧ modi (35 :: RR) τ τ' ∧ ∀ k, k < 17 → τ' (35, 0) k = mixf a (τ (11, i)) (τ (11, j)) k) (fun q s => s.1 = nI q ∧ Id s.2 ∧ modi (35 :: RR) τ s.2 ∧ ∀ k, k < q → s.2 (35, 0) k = mixf a (τ (11, i)) (τ (11, j)) k) 17 ?_ ?_ (by decide) ⟨rfl, h, modi.rf, fun k hk => by omega⟩)
  · rintro q ⟨x, s⟩ hq ⟨rfl, h1, h2, h3⟩
    replace h1 : Id s := h1
    replace h2 : modi (35 :: RR) τ s := h2
    obtain ⟨q1, q2⟩ := in17 hq
    have c17 : ¬ (17 : Int32) ≤ nI q := by rw [show (17 : Int32) = nI 17 from rfl, leI (by decide) (by omega)]; omega
    have key : ∀ n, n < 11 → mixf a (τ (11, i)) (τ (11, j)) q = τ (11, n) q → (if (a >>> (nI q &&& 31)) &&& 1 = 1 then nI j else nI i) = nI n → (∃ a', (if (17 : Int32) ≤ nI q then some (Sum.inr s) else bnd (if (a >>> (nI q &&& 31)) &&& 1 = 1 then nI j else nI i) (fun x2 => obi (fX9_itemOf s x2 (nI q)) (fun (x3, σ2) => grd (inb (nI q) 17) (bnd (su σ2 (35, 0) (tn (nI q)) x3) (fun σ3 => bnd (nI q + 1) (fun x4 => (some (Sum.inl (x4, σ3)) : Option ((Int32 × St) ⊕ St)))))))) = some (.inl a') ∧ a'.1 = nI (q + 1) ∧ Id a'.2 ∧ modi (35 :: RR) τ a'.2 ∧ ∀ k, k < q + 1 → a'.2 (35, 0) k = mixf a (τ (11, i)) (τ (11, j)) k) := by
      intro n hn hv he
      obtain ⟨s2, e2, g1, g2⟩ := m_itemOf hn hq h1
      have w : s (11, n) q = τ (11, n) q := h2 _ _ (by rw [cod_a (by decide)]; decide)
      refine ⟨(nI (q + 1), su s2 (35, 0) q (τ (11, n) q)), by simp only [c17, if_false, he, bnd_eq, e2, obi_s, q1, q2, grd_t, nI_1, w], rfl, ?_, (h2.tr g2 (by decide)).su (by rw [cod_a (by decide)]; decide), ?_⟩
      · exact dep_Id.mv (L := [35]) ((modi.rf).su (by rw [cod_a (by decide)]; decide)) (by decide) g1
      · intro k hk
        show su s2 (35, 0) q (τ (11, n) q) (35, 0) k = _
        rw [su_app]
        by_cases ck : k = q
        · rw [if_pos ⟨rfl, ck⟩, ck, hv]
        · rw [if_neg (fun w => ck w.2), g2.M (by simp)]
          exact h3 k (by omega)
    by_cases c : (a >>> (nI q &&& 31)) &&& 1 = 1
    · exact Or.inl (key j hj (by unfold mixf; rw [if_pos c]) (by rw [if_pos c]))
    · exact Or.inl (key i hi (by unfold mixf; rw [if_neg c]) (by rw [if_neg c]))
  · rintro ⟨x, s⟩ ⟨rfl, h1, h2, h3⟩
    exact ⟨s, by simp only [show (17 : Int32) ≤ nI 17 by decide, if_true], h1, h2, h3⟩
