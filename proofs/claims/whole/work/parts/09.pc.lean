theorem pl_len {n : Nat} {t : Nat → Nat} : ∀ (f p : Nat) (l : List Eff), pl n t f p = .inr l → l.length ≤ f
  | 0, p, l, h => by
    rw [pl] at h
    rw [← Sum.inr.inj h]
    exact Nat.zero_le _
  | f + 1, p, l, h => by
    rw [pl_S] at h
    cases ho : rp n t p with
    | inl q => rw [ho] at h; cases h
    | inr w =>
      obtain ⟨p', e'⟩ := w
      rw [ho] at h
      simp only at h
      by_cases c : p' < n
      · rw [if_pos c] at h
        by_cases c2 : t p' = 59
        · rw [if_pos c2] at h
          cases hr : pl n t f (p' + 1) with
          | inl q => rw [hr] at h; cases h
          | inr l' =>
            rw [hr] at h
            have h' : l = e' :: l' := (Sum.inr.inj h).symm
            have := pl_len f (p' + 1) l' hr
            rw [h']
            simp
            omega
        · rw [if_neg c2] at h; cases h
      · rw [if_neg c] at h
        have h' : l = [e'] := (Sum.inr.inj h).symm
        rw [h']
        simp
theorem saysL_len (n : Nat) (t : Nat → Nat) : (saysL n t).length ≤ 28 := by
  unfold saysL
  by_cases c : n = 0
  · rw [if_pos c]; simp
  · rw [if_neg c]
    cases h : pl n t 28 0 with
    | inl q => simp
    | inr l => exact pl_len _ _ _ h
theorem sdF_app : ∀ (l l' : List Eff) (i : Nat) (sd : Nat → Int32), sdF i (l ++ l') sd = sdF (i + l.length) l' (sdF i l sd)
  | [], l', i, sd => rfl
  | e :: l, l', i, sd => by
    show sdF (i + 1) (l ++ l') (effS e i sd) = sdF (i + (l.length + 1)) l' (sdF (i + 1) l (effS e i sd))
    rw [sdF_app l l', show i + 1 + l.length = i + (l.length + 1) by omega]
def pwn (a x y : Nat) : Int32 := (128 : Int32) * nI a + msk x y
def pwb (a x y c : Nat) : Bool := decide ((((irm (pwn a x y) 128) >>> (nI c &&& 31)) &&& 1) = 1)
theorem pw_1 : ∀ a, a < 10 → ∀ y, y < 7 → ∀ x, x < 7 → (!(decide (x ≤ y)) || (!(decide (pwn a x y = -1)) && decide (pwn a x y / 128 = nI a))) = true := by decide +kernel
theorem pw_2 : ∀ a, a < 10 → ∀ y, y < 7 → ∀ x, x < 7 → ∀ c, c < 7 → (!(decide (x ≤ y)) || (pwb a x y c == (decide (x ≤ c) && decide (c ≤ y)))) = true := by decide +kernel
theorem pw_bits (a : Nat) (ha : a < 10) (y : Nat) (hy : y < 7) (x : Nat) (hx : x < 7) (hxy : x ≤ y) (c : Nat) (hc : c < 7) : ¬ (128 : Int32) * nI a + msk x y = -1 ∧ ((128 : Int32) * nI a + msk x y) / 128 = nI a ∧ ((((irm ((128 : Int32) * nI a + msk x y) 128) >>> (nI c &&& 31)) &&& 1) = 1 ↔ x ≤ c ∧ c ≤ y) := by
  have h1 := pw_1 a ha y hy x hx
  have h2 := pw_2 a ha y hy x hx c hc
  simp only [hxy, decide_true, Bool.not_true, Bool.false_or, Bool.and_eq_true, Bool.not_eq_true', decide_eq_false_iff_not, decide_eq_true_eq, beq_iff_eq] at h1 h2
  refine ⟨h1.1, h1.2, ?_⟩
  have h3 : (pwb a x y c = true) = (x ≤ c ∧ c ≤ y) := by rw [h2]; simp
  unfold pwb at h3
  rw [decide_eq_true_eq] at h3
  exact h3 ▸ Iff.rfl
set_option maxHeartbeats 1000000 in
theorem m_whyL {σ : St} {j act c : Nat} {l : List Eff} (hj : j < 11) (ha : act < 10) (hc : c < 7) (hl : l.length ≤ 28) (hk : ∀ e, e ∈ l → EOk e) (hp : ∀ k, k < 28 → σ (34, 0) (28 * j + k) = pwF l k) : lpF (fun (q5 : Int32 × Int32) => match q5 with
        | (x1, x2) =>
        if (28 : Int32) ≤ x2 then
          some (.inr ((x1, σ)))
        else
          grd (inb (((28 : Int32) * nI j) + x2) 308) (
          bnd (σ (34, 0) (tn (((28 : Int32) * nI j) + x2))) (fun x3 =>
          obi (if x3 = (-1 : Int32) then
            some x1
          else
            if (x3 / (128 : Int32)) = nI act then
              if (((irm x3 (128 : Int32)) >>> (nI c &&& 31)) &&& (1 : Int32)) = (1 : Int32) then
                some x2
              else
                some x1
            else
              some x1) (fun x4 =>
          bnd (x2 + 1) (fun x5 =>
          some (.inl (x4, x5))))))) ((-1 : Int32), (0 : Int32)) = some (sdF 0 l m1f (act * 7 + c), σ) := by
  refine lpF_fx (fun i a => a = (sdF 0 (l.take i) m1f (act * 7 + c), nI i)) 28 ?_ ?_ (by decide) (by simp [sdF, m1f]; rfl)
  · intro i a hi h
    subst h
    refine Or.inl ⟨_, ?_, rfl⟩
    have e28 : (28 : Int32) * nI j + nI i = nI (28 * j + i) := by rw [show (28 : Int32) = nI 28 from rfl, pk_mul, nI_add]
    have i308 : inb (nI (28 * j + i)) 308 = true := by rw [inb_nI (by omega)]; simp; omega
    have c28 : ¬ (28 : Int32) ≤ nI i := by rw [show (28 : Int32) = nI 28 from rfl, leI (by decide) (by omega)]; omega
    simp only [c28, if_false, e28, i308, grd_t, bnd_eq, tn_nI (show 28 * j + i < 2 ^ 31 by omega), hp i hi, nI_1]
    by_cases ci : i < l.length
    · have hmem : l[i] ∈ l := List.getElem_mem ci
      have hek := hk _ hmem
      have et : l.take (i + 1) = l.take i ++ [l[i]] := by rw [List.take_succ_eq_append_getElem ci]
      have epw : pwF l i = pwv l[i] := by unfold pwF; rw [List.getElem?_eq_getElem ci]
      rw [et, sdF_app, epw, Nat.zero_add, List.length_take, Nat.min_eq_left (by omega)]
      generalize l[i] = e at hek
      match e, hek with
      | .inl (a', x, y, b), hek =>
        obtain ⟨k1, k2, k3⟩ := hek
        obtain ⟨w1, w2, w3⟩ := pw_bits a' k1 y k3 x (by omega) k2 c hc
        simp only [pwv, w1, if_false, w2, w3, eqI (show a' < 2 ^ 31 by omega) (show act < 2 ^ 31 by omega), sdF, effS]
        by_cases c1 : a' = act
        · by_cases c2 : x ≤ c ∧ c ≤ y
          · rw [if_pos c1, if_pos c2, if_pos (by omega)]; rfl
          · rw [if_pos c1, if_neg c2, if_neg (by omega)]; rfl
        · rw [if_neg c1, if_neg (by omega)]; rfl
      | .inr w, _ =>
        simp only [pwv, if_true, sdF, effS]
        rfl
    · have et : l.take (i + 1) = l.take i := by rw [List.take_of_length_le (by omega), List.take_of_length_le (by omega)]
      have epw : pwF l i = -1 := by unfold pwF; rw [List.getElem?_eq_none (by omega)]
      rw [et, epw]
      simp only [if_true]
      rfl
  · intro a h
    subst h
    exact ⟨(sdF 0 (l.take 28) m1f (act * 7 + c), σ), by simp only [show (28 : Int32) ≤ nI 28 by decide, if_true], by rw [List.take_of_length_le hl]⟩
theorem op_why {σ : St} (hI : Ix σ) (a1 a2 a3 : Int32) : ∃ v σ2, fX8_why σ a1 a2 a3 = some v ∧ fX9_why σ a1 a2 a3 = some (v, σ2) ∧ Ix σ2 := by
  have hm := @mX9_why σ a1 a2 a3
  have um : fX9_why σ a1 a2 a3 = fX9_why σ a1 a2 a3 := rfl
  conv at um => rhs; unfold fX9_why
  rw [m_isCode, rM a2 10 9 (by decide), rM a3 7 6 (by decide)] at um
  unfold fX8_why
  rw [x_isCode, x_isAct, x_isCell]
  by_cases c : inb a1 11 = true
  · by_cases d : inb a2 10 = true
    · by_cases e : inb a3 7 = true
      · obtain ⟨j, hj, rfl⟩ := inb_ex (by decide) c
        obtain ⟨act, ha, rfl⟩ := inb_ex (by decide) d
        obtain ⟨q, hq, rfl⟩ := inb_ex (by decide) e
        obtain ⟨s, e1, hf, hId, h31⟩ := m_reads hj hI.2
        obtain ⟨n, t, hx, hmx, hr, hd⟩ := hId.2 j hj
        rcases hd with hd | ⟨-, q1, q2, q3⟩
        · rw [hd] at h31; exact absurd h31 (by decide)
        have lo := m_whyL hj ha hq (saysL_len n t) (saysL_ok n t) q3
        have i70 : inb (nI (act * 7 + q)) 70 = true := by rw [inb_nI (by omega)]; simp; omega
        rw [if_pos c, if_pos d, if_pos e, c, grd_t, ix7, i70, grd_t, tn_nI (by omega), tn_nI (by omega)]
        rw [if_pos c, if_pos d, if_pos e, e1, obi_s, lo, ← hr.2.2 (act * 7 + q) (by omega), hf.X (by simp)] at um
        exact ⟨_, _, rfl, um, hI.rd (hm um) hId⟩
      · rw [if_pos c, if_pos d, if_neg e] at um ⊢
        exact ⟨_, _, rfl, um, hI⟩
    · rw [if_pos c, if_neg d] at um ⊢
      exact ⟨_, _, rfl, um, hI⟩
  · rw [if_neg c] at um ⊢
    exact ⟨_, _, rfl, um, hI⟩
theorem nch_b : ∀ b : Nat, b < 256 → nch (i2cc (nI b)) = nI b := by decide +kernel
theorem nbo_0 : nbo 0 = 0 := by decide
/-- what the class's reading of code j may touch -/
def xfr (j : Nat) (σ σ' : St) : Prop := ∀ (r : Rf) (k : Nat), ¬ r = (1, j) → ¬ r = (10, j) → ¬ r = (11, j) → ¬ r = (12, j) → σ' r k = σ r k
theorem cst_xfr {j : Nat} {σ0 σ : St} (h : xfr j σ0 σ) (f g : Nat → Int32) (z v : Int32) : xfr j σ0 (cst σ j f g z v) := by
  intro r k h1 h2 h3 h4
  rw [cst_o _ _ _ _ _ _ h3 h4 (fun q => h1 q.1) (fun q => h1 q.1)]
  exact h r k h1 h2 h3 h4
/-- a code's text laid anew on both sides -/
theorem Id.lay {σ σ1 σ2 : St} {j n : Nat} {t : Nat → Nat} (h : Id σ) (hj : j < 11) (h1 : xfr j σ σ1) (h2 : ∀ r k, ¬ (r = (29, 0) ∧ k = j) → ¬ (r = (31, 0) ∧ k = j) → ¬ (r = (30, 0) ∧ 80 * j ≤ k ∧ k < 80 * j + 80) → σ2 r k = σ1 r k) (hx : XT σ1 j n t) (hr : Xrd σ1 j n t) (hm : MX σ2 j n t) (h31 : σ2 (31, 0) j = 0) : Id σ2 := by
  refine ⟨fun i hi => ?_, fun j' hj' => ?_⟩
  · rw [h2 _ _ (by simp) (by simp) (by simp), h1 _ _ (by simp) (by simp) (by simp) (by simp)]
    exact h.1 i hi
  · by_cases c : j' = j
    · subst c
      refine ⟨n, t, ⟨hx.1, ?_, fun i hi => ⟨(hx.2.2 i hi).1, ?_⟩⟩, hm, ⟨?_, fun k hk => ?_, fun k hk => ?_⟩, Or.inl h31⟩
      · rw [h2 _ _ (by simp) (by simp) (by simp), hx.2.1]
      · rw [h2 _ _ (by simp) (by simp) (by simp), (hx.2.2 i hi).2]
      · rw [h2 _ _ (by simp) (by simp) (by simp), hr.1]
      · rw [h2 _ _ (by simp) (by simp) (by simp), hr.2.1 k hk]
      · rw [h2 _ _ (by simp) (by simp) (by simp), hr.2.2 k hk]
    · refine Cd.of ?_ (h.2 j' hj')
      intro r k hc
      rcases hc with ⟨rfl, hk⟩ | rfl | rfl | rfl | ⟨rfl, hk⟩ | ⟨rfl, hk⟩ | ⟨rfl, hk⟩ | ⟨rfl, hk⟩ | ⟨rfl, hk⟩ | ⟨rfl, hk⟩
      all_goals (rw [h2 _ _ (by simp <;> omega) (by simp <;> omega) (by simp <;> omega), h1 _ _ (by simp <;> omega) (by simp <;> omega) (by simp <;> omega) (by simp <;> omega)])
