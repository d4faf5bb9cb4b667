set_option maxHeartbeats 1000000 in
theorem loop_row {σ : St} {r : Rf} {N c j L : Nat} (cI NI : Int32) (g : Int32 → Int32) (hc : cI = nI c) (hN : NI = nI N) (hL : c * j + N ≤ L) (hLL : L < 100000) : lpF (fun (q1 : Int32 × St) => match q1 with
  | (x1, σ1) =>
  if NI ≤ x1 then
    some (.inr σ1)
  else
    grd (inb ((cI * nI j) + x1) L) (bnd (su σ1 r (tn ((cI * nI j) + x1)) (g x1)) (fun σ2 =>
    bnd (x1 + 1) (fun x2 =>
    some (.inl (x2, σ2)))))) ((0 : Int32), σ) = some (srg σ r (c * j) N (fun k => g (nI k))) := by
  subst hc hN
  refine lpF_fx (fun i a => a = (nI i, srg σ r (c * j) i (fun k => g (nI k)))) N ?_ ?_ (by omega) (by rw [srg_0]; rfl)
  · intro i a hi ha
    subst ha
    refine Or.inl ⟨_, ?_, rfl⟩
    have e1 : nI c * nI j + nI i = nI (c * j + i) := by rw [pk_mul, nI_add]
    have i1 : inb (nI (c * j + i)) L = true := by rw [inb_nI (by omega)]; simp; omega
    simp only [leI (show N < 2 ^ 31 by omega) (show i < 2 ^ 31 by omega), show ¬ N ≤ i by omega, if_false, e1, i1, grd_t, bnd_eq, tn_nI (show c * j + i < 2 ^ 31 by omega), nI_1]
    congr 3
    funext r' k
    simp only [su_app, srg_app]
    by_cases c1 : r' = r
    · by_cases c2 : k = c * j + i
      · subst c2
        rw [if_pos ⟨c1, rfl⟩, if_pos ⟨c1, by omega, by omega⟩, Nat.add_sub_cancel_left]
      · rw [if_neg (fun q => c2 q.2)]
        by_cases c3 : c * j ≤ k ∧ k < c * j + i
        · rw [if_pos ⟨c1, c3⟩, if_pos ⟨c1, by omega, by omega⟩]
        · rw [if_neg (fun q => c3 q.2), if_neg (fun q => c3 ⟨q.2.1, by have := q.2.2; omega⟩)]
    · rw [if_neg (fun q => c1 q.1), if_neg (fun q => c1 q.1), if_neg (fun q => c1 q.1)]
  · intro a ha
    subst ha
    exact ⟨_, by simp only [leI (show N < 2 ^ 31 by omega) (show N < 2 ^ 31 by omega), Nat.le_refl, if_true], rfl⟩
theorem plain_w : ∀ k, k < 17 → fX9_plain (nI k) = wpf k := by decide +kernel
def pwF (l : List Eff) (k : Nat) : Int32 := match l[k]? with
  | some e => pwv e
  | none => -1
theorem itF_app : ∀ (l l' : List Eff) (it : Nat → Int32), itF (l ++ l') it = itF l' (itF l it)
  | [], l', it => rfl
  | e :: l, l', it => itF_app l l' (effI e it)
theorem pwF_app (l : List Eff) (e : Eff) (k : Nat) : pwF (l ++ [e]) k = if k = l.length then pwv e else pwF l k := by
  unfold pwF
  by_cases c : k = l.length
  · subst c
    simp
  · rw [if_neg c]
    by_cases c2 : k < l.length
    · rw [List.getElem?_append_left c2]
    · rw [List.getElem?_eq_none (by simp; omega), List.getElem?_eq_none (by omega)]
def Dn (σ0 : St) (j n : Nat) (t : Nat → Nat) (σ : St) : Prop := match pl n t 28 0 with
  | .inl q => MF σ0 j q σ
  | .inr l => mfr j σ0 σ ∧ σ (9, 0) 8 = -1 ∧ (∀ k, k < 17 → σ (33, 0) (17 * j + k) = itF l wpf k) ∧ ∀ k, k < 28 → σ (34, 0) (28 * j + k) = pwF l k
theorem MQd.s34 {σ0 σ : St} {j p : Nat} {it : Nat → Int32} {l : List Eff} (h : MQd σ0 j it (pwF l) p σ) (e : Eff) (hl : l.length < 28) : MQd σ0 j it (pwF (l ++ [e])) p (su σ (34, 0) (28 * j + l.length) (pwv e)) := by
  obtain ⟨h1, h2, h3, h4, h5⟩ := h
  refine ⟨h1.s34 hl _, by simp [su_app, h2], by simp [su_app, h3], ?_, ?_⟩
  · intro k hk
    simp [su_app, h4 k hk]
  · intro k hk
    rw [pwF_app, su_app]
    by_cases c : k = l.length
    · rw [if_pos c, if_pos ⟨rfl, by omega⟩]
    · rw [if_neg c, if_neg (by rintro ⟨-, e⟩; omega), h5 k hk]
set_option maxHeartbeats 4000000 in
theorem m_loop {σ0 : St} {j n : Nat} {t : Nat → Nat} (h : MT σ0 j n t) (hn : 0 < n) {σ : St} (hq : MQd σ0 j wpf (pwF []) 0 σ) : ∃ σ', lpF (fun (q20 : Int32 × Int32 × St) => match q20 with
    | (x4, x5, σ10) =>
    if x5 = 0 then
      some (.inr σ10)
    else
      obi (fX9_readsPart σ10) (fun (x6, σ11) =>
      bnd (if (27 : Int32) ≤ x4 then
        (27 : Int32)
      else
        x4) (fun x7 =>
      grd (inb (((28 : Int32) * nI j) + x7) 308) (bnd (su σ11 (34, 0) (tn (((28 : Int32) * nI j) + x7)) x6) (fun σ12 =>
      bnd (x4 + 1) (fun x8 =>
      obi (if (σ12 (9, 0) 8) = (-1 : Int32) then
        grd (inb (nI j) 11) (
        if (σ12 (29, 0) (tn (nI j))) ≤ (σ12 (9, 0) 7) then
          some (0 : Int32)
        else
          some (1 : Int32))
      else
        some (0 : Int32)) (fun x9 =>
      obi (if x9 = 0 then
        some (x9, σ12)
      else
        obi (fX9_byteNow σ12) (fun x11 =>
        if x11 = (59 : Int32) then
          some (x9, σ12)
        else
          bnd (su σ12 (9, 0) 8 (σ12 (9, 0) 7)) (fun σ14 =>
          some ((0 : Int32), σ14)))) (fun (x10, σ13) =>
      bnd (su σ13 (9, 0) 7 ((σ13 (9, 0) 7) + (1 : Int32))) (fun σ15 =>
      some (.inl (x8, x10, σ15))))))))))) ((0 : Int32), (1 : Int32), σ) = some σ' ∧ Dn σ0 j n t σ' := by
  have h80 := h.1
  have hj := h.2.1
  have i11 : inb (nI j) 11 = true := by rw [inb_nI (by omega)]; simpa using hj
  refine lpF_for (fun i a => ∃ s, (a = (nI i, 1, s) ∧ ∃ l p, l.length = i ∧ 3 * i ≤ p ∧ p ≤ n ∧ MQd σ0 j (itF l wpf) (pwF l) p s ∧ pl n t 28 0 = plc l (pl n t (28 - i) p)) ∨ (a = (nI i, 0, s) ∧ Dn σ0 j n t s)) 28 ?_ ?_ (by decide) ?_
  · rintro i a hi ⟨s, ⟨rfl, l, p, hl, hp1, hp2, hqs, hpl⟩ | ⟨rfl, hd⟩⟩
    · have hi27 : i < 27 := by omega
      have hr := m_readsPart h hp2 hqs
      have e28 : (28 : Int32) * nI j + nI i = nI (28 * j + i) := by rw [show (28 : Int32) = nI 28 from rfl, pk_mul, nI_add]
      have i308 : inb (nI (28 * j + i)) 308 = true := by rw [inb_nI (by omega)]; simp; omega
      have c27 : ¬ (27 : Int32) ≤ nI i := by rw [show (27 : Int32) = nI 27 from rfl, leI (by decide) (by omega)]; omega
      rw [show 28 - i = (27 - i) + 1 by omega, pl_S n t (27 - i) p] at hpl
      simp only [show ¬ (1 : Int32) = 0 by decide, if_false, c27, bnd_eq, e28, i308, grd_t, tn_nI (show 28 * j + i < 2 ^ 31 by omega), nI_1, i11, tn_nI (show j < 2 ^ 31 by omega)]
      cases ho : rp n t p with
      | inl q =>
        rw [ho] at hr hpl
        obtain ⟨v, s', e1, hf⟩ := hr
        have hq := rp_fault ho
        have n8 : ¬ su s' (34, 0) (28 * j + i) v (9, 0) 8 = -1 := by
          rw [su_app, if_neg (by simp), hf.2]
          exact nI_ne_m1 (by omega)
        refine Or.inl ⟨_, by rw [e1, obi_s]; simp only [n8, if_false, obi_s, if_true]; rfl, _, Or.inr ⟨rfl, ?_⟩⟩
        unfold Dn
        rw [hpl]
        show MF σ0 j q _
        exact ⟨(hf.1.s34 (show i < 28 by omega) _).s7 _, by simp [su_app, hf.2]⟩
      | inr w =>
        obtain ⟨p', e⟩ := w
        have hnx := rp_next ho
        rw [ho] at hr hpl
        obtain ⟨s', e1, hf⟩ := hr
        have hf2 := hf.s34 e (show l.length < 28 by omega)
        rw [hl] at hf2
        have hm2 := h.fr hf2.1
        have it2 : effI e (itF l wpf) = itF (l ++ [e]) wpf := by rw [itF_app]; rfl
        rw [it2] at hf2
        rw [e1, obi_s]
        have b1 := m_byte hm2 (show p' < 1000 by omega) hf2.2.1
        have b59 : (bn n t p' = 59) = (p' < n ∧ t p' = 59) := bn_eq h p' (by decide)
        simp only [hf2.2.2.1, if_true, hm2.2.2.2.1, hf2.2.1, leI (show n < 2 ^ 31 by omega) (show p' < 2 ^ 31 by omega), b1, b59]
        by_cases c : p' < n
        · have c' : ¬ n ≤ p' := by omega
          simp only [c, if_true] at hpl
          simp only [c', if_false, obi_s, show ¬ (1 : Int32) = 0 by decide, b59, c, true_and]
          by_cases c2 : t p' = 59
          · simp only [c2, if_true] at hpl
            simp only [c2, if_true, obi_s, hf2.2.1, nI_1]
            refine Or.inl ⟨_, rfl, _, Or.inl ⟨rfl, l ++ [e], p' + 1, by simp [hl], by omega, by omega, ?_, ?_⟩⟩
            · obtain ⟨q1, q2, q3, q4, q5⟩ := hf2
              exact ⟨q1.s7 _, su_hit _ _ _ _, by rw [s78, q3], fun k hk => by simpa [su_app] using q4 k hk, fun k hk => by simpa [su_app] using q5 k hk⟩
            · rw [hpl, plc_c, show 28 - (i + 1) = 27 - i by omega]
          · simp only [c2, if_false] at hpl
            simp only [c2, if_false, obi_s]
            refine Or.inl ⟨_, rfl, _, Or.inr ⟨rfl, ?_⟩⟩
            unfold Dn
            rw [hpl]
            exact ⟨(hf2.1.s8 _).s7 _, by rw [s78, su_hit]⟩
        · have c' : n ≤ p' := by omega
          simp only [c, if_false] at hpl
          simp only [c', if_true, obi_s, if_true]
          refine Or.inl ⟨_, rfl, _, Or.inr ⟨rfl, ?_⟩⟩
          unfold Dn
          rw [hpl]
          obtain ⟨q1, q2, q3, q4, q5⟩ := hf2
          exact ⟨q1.s7 _, by rw [s78, q3], fun k hk => by simpa [su_app] using q4 k hk, fun k hk => by simpa [su_app] using q5 k hk⟩
    · exact Or.inr ⟨_, by simp only [if_true], hd⟩
  · rintro a ⟨s, ⟨rfl, l, p, hl, hp1, hp2, hqs, hpl⟩ | ⟨rfl, hd⟩⟩
    · omega
    · exact ⟨_, by simp only [if_true], hd⟩
  · exact ⟨σ, Or.inl ⟨rfl, [], 0, rfl, by omega, by omega, hq, by cases pl n t 28 0 <;> rfl⟩⟩
