/-! ===== the best part ===== -/
theorem ord_17 {x : Int32} (h : inb x 131072 = true) : ord x < 131072 := by
  obtain ⟨n, hn, rfl⟩ := inb_ex (by decide) h
  rw [show ord (nI n) = n from pk_tn (by omega)]
  exact hn
def KL (E : Int32 → Nat) (b t : Int32) : Prop := E b < E t ∨ (E b = E t ∧ ord b ≤ ord t)
theorem KL.tr {E : Int32 → Nat} {a b c : Int32} (h : KL E a b) (h' : KL E b c) : KL E a c := by
  unfold KL at *
  omega
def Mn (E : Int32 → Nat) (m b : Int32) : Prop := sb b m ∧ ∀ t, sb t m → KL E b t
def Bst (E : Int32 → Nat) (m c b : Int32) : Prop := sb b m ∧ ord b < ord c ∧ ∀ t, sb t m → ord t < ord c → KL E b t
theorem sel_go (E : Int32 → Nat) {m c b b' : Int32} {i : Nat} (hm : inb m 131072 = true) (hc : sb c m) (hr : rkn m c 32 = i) (hb : (c = 0 ∧ b' = 0) ∨ (Bst E m c b ∧ b' = if E b ≤ E c then b else c)) : (i + 1 = 2 ^ pcn m 32 ∧ c = m ∧ Mn E m b') ∨ (i + 1 < 2 ^ pcn m 32 ∧ (¬ c = m) ∧ sb ((c - m) &&& m) m ∧ rkn m ((c - m) &&& m) 32 = i + 1 ∧ Bst E m ((c - m) &&& m) b') := by
  have key : sb b' m ∧ ord b' ≤ ord c ∧ ∀ t, sb t m → ord t ≤ ord c → KL E b' t := by
    rcases hb with ⟨rfl, rfl⟩ | ⟨⟨h1, h2, h3⟩, h4⟩
    · refine ⟨hc, Nat.le_refl _, fun t _ ht => ?_⟩
      have : t = 0 := ord_inj (by have z : ord 0 = 0 := rfl; omega)
      rw [this]
      exact Or.inr ⟨rfl, Nat.le_refl _⟩
    · have lc := ord_17 (sb_inb hc hm)
      have lb := ord_17 (sb_inb h1 hm)
      by_cases d : E b ≤ E c
      · rw [if_pos d] at h4
        subst h4
        refine ⟨h1, by omega, fun t ht hle => ?_⟩
        by_cases e : ord t = ord c
        · rw [ord_inj e]
          unfold KL
          omega
        · exact h3 t ht (by omega)
      · rw [if_neg d] at h4
        subst h4
        refine ⟨hc, Nat.le_refl _, fun t ht hle => ?_⟩
        by_cases e : ord t = ord b'
        · rw [ord_inj e]
          exact Or.inr ⟨rfl, Nat.le_refl _⟩
        · have h := h3 t ht (by omega)
          unfold KL at h ⊢
          omega
  obtain ⟨k1, k2, k3⟩ := key
  by_cases e : c = m
  · refine Or.inl ⟨?_, e, k1, fun t ht => k3 t ht ?_⟩
    · have := (rk_top hc).2 e
      omega
    · rw [e]; exact ord_sb ht
  · have h1 := rk_next hc e
    have h2 := rk_le (sb_next hc) 32 (by omega)
    refine Or.inr ⟨by omega, e, sb_next hc, by omega, k1, ?_, fun t ht hlt => k3 t ht ?_⟩
    · have := next_up hc e
      omega
    · by_cases d : ord t ≤ ord c
      · exact d
      · have := next_least hc e ht (by omega)
        omega
theorem Mn_one {E : Int32 → Nat} {m b b' : Int32} (hm : inb m 131072 = true) (h : Mn E m b) (h' : Mn E m b') : b = b' := by
  have h1 := h.2 b' h'.1
  have h2 := h'.2 b h.1
  unfold KL at h1 h2
  apply ord_inj
  omega
def ky (s h o : Nat) : Nat := (12 - s) * 100000 + h * 100 + o
theorem ky_cmp {s h o s' h' o' : Nat} (h1 : s ≤ 12) (h2 : h ≤ 480) (h3 : o ≤ 17) (h4 : s' ≤ 12) (h5 : h' ≤ 480) (h6 : o' ≤ 17) : ky s h o ≤ ky s' h' o' ↔ s' < s ∨ (s = s' ∧ (h < h' ∨ (h = h' ∧ o ≤ o'))) := by
  unfold ky
  omega
theorem offer_ok {s : St} {b c : Int32} {sv hv ov sc hc oc : Nat} (e0 : s (2, 0) 0 = b) (e1 : s (2, 0) 1 = nI sv) (e2 : s (2, 0) 2 = nI hv) (o1 : fJ6_bitCount_0f7a4 b = nI ov) (o2 : fJ6_bitCount_0f7a4 c = nI oc) (h1 : sv ≤ 12) (h2 : hv ≤ 480) (h3 : ov ≤ 17) (h4 : sc ≤ 12) (h5 : hc ≤ 480) (h6 : oc ≤ 17) : fX2_offer s c (nI sc) (nI hc) = if ky sv hv ov ≤ ky sc hc oc then s else su (su (su s (2, 0) 0 c) (2, 0) 1 (nI sc)) (2, 0) 2 (nI hc) := by
  have k := ky_cmp h1 h2 h3 h4 h5 h6
  unfold fX2_offer
  simp only [bnd_eq, e0, e1, e2, o1, o2, leI (show sc < 2 ^ 31 by omega) (show sv < 2 ^ 31 by omega), eqI (show sc < 2 ^ 31 by omega) (show sv < 2 ^ 31 by omega), ltI (show hc < 2 ^ 31 by omega) (show hv < 2 ^ 31 by omega), eqI (show hc < 2 ^ 31 by omega) (show hv < 2 ^ 31 by omega), leI (show ov < 2 ^ 31 by omega) (show oc < 2 ^ 31 by omega)]
  have z1 : ¬ (1 : Int32) = 0 := by decide
  by_cases d : ky sv hv ov ≤ ky sc hc oc
  · rw [if_pos d]
    have := k.1 d
    by_cases c1 : sc = sv
    · rw [if_pos c1]
      by_cases c2 : hc < hv
      · omega
      · rw [if_neg c2]
        by_cases c3 : hc = hv
        · rw [if_pos c3, if_pos (show ov ≤ oc by omega), if_pos rfl]
        · rw [if_neg c3, if_pos rfl]
    · rw [if_neg c1, if_pos (show sc ≤ sv by omega), if_pos rfl]
  · rw [if_neg d]
    have k' : ¬ (sc < sv ∨ (sv = sc ∧ (hv < hc ∨ (hv = hc ∧ ov ≤ oc)))) := fun w => d (k.2 w)
    by_cases c1 : sc = sv
    · rw [if_pos c1]
      by_cases c2 : hc < hv
      · rw [if_pos c2, if_neg z1]
      · rw [if_neg c2]
        by_cases c3 : hc = hv
        · rw [if_pos c3, if_neg (show ¬ ov ≤ oc by omega), if_neg z1]
        · omega
    · rw [if_neg c1, if_neg (show ¬ sc ≤ sv by omega), if_neg z1]
theorem cmp_m {sv hv ov sc hc oc : Nat} (h1 : sv ≤ 12) (h2 : hv ≤ 480) (h3 : ov ≤ 17) (h4 : sc ≤ 12) (h5 : hc ≤ 480) (h6 : oc ≤ 17) : ((if (if nI sc - nI sv = 0 then nI hv - nI hc else nI sc - nI sv) = 0 then nI ov - nI oc else (if nI sc - nI sv = 0 then nI hv - nI hc else nI sc - nI sv)) ≤ 0) = (ky sv hv ov ≤ ky sc hc oc) := by
  have k := ky_cmp h1 h2 h3 h4 h5 h6
  have t1 := pk_sub_toInt (a := sc) (b := sv) (by omega) (by omega)
  have t2 := pk_sub_toInt (a := hv) (b := hc) (by omega) (by omega)
  have t3 := pk_sub_toInt (a := ov) (b := oc) (by omega) (by omega)
  have z : (0 : Int32).toInt = 0 := rfl
  have q : ∀ x : Int32, x = 0 ↔ x.toInt = 0 := fun x => ⟨fun e => by rw [e]; rfl, fun e => Int32.toInt_inj.1 (by rw [e]; rfl)⟩
  apply propext
  by_cases c1 : nI sc - nI sv = 0
  · rw [if_pos c1]
    have c1' := (q _).1 c1
    by_cases c2 : nI hv - nI hc = 0
    · rw [if_pos c2, i32_le, k]
      have c2' := (q _).1 c2
      omega
    · rw [if_neg c2, i32_le, k]
      have c2' : ¬ _ := fun w => c2 ((q _).2 w)
      omega
  · rw [if_neg c1, if_neg c1, i32_le, k]
    have c1' : ¬ _ := fun w => c1 ((q _).2 w)
    omega
theorem cn_le (p : Nat → Bool) : ∀ N, ∃ n : Nat, n ≤ N ∧ cn p N = nI n
  | 0 => ⟨0, by omega, rfl⟩
  | N + 1 => by
    obtain ⟨n, hn, e⟩ := cn_le p N
    rw [cn_S, e]
    by_cases c : p N = true
    · rw [if_pos c]; exact ⟨n + 1, by omega, nI_1 n⟩
    · rw [if_neg c]; exact ⟨n, by omega, by simp⟩
/-- who stays under the row f -/
def SV (σ : St) (nc : Nat) (f : Nat → Int32) : Int32 := cn (fun i => mem σ i && okU (σ (0, i) 1) f (fun a => itm σ a i) 17) nc
theorem okU_cong {h : Int32} {f f' g : Nat → Int32} (e : ∀ k, k < 17 → f k = f' k) : okU h f g 17 = okU h f' g 17 := by
  have : ∀ N, N ≤ 17 → okU h f g N = okU h f' g N := by
    intro N
    induction N with
    | zero => intro _; rfl
    | succ N ih =>
      intro hN
      rw [okU_S, okU_S, ih (by omega), e N (by omega)]
  exact this 17 (Nat.le_refl _)
theorem SV_cong {σ s : St} (hm : modi BP σ s) {nc : Nat} {f f' : Nat → Int32} (e : ∀ k, k < 17 → f k = f' k) : SV s nc f = SV σ nc f' := by
  unfold SV
  apply cn_cong
  intro i hi
  have m2 : s (0, i) 2 = σ (0, i) 2 := hm _ _ (by rw [cod_o (by decide)]; decide)
  have m1 : s (0, i) 1 = σ (0, i) 1 := hm _ _ (by rw [cod_o (by decide)]; decide)
  have m0 : s (0, i) 0 = σ (0, i) 0 := hm _ _ (by rw [cod_o (by decide)]; decide)
  have it : (fun a => itm s a i) = fun a => itm σ a i := by
    funext a
    unfold itm
    rw [m0]
    exact hm _ _ (by rw [cod_a (by decide)]; decide)
  unfold mem
  rw [m2, m1, it, okU_cong e]
