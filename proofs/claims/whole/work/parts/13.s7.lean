theorem mix_ok {a : Int32} {f g : Nat → Int32} (hf : itOk f) (hg : itOk g) : itOk (mixf a f g) := by
  intro k hk
  unfold mixf
  split
  · exact hg k hk
  · exact hf k hk
abbrev rw9 (σ : St) (j : Nat) (t : Int32) : Nat → Int32 := mixf t (σ (27, 0)) (σ (11, j))
def EB (σ : St) (nc j : Nat) (t : Int32) : Nat := ky (tn (SV σ nc (rw9 σ j t))) (tn (HU σ (rw9 σ j t))) (pcn t 17)
def XB (σ : St) (nc j : Nat) (s : St) (b : Int32) : Prop := s (2, 0) 0 = b ∧ s (2, 0) 1 = SV σ nc (rw9 σ j b) ∧ s (2, 0) 2 = HU σ (rw9 σ j b)
theorem EB_at {σ : St} (hI : Ix σ) (hl : itOk (σ (27, 0))) {nc j : Nat} (hnc : nc ≤ 12) (hj : j < 11) (t : Int32) : ∃ sv hv : Nat, sv ≤ 12 ∧ hv ≤ 480 ∧ SV σ nc (rw9 σ j t) = nI sv ∧ HU σ (rw9 σ j t) = nI hv ∧ EB σ nc j t = ky sv hv (pcn t 17) := by
  obtain ⟨sv, h1, e1⟩ := cn_le (fun i => mem σ i && okU (σ (0, i) 1) (rw9 σ j t) (fun a => itm σ a i) 17) nc
  obtain ⟨hv, h2, e2, -⟩ := hurts hI.1 (f := rw9 σ j t) (mix_ok hl (fun k hk => hI.2.it hj hk))
  have e1' : SV σ nc (rw9 σ j t) = nI sv := e1
  refine ⟨sv, hv, by omega, h2, e1', e2, ?_⟩
  unfold EB
  rw [e1', e2, tn_nI (by omega), tn_nI (by omega)]
theorem shl_p : ∀ p, p < 18 → (1 : Int32) <<< (nI p &&& 31) = nI (2 ^ p) := by decide +kernel
theorem offer_first {s : St} {c x h : Int32} {sc : Nat} (hs : sc ≤ 12) (ex : x = nI sc) (e1 : s (2, 0) 1 = -1) : fX2_offer s c x h = su (su (su s (2, 0) 0 c) (2, 0) 1 x) (2, 0) 2 h := by
  have n1 : ¬ x ≤ -1 := by
    rw [ex, i32_le, nI_toInt (by omega)]
    have : (-1 : Int32).toInt = -1 := rfl
    omega
  have n2 : ¬ x = -1 := fun e => n1 (by rw [e, i32_le]; omega)
  unfold fX2_offer
  simp only [bnd_eq, e1, n1, n2, if_false]
  rw [if_neg (by decide)]
theorem XB_set {σ s : St} {nc j : Nat} {c x h : Int32} (hx : x = SV σ nc (rw9 σ j c)) (hh : h = HU σ (rw9 σ j c)) : XB σ nc j (su (su (su s (2, 0) 0 c) (2, 0) 1 x) (2, 0) 2 h) c := by
  refine ⟨?_, ?_, ?_⟩
  · rw [su_slot _ _ _ _ (by decide), su_slot _ _ _ _ (by decide), su_hit]
  · rw [su_slot _ _ _ _ (by decide), su_hit, hx]
  · rw [su_hit, hh]
theorem BP_su {σ s : St} (h : modi BP σ s) (c x y : Int32) : modi BP σ (su (su (su s (2, 0) 0 c) (2, 0) 1 x) (2, 0) 2 y) := ((h.su (by rw [cod_o (by decide)]; decide)).su (by rw [cod_o (by decide)]; decide)).su (by rw [cod_o (by decide)]; decide)
set_option maxHeartbeats 1000000 in
theorem x_try {σ : St} (hI : Ix σ) (hl : itOk (σ (27, 0))) {nc j : Nat} (hnc : nc ≤ 12) (n1 : σ (8, 0) 11 = nI nc) (hj : j < 11) {s : St} (hs : modi BP σ s) {c : Int32} (hc : inb c 131072 = true) {b : Int32} (hb : s (2, 0) 1 = -1 ∨ (inb b 131072 = true ∧ XB σ nc j s b)) : ∃ s3 s4, fX8_mix s (27, 0) (11, j) c = some s3 ∧ fX8_staying s3 = some (SV σ nc (rw9 σ j c)) ∧ (if SV σ nc (rw9 σ j c) < (s3 (2, 0) 1) then
      some s3
    else
      obi (fX8_hurtInAll s3) (fun (x7, σ5) =>
      bnd (fX2_offer σ5 c (SV σ nc (rw9 σ j c)) x7) (fun σ6 =>
      some σ6))) = some s4 ∧ modi BP σ s4 ∧ ((s (2, 0) 1 = -1 ∧ XB σ nc j s4 c) ∨ (¬ s (2, 0) 1 = -1 ∧ XB σ nc j s4 (if EB σ nc j b ≤ EB σ nc j c then b else c))) := by
  have em := x_mix (σ := s) (r1 := (27, 0)) (r2 := (11, j)) (by decide) (ia_of (f := 11) rfl hj) rfl rfl (by decide) (by simp) c
  have m3 : modi BP σ (srg s (28, 0) 0 17 (mixf c (s (27, 0)) (s (11, j)))) := hs.srg (by decide) (by decide)
  have L : s (27, 0) = σ (27, 0) := by funext k; exact hs _ _ (by rw [cod_a (by decide)]; decide)
  have C : s (11, j) = σ (11, j) := by funext k; exact hs _ _ (by rw [cod_a (by decide)]; decide)
  have row : ∀ k, k < 17 → srg s (28, 0) 0 17 (mixf c (s (27, 0)) (s (11, j))) (28, 0) k = rw9 σ j c k := fun k hk => by rw [srg_app, if_pos ⟨rfl, by omega, by omega⟩, Nat.sub_zero, L, C]
  have e2 : ∀ k, srg s (28, 0) 0 17 (mixf c (s (27, 0)) (s (11, j))) (2, 0) k = s (2, 0) k := fun k => srg_ne _ _ _ _ _ (by decide)
  generalize srg s (28, 0) 0 17 (mixf c (s (27, 0)) (s (11, j))) = s3 at em m3 row e2
  have hv3 : Iv s3 := hI.1.mv m3 BP_Iv
  have st := x_staying hv3 hnc (show s3 (8, 0) 11 = nI nc by rw [m3 (8, 0) 11 (by rw [cod_o (by decide)]; decide), n1])
  have st' : fX8_staying s3 = some (SV σ nc (rw9 σ j c)) := by rw [st]; exact congrArg some (SV_cong m3 row)
  obtain ⟨sc, hc', h1, h2, q1, q2, q3⟩ := EB_at hI hl hnc hj c
  have oc := x_bit hc
  obtain ⟨v, v1, v2, v3, -⟩ := hurts hI.1 (f := rw9 σ j c) (mix_ok hl (fun k hk => hI.2.it hj hk))
  obtain ⟨s5, hx5⟩ := v3 s3 m3 row
  rw [← v2, q2] at hx5
  have m5 := mX8_hurtInAll hx5
  have f5 : ∀ k, k < 4 → s5 (2, 0) k = s3 (2, 0) k := fun k hk => m5 (2, 0) k (by rw [cod_o (by decide)]; simp; omega)
  have m5' : modi BP σ s5 := m3.tr m5 (by decide)
  have pl : ∀ x : Int32, pcn x 17 ≤ 17 := fun x => pcn_le x 17
  have off : ¬ SV σ nc (rw9 σ j c) < s3 (2, 0) 1 → ∀ r, fX2_offer s5 c (SV σ nc (rw9 σ j c)) (nI hc') = r → (if SV σ nc (rw9 σ j c) < (s3 (2, 0) 1) then
      some s3
    else
      obi (fX8_hurtInAll s3) (fun (x7, σ5) =>
      bnd (fX2_offer σ5 c (SV σ nc (rw9 σ j c)) x7) (fun σ6 =>
      some σ6))) = some r := by
    intro n r hr
    rw [if_neg n, hx5, obi_s]
    show bnd (fX2_offer s5 c (SV σ nc (rw9 σ j c)) (nI hc')) _ = _
    rw [bnd_eq, hr]
  refine ⟨s3, ?_⟩
  by_cases c1 : s (2, 0) 1 = -1
  · have n : ¬ SV σ nc (rw9 σ j c) < s3 (2, 0) 1 := by
      rw [e2, c1, q1, i32_lt, nI_toInt (by omega)]
      have : (-1 : Int32).toInt = -1 := rfl
      omega
    exact ⟨_, em, st', off n _ (offer_first h1 q1 (by rw [f5 1 (by decide), e2, c1])), BP_su m5' _ _ _, Or.inl ⟨c1, XB_set rfl q2.symm⟩⟩
  · rcases hb with e | ⟨hb1, hb2⟩
    · exact absurd e c1
    obtain ⟨svb, hvb, h1', h2', q1', q2', q3'⟩ := EB_at hI hl hnc hj b
    have x1 : s3 (2, 0) 1 = nI svb := by rw [e2, hb2.2.1, q1']
    by_cases n : sc < svb
    · refine ⟨s3, em, st', by rw [x1, q1, if_pos (by rw [ltI (by omega) (by omega)]; exact n)], m3, Or.inr ⟨c1, ?_⟩⟩
      rw [if_pos (by rw [q3, q3', ky_cmp h1' h2' (pl b) h1 h2 (pl c)]; omega)]
      exact ⟨by rw [e2, hb2.1], by rw [e2, hb2.2.1], by rw [e2, hb2.2.2]⟩
    · have n' : ¬ SV σ nc (rw9 σ j c) < s3 (2, 0) 1 := by rw [x1, q1, ltI (by omega) (by omega)]; exact n
      have of := offer_ok (s := s5) (b := b) (c := c) (by rw [f5 0 (by decide), e2, hb2.1]) (by rw [f5 1 (by decide), x1]) (by rw [f5 2 (by decide), e2, hb2.2.2, q2']) (x_bit hb1) oc h1' h2' (pl b) h1 h2 (pl c)
      rw [← q3, ← q3'] at of
      by_cases d : EB σ nc j b ≤ EB σ nc j c
      · rw [if_pos d] at of
        refine ⟨s5, em, st', off n' _ (by rw [q1]; exact of), m5', Or.inr ⟨c1, ?_⟩⟩
        rw [if_pos d]
        exact ⟨by rw [f5 0 (by decide), e2, hb2.1], by rw [f5 1 (by decide), e2, hb2.2.1], by rw [f5 2 (by decide), e2, hb2.2.2]⟩
      · rw [if_neg d] at of
        refine ⟨_, em, st', off n' _ (by rw [q1]; exact of), BP_su m5' _ _ _, Or.inr ⟨c1, ?_⟩⟩
        rw [if_neg d]
        exact XB_set q1.symm q2.symm
set_option maxHeartbeats 1000000 in
theorem x_best {σ : St} (hI : Ix σ) (hl : itOk (σ (27, 0))) {nc j : Nat} (hnc : nc ≤ 12) (n1 : σ (8, 0) 11 = nI nc) (hj : j < 11) {a1 : Int32} (hm : inb (a1 &&& dm (σ (27, 0)) (σ (11, j)) 17) 131072 = true) (hp : pcn (a1 &&& dm (σ (27, 0)) (σ (11, j)) 17) 32 ≤ 9) : ∃ s b, fX8_seekLines σ a1 (11, j) = some s ∧ Mn (EB σ nc j) (a1 &&& dm (σ (27, 0)) (σ (11, j)) 17) b ∧ XB σ nc j s b := by
  unfold fX8_seekLines
  rw [x_unlike (σ := σ) (r0 := (27, 0)) (r1 := (11, j)) (by decide) (ia_of (f := 11) rfl hj) rfl rfl, obi_s, bnd_eq, bnd_eq, bnd_eq]
  generalize hg : a1 &&& dm (σ (27, 0)) (σ (11, j)) 17 = m at hm hp
  have p17 : pcn m 17 = pcn m 32 := (pcn_17 (fun k hk => inb_hi hm hk) 15).symm
  rw [x_bit hm, p17, shl_p _ (by omega)]
  generalize hN : pcn m 32 = P at hp p17
  have N5 : 2 ^ P ≤ 2 ^ 9 := Nat.pow_le_pow_right (by omega) hp
  have N0 : 0 < 2 ^ P := Nat.pow_pos (by omega)
  have key : ∃ s, lpF (fun (q5 : Int32 × Int32 × St) => match q5 with
  | (x4, x5, σ2) =>
  if nI (2 ^ P) ≤ x5 then
    some (.inr σ2)
  else
    obi (fX8_mix σ2 (27, 0) (11, j) x4) (fun σ3 =>
    obi (fX8_staying σ3) (fun x6 =>
    obi (if x6 < (σ3 (2, 0) 1) then
      some σ3
    else
      obi (fX8_hurtInAll σ3) (fun (x7, σ5) =>
      bnd (fX2_offer σ5 x4 x6 x7) (fun σ6 =>
      some σ6))) (fun σ4 =>
    bnd ((x4 - m) &&& m) (fun x8 =>
    bnd (x5 + 1) (fun x9 =>
    some (.inl (x8, x9, σ4)))))))) ((0 : Int32), (0 : Int32), fX2_clear σ) = some s ∧ ∃ b, Mn (EB σ nc j) m b ∧ XB σ nc j s b := by
    refine lpF_for (fun i a => a.2.1 = nI i ∧ modi BP σ a.2.2 ∧ ((i < 2 ^ P ∧ sb a.1 m ∧ rkn m a.1 32 = i ∧ ((a.1 = 0 ∧ a.2.2 (2, 0) 1 = -1) ∨ ∃ b, Bst (EB σ nc j) m a.1 b ∧ XB σ nc j a.2.2 b)) ∨ (i = 2 ^ P ∧ ∃ b, Mn (EB σ nc j) m b ∧ XB σ nc j a.2.2 b))) (2 ^ P) ?_ ?_ (by omega) ?_
    · rintro i ⟨c, y, s⟩ hi ⟨rfl, h1, h2⟩
      replace h1 : modi BP σ s := h1
      rcases h2 with ⟨-, h3, h4, h5⟩ | ⟨h3, -⟩
      case inr => omega
      replace h3 : sb c m := h3
      replace h4 : rkn m c 32 = i := h4
      have hc := sb_inb h3 hm
      have hb : ∃ b, s (2, 0) 1 = -1 ∨ (inb b 131072 = true ∧ XB σ nc j s b) := by
        rcases h5 with ⟨-, e⟩ | ⟨b, e1, e2⟩
        · exact ⟨0, Or.inl e⟩
        · exact ⟨b, Or.inr ⟨sb_inb e1.1 hm, e2⟩⟩
      have key2 : ∃ s3 s4 b', fX8_mix s (27, 0) (11, j) c = some s3 ∧ fX8_staying s3 = some (SV σ nc (rw9 σ j c)) ∧ (if SV σ nc (rw9 σ j c) < (s3 (2, 0) 1) then
      some s3
    else
      obi (fX8_hurtInAll s3) (fun (x7, σ5) =>
      bnd (fX2_offer σ5 c (SV σ nc (rw9 σ j c)) x7) (fun σ6 =>
      some σ6))) = some s4 ∧ modi BP σ s4 ∧ XB σ nc j s4 b' ∧ ∃ b, (c = 0 ∧ b' = 0) ∨ (Bst (EB σ nc j) m c b ∧ b' = if EB σ nc j b ≤ EB σ nc j c then b else c) := by
        rcases h5 with ⟨e0, e⟩ | ⟨b, e1, e2⟩
        · replace e0 : c = 0 := e0
          replace e : s (2, 0) 1 = -1 := e
          obtain ⟨s3, s4, k1, k2, k3, k4, k5⟩ := x_try hI hl hnc n1 hj h1 hc (b := 0) (Or.inl e)
          rcases k5 with ⟨-, k6⟩ | ⟨k6, -⟩
          · exact ⟨s3, s4, c, k1, k2, k3, k4, k6, 0, Or.inl ⟨e0, e0⟩⟩
          · exact absurd e k6
        · replace e2 : XB σ nc j s b := e2
          replace e1 : Bst (EB σ nc j) m c b := e1
          obtain ⟨s3, s4, k1, k2, k3, k4, k5⟩ := x_try hI hl hnc n1 hj h1 hc (b := b) (Or.inr ⟨sb_inb e1.1 hm, e2⟩)
          rcases k5 with ⟨k5, -⟩ | ⟨-, k6⟩
          · exfalso
            obtain ⟨svb, hvb, h1', h2', q1', q2', q3'⟩ := EB_at hI hl hnc hj b
            rw [e2.2.1, q1'] at k5
            have := congrArg Int32.toInt k5
            rw [nI_toInt (by omega)] at this
            have : (-1 : Int32).toInt = -1 := rfl
            omega
          · exact ⟨s3, s4, _, k1, k2, k3, k4, k6, b, Or.inr ⟨e1, rfl⟩⟩
      obtain ⟨s3, s4, b', k1, k2, k3, k4, k5, b, k6⟩ := key2
      have go := sel_go (EB σ nc j) hm h3 h4 k6
      rw [hN] at go
      refine Or.inl ⟨((c - m) &&& m, nI (i + 1), s4), ?_, rfl, k4, ?_⟩
      · show (if nI (2 ^ P) ≤ nI i then _ else _) = _
        rw [if_neg (by rw [leI (by omega) (by omega)]; omega), k1, obi_s, k2, obi_s, k3, obi_s, bnd_eq, bnd_eq, nI_1]
      · rcases go with ⟨g1, -, g2⟩ | ⟨g1, -, g2, g3, g4⟩
        · exact Or.inr ⟨g1, b', g2, k5⟩
        · exact Or.inl ⟨g1, g2, g3, Or.inr ⟨b', g4, k5⟩⟩
    · rintro ⟨c, y, s⟩ ⟨rfl, h1, h2⟩
      rcases h2 with ⟨h3, -⟩ | ⟨-, b, h3, h4⟩
      · omega
      · refine ⟨s, ?_, b, h3, h4⟩
        show (if nI (2 ^ P) ≤ nI (2 ^ P) then _ else _) = _
        rw [if_pos (by rw [i32_le]; omega)]
    · have z1 : modi BP σ (fX2_clear σ) := modi.tr (modi.rf (L := BP)) (mX2_clear rfl) (by decide)
      have z2 : fX2_clear σ (2, 0) 1 = -1 := by
        unfold fX2_clear
        simp only [bnd_eq]
        rw [su_slot _ _ _ _ (by decide), su_hit]
      show (0 : Int32) = nI 0 ∧ modi BP σ (fX2_clear σ) ∧ ((0 < 2 ^ P ∧ sb 0 m ∧ rkn m 0 32 = 0 ∧ ((0 : Int32) = 0 ∧ fX2_clear σ (2, 0) 1 = -1 ∨ ∃ b, Bst (EB σ nc j) m 0 b ∧ XB σ nc j (fX2_clear σ) b)) ∨ (0 = 2 ^ P ∧ ∃ b, Mn (EB σ nc j) m b ∧ XB σ nc j (fX2_clear σ) b))
      exact ⟨rfl, z1, Or.inl ⟨N0, sb_0 m, rk_0 m, Or.inl ⟨rfl, z2⟩⟩⟩
  obtain ⟨s, e, b, k1, k2⟩ := key
  exact ⟨s, b, e, k1, k2⟩
