/-! ===== where each cell lies ===== -/
def off (r : Rf) : Nat := match r.1 with
  | 8 => 0 | 23 => 1 | 24 => 2 | 25 => 3 | 26 => 4 | 27 => 5 | 28 => 6 | 5 => 8 | 15 => 9 | 16 => 10 | 17 => 11 | 18 => 12 | 19 => 13 | 2 => 16 | 7 => 17 | 21 => 18 | 22 => 19
  | 4 => (match r.2 with | 0 => 7 | k + 1 => 14 + k)
  | 1 => 20 + 4 * r.2 | 10 => 20 + 4 * r.2 + 1 | 11 => 20 + 4 * r.2 + 2 | 12 => 20 + 4 * r.2 + 3
  | 3 => 64 + 3 * r.2 | 13 => 64 + 3 * r.2 + 1 | 14 => 64 + 3 * r.2 + 2
  | 0 => 100 + 1 * r.2
  | 6 => 112 + 2 * r.2 | 20 => 112 + 2 * r.2 + 1
  | 9 => 120
  | f => f + 92
def rOf (o : Nat) : Rf :=
  if o < 20 then ([(8, 0), (23, 0), (24, 0), (25, 0), (26, 0), (27, 0), (28, 0), (4, 0), (5, 0), (15, 0), (16, 0), (17, 0), (18, 0), (19, 0), (4, 1), (4, 2), (2, 0), (7, 0), (21, 0), (22, 0)] : List Rf).getD o (8, 0)
  else if o < 64 then (match (o - 20) % 4 with | 0 => (1, (o - 20) / 4) | 1 => (10, (o - 20) / 4) | 2 => (11, (o - 20) / 4) | _ => (12, (o - 20) / 4))
  else if o < 100 then (match (o - 64) % 3 with | 0 => (3, (o - 64) / 3) | 1 => (13, (o - 64) / 3) | _ => (14, (o - 64) / 3))
  else if o < 112 then (0, o - 100)
  else if o < 120 then (match (o - 112) % 2 with | 0 => (6, (o - 112) / 2) | _ => (20, (o - 112) / 2))
  else if o = 120 then (9, 0) else (o - 92, 0)
theorem rOf_off : ∀ r ∈ wcells, rOf (off r) = r ∧ off r < 148 := by decide +kernel
theorem rOf_1 : ∀ i, i < 11 → rOf (20 + 4 * i) = (1, i) ∧ rOf (20 + 4 * i + 1) = (10, i) ∧ rOf (20 + 4 * i + 2) = (11, i) ∧ rOf (20 + 4 * i + 3) = (12, i) := by decide +kernel
theorem rOf_3 : ∀ i, i < 12 → rOf (64 + 3 * i) = (3, i) ∧ rOf (64 + 3 * i + 1) = (13, i) ∧ rOf (64 + 3 * i + 2) = (14, i) := by decide +kernel
theorem rOf_0 : ∀ i, i < 12 → rOf (100 + 1 * i) = (0, i) := by decide +kernel
theorem rOf_6 : ∀ i, i < 4 → rOf (112 + 2 * i) = (6, i) ∧ rOf (112 + 2 * i + 1) = (20, i) := by decide +kernel
def aF (h w : Nat) : Rf → Nat := fun r => match r.1 with
  | 56 => w
  | _ => h + off r
def EF (G : Gx) : Nat → va_E := fun o => ent G.2.1 G.2.2.1 st0 (rOf o)
theorem EF_at {G : Gx} {h w : Nat} (hα : G.2.1 = aF h w) {o : Nat} {r : Rf} (hr : rOf o = r) {e : va_E} (he : ent (aF h w) G.2.2.1 st0 r = e) : EF G o = e := by
  unfold EF
  rw [hr, hα, he]
theorem at_rowq {D : va_G} {cl : List vw_C} {a : Nat} {cA : ClassId} {N : Nat} {f g : Nat → Option Nat} {H : Heap} (hfg : ∀ j, j < N → f j = g j) (h : va_at D cl (a, .inl (cA, N, .inr (.inr (.inr (.inr f))))) H) : va_at D cl (a, .inl (cA, N, .inr (.inr (.inr (.inr g))))) H := by
  have h1 : H[a]? = some (arrV cA N (fun j => va_rf (f j))) := h
  show H[a]? = some (arrV cA N (fun j => va_rf (g j)))
  rw [h1]
  unfold arrV
  congr 2
  apply Array.ext
  · simp
  · intro i h1 h2
    simp at h1 ⊢
    rw [hfg i h1]
theorem EF_codes {G : Gx} {h w : Nat} (hα : G.2.1 = aF h w) : ∀ i, i < 11 → ∀ k e, ([.inr (1, [.ref (h + ((20 + 4 * i) + 1)), .ref (h + ((20 + 4 * i) + 2)), .ref (h + ((20 + 4 * i) + 3)), .int 0, .int (-1), .int 0]), .inl (G.2.2.1 1, 80, .inl (fun _ => 0)), .inl (G.2.2.1 0, 17, .inl (wpf)), .inl (G.2.2.1 0, 70, .inl (fun _ => (-1)))] : List va_E)[k]? = some e → EF G ((20 + 4 * i) + k) = e := by
  intro i hi k e he
  have hr := rOf_1 i hi
  have hk : k = 0 ∨ k = 1 ∨ k = 2 ∨ k = 3 := by
    have hlt : k < 4 := (List.getElem?_eq_some_iff.mp he).1
    omega
  rcases hk with rfl | rfl | rfl | rfl
  · cases he
    exact EF_at hα hr.1 rfl
  · cases he
    exact EF_at hα hr.2.1 rfl
  · cases he
    exact EF_at hα hr.2.2.1 rfl
  · cases he
    exact EF_at hα hr.2.2.2 rfl
theorem EF_matches {G : Gx} {h w : Nat} (hα : G.2.1 = aF h w) : ∀ i, i < 12 → ∀ k e, ([.inr (3, [.ref (h + ((64 + 3 * i) + 1)), .ref (h + ((64 + 3 * i) + 2)), .int 0, .int 0]), .inl (G.2.2.1 0, 40, .inl (fun _ => 0)), .inl (G.2.2.1 0, 40, .inl (fun _ => (-1)))] : List va_E)[k]? = some e → EF G ((64 + 3 * i) + k) = e := by
  intro i hi k e he
  have hr := rOf_3 i hi
  have hk : k = 0 ∨ k = 1 ∨ k = 2 := by
    have hlt : k < 3 := (List.getElem?_eq_some_iff.mp he).1
    omega
  rcases hk with rfl | rfl | rfl
  · cases he
    exact EF_at hα hr.1 rfl
  · cases he
    exact EF_at hα hr.2.1 rfl
  · cases he
    exact EF_at hα hr.2.2 rfl
theorem EF_clubs {G : Gx} {h w : Nat} (hα : G.2.1 = aF h w) : ∀ i, i < 12 → ∀ k e, ([.inr (0, [.int 0, .int 0, .int 0])] : List va_E)[k]? = some e → EF G ((100 + 1 * i) + k) = e := by
  intro i hi k e he
  have hr := rOf_0 i hi
  have hk : k = 0 := by
    have hlt : k < 1 := (List.getElem?_eq_some_iff.mp he).1
    omega
  subst hk
  cases he
  exact EF_at hα hr rfl
theorem EF_sheets {G : Gx} {h w : Nat} (hα : G.2.1 = aF h w) : ∀ i, i < 4 → ∀ k e, ([.inr (6, [.ref (h + ((112 + 2 * i) + 1)), .int 1, .int 0, .int 0]), .inl (G.2.2.1 0, 60, .inl (fun _ => 0))] : List va_E)[k]? = some e → EF G ((112 + 2 * i) + k) = e := by
  intro i hi k e he
  have hr := rOf_6 i hi
  have hk : k = 0 ∨ k = 1 := by
    have hlt : k < 2 := (List.getElem?_eq_some_iff.mp he).1
    omega
  rcases hk with rfl | rfl
  · cases he
    exact EF_at hα hr.1 rfl
  · cases he
    exact EF_at hα hr.2 rfl
theorem kc_X8 (G : Gx) {h w : Nat} (hα : G.2.1 = aF h w) (hA : ∀ q, h ≤ q → G.2.2.2.2.2 q) (d : Nat) (hd : 4 ≤ d) : MC G h d yX8_init cX8_init 2 none [.ref (h + 0)] (0 + 1) (uE (EF G) 0 [.inr (8, [.null, .null, .null, .null, .null, .null, .null, .null, .null, .null, .int 0, .int 0, .int 0, .int 0, .int 0, .int 0])]) none 120 (EF G) 119 7818 := by
  refine MC_of hA (by decide) (Nat.le_of_ble_eq_true rfl) rfl (fun K hG hnL C hR hRo Y hnm hK => ?_) (by omega)
  subst hG
  refine ks_X8 (n := 0) (E := EF K.1) hd C Y hR hRo hnm (by decide) (by decide) ?_
  refine tc_iconst (v := 0) C dX8_init_119 (by decide) ?_
  refine tc_istore_n (lv' := [(0, .ref (h + 0)), (1, .int (nI 0))]) C [1, 0] dX8_init_120 rfl (by rw [hnL]; decide) rfl ?_
  generalize hF0 : uE (EF K.1) 0 [.inr (8, [.ref (h + (0 + 1)), .ref (h + (0 + 2)), .ref (h + (0 + 3)), .ref (h + (0 + 4)), .ref (h + (0 + 5)), .ref (h + (0 + 6)), .ref (h + (0 + 7)), .ref (h + (0 + 8)), .ref (h + (0 + 16)), .ref (h + (0 + 17)), .int 0, .int 0, .int 2, .int 3, .int 1, .int 0]), .inl (K.1.2.2.1 3, 11, .inr (.inr (.inr (.inr (fun _ => none))))), .inl (K.1.2.2.1 4, 12, .inr (.inr (.inr (.inr (fun _ => none))))), .inl (K.1.2.2.1 5, 12, .inr (.inr (.inr (.inr (fun _ => none))))), .inl (K.1.2.2.1 6, 4, .inr (.inr (.inr (.inr (fun _ => none))))), .inl (K.1.2.2.1 0, 17, .inl (wpf)), .inl (K.1.2.2.1 0, 17, .inl (fun _ => 0)), .inr (4, [.int 0, .int 0, .int 0, .int 0, .int 0, .int 0, .int 0, .int 0, .int 0, .int 0]), .inr (5, [.ref (h + (0 + 9)), .ref (h + (0 + 10)), .ref (h + (0 + 11)), .ref (h + (0 + 12)), .ref (h + (0 + 13)), .ref (h + (0 + 14)), .ref (h + (0 + 15)), .int 0, .int 0]), .inl (K.1.2.2.1 0, 63, .inl (fun _ => 0)), .inl (K.1.2.2.1 0, 63, .inl (fun _ => 0)), .inl (K.1.2.2.1 0, 63, .inl (fun _ => 0)), .inl (K.1.2.2.1 0, 63, .inl (fun _ => 0)), .inl (K.1.2.2.1 0, 6, .inl (fun _ => 0)), .inr (4, [.int 0, .int 0, .int 0, .int 0, .int 0, .int 0, .int 0, .int 0, .int 0, .int 0]), .inr (4, [.int 0, .int 0, .int 0, .int 0, .int 0, .int 0, .int 0, .int 0, .int 0, .int 0]), .inr (2, [.int 0, .int 0, .int 0]), .inr (7, [.ref (h + (0 + 18)), .ref (h + (0 + 19))]), .inl (K.1.2.2.1 0, 144, .inl (fun _ => 50)), .inl (K.1.2.2.1 0, 4096, .inl (fun _ => 0))] = F0'
  have f0 : F0' 0 = .inr (8, [.ref (h + (0 + 1)), .ref (h + (0 + 2)), .ref (h + (0 + 3)), .ref (h + (0 + 4)), .ref (h + (0 + 5)), .ref (h + (0 + 6)), .ref (h + (0 + 7)), .ref (h + (0 + 8)), .ref (h + (0 + 16)), .ref (h + (0 + 17)), .int 0, .int 0, .int 2, .int 3, .int 1, .int 0]) := by rw [← hF0]; exact uE_at (k := 0) rfl
  have f1 : F0' 1 = rent K.1 3 11 (fun _ => none) := by rw [← hF0]; exact uE_at (k := 1) rfl
  have f2 : F0' 2 = rent K.1 4 12 (fun _ => none) := by rw [← hF0]; exact uE_at (k := 2) rfl
  have f3 : F0' 3 = rent K.1 5 12 (fun _ => none) := by rw [← hF0]; exact uE_at (k := 3) rfl
  have f4 : F0' 4 = rent K.1 6 4 (fun _ => none) := by rw [← hF0]; exact uE_at (k := 4) rfl
  have fg : ∀ o, 20 ≤ o → F0' o = EF K.1 o := fun o ho => by rw [← hF0]; exact uE_ge ho
  refine tc_eq (n' := 20 + 4 * 0) (ce' := 19 + 4 * 0) (sl' := 4615 + 173 * 0) (by omega) (by omega) (by omega) ?_
  refine tc_congr (E' := fE F0' 1 (rent K.1 3 11 (rfn h 20 4 0))) (fun o _ => ?_) ?_
  · by_cases c : o = 1
    · subst c
      rw [fE_at, rfn_0]
      exact (f1).symm
    · rw [fE_ne c]
  refine lp_codes C Y hd hR hRo hnL (f0) rfl (fun i hi k e he => ?_) ?_ 12 0 (by omega) (by omega)
  · rw [fg _ (by omega)]
    exact EF_codes hα i hi k e he
  generalize hG1 : fE F0' 1 (rent K.1 3 11 (rfn h 20 4 11)) = G1
  have g1_0 : G1 0 = .inr (8, [.ref (h + (0 + 1)), .ref (h + (0 + 2)), .ref (h + (0 + 3)), .ref (h + (0 + 4)), .ref (h + (0 + 5)), .ref (h + (0 + 6)), .ref (h + (0 + 7)), .ref (h + (0 + 8)), .ref (h + (0 + 16)), .ref (h + (0 + 17)), .int 0, .int 0, .int 2, .int 3, .int 1, .int 0]) := by rw [← hG1, fE_ne (by decide)]; exact f0
  have g1_2 : G1 2 = rent K.1 4 12 (fun _ => none) := by rw [← hG1, fE_ne (by decide)]; exact f2
  have g1_3 : G1 3 = rent K.1 5 12 (fun _ => none) := by rw [← hG1, fE_ne (by decide)]; exact f3
  have g1_4 : G1 4 = rent K.1 6 4 (fun _ => none) := by rw [← hG1, fE_ne (by decide)]; exact f4
  have gg1 : ∀ o, 20 ≤ o → G1 o = EF K.1 o := fun o ho => by rw [← hG1, fE_ne (by omega)]; exact fg o ho
  refine tc_iconst (v := 0) C dX8_init_146 (by decide) ?_
  refine tc_istore_n (lv' := [(0, .ref (h + 0)), (1, .int (nI 0))]) C [1, 0] dX8_init_147 rfl (by rw [hnL]; decide) rfl ?_
  refine tc_eq (n' := 64 + 3 * 0) (ce' := 63 + 3 * 0) (sl' := 6518 + 84 * 0) (by omega) (by omega) (by omega) ?_
  refine tc_congr (E' := fE G1 2 (rent K.1 4 12 (rfn h 64 3 0))) (fun o _ => ?_) ?_
  · by_cases c : o = 2
    · subst c
      rw [fE_at, rfn_0]
      exact (g1_2).symm
    · rw [fE_ne c]
  refine lp_matches C Y hd hR hRo hnL (g1_0) rfl (fun i hi k e he => ?_) ?_ 13 0 (by omega) (by omega)
  · rw [gg1 _ (by omega)]
    exact EF_matches hα i hi k e he
  generalize hG2 : fE G1 2 (rent K.1 4 12 (rfn h 64 3 12)) = G2
  have g2_0 : G2 0 = .inr (8, [.ref (h + (0 + 1)), .ref (h + (0 + 2)), .ref (h + (0 + 3)), .ref (h + (0 + 4)), .ref (h + (0 + 5)), .ref (h + (0 + 6)), .ref (h + (0 + 7)), .ref (h + (0 + 8)), .ref (h + (0 + 16)), .ref (h + (0 + 17)), .int 0, .int 0, .int 2, .int 3, .int 1, .int 0]) := by rw [← hG2, fE_ne (by decide)]; exact g1_0
  have g2_3 : G2 3 = rent K.1 5 12 (fun _ => none) := by rw [← hG2, fE_ne (by decide)]; exact g1_3
  have g2_4 : G2 4 = rent K.1 6 4 (fun _ => none) := by rw [← hG2, fE_ne (by decide)]; exact g1_4
  have gg2 : ∀ o, 20 ≤ o → G2 o = EF K.1 o := fun o ho => by rw [← hG2, fE_ne (by omega)]; exact gg1 o ho
  refine tc_iconst (v := 0) C dX8_init_173 (by decide) ?_
  refine tc_istore_n (lv' := [(0, .ref (h + 0)), (1, .int (nI 0))]) C [1, 0] dX8_init_174 rfl (by rw [hnL]; decide) rfl ?_
  refine tc_eq (n' := 100 + 1 * 0) (ce' := 99 + 1 * 0) (sl' := 7526 + 3 * 0) (by omega) (by omega) (by omega) ?_
  refine tc_congr (E' := fE G2 3 (rent K.1 5 12 (rfn h 100 1 0))) (fun o _ => ?_) ?_
  · by_cases c : o = 3
    · subst c
      rw [fE_at, rfn_0]
      exact (g2_3).symm
    · rw [fE_ne c]
  refine lp_clubs C Y hd hR hRo hnL (g2_0) rfl (fun i hi k e he => ?_) ?_ 13 0 (by omega) (by omega)
  · rw [gg2 _ (by omega)]
    exact EF_clubs hα i hi k e he
  generalize hG3 : fE G2 3 (rent K.1 5 12 (rfn h 100 1 12)) = G3
  have g3_0 : G3 0 = .inr (8, [.ref (h + (0 + 1)), .ref (h + (0 + 2)), .ref (h + (0 + 3)), .ref (h + (0 + 4)), .ref (h + (0 + 5)), .ref (h + (0 + 6)), .ref (h + (0 + 7)), .ref (h + (0 + 8)), .ref (h + (0 + 16)), .ref (h + (0 + 17)), .int 0, .int 0, .int 2, .int 3, .int 1, .int 0]) := by rw [← hG3, fE_ne (by decide)]; exact g2_0
  have g3_4 : G3 4 = rent K.1 6 4 (fun _ => none) := by rw [← hG3, fE_ne (by decide)]; exact g2_4
  have gg3 : ∀ o, 20 ≤ o → G3 o = EF K.1 o := fun o ho => by rw [← hG3, fE_ne (by omega)]; exact gg2 o ho
  refine tc_iconst (v := 0) C dX8_init_200 (by decide) ?_
  refine tc_istore_n (lv' := [(0, .ref (h + 0)), (1, .int (nI 0))]) C [1, 0] dX8_init_201 rfl (by rw [hnL]; decide) rfl ?_
  refine tc_eq (n' := 112 + 2 * 0) (ce' := 111 + 2 * 0) (sl' := 7562 + 64 * 0) (by omega) (by omega) (by omega) ?_
  refine tc_congr (E' := fE G3 4 (rent K.1 6 4 (rfn h 112 2 0))) (fun o _ => ?_) ?_
  · by_cases c : o = 4
    · subst c
      rw [fE_at, rfn_0]
      exact (g3_4).symm
    · rw [fE_ne c]
  refine lp_sheets C Y hd hR hRo hnL (g3_0) rfl (fun i hi k e he => ?_) ?_ 5 0 (by omega) (by omega)
  · rw [gg3 _ (by omega)]
    exact EF_sheets hα i hi k e he
  generalize hG4 : fE G3 4 (rent K.1 6 4 (rfn h 112 2 4)) = G4
  have g4_0 : G4 0 = .inr (8, [.ref (h + (0 + 1)), .ref (h + (0 + 2)), .ref (h + (0 + 3)), .ref (h + (0 + 4)), .ref (h + (0 + 5)), .ref (h + (0 + 6)), .ref (h + (0 + 7)), .ref (h + (0 + 8)), .ref (h + (0 + 16)), .ref (h + (0 + 17)), .int 0, .int 0, .int 2, .int 3, .int 1, .int 0]) := by rw [← hG4, fE_ne (by decide)]; exact g3_0
  have gg4 : ∀ o, 20 ≤ o → G4 o = EF K.1 o := fun o ho => by rw [← hG4, fE_ne (by omega)]; exact gg3 o ho
  refine tc_vret C hK rfl rfl rfl rfl dX8_init_226 (fun G H o ho hG q => ?_)
  subst hG
  by_cases c : 20 ≤ o
  · rw [gg4 o c] at q
    exact q
  have hc : o < 20 := by omega
  have cs : o = 0 ∨ o = 1 ∨ o = 2 ∨ o = 3 ∨ o = 4 ∨ o = 5 ∨ o = 6 ∨ o = 7 ∨ o = 8 ∨ o = 9 ∨ o = 10 ∨ o = 11 ∨ o = 12 ∨ o = 13 ∨ o = 14 ∨ o = 15 ∨ o = 16 ∨ o = 17 ∨ o = 18 ∨ o = 19 := by omega
  rcases cs with rfl | rfl | rfl | rfl | rfl | rfl | rfl | rfl | rfl | rfl | rfl | rfl | rfl | rfl | rfl | rfl | rfl | rfl | rfl | rfl
  · rw [← hG4, fE_ne (by decide), ← hG3, fE_ne (by decide), ← hG2, fE_ne (by decide), ← hG1, fE_ne (by decide), ← hF0] at q
    rw [EF_at hα (show rOf 0 = _ from rfl) rfl]
    exact q
  · rw [← hG4, fE_ne (by decide), ← hG3, fE_ne (by decide), ← hG2, fE_ne (by decide), ← hG1, fE_at] at q
    rw [EF_at hα (show rOf 1 = (23, 0) from rfl) rfl]
    exact at_rowq (fun j hj => (if_pos hj).trans rfl) q
  · rw [← hG4, fE_ne (by decide), ← hG3, fE_ne (by decide), ← hG2, fE_at] at q
    rw [EF_at hα (show rOf 2 = (24, 0) from rfl) rfl]
    exact at_rowq (fun j hj => (if_pos hj).trans rfl) q
  · rw [← hG4, fE_ne (by decide), ← hG3, fE_at] at q
    rw [EF_at hα (show rOf 3 = (25, 0) from rfl) rfl]
    exact at_rowq (fun j hj => (if_pos hj).trans rfl) q
  · rw [← hG4, fE_at] at q
    rw [EF_at hα (show rOf 4 = (26, 0) from rfl) rfl]
    exact at_rowq (fun j hj => (if_pos hj).trans rfl) q
  · rw [← hG4, fE_ne (by decide), ← hG3, fE_ne (by decide), ← hG2, fE_ne (by decide), ← hG1, fE_ne (by decide), ← hF0] at q
    rw [EF_at hα (show rOf 5 = _ from rfl) rfl]
    exact q
  · rw [← hG4, fE_ne (by decide), ← hG3, fE_ne (by decide), ← hG2, fE_ne (by decide), ← hG1, fE_ne (by decide), ← hF0] at q
    rw [EF_at hα (show rOf 6 = _ from rfl) rfl]
    exact q
  · rw [← hG4, fE_ne (by decide), ← hG3, fE_ne (by decide), ← hG2, fE_ne (by decide), ← hG1, fE_ne (by decide), ← hF0] at q
    rw [EF_at hα (show rOf 7 = _ from rfl) rfl]
    exact q
  · rw [← hG4, fE_ne (by decide), ← hG3, fE_ne (by decide), ← hG2, fE_ne (by decide), ← hG1, fE_ne (by decide), ← hF0] at q
    rw [EF_at hα (show rOf 8 = _ from rfl) rfl]
    exact q
  · rw [← hG4, fE_ne (by decide), ← hG3, fE_ne (by decide), ← hG2, fE_ne (by decide), ← hG1, fE_ne (by decide), ← hF0] at q
    rw [EF_at hα (show rOf 9 = _ from rfl) rfl]
    exact q
  · rw [← hG4, fE_ne (by decide), ← hG3, fE_ne (by decide), ← hG2, fE_ne (by decide), ← hG1, fE_ne (by decide), ← hF0] at q
    rw [EF_at hα (show rOf 10 = _ from rfl) rfl]
    exact q
  · rw [← hG4, fE_ne (by decide), ← hG3, fE_ne (by decide), ← hG2, fE_ne (by decide), ← hG1, fE_ne (by decide), ← hF0] at q
    rw [EF_at hα (show rOf 11 = _ from rfl) rfl]
    exact q
  · rw [← hG4, fE_ne (by decide), ← hG3, fE_ne (by decide), ← hG2, fE_ne (by decide), ← hG1, fE_ne (by decide), ← hF0] at q
    rw [EF_at hα (show rOf 12 = _ from rfl) rfl]
    exact q
  · rw [← hG4, fE_ne (by decide), ← hG3, fE_ne (by decide), ← hG2, fE_ne (by decide), ← hG1, fE_ne (by decide), ← hF0] at q
    rw [EF_at hα (show rOf 13 = _ from rfl) rfl]
    exact q
  · rw [← hG4, fE_ne (by decide), ← hG3, fE_ne (by decide), ← hG2, fE_ne (by decide), ← hG1, fE_ne (by decide), ← hF0] at q
    rw [EF_at hα (show rOf 14 = _ from rfl) rfl]
    exact q
  · rw [← hG4, fE_ne (by decide), ← hG3, fE_ne (by decide), ← hG2, fE_ne (by decide), ← hG1, fE_ne (by decide), ← hF0] at q
    rw [EF_at hα (show rOf 15 = _ from rfl) rfl]
    exact q
  · rw [← hG4, fE_ne (by decide), ← hG3, fE_ne (by decide), ← hG2, fE_ne (by decide), ← hG1, fE_ne (by decide), ← hF0] at q
    rw [EF_at hα (show rOf 16 = _ from rfl) rfl]
    exact q
  · rw [← hG4, fE_ne (by decide), ← hG3, fE_ne (by decide), ← hG2, fE_ne (by decide), ← hG1, fE_ne (by decide), ← hF0] at q
    rw [EF_at hα (show rOf 17 = _ from rfl) rfl]
    exact q
  · rw [← hG4, fE_ne (by decide), ← hG3, fE_ne (by decide), ← hG2, fE_ne (by decide), ← hG1, fE_ne (by decide), ← hF0] at q
    rw [EF_at hα (show rOf 18 = _ from rfl) rfl]
    exact q
  · rw [← hG4, fE_ne (by decide), ← hG3, fE_ne (by decide), ← hG2, fE_ne (by decide), ← hG1, fE_ne (by decide), ← hF0] at q
    rw [EF_at hα (show rOf 19 = _ from rfl) rfl]
    exact q
