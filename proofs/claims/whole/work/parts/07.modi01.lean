set_option maxRecDepth 20000 in
set_option maxHeartbeats 1000000 in
theorem mJ7_fill_53178 {σ : St} {r0 : Rf} {a1 : Int32} {σ' : St} {L : List Nat} (h10 : ¬ r0.1 < 10) (hL : r0.1 ∈ L) (h : fJ7_fill_53178 σ r0 a1 = some σ') : modi L σ σ' := by
  have mσ : modi L σ σ := modi.rf
  unfold fJ7_fill_53178 at h
  obtain ⟨hb1, eh1⟩ := grd_some h
  obtain ⟨x1, hv2, eh2⟩ := bnd_ex eh1
  refine lpF_md (I := fun (q : Int32 × St) => match q with | (x2, σ1) => modi L σ σ1) ?_ eh2 mσ
  rintro ⟨x2, σ1⟩ w3 hx3 mσ1 lc3 lx3
  replace mσ1 : modi L σ σ1 := mσ1
  by_cases hc3 : x1 ≤ x2
  · have ht3 := ite_t hc3 hx3
    have e4 := congrArg some (lx3 _ (Option.some.inj ht3).symm)
    obtain rfl := (Option.some.inj e4)
    exact mσ1
  · have hf3 := ite_f hc3 hx3
    obtain ⟨hb5, eh5⟩ := grd_some hf3
    obtain ⟨σ2, hv6, eh6⟩ := bnd_ex eh5
    have mσ2 : modi L σ σ2 := hv6 ▸ modi.sr mσ1 h10 hL
    obtain ⟨x3, hv7, eh7⟩ := bnd_ex eh6
    exact lc3 _ (Option.some.inj eh7).symm mσ2

set_option maxRecDepth 20000 in
set_option maxHeartbeats 1000000 in
theorem mX1_forgetParts {σ : St} {t0 : Nat} {σ' : St} (h : fX1_forgetParts σ t0 = some σ') : modi [11, 12] σ σ' := by
  have mσ : modi [11, 12] σ σ := modi.rf
  unfold fX1_forgetParts at h
  obtain ⟨hb1, eh1⟩ := grd_some h
  obtain ⟨σ1, hv2, eh2⟩ := bnd_ex eh1
  have mσ1 : modi [11, 12] σ σ1 := hv2 ▸ modi.sr mσ (show ¬ (11 : Nat) < 10 by decide) (show (11 : Nat) ∈ ([11, 12] : List Nat) by decide)
  obtain ⟨σ2, hv3, eh3⟩ := obi_some eh2
  have mσ2 : modi [11, 12] σ σ2 := mσ1.tr (mJ7_fill_53178 (L := [11, 12]) (show ¬ (12 : Nat) < 10 by decide) (show (12 : Nat) ∈ ([11, 12] : List Nat) by decide) hv3) (by decide)
  obtain rfl := (Option.some.inj eh3)
  exact mσ2

set_option maxRecDepth 20000 in
set_option maxHeartbeats 1000000 in
theorem mX1_say {σ : St} {t0 : Nat} {a1 : Int32} {a2 : Int32} {a3 : Int32} {a4 : Int32} {a5 : Bool} {σ' : St} (h : fX1_say σ t0 a1 a2 a3 a4 a5 = some σ') : modi [11, 12] σ σ' := by
  have mσ : modi [11, 12] σ σ := modi.rf
  unfold fX1_say at h
  refine lpF_md (I := fun (q : Int32 × St) => match q with | (x1, σ1) => modi [11, 12] σ σ1) ?_ h mσ
  rintro ⟨x1, σ1⟩ w1 hx1 mσ1 lc1 lx1
  replace mσ1 : modi [11, 12] σ σ1 := mσ1
  by_cases hc1 : a4 < x1
  · have ht1 := ite_t hc1 hx1
    have e2 := congrArg some (lx1 _ (Option.some.inj ht1).symm)
    obtain rfl := (Option.some.inj e2)
    exact mσ1
  · have hf1 := ite_f hc1 hx1
    obtain ⟨x2, hx4, hq4⟩ := obi_some hf1
    obtain ⟨hb3, eh3⟩ := grd_some hq4
    obtain ⟨σ2, hv4, eh4⟩ := bnd_ex eh3
    have mσ2 : modi [11, 12] σ σ2 := hv4 ▸ modi.sr mσ1 (show ¬ (11 : Nat) < 10 by decide) (show (11 : Nat) ∈ ([11, 12] : List Nat) by decide)
    obtain ⟨hb5, eh5⟩ := grd_some eh4
    obtain ⟨σ3, hv6, eh6⟩ := bnd_ex eh5
    have mσ3 : modi [11, 12] σ σ3 := hv6 ▸ modi.sr mσ2 (show ¬ (12 : Nat) < 10 by decide) (show (12 : Nat) ∈ ([11, 12] : List Nat) by decide)
    obtain ⟨x3, hv7, eh7⟩ := bnd_ex eh6
    exact lc1 _ (Option.some.inj eh7).symm mσ3

set_option maxRecDepth 20000 in
set_option maxHeartbeats 1000000 in
theorem mX1_readCells {σ : St} {t0 : Nat} {a1 : Int32} {a2 : Bool} {v0 : Int32} {σ' : St} (h : fX1_readCells σ t0 a1 a2 = some (v0, σ')) : modi [11, 12, 1105] σ σ' := by
  have mσ : modi [11, 12, 1105] σ σ := modi.rf
  unfold fX1_readCells at h
  obtain ⟨x1, hv1, eh1⟩ := obi_some h
  by_cases hc2 : x1 = (-1 : Int32)
  · have ht2 := ite_t hc2 eh1
    obtain ⟨rfl, rfl⟩ := pj2 (Option.some.inj ht2)
    exact mσ
  · have hf2 := ite_f hc2 eh1
    obtain ⟨σ1, hv3, eh3⟩ := bnd_ex hf2
    have mσ1 : modi [11, 12, 1105] σ σ1 := hv3 ▸ modi.su mσ (show (1105 : Nat) ∈ ([11, 12, 1105] : List Nat) by decide)
    obtain ⟨x2, hv4, eh4⟩ := obi_some eh3
    obtain ⟨y5, hx5, hy5⟩ := bj_some eh4
    have hJ5 : ∀ (x3 : Int32) (x4 : Int32) (σ2 : St), y5 = .inr (x3, x4, σ2) → modi [11, 12, 1105] σ σ2 → modi [11, 12, 1105] σ σ' := by
      intro x3 x4 σ2 ey5 mσ2
      have hq5 := bj_r ey5 hy5
      obtain ⟨σ6, hv5, eh5⟩ := obi_some hq5
      have mσ6 : modi [11, 12, 1105] σ σ6 := mσ2.tr (mX1_say hv5) (by decide)
      obtain ⟨rfl, rfl⟩ := pj2 (Option.some.inj eh5)
      exact mσ6
    by_cases hc6 : x2 = (-1 : Int32)
    · have ht6 := ite_t hc6 hx5
      exact hJ5 _ _ _ (Option.some.inj ht6).symm mσ1
    · have hf6 := ite_f hc6 hx5
      obtain ⟨x5, hv7, eh7⟩ := obi_some hf6
      by_cases hc8 : x5 ≤ (6 : Int32)
      · have ht8 := ite_t hc8 eh7
        obtain ⟨σ3, hv9, eh9⟩ := bnd_ex ht8
        have mσ3 : modi [11, 12, 1105] σ σ3 := hv9 ▸ modi.su mσ1 (show (1105 : Nat) ∈ ([11, 12, 1105] : List Nat) by decide)
        by_cases hc10 : (σ3 (1, t0) 3) ≤ (σ3 (1, t0) 5)
        · have ht10 := ite_t hc10 eh9
          have e11 := bj_l ht10 hy5
          obtain ⟨rfl, rfl⟩ := pj2 (Option.some.inj e11)
          exact mσ3
        · have hf10 := ite_f hc10 eh9
          obtain ⟨hb12, eh12⟩ := grd_some hf10
          by_cases hc13 : (σ3 (10, t0) (tn (σ3 (1, t0) 5))) = (45 : Int32)
          · have ht13 := ite_t hc13 eh12
            obtain ⟨σ4, hv14, eh14⟩ := bnd_ex ht13
            have mσ4 : modi [11, 12, 1105] σ σ4 := hv14 ▸ modi.su mσ3 (show (1105 : Nat) ∈ ([11, 12, 1105] : List Nat) by decide)
            obtain ⟨x6, hv15, eh15⟩ := obi_some eh14
            by_cases hc16 : x6 < x5
            · have ht16 := ite_t hc16 eh15
              have e17 := bj_l ht16 hy5
              obtain ⟨rfl, rfl⟩ := pj2 (Option.some.inj e17)
              exact mσ4
            · have hf16 := ite_f hc16 eh15
              by_cases hc18 : x6 ≤ (6 : Int32)
              · have ht18 := ite_t hc18 hf16
                obtain ⟨σ5, hv19, eh19⟩ := bnd_ex ht18
                have mσ5 : modi [11, 12, 1105] σ σ5 := hv19 ▸ modi.su mσ4 (show (1105 : Nat) ∈ ([11, 12, 1105] : List Nat) by decide)
                exact hJ5 _ _ _ (Option.some.inj eh19).symm mσ5
              · have hf18 := ite_f hc18 hf16
                have e20 := bj_l hf18 hy5
                obtain ⟨rfl, rfl⟩ := pj2 (Option.some.inj e20)
                exact mσ4
          · have hf13 := ite_f hc13 eh12
            have e21 := bj_l hf13 hy5
            obtain ⟨rfl, rfl⟩ := pj2 (Option.some.inj e21)
            exact mσ3
      · have hf8 := ite_f hc8 eh7
        have e22 := bj_l hf8 hy5
        obtain ⟨rfl, rfl⟩ := pj2 (Option.some.inj e22)
        exact mσ1

set_option maxRecDepth 20000 in
set_option maxHeartbeats 1000000 in
theorem mX1_readNumber {σ : St} {t0 : Nat} {a1 : Int32} {a2 : Int32} {v0 : Int32} {σ' : St} (h : fX1_readNumber σ t0 a1 a2 = some (v0, σ')) : modi [11, 1105] σ σ' := by
  have mσ : modi [11, 1105] σ σ := modi.rf
  unfold fX1_readNumber at h
  obtain ⟨x1, hv1, eh1⟩ := bnd_ex h
  obtain ⟨x2, hv2, eh2⟩ := obi_some eh1
  by_cases hc3 : x2 = (-1 : Int32)
  · have ht3 := ite_t hc3 eh2
    obtain ⟨rfl, rfl⟩ := pj2 (Option.some.inj ht3)
    exact mσ
  · have hf3 := ite_f hc3 eh2
    obtain ⟨σ1, hv4, eh4⟩ := bnd_ex hf3
    have mσ1 : modi [11, 1105] σ σ1 := hv4 ▸ modi.su mσ (show (1105 : Nat) ∈ ([11, 1105] : List Nat) by decide)
    obtain ⟨x3, hv5, eh5⟩ := obi_some eh4
    obtain ⟨⟨x4, σ2⟩, hx6, hq6⟩ := bnd_ex eh5
    have mσ2 : modi [11, 1105] σ σ2 := by
      by_cases hc6 : x3 = (-1 : Int32)
      · have ht6 := ite_t hc6 hx6
        obtain ⟨rfl, rfl⟩ := pj2 ht6
        exact mσ1
      · have hf6 := ite_f hc6 hx6
        obtain ⟨x5, hv7, eh7⟩ := bnd_ex hf6
        obtain ⟨σ3, hv8, eh8⟩ := bnd_ex eh7
        have mσ3 : modi [11, 1105] σ σ3 := hv8 ▸ modi.su mσ1 (show (1105 : Nat) ∈ ([11, 1105] : List Nat) by decide)
        obtain ⟨rfl, rfl⟩ := pj2 eh8
        exact mσ3
    by_cases hc9 : a2 ≤ x4
    · have ht9 := ite_t hc9 hq6
      obtain ⟨hb10, eh10⟩ := grd_some ht9
      obtain ⟨σ4, hv11, eh11⟩ := bnd_ex eh10
      have mσ4 : modi [11, 1105] σ σ4 := hv11 ▸ modi.sr mσ2 (show ¬ (11 : Nat) < 10 by decide) (show (11 : Nat) ∈ ([11, 1105] : List Nat) by decide)
      obtain ⟨rfl, rfl⟩ := pj2 (Option.some.inj eh11)
      exact mσ4
    · have hf9 := ite_f hc9 hq6
      obtain ⟨rfl, rfl⟩ := pj2 (Option.some.inj hf9)
      exact mσ2

set_option maxRecDepth 20000 in
set_option maxHeartbeats 1000000 in
theorem mX1_readFigure {σ : St} {t0 : Nat} {a1 : Int32} {a2 : Int32} {v0 : Int32} {σ' : St} (h : fX1_readFigure σ t0 a1 a2 = some (v0, σ')) : modi [11, 1105] σ σ' := by
  have mσ : modi [11, 1105] σ σ := modi.rf
  unfold fX1_readFigure at h
  obtain ⟨x1, hv1, eh1⟩ := obi_some h
  by_cases hc2 : x1 = (-1 : Int32)
  · have ht2 := ite_t hc2 eh1
    obtain ⟨rfl, rfl⟩ := pj2 (Option.some.inj ht2)
    exact mσ
  · have hf2 := ite_f hc2 eh1
    by_cases hc3 : x1 ≤ a2
    · have ht3 := ite_t hc3 hf2
      obtain ⟨hb4, eh4⟩ := grd_some ht3
      obtain ⟨σ1, hv5, eh5⟩ := bnd_ex eh4
      have mσ1 : modi [11, 1105] σ σ1 := hv5 ▸ modi.sr mσ (show ¬ (11 : Nat) < 10 by decide) (show (11 : Nat) ∈ ([11, 1105] : List Nat) by decide)
      obtain ⟨σ2, hv6, eh6⟩ := bnd_ex eh5
      have mσ2 : modi [11, 1105] σ σ2 := hv6 ▸ modi.su mσ1 (show (1105 : Nat) ∈ ([11, 1105] : List Nat) by decide)
      obtain ⟨rfl, rfl⟩ := pj2 (Option.some.inj eh6)
      exact mσ2
    · have hf3 := ite_f hc3 hf2
      obtain ⟨rfl, rfl⟩ := pj2 (Option.some.inj hf3)
      exact mσ

set_option maxRecDepth 20000 in
set_option maxHeartbeats 1000000 in
theorem mX1_readPoints {σ : St} {t0 : Nat} {v0 : Int32} {σ' : St} (h : fX1_readPoints σ t0 = some (v0, σ')) : modi [11, 1105] σ σ' := by
  have mσ : modi [11, 1105] σ σ := modi.rf
  unfold fX1_readPoints at h
  obtain ⟨x1, hv1, eh1⟩ := obi_some h
  obtain ⟨y2, hx2, hy2⟩ := bj_some eh1
  have hJ2 : ∀ (x2 : Int32), y2 = .inr x2 → modi [11, 1105] σ σ' := by
    intro x2 ey2
    have hq2 := bj_r ey2 hy2
    obtain ⟨σ1, hv2, eh2⟩ := bnd_ex hq2
    have mσ1 : modi [11, 1105] σ σ1 := hv2 ▸ modi.su mσ (show (1105 : Nat) ∈ ([11, 1105] : List Nat) by decide)
    by_cases hc3 : (σ1 (1, t0) 3) ≤ (σ1 (1, t0) 5)
    · have ht3 := ite_t hc3 eh2
      obtain ⟨rfl, rfl⟩ := pj2 (Option.some.inj ht3)
      exact mσ1
    · have hf3 := ite_f hc3 eh2
      obtain ⟨hb4, eh4⟩ := grd_some hf3
      by_cases hc5 : (σ1 (10, t0) (tn (σ1 (1, t0) 5))) = (61 : Int32)
      · have ht5 := ite_t hc5 eh4
        obtain ⟨σ2, hv6, eh6⟩ := bnd_ex ht5
        have mσ2 : modi [11, 1105] σ σ2 := hv6 ▸ modi.su mσ1 (show (1105 : Nat) ∈ ([11, 1105] : List Nat) by decide)
        obtain ⟨⟨x3, σ3⟩, hv7, eh7⟩ := obi_some eh6
        have mσ3 : modi [11, 1105] σ σ3 := mσ2.tr (mX1_readFigure hv7) (by decide)
        obtain ⟨rfl, rfl⟩ := pj2 (Option.some.inj eh7)
        exact mσ3
      · have hf5 := ite_f hc5 eh4
        obtain ⟨rfl, rfl⟩ := pj2 (Option.some.inj hf5)
        exact mσ1
  by_cases hc8 : x1 = (4 : Int32)
  · have ht8 := ite_t hc8 hx2
    exact hJ2 _ (Option.some.inj ht8).symm
  · have hf8 := ite_f hc8 hx2
    by_cases hc9 : x1 = (8 : Int32)
    · have ht9 := ite_t hc9 hf8
      exact hJ2 _ (Option.some.inj ht9).symm
    · have hf9 := ite_f hc9 hf8
      by_cases hc10 : x1 = (9 : Int32)
      · have ht10 := ite_t hc10 hf9
        exact hJ2 _ (Option.some.inj ht10).symm
      · have hf10 := ite_f hc10 hf9
        have e11 := bj_l hf10 hy2
        obtain ⟨rfl, rfl⟩ := pj2 (Option.some.inj e11)
        exact mσ

set_option maxRecDepth 20000 in
set_option maxHeartbeats 1000000 in
theorem mX1_readPart {σ : St} {t0 : Nat} {a1 : Int32} {v0 : Int32} {σ' : St} (h : fX1_readPart σ t0 a1 = some (v0, σ')) : modi [11, 12, 1105] σ σ' := by
  have mσ : modi [11, 12, 1105] σ σ := modi.rf
  unfold fX1_readPart at h
  by_cases hc1 : (σ (1, t0) 5) < (σ (1, t0) 3)
  · have ht1 := ite_t hc1 h
    obtain ⟨hb2, eh2⟩ := grd_some ht1
    obtain ⟨x1, hv3, eh3⟩ := bnd_ex eh2
    obtain ⟨σ1, hv4, eh4⟩ := bnd_ex eh3
    have mσ1 : modi [11, 12, 1105] σ σ1 := hv4 ▸ modi.su mσ (show (1105 : Nat) ∈ ([11, 12, 1105] : List Nat) by decide)
    by_cases hc5 : x1 = 97
    · have ht5 := ite_t hc5 eh4
      obtain ⟨⟨x2, σ2⟩, hv6, eh6⟩ := obi_some ht5
      have mσ2 : modi [11, 12, 1105] σ σ2 := mσ1.tr (mX1_readFigure hv6) (by decide)
      obtain ⟨rfl, rfl⟩ := pj2 (Option.some.inj eh6)
      exact mσ2
    · have hf5 := ite_f hc5 eh4
      by_cases hc7 : x1 = 101
      · have ht7 := ite_t hc7 hf5
        obtain ⟨⟨x3, σ3⟩, hv8, eh8⟩ := obi_some ht7
        have mσ3 : modi [11, 12, 1105] σ σ3 := mσ1.tr (mX1_readNumber hv8) (by decide)
        obtain ⟨rfl, rfl⟩ := pj2 (Option.some.inj eh8)
        exact mσ3
      · have hf7 := ite_f hc7 hf5
        by_cases hc9 : x1 = 103
        · have ht9 := ite_t hc9 hf7
          obtain ⟨⟨x4, σ4⟩, hv10, eh10⟩ := obi_some ht9
          have mσ4 : modi [11, 12, 1105] σ σ4 := mσ1.tr (mX1_readPoints hv10) (by decide)
          obtain ⟨rfl, rfl⟩ := pj2 (Option.some.inj eh10)
          exact mσ4
        · have hf9 := ite_f hc9 hf7
          by_cases hc11 : x1 = 107
          · have ht11 := ite_t hc11 hf9
            obtain ⟨⟨x5, σ5⟩, hv12, eh12⟩ := obi_some ht11
            have mσ5 : modi [11, 12, 1105] σ σ5 := mσ1.tr (mX1_readFigure hv12) (by decide)
            obtain ⟨rfl, rfl⟩ := pj2 (Option.some.inj eh12)
            exact mσ5
          · have hf11 := ite_f hc11 hf9
            by_cases hc13 : x1 = 110
            · have ht13 := ite_t hc13 hf11
              obtain ⟨⟨x6, σ6⟩, hv14, eh14⟩ := obi_some ht13
              have mσ6 : modi [11, 12, 1105] σ σ6 := mσ1.tr (mX1_readCells hv14) (by decide)
              obtain ⟨rfl, rfl⟩ := pj2 (Option.some.inj eh14)
              exact mσ6
            · have hf13 := ite_f hc13 hf11
              by_cases hc15 : x1 = 116
              · have ht15 := ite_t hc15 hf13
                obtain ⟨⟨x7, σ7⟩, hv16, eh16⟩ := obi_some ht15
                have mσ7 : modi [11, 12, 1105] σ σ7 := mσ1.tr (mX1_readNumber hv16) (by decide)
                obtain ⟨rfl, rfl⟩ := pj2 (Option.some.inj eh16)
                exact mσ7
              · have hf15 := ite_f hc15 hf13
                by_cases hc17 : x1 = 121
                · have ht17 := ite_t hc17 hf15
                  obtain ⟨⟨x8, σ8⟩, hv18, eh18⟩ := obi_some ht17
                  have mσ8 : modi [11, 12, 1105] σ σ8 := mσ1.tr (mX1_readCells hv18) (by decide)
                  obtain ⟨rfl, rfl⟩ := pj2 (Option.some.inj eh18)
                  exact mσ8
                · have hf17 := ite_f hc17 hf15
                  obtain ⟨rfl, rfl⟩ := pj2 (Option.some.inj hf17)
                  exact mσ1
  · have hf1 := ite_f hc1 h
    obtain ⟨rfl, rfl⟩ := pj2 (Option.some.inj hf1)
    exact mσ

set_option maxRecDepth 20000 in
set_option maxHeartbeats 1000000 in
theorem mX1_readParts {σ : St} {t0 : Nat} {v0 : Int32} {σ' : St} (h : fX1_readParts σ t0 = some (v0, σ')) : modi [11, 12, 1105] σ σ' := by
  have mσ : modi [11, 12, 1105] σ σ := modi.rf
  unfold fX1_readParts at h
  obtain ⟨σ1, hv1, eh1⟩ := bnd_ex h
  have mσ1 : modi [11, 12, 1105] σ σ1 := hv1 ▸ modi.su mσ (show (1105 : Nat) ∈ ([11, 12, 1105] : List Nat) by decide)
  refine lpF_md (I := fun (q : Int32 × St) => match q with | (x1, σ2) => modi [11, 12, 1105] σ σ2) ?_ eh1 mσ1
  rintro ⟨x1, σ2⟩ w2 hx2 mσ2 lc2 lx2
  replace mσ2 : modi [11, 12, 1105] σ σ2 := mσ2
  by_cases hc2 : (80 : Int32) ≤ x1
  · have ht2 := ite_t hc2 hx2
    have e3 := congrArg some (lx2 _ (Option.some.inj ht2).symm)
    obtain ⟨rfl, rfl⟩ := pj2 (Option.some.inj e3)
    exact mσ2
  · have hf2 := ite_f hc2 hx2
    obtain ⟨⟨x2, σ3⟩, hv4, eh4⟩ := obi_some hf2
    have mσ3 : modi [11, 12, 1105] σ σ3 := mσ2.tr (mX1_readPart hv4) (by decide)
    by_cases hc5 : x2 = (-1 : Int32)
    · have ht5 := ite_t hc5 eh4
      by_cases hc6 : (σ3 (1, t0) 5) < (σ3 (1, t0) 3)
      · have ht6 := ite_t hc6 ht5
        obtain ⟨hb7, eh7⟩ := grd_some ht6
        by_cases hc8 : (σ3 (10, t0) (tn (σ3 (1, t0) 5))) = (59 : Int32)
        · have ht8 := ite_t hc8 eh7
          obtain ⟨σ4, hv9, eh9⟩ := bnd_ex ht8
          have mσ4 : modi [11, 12, 1105] σ σ4 := hv9 ▸ modi.su mσ3 (show (1105 : Nat) ∈ ([11, 12, 1105] : List Nat) by decide)
          obtain ⟨x3, hv10, eh10⟩ := bnd_ex eh9
          exact lc2 _ (Option.some.inj eh10).symm mσ4
        · have hf8 := ite_f hc8 eh7
          have e11 := congrArg some (lx2 _ (Option.some.inj hf8).symm)
          obtain ⟨rfl, rfl⟩ := pj2 (Option.some.inj e11)
          exact mσ3
      · have hf6 := ite_f hc6 ht5
        have e12 := congrArg some (lx2 _ (Option.some.inj hf6).symm)
        obtain ⟨rfl, rfl⟩ := pj2 (Option.some.inj e12)
        exact mσ3
    · have hf5 := ite_f hc5 eh4
      have e13 := congrArg some (lx2 _ (Option.some.inj hf5).symm)
      obtain ⟨rfl, rfl⟩ := pj2 (Option.some.inj e13)
      exact mσ3

set_option maxRecDepth 20000 in
set_option maxHeartbeats 1000000 in
theorem mX1_read {σ : St} {t0 : Nat} {σ' : St} (h : fX1_read σ t0 = some σ') : modi [11, 12, 1104, 1105] σ σ' := by
  have mσ : modi [11, 12, 1104, 1105] σ σ := modi.rf
  unfold fX1_read at h
  obtain ⟨σ1, hv1, eh1⟩ := obi_some h
  have mσ1 : modi [11, 12, 1104, 1105] σ σ1 := mσ.tr (mX1_forgetParts hv1) (by decide)
  obtain ⟨⟨x1, σ2⟩, hx2, hq2⟩ := obi_some eh1
  have mσ2 : modi [11, 12, 1104, 1105] σ σ2 := by
    by_cases hc2 : (σ1 (1, t0) 3) = 0
    · have ht2 := ite_t hc2 hx2
      obtain ⟨rfl, rfl⟩ := pj2 (Option.some.inj ht2)
      exact mσ1
    · have hf2 := ite_f hc2 hx2
      obtain ⟨⟨x2, σ3⟩, hv3, eh3⟩ := obi_some hf2
      have mσ3 : modi [11, 12, 1104, 1105] σ σ3 := mσ1.tr (mX1_readParts hv3) (by decide)
      obtain ⟨rfl, rfl⟩ := pj2 (Option.some.inj eh3)
      exact mσ3
  obtain ⟨σ4, hv4, eh4⟩ := bnd_ex hq2
  have mσ4 : modi [11, 12, 1104, 1105] σ σ4 := hv4 ▸ modi.su mσ2 (show (1104 : Nat) ∈ ([11, 12, 1104, 1105] : List Nat) by decide)
  by_cases hc5 : (σ4 (1, t0) 4) = (-1 : Int32)
  · have ht5 := ite_t hc5 eh4
    obtain rfl := (Option.some.inj ht5)
    exact mσ4
  · have hf5 := ite_f hc5 eh4
    obtain ⟨σ5, hv6, eh6⟩ := obi_some hf5
    have mσ5 : modi [11, 12, 1104, 1105] σ σ5 := mσ4.tr (mX1_forgetParts hv6) (by decide)
    obtain rfl := (Option.some.inj eh6)
    exact mσ5

set_option maxRecDepth 20000 in
set_option maxHeartbeats 1000000 in
theorem mX1_addByte {σ : St} {t0 : Nat} {a1 : Int32} {v0 : Int32} {σ' : St} (h : fX1_addByte σ t0 a1 = some (v0, σ')) : modi [10, 11, 12, 1103, 1104, 1105] σ σ' := by
  have mσ : modi [10, 11, 12, 1103, 1104, 1105] σ σ := modi.rf
  unfold fX1_addByte at h
  by_cases hc1 : (σ (1, t0) 3) < (80 : Int32)
  · have ht1 := ite_t hc1 h
    obtain ⟨hb2, eh2⟩ := grd_some ht1
    obtain ⟨σ1, hv3, eh3⟩ := bnd_ex eh2
    have mσ1 : modi [10, 11, 12, 1103, 1104, 1105] σ σ1 := hv3 ▸ modi.sr mσ (show ¬ (10 : Nat) < 10 by decide) (show (10 : Nat) ∈ ([10, 11, 12, 1103, 1104, 1105] : List Nat) by decide)
    obtain ⟨σ2, hv4, eh4⟩ := bnd_ex eh3
    have mσ2 : modi [10, 11, 12, 1103, 1104, 1105] σ σ2 := hv4 ▸ modi.su mσ1 (show (1103 : Nat) ∈ ([10, 11, 12, 1103, 1104, 1105] : List Nat) by decide)
    obtain ⟨σ3, hv5, eh5⟩ := obi_some eh4
    have mσ3 : modi [10, 11, 12, 1103, 1104, 1105] σ σ3 := mσ2.tr (mX1_read hv5) (by decide)
    obtain ⟨rfl, rfl⟩ := pj2 (Option.some.inj eh5)
    exact mσ3
  · have hf1 := ite_f hc1 h
    obtain ⟨rfl, rfl⟩ := pj2 (Option.some.inj hf1)
    exact mσ

set_option maxRecDepth 20000 in
set_option maxHeartbeats 1000000 in
theorem mX1_empty {σ : St} {t0 : Nat} {v0 : Int32} {σ' : St} (h : fX1_empty σ t0 = some (v0, σ')) : modi [11, 12, 1103, 1104, 1105] σ σ' := by
  have mσ : modi [11, 12, 1103, 1104, 1105] σ σ := modi.rf
  unfold fX1_empty at h
  obtain ⟨x1, hv1, eh1⟩ := bnd_ex h
  obtain ⟨σ1, hv2, eh2⟩ := bnd_ex eh1
  have mσ1 : modi [11, 12, 1103, 1104, 1105] σ σ1 := hv2 ▸ modi.su mσ (show (1103 : Nat) ∈ ([11, 12, 1103, 1104, 1105] : List Nat) by decide)
  obtain ⟨σ2, hv3, eh3⟩ := obi_some eh2
  have mσ2 : modi [11, 12, 1103, 1104, 1105] σ σ2 := mσ1.tr (mX1_read hv3) (by decide)
  obtain ⟨rfl, rfl⟩ := pj2 (Option.some.inj eh3)
  exact mσ2

set_option maxRecDepth 20000 in
set_option maxHeartbeats 1000000 in
theorem mX2_clear {σ : St}  {σ' : St} (h : fX2_clear σ  = σ') : modi [1200, 1201, 1202] σ σ' := by
  have mσ : modi [1200, 1201, 1202] σ σ := modi.rf
  unfold fX2_clear at h
  obtain ⟨σ1, hv1, eh1⟩ := bnd_ex h
  have mσ1 : modi [1200, 1201, 1202] σ σ1 := hv1 ▸ modi.su mσ (show (1200 : Nat) ∈ ([1200, 1201, 1202] : List Nat) by decide)
  obtain ⟨σ2, hv2, eh2⟩ := bnd_ex eh1
  have mσ2 : modi [1200, 1201, 1202] σ σ2 := hv2 ▸ modi.su mσ1 (show (1201 : Nat) ∈ ([1200, 1201, 1202] : List Nat) by decide)
  obtain ⟨σ3, hv3, eh3⟩ := bnd_ex eh2
  have mσ3 : modi [1200, 1201, 1202] σ σ3 := hv3 ▸ modi.su mσ2 (show (1202 : Nat) ∈ ([1200, 1201, 1202] : List Nat) by decide)
  obtain rfl := eh3
  exact mσ3

set_option maxRecDepth 20000 in
set_option maxHeartbeats 1000000 in
theorem mX2_offer {σ : St} {a1 : Int32} {a2 : Int32} {a3 : Int32} {σ' : St} (h : fX2_offer σ a1 a2 a3 = σ') : modi [1200, 1201, 1202] σ σ' := by
  have mσ : modi [1200, 1201, 1202] σ σ := modi.rf
  unfold fX2_offer at h
  obtain ⟨x1, hx1, hq1⟩ := bnd_ex h
  obtain ⟨x2, hx3, hq3⟩ := bnd_ex hq1
  by_cases hc1 : x2 = 0
  · have ht1 := ite_t hc1 hq3
    obtain rfl := ht1
    exact mσ
  · have hf1 := ite_f hc1 hq3
    obtain ⟨σ1, hv2, eh2⟩ := bnd_ex hf1
    have mσ1 : modi [1200, 1201, 1202] σ σ1 := hv2 ▸ modi.su mσ (show (1200 : Nat) ∈ ([1200, 1201, 1202] : List Nat) by decide)
    obtain ⟨σ2, hv3, eh3⟩ := bnd_ex eh2
    have mσ2 : modi [1200, 1201, 1202] σ σ2 := hv3 ▸ modi.su mσ1 (show (1201 : Nat) ∈ ([1200, 1201, 1202] : List Nat) by decide)
    obtain ⟨σ3, hv4, eh4⟩ := bnd_ex eh3
    have mσ3 : modi [1200, 1201, 1202] σ σ3 := hv4 ▸ modi.su mσ2 (show (1202 : Nat) ∈ ([1200, 1201, 1202] : List Nat) by decide)
    obtain rfl := eh4
    exact mσ3

set_option maxRecDepth 20000 in
set_option maxHeartbeats 1000000 in
theorem mX3_setMoments {σ : St} {t0 : Nat} {t1 : Nat} {a2 : Int32} {σ' : St} (h : fX3_setMoments σ t0 t1 a2 = some σ') : modi [13, 1302] σ σ' := by
  have mσ : modi [13, 1302] σ σ := modi.rf
  unfold fX3_setMoments at h
  obtain ⟨σ1, hv1, eh1⟩ := bnd_ex h
  have mσ1 : modi [13, 1302] σ σ1 := hv1 ▸ modi.su mσ (show (1302 : Nat) ∈ ([13, 1302] : List Nat) by decide)
  obtain ⟨hb2, eh2⟩ := grd_some eh1
  obtain ⟨σ2, hv3, eh3⟩ := bnd_ex eh2
  have mσ2 : modi [13, 1302] σ σ2 := hv3 ▸ modi.sr mσ1 (show ¬ (13 : Nat) < 10 by decide) (show (13 : Nat) ∈ ([13, 1302] : List Nat) by decide)
  obtain rfl := (Option.some.inj eh3)
  exact mσ2

set_option maxRecDepth 20000 in
set_option maxHeartbeats 1000000 in
theorem mX3_setVerdicts {σ : St} {t0 : Nat} {t1 : Nat} {σ' : St} (h : fX3_setVerdicts σ t0 t1 = some σ') : modi [14, 1303] σ σ' := by
  have mσ : modi [14, 1303] σ σ := modi.rf
  unfold fX3_setVerdicts at h
  obtain ⟨σ1, hx1, hq1⟩ := obi_some h
  have mσ1 : modi [14, 1303] σ σ1 := by
    refine lpF_md (I := fun (q : Int32 × St) => match q with | (x1, σ2) => modi [14, 1303] σ σ2) ?_ hx1 mσ
    rintro ⟨x1, σ2⟩ w2 hx2 mσ2 lc2 lx2
    replace mσ2 : modi [14, 1303] σ σ2 := mσ2
    by_cases hc1 : (40 : Int32) ≤ x1
    · have ht1 := ite_t hc1 hx2
      have e2 := congrArg some (lx2 _ (Option.some.inj ht1).symm)
      obtain rfl := (Option.some.inj e2)
      exact mσ2
    · have hf1 := ite_f hc1 hx2
      obtain ⟨x2, hx5, hq5⟩ := obi_some hf1
      obtain ⟨x3, hx11, hq11⟩ := obi_some hq5
      obtain ⟨hb3, eh3⟩ := grd_some hq11
      obtain ⟨σ3, hv4, eh4⟩ := bnd_ex eh3
      have mσ3 : modi [14, 1303] σ σ3 := hv4 ▸ modi.sr mσ2 (show ¬ (14 : Nat) < 10 by decide) (show (14 : Nat) ∈ ([14, 1303] : List Nat) by decide)
      obtain ⟨x4, hv5, eh5⟩ := bnd_ex eh4
      exact lc2 _ (Option.some.inj eh5).symm mσ3
  obtain ⟨σ4, hv6, eh6⟩ := bnd_ex hq1
  have mσ4 : modi [14, 1303] σ σ4 := hv6 ▸ modi.su mσ1 (show (1303 : Nat) ∈ ([14, 1303] : List Nat) by decide)
  obtain rfl := (Option.some.inj eh6)
  exact mσ4

set_option maxRecDepth 20000 in
set_option maxHeartbeats 1000000 in
theorem mX4_begin {σ : St} {t0 : Nat} {σ' : St} (h : fX4_begin σ t0 = σ') : modi [1400, 1401, 1402, 1403, 1404, 1405, 1406, 1407, 1408, 1409] σ σ' := by
  have mσ : modi [1400, 1401, 1402, 1403, 1404, 1405, 1406, 1407, 1408, 1409] σ σ := modi.rf
  unfold fX4_begin at h
  obtain ⟨σ1, hv1, eh1⟩ := bnd_ex h
  have mσ1 : modi [1400, 1401, 1402, 1403, 1404, 1405, 1406, 1407, 1408, 1409] σ σ1 := hv1 ▸ modi.su mσ (show (1400 : Nat) ∈ ([1400, 1401, 1402, 1403, 1404, 1405, 1406, 1407, 1408, 1409] : List Nat) by decide)
  obtain ⟨σ2, hv2, eh2⟩ := bnd_ex eh1
  have mσ2 : modi [1400, 1401, 1402, 1403, 1404, 1405, 1406, 1407, 1408, 1409] σ σ2 := hv2 ▸ modi.su mσ1 (show (1401 : Nat) ∈ ([1400, 1401, 1402, 1403, 1404, 1405, 1406, 1407, 1408, 1409] : List Nat) by decide)
  obtain ⟨σ3, hv3, eh3⟩ := bnd_ex eh2
  have mσ3 : modi [1400, 1401, 1402, 1403, 1404, 1405, 1406, 1407, 1408, 1409] σ σ3 := hv3 ▸ modi.su mσ2 (show (1402 : Nat) ∈ ([1400, 1401, 1402, 1403, 1404, 1405, 1406, 1407, 1408, 1409] : List Nat) by decide)
  obtain ⟨σ4, hv4, eh4⟩ := bnd_ex eh3
  have mσ4 : modi [1400, 1401, 1402, 1403, 1404, 1405, 1406, 1407, 1408, 1409] σ σ4 := hv4 ▸ modi.su mσ3 (show (1403 : Nat) ∈ ([1400, 1401, 1402, 1403, 1404, 1405, 1406, 1407, 1408, 1409] : List Nat) by decide)
  obtain ⟨σ5, hv5, eh5⟩ := bnd_ex eh4
  have mσ5 : modi [1400, 1401, 1402, 1403, 1404, 1405, 1406, 1407, 1408, 1409] σ σ5 := hv5 ▸ modi.su mσ4 (show (1404 : Nat) ∈ ([1400, 1401, 1402, 1403, 1404, 1405, 1406, 1407, 1408, 1409] : List Nat) by decide)
  obtain ⟨σ6, hv6, eh6⟩ := bnd_ex eh5
  have mσ6 : modi [1400, 1401, 1402, 1403, 1404, 1405, 1406, 1407, 1408, 1409] σ σ6 := hv6 ▸ modi.su mσ5 (show (1405 : Nat) ∈ ([1400, 1401, 1402, 1403, 1404, 1405, 1406, 1407, 1408, 1409] : List Nat) by decide)
  obtain ⟨σ7, hv7, eh7⟩ := bnd_ex eh6
  have mσ7 : modi [1400, 1401, 1402, 1403, 1404, 1405, 1406, 1407, 1408, 1409] σ σ7 := hv7 ▸ modi.su mσ6 (show (1406 : Nat) ∈ ([1400, 1401, 1402, 1403, 1404, 1405, 1406, 1407, 1408, 1409] : List Nat) by decide)
  obtain ⟨σ8, hv8, eh8⟩ := bnd_ex eh7
  have mσ8 : modi [1400, 1401, 1402, 1403, 1404, 1405, 1406, 1407, 1408, 1409] σ σ8 := hv8 ▸ modi.su mσ7 (show (1407 : Nat) ∈ ([1400, 1401, 1402, 1403, 1404, 1405, 1406, 1407, 1408, 1409] : List Nat) by decide)
  obtain ⟨σ9, hv9, eh9⟩ := bnd_ex eh8
  have mσ9 : modi [1400, 1401, 1402, 1403, 1404, 1405, 1406, 1407, 1408, 1409] σ σ9 := hv9 ▸ modi.su mσ8 (show (1408 : Nat) ∈ ([1400, 1401, 1402, 1403, 1404, 1405, 1406, 1407, 1408, 1409] : List Nat) by decide)
  obtain ⟨σ10, hv10, eh10⟩ := bnd_ex eh9
  have mσ10 : modi [1400, 1401, 1402, 1403, 1404, 1405, 1406, 1407, 1408, 1409] σ σ10 := hv10 ▸ modi.su mσ9 (show (1409 : Nat) ∈ ([1400, 1401, 1402, 1403, 1404, 1405, 1406, 1407, 1408, 1409] : List Nat) by decide)
  obtain rfl := eh10
  exact mσ10

set_option maxRecDepth 20000 in
set_option maxHeartbeats 1000000 in
theorem mX4_score {σ : St} {t0 : Nat} {a1 : Int32} {a2 : Int32} {a3 : Int32} {σ' : St} (h : fX4_score σ t0 a1 a2 a3 = σ') : modi [1400, 1401, 1402, 1403, 1404, 1405] σ σ' := by
  have mσ : modi [1400, 1401, 1402, 1403, 1404, 1405] σ σ := modi.rf
  unfold fX4_score at h
  obtain ⟨σ1, hv1, eh1⟩ := bnd_ex h
  have mσ1 : modi [1400, 1401, 1402, 1403, 1404, 1405] σ σ1 := hv1 ▸ modi.su mσ (show (1403 : Nat) ∈ ([1400, 1401, 1402, 1403, 1404, 1405] : List Nat) by decide)
  obtain ⟨σ2, hx2, hq2⟩ := bnd_ex eh1
  have mσ2 : modi [1400, 1401, 1402, 1403, 1404, 1405] σ σ2 := by
    by_cases hc2 : a1 = 0
    · have ht2 := ite_t hc2 hx2
      obtain ⟨σ4, hv3, eh3⟩ := bnd_ex ht2
      have mσ4 : modi [1400, 1401, 1402, 1403, 1404, 1405] σ σ4 := hv3 ▸ modi.su mσ1 (show (1404 : Nat) ∈ ([1400, 1401, 1402, 1403, 1404, 1405] : List Nat) by decide)
      obtain rfl := eh3
      exact mσ4
    · have hf2 := ite_f hc2 hx2
      obtain ⟨σ3, hv4, eh4⟩ := bnd_ex hf2
      have mσ3 : modi [1400, 1401, 1402, 1403, 1404, 1405] σ σ3 := hv4 ▸ modi.su mσ1 (show (1405 : Nat) ∈ ([1400, 1401, 1402, 1403, 1404, 1405] : List Nat) by decide)
      obtain rfl := eh4
      exact mσ3
  obtain ⟨σ5, hv5, eh5⟩ := bnd_ex hq2
  have mσ5 : modi [1400, 1401, 1402, 1403, 1404, 1405] σ σ5 := hv5 ▸ modi.su mσ2 (show (1400 : Nat) ∈ ([1400, 1401, 1402, 1403, 1404, 1405] : List Nat) by decide)
  obtain ⟨σ6, hv6, eh6⟩ := bnd_ex eh5
  have mσ6 : modi [1400, 1401, 1402, 1403, 1404, 1405] σ σ6 := hv6 ▸ modi.su mσ5 (show (1402 : Nat) ∈ ([1400, 1401, 1402, 1403, 1404, 1405] : List Nat) by decide)
  obtain ⟨σ7, hv7, eh7⟩ := bnd_ex eh6
  have mσ7 : modi [1400, 1401, 1402, 1403, 1404, 1405] σ σ7 := hv7 ▸ modi.su mσ6 (show (1401 : Nat) ∈ ([1400, 1401, 1402, 1403, 1404, 1405] : List Nat) by decide)
  by_cases hc8 : a3 = 0
  · have ht8 := ite_t hc8 eh7
    obtain rfl := ht8
    exact mσ7
  · have hf8 := ite_f hc8 eh7
    obtain ⟨x1, hx10, hq10⟩ := bnd_ex hf8
    obtain ⟨σ8, hv9, eh9⟩ := bnd_ex hq10
    have mσ8 : modi [1400, 1401, 1402, 1403, 1404, 1405] σ σ8 := hv9 ▸ modi.su mσ7 (show (1401 : Nat) ∈ ([1400, 1401, 1402, 1403, 1404, 1405] : List Nat) by decide)
    obtain rfl := eh9
    exact mσ8

set_option maxRecDepth 20000 in
set_option maxHeartbeats 1000000 in
theorem mX4_becomes {σ : St} {t0 : Nat} {a1 : Int32} {a2 : Int32} {a3 : Int32} {σ' : St} (h : fX4_becomes σ t0 a1 a2 a3 = σ') : modi [1400, 1401, 1402] σ σ' := by
  have mσ : modi [1400, 1401, 1402] σ σ := modi.rf
  unfold fX4_becomes at h
  obtain ⟨σ1, hv1, eh1⟩ := bnd_ex h
  have mσ1 : modi [1400, 1401, 1402] σ σ1 := hv1 ▸ modi.su mσ (show (1400 : Nat) ∈ ([1400, 1401, 1402] : List Nat) by decide)
  obtain ⟨σ2, hv2, eh2⟩ := bnd_ex eh1
  have mσ2 : modi [1400, 1401, 1402] σ σ2 := hv2 ▸ modi.su mσ1 (show (1401 : Nat) ∈ ([1400, 1401, 1402] : List Nat) by decide)
  obtain ⟨σ3, hv3, eh3⟩ := bnd_ex eh2
  have mσ3 : modi [1400, 1401, 1402] σ σ3 := hv3 ▸ modi.su mσ2 (show (1402 : Nat) ∈ ([1400, 1401, 1402] : List Nat) by decide)
  obtain rfl := eh3
  exact mσ3

set_option maxRecDepth 20000 in
set_option maxHeartbeats 1000000 in
theorem mX4_goOn {σ : St} {t0 : Nat} {r1 : Rf} {a2 : Int32} {a3 : Int32} {σ' : St} (h : fX4_goOn σ t0 r1 a2 a3 = some σ') : modi [1400, 1401, 1402, 1403, 1404, 1405, 1406, 1408] σ σ' := by
  have mσ : modi [1400, 1401, 1402, 1403, 1404, 1405, 1406, 1408] σ σ := modi.rf
  unfold fX4_goOn at h
  obtain ⟨x1, hv1, eh1⟩ := bnd_ex h
  obtain ⟨σ1, hv2, eh2⟩ := bnd_ex eh1
  have mσ1 : modi [1400, 1401, 1402, 1403, 1404, 1405, 1406, 1408] σ σ1 := hv2 ▸ modi.su mσ (show (1406 : Nat) ∈ ([1400, 1401, 1402, 1403, 1404, 1405, 1406, 1408] : List Nat) by decide)
  by_cases hc3 : a3 = 0 ∨ a3 = 6
  · have ht3 := ite_t hc3 eh2
    obtain ⟨σ2, hv4, eh4⟩ := bnd_ex ht3
    have mσ2 : modi [1400, 1401, 1402, 1403, 1404, 1405, 1406, 1408] σ σ2 := mσ1.tr (mX4_becomes hv4) (by decide)
    obtain rfl := (Option.some.inj eh4)
    exact mσ2
  · have hf3 := ite_f hc3 eh2
    by_cases hc5 : a3 = 1
    · have ht5 := ite_t hc5 hf3
      obtain ⟨σ3, hv6, eh6⟩ := bnd_ex ht5
      have mσ3 : modi [1400, 1401, 1402, 1403, 1404, 1405, 1406, 1408] σ σ3 := mσ1.tr (mX4_becomes hv6) (by decide)
      obtain rfl := (Option.some.inj eh6)
      exact mσ3
    · have hf5 := ite_f hc5 hf3
      by_cases hc7 : a3 = 2 ∨ a3 = 3
      · have ht7 := ite_t hc7 hf5
        obtain ⟨σ4, hv8, eh8⟩ := bnd_ex ht7
        have mσ4 : modi [1400, 1401, 1402, 1403, 1404, 1405, 1406, 1408] σ σ4 := mσ1.tr (mX4_becomes hv8) (by decide)
        obtain rfl := (Option.some.inj eh8)
        exact mσ4
      · have hf7 := ite_f hc7 hf5
        by_cases hc9 : a3 = 4
        · have ht9 := ite_t hc9 hf7
          obtain ⟨σ5, hv10, eh10⟩ := bnd_ex ht9
          have mσ5 : modi [1400, 1401, 1402, 1403, 1404, 1405, 1406, 1408] σ σ5 := hv10 ▸ modi.su mσ1 (show (1400 : Nat) ∈ ([1400, 1401, 1402, 1403, 1404, 1405, 1406, 1408] : List Nat) by decide)
          by_cases hc11 : (σ5 (4, t0) 2) = (1 : Int32)
          · have ht11 := ite_t hc11 eh10
            by_cases hc12 : (x1 + (1 : Int32)) = (6 : Int32)
            · have ht12 := ite_t hc12 ht11
              obtain ⟨hb13, eh13⟩ := grd_some ht12
              by_cases hc14 : (σ5 r1 (tn (10 : Int32))) ≤ 0
              · have ht14 := ite_t hc14 eh13
                obtain rfl := (Option.some.inj ht14)
                exact mσ5
              · have hf14 := ite_f hc14 eh13
                obtain ⟨hb15, eh15⟩ := grd_some hf14
                obtain ⟨hb16, eh16⟩ := grd_some eh15
                obtain ⟨σ6, hv17, eh17⟩ := bnd_ex eh16
                have mσ6 : modi [1400, 1401, 1402, 1403, 1404, 1405, 1406, 1408] σ σ6 := mσ5.tr (mX4_score hv17) (by decide)
                obtain rfl := (Option.some.inj eh17)
                exact mσ6
            · have hf12 := ite_f hc12 ht11
              obtain rfl := (Option.some.inj hf12)
              exact mσ5
          · have hf11 := ite_f hc11 eh10
            obtain rfl := (Option.some.inj hf11)
            exact mσ5
        · have hf9 := ite_f hc9 hf7
          by_cases hc18 : a3 = 5
          · have ht18 := ite_t hc18 hf9
            obtain ⟨σ7, hv19, eh19⟩ := bnd_ex ht18
            have mσ7 : modi [1400, 1401, 1402, 1403, 1404, 1405, 1406, 1408] σ σ7 := mσ1.tr (mX4_becomes hv19) (by decide)
            obtain rfl := (Option.some.inj eh19)
            exact mσ7
          · have hf18 := ite_f hc18 hf9
            by_cases hc20 : a3 = 7
            · have ht20 := ite_t hc20 hf18
              obtain ⟨σ8, hv21, eh21⟩ := bnd_ex ht20
              have mσ8 : modi [1400, 1401, 1402, 1403, 1404, 1405, 1406, 1408] σ σ8 := hv21 ▸ modi.su mσ1 (show (1408 : Nat) ∈ ([1400, 1401, 1402, 1403, 1404, 1405, 1406, 1408] : List Nat) by decide)
              obtain ⟨σ9, hv22, eh22⟩ := bnd_ex eh21
              have mσ9 : modi [1400, 1401, 1402, 1403, 1404, 1405, 1406, 1408] σ σ9 := mσ8.tr (mX4_becomes hv22) (by decide)
              obtain rfl := (Option.some.inj eh22)
              exact mσ9
            · have hf20 := ite_f hc20 hf18
              obtain ⟨x2, hx18, hq18⟩ := obi_some hf20
              by_cases hc23 : x2 ≤ 0
              · have ht23 := ite_t hc23 hq18
                obtain ⟨σ10, hv24, eh24⟩ := bnd_ex ht23
                have mσ10 : modi [1400, 1401, 1402, 1403, 1404, 1405, 1406, 1408] σ σ10 := mσ1.tr (mX4_becomes hv24) (by decide)
                obtain rfl := (Option.some.inj eh24)
                exact mσ10
              · have hf23 := ite_f hc23 hq18
                obtain ⟨hb25, eh25⟩ := grd_some hf23
                obtain ⟨σ11, hv26, eh26⟩ := bnd_ex eh25
                have mσ11 : modi [1400, 1401, 1402, 1403, 1404, 1405, 1406, 1408] σ σ11 := mσ1.tr (mX4_score hv26) (by decide)
                obtain rfl := (Option.some.inj eh26)
                exact mσ11

set_option maxRecDepth 20000 in
set_option maxHeartbeats 1000000 in
theorem mX4_stop {σ : St} {t0 : Nat} {a1 : Int32} {σ' : St} (h : fX4_stop σ t0 a1 = σ') : modi [1401, 1402, 1407] σ σ' := by
  have mσ : modi [1401, 1402, 1407] σ σ := modi.rf
  unfold fX4_stop at h
  obtain ⟨σ1, hv1, eh1⟩ := bnd_ex h
  have mσ1 : modi [1401, 1402, 1407] σ σ1 := hv1 ▸ modi.su mσ (show (1407 : Nat) ∈ ([1401, 1402, 1407] : List Nat) by decide)
  obtain ⟨σ2, hv2, eh2⟩ := bnd_ex eh1
  have mσ2 : modi [1401, 1402, 1407] σ σ2 := hv2 ▸ modi.su mσ1 (show (1401 : Nat) ∈ ([1401, 1402, 1407] : List Nat) by decide)
  obtain ⟨σ3, hv3, eh3⟩ := bnd_ex eh2
  have mσ3 : modi [1401, 1402, 1407] σ σ3 := hv3 ▸ modi.su mσ2 (show (1402 : Nat) ∈ ([1401, 1402, 1407] : List Nat) by decide)
  obtain rfl := eh3
  exact mσ3

set_option maxRecDepth 20000 in
set_option maxHeartbeats 1000000 in
theorem mX4_step {σ : St} {t0 : Nat} {r1 : Rf} {a2 : Int32} {v0 : Int32} {σ' : St} (h : fX4_step σ t0 r1 a2 = some (v0, σ')) : modi [1400, 1401, 1402, 1403, 1404, 1405, 1406, 1407, 1408, 1409] σ σ' := by
  have mσ : modi [1400, 1401, 1402, 1403, 1404, 1405, 1406, 1407, 1408, 1409] σ σ := modi.rf
  unfold fX4_step at h
  obtain ⟨σ1, hv1, eh1⟩ := bnd_ex h
  have mσ1 : modi [1400, 1401, 1402, 1403, 1404, 1405, 1406, 1407, 1408, 1409] σ σ1 := hv1 ▸ modi.su mσ (show (1409 : Nat) ∈ ([1400, 1401, 1402, 1403, 1404, 1405, 1406, 1407, 1408, 1409] : List Nat) by decide)
  obtain ⟨σ2, hv2, eh2⟩ := bnd_ex eh1
  have mσ2 : modi [1400, 1401, 1402, 1403, 1404, 1405, 1406, 1407, 1408, 1409] σ σ2 := hv2 ▸ modi.su mσ1 (show (1403 : Nat) ∈ ([1400, 1401, 1402, 1403, 1404, 1405, 1406, 1407, 1408, 1409] : List Nat) by decide)
  by_cases hc3 : (fX8_isSeen a2) = true
  · have ht3 := ite_t hc3 eh2
    obtain ⟨x1, hv4, eh4⟩ := bnd_ex ht3
    obtain ⟨x2, hv5, eh5⟩ := bnd_ex eh4
    by_cases hc6 : (fX4_canBe σ2 t0 x1 x2) = true
    · have ht6 := ite_t hc6 eh5
      obtain ⟨x3, hv7, eh7⟩ := obi_some ht6
      by_cases hc8 : x3 = true
      · have ht8 := ite_t hc8 eh7
        obtain ⟨σ4, hv9, eh9⟩ := obi_some ht8
        have mσ4 : modi [1400, 1401, 1402, 1403, 1404, 1405, 1406, 1407, 1408, 1409] σ σ4 := mσ2.tr (mX4_goOn hv9) (by decide)
        obtain ⟨rfl, rfl⟩ := pj2 (Option.some.inj eh9)
        exact mσ4
      · have hf8 := ite_f hc8 eh7
        obtain ⟨σ3, hv10, eh10⟩ := bnd_ex hf8
        have mσ3 : modi [1400, 1401, 1402, 1403, 1404, 1405, 1406, 1407, 1408, 1409] σ σ3 := mσ2.tr (mX4_stop hv10) (by decide)
        obtain ⟨rfl, rfl⟩ := pj2 (Option.some.inj eh10)
        exact mσ3
    · have hf6 := ite_f hc6 eh5
      obtain ⟨rfl, rfl⟩ := pj2 (Option.some.inj hf6)
      exact mσ2
  · have hf3 := ite_f hc3 eh2
    obtain ⟨rfl, rfl⟩ := pj2 (Option.some.inj hf3)
    exact mσ2

set_option maxRecDepth 20000 in
set_option maxHeartbeats 1000000 in
theorem mX3_playUnder {σ : St} {t0 : Nat} {r1 : Rf} {t2 : Nat} {σ' : St} (h : fX3_playUnder σ t0 r1 t2 = some σ') : modi [1400, 1401, 1402, 1403, 1404, 1405, 1406, 1407, 1408, 1409] σ σ' := by
  have mσ : modi [1400, 1401, 1402, 1403, 1404, 1405, 1406, 1407, 1408, 1409] σ σ := modi.rf
  unfold fX3_playUnder at h
  obtain ⟨σ1, hv1, eh1⟩ := bnd_ex h
  have mσ1 : modi [1400, 1401, 1402, 1403, 1404, 1405, 1406, 1407, 1408, 1409] σ σ1 := mσ.tr (mX4_begin hv1) (by decide)
  refine lpF_md (I := fun (q : Int32 × St) => match q with | (x1, σ2) => modi [1400, 1401, 1402, 1403, 1404, 1405, 1406, 1407, 1408, 1409] σ σ2) ?_ eh1 mσ1
  rintro ⟨x1, σ2⟩ w2 hx2 mσ2 lc2 lx2
  replace mσ2 : modi [1400, 1401, 1402, 1403, 1404, 1405, 1406, 1407, 1408, 1409] σ σ2 := mσ2
  by_cases hc2 : (σ2 (3, t0) 2) ≤ x1
  · have ht2 := ite_t hc2 hx2
    have e3 := congrArg some (lx2 _ (Option.some.inj ht2).symm)
    obtain rfl := (Option.some.inj e3)
    exact mσ2
  · have hf2 := ite_f hc2 hx2
    obtain ⟨x2, hv4, eh4⟩ := obi_some hf2
    by_cases hc5 : x2 = true
    · have ht5 := ite_t hc5 eh4
      have e6 := congrArg some (lx2 _ (Option.some.inj ht5).symm)
      obtain rfl := (Option.some.inj e6)
      exact mσ2
    · have hf5 := ite_f hc5 eh4
      obtain ⟨hb7, eh7⟩ := grd_some hf5
      obtain ⟨⟨x3, σ3⟩, hv8, eh8⟩ := obi_some eh7
      have mσ3 : modi [1400, 1401, 1402, 1403, 1404, 1405, 1406, 1407, 1408, 1409] σ σ3 := mσ2.tr (mX4_step hv8) (by decide)
      obtain ⟨x4, hv9, eh9⟩ := bnd_ex eh8
      exact lc2 _ (Option.some.inj eh9).symm mσ3

set_option maxRecDepth 20000 in
set_option maxHeartbeats 1000000 in
theorem mX3_playByHalves {σ : St} {t0 : Nat} {r1 : Rf} {r2 : Rf} {t3 : Nat} {σ' : St} (h : fX3_playByHalves σ t0 r1 r2 t3 = some σ') : modi [1400, 1401, 1402, 1403, 1404, 1405, 1406, 1407, 1408, 1409] σ σ' := by
  have mσ : modi [1400, 1401, 1402, 1403, 1404, 1405, 1406, 1407, 1408, 1409] σ σ := modi.rf
  unfold fX3_playByHalves at h
  obtain ⟨σ1, hv1, eh1⟩ := bnd_ex h
  have mσ1 : modi [1400, 1401, 1402, 1403, 1404, 1405, 1406, 1407, 1408, 1409] σ σ1 := mσ.tr (mX4_begin hv1) (by decide)
  refine lpF_md (I := fun (q : Int32 × St) => match q with | (x1, σ2) => modi [1400, 1401, 1402, 1403, 1404, 1405, 1406, 1407, 1408, 1409] σ σ2) ?_ eh1 mσ1
  rintro ⟨x1, σ2⟩ w2 hx2 mσ2 lc2 lx2
  replace mσ2 : modi [1400, 1401, 1402, 1403, 1404, 1405, 1406, 1407, 1408, 1409] σ σ2 := mσ2
  by_cases hc2 : (σ2 (3, t0) 2) ≤ x1
  · have ht2 := ite_t hc2 hx2
    have e3 := congrArg some (lx2 _ (Option.some.inj ht2).symm)
    obtain rfl := (Option.some.inj e3)
    exact mσ2
  · have hf2 := ite_f hc2 hx2
    obtain ⟨x2, hx5, hq5⟩ := bnd_ex hf2
    obtain ⟨hb4, eh4⟩ := grd_some hq5
    obtain ⟨⟨x3, σ3⟩, hv5, eh5⟩ := obi_some eh4
    have mσ3 : modi [1400, 1401, 1402, 1403, 1404, 1405, 1406, 1407, 1408, 1409] σ σ3 := mσ2.tr (mX4_step hv5) (by decide)
    obtain ⟨x4, hv6, eh6⟩ := bnd_ex eh5
    exact lc2 _ (Option.some.inj eh6).symm mσ3

set_option maxRecDepth 20000 in
set_option maxHeartbeats 1000000 in
theorem mX3_wayOf {σ : St} {t0 : Nat} {a1 : Int32} {r2 : Rf} {t3 : Nat} {v0 : Int32} {σ' : St} (h : fX3_wayOf σ t0 a1 r2 t3 = some (v0, σ')) : modi [1400, 1401, 1402, 1403, 1404, 1405, 1406, 1407, 1408, 1409] σ σ' := by
  have mσ : modi [1400, 1401, 1402, 1403, 1404, 1405, 1406, 1407, 1408, 1409] σ σ := modi.rf
  unfold fX3_wayOf at h
  obtain ⟨σ1, hv1, eh1⟩ := bnd_ex h
  have mσ1 : modi [1400, 1401, 1402, 1403, 1404, 1405, 1406, 1407, 1408, 1409] σ σ1 := mσ.tr (mX4_begin hv1) (by decide)
  refine lpF_md (I := fun (q : Int32 × Int32 × St) => match q with | (x1, x2, σ2) => modi [1400, 1401, 1402, 1403, 1404, 1405, 1406, 1407, 1408, 1409] σ σ2) ?_ eh1 mσ1
  rintro ⟨x1, x2, σ2⟩ w2 hx2 mσ2 lc2 lx2
  replace mσ2 : modi [1400, 1401, 1402, 1403, 1404, 1405, 1406, 1407, 1408, 1409] σ σ2 := mσ2
  by_cases hc2 : a1 < x2
  · have ht2 := ite_t hc2 hx2
    have e3 := congrArg some (lx2 _ (Option.some.inj ht2).symm)
    obtain ⟨rfl, rfl⟩ := pj2 (Option.some.inj e3)
    exact mσ2
  · have hf2 := ite_f hc2 hx2
    by_cases hc4 : (σ2 (3, t0) 2) ≤ x2
    · have ht4 := ite_t hc4 hf2
      have e5 := congrArg some (lx2 _ (Option.some.inj ht4).symm)
      obtain ⟨rfl, rfl⟩ := pj2 (Option.some.inj e5)
      exact mσ2
    · have hf4 := ite_f hc4 hf2
      obtain ⟨x3, hv6, eh6⟩ := obi_some hf4
      by_cases hc7 : x3 = true
      · have ht7 := ite_t hc7 eh6
        have e8 := congrArg some (lx2 _ (Option.some.inj ht7).symm)
        obtain ⟨rfl, rfl⟩ := pj2 (Option.some.inj e8)
        exact mσ2
      · have hf7 := ite_f hc7 eh6
        obtain ⟨hb9, eh9⟩ := grd_some hf7
        obtain ⟨⟨x4, σ3⟩, hv10, eh10⟩ := obi_some eh9
        have mσ3 : modi [1400, 1401, 1402, 1403, 1404, 1405, 1406, 1407, 1408, 1409] σ σ3 := mσ2.tr (mX4_step hv10) (by decide)
        obtain ⟨x5, hv11, eh11⟩ := bnd_ex eh10
        exact lc2 _ (Option.some.inj eh11).symm mσ3

set_option maxRecDepth 20000 in
set_option maxHeartbeats 1000000 in
theorem mX3_agreesWith {σ : St} {t0 : Nat} {r1 : Rf} {t2 : Nat} {v0 : Bool} {σ' : St} (h : fX3_agreesWith σ t0 r1 t2 = some (v0, σ')) : modi [1400, 1401, 1402, 1403, 1404, 1405, 1406, 1407, 1408, 1409] σ σ' := by
  have mσ : modi [1400, 1401, 1402, 1403, 1404, 1405, 1406, 1407, 1408, 1409] σ σ := modi.rf
  unfold fX3_agreesWith at h
  obtain ⟨σ1, hv1, eh1⟩ := bnd_ex h
  have mσ1 : modi [1400, 1401, 1402, 1403, 1404, 1405, 1406, 1407, 1408, 1409] σ σ1 := mσ.tr (mX4_begin hv1) (by decide)
  refine lpF_md (I := fun (q : Int32 × St) => match q with | (x1, σ2) => modi [1400, 1401, 1402, 1403, 1404, 1405, 1406, 1407, 1408, 1409] σ σ2) ?_ eh1 mσ1
  rintro ⟨x1, σ2⟩ w2 hx2 mσ2 lc2 lx2
  replace mσ2 : modi [1400, 1401, 1402, 1403, 1404, 1405, 1406, 1407, 1408, 1409] σ σ2 := mσ2
  by_cases hc2 : (σ2 (3, t0) 2) ≤ x1
  · have ht2 := ite_t hc2 hx2
    have e3 := congrArg some (lx2 _ (Option.some.inj ht2).symm)
    obtain ⟨rfl, rfl⟩ := pj2 (Option.some.inj e3)
    exact mσ2
  · have hf2 := ite_f hc2 hx2
    obtain ⟨x2, hv4, eh4⟩ := obi_some hf2
    by_cases hc5 : x2 = true
    · have ht5 := ite_t hc5 eh4
      have e6 := congrArg some (lx2 _ (Option.some.inj ht5).symm)
      obtain ⟨rfl, rfl⟩ := pj2 (Option.some.inj e6)
      exact mσ2
    · have hf5 := ite_f hc5 eh4
      obtain ⟨hb7, eh7⟩ := grd_some hf5
      obtain ⟨⟨x3, σ3⟩, hv8, eh8⟩ := obi_some eh7
      have mσ3 : modi [1400, 1401, 1402, 1403, 1404, 1405, 1406, 1407, 1408, 1409] σ σ3 := mσ2.tr (mX4_step hv8) (by decide)
      obtain ⟨y10, hx10, hy10⟩ := bj_some eh8
      have hJ10 : y10 = .inr () → modi [1400, 1401, 1402, 1403, 1404, 1405, 1406, 1407, 1408, 1409] σ σ' := by
        intro  ey10
        have hq10 := bj_r ey10 hy10
        obtain ⟨y16, hx16, hy16⟩ := bj_some hq10
        have hJ16 : y16 = .inr () → modi [1400, 1401, 1402, 1403, 1404, 1405, 1406, 1407, 1408, 1409] σ σ' := by
          intro  ey16
          have hq16 := bj_r ey16 hy16
          obtain ⟨x4, hv9, eh9⟩ := bnd_ex hq16
          exact lc2 _ (Option.some.inj eh9).symm mσ3
        by_cases hc10 : x3 = (2 : Int32)
        · have ht10 := ite_t hc10 hx16
          obtain ⟨hb11, eh11⟩ := grd_some ht10
          by_cases hc12 : (σ3 (14, t0) (tn x1)) = (1 : Int32)
          · have ht12 := ite_t hc12 eh11
            have e13 := bj_l ht12 hy16
            have e14 := congrArg some (lx2 _ (Option.some.inj e13).symm)
            obtain ⟨rfl, rfl⟩ := pj2 (Option.some.inj e14)
            exact mσ3
          · have hf12 := ite_f hc12 eh11
            exact hJ16 (Option.some.inj hf12).symm
        · have hf10 := ite_f hc10 hx16
          exact hJ16 (Option.some.inj hf10).symm
      by_cases hc15 : x3 = (1 : Int32)
      · have ht15 := ite_t hc15 hx10
        obtain ⟨hb16, eh16⟩ := grd_some ht15
        by_cases hc17 : (σ3 (14, t0) (tn x1)) = 0
        · have ht17 := ite_t hc17 eh16
          have e18 := bj_l ht17 hy10
          have e19 := congrArg some (lx2 _ (Option.some.inj e18).symm)
          obtain ⟨rfl, rfl⟩ := pj2 (Option.some.inj e19)
          exact mσ3
        · have hf17 := ite_f hc17 eh16
          exact hJ10 (Option.some.inj hf17).symm
      · have hf15 := ite_f hc15 hx10
        exact hJ10 (Option.some.inj hf15).symm

set_option maxRecDepth 20000 in
set_option maxHeartbeats 1000000 in
theorem mX3_customOf {σ : St} {t0 : Nat} {a1 : Int32} {a2 : Int32} {t3 : Nat} {v0 : Int32} {σ' : St} (h : fX3_customOf σ t0 a1 a2 t3 = some (v0, σ')) : modi [1400, 1401, 1402, 1403, 1404, 1405, 1406, 1407, 1408, 1409] σ σ' := by
  have mσ : modi [1400, 1401, 1402, 1403, 1404, 1405, 1406, 1407, 1408, 1409] σ σ := modi.rf
  unfold fX3_customOf at h
  obtain ⟨σ1, hv1, eh1⟩ := bnd_ex h
  have mσ1 : modi [1400, 1401, 1402, 1403, 1404, 1405, 1406, 1407, 1408, 1409] σ σ1 := mσ.tr (mX4_begin hv1) (by decide)
  refine lpF_md (I := fun (q : Int32 × Int32 × St) => match q with | (x1, x2, σ2) => modi [1400, 1401, 1402, 1403, 1404, 1405, 1406, 1407, 1408, 1409] σ σ2) ?_ eh1 mσ1
  rintro ⟨x1, x2, σ2⟩ w2 hx2 mσ2 lc2 lx2
  replace mσ2 : modi [1400, 1401, 1402, 1403, 1404, 1405, 1406, 1407, 1408, 1409] σ σ2 := mσ2
  by_cases hc2 : (σ2 (3, t0) 2) ≤ x2
  · have ht2 := ite_t hc2 hx2
    have e3 := congrArg some (lx2 _ (Option.some.inj ht2).symm)
    obtain ⟨rfl, rfl⟩ := pj2 (Option.some.inj e3)
    exact mσ2
  · have hf2 := ite_f hc2 hx2
    obtain ⟨hb4, eh4⟩ := grd_some hf2
    by_cases hc5 : (fX8_isSeen (σ2 (13, t0) (tn x2))) = true
    · have ht5 := ite_t hc5 eh4
      obtain ⟨hb6, eh6⟩ := grd_some ht5
      obtain ⟨x3, hv7, eh7⟩ := bnd_ex eh6
      obtain ⟨hb8, eh8⟩ := grd_some eh7
      obtain ⟨x4, hv9, eh9⟩ := bnd_ex eh8
      obtain ⟨y12, hx12, hy12⟩ := bj_some eh9
      have hJ12 : ∀ (x5 : Int32) (σ3 : St), y12 = .inr (x5, σ3) → modi [1400, 1401, 1402, 1403, 1404, 1405, 1406, 1407, 1408, 1409] σ σ3 → modi [1400, 1401, 1402, 1403, 1404, 1405, 1406, 1407, 1408, 1409] σ σ' := by
        intro x5 σ3 ey12 mσ3
        have hq12 := bj_r ey12 hy12
        obtain ⟨x9, hv10, eh10⟩ := bnd_ex hq12
        exact lc2 _ (Option.some.inj eh10).symm mσ3
      by_cases hc11 : (fX4_canBe σ2 t3 x3 x4) = true
      · have ht11 := ite_t hc11 hx12
        obtain ⟨hb12, eh12⟩ := grd_some ht11
        by_cases hc13 : (σ2 (14, t0) (tn x2)) = (-1 : Int32)
        · have ht13 := ite_t hc13 eh12
          have e14 := bj_l ht13 hy12
          have e15 := congrArg some (lx2 _ (Option.some.inj e14).symm)
          obtain ⟨rfl, rfl⟩ := pj2 (Option.some.inj e15)
          exact mσ2
        · have hf13 := ite_f hc13 eh12
          obtain ⟨hb16, eh16⟩ := grd_some hf13
          obtain ⟨x6, hx17, hq17⟩ := obi_some eh16
          obtain ⟨hb17, eh17⟩ := grd_some hq17
          by_cases hc18 : (σ2 (14, t0) (tn x2)) = (1 : Int32)
          · have ht18 := ite_t hc18 eh17
            obtain ⟨σ5, hv19, eh19⟩ := obi_some ht18
            have mσ5 : modi [1400, 1401, 1402, 1403, 1404, 1405, 1406, 1407, 1408, 1409] σ σ5 := mσ2.tr (mX4_goOn hv19) (by decide)
            exact hJ12 _ _ (Option.some.inj eh19).symm mσ5
          · have hf18 := ite_f hc18 eh17
            obtain ⟨σ4, hv20, eh20⟩ := bnd_ex hf18
            have mσ4 : modi [1400, 1401, 1402, 1403, 1404, 1405, 1406, 1407, 1408, 1409] σ σ4 := mσ2.tr (mX4_stop hv20) (by decide)
            exact hJ12 _ _ (Option.some.inj eh20).symm mσ4
      · have hf11 := ite_f hc11 hx12
        exact hJ12 _ _ (Option.some.inj hf11).symm mσ2
    · have hf5 := ite_f hc5 eh4
      have e21 := congrArg some (lx2 _ (Option.some.inj hf5).symm)
      obtain ⟨rfl, rfl⟩ := pj2 (Option.some.inj e21)
      exact mσ2

set_option maxRecDepth 20000 in
set_option maxHeartbeats 1000000 in
theorem mX4_setBall {σ : St} {t0 : Nat} {a1 : Int32} {σ' : St} (h : fX4_setBall σ t0 a1 = σ') : modi [1400, 1401, 1402] σ σ' := by
  have mσ : modi [1400, 1401, 1402] σ σ := modi.rf
  unfold fX4_setBall at h
  obtain ⟨σ1, hv1, eh1⟩ := bnd_ex h
  have mσ1 : modi [1400, 1401, 1402] σ σ1 := hv1 ▸ modi.su mσ (show (1400 : Nat) ∈ ([1400, 1401, 1402] : List Nat) by decide)
  obtain ⟨σ2, hv2, eh2⟩ := bnd_ex eh1
  have mσ2 : modi [1400, 1401, 1402] σ σ2 := hv2 ▸ modi.su mσ1 (show (1401 : Nat) ∈ ([1400, 1401, 1402] : List Nat) by decide)
  obtain ⟨σ3, hv3, eh3⟩ := bnd_ex eh2
  have mσ3 : modi [1400, 1401, 1402] σ σ3 := hv3 ▸ modi.su mσ2 (show (1402 : Nat) ∈ ([1400, 1401, 1402] : List Nat) by decide)
  obtain rfl := eh3
  exact mσ3

set_option maxRecDepth 20000 in
set_option maxHeartbeats 1000000 in
theorem mX5_start {σ : St}  {σ' : St} (h : fX5_start σ  = some σ') : modi [15, 16, 1400, 1401, 1402, 1403, 1404, 1405, 1406, 1407, 1408, 1409, 1508] σ σ' := by
  have mσ : modi [15, 16, 1400, 1401, 1402, 1403, 1404, 1405, 1406, 1407, 1408, 1409, 1508] σ σ := modi.rf
  unfold fX5_start at h
  obtain ⟨σ1, hv1, eh1⟩ := obi_some h
  have mσ1 : modi [15, 16, 1400, 1401, 1402, 1403, 1404, 1405, 1406, 1407, 1408, 1409, 1508] σ σ1 := mσ.tr (mJ7_fill_53178 (L := [15, 16, 1400, 1401, 1402, 1403, 1404, 1405, 1406, 1407, 1408, 1409, 1508]) (show ¬ (16 : Nat) < 10 by decide) (show (16 : Nat) ∈ ([15, 16, 1400, 1401, 1402, 1403, 1404, 1405, 1406, 1407, 1408, 1409, 1508] : List Nat) by decide) hv1) (by decide)
  obtain ⟨σ2, hv2, eh2⟩ := bnd_ex eh1
  have mσ2 : modi [15, 16, 1400, 1401, 1402, 1403, 1404, 1405, 1406, 1407, 1408, 1409, 1508] σ σ2 := mσ1.tr (mX4_begin hv2) (by decide)
  obtain ⟨σ3, hv3, eh3⟩ := bnd_ex eh2
  have mσ3 : modi [15, 16, 1400, 1401, 1402, 1403, 1404, 1405, 1406, 1407, 1408, 1409, 1508] σ σ3 := mσ2.tr (mX4_begin hv3) (by decide)
  obtain ⟨x1, hv4, eh4⟩ := bnd_ex eh3
  obtain ⟨hb5, eh5⟩ := grd_some eh4
  obtain ⟨σ4, hv6, eh6⟩ := bnd_ex eh5
  have mσ4 : modi [15, 16, 1400, 1401, 1402, 1403, 1404, 1405, 1406, 1407, 1408, 1409, 1508] σ σ4 := hv6 ▸ modi.sr mσ3 (show ¬ (16 : Nat) < 10 by decide) (show (16 : Nat) ∈ ([15, 16, 1400, 1401, 1402, 1403, 1404, 1405, 1406, 1407, 1408, 1409, 1508] : List Nat) by decide)
  obtain ⟨σ5, hv7, eh7⟩ := bnd_ex eh6
  have mσ5 : modi [15, 16, 1400, 1401, 1402, 1403, 1404, 1405, 1406, 1407, 1408, 1409, 1508] σ σ5 := hv7 ▸ modi.sr mσ4 (show ¬ (15 : Nat) < 10 by decide) (show (15 : Nat) ∈ ([15, 16, 1400, 1401, 1402, 1403, 1404, 1405, 1406, 1407, 1408, 1409, 1508] : List Nat) by decide)
  obtain ⟨σ6, hv8, eh8⟩ := bnd_ex eh7
  have mσ6 : modi [15, 16, 1400, 1401, 1402, 1403, 1404, 1405, 1406, 1407, 1408, 1409, 1508] σ σ6 := hv8 ▸ modi.su mσ5 (show (1508 : Nat) ∈ ([15, 16, 1400, 1401, 1402, 1403, 1404, 1405, 1406, 1407, 1408, 1409, 1508] : List Nat) by decide)
  obtain rfl := (Option.some.inj eh8)
  exact mσ6

set_option maxRecDepth 20000 in
set_option maxHeartbeats 1000000 in
theorem mX5_reach {σ : St} {a1 : Int32} {a2 : Int32} {a3 : Int32} {σ' : St} (h : fX5_reach σ a1 a2 a3 = some σ') : modi [15, 16, 17, 18, 1508] σ σ' := by
  have mσ : modi [15, 16, 17, 18, 1508] σ σ := modi.rf
  unfold fX5_reach at h
  obtain ⟨hb1, eh1⟩ := grd_some h
  by_cases hc2 : (σ (16, 0) (tn a1)) = (-1 : Int32)
  · have ht2 := ite_t hc2 eh1
    by_cases hc3 : (σ (5, 0) 8) < (63 : Int32)
    · have ht3 := ite_t hc3 ht2
      obtain ⟨hb4, eh4⟩ := grd_some ht3
      obtain ⟨hb5, eh5⟩ := grd_some eh4
      obtain ⟨σ1, hv6, eh6⟩ := bnd_ex eh5
      have mσ1 : modi [15, 16, 17, 18, 1508] σ σ1 := hv6 ▸ modi.sr mσ (show ¬ (16 : Nat) < 10 by decide) (show (16 : Nat) ∈ ([15, 16, 17, 18, 1508] : List Nat) by decide)
      obtain ⟨hb7, eh7⟩ := grd_some eh6
      obtain ⟨σ2, hv8, eh8⟩ := bnd_ex eh7
      have mσ2 : modi [15, 16, 17, 18, 1508] σ σ2 := hv8 ▸ modi.sr mσ1 (show ¬ (17 : Nat) < 10 by decide) (show (17 : Nat) ∈ ([15, 16, 17, 18, 1508] : List Nat) by decide)
      obtain ⟨hb9, eh9⟩ := grd_some eh8
      obtain ⟨σ3, hv10, eh10⟩ := bnd_ex eh9
      have mσ3 : modi [15, 16, 17, 18, 1508] σ σ3 := hv10 ▸ modi.sr mσ2 (show ¬ (18 : Nat) < 10 by decide) (show (18 : Nat) ∈ ([15, 16, 17, 18, 1508] : List Nat) by decide)
      obtain ⟨hb11, eh11⟩ := grd_some eh10
      obtain ⟨σ4, hv12, eh12⟩ := bnd_ex eh11
      have mσ4 : modi [15, 16, 17, 18, 1508] σ σ4 := hv12 ▸ modi.sr mσ3 (show ¬ (15 : Nat) < 10 by decide) (show (15 : Nat) ∈ ([15, 16, 17, 18, 1508] : List Nat) by decide)
      obtain ⟨σ5, hv13, eh13⟩ := bnd_ex eh12
      have mσ5 : modi [15, 16, 17, 18, 1508] σ σ5 := hv13 ▸ modi.su mσ4 (show (1508 : Nat) ∈ ([15, 16, 17, 18, 1508] : List Nat) by decide)
      obtain rfl := (Option.some.inj eh13)
      exact mσ5
    · have hf3 := ite_f hc3 ht2
      obtain rfl := (Option.some.inj hf3)
      exact mσ
  · have hf2 := ite_f hc2 eh1
    obtain rfl := (Option.some.inj hf2)
    exact mσ

set_option maxRecDepth 20000 in
set_option maxHeartbeats 1000000 in
theorem mX5_traceRow {σ : St} {a1 : Int32} {a2 : Int32} {σ' : St} (h : fX5_traceRow σ a1 a2 = some σ') : modi [19, 1507] σ σ' := by
  have mσ : modi [19, 1507] σ σ := modi.rf
  unfold fX5_traceRow at h
  obtain ⟨hb1, eh1⟩ := grd_some h
  obtain ⟨σ1, hv2, eh2⟩ := bnd_ex eh1
  have mσ1 : modi [19, 1507] σ σ1 := hv2 ▸ modi.su mσ (show (1507 : Nat) ∈ ([19, 1507] : List Nat) by decide)
  obtain ⟨hb3, eh3⟩ := grd_some eh2
  obtain ⟨σ2, hv4, eh4⟩ := bnd_ex eh3
  have mσ2 : modi [19, 1507] σ σ2 := hv4 ▸ modi.sr mσ1 (show ¬ (19 : Nat) < 10 by decide) (show (19 : Nat) ∈ ([19, 1507] : List Nat) by decide)
  obtain ⟨x1, hv5, eh5⟩ := bnd_ex eh4
  refine lpF_md (I := fun (q : Int32 × Int32 × St) => match q with | (x2, x3, σ3) => modi [19, 1507] σ σ3) ?_ eh5 mσ2
  rintro ⟨x2, x3, σ3⟩ w6 hx6 mσ3 lc6 lx6
  replace mσ3 : modi [19, 1507] σ σ3 := mσ3
  by_cases hc6 : x3 < 0
  · have ht6 := ite_t hc6 hx6
    have e7 := congrArg some (lx6 _ (Option.some.inj ht6).symm)
    obtain rfl := (Option.some.inj e7)
    exact mσ3
  · have hf6 := ite_f hc6 hx6
    obtain ⟨hb8, eh8⟩ := grd_some hf6
    obtain ⟨hb9, eh9⟩ := grd_some eh8
    obtain ⟨σ4, hv10, eh10⟩ := bnd_ex eh9
    have mσ4 : modi [19, 1507] σ σ4 := hv10 ▸ modi.sr mσ3 (show ¬ (19 : Nat) < 10 by decide) (show (19 : Nat) ∈ ([19, 1507] : List Nat) by decide)
    obtain ⟨hb11, eh11⟩ := grd_some eh10
    obtain ⟨x4, hv12, eh12⟩ := bnd_ex eh11
    obtain ⟨x5, hv13, eh13⟩ := bnd_ex eh12
    exact lc6 _ (Option.some.inj eh13).symm mσ4

set_option maxRecDepth 20000 in
set_option maxHeartbeats 1000000 in
theorem mX5_part {σ : St} {r1 : Rf} {r2 : Rf} {σ' : St} (h : fX5_part σ r1 r2 = some σ') : modi [15, 16, 17, 18, 19, 1400, 1401, 1402, 1403, 1404, 1405, 1406, 1407, 1408, 1409, 1507, 1508] σ σ' := by
  have mσ : modi [15, 16, 17, 18, 19, 1400, 1401, 1402, 1403, 1404, 1405, 1406, 1407, 1408, 1409, 1507, 1508] σ σ := modi.rf
  unfold fX5_part at h
  obtain ⟨σ1, hv1, eh1⟩ := bnd_ex h
  have mσ1 : modi [15, 16, 17, 18, 19, 1400, 1401, 1402, 1403, 1404, 1405, 1406, 1407, 1408, 1409, 1507, 1508] σ σ1 := hv1 ▸ modi.su mσ (show (1507 : Nat) ∈ ([15, 16, 17, 18, 19, 1400, 1401, 1402, 1403, 1404, 1405, 1406, 1407, 1408, 1409, 1507, 1508] : List Nat) by decide)
  obtain ⟨σ2, hv2, eh2⟩ := obi_some eh1
  have mσ2 : modi [15, 16, 17, 18, 19, 1400, 1401, 1402, 1403, 1404, 1405, 1406, 1407, 1408, 1409, 1507, 1508] σ σ2 := mσ1.tr (mX5_start hv2) (by decide)
  obtain ⟨y3, hx3, hy3⟩ := bj_some eh2
  have hJ3 : ∀ (x1 : Int32) (x2 : Int32) (σ3 : St), y3 = .inr (x1, x2, σ3) → modi [15, 16, 17, 18, 19, 1400, 1401, 1402, 1403, 1404, 1405, 1406, 1407, 1408, 1409, 1507, 1508] σ σ3 → modi [15, 16, 17, 18, 19, 1400, 1401, 1402, 1403, 1404, 1405, 1406, 1407, 1408, 1409, 1507, 1508] σ σ' := by
    intro x1 x2 σ3 ey3 mσ3
    have hq3 := bj_r ey3 hy3
    obtain ⟨σ12, hv3, eh3⟩ := obi_some hq3
    have mσ12 : modi [15, 16, 17, 18, 19, 1400, 1401, 1402, 1403, 1404, 1405, 1406, 1407, 1408, 1409, 1507, 1508] σ σ12 := mσ3.tr (mX5_traceRow hv3) (by decide)
    obtain rfl := (Option.some.inj eh3)
    exact mσ12
  refine lpF_md (I := fun (q : Int32 × St) => match q with | (x3, σ4) => modi [15, 16, 17, 18, 19, 1400, 1401, 1402, 1403, 1404, 1405, 1406, 1407, 1408, 1409, 1507, 1508] σ σ4) ?_ hx3 mσ2
  rintro ⟨x3, σ4⟩ w4 hx4 mσ4 lc4 lx4
  replace mσ4 : modi [15, 16, 17, 18, 19, 1400, 1401, 1402, 1403, 1404, 1405, 1406, 1407, 1408, 1409, 1507, 1508] σ σ4 := mσ4
  by_cases hc4 : (63 : Int32) ≤ x3
  · have ht4 := ite_t hc4 hx4
    have e5 := congrArg some (lx4 _ (Option.some.inj ht4).symm)
    have e6 := bj_l e5 hy3
    obtain rfl := (Option.some.inj e6)
    exact mσ4
  · have hf4 := ite_f hc4 hx4
    by_cases hc7 : (σ4 (5, 0) 8) ≤ x3
    · have ht7 := ite_t hc7 hf4
      have e8 := congrArg some (lx4 _ (Option.some.inj ht7).symm)
      have e9 := bj_l e8 hy3
      obtain rfl := (Option.some.inj e9)
      exact mσ4
    · have hf7 := ite_f hc7 hf4
      obtain ⟨hb10, eh10⟩ := grd_some hf7
      obtain ⟨x4, hv11, eh11⟩ := bnd_ex eh10
      obtain ⟨hb12, eh12⟩ := grd_some eh11
      by_cases hc13 : (σ4 (16, 0) (tn x4)) < (6 : Int32)
      · have ht13 := ite_t hc13 eh12
        obtain ⟨y15, hx15, hy15⟩ := bj_some ht13
        have hJ15 : ∀ (σ5 : St), y15 = .inr σ5 → modi [15, 16, 17, 18, 19, 1400, 1401, 1402, 1403, 1404, 1405, 1406, 1407, 1408, 1409, 1507, 1508] σ σ5 → modi [15, 16, 17, 18, 19, 1400, 1401, 1402, 1403, 1404, 1405, 1406, 1407, 1408, 1409, 1507, 1508] σ σ' := by
          intro σ5 ey15 mσ5
          have hq15 := bj_r ey15 hy15
          obtain ⟨x9, hv14, eh14⟩ := bnd_ex hq15
          exact lc4 _ (Option.some.inj eh14).symm mσ5
        refine lpF_md (I := fun (q : Int32 × St) => match q with | (x5, σ6) => modi [15, 16, 17, 18, 19, 1400, 1401, 1402, 1403, 1404, 1405, 1406, 1407, 1408, 1409, 1507, 1508] σ σ6) ?_ hx15 mσ4
        rintro ⟨x5, σ6⟩ w16 hx16 mσ6 lc16 lx16
        replace mσ6 : modi [15, 16, 17, 18, 19, 1400, 1401, 1402, 1403, 1404, 1405, 1406, 1407, 1408, 1409, 1507, 1508] σ σ6 := mσ6
        by_cases hc15 : (40 : Int32) ≤ x5
        · have ht15 := ite_t hc15 hx16
          have e16 := congrArg some (lx16 _ (Option.some.inj ht15).symm)
          exact hJ15 _ (Option.some.inj e16).symm mσ6
        · have hf15 := ite_f hc15 hx16
          obtain ⟨σ7, hv17, eh17⟩ := bnd_ex hf15
          have mσ7 : modi [15, 16, 17, 18, 19, 1400, 1401, 1402, 1403, 1404, 1405, 1406, 1407, 1408, 1409, 1507, 1508] σ σ7 := mσ6.tr (mX4_setBall hv17) (by decide)
          obtain ⟨σ8, hv18, eh18⟩ := bnd_ex eh17
          have mσ8 : modi [15, 16, 17, 18, 19, 1400, 1401, 1402, 1403, 1404, 1405, 1406, 1407, 1408, 1409, 1507, 1508] σ σ8 := mσ7.tr (mX4_setBall hv18) (by decide)
          obtain ⟨⟨x6, σ9⟩, hv19, eh19⟩ := obi_some eh18
          have mσ9 : modi [15, 16, 17, 18, 19, 1400, 1401, 1402, 1403, 1404, 1405, 1406, 1407, 1408, 1409, 1507, 1508] σ σ9 := mσ8.tr (mX4_step hv19) (by decide)
          obtain ⟨⟨x7, σ10⟩, hv20, eh20⟩ := obi_some eh19
          have mσ10 : modi [15, 16, 17, 18, 19, 1400, 1401, 1402, 1403, 1404, 1405, 1406, 1407, 1408, 1409, 1507, 1508] σ σ10 := mσ9.tr (mX4_step hv20) (by decide)
          by_cases hc21 : x6 = x7
          · have ht21 := ite_t hc21 eh20
            by_cases hc22 : (σ10 (4, 1) 3) = (σ10 (4, 2) 3)
            · have ht22 := ite_t hc22 ht21
              by_cases hc23 : (fX4_ball σ10 1) = (fX4_ball σ10 2)
              · have ht23 := ite_t hc23 ht22
                obtain ⟨σ11, hv24, eh24⟩ := obi_some ht23
                have mσ11 : modi [15, 16, 17, 18, 19, 1400, 1401, 1402, 1403, 1404, 1405, 1406, 1407, 1408, 1409, 1507, 1508] σ σ11 := mσ10.tr (mX5_reach hv24) (by decide)
                obtain ⟨x8, hv25, eh25⟩ := bnd_ex eh24
                exact lc16 _ (Option.some.inj eh25).symm mσ11
              · have hf23 := ite_f hc23 ht22
                have e26 := congrArg some (lx16 _ (Option.some.inj hf23).symm)
                have e27 := bj_l e26 hy15
                have e28 := congrArg some (lx4 _ (Option.some.inj e27).symm)
                exact hJ3 _ _ _ (Option.some.inj e28).symm mσ10
            · have hf22 := ite_f hc22 ht21
              have e29 := congrArg some (lx16 _ (Option.some.inj hf22).symm)
              have e30 := bj_l e29 hy15
              have e31 := congrArg some (lx4 _ (Option.some.inj e30).symm)
              exact hJ3 _ _ _ (Option.some.inj e31).symm mσ10
          · have hf21 := ite_f hc21 eh20
            have e32 := congrArg some (lx16 _ (Option.some.inj hf21).symm)
            have e33 := bj_l e32 hy15
            have e34 := congrArg some (lx4 _ (Option.some.inj e33).symm)
            exact hJ3 _ _ _ (Option.some.inj e34).symm mσ10
      · have hf13 := ite_f hc13 eh12
        have e35 := congrArg some (lx4 _ (Option.some.inj hf13).symm)
        have e36 := bj_l e35 hy3
        obtain rfl := (Option.some.inj e36)
        exact mσ4

set_option maxRecDepth 20000 in
set_option maxHeartbeats 1000000 in
theorem mX5_momentsToScore {σ : St} {r1 : Rf} {a2 : Int32} {v0 : Int32} {σ' : St} (h : fX5_momentsToScore σ r1 a2 = some (v0, σ')) : modi [15, 16, 17, 18, 1400, 1401, 1402, 1403, 1404, 1405, 1406, 1407, 1408, 1409, 1508] σ σ' := by
  have mσ : modi [15, 16, 17, 18, 1400, 1401, 1402, 1403, 1404, 1405, 1406, 1407, 1408, 1409, 1508] σ σ := modi.rf
  unfold fX5_momentsToScore at h
  obtain ⟨σ1, hv1, eh1⟩ := obi_some h
  have mσ1 : modi [15, 16, 17, 18, 1400, 1401, 1402, 1403, 1404, 1405, 1406, 1407, 1408, 1409, 1508] σ σ1 := mσ.tr (mX5_start hv1) (by decide)
  obtain ⟨y2, hx2, hy2⟩ := bj_some eh1
  have hJ2 : ∀ (x1 : Int32) (σ2 : St), y2 = .inr (x1, σ2) → modi [15, 16, 17, 18, 1400, 1401, 1402, 1403, 1404, 1405, 1406, 1407, 1408, 1409, 1508] σ σ2 → modi [15, 16, 17, 18, 1400, 1401, 1402, 1403, 1404, 1405, 1406, 1407, 1408, 1409, 1508] σ σ' := by
    intro x1 σ2 ey2 mσ2
    have hq2 := bj_r ey2 hy2
    obtain ⟨hb2, eh2⟩ := grd_some hq2
    obtain ⟨rfl, rfl⟩ := pj2 (Option.some.inj eh2)
    exact mσ2
  refine lpF_md (I := fun (q : Int32 × St) => match q with | (x2, σ3) => modi [15, 16, 17, 18, 1400, 1401, 1402, 1403, 1404, 1405, 1406, 1407, 1408, 1409, 1508] σ σ3) ?_ hx2 mσ1
  rintro ⟨x2, σ3⟩ w3 hx3 mσ3 lc3 lx3
  replace mσ3 : modi [15, 16, 17, 18, 1400, 1401, 1402, 1403, 1404, 1405, 1406, 1407, 1408, 1409, 1508] σ σ3 := mσ3
  by_cases hc3 : (63 : Int32) ≤ x2
  · have ht3 := ite_t hc3 hx3
    have e4 := congrArg some (lx3 _ (Option.some.inj ht3).symm)
    have e5 := bj_l e4 hy2
    obtain ⟨rfl, rfl⟩ := pj2 (Option.some.inj e5)
    exact mσ3
  · have hf3 := ite_f hc3 hx3
    by_cases hc6 : (σ3 (5, 0) 8) ≤ x2
    · have ht6 := ite_t hc6 hf3
      have e7 := congrArg some (lx3 _ (Option.some.inj ht6).symm)
      have e8 := bj_l e7 hy2
      obtain ⟨rfl, rfl⟩ := pj2 (Option.some.inj e8)
      exact mσ3
    · have hf6 := ite_f hc6 hf3
      obtain ⟨hb9, eh9⟩ := grd_some hf6
      obtain ⟨x3, hv10, eh10⟩ := bnd_ex eh9
      obtain ⟨hb11, eh11⟩ := grd_some eh10
      by_cases hc12 : (σ3 (16, 0) (tn x3)) < (20 : Int32)
      · have ht12 := ite_t hc12 eh11
        obtain ⟨y14, hx14, hy14⟩ := bj_some ht12
        have hJ14 : ∀ (σ4 : St), y14 = .inr σ4 → modi [15, 16, 17, 18, 1400, 1401, 1402, 1403, 1404, 1405, 1406, 1407, 1408, 1409, 1508] σ σ4 → modi [15, 16, 17, 18, 1400, 1401, 1402, 1403, 1404, 1405, 1406, 1407, 1408, 1409, 1508] σ σ' := by
          intro σ4 ey14 mσ4
          have hq14 := bj_r ey14 hy14
          obtain ⟨x7, hv13, eh13⟩ := bnd_ex hq14
          exact lc3 _ (Option.some.inj eh13).symm mσ4
        refine lpF_md (I := fun (q : Int32 × St) => match q with | (x4, σ5) => modi [15, 16, 17, 18, 1400, 1401, 1402, 1403, 1404, 1405, 1406, 1407, 1408, 1409, 1508] σ σ5) ?_ hx14 mσ3
        rintro ⟨x4, σ5⟩ w15 hx15 mσ5 lc15 lx15
        replace mσ5 : modi [15, 16, 17, 18, 1400, 1401, 1402, 1403, 1404, 1405, 1406, 1407, 1408, 1409, 1508] σ σ5 := mσ5
        by_cases hc14 : (40 : Int32) ≤ x4
        · have ht14 := ite_t hc14 hx15
          have e15 := congrArg some (lx15 _ (Option.some.inj ht14).symm)
          exact hJ14 _ (Option.some.inj e15).symm mσ5
        · have hf14 := ite_f hc14 hx15
          obtain ⟨σ6, hv16, eh16⟩ := bnd_ex hf14
          have mσ6 : modi [15, 16, 17, 18, 1400, 1401, 1402, 1403, 1404, 1405, 1406, 1407, 1408, 1409, 1508] σ σ6 := mσ5.tr (mX4_setBall hv16) (by decide)
          obtain ⟨⟨x5, σ7⟩, hv17, eh17⟩ := obi_some eh16
          have mσ7 : modi [15, 16, 17, 18, 1400, 1401, 1402, 1403, 1404, 1405, 1406, 1407, 1408, 1409, 1508] σ σ7 := mσ6.tr (mX4_step hv17) (by decide)
          obtain ⟨y20, hx20, hy20⟩ := bj_some eh17
          have hJ20 : y20 = .inr () → modi [15, 16, 17, 18, 1400, 1401, 1402, 1403, 1404, 1405, 1406, 1407, 1408, 1409, 1508] σ σ' := by
            intro  ey20
            have hq20 := bj_r ey20 hy20
            obtain ⟨σ8, hv18, eh18⟩ := obi_some hq20
            have mσ8 : modi [15, 16, 17, 18, 1400, 1401, 1402, 1403, 1404, 1405, 1406, 1407, 1408, 1409, 1508] σ σ8 := mσ7.tr (mX5_reach hv18) (by decide)
            obtain ⟨x6, hv19, eh19⟩ := bnd_ex eh18
            exact lc15 _ (Option.some.inj eh19).symm mσ8
          by_cases hc20 : (σ7 (4, 1) 3) ≤ 0
          · have ht20 := ite_t hc20 hx20
            exact hJ20 (Option.some.inj ht20).symm
          · have hf20 := ite_f hc20 hx20
            by_cases hc21 : (fX8_sideOf x4) = a2
            · have ht21 := ite_t hc21 hf20
              have e22 := bj_l ht21 hy20
              have e23 := congrArg some (lx15 _ (Option.some.inj e22).symm)
              have e24 := bj_l e23 hy14
              have e25 := congrArg some (lx3 _ (Option.some.inj e24).symm)
              exact hJ2 _ _ (Option.some.inj e25).symm mσ7
            · have hf21 := ite_f hc21 hf20
              exact hJ20 (Option.some.inj hf21).symm
      · have hf12 := ite_f hc12 eh11
        have e26 := congrArg some (lx3 _ (Option.some.inj hf12).symm)
        have e27 := bj_l e26 hy2
        obtain ⟨rfl, rfl⟩ := pj2 (Option.some.inj e27)
        exact mσ3

set_option maxRecDepth 20000 in
set_option maxHeartbeats 1000000 in
theorem mX6_renew {σ : St} {t0 : Nat} {a1 : Int32} {a2 : Int32} {σ' : St} (h : fX6_renew σ t0 a1 a2 = some σ') : modi [20, 1601, 1602, 1603] σ σ' := by
  have mσ : modi [20, 1601, 1602, 1603] σ σ := modi.rf
  unfold fX6_renew at h
  obtain ⟨σ1, hv1, eh1⟩ := obi_some h
  have mσ1 : modi [20, 1601, 1602, 1603] σ σ1 := mσ.tr (mJ7_fill_53178 (L := [20, 1601, 1602, 1603]) (show ¬ (20 : Nat) < 10 by decide) (show (20 : Nat) ∈ ([20, 1601, 1602, 1603] : List Nat) by decide) hv1) (by decide)
  obtain ⟨σ2, hv2, eh2⟩ := bnd_ex eh1
  have mσ2 : modi [20, 1601, 1602, 1603] σ σ2 := hv2 ▸ modi.su mσ1 (show (1601 : Nat) ∈ ([20, 1601, 1602, 1603] : List Nat) by decide)
  obtain ⟨σ3, hv3, eh3⟩ := bnd_ex eh2
  have mσ3 : modi [20, 1601, 1602, 1603] σ σ3 := hv3 ▸ modi.su mσ2 (show (1602 : Nat) ∈ ([20, 1601, 1602, 1603] : List Nat) by decide)
  obtain ⟨σ4, hv4, eh4⟩ := bnd_ex eh3
  have mσ4 : modi [20, 1601, 1602, 1603] σ σ4 := hv4 ▸ modi.su mσ3 (show (1603 : Nat) ∈ ([20, 1601, 1602, 1603] : List Nat) by decide)
  obtain rfl := (Option.some.inj eh4)
  exact mσ4

set_option maxRecDepth 20000 in
set_option maxHeartbeats 1000000 in
theorem mX6_setItem {σ : St} {t0 : Nat} {a1 : Int32} {a2 : Int32} {σ' : St} (h : fX6_setItem σ t0 a1 a2 = some σ') : modi [20] σ σ' := by
  have mσ : modi [20] σ σ := modi.rf
  unfold fX6_setItem at h
  by_cases hc1 : (fX6_has σ t0 a1) = true
  · have ht1 := ite_t hc1 h
    by_cases hc2 : (σ (6, t0) 2) = 0
    · have ht2 := ite_t hc2 ht1
      obtain ⟨hb3, eh3⟩ := grd_some ht2
      obtain ⟨σ2, hv4, eh4⟩ := bnd_ex eh3
      have mσ2 : modi [20] σ σ2 := hv4 ▸ modi.sr mσ (show ¬ (20 : Nat) < 10 by decide) (show (20 : Nat) ∈ ([20] : List Nat) by decide)
      obtain rfl := (Option.some.inj eh4)
      exact mσ2
    · have hf2 := ite_f hc2 ht1
      obtain ⟨x1, hx3, hq3⟩ := bnd_ex hf2
      obtain ⟨hb5, eh5⟩ := grd_some hq3
      obtain ⟨σ1, hv6, eh6⟩ := bnd_ex eh5
      have mσ1 : modi [20] σ σ1 := hv6 ▸ modi.sr mσ (show ¬ (20 : Nat) < 10 by decide) (show (20 : Nat) ∈ ([20] : List Nat) by decide)
      obtain rfl := (Option.some.inj eh6)
      exact mσ1
  · have hf1 := ite_f hc1 h
    obtain rfl := (Option.some.inj hf1)
    exact mσ

set_option maxRecDepth 20000 in
set_option maxHeartbeats 1000000 in
theorem mX7_setBetween {σ : St} {a1 : Int32} {a2 : Int32} {a3 : Int32} {v0 : Int32} {σ' : St} (h : fX7_setBetween σ a1 a2 a3 = some (v0, σ')) : modi [21] σ σ' := by
  have mσ : modi [21] σ σ := modi.rf
  unfold fX7_setBetween at h
  obtain ⟨hb1, eh1⟩ := grd_some h
  obtain ⟨x1, hv2, eh2⟩ := bnd_ex eh1
  obtain ⟨hb3, eh3⟩ := grd_some eh2
  obtain ⟨σ1, hv4, eh4⟩ := bnd_ex eh3
  have mσ1 : modi [21] σ σ1 := hv4 ▸ modi.sr mσ (show ¬ (21 : Nat) < 10 by decide) (show (21 : Nat) ∈ ([21] : List Nat) by decide)
  obtain ⟨hb5, eh5⟩ := grd_some eh4
  obtain ⟨σ2, hv6, eh6⟩ := bnd_ex eh5
  have mσ2 : modi [21] σ σ2 := hv6 ▸ modi.sr mσ1 (show ¬ (21 : Nat) < 10 by decide) (show (21 : Nat) ∈ ([21] : List Nat) by decide)
  obtain ⟨rfl, rfl⟩ := pj2 (Option.some.inj eh6)
  exact mσ2

set_option maxRecDepth 20000 in
set_option maxHeartbeats 1000000 in
theorem mX7_countDraws {σ : St} {a1 : Int32} {a2 : Int32} {v0 : Int32} {σ' : St} (h : fX7_countDraws σ a1 a2 = some (v0, σ')) : modi [22] σ σ' := by
  have mσ : modi [22] σ σ := modi.rf
  unfold fX7_countDraws at h
  obtain ⟨σ1, hv1, eh1⟩ := bnd_ex h
  have mσ1 : modi [22] σ σ1 := hv1 ▸ modi.sr mσ (show ¬ (22 : Nat) < 10 by decide) (show (22 : Nat) ∈ ([22] : List Nat) by decide)
  obtain ⟨σ2, hx3, hq3⟩ := obi_some eh1
  have mσ2 : modi [22] σ σ2 := by
    refine lpF_md (I := fun (q : Int32 × St) => match q with | (x1, σ3) => modi [22] σ σ3) ?_ hx3 mσ1
    rintro ⟨x1, σ3⟩ w4 hx4 mσ3 lc4 lx4
    replace mσ3 : modi [22] σ σ3 := mσ3
    by_cases hc2 : a1 < x1
    · have ht2 := ite_t hc2 hx4
      have e3 := congrArg some (lx4 _ (Option.some.inj ht2).symm)
      obtain rfl := (Option.some.inj e3)
      exact mσ3
    · have hf2 := ite_f hc2 hx4
      obtain ⟨σ4, hx7, hq7⟩ := obi_some hf2
      have mσ4 : modi [22] σ σ4 := by
        by_cases hc4 : (fX7_isPart x1 a1) = true
        · have ht4 := ite_t hc4 hx7
          obtain ⟨x2, hv5, eh5⟩ := bnd_ex ht4
          obtain ⟨x3, hv6, eh6⟩ := bnd_ex eh5
          obtain ⟨x4, hx11, hq11⟩ := obi_some eh6
          obtain ⟨hb7, eh7⟩ := grd_some hq11
          obtain ⟨σ5, hv8, eh8⟩ := bnd_ex eh7
          have mσ5 : modi [22] σ σ5 := hv8 ▸ modi.sr mσ3 (show ¬ (22 : Nat) < 10 by decide) (show (22 : Nat) ∈ ([22] : List Nat) by decide)
          obtain rfl := (Option.some.inj eh8)
          exact mσ5
        · have hf4 := ite_f hc4 hx7
          obtain rfl := (Option.some.inj hf4)
          exact mσ3
      obtain ⟨x11, hv9, eh9⟩ := bnd_ex hq7
      exact lc4 _ (Option.some.inj eh9).symm mσ4
  obtain ⟨hb10, eh10⟩ := grd_some hq3
  obtain ⟨rfl, rfl⟩ := pj2 (Option.some.inj eh10)
  exact mσ2

set_option maxRecDepth 20000 in
set_option maxHeartbeats 1000000 in
theorem mX7_leastTogether {σ : St} {a1 : Int32} {a2 : Int32} {v0 : Int32} {σ' : St} (h : fX7_leastTogether σ a1 a2 = some (v0, σ')) : modi [22] σ σ' := by
  have mσ : modi [22] σ σ := modi.rf
  unfold fX7_leastTogether at h
  obtain ⟨σ1, hv1, eh1⟩ := bnd_ex h
  have mσ1 : modi [22] σ σ1 := hv1 ▸ modi.sr mσ (show ¬ (22 : Nat) < 10 by decide) (show (22 : Nat) ∈ ([22] : List Nat) by decide)
  obtain ⟨σ2, hx3, hq3⟩ := obi_some eh1
  have mσ2 : modi [22] σ σ2 := by
    refine lpF_md (I := fun (q : Int32 × St) => match q with | (x1, σ3) => modi [22] σ σ3) ?_ hx3 mσ1
    rintro ⟨x1, σ3⟩ w4 hx4 mσ3 lc4 lx4
    replace mσ3 : modi [22] σ σ3 := mσ3
    by_cases hc2 : a1 < x1
    · have ht2 := ite_t hc2 hx4
      have e3 := congrArg some (lx4 _ (Option.some.inj ht2).symm)
      obtain rfl := (Option.some.inj e3)
      exact mσ3
    · have hf2 := ite_f hc2 hx4
      obtain ⟨σ4, hx7, hq7⟩ := obi_some hf2
      have mσ4 : modi [22] σ σ4 := by
        by_cases hc4 : (fX7_isPart x1 a1) = true
        · have ht4 := ite_t hc4 hx7
          obtain ⟨hb5, eh5⟩ := grd_some ht4
          obtain ⟨σ5, hv6, eh6⟩ := bnd_ex eh5
          have mσ5 : modi [22] σ σ5 := hv6 ▸ modi.sr mσ3 (show ¬ (22 : Nat) < 10 by decide) (show (22 : Nat) ∈ ([22] : List Nat) by decide)
          obtain ⟨x2, hv7, eh7⟩ := bnd_ex eh6
          obtain ⟨x3, hv8, eh8⟩ := bnd_ex eh7
          refine lpF_md (I := fun (q : Int32 × St) => match q with | (x4, σ6) => modi [22] σ σ6) ?_ eh8 mσ5
          rintro ⟨x4, σ6⟩ w13 hx13 mσ6 lc13 lx13
          replace mσ6 : modi [22] σ σ6 := mσ6
          by_cases hc9 : (12 : Int32) ≤ x4
          · have ht9 := ite_t hc9 hx13
            have e10 := congrArg some (lx13 _ (Option.some.inj ht9).symm)
            obtain rfl := (Option.some.inj e10)
            exact mσ6
          · have hf9 := ite_f hc9 hx13
            obtain ⟨x5, hv11, eh11⟩ := obi_some hf9
            obtain ⟨σ7, hx17, hq17⟩ := obi_some eh11
            have mσ7 : modi [22] σ σ7 := by
              by_cases hc12 : x5 = (-1 : Int32)
              · have ht12 := ite_t hc12 hx17
                obtain rfl := (Option.some.inj ht12)
                exact mσ6
              · have hf12 := ite_f hc12 hx17
                obtain ⟨hb13, eh13⟩ := grd_some hf12
                obtain ⟨y20, hx20, hy20⟩ := bj_some eh13
                have hJ20 : y20 = .inr () → modi [22] σ σ7 := by
                  intro  ey20
                  have hq20 := bj_r ey20 hy20
                  obtain ⟨hb14, eh14⟩ := grd_some hq20
                  obtain ⟨σ8, hv15, eh15⟩ := bnd_ex eh14
                  have mσ8 : modi [22] σ σ8 := hv15 ▸ modi.sr mσ6 (show ¬ (22 : Nat) < 10 by decide) (show (22 : Nat) ∈ ([22] : List Nat) by decide)
                  obtain rfl := (Option.some.inj eh15)
                  exact mσ8
                by_cases hc16 : (σ6 (22, 0) (tn x1)) = (-1 : Int32)
                · have ht16 := ite_t hc16 hx20
                  exact hJ20 (Option.some.inj ht16).symm
                · have hf16 := ite_f hc16 hx20
                  obtain ⟨hb17, eh17⟩ := grd_some hf16
                  by_cases hc18 : (σ6 (22, 0) (tn x1)) ≤ x5
                  · have ht18 := ite_t hc18 eh17
                    have e19 := bj_l ht18 hy20
                    obtain rfl := (Option.some.inj e19)
                    exact mσ6
                  · have hf18 := ite_f hc18 eh17
                    exact hJ20 (Option.some.inj hf18).symm
            obtain ⟨x6, hv20, eh20⟩ := bnd_ex hq17
            exact lc13 _ (Option.some.inj eh20).symm mσ7
        · have hf4 := ite_f hc4 hx7
          obtain rfl := (Option.some.inj hf4)
          exact mσ3
      obtain ⟨x7, hv21, eh21⟩ := bnd_ex hq7
      exact lc4 _ (Option.some.inj eh21).symm mσ4
  obtain ⟨hb22, eh22⟩ := grd_some hq3
  obtain ⟨rfl, rfl⟩ := pj2 (Option.some.inj eh22)
  exact mσ2

set_option maxRecDepth 20000 in
set_option maxHeartbeats 1000000 in
theorem mX8_type {σ : St} {a1 : Int32} {a2 : Int32} {v0 : Int32} {σ' : St} (h : fX8_type σ a1 a2 = some (v0, σ')) : modi [10, 11, 12, 1103, 1104, 1105] σ σ' := by
  have mσ : modi [10, 11, 12, 1103, 1104, 1105] σ σ := modi.rf
  unfold fX8_type at h
  by_cases hc1 : (fX8_isCode a1) = true
  · have ht1 := ite_t hc1 h
    by_cases hc2 : a2 < 0
    · have ht2 := ite_t hc2 ht1
      obtain ⟨rfl, rfl⟩ := pj2 (Option.some.inj ht2)
      exact mσ
    · have hf2 := ite_f hc2 ht1
      by_cases hc3 : a2 ≤ (255 : Int32)
      · have ht3 := ite_t hc3 hf2
        obtain ⟨hb4, eh4⟩ := grd_some ht3
        obtain ⟨⟨x1, σ1⟩, hv5, eh5⟩ := obi_some eh4
        have mσ1 : modi [10, 11, 12, 1103, 1104, 1105] σ σ1 := mσ.tr (mX1_addByte hv5) (by decide)
        obtain ⟨rfl, rfl⟩ := pj2 (Option.some.inj eh5)
        exact mσ1
      · have hf3 := ite_f hc3 hf2
        obtain ⟨rfl, rfl⟩ := pj2 (Option.some.inj hf3)
        exact mσ
  · have hf1 := ite_f hc1 h
    obtain ⟨rfl, rfl⟩ := pj2 (Option.some.inj hf1)
    exact mσ

set_option maxRecDepth 20000 in
set_option maxHeartbeats 1000000 in
theorem mX8_wipe {σ : St} {a1 : Int32} {v0 : Int32} {σ' : St} (h : fX8_wipe σ a1 = some (v0, σ')) : modi [11, 12, 1103, 1104, 1105] σ σ' := by
  have mσ : modi [11, 12, 1103, 1104, 1105] σ σ := modi.rf
  unfold fX8_wipe at h
  by_cases hc1 : (fX8_isCode a1) = true
  · have ht1 := ite_t hc1 h
    obtain ⟨hb2, eh2⟩ := grd_some ht1
    obtain ⟨⟨x1, σ1⟩, hv3, eh3⟩ := obi_some eh2
    have mσ1 : modi [11, 12, 1103, 1104, 1105] σ σ1 := mσ.tr (mX1_empty hv3) (by decide)
    obtain ⟨rfl, rfl⟩ := pj2 (Option.some.inj eh3)
    exact mσ1
  · have hf1 := ite_f hc1 h
    obtain ⟨rfl, rfl⟩ := pj2 (Option.some.inj hf1)
    exact mσ

set_option maxRecDepth 20000 in
set_option maxHeartbeats 1000000 in
theorem mX8_refuse {σ : St} {a1 : Int32} {v0 : Int32} {σ' : St} (h : fX8_refuse σ a1 = (v0, σ')) : modi [1815] σ σ' := by
  have mσ : modi [1815] σ σ := modi.rf
  unfold fX8_refuse at h
  obtain ⟨σ1, hv1, eh1⟩ := bnd_ex h
  have mσ1 : modi [1815] σ σ1 := hv1 ▸ modi.su mσ (show (1815 : Nat) ∈ ([1815] : List Nat) by decide)
  obtain ⟨rfl, rfl⟩ := pj2 eh1
  exact mσ1

set_option maxRecDepth 20000 in
set_option maxHeartbeats 1000000 in
theorem mX8_match {σ : St} {a1 : Int32} {a2 : Int32} {v0 : Int32} {σ' : St} (h : fX8_match σ a1 a2 = some (v0, σ')) : modi [13, 1302, 1810, 1815] σ σ' := by
  have mσ : modi [13, 1302, 1810, 1815] σ σ := modi.rf
  unfold fX8_match at h
  by_cases hc1 : (fX8_isSheet a1) = true
  · have ht1 := ite_t hc1 h
    by_cases hc2 : a2 < 0
    · have ht2 := ite_t hc2 ht1
      obtain ⟨rfl, rfl⟩ := pj2 (Option.some.inj ht2)
      exact mσ
    · have hf2 := ite_f hc2 ht1
      by_cases hc3 : a2 ≤ (40 : Int32)
      · have ht3 := ite_t hc3 hf2
        obtain ⟨hb4, eh4⟩ := grd_some ht3
        by_cases hc5 : (σ (6, (tn a1)) 1) = 0
        · have ht5 := ite_t hc5 eh4
          obtain ⟨hb6, eh6⟩ := grd_some ht5
          by_cases hc7 : a2 ≤ (σ (6, (tn a1)) 3)
          · have ht7 := ite_t hc7 eh6
            by_cases hc8 : (σ (8, 0) 10) < (12 : Int32)
            · have ht8 := ite_t hc8 ht7
              obtain ⟨hb9, eh9⟩ := grd_some ht8
              obtain ⟨hb10, eh10⟩ := grd_some eh9
              obtain ⟨σ1, hv11, eh11⟩ := obi_some eh10
              have mσ1 : modi [13, 1302, 1810, 1815] σ σ1 := mσ.tr (mX3_setMoments hv11) (by decide)
              obtain ⟨σ2, hv12, eh12⟩ := bnd_ex eh11
              have mσ2 : modi [13, 1302, 1810, 1815] σ σ2 := hv12 ▸ modi.su mσ1 (show (1810 : Nat) ∈ ([13, 1302, 1810, 1815] : List Nat) by decide)
              obtain ⟨rfl, rfl⟩ := pj2 (Option.some.inj eh12)
              exact mσ2
            · have hf8 := ite_f hc8 ht7
              obtain ⟨rfl, rfl⟩ := pj2 (Option.some.inj hf8)
              exact mσ
          · have hf7 := ite_f hc7 eh6
            obtain ⟨⟨x1, σ3⟩, hv13, eh13⟩ := bnd_ex hf7
            have mσ3 : modi [13, 1302, 1810, 1815] σ σ3 := mσ.tr (mX8_refuse hv13) (by decide)
            obtain ⟨rfl, rfl⟩ := pj2 (Option.some.inj eh13)
            exact mσ3
        · have hf5 := ite_f hc5 eh4
          obtain ⟨⟨x2, σ4⟩, hv14, eh14⟩ := bnd_ex hf5
          have mσ4 : modi [13, 1302, 1810, 1815] σ σ4 := mσ.tr (mX8_refuse hv14) (by decide)
          obtain ⟨rfl, rfl⟩ := pj2 (Option.some.inj eh14)
          exact mσ4
      · have hf3 := ite_f hc3 hf2
        obtain ⟨rfl, rfl⟩ := pj2 (Option.some.inj hf3)
        exact mσ
  · have hf1 := ite_f hc1 h
    obtain ⟨rfl, rfl⟩ := pj2 (Option.some.inj hf1)
    exact mσ

set_option maxRecDepth 20000 in
set_option maxHeartbeats 1000000 in
theorem mX8_verdicts {σ : St} {a1 : Int32} {a2 : Int32} {v0 : Int32} {σ' : St} (h : fX8_verdicts σ a1 a2 = some (v0, σ')) : modi [14, 1303, 1815] σ σ' := by
  have mσ : modi [14, 1303, 1815] σ σ := modi.rf
  unfold fX8_verdicts at h
  by_cases hc1 : (fX8_isMatch σ a1) = true
  · have ht1 := ite_t hc1 h
    by_cases hc2 : (fX8_isSheet a2) = true
    · have ht2 := ite_t hc2 ht1
      obtain ⟨hb3, eh3⟩ := grd_some ht2
      by_cases hc4 : (σ (6, (tn a2)) 1) = 0
      · have ht4 := ite_t hc4 eh3
        obtain ⟨hb5, eh5⟩ := grd_some ht4
        obtain ⟨hb6, eh6⟩ := grd_some eh5
        obtain ⟨σ1, hv7, eh7⟩ := obi_some eh6
        have mσ1 : modi [14, 1303, 1815] σ σ1 := mσ.tr (mX3_setVerdicts hv7) (by decide)
        obtain ⟨rfl, rfl⟩ := pj2 (Option.some.inj eh7)
        exact mσ1
      · have hf4 := ite_f hc4 eh3
        obtain ⟨⟨x1, σ2⟩, hv8, eh8⟩ := bnd_ex hf4
        have mσ2 : modi [14, 1303, 1815] σ σ2 := mσ.tr (mX8_refuse hv8) (by decide)
        obtain ⟨rfl, rfl⟩ := pj2 (Option.some.inj eh8)
        exact mσ2
    · have hf2 := ite_f hc2 ht1
      obtain ⟨rfl, rfl⟩ := pj2 (Option.some.inj hf2)
      exact mσ
  · have hf1 := ite_f hc1 h
    obtain ⟨rfl, rfl⟩ := pj2 (Option.some.inj hf1)
    exact mσ

set_option maxRecDepth 20000 in
set_option maxHeartbeats 1000000 in
theorem mX8_mix {σ : St} {r1 : Rf} {r2 : Rf} {a3 : Int32} {σ' : St} (h : fX8_mix σ r1 r2 a3 = some σ') : modi [28] σ σ' := by
  have mσ : modi [28] σ σ := modi.rf
  unfold fX8_mix at h
  refine lpF_md (I := fun (q : Int32 × St) => match q with | (x1, σ1) => modi [28] σ σ1) ?_ h mσ
  rintro ⟨x1, σ1⟩ w1 hx1 mσ1 lc1 lx1
  replace mσ1 : modi [28] σ σ1 := mσ1
  by_cases hc1 : (17 : Int32) ≤ x1
  · have ht1 := ite_t hc1 hx1
    have e2 := congrArg some (lx1 _ (Option.some.inj ht1).symm)
    obtain rfl := (Option.some.inj e2)
    exact mσ1
  · have hf1 := ite_f hc1 hx1
    obtain ⟨x2, hx4, hq4⟩ := obi_some hf1
    obtain ⟨hb3, eh3⟩ := grd_some hq4
    obtain ⟨σ2, hv4, eh4⟩ := bnd_ex eh3
    have mσ2 : modi [28] σ σ2 := hv4 ▸ modi.sr mσ1 (show ¬ (28 : Nat) < 10 by decide) (show (28 : Nat) ∈ ([28] : List Nat) by decide)
    obtain ⟨x3, hv5, eh5⟩ := bnd_ex eh4
    exact lc1 _ (Option.some.inj eh5).symm mσ2

set_option maxRecDepth 20000 in
set_option maxHeartbeats 1000000 in
theorem mX8_played {σ : St} {a1 : Int32} {a2 : Int32} {a3 : Int32} {a4 : Int32} {a5 : Int32} {v0 : Int32} {σ' : St} (h : fX8_played σ a1 a2 a3 a4 a5 = some (v0, σ')) : modi [28, 1400, 1401, 1402, 1403, 1404, 1405, 1406, 1407, 1408, 1409] σ σ' := by
  have mσ : modi [28, 1400, 1401, 1402, 1403, 1404, 1405, 1406, 1407, 1408, 1409] σ σ := modi.rf
  unfold fX8_played at h
  by_cases hc1 : (fX8_isMatch σ a1) = true
  · have ht1 := ite_t hc1 h
    by_cases hc2 : (fX8_isCode a2) = true
    · have ht2 := ite_t hc2 ht1
      by_cases hc3 : (fX8_isCode a3) = true
      · have ht3 := ite_t hc3 ht2
        by_cases hc4 : (fX8_isItemSet a4) = true
        · have ht4 := ite_t hc4 ht3
          by_cases hc5 : (fX8_isPlayedWhat a5) = true
          · have ht5 := ite_t hc5 ht4
            obtain ⟨hb6, eh6⟩ := grd_some ht5
            obtain ⟨hb7, eh7⟩ := grd_some eh6
            obtain ⟨σ1, hv8, eh8⟩ := obi_some eh7
            have mσ1 : modi [28, 1400, 1401, 1402, 1403, 1404, 1405, 1406, 1407, 1408, 1409] σ σ1 := mσ.tr (mX8_mix hv8) (by decide)
            obtain ⟨hb9, eh9⟩ := grd_some eh8
            obtain ⟨σ2, hv10, eh10⟩ := obi_some eh9
            have mσ2 : modi [28, 1400, 1401, 1402, 1403, 1404, 1405, 1406, 1407, 1408, 1409] σ σ2 := mσ1.tr (mX3_playUnder hv10) (by decide)
            obtain ⟨rfl, rfl⟩ := pj2 (Option.some.inj eh10)
            exact mσ2
          · have hf5 := ite_f hc5 ht4
            obtain ⟨rfl, rfl⟩ := pj2 (Option.some.inj hf5)
            exact mσ
        · have hf4 := ite_f hc4 ht3
          obtain ⟨rfl, rfl⟩ := pj2 (Option.some.inj hf4)
          exact mσ
      · have hf3 := ite_f hc3 ht2
        obtain ⟨rfl, rfl⟩ := pj2 (Option.some.inj hf3)
        exact mσ
    · have hf2 := ite_f hc2 ht1
      obtain ⟨rfl, rfl⟩ := pj2 (Option.some.inj hf2)
      exact mσ
  · have hf1 := ite_f hc1 h
    obtain ⟨rfl, rfl⟩ := pj2 (Option.some.inj hf1)
    exact mσ

set_option maxRecDepth 20000 in
set_option maxHeartbeats 1000000 in
theorem mX8_goes {σ : St} {a1 : Int32} {a2 : Int32} {a3 : Int32} {v0 : Int32} {σ' : St} (h : fX8_goes σ a1 a2 a3 = some (v0, σ')) : modi [1400, 1401, 1402, 1403, 1404, 1405, 1406, 1407, 1408, 1409] σ σ' := by
  have mσ : modi [1400, 1401, 1402, 1403, 1404, 1405, 1406, 1407, 1408, 1409] σ σ := modi.rf
  unfold fX8_goes at h
  by_cases hc1 : (fX8_isMatch σ a1) = true
  · have ht1 := ite_t hc1 h
    by_cases hc2 : (fX8_isCode a2) = true
    · have ht2 := ite_t hc2 ht1
      by_cases hc3 : a3 < 0
      · have ht3 := ite_t hc3 ht2
        obtain ⟨rfl, rfl⟩ := pj2 (Option.some.inj ht3)
        exact mσ
      · have hf3 := ite_f hc3 ht2
        obtain ⟨hb4, eh4⟩ := grd_some hf3
        by_cases hc5 : a3 < (σ (3, (tn a1)) 2)
        · have ht5 := ite_t hc5 eh4
          obtain ⟨hb6, eh6⟩ := grd_some ht5
          obtain ⟨hb7, eh7⟩ := grd_some eh6
          obtain ⟨⟨x1, σ1⟩, hv8, eh8⟩ := obi_some eh7
          have mσ1 : modi [1400, 1401, 1402, 1403, 1404, 1405, 1406, 1407, 1408, 1409] σ σ1 := mσ.tr (mX3_wayOf hv8) (by decide)
          obtain ⟨rfl, rfl⟩ := pj2 (Option.some.inj eh8)
          exact mσ1
        · have hf5 := ite_f hc5 eh4
          obtain ⟨rfl, rfl⟩ := pj2 (Option.some.inj hf5)
          exact mσ
    · have hf2 := ite_f hc2 ht1
      obtain ⟨rfl, rfl⟩ := pj2 (Option.some.inj hf2)
      exact mσ
  · have hf1 := ite_f hc1 h
    obtain ⟨rfl, rfl⟩ := pj2 (Option.some.inj hf1)
    exact mσ

set_option maxRecDepth 20000 in
set_option maxHeartbeats 1000000 in
theorem mX8_turned {σ : St} {a1 : Int32} {a2 : Int32} {v0 : Int32} {σ' : St} (h : fX8_turned σ a1 a2 = some (v0, σ')) : modi [1400, 1401, 1402, 1403, 1404, 1405, 1406, 1407, 1408, 1409] σ σ' := by
  have mσ : modi [1400, 1401, 1402, 1403, 1404, 1405, 1406, 1407, 1408, 1409] σ σ := modi.rf
  unfold fX8_turned at h
  by_cases hc1 : (fX8_isCode a1) = true
  · have ht1 := ite_t hc1 h
    by_cases hc2 : (fX8_isCode a2) = true
    · have ht2 := ite_t hc2 ht1
      refine lpF_md (I := fun (q : Int32 × Int32 × St) => match q with | (x1, x2, σ1) => modi [1400, 1401, 1402, 1403, 1404, 1405, 1406, 1407, 1408, 1409] σ σ1) ?_ ht2 mσ
      rintro ⟨x1, x2, σ1⟩ w3 hx3 mσ1 lc3 lx3
      replace mσ1 : modi [1400, 1401, 1402, 1403, 1404, 1405, 1406, 1407, 1408, 1409] σ σ1 := mσ1
      by_cases hc3 : (σ1 (8, 0) 10) ≤ x2
      · have ht3 := ite_t hc3 hx3
        have e4 := congrArg some (lx3 _ (Option.some.inj ht3).symm)
        obtain ⟨rfl, rfl⟩ := pj2 (Option.some.inj e4)
        exact mσ1
      · have hf3 := ite_f hc3 hx3
        obtain ⟨hb5, eh5⟩ := grd_some hf3
        obtain ⟨hb6, eh6⟩ := grd_some eh5
        obtain ⟨σ2, hv7, eh7⟩ := obi_some eh6
        have mσ2 : modi [1400, 1401, 1402, 1403, 1404, 1405, 1406, 1407, 1408, 1409] σ σ2 := mσ1.tr (mX3_playUnder hv7) (by decide)
        obtain ⟨x3, hv8, eh8⟩ := bnd_ex eh7
        obtain ⟨hb9, eh9⟩ := grd_some eh8
        obtain ⟨hb10, eh10⟩ := grd_some eh9
        obtain ⟨σ3, hv11, eh11⟩ := obi_some eh10
        have mσ3 : modi [1400, 1401, 1402, 1403, 1404, 1405, 1406, 1407, 1408, 1409] σ σ3 := mσ2.tr (mX3_playUnder hv11) (by decide)
        obtain ⟨x4, hx13, hq13⟩ := bnd_ex eh11
        obtain ⟨x6, hv12, eh12⟩ := bnd_ex hq13
        exact lc3 _ (Option.some.inj eh12).symm mσ3
    · have hf2 := ite_f hc2 ht1
      obtain ⟨rfl, rfl⟩ := pj2 (Option.some.inj hf2)
      exact mσ
  · have hf1 := ite_f hc1 h
    obtain ⟨rfl, rfl⟩ := pj2 (Option.some.inj hf1)
    exact mσ

set_option maxRecDepth 20000 in
set_option maxHeartbeats 1000000 in
theorem mX8_found {σ : St} {a1 : Int32} {a2 : Int32} {v0 : Int32} {σ' : St} (h : fX8_found σ a1 a2 = some (v0, σ')) : modi [1400, 1401, 1402, 1403, 1404, 1405, 1406, 1407, 1408, 1409] σ σ' := by
  have mσ : modi [1400, 1401, 1402, 1403, 1404, 1405, 1406, 1407, 1408, 1409] σ σ := modi.rf
  unfold fX8_found at h
  by_cases hc1 : (fX8_isAct a1) = true
  · have ht1 := ite_t hc1 h
    by_cases hc2 : (fX8_isCell a2) = true
    · have ht2 := ite_t hc2 ht1
      refine lpF_md (I := fun (q : Int32 × Int32 × St) => match q with | (x1, x2, σ1) => modi [1400, 1401, 1402, 1403, 1404, 1405, 1406, 1407, 1408, 1409] σ σ1) ?_ ht2 mσ
      rintro ⟨x1, x2, σ1⟩ w3 hx3 mσ1 lc3 lx3
      replace mσ1 : modi [1400, 1401, 1402, 1403, 1404, 1405, 1406, 1407, 1408, 1409] σ σ1 := mσ1
      by_cases hc3 : (σ1 (8, 0) 10) ≤ x2
      · have ht3 := ite_t hc3 hx3
        have e4 := congrArg some (lx3 _ (Option.some.inj ht3).symm)
        obtain ⟨rfl, rfl⟩ := pj2 (Option.some.inj e4)
        exact mσ1
      · have hf3 := ite_f hc3 hx3
        obtain ⟨hb5, eh5⟩ := grd_some hf3
        obtain ⟨⟨x3, σ2⟩, hv6, eh6⟩ := obi_some eh5
        have mσ2 : modi [1400, 1401, 1402, 1403, 1404, 1405, 1406, 1407, 1408, 1409] σ σ2 := mσ1.tr (mX3_customOf hv6) (by decide)
        obtain ⟨x4, hv7, eh7⟩ := bnd_ex eh6
        obtain ⟨x5, hv8, eh8⟩ := bnd_ex eh7
        exact lc3 _ (Option.some.inj eh8).symm mσ2
    · have hf2 := ite_f hc2 ht1
      obtain ⟨rfl, rfl⟩ := pj2 (Option.some.inj hf2)
      exact mσ
  · have hf1 := ite_f hc1 h
    obtain ⟨rfl, rfl⟩ := pj2 (Option.some.inj hf1)
    exact mσ

set_option maxRecDepth 20000 in
set_option maxHeartbeats 1000000 in
theorem mX8_fits {σ : St} {a1 : Int32} {a2 : Int32} {v0 : Int32} {σ' : St} (h : fX8_fits σ a1 a2 = some (v0, σ')) : modi [1400, 1401, 1402, 1403, 1404, 1405, 1406, 1407, 1408, 1409] σ σ' := by
  have mσ : modi [1400, 1401, 1402, 1403, 1404, 1405, 1406, 1407, 1408, 1409] σ σ := modi.rf
  unfold fX8_fits at h
  by_cases hc1 : (fX8_isCode a1) = true
  · have ht1 := ite_t hc1 h
    by_cases hc2 : (fX8_isMatch σ a2) = true
    · have ht2 := ite_t hc2 ht1
      obtain ⟨hb3, eh3⟩ := grd_some ht2
      by_cases hc4 : (σ (3, (tn a2)) 3) = 0
      · have ht4 := ite_t hc4 eh3
        obtain ⟨rfl, rfl⟩ := pj2 (Option.some.inj ht4)
        exact mσ
      · have hf4 := ite_f hc4 eh3
        obtain ⟨hb5, eh5⟩ := grd_some hf4
        obtain ⟨hb6, eh6⟩ := grd_some eh5
        obtain ⟨⟨x1, σ1⟩, hv7, eh7⟩ := obi_some eh6
        have mσ1 : modi [1400, 1401, 1402, 1403, 1404, 1405, 1406, 1407, 1408, 1409] σ σ1 := mσ.tr (mX3_agreesWith hv7) (by decide)
        by_cases hc8 : x1 = true
        · have ht8 := ite_t hc8 eh7
          obtain ⟨rfl, rfl⟩ := pj2 (Option.some.inj ht8)
          exact mσ1
        · have hf8 := ite_f hc8 eh7
          obtain ⟨rfl, rfl⟩ := pj2 (Option.some.inj hf8)
          exact mσ1
    · have hf2 := ite_f hc2 ht1
      obtain ⟨rfl, rfl⟩ := pj2 (Option.some.inj hf2)
      exact mσ
  · have hf1 := ite_f hc1 h
    obtain ⟨rfl, rfl⟩ := pj2 (Option.some.inj hf1)
    exact mσ

set_option maxRecDepth 20000 in
set_option maxHeartbeats 1000000 in
theorem mX8_fitsAllTold {σ : St} {r1 : Rf} {v0 : Bool} {σ' : St} (h : fX8_fitsAllTold σ r1 = some (v0, σ')) : modi [1400, 1401, 1402, 1403, 1404, 1405, 1406, 1407, 1408, 1409] σ σ' := by
  have mσ : modi [1400, 1401, 1402, 1403, 1404, 1405, 1406, 1407, 1408, 1409] σ σ := modi.rf
  unfold fX8_fitsAllTold at h
  refine lpF_md (I := fun (q : Int32 × St) => match q with | (x1, σ1) => modi [1400, 1401, 1402, 1403, 1404, 1405, 1406, 1407, 1408, 1409] σ σ1) ?_ h mσ
  rintro ⟨x1, σ1⟩ w1 hx1 mσ1 lc1 lx1
  replace mσ1 : modi [1400, 1401, 1402, 1403, 1404, 1405, 1406, 1407, 1408, 1409] σ σ1 := mσ1
  by_cases hc1 : (σ1 (8, 0) 10) ≤ x1
  · have ht1 := ite_t hc1 hx1
    have e2 := congrArg some (lx1 _ (Option.some.inj ht1).symm)
    obtain ⟨rfl, rfl⟩ := pj2 (Option.some.inj e2)
    exact mσ1
  · have hf1 := ite_f hc1 hx1
    obtain ⟨hb3, eh3⟩ := grd_some hf1
    obtain ⟨y5, hx5, hy5⟩ := bj_some eh3
    have hJ5 : ∀ (σ2 : St), y5 = .inr σ2 → modi [1400, 1401, 1402, 1403, 1404, 1405, 1406, 1407, 1408, 1409] σ σ2 → modi [1400, 1401, 1402, 1403, 1404, 1405, 1406, 1407, 1408, 1409] σ σ' := by
      intro σ2 ey5 mσ2
      have hq5 := bj_r ey5 hy5
      obtain ⟨x3, hv4, eh4⟩ := bnd_ex hq5
      exact lc1 _ (Option.some.inj eh4).symm mσ2
    by_cases hc5 : (σ1 (3, (tn x1)) 3) = 0
    · have ht5 := ite_t hc5 hx5
      exact hJ5 _ (Option.some.inj ht5).symm mσ1
    · have hf5 := ite_f hc5 hx5
      obtain ⟨hb6, eh6⟩ := grd_some hf5
      obtain ⟨⟨x2, σ3⟩, hv7, eh7⟩ := obi_some eh6
      have mσ3 : modi [1400, 1401, 1402, 1403, 1404, 1405, 1406, 1407, 1408, 1409] σ σ3 := mσ1.tr (mX3_agreesWith hv7) (by decide)
      by_cases hc8 : x2 = true
      · have ht8 := ite_t hc8 eh7
        exact hJ5 _ (Option.some.inj ht8).symm mσ3
      · have hf8 := ite_f hc8 eh7
        have e9 := bj_l hf8 hy5
        have e10 := congrArg some (lx1 _ (Option.some.inj e9).symm)
        obtain ⟨rfl, rfl⟩ := pj2 (Option.some.inj e10)
        exact mσ3

set_option maxRecDepth 20000 in
set_option maxHeartbeats 1000000 in
theorem mX8_fitting {σ : St}  {v0 : Int32} {σ' : St} (h : fX8_fitting σ  = some (v0, σ')) : modi [1400, 1401, 1402, 1403, 1404, 1405, 1406, 1407, 1408, 1409] σ σ' := by
  have mσ : modi [1400, 1401, 1402, 1403, 1404, 1405, 1406, 1407, 1408, 1409] σ σ := modi.rf
  unfold fX8_fitting at h
  refine lpF_md (I := fun (q : Int32 × Int32 × St) => match q with | (x1, x2, σ1) => modi [1400, 1401, 1402, 1403, 1404, 1405, 1406, 1407, 1408, 1409] σ σ1) ?_ h mσ
  rintro ⟨x1, x2, σ1⟩ w1 hx1 mσ1 lc1 lx1
  replace mσ1 : modi [1400, 1401, 1402, 1403, 1404, 1405, 1406, 1407, 1408, 1409] σ σ1 := mσ1
  by_cases hc1 : (11 : Int32) ≤ x2
  · have ht1 := ite_t hc1 hx1
    have e2 := congrArg some (lx1 _ (Option.some.inj ht1).symm)
    obtain ⟨rfl, rfl⟩ := pj2 (Option.some.inj e2)
    exact mσ1
  · have hf1 := ite_f hc1 hx1
    obtain ⟨hb3, eh3⟩ := grd_some hf1
    obtain ⟨⟨x3, σ2⟩, hv4, eh4⟩ := obi_some eh3
    have mσ2 : modi [1400, 1401, 1402, 1403, 1404, 1405, 1406, 1407, 1408, 1409] σ σ2 := mσ1.tr (mX8_fitsAllTold hv4) (by decide)
    obtain ⟨x4, hx6, hq6⟩ := bnd_ex eh4
    obtain ⟨x6, hv5, eh5⟩ := bnd_ex hq6
    exact lc1 _ (Option.some.inj eh5).symm mσ2

set_option maxRecDepth 20000 in
set_option maxHeartbeats 1000000 in
theorem mX8_parts {σ : St} {a1 : Int32} {a2 : Int32} {v0 : Int32} {σ' : St} (h : fX8_parts σ a1 a2 = some (v0, σ')) : modi [15, 16, 17, 18, 19, 1400, 1401, 1402, 1403, 1404, 1405, 1406, 1407, 1408, 1409, 1507, 1508] σ σ' := by
  have mσ : modi [15, 16, 17, 18, 19, 1400, 1401, 1402, 1403, 1404, 1405, 1406, 1407, 1408, 1409, 1507, 1508] σ σ := modi.rf
  unfold fX8_parts at h
  by_cases hc1 : (fX8_isCode a1) = true
  · have ht1 := ite_t hc1 h
    by_cases hc2 : (fX8_isCode a2) = true
    · have ht2 := ite_t hc2 ht1
      obtain ⟨hb3, eh3⟩ := grd_some ht2
      obtain ⟨hb4, eh4⟩ := grd_some eh3
      obtain ⟨σ1, hv5, eh5⟩ := obi_some eh4
      have mσ1 : modi [15, 16, 17, 18, 19, 1400, 1401, 1402, 1403, 1404, 1405, 1406, 1407, 1408, 1409, 1507, 1508] σ σ1 := mσ.tr (mX5_part hv5) (by decide)
      by_cases hc6 : (σ1 (5, 0) 7) = 0
      · have ht6 := ite_t hc6 eh5
        obtain ⟨rfl, rfl⟩ := pj2 (Option.some.inj ht6)
        exact mσ1
      · have hf6 := ite_f hc6 eh5
        obtain ⟨rfl, rfl⟩ := pj2 (Option.some.inj hf6)
        exact mσ1
    · have hf2 := ite_f hc2 ht1
      obtain ⟨rfl, rfl⟩ := pj2 (Option.some.inj hf2)
      exact mσ
  · have hf1 := ite_f hc1 h
    obtain ⟨rfl, rfl⟩ := pj2 (Option.some.inj hf1)
    exact mσ

set_option maxRecDepth 20000 in
set_option maxHeartbeats 1000000 in
theorem mX8_parting {σ : St} {a1 : Int32} {a2 : Int32} {a3 : Int32} {v0 : Int32} {σ' : St} (h : fX8_parting σ a1 a2 a3 = some (v0, σ')) : modi [15, 16, 17, 18, 19, 1400, 1401, 1402, 1403, 1404, 1405, 1406, 1407, 1408, 1409, 1507, 1508] σ σ' := by
  have mσ : modi [15, 16, 17, 18, 19, 1400, 1401, 1402, 1403, 1404, 1405, 1406, 1407, 1408, 1409, 1507, 1508] σ σ := modi.rf
  unfold fX8_parting at h
  by_cases hc1 : (fX8_isCode a1) = true
  · have ht1 := ite_t hc1 h
    by_cases hc2 : (fX8_isCode a2) = true
    · have ht2 := ite_t hc2 ht1
      by_cases hc3 : 0 ≤ a3
      · have ht3 := ite_t hc3 ht2
        obtain ⟨hb4, eh4⟩ := grd_some ht3
        obtain ⟨hb5, eh5⟩ := grd_some eh4
        obtain ⟨σ1, hv6, eh6⟩ := obi_some eh5
        have mσ1 : modi [15, 16, 17, 18, 19, 1400, 1401, 1402, 1403, 1404, 1405, 1406, 1407, 1408, 1409, 1507, 1508] σ σ1 := mσ.tr (mX5_part hv6) (by decide)
        by_cases hc7 : (σ1 (5, 0) 7) ≤ a3
        · have ht7 := ite_t hc7 eh6
          obtain ⟨rfl, rfl⟩ := pj2 (Option.some.inj ht7)
          exact mσ1
        · have hf7 := ite_f hc7 eh6
          obtain ⟨hb8, eh8⟩ := grd_some hf7
          obtain ⟨rfl, rfl⟩ := pj2 (Option.some.inj eh8)
          exact mσ1
      · have hf3 := ite_f hc3 ht2
        obtain ⟨rfl, rfl⟩ := pj2 (Option.some.inj hf3)
        exact mσ
    · have hf2 := ite_f hc2 ht1
      obtain ⟨rfl, rfl⟩ := pj2 (Option.some.inj hf2)
      exact mσ
  · have hf1 := ite_f hc1 h
    obtain ⟨rfl, rfl⟩ := pj2 (Option.some.inj hf1)
    exact mσ

set_option maxRecDepth 20000 in
set_option maxHeartbeats 1000000 in
theorem mX8_fewest {σ : St} {a1 : Int32} {a2 : Int32} {v0 : Int32} {σ' : St} (h : fX8_fewest σ a1 a2 = some (v0, σ')) : modi [15, 16, 17, 18, 1400, 1401, 1402, 1403, 1404, 1405, 1406, 1407, 1408, 1409, 1508] σ σ' := by
  have mσ : modi [15, 16, 17, 18, 1400, 1401, 1402, 1403, 1404, 1405, 1406, 1407, 1408, 1409, 1508] σ σ := modi.rf
  unfold fX8_fewest at h
  by_cases hc1 : (fX8_isCode a1) = true
  · have ht1 := ite_t hc1 h
    by_cases hc2 : a2 < 0
    · have ht2 := ite_t hc2 ht1
      obtain ⟨rfl, rfl⟩ := pj2 (Option.some.inj ht2)
      exact mσ
    · have hf2 := ite_f hc2 ht1
      by_cases hc3 : a2 ≤ (1 : Int32)
      · have ht3 := ite_t hc3 hf2
        obtain ⟨hb4, eh4⟩ := grd_some ht3
        obtain ⟨⟨x1, σ1⟩, hv5, eh5⟩ := obi_some eh4
        have mσ1 : modi [15, 16, 17, 18, 1400, 1401, 1402, 1403, 1404, 1405, 1406, 1407, 1408, 1409, 1508] σ σ1 := mσ.tr (mX5_momentsToScore hv5) (by decide)
        obtain ⟨rfl, rfl⟩ := pj2 (Option.some.inj eh5)
        exact mσ1
      · have hf3 := ite_f hc3 hf2
        obtain ⟨rfl, rfl⟩ := pj2 (Option.some.inj hf3)
        exact mσ
  · have hf1 := ite_f hc1 h
    obtain ⟨rfl, rfl⟩ := pj2 (Option.some.inj hf1)
    exact mσ

set_option maxRecDepth 20000 in
set_option maxHeartbeats 1000000 in
theorem mX8_club {σ : St} {a1 : Int32} {a2 : Int32} {v0 : Int32} {σ' : St} (h : fX8_club σ a1 a2 = some (v0, σ')) : modi [1000, 1001, 1811] σ σ' := by
  have mσ : modi [1000, 1001, 1811] σ σ := modi.rf
  unfold fX8_club at h
  by_cases hc1 : (fX8_isCode a1) = true
  · have ht1 := ite_t hc1 h
    by_cases hc2 : (fX8_isItemSet a2) = true
    · have ht2 := ite_t hc2 ht1
      by_cases hc3 : (σ (8, 0) 11) < (12 : Int32)
      · have ht3 := ite_t hc3 ht2
        obtain ⟨hb4, eh4⟩ := grd_some ht3
        obtain ⟨σ1, hv5, eh5⟩ := bnd_ex eh4
        have mσ1 : modi [1000, 1001, 1811] σ σ1 := hv5 ▸ modi.su mσ (show (1000 : Nat) ∈ ([1000, 1001, 1811] : List Nat) by decide)
        obtain ⟨hb6, eh6⟩ := grd_some eh5
        obtain ⟨σ2, hv7, eh7⟩ := bnd_ex eh6
        have mσ2 : modi [1000, 1001, 1811] σ σ2 := hv7 ▸ modi.su mσ1 (show (1001 : Nat) ∈ ([1000, 1001, 1811] : List Nat) by decide)
        obtain ⟨σ3, hv8, eh8⟩ := bnd_ex eh7
        have mσ3 : modi [1000, 1001, 1811] σ σ3 := hv8 ▸ modi.su mσ2 (show (1811 : Nat) ∈ ([1000, 1001, 1811] : List Nat) by decide)
        obtain ⟨rfl, rfl⟩ := pj2 (Option.some.inj eh8)
        exact mσ3
      · have hf3 := ite_f hc3 ht2
        obtain ⟨rfl, rfl⟩ := pj2 (Option.some.inj hf3)
        exact mσ
    · have hf2 := ite_f hc2 ht1
      obtain ⟨rfl, rfl⟩ := pj2 (Option.some.inj hf2)
      exact mσ
  · have hf1 := ite_f hc1 h
    obtain ⟨rfl, rfl⟩ := pj2 (Option.some.inj hf1)
    exact mσ

set_option maxRecDepth 20000 in
set_option maxHeartbeats 1000000 in
theorem mX8_change {σ : St} {a1 : Int32} {a2 : Int32} {a3 : Int32} {v0 : Int32} {σ' : St} (h : fX8_change σ a1 a2 a3 = some (v0, σ')) : modi [1000, 1001] σ σ' := by
  have mσ : modi [1000, 1001] σ σ := modi.rf
  unfold fX8_change at h
  by_cases hc1 : (fX8_isClub σ a1) = true
  · have ht1 := ite_t hc1 h
    obtain ⟨hb2, eh2⟩ := grd_some ht1
    obtain ⟨y3, hx3, hy3⟩ := bj_some eh2
    have hJ3 : ∀ (σ1 : St), y3 = .inr σ1 → modi [1000, 1001] σ σ1 → modi [1000, 1001] σ σ' := by
      intro σ1 ey3 mσ1
      have hq3 := bj_r ey3 hy3
      obtain ⟨y9, hx9, hy9⟩ := bj_some hq3
      have hJ9 : ∀ (σ3 : St), y9 = .inr σ3 → modi [1000, 1001] σ σ3 → modi [1000, 1001] σ σ' := by
        intro σ3 ey9 mσ3
        have hq9 := bj_r ey9 hy9
        obtain ⟨rfl, rfl⟩ := pj2 (Option.some.inj hq9)
        exact mσ3
      by_cases hc3 : a2 = (1 : Int32)
      · have ht3 := ite_t hc3 hx9
        by_cases hc4 : (fX8_isItemSet a3) = true
        · have ht4 := ite_t hc4 ht3
          obtain ⟨x2, hv5, eh5⟩ := bnd_ex ht4
          obtain ⟨σ4, hv6, eh6⟩ := bnd_ex eh5
          have mσ4 : modi [1000, 1001] σ σ4 := hv6 ▸ modi.su mσ1 (show (1001 : Nat) ∈ ([1000, 1001] : List Nat) by decide)
          have e7 := bj_l eh6 hy9
          obtain ⟨rfl, rfl⟩ := pj2 (Option.some.inj e7)
          exact mσ4
        · have hf4 := ite_f hc4 ht3
          exact hJ9 _ (Option.some.inj hf4).symm mσ1
      · have hf3 := ite_f hc3 hx9
        exact hJ9 _ (Option.some.inj hf3).symm mσ1
    by_cases hc8 : a2 = 0
    · have ht8 := ite_t hc8 hx3
      by_cases hc9 : (fX8_isCode a3) = true
      · have ht9 := ite_t hc9 ht8
        obtain ⟨x1, hv10, eh10⟩ := bnd_ex ht9
        obtain ⟨σ2, hv11, eh11⟩ := bnd_ex eh10
        have mσ2 : modi [1000, 1001] σ σ2 := hv11 ▸ modi.su mσ (show (1000 : Nat) ∈ ([1000, 1001] : List Nat) by decide)
        have e12 := bj_l eh11 hy3
        obtain ⟨rfl, rfl⟩ := pj2 (Option.some.inj e12)
        exact mσ2
      · have hf9 := ite_f hc9 ht8
        exact hJ3 _ (Option.some.inj hf9).symm mσ
    · have hf8 := ite_f hc8 hx3
      exact hJ3 _ (Option.some.inj hf8).symm mσ
  · have hf1 := ite_f hc1 h
    obtain ⟨rfl, rfl⟩ := pj2 (Option.some.inj hf1)
    exact mσ

set_option maxRecDepth 20000 in
set_option maxHeartbeats 1000000 in
theorem mX8_between {σ : St} {a1 : Int32} {a2 : Int32} {a3 : Int32} {a4 : Int32} {v0 : Int32} {σ' : St} (h : fX8_between σ a1 a2 a3 a4 = some (v0, σ')) : modi [28, 1400, 1401, 1402, 1403, 1404, 1405, 1406, 1407, 1408, 1409] σ σ' := by
  have mσ : modi [28, 1400, 1401, 1402, 1403, 1404, 1405, 1406, 1407, 1408, 1409] σ σ := modi.rf
  unfold fX8_between at h
  by_cases hc1 : (fX8_areTwoClubs σ a1 a2) = true
  · have ht1 := ite_t hc1 h
    by_cases hc2 : (fX8_isMatch σ a3) = true
    · have ht2 := ite_t hc2 ht1
      by_cases hc3 : (fX8_isPlayedWhat a4) = true
      · have ht3 := ite_t hc3 ht2
        obtain ⟨x1, hv4, eh4⟩ := obi_some ht3
        by_cases hc5 : x1 = 0
        · have ht5 := ite_t hc5 eh4
          obtain ⟨x2, hv6, eh6⟩ := bnd_ex ht5
          obtain ⟨x3, hv7, eh7⟩ := bnd_ex eh6
          obtain ⟨x4, hv8, eh8⟩ := obi_some eh7
          obtain ⟨x5, hv9, eh9⟩ := obi_some eh8
          obtain ⟨x6, hv10, eh10⟩ := obi_some eh9
          obtain ⟨σ1, hv11, eh11⟩ := obi_some eh10
          have mσ1 : modi [28, 1400, 1401, 1402, 1403, 1404, 1405, 1406, 1407, 1408, 1409] σ σ1 := mσ.tr (mX8_mix hv11) (by decide)
          obtain ⟨hb12, eh12⟩ := grd_some eh11
          obtain ⟨σ2, hv13, eh13⟩ := obi_some eh12
          have mσ2 : modi [28, 1400, 1401, 1402, 1403, 1404, 1405, 1406, 1407, 1408, 1409] σ σ2 := mσ1.tr (mX3_playUnder hv13) (by decide)
          obtain ⟨rfl, rfl⟩ := pj2 (Option.some.inj eh13)
          exact mσ2
        · have hf5 := ite_f hc5 eh4
          obtain ⟨rfl, rfl⟩ := pj2 (Option.some.inj hf5)
          exact mσ
      · have hf3 := ite_f hc3 ht2
        obtain ⟨rfl, rfl⟩ := pj2 (Option.some.inj hf3)
        exact mσ
    · have hf2 := ite_f hc2 ht1
      obtain ⟨rfl, rfl⟩ := pj2 (Option.some.inj hf2)
      exact mσ
  · have hf1 := ite_f hc1 h
    obtain ⟨rfl, rfl⟩ := pj2 (Option.some.inj hf1)
    exact mσ

set_option maxRecDepth 20000 in
set_option maxHeartbeats 1000000 in
theorem mX8_halves {σ : St} {a1 : Int32} {a2 : Int32} {a3 : Int32} {a4 : Int32} {v0 : Int32} {σ' : St} (h : fX8_halves σ a1 a2 a3 a4 = some (v0, σ')) : modi [1400, 1401, 1402, 1403, 1404, 1405, 1406, 1407, 1408, 1409] σ σ' := by
  have mσ : modi [1400, 1401, 1402, 1403, 1404, 1405, 1406, 1407, 1408, 1409] σ σ := modi.rf
  unfold fX8_halves at h
  by_cases hc1 : (fX8_areTwoClubs σ a1 a2) = true
  · have ht1 := ite_t hc1 h
    by_cases hc2 : (fX8_isMatch σ a3) = true
    · have ht2 := ite_t hc2 ht1
      by_cases hc3 : (fX8_isPlayedWhat a4) = true
      · have ht3 := ite_t hc3 ht2
        obtain ⟨hb4, eh4⟩ := grd_some ht3
        obtain ⟨x1, hv5, eh5⟩ := obi_some eh4
        obtain ⟨x2, hv6, eh6⟩ := obi_some eh5
        obtain ⟨σ1, hv7, eh7⟩ := obi_some eh6
        have mσ1 : modi [1400, 1401, 1402, 1403, 1404, 1405, 1406, 1407, 1408, 1409] σ σ1 := mσ.tr (mX3_playByHalves hv7) (by decide)
        obtain ⟨rfl, rfl⟩ := pj2 (Option.some.inj eh7)
        exact mσ1
      · have hf3 := ite_f hc3 ht2
        obtain ⟨rfl, rfl⟩ := pj2 (Option.some.inj hf3)
        exact mσ
    · have hf2 := ite_f hc2 ht1
      obtain ⟨rfl, rfl⟩ := pj2 (Option.some.inj hf2)
      exact mσ
  · have hf1 := ite_f hc1 h
    obtain ⟨rfl, rfl⟩ := pj2 (Option.some.inj hf1)
    exact mσ

set_option maxRecDepth 20000 in
set_option maxHeartbeats 1000000 in
theorem mX8_member {σ : St} {a1 : Int32} {a2 : Bool} {v0 : Int32} {σ' : St} (h : fX8_member σ a1 a2 = some (v0, σ')) : modi [1002] σ σ' := by
  have mσ : modi [1002] σ σ := modi.rf
  unfold fX8_member at h
  by_cases hc1 : (fX8_isClub σ a1) = true
  · have ht1 := ite_t hc1 h
    obtain ⟨hb2, eh2⟩ := grd_some ht1
    by_cases hc3 : (σ (0, (tn a1)) 2) = (b2i a2)
    · have ht3 := ite_t hc3 eh2
      obtain ⟨rfl, rfl⟩ := pj2 (Option.some.inj ht3)
      exact mσ
    · have hf3 := ite_f hc3 eh2
      obtain ⟨hb4, eh4⟩ := grd_some hf3
      obtain ⟨σ1, hv5, eh5⟩ := bnd_ex eh4
      have mσ1 : modi [1002] σ σ1 := hv5 ▸ modi.su mσ (show (1002 : Nat) ∈ ([1002] : List Nat) by decide)
      obtain ⟨rfl, rfl⟩ := pj2 (Option.some.inj eh5)
      exact mσ1
  · have hf1 := ite_f hc1 h
    obtain ⟨rfl, rfl⟩ := pj2 (Option.some.inj hf1)
    exact mσ

set_option maxRecDepth 20000 in
set_option maxHeartbeats 1000000 in
theorem mX8_rule {σ : St} {a1 : Int32} {a2 : Int32} {v0 : Int32} {σ' : St} (h : fX8_rule σ a1 a2 = (v0, σ')) : modi [1812, 1813, 1814] σ σ' := by
  have mσ : modi [1812, 1813, 1814] σ σ := modi.rf
  unfold fX8_rule at h
  obtain ⟨y1, hx1, hy1⟩ := bjp_some h
  have hJ1 : ∀ (x1 : Int32) (σ1 : St), y1 = .inr (x1, σ1) → modi [1812, 1813, 1814] σ σ1 → modi [1812, 1813, 1814] σ σ' := by
    intro x1 σ1 ey1 mσ1
    have hq1 := bjp_r ey1 hy1
    obtain ⟨y8, hx8, hy8⟩ := bjp_some hq1
    have hJ8 : ∀ (x3 : Int32) (σ3 : St), y8 = .inr (x3, σ3) → modi [1812, 1813, 1814] σ σ3 → modi [1812, 1813, 1814] σ σ' := by
      intro x3 σ3 ey8 mσ3
      have hq8 := bjp_r ey8 hy8
      by_cases hc1 : a1 = (2 : Int32)
      · have ht1 := ite_t hc1 hq8
        by_cases hc2 : a2 < 0
        · have ht2 := ite_t hc2 ht1
          obtain ⟨rfl, rfl⟩ := pj2 ht2
          exact mσ3
        · have hf2 := ite_f hc2 ht1
          by_cases hc3 : (12 : Int32) < a2
          · have ht3 := ite_t hc3 hf2
            obtain ⟨rfl, rfl⟩ := pj2 ht3
            exact mσ3
          · have hf3 := ite_f hc3 hf2
            obtain ⟨x5, hv4, eh4⟩ := bnd_ex hf3
            obtain ⟨σ5, hv5, eh5⟩ := bnd_ex eh4
            have mσ5 : modi [1812, 1813, 1814] σ σ5 := hv5 ▸ modi.su mσ3 (show (1814 : Nat) ∈ ([1812, 1813, 1814] : List Nat) by decide)
            obtain ⟨rfl, rfl⟩ := pj2 eh5
            exact mσ5
      · have hf1 := ite_f hc1 hq8
        obtain ⟨rfl, rfl⟩ := pj2 hf1
        exact mσ3
    by_cases hc6 : a1 = (1 : Int32)
    · have ht6 := ite_t hc6 hx8
      by_cases hc7 : a2 < (σ1 (8, 0) 12)
      · have ht7 := ite_t hc7 ht6
        exact hJ8 _ _ ht7.symm mσ1
      · have hf7 := ite_f hc7 ht6
        by_cases hc8 : (9 : Int32) < a2
        · have ht8 := ite_t hc8 hf7
          exact hJ8 _ _ ht8.symm mσ1
        · have hf8 := ite_f hc8 hf7
          obtain ⟨x4, hv9, eh9⟩ := bnd_ex hf8
          obtain ⟨σ4, hv10, eh10⟩ := bnd_ex eh9
          have mσ4 : modi [1812, 1813, 1814] σ σ4 := hv10 ▸ modi.su mσ1 (show (1813 : Nat) ∈ ([1812, 1813, 1814] : List Nat) by decide)
          have e11 := bjp_l eh10 hy8
          obtain ⟨rfl, rfl⟩ := pj2 e11
          exact mσ4
    · have hf6 := ite_f hc6 hx8
      exact hJ8 _ _ hf6.symm mσ1
  by_cases hc12 : a1 = 0
  · have ht12 := ite_t hc12 hx1
    by_cases hc13 : a2 < (1 : Int32)
    · have ht13 := ite_t hc13 ht12
      exact hJ1 _ _ ht13.symm mσ
    · have hf13 := ite_f hc13 ht12
      by_cases hc14 : (σ (8, 0) 13) < a2
      · have ht14 := ite_t hc14 hf13
        exact hJ1 _ _ ht14.symm mσ
      · have hf14 := ite_f hc14 hf13
        obtain ⟨x2, hv15, eh15⟩ := bnd_ex hf14
        obtain ⟨σ2, hv16, eh16⟩ := bnd_ex eh15
        have mσ2 : modi [1812, 1813, 1814] σ σ2 := hv16 ▸ modi.su mσ (show (1812 : Nat) ∈ ([1812, 1813, 1814] : List Nat) by decide)
        have e17 := bjp_l eh16 hy1
        obtain ⟨rfl, rfl⟩ := pj2 e17
        exact mσ2
  · have hf12 := ite_f hc12 hx1
    exact hJ1 _ _ hf12.symm mσ

set_option maxRecDepth 20000 in
set_option maxHeartbeats 1000000 in
theorem mX8_enact {σ : St} {a1 : Int32} {v0 : Int32} {σ' : St} (h : fX8_enact σ a1 = some (v0, σ')) : modi [27] σ σ' := by
  have mσ : modi [27] σ σ := modi.rf
  unfold fX8_enact at h
  by_cases hc1 : (fX8_isCode a1) = true
  · have ht1 := ite_t hc1 h
    obtain ⟨hb2, eh2⟩ := grd_some ht1
    obtain ⟨hb3, eh3⟩ := grd_some eh2
    obtain ⟨σ1, hv4, eh4⟩ := bnd_ex eh3
    have mσ1 : modi [27] σ σ1 := hv4 ▸ modi.sr mσ (show ¬ (27 : Nat) < 10 by decide) (show (27 : Nat) ∈ ([27] : List Nat) by decide)
    obtain ⟨rfl, rfl⟩ := pj2 (Option.some.inj eh4)
    exact mσ1
  · have hf1 := ite_f hc1 h
    obtain ⟨rfl, rfl⟩ := pj2 (Option.some.inj hf1)
    exact mσ

set_option maxRecDepth 20000 in
set_option maxHeartbeats 1000000 in
theorem mX8_put {σ : St} {a1 : Int32} {a2 : Int32} {v0 : Int32} {σ' : St} (h : fX8_put σ a1 a2 = some (v0, σ')) : modi [27, 1002] σ σ' := by
  have mσ : modi [27, 1002] σ σ := modi.rf
  unfold fX8_put at h
  by_cases hc1 : (fX8_isItem a1) = true
  · have ht1 := ite_t hc1 h
    by_cases hc2 : (fX8_isCode a2) = true
    · have ht2 := ite_t hc2 ht1
      obtain ⟨hb3, eh3⟩ := grd_some ht2
      obtain ⟨hb4, eh4⟩ := grd_some eh3
      obtain ⟨x1, hv5, eh5⟩ := bnd_ex eh4
      obtain ⟨x2, hv6, eh6⟩ := obi_some eh5
      by_cases hc7 : x2 = true
      · have ht7 := ite_t hc7 eh6
        obtain ⟨x3, hv8, eh8⟩ := obi_some ht7
        obtain ⟨σ1, hx9, hq9⟩ := obi_some eh8
        have mσ1 : modi [27, 1002] σ σ1 := by
          refine lpF_md (I := fun (q : Int32 × St) => match q with | (x4, σ2) => modi [27, 1002] σ σ2) ?_ hx9 mσ
          rintro ⟨x4, σ2⟩ w10 hx10 mσ2 lc10 lx10
          replace mσ2 : modi [27, 1002] σ σ2 := mσ2
          by_cases hc9 : (σ2 (8, 0) 11) ≤ x4
          · have ht9 := ite_t hc9 hx10
            have e10 := congrArg some (lx10 _ (Option.some.inj ht9).symm)
            obtain rfl := (Option.some.inj e10)
            exact mσ2
          · have hf9 := ite_f hc9 hx10
            obtain ⟨σ3, hx13, hq13⟩ := obi_some hf9
            have mσ3 : modi [27, 1002] σ σ3 := by
              by_cases hc11 : ((x3 >>> (x4 &&& 31)) &&& (1 : Int32)) = (1 : Int32)
              · have ht11 := ite_t hc11 hx13
                obtain ⟨hb12, eh12⟩ := grd_some ht11
                obtain ⟨σ4, hv13, eh13⟩ := bnd_ex eh12
                have mσ4 : modi [27, 1002] σ σ4 := hv13 ▸ modi.su mσ2 (show (1002 : Nat) ∈ ([27, 1002] : List Nat) by decide)
                obtain rfl := (Option.some.inj eh13)
                exact mσ4
              · have hf11 := ite_f hc11 hx13
                obtain rfl := (Option.some.inj hf11)
                exact mσ2
            obtain ⟨x5, hv14, eh14⟩ := bnd_ex hq13
            exact lc10 _ (Option.some.inj eh14).symm mσ3
        obtain ⟨hb15, eh15⟩ := grd_some hq9
        obtain ⟨σ5, hv16, eh16⟩ := bnd_ex eh15
        have mσ5 : modi [27, 1002] σ σ5 := hv16 ▸ modi.sr mσ1 (show ¬ (27 : Nat) < 10 by decide) (show (27 : Nat) ∈ ([27, 1002] : List Nat) by decide)
        obtain ⟨rfl, rfl⟩ := pj2 (Option.some.inj eh16)
        exact mσ5
      · have hf7 := ite_f hc7 eh6
        obtain ⟨rfl, rfl⟩ := pj2 (Option.some.inj hf7)
        exact mσ
    · have hf2 := ite_f hc2 ht1
      obtain ⟨rfl, rfl⟩ := pj2 (Option.some.inj hf2)
      exact mσ
  · have hf1 := ite_f hc1 h
    obtain ⟨rfl, rfl⟩ := pj2 (Option.some.inj hf1)
    exact mσ

set_option maxRecDepth 20000 in
set_option maxHeartbeats 1000000 in
theorem mX8_hurtInAll {σ : St}  {v0 : Int32} {σ' : St} (h : fX8_hurtInAll σ  = some (v0, σ')) : modi [1400, 1401, 1402, 1403, 1404, 1405, 1406, 1407, 1408, 1409] σ σ' := by
  have mσ : modi [1400, 1401, 1402, 1403, 1404, 1405, 1406, 1407, 1408, 1409] σ σ := modi.rf
  unfold fX8_hurtInAll at h
  refine lpF_md (I := fun (q : Int32 × Int32 × St) => match q with | (x1, x2, σ1) => modi [1400, 1401, 1402, 1403, 1404, 1405, 1406, 1407, 1408, 1409] σ σ1) ?_ h mσ
  rintro ⟨x1, x2, σ1⟩ w1 hx1 mσ1 lc1 lx1
  replace mσ1 : modi [1400, 1401, 1402, 1403, 1404, 1405, 1406, 1407, 1408, 1409] σ σ1 := mσ1
  by_cases hc1 : (σ1 (8, 0) 10) ≤ x2
  · have ht1 := ite_t hc1 hx1
    have e2 := congrArg some (lx1 _ (Option.some.inj ht1).symm)
    obtain ⟨rfl, rfl⟩ := pj2 (Option.some.inj e2)
    exact mσ1
  · have hf1 := ite_f hc1 hx1
    obtain ⟨hb3, eh3⟩ := grd_some hf1
    obtain ⟨σ2, hv4, eh4⟩ := obi_some eh3
    have mσ2 : modi [1400, 1401, 1402, 1403, 1404, 1405, 1406, 1407, 1408, 1409] σ σ2 := mσ1.tr (mX3_playUnder hv4) (by decide)
    obtain ⟨x3, hv5, eh5⟩ := bnd_ex eh4
    obtain ⟨x4, hv6, eh6⟩ := bnd_ex eh5
    exact lc1 _ (Option.some.inj eh6).symm mσ2

set_option maxRecDepth 20000 in
set_option maxHeartbeats 1000000 in
theorem mX8_seekLines {σ : St} {a1 : Int32} {r2 : Rf} {σ' : St} (h : fX8_seekLines σ a1 r2 = some σ') : modi [28, 1200, 1201, 1202, 1400, 1401, 1402, 1403, 1404, 1405, 1406, 1407, 1408, 1409] σ σ' := by
  have mσ : modi [28, 1200, 1201, 1202, 1400, 1401, 1402, 1403, 1404, 1405, 1406, 1407, 1408, 1409] σ σ := modi.rf
  unfold fX8_seekLines at h
  obtain ⟨x1, hv1, eh1⟩ := obi_some h
  obtain ⟨x2, hv2, eh2⟩ := bnd_ex eh1
  obtain ⟨x3, hv3, eh3⟩ := bnd_ex eh2
  obtain ⟨σ1, hv4, eh4⟩ := bnd_ex eh3
  have mσ1 : modi [28, 1200, 1201, 1202, 1400, 1401, 1402, 1403, 1404, 1405, 1406, 1407, 1408, 1409] σ σ1 := mσ.tr (mX2_clear hv4) (by decide)
  refine lpF_md (I := fun (q : Int32 × Int32 × St) => match q with | (x4, x5, σ2) => modi [28, 1200, 1201, 1202, 1400, 1401, 1402, 1403, 1404, 1405, 1406, 1407, 1408, 1409] σ σ2) ?_ eh4 mσ1
  rintro ⟨x4, x5, σ2⟩ w5 hx5 mσ2 lc5 lx5
  replace mσ2 : modi [28, 1200, 1201, 1202, 1400, 1401, 1402, 1403, 1404, 1405, 1406, 1407, 1408, 1409] σ σ2 := mσ2
  by_cases hc5 : x3 ≤ x5
  · have ht5 := ite_t hc5 hx5
    have e6 := congrArg some (lx5 _ (Option.some.inj ht5).symm)
    obtain rfl := (Option.some.inj e6)
    exact mσ2
  · have hf5 := ite_f hc5 hx5
    obtain ⟨σ3, hv7, eh7⟩ := obi_some hf5
    have mσ3 : modi [28, 1200, 1201, 1202, 1400, 1401, 1402, 1403, 1404, 1405, 1406, 1407, 1408, 1409] σ σ3 := mσ2.tr (mX8_mix hv7) (by decide)
    obtain ⟨x6, hv8, eh8⟩ := obi_some eh7
    obtain ⟨σ4, hx10, hq10⟩ := obi_some eh8
    have mσ4 : modi [28, 1200, 1201, 1202, 1400, 1401, 1402, 1403, 1404, 1405, 1406, 1407, 1408, 1409] σ σ4 := by
      by_cases hc9 : x6 < (σ3 (2, 0) 1)
      · have ht9 := ite_t hc9 hx10
        obtain rfl := (Option.some.inj ht9)
        exact mσ3
      · have hf9 := ite_f hc9 hx10
        obtain ⟨⟨x7, σ5⟩, hv10, eh10⟩ := obi_some hf9
        have mσ5 : modi [28, 1200, 1201, 1202, 1400, 1401, 1402, 1403, 1404, 1405, 1406, 1407, 1408, 1409] σ σ5 := mσ3.tr (mX8_hurtInAll hv10) (by decide)
        obtain ⟨σ6, hv11, eh11⟩ := bnd_ex eh10
        have mσ6 : modi [28, 1200, 1201, 1202, 1400, 1401, 1402, 1403, 1404, 1405, 1406, 1407, 1408, 1409] σ σ6 := mσ5.tr (mX2_offer hv11) (by decide)
        obtain rfl := (Option.some.inj eh11)
        exact mσ6
    obtain ⟨x8, hv12, eh12⟩ := bnd_ex hq10
    obtain ⟨x9, hv13, eh13⟩ := bnd_ex eh12
    exact lc5 _ (Option.some.inj eh13).symm mσ4

set_option maxRecDepth 20000 in
set_option maxHeartbeats 1000000 in
theorem mX8_best {σ : St} {a1 : Int32} {a2 : Int32} {a3 : Int32} {v0 : Int32} {σ' : St} (h : fX8_best σ a1 a2 a3 = some (v0, σ')) : modi [28, 1200, 1201, 1202, 1400, 1401, 1402, 1403, 1404, 1405, 1406, 1407, 1408, 1409] σ σ' := by
  have mσ : modi [28, 1200, 1201, 1202, 1400, 1401, 1402, 1403, 1404, 1405, 1406, 1407, 1408, 1409] σ σ := modi.rf
  unfold fX8_best at h
  by_cases hc1 : (fX8_isItemSet a1) = true
  · have ht1 := ite_t hc1 h
    by_cases hc2 : (9 : Int32) < (fJ6_bitCount_0f7a4 a1)
    · have ht2 := ite_t hc2 ht1
      obtain ⟨rfl, rfl⟩ := pj2 (Option.some.inj ht2)
      exact mσ
    · have hf2 := ite_f hc2 ht1
      by_cases hc3 : (fX8_isCode a2) = true
      · have ht3 := ite_t hc3 hf2
        by_cases hc4 : a3 < 0
        · have ht4 := ite_t hc4 ht3
          obtain ⟨rfl, rfl⟩ := pj2 (Option.some.inj ht4)
          exact mσ
        · have hf4 := ite_f hc4 ht3
          by_cases hc5 : a3 ≤ (2 : Int32)
          · have ht5 := ite_t hc5 hf4
            obtain ⟨hb6, eh6⟩ := grd_some ht5
            obtain ⟨σ1, hv7, eh7⟩ := obi_some eh6
            have mσ1 : modi [28, 1200, 1201, 1202, 1400, 1401, 1402, 1403, 1404, 1405, 1406, 1407, 1408, 1409] σ σ1 := mσ.tr (mX8_seekLines hv7) (by decide)
            by_cases hc8 : a3 = 0
            · have ht8 := ite_t hc8 eh7
              obtain ⟨rfl, rfl⟩ := pj2 (Option.some.inj ht8)
              exact mσ1
            · have hf8 := ite_f hc8 eh7
              by_cases hc9 : a3 = (1 : Int32)
              · have ht9 := ite_t hc9 hf8
                obtain ⟨rfl, rfl⟩ := pj2 (Option.some.inj ht9)
                exact mσ1
              · have hf9 := ite_f hc9 hf8
                obtain ⟨rfl, rfl⟩ := pj2 (Option.some.inj hf9)
                exact mσ1
          · have hf5 := ite_f hc5 hf4
            obtain ⟨rfl, rfl⟩ := pj2 (Option.some.inj hf5)
            exact mσ
      · have hf3 := ite_f hc3 hf2
        obtain ⟨rfl, rfl⟩ := pj2 (Option.some.inj hf3)
        exact mσ
  · have hf1 := ite_f hc1 h
    obtain ⟨rfl, rfl⟩ := pj2 (Option.some.inj hf1)
    exact mσ

set_option maxRecDepth 20000 in
set_option maxHeartbeats 1000000 in
theorem mX8_way {σ : St} {a1 : Int32} {a2 : Int32} {a3 : Int32} {v0 : Int32} {σ' : St} (h : fX8_way σ a1 a2 a3 = some (v0, σ')) : modi [21] σ σ' := by
  have mσ : modi [21] σ σ := modi.rf
  unfold fX8_way at h
  by_cases hc1 : (fX8_areTwoClubs σ a1 a2) = true
  · have ht1 := ite_t hc1 h
    by_cases hc2 : (fX8_isWay a3) = true
    · have ht2 := ite_t hc2 ht1
      obtain ⟨⟨x1, σ1⟩, hv3, eh3⟩ := obi_some ht2
      have mσ1 : modi [21] σ σ1 := mσ.tr (mX7_setBetween hv3) (by decide)
      obtain ⟨rfl, rfl⟩ := pj2 (Option.some.inj eh3)
      exact mσ1
    · have hf2 := ite_f hc2 ht1
      obtain ⟨rfl, rfl⟩ := pj2 (Option.some.inj hf2)
      exact mσ
  · have hf1 := ite_f hc1 h
    obtain ⟨rfl, rfl⟩ := pj2 (Option.some.inj hf1)
    exact mσ

set_option maxRecDepth 20000 in
set_option maxHeartbeats 1000000 in
theorem mX8_draws {σ : St} {a1 : Int32} {a2 : Int32} {v0 : Int32} {σ' : St} (h : fX8_draws σ a1 a2 = some (v0, σ')) : modi [22] σ σ' := by
  have mσ : modi [22] σ σ := modi.rf
  unfold fX8_draws at h
  by_cases hc1 : (fX8_isField σ a1) = true
  · have ht1 := ite_t hc1 h
    by_cases hc2 : (fX8_isWay a2) = true
    · have ht2 := ite_t hc2 ht1
      obtain ⟨⟨x1, σ1⟩, hv3, eh3⟩ := obi_some ht2
      have mσ1 : modi [22] σ σ1 := mσ.tr (mX7_countDraws hv3) (by decide)
      obtain ⟨rfl, rfl⟩ := pj2 (Option.some.inj eh3)
      exact mσ1
    · have hf2 := ite_f hc2 ht1
      obtain ⟨rfl, rfl⟩ := pj2 (Option.some.inj hf2)
      exact mσ
  · have hf1 := ite_f hc1 h
    obtain ⟨rfl, rfl⟩ := pj2 (Option.some.inj hf1)
    exact mσ

set_option maxRecDepth 20000 in
set_option maxHeartbeats 1000000 in
theorem mX8_mate {σ : St} {a1 : Int32} {a2 : Int32} {a3 : Int32} {v0 : Int32} {σ' : St} (h : fX8_mate σ a1 a2 a3 = some (v0, σ')) : modi [22] σ σ' := by
  have mσ : modi [22] σ σ := modi.rf
  unfold fX8_mate at h
  by_cases hc1 : (fX8_isField σ a1) = true
  · have ht1 := ite_t hc1 h
    by_cases hc2 : (fX8_isWay a2) = true
    · have ht2 := ite_t hc2 ht1
      by_cases hc3 : (fX8_isClub σ a3) = true
      · have ht3 := ite_t hc3 ht2
        by_cases hc4 : ((a1 >>> (a3 &&& 31)) &&& (1 : Int32)) = 0
        · have ht4 := ite_t hc4 ht3
          obtain ⟨rfl, rfl⟩ := pj2 (Option.some.inj ht4)
          exact mσ
        · have hf4 := ite_f hc4 ht3
          obtain ⟨⟨x1, σ1⟩, hv5, eh5⟩ := obi_some hf4
          have mσ1 : modi [22] σ σ1 := mσ.tr (mX7_leastTogether hv5) (by decide)
          by_cases hc6 : x1 = (-1 : Int32)
          · have ht6 := ite_t hc6 eh5
            obtain ⟨rfl, rfl⟩ := pj2 (Option.some.inj ht6)
            exact mσ1
          · have hf6 := ite_f hc6 eh5
            obtain ⟨x2, hv7, eh7⟩ := obi_some hf6
            obtain ⟨rfl, rfl⟩ := pj2 (Option.some.inj eh7)
            exact mσ1
      · have hf3 := ite_f hc3 ht2
        obtain ⟨rfl, rfl⟩ := pj2 (Option.some.inj hf3)
        exact mσ
    · have hf2 := ite_f hc2 ht1
      obtain ⟨rfl, rfl⟩ := pj2 (Option.some.inj hf2)
      exact mσ
  · have hf1 := ite_f hc1 h
    obtain ⟨rfl, rfl⟩ := pj2 (Option.some.inj hf1)
    exact mσ

set_option maxRecDepth 20000 in
set_option maxHeartbeats 1000000 in
theorem mX8_cup {σ : St} {a1 : Int32} {a2 : Int32} {v0 : Int32} {σ' : St} (h : fX8_cup σ a1 a2 = some (v0, σ')) : modi [22] σ σ' := by
  have mσ : modi [22] σ σ := modi.rf
  unfold fX8_cup at h
  by_cases hc1 : (fX8_isField σ a1) = true
  · have ht1 := ite_t hc1 h
    by_cases hc2 : (fX8_isWay a2) = true
    · have ht2 := ite_t hc2 ht1
      obtain ⟨⟨x1, σ1⟩, hv3, eh3⟩ := obi_some ht2
      have mσ1 : modi [22] σ σ1 := mσ.tr (mX7_leastTogether hv3) (by decide)
      by_cases hc4 : x1 = (-1 : Int32)
      · have ht4 := ite_t hc4 eh3
        obtain ⟨rfl, rfl⟩ := pj2 (Option.some.inj ht4)
        exact mσ1
      · have hf4 := ite_f hc4 eh3
        obtain ⟨rfl, rfl⟩ := pj2 (Option.some.inj hf4)
        exact mσ1
    · have hf2 := ite_f hc2 ht1
      obtain ⟨rfl, rfl⟩ := pj2 (Option.some.inj hf2)
      exact mσ
  · have hf1 := ite_f hc1 h
    obtain ⟨rfl, rfl⟩ := pj2 (Option.some.inj hf1)
    exact mσ

set_option maxRecDepth 20000 in
set_option maxHeartbeats 1000000 in
theorem mX8_sheet {σ : St} {a1 : Int32} {a2 : Int32} {a3 : Int32} {v0 : Int32} {σ' : St} (h : fX8_sheet σ a1 a2 a3 = some (v0, σ')) : modi [20, 1601, 1602, 1603, 1815] σ σ' := by
  have mσ : modi [20, 1601, 1602, 1603, 1815] σ σ := modi.rf
  unfold fX8_sheet at h
  by_cases hc1 : (fX8_isSheet a1) = true
  · have ht1 := ite_t hc1 h
    by_cases hc2 : (fX8_isType a2) = true
    · have ht2 := ite_t hc2 ht1
      by_cases hc3 : a3 ≤ (60 : Int32)
      · have ht3 := ite_t hc3 ht2
        by_cases hc4 : 0 ≤ a3
        · have ht4 := ite_t hc4 ht3
          obtain ⟨hb5, eh5⟩ := grd_some ht4
          obtain ⟨σ1, hv6, eh6⟩ := obi_some eh5
          have mσ1 : modi [20, 1601, 1602, 1603, 1815] σ σ1 := mσ.tr (mX6_renew hv6) (by decide)
          obtain ⟨rfl, rfl⟩ := pj2 (Option.some.inj eh6)
          exact mσ1
        · have hf4 := ite_f hc4 ht3
          obtain ⟨⟨x1, σ2⟩, hv7, eh7⟩ := bnd_ex hf4
          have mσ2 : modi [20, 1601, 1602, 1603, 1815] σ σ2 := mσ.tr (mX8_refuse hv7) (by decide)
          obtain ⟨rfl, rfl⟩ := pj2 (Option.some.inj eh7)
          exact mσ2
      · have hf3 := ite_f hc3 ht2
        obtain ⟨rfl, rfl⟩ := pj2 (Option.some.inj hf3)
        exact mσ
    · have hf2 := ite_f hc2 ht1
      obtain ⟨rfl, rfl⟩ := pj2 (Option.some.inj hf2)
      exact mσ
  · have hf1 := ite_f hc1 h
    obtain ⟨rfl, rfl⟩ := pj2 (Option.some.inj hf1)
    exact mσ

set_option maxRecDepth 20000 in
set_option maxHeartbeats 1000000 in
theorem mX8_lose {σ : St} {a1 : Int32} {v0 : Int32} {σ' : St} (h : fX8_lose σ a1 = some (v0, σ')) : modi [1601, 1815] σ σ' := by
  have mσ : modi [1601, 1815] σ σ := modi.rf
  unfold fX8_lose at h
  by_cases hc1 : (fX8_isSheet a1) = true
  · have ht1 := ite_t hc1 h
    obtain ⟨hb2, eh2⟩ := grd_some ht1
    by_cases hc3 : (σ (6, (tn a1)) 1) = 0
    · have ht3 := ite_t hc3 eh2
      obtain ⟨hb4, eh4⟩ := grd_some ht3
      obtain ⟨σ1, hv5, eh5⟩ := bnd_ex eh4
      have mσ1 : modi [1601, 1815] σ σ1 := hv5 ▸ modi.su mσ (show (1601 : Nat) ∈ ([1601, 1815] : List Nat) by decide)
      obtain ⟨hb6, eh6⟩ := grd_some eh5
      obtain ⟨rfl, rfl⟩ := pj2 (Option.some.inj eh6)
      exact mσ1
    · have hf3 := ite_f hc3 eh2
      obtain ⟨⟨x1, σ2⟩, hv7, eh7⟩ := bnd_ex hf3
      have mσ2 : modi [1601, 1815] σ σ2 := mσ.tr (mX8_refuse hv7) (by decide)
      obtain ⟨rfl, rfl⟩ := pj2 (Option.some.inj eh7)
      exact mσ2
  · have hf1 := ite_f hc1 h
    obtain ⟨rfl, rfl⟩ := pj2 (Option.some.inj hf1)
    exact mσ

set_option maxRecDepth 20000 in
set_option maxHeartbeats 1000000 in
theorem mX8_lay {σ : St} {a1 : Int32} {a2 : Int32} {a3 : Int32} {a4 : Int32} {v0 : Int32} {σ' : St} (h : fX8_lay σ a1 a2 a3 a4 = some (v0, σ')) : modi [20, 1815] σ σ' := by
  have mσ : modi [20, 1815] σ σ := modi.rf
  unfold fX8_lay at h
  by_cases hc1 : (fX8_isSheet a1) = true
  · have ht1 := ite_t hc1 h
    by_cases hc2 : (fX8_isType a2) = true
    · have ht2 := ite_t hc2 ht1
      obtain ⟨hb3, eh3⟩ := grd_some ht2
      obtain ⟨x1, hv4, eh4⟩ := bnd_ex eh3
      by_cases hc5 : x1 = 0
      · have ht5 := ite_t hc5 eh4
        obtain ⟨hb6, eh6⟩ := grd_some ht5
        obtain ⟨σ1, hv7, eh7⟩ := obi_some eh6
        have mσ1 : modi [20, 1815] σ σ1 := mσ.tr (mX6_setItem hv7) (by decide)
        obtain ⟨rfl, rfl⟩ := pj2 (Option.some.inj eh7)
        exact mσ1
      · have hf5 := ite_f hc5 eh4
        obtain ⟨⟨x2, σ2⟩, hv8, eh8⟩ := bnd_ex hf5
        have mσ2 : modi [20, 1815] σ σ2 := mσ.tr (mX8_refuse hv8) (by decide)
        obtain ⟨rfl, rfl⟩ := pj2 (Option.some.inj eh8)
        exact mσ2
    · have hf2 := ite_f hc2 ht1
      obtain ⟨rfl, rfl⟩ := pj2 (Option.some.inj hf2)
      exact mσ
  · have hf1 := ite_f hc1 h
    obtain ⟨rfl, rfl⟩ := pj2 (Option.some.inj hf1)
    exact mσ

set_option maxRecDepth 20000 in
set_option maxHeartbeats 1000000 in
theorem mX8_get {σ : St} {a1 : Int32} {a2 : Int32} {a3 : Int32} {v0 : Int32} {σ' : St} (h : fX8_get σ a1 a2 a3 = some (v0, σ')) : modi [1815] σ σ' := by
  have mσ : modi [1815] σ σ := modi.rf
  unfold fX8_get at h
  obtain ⟨y1, hx1, hy1⟩ := bj_some h
  have hJ1 : ∀ (σ1 : St), y1 = .inr σ1 → modi [1815] σ σ1 → modi [1815] σ σ' := by
    intro σ1 ey1 mσ1
    have hq1 := bj_r ey1 hy1
    obtain ⟨rfl, rfl⟩ := pj2 (Option.some.inj hq1)
    exact mσ1
  by_cases hc1 : (fX8_isSheet a1) = true
  · have ht1 := ite_t hc1 hx1
    by_cases hc2 : (fX8_isType a2) = true
    · have ht2 := ite_t hc2 ht1
      obtain ⟨hb3, eh3⟩ := grd_some ht2
      obtain ⟨x1, hv4, eh4⟩ := bnd_ex eh3
      by_cases hc5 : x1 = 0
      · have ht5 := ite_t hc5 eh4
        obtain ⟨hb6, eh6⟩ := grd_some ht5
        obtain ⟨hb7, eh7⟩ := grd_some eh6
        have e8 := bj_l eh7 hy1
        obtain ⟨rfl, rfl⟩ := pj2 (Option.some.inj e8)
        exact mσ
      · have hf5 := ite_f hc5 eh4
        obtain ⟨σ2, hv9, eh9⟩ := bnd_ex hf5
        have mσ2 : modi [1815] σ σ2 := hv9 ▸ modi.su mσ (show (1815 : Nat) ∈ ([1815] : List Nat) by decide)
        have e10 := bj_l eh9 hy1
        obtain ⟨rfl, rfl⟩ := pj2 (Option.some.inj e10)
        exact mσ2
    · have hf2 := ite_f hc2 ht1
      exact hJ1 _ (Option.some.inj hf2).symm mσ
  · have hf1 := ite_f hc1 hx1
    exact hJ1 _ (Option.some.inj hf1).symm mσ

