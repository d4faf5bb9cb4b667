set_option maxRecDepth 20000 in
set_option maxHeartbeats 1000000 in
theorem mX8_copy {σ : St} {a1 : Int32} {a2 : Int32} {a3 : Int32} {a4 : Int32} {a5 : Int32} {v0 : Int32} {σ' : St} (h : fX8_copy σ a1 a2 a3 a4 a5 = some (v0, σ')) : modi [20, 1815] σ σ' := by
  have mσ : modi [20, 1815] σ σ := modi.rf
  unfold fX8_copy at h
  by_cases hc1 : (fX8_isSheet a1) = true
  · have ht1 := ite_t hc1 h
    by_cases hc2 : (fX8_isSheet a3) = true
    · have ht2 := ite_t hc2 ht1
      obtain ⟨hb3, eh3⟩ := grd_some ht2
      obtain ⟨y4, hx4, hy4⟩ := bj_some eh3
      have hJ4 : ∀ (σ1 : St), y4 = .inr σ1 → modi [20, 1815] σ σ1 → modi [20, 1815] σ σ' := by
        intro σ1 ey4 mσ1
        have hq4 := bj_r ey4 hy4
        obtain ⟨⟨x3, σ6⟩, hv4, eh4⟩ := bnd_ex hq4
        have mσ6 : modi [20, 1815] σ σ6 := mσ1.tr (mX8_refuse hv4) (by decide)
        obtain ⟨rfl, rfl⟩ := pj2 (Option.some.inj eh4)
        exact mσ6
      by_cases hc5 : (σ (6, (tn a1)) 1) = 0
      · have ht5 := ite_t hc5 hx4
        obtain ⟨hb6, eh6⟩ := grd_some ht5
        by_cases hc7 : (σ (6, (tn a3)) 1) = 0
        · have ht7 := ite_t hc7 eh6
          obtain ⟨hb8, eh8⟩ := grd_some ht7
          obtain ⟨hb9, eh9⟩ := grd_some eh8
          by_cases hc10 : (σ (6, (tn a1)) 2) = (σ (6, (tn a3)) 2)
          · have ht10 := ite_t hc10 eh9
            obtain ⟨hb11, eh11⟩ := grd_some ht10
            obtain ⟨y12, hx12, hy12⟩ := bj_some eh11
            have hJ12 : ∀ (σ2 : St), y12 = .inr σ2 → modi [20, 1815] σ σ2 → modi [20, 1815] σ σ' := by
              intro σ2 ey12 mσ2
              have hq12 := bj_r ey12 hy12
              obtain ⟨⟨x1, σ4⟩, hv12, eh12⟩ := bnd_ex hq12
              have mσ4 : modi [20, 1815] σ σ4 := mσ2.tr (mX8_refuse hv12) (by decide)
              have e13 := bj_l eh12 hy4
              obtain ⟨rfl, rfl⟩ := pj2 (Option.some.inj e13)
              exact mσ4
            by_cases hc14 : (fX6_hasRow σ (tn a1) a2 a5) = true
            · have ht14 := ite_t hc14 hx12
              obtain ⟨hb15, eh15⟩ := grd_some ht14
              by_cases hc16 : (fX6_hasRow σ (tn a3) a4 a5) = true
              · have ht16 := ite_t hc16 eh15
                obtain ⟨hb17, eh17⟩ := grd_some ht16
                obtain ⟨hb18, eh18⟩ := grd_some eh17
                obtain ⟨hb19, eh19⟩ := grd_some eh18
                obtain ⟨σ3, hv20, eh20⟩ := bnd_ex eh19
                have mσ3 : modi [20, 1815] σ σ3 := hv20 ▸ modi.sr mσ (show ¬ (20 : Nat) < 10 by decide) (show (20 : Nat) ∈ ([20, 1815] : List Nat) by decide)
                have e21 := bj_l eh20 hy12
                have e22 := bj_l e21 hy4
                obtain ⟨rfl, rfl⟩ := pj2 (Option.some.inj e22)
                exact mσ3
              · have hf16 := ite_f hc16 eh15
                exact hJ12 _ (Option.some.inj hf16).symm mσ
            · have hf14 := ite_f hc14 hx12
              exact hJ12 _ (Option.some.inj hf14).symm mσ
          · have hf10 := ite_f hc10 eh9
            obtain ⟨⟨x2, σ5⟩, hv23, eh23⟩ := bnd_ex hf10
            have mσ5 : modi [20, 1815] σ σ5 := mσ.tr (mX8_refuse hv23) (by decide)
            have e24 := bj_l eh23 hy4
            obtain ⟨rfl, rfl⟩ := pj2 (Option.some.inj e24)
            exact mσ5
        · have hf7 := ite_f hc7 eh6
          exact hJ4 _ (Option.some.inj hf7).symm mσ
      · have hf5 := ite_f hc5 hx4
        exact hJ4 _ (Option.some.inj hf5).symm mσ
    · have hf2 := ite_f hc2 ht1
      obtain ⟨rfl, rfl⟩ := pj2 (Option.some.inj hf2)
      exact mσ
  · have hf1 := ite_f hc1 h
    obtain ⟨rfl, rfl⟩ := pj2 (Option.some.inj hf1)
    exact mσ

set_option maxRecDepth 20000 in
set_option maxHeartbeats 1000000 in
theorem mX8_write {σ : St} {a1 : Int32} {a2 : Int32} {a3 : Int32} {v0 : Int32} {σ' : St} (h : fX8_write σ a1 a2 a3 = some (v0, σ')) : modi [15, 16, 17, 18, 19, 20, 1400, 1401, 1402, 1403, 1404, 1405, 1406, 1407, 1408, 1409, 1507, 1508, 1815] σ σ' := by
  have mσ : modi [15, 16, 17, 18, 19, 20, 1400, 1401, 1402, 1403, 1404, 1405, 1406, 1407, 1408, 1409, 1507, 1508, 1815] σ σ := modi.rf
  unfold fX8_write at h
  by_cases hc1 : (fX8_isCode a1) = true
  · have ht1 := ite_t hc1 h
    by_cases hc2 : (fX8_isCode a2) = true
    · have ht2 := ite_t hc2 ht1
      by_cases hc3 : (fX8_isSheet a3) = true
      · have ht3 := ite_t hc3 ht2
        obtain ⟨hb4, eh4⟩ := grd_some ht3
        by_cases hc5 : (σ (6, (tn a3)) 1) = 0
        · have ht5 := ite_t hc5 eh4
          obtain ⟨hb6, eh6⟩ := grd_some ht5
          obtain ⟨hb7, eh7⟩ := grd_some eh6
          obtain ⟨σ1, hv8, eh8⟩ := obi_some eh7
          have mσ1 : modi [15, 16, 17, 18, 19, 20, 1400, 1401, 1402, 1403, 1404, 1405, 1406, 1407, 1408, 1409, 1507, 1508, 1815] σ σ1 := mσ.tr (mX5_part hv8) (by decide)
          obtain ⟨hb9, eh9⟩ := grd_some eh8
          obtain ⟨x1, hv10, eh10⟩ := bnd_ex eh9
          refine lpF_md (I := fun (q : Int32 × St) => match q with | (x2, σ2) => modi [15, 16, 17, 18, 19, 20, 1400, 1401, 1402, 1403, 1404, 1405, 1406, 1407, 1408, 1409, 1507, 1508, 1815] σ σ2) ?_ eh10 mσ1
          rintro ⟨x2, σ2⟩ w11 hx11 mσ2 lc11 lx11
          replace mσ2 : modi [15, 16, 17, 18, 19, 20, 1400, 1401, 1402, 1403, 1404, 1405, 1406, 1407, 1408, 1409, 1507, 1508, 1815] σ σ2 := mσ2
          by_cases hc11 : x1 ≤ x2
          · have ht11 := ite_t hc11 hx11
            have e12 := congrArg some (lx11 _ (Option.some.inj ht11).symm)
            obtain ⟨rfl, rfl⟩ := pj2 (Option.some.inj e12)
            exact mσ2
          · have hf11 := ite_f hc11 hx11
            obtain ⟨hb13, eh13⟩ := grd_some hf11
            obtain ⟨hb14, eh14⟩ := grd_some eh13
            obtain ⟨σ3, hv15, eh15⟩ := obi_some eh14
            have mσ3 : modi [15, 16, 17, 18, 19, 20, 1400, 1401, 1402, 1403, 1404, 1405, 1406, 1407, 1408, 1409, 1507, 1508, 1815] σ σ3 := mσ2.tr (mX6_setItem hv15) (by decide)
            obtain ⟨x3, hv16, eh16⟩ := bnd_ex eh15
            exact lc11 _ (Option.some.inj eh16).symm mσ3
        · have hf5 := ite_f hc5 eh4
          obtain ⟨⟨x4, σ4⟩, hv17, eh17⟩ := bnd_ex hf5
          have mσ4 : modi [15, 16, 17, 18, 19, 20, 1400, 1401, 1402, 1403, 1404, 1405, 1406, 1407, 1408, 1409, 1507, 1508, 1815] σ σ4 := mσ.tr (mX8_refuse hv17) (by decide)
          obtain ⟨rfl, rfl⟩ := pj2 (Option.some.inj eh17)
          exact mσ4
      · have hf3 := ite_f hc3 ht2
        obtain ⟨rfl, rfl⟩ := pj2 (Option.some.inj hf3)
        exact mσ
    · have hf2 := ite_f hc2 ht1
      obtain ⟨rfl, rfl⟩ := pj2 (Option.some.inj hf2)
      exact mσ
  · have hf1 := ite_f hc1 h
    obtain ⟨rfl, rfl⟩ := pj2 (Option.some.inj hf1)
    exact mσ

set_option maxRecDepth 20000 in
set_option maxHeartbeats 1000000 in
theorem mX8_digest {σ : St}  {v0 : Int64} {σ' : St} (h : fX8_digest σ  = some (v0, σ')) : modi [15, 16, 17, 18, 19, 1400, 1401, 1402, 1403, 1404, 1405, 1406, 1407, 1408, 1409, 1507, 1508] σ σ' := by
  have mσ : modi [15, 16, 17, 18, 19, 1400, 1401, 1402, 1403, 1404, 1405, 1406, 1407, 1408, 1409, 1507, 1508] σ σ := modi.rf
  unfold fX8_digest at h
  obtain ⟨x1, hx1, hq1⟩ := obi_some h
  obtain ⟨x7, hx8, hq8⟩ := obi_some hq1
  obtain ⟨⟨x12, σ1⟩, hx15, hq15⟩ := obi_some hq8
  have mσ1 : modi [15, 16, 17, 18, 19, 1400, 1401, 1402, 1403, 1404, 1405, 1406, 1407, 1408, 1409, 1507, 1508] σ σ1 := by
    refine lpF_md (I := fun (q : Int64 × Int32 × St) => match q with | (x13, x14, σ2) => modi [15, 16, 17, 18, 19, 1400, 1401, 1402, 1403, 1404, 1405, 1406, 1407, 1408, 1409, 1507, 1508] σ σ2) ?_ hx15 mσ
    rintro ⟨x13, x14, σ2⟩ w16 hx16 mσ2 lc16 lx16
    replace mσ2 : modi [15, 16, 17, 18, 19, 1400, 1401, 1402, 1403, 1404, 1405, 1406, 1407, 1408, 1409, 1507, 1508] σ σ2 := mσ2
    by_cases hc1 : (σ2 (8, 0) 10) ≤ x14
    · have ht1 := ite_t hc1 hx16
      have e2 := congrArg some (lx16 _ (Option.some.inj ht1).symm)
      obtain ⟨rfl, rfl⟩ := pj2 (Option.some.inj e2)
      exact mσ2
    · have hf1 := ite_f hc1 hx16
      obtain ⟨hb3, eh3⟩ := grd_some hf1
      obtain ⟨σ3, hv4, eh4⟩ := obi_some eh3
      have mσ3 : modi [15, 16, 17, 18, 19, 1400, 1401, 1402, 1403, 1404, 1405, 1406, 1407, 1408, 1409, 1507, 1508] σ σ3 := mσ2.tr (mX3_playUnder hv4) (by decide)
      obtain ⟨x15, hx21, hq21⟩ := obi_some eh4
      obtain ⟨x20, hv5, eh5⟩ := bnd_ex hq21
      exact lc16 _ (Option.some.inj eh5).symm mσ3
  obtain ⟨x21, hx28, hq28⟩ := obi_some hq15
  obtain ⟨x27, hx37, hq37⟩ := obi_some hq28
  obtain ⟨⟨x32, σ4⟩, hv6, eh6⟩ := obi_some hq37
  have mσ4 : modi [15, 16, 17, 18, 19, 1400, 1401, 1402, 1403, 1404, 1405, 1406, 1407, 1408, 1409, 1507, 1508] σ σ4 := mσ1.tr (mX8_fitting hv6) (by decide)
  obtain ⟨x33, hv7, eh7⟩ := bnd_ex eh6
  obtain ⟨⟨x34, σ5⟩, hv8, eh8⟩ := obi_some eh7
  have mσ5 : modi [15, 16, 17, 18, 19, 1400, 1401, 1402, 1403, 1404, 1405, 1406, 1407, 1408, 1409, 1507, 1508] σ σ5 := mσ4.tr (mX8_parts hv8) (by decide)
  obtain ⟨rfl, rfl⟩ := pj2 (Option.some.inj eh8)
  exact mσ5

set_option maxRecDepth 20000 in
set_option maxHeartbeats 1000000 in
theorem mX9_type {σ : St} {a1 : Int32} {a2 : Int32} {v0 : Int32} {σ' : St} (h : fX9_type σ a1 a2 = some (v0, σ')) : modi [29, 30, 31] σ σ' := by
  have mσ : modi [29, 30, 31] σ σ := modi.rf
  unfold fX9_type at h
  by_cases hc1 : (fX9_isCode a1) = true
  · have ht1 := ite_t hc1 h
    by_cases hc2 : (fX9_in a2 (0 : Int32) (255 : Int32)) = true
    · have ht2 := ite_t hc2 ht1
      obtain ⟨hb3, eh3⟩ := grd_some ht2
      by_cases hc4 : (σ (29, 0) (tn a1)) = (80 : Int32)
      · have ht4 := ite_t hc4 eh3
        obtain ⟨rfl, rfl⟩ := pj2 (Option.some.inj ht4)
        exact mσ
      · have hf4 := ite_f hc4 eh3
        obtain ⟨hb5, eh5⟩ := grd_some hf4
        obtain ⟨hb6, eh6⟩ := grd_some eh5
        obtain ⟨σ1, hv7, eh7⟩ := bnd_ex eh6
        have mσ1 : modi [29, 30, 31] σ σ1 := hv7 ▸ modi.sr mσ (show ¬ (30 : Nat) < 10 by decide) (show (30 : Nat) ∈ ([29, 30, 31] : List Nat) by decide)
        obtain ⟨hb8, eh8⟩ := grd_some eh7
        obtain ⟨hb9, eh9⟩ := grd_some eh8
        obtain ⟨σ2, hv10, eh10⟩ := bnd_ex eh9
        have mσ2 : modi [29, 30, 31] σ σ2 := hv10 ▸ modi.sr mσ1 (show ¬ (29 : Nat) < 10 by decide) (show (29 : Nat) ∈ ([29, 30, 31] : List Nat) by decide)
        obtain ⟨hb11, eh11⟩ := grd_some eh10
        obtain ⟨σ3, hv12, eh12⟩ := bnd_ex eh11
        have mσ3 : modi [29, 30, 31] σ σ3 := hv12 ▸ modi.sr mσ2 (show ¬ (31 : Nat) < 10 by decide) (show (31 : Nat) ∈ ([29, 30, 31] : List Nat) by decide)
        obtain ⟨hb13, eh13⟩ := grd_some eh12
        obtain ⟨rfl, rfl⟩ := pj2 (Option.some.inj eh13)
        exact mσ3
    · have hf2 := ite_f hc2 ht1
      obtain ⟨rfl, rfl⟩ := pj2 (Option.some.inj hf2)
      exact mσ
  · have hf1 := ite_f hc1 h
    obtain ⟨rfl, rfl⟩ := pj2 (Option.some.inj hf1)
    exact mσ

set_option maxRecDepth 20000 in
set_option maxHeartbeats 1000000 in
theorem mX9_wipe {σ : St} {a1 : Int32} {v0 : Int32} {σ' : St} (h : fX9_wipe σ a1 = some (v0, σ')) : modi [29, 31] σ σ' := by
  have mσ : modi [29, 31] σ σ := modi.rf
  unfold fX9_wipe at h
  by_cases hc1 : (fX9_isCode a1) = true
  · have ht1 := ite_t hc1 h
    obtain ⟨hb2, eh2⟩ := grd_some ht1
    obtain ⟨x1, hv3, eh3⟩ := bnd_ex eh2
    obtain ⟨hb4, eh4⟩ := grd_some eh3
    obtain ⟨σ1, hv5, eh5⟩ := bnd_ex eh4
    have mσ1 : modi [29, 31] σ σ1 := hv5 ▸ modi.sr mσ (show ¬ (29 : Nat) < 10 by decide) (show (29 : Nat) ∈ ([29, 31] : List Nat) by decide)
    obtain ⟨hb6, eh6⟩ := grd_some eh5
    obtain ⟨σ2, hv7, eh7⟩ := bnd_ex eh6
    have mσ2 : modi [29, 31] σ σ2 := hv7 ▸ modi.sr mσ1 (show ¬ (31 : Nat) < 10 by decide) (show (31 : Nat) ∈ ([29, 31] : List Nat) by decide)
    obtain ⟨rfl, rfl⟩ := pj2 (Option.some.inj eh7)
    exact mσ2
  · have hf1 := ite_f hc1 h
    obtain ⟨rfl, rfl⟩ := pj2 (Option.some.inj hf1)
    exact mσ

set_option maxRecDepth 20000 in
set_option maxHeartbeats 1000000 in
theorem mX9_figures {σ : St} {a1 : Int32} {a2 : Int32} {a3 : Int32} {v0 : Int32} {σ' : St} (h : fX9_figures σ a1 a2 a3 = some (v0, σ')) : modi [1907, 1908] σ σ' := by
  have mσ : modi [1907, 1908] σ σ := modi.rf
  unfold fX9_figures at h
  obtain ⟨x1, hv1, eh1⟩ := bnd_ex h
  obtain ⟨⟨x2, σ1⟩, hx2, hq2⟩ := obi_some eh1
  have mσ1 : modi [1907, 1908] σ σ1 := by
    refine lpF_md (I := fun (q : Int32 × St) => match q with | (x3, σ2) => modi [1907, 1908] σ σ2) ?_ hx2 mσ
    rintro ⟨x3, σ2⟩ w3 hx3 mσ2 lc3 lx3
    replace mσ2 : modi [1907, 1908] σ σ2 := mσ2
    by_cases hc2 : (σ2 (9, 0) 8) = (-1 : Int32)
    · have ht2 := ite_t hc2 hx3
      by_cases hc3 : (x1 + a1) ≤ (σ2 (9, 0) 7)
      · have ht3 := ite_t hc3 ht2
        have e4 := congrArg some (lx3 _ (Option.some.inj ht3).symm)
        obtain ⟨rfl, rfl⟩ := pj2 (Option.some.inj e4)
        exact mσ2
      · have hf3 := ite_f hc3 ht2
        obtain ⟨x4, hv5, eh5⟩ := obi_some hf3
        by_cases hc6 : x4 < (48 : Int32)
        · have ht6 := ite_t hc6 eh5
          have e7 := congrArg some (lx3 _ (Option.some.inj ht6).symm)
          obtain ⟨rfl, rfl⟩ := pj2 (Option.some.inj e7)
          exact mσ2
        · have hf6 := ite_f hc6 eh5
          obtain ⟨x5, hv8, eh8⟩ := obi_some hf6
          by_cases hc9 : (57 : Int32) < x5
          · have ht9 := ite_t hc9 eh8
            have e10 := congrArg some (lx3 _ (Option.some.inj ht9).symm)
            obtain ⟨rfl, rfl⟩ := pj2 (Option.some.inj e10)
            exact mσ2
          · have hf9 := ite_f hc9 eh8
            obtain ⟨x6, hv11, eh11⟩ := obi_some hf9
            obtain ⟨x7, hv12, eh12⟩ := bnd_ex eh11
            obtain ⟨σ3, hv13, eh13⟩ := bnd_ex eh12
            have mσ3 : modi [1907, 1908] σ σ3 := hv13 ▸ modi.su mσ2 (show (1907 : Nat) ∈ ([1907, 1908] : List Nat) by decide)
            exact lc3 _ (Option.some.inj eh13).symm mσ3
    · have hf2 := ite_f hc2 hx3
      have e14 := congrArg some (lx3 _ (Option.some.inj hf2).symm)
      obtain ⟨rfl, rfl⟩ := pj2 (Option.some.inj e14)
      exact mσ2
  by_cases hc15 : (σ1 (9, 0) 8) = (-1 : Int32)
  · have ht15 := ite_t hc15 hq2
    obtain ⟨y18, hx18, hy18⟩ := bj_some ht15
    have hJ18 : y18 = .inr () → modi [1907, 1908] σ σ' := by
      intro  ey18
      have hq18 := bj_r ey18 hy18
      obtain ⟨σ4, hv16, eh16⟩ := bnd_ex hq18
      have mσ4 : modi [1907, 1908] σ σ4 := hv16 ▸ modi.su mσ1 (show (1908 : Nat) ∈ ([1907, 1908] : List Nat) by decide)
      obtain ⟨rfl, rfl⟩ := pj2 (Option.some.inj eh16)
      exact mσ4
    by_cases hc17 : (σ1 (9, 0) 7) = x1
    · have ht17 := ite_t hc17 hx18
      exact hJ18 (Option.some.inj ht17).symm
    · have hf17 := ite_f hc17 hx18
      by_cases hc18 : (fX9_in x2 a2 a3) = true
      · have ht18 := ite_t hc18 hf17
        have e19 := bj_l ht18 hy18
        obtain ⟨rfl, rfl⟩ := pj2 (Option.some.inj e19)
        exact mσ1
      · have hf18 := ite_f hc18 hf17
        exact hJ18 (Option.some.inj hf18).symm
  · have hf15 := ite_f hc15 hq2
    obtain ⟨rfl, rfl⟩ := pj2 (Option.some.inj hf15)
    exact mσ1

set_option maxRecDepth 20000 in
set_option maxHeartbeats 1000000 in
theorem mX9_cellsTold {σ : St}  {v0 : Int32} {σ' : St} (h : fX9_cellsTold σ  = some (v0, σ')) : modi [1907, 1908] σ σ' := by
  have mσ : modi [1907, 1908] σ σ := modi.rf
  unfold fX9_cellsTold at h
  by_cases hc1 : (σ (9, 0) 8) = (-1 : Int32)
  · have ht1 := ite_t hc1 h
    obtain ⟨x1, hv2, eh2⟩ := obi_some ht1
    by_cases hc3 : x1 < (48 : Int32)
    · have ht3 := ite_t hc3 eh2
      obtain ⟨rfl, rfl⟩ := pj2 (Option.some.inj ht3)
      exact mσ
    · have hf3 := ite_f hc3 eh2
      obtain ⟨x2, hv4, eh4⟩ := obi_some hf3
      by_cases hc5 : x2 ≤ (57 : Int32)
      · have ht5 := ite_t hc5 eh4
        obtain ⟨⟨x3, σ1⟩, hv6, eh6⟩ := obi_some ht5
        have mσ1 : modi [1907, 1908] σ σ1 := mσ.tr (mX9_figures hv6) (by decide)
        obtain ⟨σ2, hx7, hq7⟩ := obi_some eh6
        have mσ2 : modi [1907, 1908] σ σ2 := by
          by_cases hc7 : (σ1 (9, 0) 8) = (-1 : Int32)
          · have ht7 := ite_t hc7 hx7
            obtain ⟨x4, hv8, eh8⟩ := obi_some ht7
            by_cases hc9 : x4 = (45 : Int32)
            · have ht9 := ite_t hc9 eh8
              obtain rfl := (Option.some.inj ht9)
              exact mσ1
            · have hf9 := ite_f hc9 eh8
              obtain ⟨σ3, hv10, eh10⟩ := bnd_ex hf9
              have mσ3 : modi [1907, 1908] σ σ3 := hv10 ▸ modi.su mσ1 (show (1908 : Nat) ∈ ([1907, 1908] : List Nat) by decide)
              obtain rfl := (Option.some.inj eh10)
              exact mσ3
          · have hf7 := ite_f hc7 hx7
            obtain rfl := (Option.some.inj hf7)
            exact mσ1
        obtain ⟨σ4, hv11, eh11⟩ := bnd_ex hq7
        have mσ4 : modi [1907, 1908] σ σ4 := hv11 ▸ modi.su mσ2 (show (1907 : Nat) ∈ ([1907, 1908] : List Nat) by decide)
        obtain ⟨⟨x5, σ5⟩, hv12, eh12⟩ := obi_some eh11
        have mσ5 : modi [1907, 1908] σ σ5 := mσ4.tr (mX9_figures hv12) (by decide)
        by_cases hc13 : (σ5 (9, 0) 8) = (-1 : Int32)
        · have ht13 := ite_t hc13 eh12
          obtain ⟨rfl, rfl⟩ := pj2 (Option.some.inj ht13)
          exact mσ5
        · have hf13 := ite_f hc13 eh12
          obtain ⟨rfl, rfl⟩ := pj2 (Option.some.inj hf13)
          exact mσ5
      · have hf5 := ite_f hc5 eh4
        obtain ⟨rfl, rfl⟩ := pj2 (Option.some.inj hf5)
        exact mσ
  · have hf1 := ite_f hc1 h
    obtain ⟨rfl, rfl⟩ := pj2 (Option.some.inj hf1)
    exact mσ

set_option maxRecDepth 20000 in
set_option maxHeartbeats 1000000 in
theorem mX9_readsPart {σ : St}  {v0 : Int32} {σ' : St} (h : fX9_readsPart σ  = some (v0, σ')) : modi [33, 1907, 1908] σ σ' := by
  have mσ : modi [33, 1907, 1908] σ σ := modi.rf
  unfold fX9_readsPart at h
  obtain ⟨x1, hv1, eh1⟩ := bnd_ex h
  obtain ⟨x2, hv2, eh2⟩ := obi_some eh1
  obtain ⟨x3, hv3, eh3⟩ := bnd_ex eh2
  obtain ⟨σ1, hv4, eh4⟩ := bnd_ex eh3
  have mσ1 : modi [33, 1907, 1908] σ σ1 := hv4 ▸ modi.su mσ (show (1907 : Nat) ∈ ([33, 1907, 1908] : List Nat) by decide)
  obtain ⟨y5, hx5, hy5⟩ := bj_some eh4
  have hJ5 : ∀ (σ2 : St), y5 = .inr σ2 → modi [33, 1907, 1908] σ σ2 → modi [33, 1907, 1908] σ σ' := by
    intro σ2 ey5 mσ2
    have hq5 := bj_r ey5 hy5
    obtain ⟨⟨x14, σ16⟩, hv5, eh5⟩ := obi_some hq5
    have mσ16 : modi [33, 1907, 1908] σ σ16 := mσ2.tr (mX9_figures hv5) (by decide)
    obtain ⟨⟨x15, σ17⟩, hv6, eh6⟩ := obi_some eh5
    have mσ17 : modi [33, 1907, 1908] σ σ17 := mσ16.tr (mX9_cellsTold hv6) (by decide)
    obtain ⟨σ18, hx50, hq50⟩ := obi_some eh6
    have mσ18 : modi [33, 1907, 1908] σ σ18 := by
      by_cases hc7 : (σ17 (9, 0) 8) = (-1 : Int32)
      · have ht7 := ite_t hc7 hx50
        obtain ⟨x16, hx52, hq52⟩ := obi_some ht7
        obtain ⟨hb8, eh8⟩ := grd_some hq52
        obtain ⟨σ19, hv9, eh9⟩ := bnd_ex eh8
        have mσ19 : modi [33, 1907, 1908] σ σ19 := hv9 ▸ modi.sr mσ17 (show ¬ (33 : Nat) < 10 by decide) (show (33 : Nat) ∈ ([33, 1907, 1908] : List Nat) by decide)
        obtain rfl := (Option.some.inj eh9)
        exact mσ19
      · have hf7 := ite_f hc7 hx50
        obtain rfl := (Option.some.inj hf7)
        exact mσ17
    by_cases hc10 : (σ18 (9, 0) 8) = (-1 : Int32)
    · have ht10 := ite_t hc10 hq50
      obtain ⟨rfl, rfl⟩ := pj2 (Option.some.inj ht10)
      exact mσ18
    · have hf10 := ite_f hc10 hq50
      obtain ⟨rfl, rfl⟩ := pj2 (Option.some.inj hf10)
      exact mσ18
  by_cases hc11 : x2 = (121 : Int32)
  · have ht11 := ite_t hc11 hx5
    exact hJ5 _ (Option.some.inj ht11).symm mσ1
  · have hf11 := ite_f hc11 hx5
    by_cases hc12 : x2 = (110 : Int32)
    · have ht12 := ite_t hc12 hf11
      exact hJ5 _ (Option.some.inj ht12).symm mσ1
    · have hf12 := ite_f hc12 hf11
      by_cases hc13 : x2 = (103 : Int32)
      · have ht13 := ite_t hc13 hf12
        obtain ⟨x9, hv14, eh14⟩ := bnd_ex ht13
        obtain ⟨⟨x10, σ8⟩, hv15, eh15⟩ := obi_some eh14
        have mσ8 : modi [33, 1907, 1908] σ σ8 := mσ1.tr (mX9_figures hv15) (by decide)
        obtain ⟨σ9, hx28, hq28⟩ := bnd_ex eh15
        have mσ9 : modi [33, 1907, 1908] σ σ9 := by
          by_cases hc16 : (σ8 (9, 0) 8) = (-1 : Int32)
          · have ht16 := ite_t hc16 hx28
            by_cases hc17 : x10 = (4 : Int32)
            · have ht17 := ite_t hc17 ht16
              obtain rfl := ht17
              exact mσ8
            · have hf17 := ite_f hc17 ht16
              by_cases hc18 : x10 = (8 : Int32)
              · have ht18 := ite_t hc18 hf17
                obtain rfl := ht18
                exact mσ8
              · have hf18 := ite_f hc18 hf17
                by_cases hc19 : x10 = (9 : Int32)
                · have ht19 := ite_t hc19 hf18
                  obtain rfl := ht19
                  exact mσ8
                · have hf19 := ite_f hc19 hf18
                  obtain ⟨σ10, hv20, eh20⟩ := bnd_ex hf19
                  have mσ10 : modi [33, 1907, 1908] σ σ10 := hv20 ▸ modi.su mσ8 (show (1908 : Nat) ∈ ([33, 1907, 1908] : List Nat) by decide)
                  obtain rfl := eh20
                  exact mσ10
          · have hf16 := ite_f hc16 hx28
            obtain rfl := hf16
            exact mσ8
        obtain ⟨σ11, hx34, hq34⟩ := obi_some hq28
        have mσ11 : modi [33, 1907, 1908] σ σ11 := by
          by_cases hc21 : (σ9 (9, 0) 8) = (-1 : Int32)
          · have ht21 := ite_t hc21 hx34
            obtain ⟨x11, hv22, eh22⟩ := obi_some ht21
            by_cases hc23 : x11 = (61 : Int32)
            · have ht23 := ite_t hc23 eh22
              obtain rfl := (Option.some.inj ht23)
              exact mσ9
            · have hf23 := ite_f hc23 eh22
              obtain ⟨σ12, hv24, eh24⟩ := bnd_ex hf23
              have mσ12 : modi [33, 1907, 1908] σ σ12 := hv24 ▸ modi.su mσ9 (show (1908 : Nat) ∈ ([33, 1907, 1908] : List Nat) by decide)
              obtain rfl := (Option.some.inj eh24)
              exact mσ12
          · have hf21 := ite_f hc21 hx34
            obtain rfl := (Option.some.inj hf21)
            exact mσ9
        obtain ⟨σ13, hv25, eh25⟩ := bnd_ex hq34
        have mσ13 : modi [33, 1907, 1908] σ σ13 := hv25 ▸ modi.su mσ11 (show (1907 : Nat) ∈ ([33, 1907, 1908] : List Nat) by decide)
        obtain ⟨⟨x12, σ14⟩, hv26, eh26⟩ := obi_some eh25
        have mσ14 : modi [33, 1907, 1908] σ σ14 := mσ13.tr (mX9_figures hv26) (by decide)
        by_cases hc27 : (σ14 (9, 0) 8) = (-1 : Int32)
        · have ht27 := ite_t hc27 eh26
          obtain ⟨x13, hx43, hq43⟩ := bnd_ex ht27
          obtain ⟨hb28, eh28⟩ := grd_some hq43
          obtain ⟨σ15, hv29, eh29⟩ := bnd_ex eh28
          have mσ15 : modi [33, 1907, 1908] σ σ15 := hv29 ▸ modi.sr mσ14 (show ¬ (33 : Nat) < 10 by decide) (show (33 : Nat) ∈ ([33, 1907, 1908] : List Nat) by decide)
          have e30 := bj_l eh29 hy5
          obtain ⟨rfl, rfl⟩ := pj2 (Option.some.inj e30)
          exact mσ15
        · have hf27 := ite_f hc27 eh26
          have e31 := bj_l hf27 hy5
          obtain ⟨rfl, rfl⟩ := pj2 (Option.some.inj e31)
          exact mσ14
      · have hf13 := ite_f hc13 hf12
        obtain ⟨x4, hx9, hq9⟩ := bnd_ex hf13
        by_cases hc32 : x4 = (-1 : Int32)
        · have ht32 := ite_t hc32 hq9
          obtain ⟨σ7, hv33, eh33⟩ := bnd_ex ht32
          have mσ7 : modi [33, 1907, 1908] σ σ7 := hv33 ▸ modi.su mσ1 (show (1908 : Nat) ∈ ([33, 1907, 1908] : List Nat) by decide)
          have e34 := bj_l eh33 hy5
          obtain ⟨rfl, rfl⟩ := pj2 (Option.some.inj e34)
          exact mσ7
        · have hf32 := ite_f hc32 hq9
          obtain ⟨⟨x5, σ3⟩, hx15, hq15⟩ := obi_some hf32
          have mσ3 : modi [33, 1907, 1908] σ σ3 := by
            by_cases hc35 : (15 : Int32) ≤ x4
            · have ht35 := ite_t hc35 hx15
              obtain ⟨x6, hx17, hq17⟩ := bnd_ex ht35
              obtain ⟨⟨x7, σ4⟩, hv36, eh36⟩ := obi_some hq17
              have mσ4 : modi [33, 1907, 1908] σ σ4 := mσ1.tr (mX9_figures hv36) (by decide)
              obtain ⟨rfl, rfl⟩ := pj2 (Option.some.inj eh36)
              exact mσ4
            · have hf35 := ite_f hc35 hx15
              obtain ⟨⟨x8, σ5⟩, hv37, eh37⟩ := obi_some hf35
              have mσ5 : modi [33, 1907, 1908] σ σ5 := mσ1.tr (mX9_figures hv37) (by decide)
              obtain ⟨rfl, rfl⟩ := pj2 (Option.some.inj eh37)
              exact mσ5
          obtain ⟨hb38, eh38⟩ := grd_some hq15
          obtain ⟨σ6, hv39, eh39⟩ := bnd_ex eh38
          have mσ6 : modi [33, 1907, 1908] σ σ6 := hv39 ▸ modi.sr mσ3 (show ¬ (33 : Nat) < 10 by decide) (show (33 : Nat) ∈ ([33, 1907, 1908] : List Nat) by decide)
          have e40 := bj_l eh39 hy5
          obtain ⟨rfl, rfl⟩ := pj2 (Option.some.inj e40)
          exact mσ6

set_option maxRecDepth 20000 in
set_option maxHeartbeats 1000000 in
theorem mX9_plains {σ : St} {a1 : Int32} {σ' : St} (h : fX9_plains σ a1 = some σ') : modi [33] σ σ' := by
  have mσ : modi [33] σ σ := modi.rf
  unfold fX9_plains at h
  refine lpF_md (I := fun (q : Int32 × St) => match q with | (x1, σ1) => modi [33] σ σ1) ?_ h mσ
  rintro ⟨x1, σ1⟩ w1 hx1 mσ1 lc1 lx1
  replace mσ1 : modi [33] σ σ1 := mσ1
  by_cases hc1 : (17 : Int32) ≤ x1
  · have ht1 := ite_t hc1 hx1
    have e2 := congrArg some (lx1 _ (Option.some.inj ht1).symm)
    obtain rfl := (Option.some.inj e2)
    exact mσ1
  · have hf1 := ite_f hc1 hx1
    obtain ⟨hb3, eh3⟩ := grd_some hf1
    obtain ⟨σ2, hv4, eh4⟩ := bnd_ex eh3
    have mσ2 : modi [33] σ σ2 := hv4 ▸ modi.sr mσ1 (show ¬ (33 : Nat) < 10 by decide) (show (33 : Nat) ∈ ([33] : List Nat) by decide)
    obtain ⟨x2, hv5, eh5⟩ := bnd_ex eh4
    exact lc1 _ (Option.some.inj eh5).symm mσ2

set_option maxRecDepth 20000 in
set_option maxHeartbeats 1000000 in
theorem mX9_reads {σ : St} {a1 : Int32} {σ' : St} (h : fX9_reads σ a1 = some σ') : modi [31, 32, 33, 34, 1906, 1907, 1908] σ σ' := by
  have mσ : modi [31, 32, 33, 34, 1906, 1907, 1908] σ σ := modi.rf
  unfold fX9_reads at h
  obtain ⟨hb1, eh1⟩ := grd_some h
  by_cases hc2 : (σ (31, 0) (tn a1)) = 0
  · have ht2 := ite_t hc2 eh1
    obtain ⟨hb3, eh3⟩ := grd_some ht2
    obtain ⟨σ1, hv4, eh4⟩ := bnd_ex eh3
    have mσ1 : modi [31, 32, 33, 34, 1906, 1907, 1908] σ σ1 := hv4 ▸ modi.sr mσ (show ¬ (31 : Nat) < 10 by decide) (show (31 : Nat) ∈ ([31, 32, 33, 34, 1906, 1907, 1908] : List Nat) by decide)
    obtain ⟨σ2, hv5, eh5⟩ := bnd_ex eh4
    have mσ2 : modi [31, 32, 33, 34, 1906, 1907, 1908] σ σ2 := hv5 ▸ modi.su mσ1 (show (1906 : Nat) ∈ ([31, 32, 33, 34, 1906, 1907, 1908] : List Nat) by decide)
    obtain ⟨σ3, hv6, eh6⟩ := bnd_ex eh5
    have mσ3 : modi [31, 32, 33, 34, 1906, 1907, 1908] σ σ3 := hv6 ▸ modi.su mσ2 (show (1907 : Nat) ∈ ([31, 32, 33, 34, 1906, 1907, 1908] : List Nat) by decide)
    obtain ⟨σ4, hv7, eh7⟩ := bnd_ex eh6
    have mσ4 : modi [31, 32, 33, 34, 1906, 1907, 1908] σ σ4 := hv7 ▸ modi.su mσ3 (show (1908 : Nat) ∈ ([31, 32, 33, 34, 1906, 1907, 1908] : List Nat) by decide)
    obtain ⟨σ5, hv8, eh8⟩ := obi_some eh7
    have mσ5 : modi [31, 32, 33, 34, 1906, 1907, 1908] σ σ5 := mσ4.tr (mX9_plains hv8) (by decide)
    obtain ⟨σ6, hx9, hq9⟩ := obi_some eh8
    have mσ6 : modi [31, 32, 33, 34, 1906, 1907, 1908] σ σ6 := by
      refine lpF_md (I := fun (q : Int32 × St) => match q with | (x1, σ7) => modi [31, 32, 33, 34, 1906, 1907, 1908] σ σ7) ?_ hx9 mσ5
      rintro ⟨x1, σ7⟩ w10 hx10 mσ7 lc10 lx10
      replace mσ7 : modi [31, 32, 33, 34, 1906, 1907, 1908] σ σ7 := mσ7
      by_cases hc9 : (28 : Int32) ≤ x1
      · have ht9 := ite_t hc9 hx10
        have e10 := congrArg some (lx10 _ (Option.some.inj ht9).symm)
        obtain rfl := (Option.some.inj e10)
        exact mσ7
      · have hf9 := ite_f hc9 hx10
        obtain ⟨hb11, eh11⟩ := grd_some hf9
        obtain ⟨σ8, hv12, eh12⟩ := bnd_ex eh11
        have mσ8 : modi [31, 32, 33, 34, 1906, 1907, 1908] σ σ8 := hv12 ▸ modi.sr mσ7 (show ¬ (34 : Nat) < 10 by decide) (show (34 : Nat) ∈ ([31, 32, 33, 34, 1906, 1907, 1908] : List Nat) by decide)
        obtain ⟨x2, hv13, eh13⟩ := bnd_ex eh12
        exact lc10 _ (Option.some.inj eh13).symm mσ8
    obtain ⟨hb14, eh14⟩ := grd_some hq9
    obtain ⟨x3, hx17, hq17⟩ := bnd_ex eh14
    obtain ⟨σ9, hx19, hq19⟩ := obi_some hq17
    have mσ9 : modi [31, 32, 33, 34, 1906, 1907, 1908] σ σ9 := by
      refine lpF_md (I := fun (q : Int32 × Int32 × St) => match q with | (x4, x5, σ10) => modi [31, 32, 33, 34, 1906, 1907, 1908] σ σ10) ?_ hx19 mσ6
      rintro ⟨x4, x5, σ10⟩ w20 hx20 mσ10 lc20 lx20
      replace mσ10 : modi [31, 32, 33, 34, 1906, 1907, 1908] σ σ10 := mσ10
      by_cases hc15 : x5 = 0
      · have ht15 := ite_t hc15 hx20
        have e16 := congrArg some (lx20 _ (Option.some.inj ht15).symm)
        obtain rfl := (Option.some.inj e16)
        exact mσ10
      · have hf15 := ite_f hc15 hx20
        obtain ⟨⟨x6, σ11⟩, hv17, eh17⟩ := obi_some hf15
        have mσ11 : modi [31, 32, 33, 34, 1906, 1907, 1908] σ σ11 := mσ10.tr (mX9_readsPart hv17) (by decide)
        obtain ⟨x7, hx24, hq24⟩ := bnd_ex eh17
        obtain ⟨hb18, eh18⟩ := grd_some hq24
        obtain ⟨σ12, hv19, eh19⟩ := bnd_ex eh18
        have mσ12 : modi [31, 32, 33, 34, 1906, 1907, 1908] σ σ12 := hv19 ▸ modi.sr mσ11 (show ¬ (34 : Nat) < 10 by decide) (show (34 : Nat) ∈ ([31, 32, 33, 34, 1906, 1907, 1908] : List Nat) by decide)
        obtain ⟨x8, hv20, eh20⟩ := bnd_ex eh19
        obtain ⟨x9, hx29, hq29⟩ := obi_some eh20
        obtain ⟨⟨x10, σ13⟩, hx33, hq33⟩ := obi_some hq29
        have mσ13 : modi [31, 32, 33, 34, 1906, 1907, 1908] σ σ13 := by
          by_cases hc21 : x9 = 0
          · have ht21 := ite_t hc21 hx33
            obtain ⟨rfl, rfl⟩ := pj2 (Option.some.inj ht21)
            exact mσ12
          · have hf21 := ite_f hc21 hx33
            obtain ⟨x11, hv22, eh22⟩ := obi_some hf21
            by_cases hc23 : x11 = (59 : Int32)
            · have ht23 := ite_t hc23 eh22
              obtain ⟨rfl, rfl⟩ := pj2 (Option.some.inj ht23)
              exact mσ12
            · have hf23 := ite_f hc23 eh22
              obtain ⟨σ14, hv24, eh24⟩ := bnd_ex hf23
              have mσ14 : modi [31, 32, 33, 34, 1906, 1907, 1908] σ σ14 := hv24 ▸ modi.su mσ12 (show (1908 : Nat) ∈ ([31, 32, 33, 34, 1906, 1907, 1908] : List Nat) by decide)
              obtain ⟨rfl, rfl⟩ := pj2 (Option.some.inj eh24)
              exact mσ14
        obtain ⟨σ15, hv25, eh25⟩ := bnd_ex hq33
        have mσ15 : modi [31, 32, 33, 34, 1906, 1907, 1908] σ σ15 := hv25 ▸ modi.su mσ13 (show (1907 : Nat) ∈ ([31, 32, 33, 34, 1906, 1907, 1908] : List Nat) by decide)
        exact lc20 _ (Option.some.inj eh25).symm mσ15
    obtain ⟨hb26, eh26⟩ := grd_some hq19
    obtain ⟨σ16, hv27, eh27⟩ := bnd_ex eh26
    have mσ16 : modi [31, 32, 33, 34, 1906, 1907, 1908] σ σ16 := hv27 ▸ modi.sr mσ9 (show ¬ (32 : Nat) < 10 by decide) (show (32 : Nat) ∈ ([31, 32, 33, 34, 1906, 1907, 1908] : List Nat) by decide)
    by_cases hc28 : (σ16 (9, 0) 8) = (-1 : Int32)
    · have ht28 := ite_t hc28 eh27
      obtain rfl := (Option.some.inj ht28)
      exact mσ16
    · have hf28 := ite_f hc28 eh27
      obtain ⟨σ17, hv29, eh29⟩ := obi_some hf28
      have mσ17 : modi [31, 32, 33, 34, 1906, 1907, 1908] σ σ17 := mσ16.tr (mX9_plains hv29) (by decide)
      refine lpF_md (I := fun (q : Int32 × St) => match q with | (x12, σ18) => modi [31, 32, 33, 34, 1906, 1907, 1908] σ σ18) ?_ eh29 mσ17
      rintro ⟨x12, σ18⟩ w43 hx43 mσ18 lc43 lx43
      replace mσ18 : modi [31, 32, 33, 34, 1906, 1907, 1908] σ σ18 := mσ18
      by_cases hc30 : (28 : Int32) ≤ x12
      · have ht30 := ite_t hc30 hx43
        have e31 := congrArg some (lx43 _ (Option.some.inj ht30).symm)
        obtain rfl := (Option.some.inj e31)
        exact mσ18
      · have hf30 := ite_f hc30 hx43
        obtain ⟨hb32, eh32⟩ := grd_some hf30
        obtain ⟨σ19, hv33, eh33⟩ := bnd_ex eh32
        have mσ19 : modi [31, 32, 33, 34, 1906, 1907, 1908] σ σ19 := hv33 ▸ modi.sr mσ18 (show ¬ (34 : Nat) < 10 by decide) (show (34 : Nat) ∈ ([31, 32, 33, 34, 1906, 1907, 1908] : List Nat) by decide)
        obtain ⟨x13, hv34, eh34⟩ := bnd_ex eh33
        exact lc43 _ (Option.some.inj eh34).symm mσ19
  · have hf2 := ite_f hc2 eh1
    obtain rfl := (Option.some.inj hf2)
    exact mσ

set_option maxRecDepth 20000 in
set_option maxHeartbeats 1000000 in
theorem mX9_faultOf {σ : St} {a1 : Int32} {v0 : Int32} {σ' : St} (h : fX9_faultOf σ a1 = some (v0, σ')) : modi [31, 32, 33, 34, 1906, 1907, 1908] σ σ' := by
  have mσ : modi [31, 32, 33, 34, 1906, 1907, 1908] σ σ := modi.rf
  unfold fX9_faultOf at h
  obtain ⟨σ1, hv1, eh1⟩ := obi_some h
  have mσ1 : modi [31, 32, 33, 34, 1906, 1907, 1908] σ σ1 := mσ.tr (mX9_reads hv1) (by decide)
  obtain ⟨hb2, eh2⟩ := grd_some eh1
  obtain ⟨rfl, rfl⟩ := pj2 (Option.some.inj eh2)
  exact mσ1

set_option maxRecDepth 20000 in
set_option maxHeartbeats 1000000 in
theorem mX9_fault {σ : St} {a1 : Int32} {v0 : Int32} {σ' : St} (h : fX9_fault σ a1 = some (v0, σ')) : modi [31, 32, 33, 34, 1906, 1907, 1908] σ σ' := by
  have mσ : modi [31, 32, 33, 34, 1906, 1907, 1908] σ σ := modi.rf
  unfold fX9_fault at h
  by_cases hc1 : (fX9_isCode a1) = true
  · have ht1 := ite_t hc1 h
    obtain ⟨⟨x1, σ1⟩, hv2, eh2⟩ := obi_some ht1
    have mσ1 : modi [31, 32, 33, 34, 1906, 1907, 1908] σ σ1 := mσ.tr (mX9_faultOf hv2) (by decide)
    obtain ⟨rfl, rfl⟩ := pj2 (Option.some.inj eh2)
    exact mσ1
  · have hf1 := ite_f hc1 h
    obtain ⟨rfl, rfl⟩ := pj2 (Option.some.inj hf1)
    exact mσ

set_option maxRecDepth 20000 in
set_option maxHeartbeats 1000000 in
theorem mX9_itemOf {σ : St} {a1 : Int32} {a2 : Int32} {v0 : Int32} {σ' : St} (h : fX9_itemOf σ a1 a2 = some (v0, σ')) : modi [31, 32, 33, 34, 1906, 1907, 1908] σ σ' := by
  have mσ : modi [31, 32, 33, 34, 1906, 1907, 1908] σ σ := modi.rf
  unfold fX9_itemOf at h
  obtain ⟨σ1, hv1, eh1⟩ := obi_some h
  have mσ1 : modi [31, 32, 33, 34, 1906, 1907, 1908] σ σ1 := mσ.tr (mX9_reads hv1) (by decide)
  obtain ⟨hb2, eh2⟩ := grd_some eh1
  obtain ⟨rfl, rfl⟩ := pj2 (Option.some.inj eh2)
  exact mσ1

set_option maxRecDepth 20000 in
set_option maxHeartbeats 1000000 in
theorem mX9_item {σ : St} {a1 : Int32} {a2 : Int32} {v0 : Int32} {σ' : St} (h : fX9_item σ a1 a2 = some (v0, σ')) : modi [31, 32, 33, 34, 1906, 1907, 1908] σ σ' := by
  have mσ : modi [31, 32, 33, 34, 1906, 1907, 1908] σ σ := modi.rf
  unfold fX9_item at h
  by_cases hc1 : (fX9_isCode a1) = true
  · have ht1 := ite_t hc1 h
    by_cases hc2 : (fX9_in a2 (0 : Int32) (16 : Int32)) = true
    · have ht2 := ite_t hc2 ht1
      obtain ⟨⟨x1, σ1⟩, hv3, eh3⟩ := obi_some ht2
      have mσ1 : modi [31, 32, 33, 34, 1906, 1907, 1908] σ σ1 := mσ.tr (mX9_itemOf hv3) (by decide)
      obtain ⟨rfl, rfl⟩ := pj2 (Option.some.inj eh3)
      exact mσ1
    · have hf2 := ite_f hc2 ht1
      obtain ⟨rfl, rfl⟩ := pj2 (Option.some.inj hf2)
      exact mσ
  · have hf1 := ite_f hc1 h
    obtain ⟨rfl, rfl⟩ := pj2 (Option.some.inj hf1)
    exact mσ

set_option maxRecDepth 20000 in
set_option maxHeartbeats 1000000 in
theorem mX9_why {σ : St} {a1 : Int32} {a2 : Int32} {a3 : Int32} {v0 : Int32} {σ' : St} (h : fX9_why σ a1 a2 a3 = some (v0, σ')) : modi [31, 32, 33, 34, 1906, 1907, 1908] σ σ' := by
  have mσ : modi [31, 32, 33, 34, 1906, 1907, 1908] σ σ := modi.rf
  unfold fX9_why at h
  by_cases hc1 : (fX9_isCode a1) = true
  · have ht1 := ite_t hc1 h
    by_cases hc2 : (fX9_in a2 (0 : Int32) (9 : Int32)) = true
    · have ht2 := ite_t hc2 ht1
      by_cases hc3 : (fX9_in a3 (0 : Int32) (6 : Int32)) = true
      · have ht3 := ite_t hc3 ht2
        obtain ⟨σ1, hv4, eh4⟩ := obi_some ht3
        have mσ1 : modi [31, 32, 33, 34, 1906, 1907, 1908] σ σ1 := mσ.tr (mX9_reads hv4) (by decide)
        refine lpF_md (I := fun (q : Int32 × Int32) => match q with | (x1, x2) => True) ?_ eh4 trivial
        rintro ⟨x1, x2⟩ w5 hx5 hI5 lc5 lx5
        by_cases hc5 : (28 : Int32) ≤ x2
        · have ht5 := ite_t hc5 hx5
          have e6 := congrArg some (lx5 _ (Option.some.inj ht5).symm)
          obtain ⟨rfl, rfl⟩ := pj2 (Option.some.inj e6)
          exact mσ1
        · have hf5 := ite_f hc5 hx5
          obtain ⟨hb7, eh7⟩ := grd_some hf5
          obtain ⟨x3, hv8, eh8⟩ := bnd_ex eh7
          obtain ⟨x4, hx10, hq10⟩ := obi_some eh8
          obtain ⟨x5, hv9, eh9⟩ := bnd_ex hq10
          exact lc5 _ (Option.some.inj eh9).symm trivial
      · have hf3 := ite_f hc3 ht2
        obtain ⟨rfl, rfl⟩ := pj2 (Option.some.inj hf3)
        exact mσ
    · have hf2 := ite_f hc2 ht1
      obtain ⟨rfl, rfl⟩ := pj2 (Option.some.inj hf2)
      exact mσ
  · have hf1 := ite_f hc1 h
    obtain ⟨rfl, rfl⟩ := pj2 (Option.some.inj hf1)
    exact mσ

set_option maxRecDepth 20000 in
set_option maxHeartbeats 1000000 in
theorem mX9_differOf {σ : St} {a1 : Int32} {a2 : Int32} {v0 : Int32} {σ' : St} (h : fX9_differOf σ a1 a2 = some (v0, σ')) : modi [31, 32, 33, 34, 1906, 1907, 1908] σ σ' := by
  have mσ : modi [31, 32, 33, 34, 1906, 1907, 1908] σ σ := modi.rf
  unfold fX9_differOf at h
  refine lpF_md (I := fun (q : Int32 × Int32 × St) => match q with | (x1, x2, σ1) => modi [31, 32, 33, 34, 1906, 1907, 1908] σ σ1) ?_ h mσ
  rintro ⟨x1, x2, σ1⟩ w1 hx1 mσ1 lc1 lx1
  replace mσ1 : modi [31, 32, 33, 34, 1906, 1907, 1908] σ σ1 := mσ1
  by_cases hc1 : (17 : Int32) ≤ x2
  · have ht1 := ite_t hc1 hx1
    have e2 := congrArg some (lx1 _ (Option.some.inj ht1).symm)
    obtain ⟨rfl, rfl⟩ := pj2 (Option.some.inj e2)
    exact mσ1
  · have hf1 := ite_f hc1 hx1
    obtain ⟨⟨x3, σ2⟩, hv3, eh3⟩ := obi_some hf1
    have mσ2 : modi [31, 32, 33, 34, 1906, 1907, 1908] σ σ2 := mσ1.tr (mX9_itemOf hv3) (by decide)
    obtain ⟨⟨x4, σ3⟩, hv4, eh4⟩ := obi_some eh3
    have mσ3 : modi [31, 32, 33, 34, 1906, 1907, 1908] σ σ3 := mσ2.tr (mX9_itemOf hv4) (by decide)
    obtain ⟨x5, hx6, hq6⟩ := bnd_ex eh4
    obtain ⟨x6, hv5, eh5⟩ := bnd_ex hq6
    obtain ⟨x7, hv6, eh6⟩ := bnd_ex eh5
    exact lc1 _ (Option.some.inj eh6).symm mσ3

set_option maxRecDepth 20000 in
set_option maxHeartbeats 1000000 in
theorem mX9_differ {σ : St} {a1 : Int32} {a2 : Int32} {v0 : Int32} {σ' : St} (h : fX9_differ σ a1 a2 = some (v0, σ')) : modi [31, 32, 33, 34, 1906, 1907, 1908] σ σ' := by
  have mσ : modi [31, 32, 33, 34, 1906, 1907, 1908] σ σ := modi.rf
  unfold fX9_differ at h
  by_cases hc1 : (fX9_isCode a1) = true
  · have ht1 := ite_t hc1 h
    by_cases hc2 : (fX9_isCode a2) = true
    · have ht2 := ite_t hc2 ht1
      obtain ⟨⟨x1, σ1⟩, hv3, eh3⟩ := obi_some ht2
      have mσ1 : modi [31, 32, 33, 34, 1906, 1907, 1908] σ σ1 := mσ.tr (mX9_differOf hv3) (by decide)
      obtain ⟨rfl, rfl⟩ := pj2 (Option.some.inj eh3)
      exact mσ1
    · have hf2 := ite_f hc2 ht1
      obtain ⟨rfl, rfl⟩ := pj2 (Option.some.inj hf2)
      exact mσ
  · have hf1 := ite_f hc1 h
    obtain ⟨rfl, rfl⟩ := pj2 (Option.some.inj hf1)
    exact mσ

set_option maxRecDepth 20000 in
set_option maxHeartbeats 1000000 in
theorem mX9_mix {σ : St} {a1 : Int32} {a2 : Int32} {a3 : Int32} {σ' : St} (h : fX9_mix σ a1 a2 a3 = some σ') : modi [31, 32, 33, 34, 35, 1906, 1907, 1908] σ σ' := by
  have mσ : modi [31, 32, 33, 34, 35, 1906, 1907, 1908] σ σ := modi.rf
  unfold fX9_mix at h
  refine lpF_md (I := fun (q : Int32 × St) => match q with | (x1, σ1) => modi [31, 32, 33, 34, 35, 1906, 1907, 1908] σ σ1) ?_ h mσ
  rintro ⟨x1, σ1⟩ w1 hx1 mσ1 lc1 lx1
  replace mσ1 : modi [31, 32, 33, 34, 35, 1906, 1907, 1908] σ σ1 := mσ1
  by_cases hc1 : (17 : Int32) ≤ x1
  · have ht1 := ite_t hc1 hx1
    have e2 := congrArg some (lx1 _ (Option.some.inj ht1).symm)
    obtain rfl := (Option.some.inj e2)
    exact mσ1
  · have hf1 := ite_f hc1 hx1
    obtain ⟨x2, hx4, hq4⟩ := bnd_ex hf1
    obtain ⟨⟨x3, σ2⟩, hv3, eh3⟩ := obi_some hq4
    have mσ2 : modi [31, 32, 33, 34, 35, 1906, 1907, 1908] σ σ2 := mσ1.tr (mX9_itemOf hv3) (by decide)
    obtain ⟨hb4, eh4⟩ := grd_some eh3
    obtain ⟨σ3, hv5, eh5⟩ := bnd_ex eh4
    have mσ3 : modi [31, 32, 33, 34, 35, 1906, 1907, 1908] σ σ3 := hv5 ▸ modi.sr mσ2 (show ¬ (35 : Nat) < 10 by decide) (show (35 : Nat) ∈ ([31, 32, 33, 34, 35, 1906, 1907, 1908] : List Nat) by decide)
    obtain ⟨x4, hv6, eh6⟩ := bnd_ex eh5
    exact lc1 _ (Option.some.inj eh6).symm mσ3

set_option maxRecDepth 20000 in
set_option maxHeartbeats 1000000 in
theorem mX9_begins {σ : St}  {σ' : St} (h : fX9_begins σ  = σ') : modi [1910, 1911, 1912, 1913, 1914] σ σ' := by
  have mσ : modi [1910, 1911, 1912, 1913, 1914] σ σ := modi.rf
  unfold fX9_begins at h
  obtain ⟨σ1, hv1, eh1⟩ := bnd_ex h
  have mσ1 : modi [1910, 1911, 1912, 1913, 1914] σ σ1 := hv1 ▸ modi.su mσ (show (1910 : Nat) ∈ ([1910, 1911, 1912, 1913, 1914] : List Nat) by decide)
  obtain ⟨σ2, hv2, eh2⟩ := bnd_ex eh1
  have mσ2 : modi [1910, 1911, 1912, 1913, 1914] σ σ2 := hv2 ▸ modi.su mσ1 (show (1911 : Nat) ∈ ([1910, 1911, 1912, 1913, 1914] : List Nat) by decide)
  obtain ⟨σ3, hv3, eh3⟩ := bnd_ex eh2
  have mσ3 : modi [1910, 1911, 1912, 1913, 1914] σ σ3 := hv3 ▸ modi.su mσ2 (show (1912 : Nat) ∈ ([1910, 1911, 1912, 1913, 1914] : List Nat) by decide)
  obtain ⟨σ4, hv4, eh4⟩ := bnd_ex eh3
  have mσ4 : modi [1910, 1911, 1912, 1913, 1914] σ σ4 := hv4 ▸ modi.su mσ3 (show (1913 : Nat) ∈ ([1910, 1911, 1912, 1913, 1914] : List Nat) by decide)
  obtain ⟨σ5, hv5, eh5⟩ := bnd_ex eh4
  have mσ5 : modi [1910, 1911, 1912, 1913, 1914] σ σ5 := hv5 ▸ modi.su mσ4 (show (1914 : Nat) ∈ ([1910, 1911, 1912, 1913, 1914] : List Nat) by decide)
  obtain rfl := eh5
  exact mσ5

set_option maxRecDepth 20000 in
set_option maxHeartbeats 1000000 in
theorem mX9_ball {σ : St} {a1 : Int32} {a2 : Int32} {a3 : Int32} {σ' : St} (h : fX9_ball σ a1 a2 a3 = σ') : modi [1910, 1911, 1912] σ σ' := by
  have mσ : modi [1910, 1911, 1912] σ σ := modi.rf
  unfold fX9_ball at h
  obtain ⟨σ1, hv1, eh1⟩ := bnd_ex h
  have mσ1 : modi [1910, 1911, 1912] σ σ1 := hv1 ▸ modi.su mσ (show (1910 : Nat) ∈ ([1910, 1911, 1912] : List Nat) by decide)
  obtain ⟨σ2, hv2, eh2⟩ := bnd_ex eh1
  have mσ2 : modi [1910, 1911, 1912] σ σ2 := hv2 ▸ modi.su mσ1 (show (1911 : Nat) ∈ ([1910, 1911, 1912] : List Nat) by decide)
  obtain ⟨σ3, hv3, eh3⟩ := bnd_ex eh2
  have mσ3 : modi [1910, 1911, 1912] σ σ3 := hv3 ▸ modi.su mσ2 (show (1912 : Nat) ∈ ([1910, 1911, 1912] : List Nat) by decide)
  obtain rfl := eh3
  exact mσ3

set_option maxRecDepth 20000 in
set_option maxHeartbeats 1000000 in
theorem mX9_scores {σ : St} {a1 : Int32} {a2 : Int32} {σ' : St} (h : fX9_scores σ a1 a2 = some σ') : modi [1910, 1911, 1912, 1913, 1914] σ σ' := by
  have mσ : modi [1910, 1911, 1912, 1913, 1914] σ σ := modi.rf
  unfold fX9_scores at h
  obtain ⟨x1, hx1, hq1⟩ := bnd_ex h
  obtain ⟨hb1, eh1⟩ := grd_some hq1
  obtain ⟨x2, hv2, eh2⟩ := bnd_ex eh1
  obtain ⟨x3, hx5, hq5⟩ := bnd_ex eh2
  obtain ⟨σ1, hv3, eh3⟩ := bnd_ex hq5
  have mσ1 : modi [1910, 1911, 1912, 1913, 1914] σ σ1 := hv3 ▸ modi.su mσ (show (1913 : Nat) ∈ ([1910, 1911, 1912, 1913, 1914] : List Nat) by decide)
  obtain ⟨x4, hx8, hq8⟩ := bnd_ex eh3
  obtain ⟨σ2, hv4, eh4⟩ := bnd_ex hq8
  have mσ2 : modi [1910, 1911, 1912, 1913, 1914] σ σ2 := hv4 ▸ modi.su mσ1 (show (1914 : Nat) ∈ ([1910, 1911, 1912, 1913, 1914] : List Nat) by decide)
  by_cases hc5 : x2 ≤ 0
  · have ht5 := ite_t hc5 eh4
    by_cases hc6 : a2 ≤ (7 : Int32)
    · have ht6 := ite_t hc6 ht5
      obtain rfl := (Option.some.inj ht6)
      exact mσ2
    · have hf6 := ite_f hc6 ht5
      obtain ⟨σ3, hv7, eh7⟩ := bnd_ex hf6
      have mσ3 : modi [1910, 1911, 1912, 1913, 1914] σ σ3 := mσ2.tr (mX9_ball hv7) (by decide)
      obtain rfl := (Option.some.inj eh7)
      exact mσ3
  · have hf5 := ite_f hc5 eh4
    obtain ⟨x5, hx14, hq14⟩ := bnd_ex hf5
    obtain ⟨σ4, hv8, eh8⟩ := bnd_ex hq14
    have mσ4 : modi [1910, 1911, 1912, 1913, 1914] σ σ4 := mσ2.tr (mX9_ball hv8) (by decide)
    obtain rfl := (Option.some.inj eh8)
    exact mσ4

set_option maxRecDepth 20000 in
set_option maxHeartbeats 1000000 in
theorem mX9_does {σ : St} {a1 : Int32} {a2 : Int32} {σ' : St} (h : fX9_does σ a1 a2 = some σ') : modi [1910, 1911, 1912, 1913, 1914] σ σ' := by
  have mσ : modi [1910, 1911, 1912, 1913, 1914] σ σ := modi.rf
  unfold fX9_does at h
  by_cases hc1 : a2 = 0 ∨ a2 = 6
  · have ht1 := ite_t hc1 h
    obtain ⟨σ1, hv2, eh2⟩ := bnd_ex ht1
    have mσ1 : modi [1910, 1911, 1912, 1913, 1914] σ σ1 := mσ.tr (mX9_ball hv2) (by decide)
    obtain rfl := (Option.some.inj eh2)
    exact mσ1
  · have hf1 := ite_f hc1 h
    by_cases hc3 : a2 = 1
    · have ht3 := ite_t hc3 hf1
      obtain ⟨σ2, hv4, eh4⟩ := bnd_ex ht3
      have mσ2 : modi [1910, 1911, 1912, 1913, 1914] σ σ2 := mσ.tr (mX9_ball hv4) (by decide)
      obtain rfl := (Option.some.inj eh4)
      exact mσ2
    · have hf3 := ite_f hc3 hf1
      by_cases hc5 : a2 = 2 ∨ a2 = 3
      · have ht5 := ite_t hc5 hf3
        obtain ⟨σ3, hv6, eh6⟩ := bnd_ex ht5
        have mσ3 : modi [1910, 1911, 1912, 1913, 1914] σ σ3 := mσ.tr (mX9_ball hv6) (by decide)
        obtain rfl := (Option.some.inj eh6)
        exact mσ3
      · have hf5 := ite_f hc5 hf3
        by_cases hc7 : a2 = 4
        · have ht7 := ite_t hc7 hf5
          obtain ⟨σ4, hv8, eh8⟩ := bnd_ex ht7
          have mσ4 : modi [1910, 1911, 1912, 1913, 1914] σ σ4 := mσ.tr (mX9_ball hv8) (by decide)
          by_cases hc9 : (σ4 (9, 0) 12) = (1 : Int32)
          · have ht9 := ite_t hc9 eh8
            by_cases hc10 : (fX9_ownCell a1 (σ4 (9, 0) 10)) = (6 : Int32)
            · have ht10 := ite_t hc10 ht9
              obtain ⟨σ5, hv11, eh11⟩ := obi_some ht10
              have mσ5 : modi [1910, 1911, 1912, 1913, 1914] σ σ5 := mσ4.tr (mX9_scores hv11) (by decide)
              obtain rfl := (Option.some.inj eh11)
              exact mσ5
            · have hf10 := ite_f hc10 ht9
              obtain rfl := (Option.some.inj hf10)
              exact mσ4
          · have hf9 := ite_f hc9 eh8
            obtain rfl := (Option.some.inj hf9)
            exact mσ4
        · have hf7 := ite_f hc7 hf5
          by_cases hc12 : a2 = 5
          · have ht12 := ite_t hc12 hf7
            obtain ⟨σ6, hv13, eh13⟩ := bnd_ex ht12
            have mσ6 : modi [1910, 1911, 1912, 1913, 1914] σ σ6 := mσ.tr (mX9_ball hv13) (by decide)
            obtain rfl := (Option.some.inj eh13)
            exact mσ6
          · have hf12 := ite_f hc12 hf7
            by_cases hc14 : a2 = 7
            · have ht14 := ite_t hc14 hf12
              obtain ⟨σ7, hv15, eh15⟩ := bnd_ex ht14
              have mσ7 : modi [1910, 1911, 1912, 1913, 1914] σ σ7 := mσ.tr (mX9_ball hv15) (by decide)
              obtain rfl := (Option.some.inj eh15)
              exact mσ7
            · have hf14 := ite_f hc14 hf12
              obtain ⟨σ8, hv16, eh16⟩ := obi_some hf14
              have mσ8 : modi [1910, 1911, 1912, 1913, 1914] σ σ8 := mσ.tr (mX9_scores hv16) (by decide)
              obtain rfl := (Option.some.inj eh16)
              exact mσ8

set_option maxRecDepth 20000 in
set_option maxHeartbeats 1000000 in
theorem mX9_goesOn {σ : St} {a1 : Int32} {a2 : Int32} {v0 : Int32} {σ' : St} (h : fX9_goesOn σ a1 a2 = some (v0, σ')) : modi [1910, 1911, 1912, 1913, 1914] σ σ' := by
  have mσ : modi [1910, 1911, 1912, 1913, 1914] σ σ := modi.rf
  unfold fX9_goesOn at h
  obtain ⟨x1, hv1, eh1⟩ := bnd_ex h
  by_cases hc2 : (fX9_canBe σ x1 (irm a1 (10 : Int32))) = true
  · have ht2 := ite_t hc2 eh1
    obtain ⟨y3, hx3, hy3⟩ := bj_some ht2
    have hJ3 : ∀ (σ1 : St), y3 = .inr σ1 → modi [1910, 1911, 1912, 1913, 1914] σ σ1 → modi [1910, 1911, 1912, 1913, 1914] σ σ' := by
      intro σ1 ey3 mσ1
      have hq3 := bj_r ey3 hy3
      obtain ⟨σ3, hv3, eh3⟩ := bnd_ex hq3
      have mσ3 : modi [1910, 1911, 1912, 1913, 1914] σ σ3 := mσ1.tr (mX9_ball hv3) (by decide)
      obtain ⟨rfl, rfl⟩ := pj2 (Option.some.inj eh3)
      exact mσ3
    obtain ⟨y4, hx4, hy4⟩ := bj_some hx3
    have hJ4 : y4 = .inr () → modi [1910, 1911, 1912, 1913, 1914] σ σ' := by
      intro  ey4
      have hq4 := bj_r ey4 hy4
      obtain ⟨σ2, hv4, eh4⟩ := obi_some hq4
      have mσ2 : modi [1910, 1911, 1912, 1913, 1914] σ σ2 := mσ.tr (mX9_does hv4) (by decide)
      have e5 := bj_l eh4 hy3
      obtain ⟨rfl, rfl⟩ := pj2 (Option.some.inj e5)
      exact mσ2
    by_cases hc6 : a2 = (-1 : Int32)
    · have ht6 := ite_t hc6 hx4
      obtain ⟨x2, hv7, eh7⟩ := obi_some ht6
      by_cases hc8 : x2 = true
      · have ht8 := ite_t hc8 eh7
        exact hJ4 (Option.some.inj ht8).symm
      · have hf8 := ite_f hc8 eh7
        have e9 := bj_l hf8 hy4
        exact hJ3 _ (Option.some.inj e9).symm mσ
    · have hf6 := ite_f hc6 hx4
      by_cases hc10 : a2 = (1 : Int32)
      · have ht10 := ite_t hc10 hf6
        exact hJ4 (Option.some.inj ht10).symm
      · have hf10 := ite_f hc10 hf6
        have e11 := bj_l hf10 hy4
        exact hJ3 _ (Option.some.inj e11).symm mσ
  · have hf2 := ite_f hc2 eh1
    obtain ⟨rfl, rfl⟩ := pj2 (Option.some.inj hf2)
    exact mσ

set_option maxRecDepth 20000 in
set_option maxHeartbeats 1000000 in
theorem mX9_meets {σ : St} {a1 : Int32} {v0 : Int32} {σ' : St} (h : fX9_meets σ a1 = (v0, σ')) : modi [1944] σ σ' := by
  have mσ : modi [1944] σ σ := modi.rf
  unfold fX9_meets at h
  obtain ⟨σ1, hv1, eh1⟩ := bnd_ex h
  have mσ1 : modi [1944] σ σ1 := hv1 ▸ modi.su mσ (show (1944 : Nat) ∈ ([1944] : List Nat) by decide)
  obtain ⟨rfl, rfl⟩ := pj2 eh1
  exact mσ1

set_option maxRecDepth 20000 in
set_option maxHeartbeats 1000000 in
theorem mX9_match {σ : St} {a1 : Int32} {a2 : Int32} {v0 : Int32} {σ' : St} (h : fX9_match σ a1 a2 = some (v0, σ')) : modi [36, 37, 38, 39, 1915, 1944] σ σ' := by
  have mσ : modi [36, 37, 38, 39, 1915, 1944] σ σ := modi.rf
  unfold fX9_match at h
  by_cases hc1 : (fX9_isSheet a1) = true
  · have ht1 := ite_t hc1 h
    by_cases hc2 : (fX9_in a2 (0 : Int32) (40 : Int32)) = true
    · have ht2 := ite_t hc2 ht1
      obtain ⟨hb3, eh3⟩ := grd_some ht2
      by_cases hc4 : (σ (51, 0) (tn a1)) = 0
      · have ht4 := ite_t hc4 eh3
        obtain ⟨⟨x6, σ9⟩, hv5, eh5⟩ := bnd_ex ht4
        have mσ9 : modi [36, 37, 38, 39, 1915, 1944] σ σ9 := mσ.tr (mX9_meets hv5) (by decide)
        obtain ⟨rfl, rfl⟩ := pj2 (Option.some.inj eh5)
        exact mσ9
      · have hf4 := ite_f hc4 eh3
        obtain ⟨hb6, eh6⟩ := grd_some hf4
        by_cases hc7 : a2 ≤ (σ (53, 0) (tn a1))
        · have ht7 := ite_t hc7 eh6
          by_cases hc8 : (σ (9, 0) 15) = (12 : Int32)
          · have ht8 := ite_t hc8 ht7
            obtain ⟨rfl, rfl⟩ := pj2 (Option.some.inj ht8)
            exact mσ
          · have hf8 := ite_f hc8 ht7
            obtain ⟨σ1, hx8, hq8⟩ := obi_some hf8
            have mσ1 : modi [36, 37, 38, 39, 1915, 1944] σ σ1 := by
              refine lpF_md (I := fun (q : Int32 × St) => match q with | (x1, σ2) => modi [36, 37, 38, 39, 1915, 1944] σ σ2) ?_ hx8 mσ
              rintro ⟨x1, σ2⟩ w9 hx9 mσ2 lc9 lx9
              replace mσ2 : modi [36, 37, 38, 39, 1915, 1944] σ σ2 := mσ2
              by_cases hc9 : a2 ≤ x1
              · have ht9 := ite_t hc9 hx9
                have e10 := congrArg some (lx9 _ (Option.some.inj ht9).symm)
                obtain rfl := (Option.some.inj e10)
                exact mσ2
              · have hf9 := ite_f hc9 hx9
                obtain ⟨hb11, eh11⟩ := grd_some hf9
                obtain ⟨x2, hv12, eh12⟩ := bnd_ex eh11
                obtain ⟨x3, hx14, hq14⟩ := bnd_ex eh12
                obtain ⟨hb13, eh13⟩ := grd_some hq14
                obtain ⟨σ3, hv14, eh14⟩ := bnd_ex eh13
                have mσ3 : modi [36, 37, 38, 39, 1915, 1944] σ σ3 := hv14 ▸ modi.sr mσ2 (show ¬ (37 : Nat) < 10 by decide) (show (37 : Nat) ∈ ([36, 37, 38, 39, 1915, 1944] : List Nat) by decide)
                obtain ⟨hb15, eh15⟩ := grd_some eh14
                obtain ⟨σ4, hv16, eh16⟩ := bnd_ex eh15
                have mσ4 : modi [36, 37, 38, 39, 1915, 1944] σ σ4 := hv16 ▸ modi.sr mσ3 (show ¬ (38 : Nat) < 10 by decide) (show (38 : Nat) ∈ ([36, 37, 38, 39, 1915, 1944] : List Nat) by decide)
                obtain ⟨x4, hv17, eh17⟩ := bnd_ex eh16
                exact lc9 _ (Option.some.inj eh17).symm mσ4
            obtain ⟨hb18, eh18⟩ := grd_some hq8
            obtain ⟨σ5, hv19, eh19⟩ := bnd_ex eh18
            have mσ5 : modi [36, 37, 38, 39, 1915, 1944] σ σ5 := hv19 ▸ modi.sr mσ1 (show ¬ (36 : Nat) < 10 by decide) (show (36 : Nat) ∈ ([36, 37, 38, 39, 1915, 1944] : List Nat) by decide)
            obtain ⟨hb20, eh20⟩ := grd_some eh19
            obtain ⟨σ6, hv21, eh21⟩ := bnd_ex eh20
            have mσ6 : modi [36, 37, 38, 39, 1915, 1944] σ σ6 := hv21 ▸ modi.sr mσ5 (show ¬ (39 : Nat) < 10 by decide) (show (39 : Nat) ∈ ([36, 37, 38, 39, 1915, 1944] : List Nat) by decide)
            obtain ⟨σ7, hv22, eh22⟩ := bnd_ex eh21
            have mσ7 : modi [36, 37, 38, 39, 1915, 1944] σ σ7 := hv22 ▸ modi.su mσ6 (show (1915 : Nat) ∈ ([36, 37, 38, 39, 1915, 1944] : List Nat) by decide)
            obtain ⟨rfl, rfl⟩ := pj2 (Option.some.inj eh22)
            exact mσ7
        · have hf7 := ite_f hc7 eh6
          obtain ⟨⟨x5, σ8⟩, hv23, eh23⟩ := bnd_ex hf7
          have mσ8 : modi [36, 37, 38, 39, 1915, 1944] σ σ8 := mσ.tr (mX9_meets hv23) (by decide)
          obtain ⟨rfl, rfl⟩ := pj2 (Option.some.inj eh23)
          exact mσ8
    · have hf2 := ite_f hc2 ht1
      obtain ⟨rfl, rfl⟩ := pj2 (Option.some.inj hf2)
      exact mσ
  · have hf1 := ite_f hc1 h
    obtain ⟨rfl, rfl⟩ := pj2 (Option.some.inj hf1)
    exact mσ

set_option maxRecDepth 20000 in
set_option maxHeartbeats 1000000 in
theorem mX9_verdicts {σ : St} {a1 : Int32} {a2 : Int32} {v0 : Int32} {σ' : St} (h : fX9_verdicts σ a1 a2 = some (v0, σ')) : modi [38, 39, 1944] σ σ' := by
  have mσ : modi [38, 39, 1944] σ σ := modi.rf
  unfold fX9_verdicts at h
  by_cases hc1 : (fX9_isMatch σ a1) = true
  · have ht1 := ite_t hc1 h
    by_cases hc2 : (fX9_isSheet a2) = true
    · have ht2 := ite_t hc2 ht1
      obtain ⟨hb3, eh3⟩ := grd_some ht2
      by_cases hc4 : (σ (51, 0) (tn a2)) = 0
      · have ht4 := ite_t hc4 eh3
        obtain ⟨⟨x5, σ5⟩, hv5, eh5⟩ := bnd_ex ht4
        have mσ5 : modi [38, 39, 1944] σ σ5 := mσ.tr (mX9_meets hv5) (by decide)
        obtain ⟨rfl, rfl⟩ := pj2 (Option.some.inj eh5)
        exact mσ5
      · have hf4 := ite_f hc4 eh3
        obtain ⟨σ1, hx5, hq5⟩ := obi_some hf4
        have mσ1 : modi [38, 39, 1944] σ σ1 := by
          refine lpF_md (I := fun (q : Int32 × St) => match q with | (x1, σ2) => modi [38, 39, 1944] σ σ2) ?_ hx5 mσ
          rintro ⟨x1, σ2⟩ w6 hx6 mσ2 lc6 lx6
          replace mσ2 : modi [38, 39, 1944] σ σ2 := mσ2
          obtain ⟨hb6, eh6⟩ := grd_some hx6
          by_cases hc7 : (σ2 (36, 0) (tn a1)) ≤ x1
          · have ht7 := ite_t hc7 eh6
            have e8 := congrArg some (lx6 _ (Option.some.inj ht7).symm)
            obtain rfl := (Option.some.inj e8)
            exact mσ2
          · have hf7 := ite_f hc7 eh6
            obtain ⟨hb9, eh9⟩ := grd_some hf7
            obtain ⟨x2, hx11, hq11⟩ := obi_some eh9
            obtain ⟨x3, hx14, hq14⟩ := bnd_ex hq11
            obtain ⟨hb10, eh10⟩ := grd_some hq14
            obtain ⟨σ3, hv11, eh11⟩ := bnd_ex eh10
            have mσ3 : modi [38, 39, 1944] σ σ3 := hv11 ▸ modi.sr mσ2 (show ¬ (38 : Nat) < 10 by decide) (show (38 : Nat) ∈ ([38, 39, 1944] : List Nat) by decide)
            obtain ⟨x4, hv12, eh12⟩ := bnd_ex eh11
            exact lc6 _ (Option.some.inj eh12).symm mσ3
        obtain ⟨hb13, eh13⟩ := grd_some hq5
        obtain ⟨σ4, hv14, eh14⟩ := bnd_ex eh13
        have mσ4 : modi [38, 39, 1944] σ σ4 := hv14 ▸ modi.sr mσ1 (show ¬ (39 : Nat) < 10 by decide) (show (39 : Nat) ∈ ([38, 39, 1944] : List Nat) by decide)
        obtain ⟨rfl, rfl⟩ := pj2 (Option.some.inj eh14)
        exact mσ4
    · have hf2 := ite_f hc2 ht1
      obtain ⟨rfl, rfl⟩ := pj2 (Option.some.inj hf2)
      exact mσ
  · have hf1 := ite_f hc1 h
    obtain ⟨rfl, rfl⟩ := pj2 (Option.some.inj hf1)
    exact mσ

set_option maxRecDepth 20000 in
set_option maxHeartbeats 1000000 in
theorem mX9_clears {σ : St}  {σ' : St} (h : fX9_clears σ  = σ') : modi [1910, 1911, 1912, 1913, 1914, 1920, 1921, 1922, 1923] σ σ' := by
  have mσ : modi [1910, 1911, 1912, 1913, 1914, 1920, 1921, 1922, 1923] σ σ := modi.rf
  unfold fX9_clears at h
  obtain ⟨σ1, hv1, eh1⟩ := bnd_ex h
  have mσ1 : modi [1910, 1911, 1912, 1913, 1914, 1920, 1921, 1922, 1923] σ σ1 := mσ.tr (mX9_begins hv1) (by decide)
  obtain ⟨σ2, hv2, eh2⟩ := bnd_ex eh1
  have mσ2 : modi [1910, 1911, 1912, 1913, 1914, 1920, 1921, 1922, 1923] σ σ2 := hv2 ▸ modi.su mσ1 (show (1920 : Nat) ∈ ([1910, 1911, 1912, 1913, 1914, 1920, 1921, 1922, 1923] : List Nat) by decide)
  obtain ⟨σ3, hv3, eh3⟩ := bnd_ex eh2
  have mσ3 : modi [1910, 1911, 1912, 1913, 1914, 1920, 1921, 1922, 1923] σ σ3 := hv3 ▸ modi.su mσ2 (show (1921 : Nat) ∈ ([1910, 1911, 1912, 1913, 1914, 1920, 1921, 1922, 1923] : List Nat) by decide)
  obtain ⟨σ4, hv4, eh4⟩ := bnd_ex eh3
  have mσ4 : modi [1910, 1911, 1912, 1913, 1914, 1920, 1921, 1922, 1923] σ σ4 := hv4 ▸ modi.su mσ3 (show (1922 : Nat) ∈ ([1910, 1911, 1912, 1913, 1914, 1920, 1921, 1922, 1923] : List Nat) by decide)
  obtain ⟨σ5, hv5, eh5⟩ := bnd_ex eh4
  have mσ5 : modi [1910, 1911, 1912, 1913, 1914, 1920, 1921, 1922, 1923] σ σ5 := hv5 ▸ modi.su mσ4 (show (1923 : Nat) ∈ ([1910, 1911, 1912, 1913, 1914, 1920, 1921, 1922, 1923] : List Nat) by decide)
  obtain rfl := eh5
  exact mσ5

set_option maxRecDepth 20000 in
set_option maxHeartbeats 1000000 in
theorem mX9_steps {σ : St} {a1 : Int32} {v0 : Int32} {σ' : St} (h : fX9_steps σ a1 = some (v0, σ')) : modi [1910, 1911, 1912, 1913, 1914, 1920, 1921, 1922, 1923] σ σ' := by
  have mσ : modi [1910, 1911, 1912, 1913, 1914, 1920, 1921, 1922, 1923] σ σ := modi.rf
  unfold fX9_steps at h
  obtain ⟨hb1, eh1⟩ := grd_some h
  obtain ⟨x1, hv2, eh2⟩ := bnd_ex eh1
  obtain ⟨σ1, hv3, eh3⟩ := bnd_ex eh2
  have mσ1 : modi [1910, 1911, 1912, 1913, 1914, 1920, 1921, 1922, 1923] σ σ1 := hv3 ▸ modi.su mσ (show (1923 : Nat) ∈ ([1910, 1911, 1912, 1913, 1914, 1920, 1921, 1922, 1923] : List Nat) by decide)
  by_cases hc4 : x1 = (-1 : Int32)
  · have ht4 := ite_t hc4 eh3
    obtain ⟨rfl, rfl⟩ := pj2 (Option.some.inj ht4)
    exact mσ1
  · have hf4 := ite_f hc4 eh3
    obtain ⟨⟨x2, σ2⟩, hv5, eh5⟩ := obi_some hf4
    have mσ2 : modi [1910, 1911, 1912, 1913, 1914, 1920, 1921, 1922, 1923] σ σ2 := mσ1.tr (mX9_goesOn hv5) (by decide)
    obtain ⟨x3, hx6, hq6⟩ := bnd_ex eh5
    obtain ⟨σ3, hv6, eh6⟩ := bnd_ex hq6
    have mσ3 : modi [1910, 1911, 1912, 1913, 1914, 1920, 1921, 1922, 1923] σ σ3 := hv6 ▸ modi.su mσ2 (show (1920 : Nat) ∈ ([1910, 1911, 1912, 1913, 1914, 1920, 1921, 1922, 1923] : List Nat) by decide)
    obtain ⟨x4, hx9, hq9⟩ := bnd_ex eh6
    obtain ⟨σ4, hv7, eh7⟩ := bnd_ex hq9
    have mσ4 : modi [1910, 1911, 1912, 1913, 1914, 1920, 1921, 1922, 1923] σ σ4 := hv7 ▸ modi.su mσ3 (show (1921 : Nat) ∈ ([1910, 1911, 1912, 1913, 1914, 1920, 1921, 1922, 1923] : List Nat) by decide)
    obtain ⟨x5, hx12, hq12⟩ := bnd_ex eh7
    obtain ⟨σ5, hv8, eh8⟩ := bnd_ex hq12
    have mσ5 : modi [1910, 1911, 1912, 1913, 1914, 1920, 1921, 1922, 1923] σ σ5 := hv8 ▸ modi.su mσ4 (show (1922 : Nat) ∈ ([1910, 1911, 1912, 1913, 1914, 1920, 1921, 1922, 1923] : List Nat) by decide)
    obtain ⟨rfl, rfl⟩ := pj2 (Option.some.inj eh8)
    exact mσ5

set_option maxRecDepth 20000 in
set_option maxHeartbeats 1000000 in
theorem mX9_plays {σ : St} {a1 : Int32} {σ' : St} (h : fX9_plays σ a1 = some σ') : modi [1910, 1911, 1912, 1913, 1914, 1920, 1921, 1922, 1923] σ σ' := by
  have mσ : modi [1910, 1911, 1912, 1913, 1914, 1920, 1921, 1922, 1923] σ σ := modi.rf
  unfold fX9_plays at h
  obtain ⟨σ1, hv1, eh1⟩ := bnd_ex h
  have mσ1 : modi [1910, 1911, 1912, 1913, 1914, 1920, 1921, 1922, 1923] σ σ1 := mσ.tr (mX9_clears hv1) (by decide)
  refine lpF_md (I := fun (q : St) => match q with | σ2 => modi [1910, 1911, 1912, 1913, 1914, 1920, 1921, 1922, 1923] σ σ2) ?_ eh1 mσ1
  rintro σ2 w2 hx2 mσ2 lc2 lx2
  replace mσ2 : modi [1910, 1911, 1912, 1913, 1914, 1920, 1921, 1922, 1923] σ σ2 := mσ2
  obtain ⟨x1, hv2, eh2⟩ := obi_some hx2
  by_cases hc3 : x1 = true
  · have ht3 := ite_t hc3 eh2
    have e4 := congrArg some (lx2 _ (Option.some.inj ht3).symm)
    obtain rfl := (Option.some.inj e4)
    exact mσ2
  · have hf3 := ite_f hc3 eh2
    obtain ⟨⟨x2, σ3⟩, hv5, eh5⟩ := obi_some hf3
    have mσ3 : modi [1910, 1911, 1912, 1913, 1914, 1920, 1921, 1922, 1923] σ σ3 := mσ2.tr (mX9_steps hv5) (by decide)
    exact lc2 _ (Option.some.inj eh5).symm mσ3

set_option maxRecDepth 20000 in
set_option maxHeartbeats 1000000 in
theorem mX9_played {σ : St} {a1 : Int32} {a2 : Int32} {a3 : Int32} {a4 : Int32} {a5 : Int32} {v0 : Int32} {σ' : St} (h : fX9_played σ a1 a2 a3 a4 a5 = some (v0, σ')) : modi [31, 32, 33, 34, 35, 1906, 1907, 1908, 1910, 1911, 1912, 1913, 1914, 1920, 1921, 1922, 1923] σ σ' := by
  have mσ : modi [31, 32, 33, 34, 35, 1906, 1907, 1908, 1910, 1911, 1912, 1913, 1914, 1920, 1921, 1922, 1923] σ σ := modi.rf
  unfold fX9_played at h
  by_cases hc1 : (fX9_isMatch σ a1) = true
  · have ht1 := ite_t hc1 h
    by_cases hc2 : (fX9_isCode a2) = true
    · have ht2 := ite_t hc2 ht1
      by_cases hc3 : (fX9_isCode a3) = true
      · have ht3 := ite_t hc3 ht2
        by_cases hc4 : (fX9_in a4 (0 : Int32) (131071 : Int32)) = true
        · have ht4 := ite_t hc4 ht3
          by_cases hc5 : (fX9_in a5 (0 : Int32) (8 : Int32)) = true
          · have ht5 := ite_t hc5 ht4
            obtain ⟨σ1, hv6, eh6⟩ := obi_some ht5
            have mσ1 : modi [31, 32, 33, 34, 35, 1906, 1907, 1908, 1910, 1911, 1912, 1913, 1914, 1920, 1921, 1922, 1923] σ σ1 := mσ.tr (mX9_mix hv6) (by decide)
            obtain ⟨σ2, hv7, eh7⟩ := obi_some eh6
            have mσ2 : modi [31, 32, 33, 34, 35, 1906, 1907, 1908, 1910, 1911, 1912, 1913, 1914, 1920, 1921, 1922, 1923] σ σ2 := mσ1.tr (mX9_plays hv7) (by decide)
            obtain ⟨rfl, rfl⟩ := pj2 (Option.some.inj eh7)
            exact mσ2
          · have hf5 := ite_f hc5 ht4
            obtain ⟨rfl, rfl⟩ := pj2 (Option.some.inj hf5)
            exact mσ
        · have hf4 := ite_f hc4 ht3
          obtain ⟨rfl, rfl⟩ := pj2 (Option.some.inj hf4)
          exact mσ
      · have hf3 := ite_f hc3 ht2
        obtain ⟨rfl, rfl⟩ := pj2 (Option.some.inj hf3)
        exact mσ
    · have hf2 := ite_f hc2 ht1
      obtain ⟨rfl, rfl⟩ := pj2 (Option.some.inj hf2)
      exact mσ
  · have hf1 := ite_f hc1 h
    obtain ⟨rfl, rfl⟩ := pj2 (Option.some.inj hf1)
    exact mσ

set_option maxRecDepth 20000 in
set_option maxHeartbeats 1000000 in
theorem mX9_goes {σ : St} {a1 : Int32} {a2 : Int32} {a3 : Int32} {v0 : Int32} {σ' : St} (h : fX9_goes σ a1 a2 a3 = some (v0, σ')) : modi [31, 32, 33, 34, 35, 1906, 1907, 1908, 1910, 1911, 1912, 1913, 1914, 1920, 1921, 1922, 1923] σ σ' := by
  have mσ : modi [31, 32, 33, 34, 35, 1906, 1907, 1908, 1910, 1911, 1912, 1913, 1914, 1920, 1921, 1922, 1923] σ σ := modi.rf
  unfold fX9_goes at h
  by_cases hc1 : (fX9_isMatch σ a1) = true
  · have ht1 := ite_t hc1 h
    by_cases hc2 : (fX9_isCode a2) = true
    · have ht2 := ite_t hc2 ht1
      obtain ⟨hb3, eh3⟩ := grd_some ht2
      by_cases hc4 : (fX9_in a3 (0 : Int32) ((σ (36, 0) (tn a1)) - (1 : Int32))) = true
      · have ht4 := ite_t hc4 eh3
        obtain ⟨σ1, hv5, eh5⟩ := obi_some ht4
        have mσ1 : modi [31, 32, 33, 34, 35, 1906, 1907, 1908, 1910, 1911, 1912, 1913, 1914, 1920, 1921, 1922, 1923] σ σ1 := mσ.tr (mX9_mix hv5) (by decide)
        obtain ⟨σ2, hv6, eh6⟩ := bnd_ex eh5
        have mσ2 : modi [31, 32, 33, 34, 35, 1906, 1907, 1908, 1910, 1911, 1912, 1913, 1914, 1920, 1921, 1922, 1923] σ σ2 := mσ1.tr (mX9_clears hv6) (by decide)
        refine lpF_md (I := fun (q : St) => match q with | σ3 => modi [31, 32, 33, 34, 35, 1906, 1907, 1908, 1910, 1911, 1912, 1913, 1914, 1920, 1921, 1922, 1923] σ σ3) ?_ eh6 mσ2
        rintro σ3 w7 hx7 mσ3 lc7 lx7
        replace mσ3 : modi [31, 32, 33, 34, 35, 1906, 1907, 1908, 1910, 1911, 1912, 1913, 1914, 1920, 1921, 1922, 1923] σ σ3 := mσ3
        obtain ⟨x1, hv7, eh7⟩ := obi_some hx7
        by_cases hc8 : x1 = true
        · have ht8 := ite_t hc8 eh7
          have e9 := congrArg some (lx7 _ (Option.some.inj ht8).symm)
          obtain ⟨rfl, rfl⟩ := pj2 (Option.some.inj e9)
          exact mσ3
        · have hf8 := ite_f hc8 eh7
          obtain ⟨⟨x2, σ4⟩, hv10, eh10⟩ := obi_some hf8
          have mσ4 : modi [31, 32, 33, 34, 35, 1906, 1907, 1908, 1910, 1911, 1912, 1913, 1914, 1920, 1921, 1922, 1923] σ σ4 := mσ3.tr (mX9_steps hv10) (by decide)
          by_cases hc11 : (σ4 (9, 0) 23) = (a3 + (1 : Int32))
          · have ht11 := ite_t hc11 eh10
            have e12 := congrArg some (lx7 _ (Option.some.inj ht11).symm)
            obtain ⟨rfl, rfl⟩ := pj2 (Option.some.inj e12)
            exact mσ4
          · have hf11 := ite_f hc11 eh10
            exact lc7 _ (Option.some.inj hf11).symm mσ4
      · have hf4 := ite_f hc4 eh3
        obtain ⟨rfl, rfl⟩ := pj2 (Option.some.inj hf4)
        exact mσ
    · have hf2 := ite_f hc2 ht1
      obtain ⟨rfl, rfl⟩ := pj2 (Option.some.inj hf2)
      exact mσ
  · have hf1 := ite_f hc1 h
    obtain ⟨rfl, rfl⟩ := pj2 (Option.some.inj hf1)
    exact mσ

set_option maxRecDepth 20000 in
set_option maxHeartbeats 1000000 in
theorem mX9_winner {σ : St} {a1 : Int32} {a2 : Int32} {v0 : Int32} {σ' : St} (h : fX9_winner σ a1 a2 = some (v0, σ')) : modi [31, 32, 33, 34, 35, 1906, 1907, 1908, 1910, 1911, 1912, 1913, 1914, 1920, 1921, 1922, 1923] σ σ' := by
  have mσ : modi [31, 32, 33, 34, 35, 1906, 1907, 1908, 1910, 1911, 1912, 1913, 1914, 1920, 1921, 1922, 1923] σ σ := modi.rf
  unfold fX9_winner at h
  obtain ⟨σ1, hv1, eh1⟩ := obi_some h
  have mσ1 : modi [31, 32, 33, 34, 35, 1906, 1907, 1908, 1910, 1911, 1912, 1913, 1914, 1920, 1921, 1922, 1923] σ σ1 := mσ.tr (mX9_mix hv1) (by decide)
  obtain ⟨σ2, hv2, eh2⟩ := obi_some eh1
  have mσ2 : modi [31, 32, 33, 34, 35, 1906, 1907, 1908, 1910, 1911, 1912, 1913, 1914, 1920, 1921, 1922, 1923] σ σ2 := mσ1.tr (mX9_plays hv2) (by decide)
  obtain ⟨rfl, rfl⟩ := pj2 (Option.some.inj eh2)
  exact mσ2

set_option maxRecDepth 20000 in
set_option maxHeartbeats 1000000 in
theorem mX9_turned {σ : St} {a1 : Int32} {a2 : Int32} {v0 : Int32} {σ' : St} (h : fX9_turned σ a1 a2 = some (v0, σ')) : modi [31, 32, 33, 34, 35, 1906, 1907, 1908, 1910, 1911, 1912, 1913, 1914, 1920, 1921, 1922, 1923] σ σ' := by
  have mσ : modi [31, 32, 33, 34, 35, 1906, 1907, 1908, 1910, 1911, 1912, 1913, 1914, 1920, 1921, 1922, 1923] σ σ := modi.rf
  unfold fX9_turned at h
  by_cases hc1 : (fX9_isCode a1) = true
  · have ht1 := ite_t hc1 h
    by_cases hc2 : (fX9_isCode a2) = true
    · have ht2 := ite_t hc2 ht1
      refine lpF_md (I := fun (q : Int32 × Int32 × St) => match q with | (x1, x2, σ1) => modi [31, 32, 33, 34, 35, 1906, 1907, 1908, 1910, 1911, 1912, 1913, 1914, 1920, 1921, 1922, 1923] σ σ1) ?_ ht2 mσ
      rintro ⟨x1, x2, σ1⟩ w3 hx3 mσ1 lc3 lx3
      replace mσ1 : modi [31, 32, 33, 34, 35, 1906, 1907, 1908, 1910, 1911, 1912, 1913, 1914, 1920, 1921, 1922, 1923] σ σ1 := mσ1
      by_cases hc3 : (σ1 (9, 0) 15) ≤ x2
      · have ht3 := ite_t hc3 hx3
        have e4 := congrArg some (lx3 _ (Option.some.inj ht3).symm)
        obtain ⟨rfl, rfl⟩ := pj2 (Option.some.inj e4)
        exact mσ1
      · have hf3 := ite_f hc3 hx3
        obtain ⟨⟨x3, σ2⟩, hv5, eh5⟩ := obi_some hf3
        have mσ2 : modi [31, 32, 33, 34, 35, 1906, 1907, 1908, 1910, 1911, 1912, 1913, 1914, 1920, 1921, 1922, 1923] σ σ2 := mσ1.tr (mX9_winner hv5) (by decide)
        obtain ⟨⟨x4, σ3⟩, hv6, eh6⟩ := obi_some eh5
        have mσ3 : modi [31, 32, 33, 34, 35, 1906, 1907, 1908, 1910, 1911, 1912, 1913, 1914, 1920, 1921, 1922, 1923] σ σ3 := mσ2.tr (mX9_winner hv6) (by decide)
        obtain ⟨x5, hx8, hq8⟩ := bnd_ex eh6
        obtain ⟨x6, hv7, eh7⟩ := bnd_ex hq8
        obtain ⟨x7, hv8, eh8⟩ := bnd_ex eh7
        exact lc3 _ (Option.some.inj eh8).symm mσ3
    · have hf2 := ite_f hc2 ht1
      obtain ⟨rfl, rfl⟩ := pj2 (Option.some.inj hf2)
      exact mσ
  · have hf1 := ite_f hc1 h
    obtain ⟨rfl, rfl⟩ := pj2 (Option.some.inj hf1)
    exact mσ

set_option maxRecDepth 20000 in
set_option maxHeartbeats 1000000 in
theorem mX9_found {σ : St} {a1 : Int32} {a2 : Int32} {v0 : Int32} {σ' : St} (h : fX9_found σ a1 a2 = some (v0, σ')) : modi [35, 1910, 1911, 1912, 1913, 1914] σ σ' := by
  have mσ : modi [35, 1910, 1911, 1912, 1913, 1914] σ σ := modi.rf
  unfold fX9_found at h
  by_cases hc1 : (fX9_in a1 (0 : Int32) (9 : Int32)) = true
  · have ht1 := ite_t hc1 h
    by_cases hc2 : (fX9_in a2 (0 : Int32) (6 : Int32)) = true
    · have ht2 := ite_t hc2 ht1
      obtain ⟨σ1, hx3, hq3⟩ := obi_some ht2
      have mσ1 : modi [35, 1910, 1911, 1912, 1913, 1914] σ σ1 := by
        refine lpF_md (I := fun (q : Int32 × St) => match q with | (x1, σ2) => modi [35, 1910, 1911, 1912, 1913, 1914] σ σ2) ?_ hx3 mσ
        rintro ⟨x1, σ2⟩ w4 hx4 mσ2 lc4 lx4
        replace mσ2 : modi [35, 1910, 1911, 1912, 1913, 1914] σ σ2 := mσ2
        by_cases hc3 : (17 : Int32) ≤ x1
        · have ht3 := ite_t hc3 hx4
          have e4 := congrArg some (lx4 _ (Option.some.inj ht3).symm)
          obtain rfl := (Option.some.inj e4)
          exact mσ2
        · have hf3 := ite_f hc3 hx4
          obtain ⟨hb5, eh5⟩ := grd_some hf3
          obtain ⟨σ3, hv6, eh6⟩ := bnd_ex eh5
          have mσ3 : modi [35, 1910, 1911, 1912, 1913, 1914] σ σ3 := hv6 ▸ modi.sr mσ2 (show ¬ (35 : Nat) < 10 by decide) (show (35 : Nat) ∈ ([35, 1910, 1911, 1912, 1913, 1914] : List Nat) by decide)
          obtain ⟨x2, hv7, eh7⟩ := bnd_ex eh6
          exact lc4 _ (Option.some.inj eh7).symm mσ3
      refine lpF_md (I := fun (q : Int32 × Int32 × St) => match q with | (x3, x4, σ4) => modi [35, 1910, 1911, 1912, 1913, 1914] σ σ4) ?_ hq3 mσ1
      rintro ⟨x3, x4, σ4⟩ w10 hx10 mσ4 lc10 lx10
      replace mσ4 : modi [35, 1910, 1911, 1912, 1913, 1914] σ σ4 := mσ4
      by_cases hc8 : (σ4 (9, 0) 15) ≤ x4
      · have ht8 := ite_t hc8 hx10
        have e9 := congrArg some (lx10 _ (Option.some.inj ht8).symm)
        obtain ⟨rfl, rfl⟩ := pj2 (Option.some.inj e9)
        exact mσ4
      · have hf8 := ite_f hc8 hx10
        obtain ⟨σ5, hv10, eh10⟩ := bnd_ex hf8
        have mσ5 : modi [35, 1910, 1911, 1912, 1913, 1914] σ σ5 := mσ4.tr (mX9_begins hv10) (by decide)
        obtain ⟨⟨x5, σ6⟩, hx14, hq14⟩ := obi_some eh10
        have mσ6 : modi [35, 1910, 1911, 1912, 1913, 1914] σ σ6 := by
          refine lpF_md (I := fun (q : Int32 × Int32 × Int32 × St) => match q with | (x6, x7, x8, σ7) => modi [35, 1910, 1911, 1912, 1913, 1914] σ σ7) ?_ hx14 mσ5
          rintro ⟨x6, x7, x8, σ7⟩ w15 hx15 mσ7 lc15 lx15
          replace mσ7 : modi [35, 1910, 1911, 1912, 1913, 1914] σ σ7 := mσ7
          obtain ⟨hb11, eh11⟩ := grd_some hx15
          by_cases hc12 : (σ7 (36, 0) (tn x4)) ≤ x8
          · have ht12 := ite_t hc12 eh11
            have e13 := congrArg some (lx15 _ (Option.some.inj ht12).symm)
            obtain ⟨rfl, rfl⟩ := pj2 (Option.some.inj e13)
            exact mσ7
          · have hf12 := ite_f hc12 eh11
            by_cases hc14 : x7 = 0
            · have ht14 := ite_t hc14 hf12
              have e15 := congrArg some (lx15 _ (Option.some.inj ht14).symm)
              obtain ⟨rfl, rfl⟩ := pj2 (Option.some.inj e15)
              exact mσ7
            · have hf14 := ite_f hc14 hf12
              obtain ⟨hb16, eh16⟩ := grd_some hf14
              obtain ⟨x9, hv17, eh17⟩ := bnd_ex eh16
              obtain ⟨hb18, eh18⟩ := grd_some eh17
              obtain ⟨x10, hv19, eh19⟩ := bnd_ex eh18
              obtain ⟨x11, hx25, hq25⟩ := bnd_ex eh19
              obtain ⟨⟨x12, x13, σ8⟩, hx27, hq27⟩ := obi_some hq25
              have mσ8 : modi [35, 1910, 1911, 1912, 1913, 1914] σ σ8 := by
                by_cases hc20 : x11 = 0
                · have ht20 := ite_t hc20 hx27
                  obtain ⟨rfl, rfl, rfl⟩ := pj3 (Option.some.inj ht20)
                  exact mσ7
                · have hf20 := ite_f hc20 hx27
                  by_cases hc21 : (fX9_canBe σ7 (irm (x9 / (10 : Int32)) (2 : Int32)) (irm x9 (10 : Int32))) = true
                  · have ht21 := ite_t hc21 hf20
                    obtain ⟨x14, hx30, hq30⟩ := bnd_ex ht21
                    obtain ⟨x15, hx32, hq32⟩ := bnd_ex hq30
                    obtain ⟨x16, hx37, hq37⟩ := bnd_ex hq32
                    obtain ⟨x17, hv22, eh22⟩ := bnd_ex hq37
                    obtain ⟨⟨x18, σ9⟩, hx41, hq41⟩ := obi_some eh22
                    have mσ9 : modi [35, 1910, 1911, 1912, 1913, 1914] σ σ9 := by
                      by_cases hc23 : x14 = 0
                      · have ht23 := ite_t hc23 hx41
                        obtain ⟨rfl, rfl⟩ := pj2 (Option.some.inj ht23)
                        exact mσ7
                      · have hf23 := ite_f hc23 hx41
                        obtain ⟨⟨x19, σ10⟩, hv24, eh24⟩ := obi_some hf23
                        have mσ10 : modi [35, 1910, 1911, 1912, 1913, 1914] σ σ10 := mσ7.tr (mX9_goesOn hv24) (by decide)
                        obtain ⟨rfl, rfl⟩ := pj2 (Option.some.inj eh24)
                        exact mσ10
                    obtain ⟨rfl, rfl, rfl⟩ := pj3 (Option.some.inj hq41)
                    exact mσ9
                  · have hf21 := ite_f hc21 hf20
                    obtain ⟨rfl, rfl, rfl⟩ := pj3 (Option.some.inj hf21)
                    exact mσ7
              obtain ⟨x20, hv25, eh25⟩ := bnd_ex hq27
              exact lc15 _ (Option.some.inj eh25).symm mσ8
        obtain ⟨x21, hv26, eh26⟩ := bnd_ex hq14
        exact lc10 _ (Option.some.inj eh26).symm mσ6
    · have hf2 := ite_f hc2 ht1
      obtain ⟨rfl, rfl⟩ := pj2 (Option.some.inj hf2)
      exact mσ
  · have hf1 := ite_f hc1 h
    obtain ⟨rfl, rfl⟩ := pj2 (Option.some.inj hf1)
    exact mσ

set_option maxRecDepth 20000 in
set_option maxHeartbeats 1000000 in
theorem mX9_doesFit {σ : St} {a1 : Int32} {a2 : Int32} {v0 : Bool} {σ' : St} (h : fX9_doesFit σ a1 a2 = some (v0, σ')) : modi [31, 32, 33, 34, 35, 1906, 1907, 1908, 1910, 1911, 1912, 1913, 1914, 1920, 1921, 1922, 1923] σ σ' := by
  have mσ : modi [31, 32, 33, 34, 35, 1906, 1907, 1908, 1910, 1911, 1912, 1913, 1914, 1920, 1921, 1922, 1923] σ σ := modi.rf
  unfold fX9_doesFit at h
  obtain ⟨σ1, hv1, eh1⟩ := obi_some h
  have mσ1 : modi [31, 32, 33, 34, 35, 1906, 1907, 1908, 1910, 1911, 1912, 1913, 1914, 1920, 1921, 1922, 1923] σ σ1 := mσ.tr (mX9_mix hv1) (by decide)
  obtain ⟨σ2, hv2, eh2⟩ := bnd_ex eh1
  have mσ2 : modi [31, 32, 33, 34, 35, 1906, 1907, 1908, 1910, 1911, 1912, 1913, 1914, 1920, 1921, 1922, 1923] σ σ2 := mσ1.tr (mX9_clears hv2) (by decide)
  refine lpF_md (I := fun (q : St) => match q with | σ3 => modi [31, 32, 33, 34, 35, 1906, 1907, 1908, 1910, 1911, 1912, 1913, 1914, 1920, 1921, 1922, 1923] σ σ3) ?_ eh2 mσ2
  rintro σ3 w3 hx3 mσ3 lc3 lx3
  replace mσ3 : modi [31, 32, 33, 34, 35, 1906, 1907, 1908, 1910, 1911, 1912, 1913, 1914, 1920, 1921, 1922, 1923] σ σ3 := mσ3
  obtain ⟨x1, hv3, eh3⟩ := obi_some hx3
  by_cases hc4 : x1 = true
  · have ht4 := ite_t hc4 eh3
    have e5 := congrArg some (lx3 _ (Option.some.inj ht4).symm)
    obtain ⟨rfl, rfl⟩ := pj2 (Option.some.inj e5)
    exact mσ3
  · have hf4 := ite_f hc4 eh3
    obtain ⟨hb6, eh6⟩ := grd_some hf4
    obtain ⟨x2, hv7, eh7⟩ := bnd_ex eh6
    obtain ⟨⟨x3, σ4⟩, hv8, eh8⟩ := obi_some eh7
    have mσ4 : modi [31, 32, 33, 34, 35, 1906, 1907, 1908, 1910, 1911, 1912, 1913, 1914, 1920, 1921, 1922, 1923] σ σ4 := mσ3.tr (mX9_steps hv8) (by decide)
    obtain ⟨y10, hx10, hy10⟩ := bj_some eh8
    have hJ10 : y10 = .inr () → modi [31, 32, 33, 34, 35, 1906, 1907, 1908, 1910, 1911, 1912, 1913, 1914, 1920, 1921, 1922, 1923] σ σ' := by
      intro  ey10
      have hq10 := bj_r ey10 hy10
      exact lc3 _ (Option.some.inj hq10).symm mσ4
    by_cases hc9 : x2 = (-1 : Int32)
    · have ht9 := ite_t hc9 hx10
      exact hJ10 (Option.some.inj ht9).symm
    · have hf9 := ite_f hc9 hx10
      obtain ⟨y12, hx12, hy12⟩ := bj_some hf9
      have hJ12 : y12 = .inr () → modi [31, 32, 33, 34, 35, 1906, 1907, 1908, 1910, 1911, 1912, 1913, 1914, 1920, 1921, 1922, 1923] σ σ' := by
        intro  ey12
        have hq12 := bj_r ey12 hy12
        by_cases hc10 : x3 = (2 : Int32)
        · have ht10 := ite_t hc10 hq12
          by_cases hc11 : x2 = (1 : Int32)
          · have ht11 := ite_t hc11 ht10
            have e12 := bj_l ht11 hy10
            have e13 := congrArg some (lx3 _ (Option.some.inj e12).symm)
            obtain ⟨rfl, rfl⟩ := pj2 (Option.some.inj e13)
            exact mσ4
          · have hf11 := ite_f hc11 ht10
            exact hJ10 (Option.some.inj hf11).symm
        · have hf10 := ite_f hc10 hq12
          exact hJ10 (Option.some.inj hf10).symm
      by_cases hc14 : x3 = (1 : Int32)
      · have ht14 := ite_t hc14 hx12
        by_cases hc15 : x2 = 0
        · have ht15 := ite_t hc15 ht14
          have e16 := bj_l ht15 hy12
          have e17 := bj_l e16 hy10
          have e18 := congrArg some (lx3 _ (Option.some.inj e17).symm)
          obtain ⟨rfl, rfl⟩ := pj2 (Option.some.inj e18)
          exact mσ4
        · have hf15 := ite_f hc15 ht14
          exact hJ12 (Option.some.inj hf15).symm
      · have hf14 := ite_f hc14 hx12
        exact hJ12 (Option.some.inj hf14).symm

set_option maxRecDepth 20000 in
set_option maxHeartbeats 1000000 in
theorem mX9_fits {σ : St} {a1 : Int32} {a2 : Int32} {v0 : Int32} {σ' : St} (h : fX9_fits σ a1 a2 = some (v0, σ')) : modi [31, 32, 33, 34, 35, 1906, 1907, 1908, 1910, 1911, 1912, 1913, 1914, 1920, 1921, 1922, 1923] σ σ' := by
  have mσ : modi [31, 32, 33, 34, 35, 1906, 1907, 1908, 1910, 1911, 1912, 1913, 1914, 1920, 1921, 1922, 1923] σ σ := modi.rf
  unfold fX9_fits at h
  by_cases hc1 : (fX9_isCode a1) = true
  · have ht1 := ite_t hc1 h
    by_cases hc2 : (fX9_isMatch σ a2) = true
    · have ht2 := ite_t hc2 ht1
      obtain ⟨hb3, eh3⟩ := grd_some ht2
      by_cases hc4 : (σ (39, 0) (tn a2)) = 0
      · have ht4 := ite_t hc4 eh3
        obtain ⟨rfl, rfl⟩ := pj2 (Option.some.inj ht4)
        exact mσ
      · have hf4 := ite_f hc4 eh3
        obtain ⟨⟨x1, σ1⟩, hv5, eh5⟩ := obi_some hf4
        have mσ1 : modi [31, 32, 33, 34, 35, 1906, 1907, 1908, 1910, 1911, 1912, 1913, 1914, 1920, 1921, 1922, 1923] σ σ1 := mσ.tr (mX9_doesFit hv5) (by decide)
        by_cases hc6 : x1 = true
        · have ht6 := ite_t hc6 eh5
          obtain ⟨rfl, rfl⟩ := pj2 (Option.some.inj ht6)
          exact mσ1
        · have hf6 := ite_f hc6 eh5
          obtain ⟨rfl, rfl⟩ := pj2 (Option.some.inj hf6)
          exact mσ1
    · have hf2 := ite_f hc2 ht1
      obtain ⟨rfl, rfl⟩ := pj2 (Option.some.inj hf2)
      exact mσ
  · have hf1 := ite_f hc1 h
    obtain ⟨rfl, rfl⟩ := pj2 (Option.some.inj hf1)
    exact mσ

set_option maxRecDepth 20000 in
set_option maxHeartbeats 1000000 in
theorem mX9_fittingNow {σ : St}  {v0 : Int32} {σ' : St} (h : fX9_fittingNow σ  = some (v0, σ')) : modi [31, 32, 33, 34, 35, 1906, 1907, 1908, 1910, 1911, 1912, 1913, 1914, 1920, 1921, 1922, 1923] σ σ' := by
  have mσ : modi [31, 32, 33, 34, 35, 1906, 1907, 1908, 1910, 1911, 1912, 1913, 1914, 1920, 1921, 1922, 1923] σ σ := modi.rf
  unfold fX9_fittingNow at h
  refine lpF_md (I := fun (q : Int32 × Int32 × St) => match q with | (x1, x2, σ1) => modi [31, 32, 33, 34, 35, 1906, 1907, 1908, 1910, 1911, 1912, 1913, 1914, 1920, 1921, 1922, 1923] σ σ1) ?_ h mσ
  rintro ⟨x1, x2, σ1⟩ w1 hx1 mσ1 lc1 lx1
  replace mσ1 : modi [31, 32, 33, 34, 35, 1906, 1907, 1908, 1910, 1911, 1912, 1913, 1914, 1920, 1921, 1922, 1923] σ σ1 := mσ1
  by_cases hc1 : (11 : Int32) ≤ x2
  · have ht1 := ite_t hc1 hx1
    have e2 := congrArg some (lx1 _ (Option.some.inj ht1).symm)
    obtain ⟨rfl, rfl⟩ := pj2 (Option.some.inj e2)
    exact mσ1
  · have hf1 := ite_f hc1 hx1
    obtain ⟨⟨x3, σ2⟩, hx4, hq4⟩ := obi_some hf1
    have mσ2 : modi [31, 32, 33, 34, 35, 1906, 1907, 1908, 1910, 1911, 1912, 1913, 1914, 1920, 1921, 1922, 1923] σ σ2 := by
      refine lpF_md (I := fun (q : Int32 × Int32 × St) => match q with | (x4, x5, σ3) => modi [31, 32, 33, 34, 35, 1906, 1907, 1908, 1910, 1911, 1912, 1913, 1914, 1920, 1921, 1922, 1923] σ σ3) ?_ hx4 mσ1
      rintro ⟨x4, x5, σ3⟩ w5 hx5 mσ3 lc5 lx5
      replace mσ3 : modi [31, 32, 33, 34, 35, 1906, 1907, 1908, 1910, 1911, 1912, 1913, 1914, 1920, 1921, 1922, 1923] σ σ3 := mσ3
      by_cases hc3 : (σ3 (9, 0) 15) ≤ x5
      · have ht3 := ite_t hc3 hx5
        have e4 := congrArg some (lx5 _ (Option.some.inj ht3).symm)
        obtain ⟨rfl, rfl⟩ := pj2 (Option.some.inj e4)
        exact mσ3
      · have hf3 := ite_f hc3 hx5
        obtain ⟨⟨x6, σ4⟩, hx8, hq8⟩ := obi_some hf3
        have mσ4 : modi [31, 32, 33, 34, 35, 1906, 1907, 1908, 1910, 1911, 1912, 1913, 1914, 1920, 1921, 1922, 1923] σ σ4 := by
          by_cases hc5 : x4 = 0
          · have ht5 := ite_t hc5 hx8
            obtain ⟨rfl, rfl⟩ := pj2 (Option.some.inj ht5)
            exact mσ3
          · have hf5 := ite_f hc5 hx8
            obtain ⟨hb6, eh6⟩ := grd_some hf5
            by_cases hc7 : (σ3 (39, 0) (tn x5)) = 0
            · have ht7 := ite_t hc7 eh6
              obtain ⟨rfl, rfl⟩ := pj2 (Option.some.inj ht7)
              exact mσ3
            · have hf7 := ite_f hc7 eh6
              obtain ⟨⟨x7, σ5⟩, hv8, eh8⟩ := obi_some hf7
              have mσ5 : modi [31, 32, 33, 34, 35, 1906, 1907, 1908, 1910, 1911, 1912, 1913, 1914, 1920, 1921, 1922, 1923] σ σ5 := mσ3.tr (mX9_doesFit hv8) (by decide)
              by_cases hc9 : x7 = true
              · have ht9 := ite_t hc9 eh8
                obtain ⟨rfl, rfl⟩ := pj2 (Option.some.inj ht9)
                exact mσ5
              · have hf9 := ite_f hc9 eh8
                obtain ⟨rfl, rfl⟩ := pj2 (Option.some.inj hf9)
                exact mσ5
        obtain ⟨x8, hv10, eh10⟩ := bnd_ex hq8
        exact lc5 _ (Option.some.inj eh10).symm mσ4
    obtain ⟨x9, hx15, hq15⟩ := bnd_ex hq4
    obtain ⟨x10, hv11, eh11⟩ := bnd_ex hq15
    obtain ⟨x11, hv12, eh12⟩ := bnd_ex eh11
    exact lc1 _ (Option.some.inj eh12).symm mσ2

set_option maxRecDepth 20000 in
set_option maxHeartbeats 1000000 in
theorem mX9_fitting {σ : St}  {v0 : Int32} {σ' : St} (h : fX9_fitting σ  = some (v0, σ')) : modi [31, 32, 33, 34, 35, 1906, 1907, 1908, 1910, 1911, 1912, 1913, 1914, 1920, 1921, 1922, 1923] σ σ' := by
  have mσ : modi [31, 32, 33, 34, 35, 1906, 1907, 1908, 1910, 1911, 1912, 1913, 1914, 1920, 1921, 1922, 1923] σ σ := modi.rf
  unfold fX9_fitting at h
  obtain ⟨⟨x1, σ1⟩, hv1, eh1⟩ := obi_some h
  have mσ1 : modi [31, 32, 33, 34, 35, 1906, 1907, 1908, 1910, 1911, 1912, 1913, 1914, 1920, 1921, 1922, 1923] σ σ1 := mσ.tr (mX9_fittingNow hv1) (by decide)
  obtain ⟨rfl, rfl⟩ := pj2 (Option.some.inj eh1)
  exact mσ1

set_option maxRecDepth 20000 in
set_option maxHeartbeats 1000000 in
theorem mX9_lays {σ : St} {a1 : Int32} {σ' : St} (h : fX9_lays σ a1 = σ') : modi [1910, 1911, 1912, 1913, 1914] σ σ' := by
  have mσ : modi [1910, 1911, 1912, 1913, 1914] σ σ := modi.rf
  unfold fX9_lays at h
  obtain ⟨σ1, hv1, eh1⟩ := bnd_ex h
  have mσ1 : modi [1910, 1911, 1912, 1913, 1914] σ σ1 := mσ.tr (mX9_ball hv1) (by decide)
  obtain ⟨σ2, hv2, eh2⟩ := bnd_ex eh1
  have mσ2 : modi [1910, 1911, 1912, 1913, 1914] σ σ2 := hv2 ▸ modi.su mσ1 (show (1913 : Nat) ∈ ([1910, 1911, 1912, 1913, 1914] : List Nat) by decide)
  obtain ⟨σ3, hv3, eh3⟩ := bnd_ex eh2
  have mσ3 : modi [1910, 1911, 1912, 1913, 1914] σ σ3 := hv3 ▸ modi.su mσ2 (show (1914 : Nat) ∈ ([1910, 1911, 1912, 1913, 1914] : List Nat) by decide)
  obtain rfl := eh3
  exact mσ3

set_option maxRecDepth 20000 in
set_option maxHeartbeats 1000000 in
theorem mX9_takes {σ : St} {a1 : Bool} {σ' : St} (h : fX9_takes σ a1 = some σ') : modi [35] σ σ' := by
  have mσ : modi [35] σ σ := modi.rf
  unfold fX9_takes at h
  refine lpF_md (I := fun (q : Int32 × St) => match q with | (x1, σ1) => modi [35] σ σ1) ?_ h mσ
  rintro ⟨x1, σ1⟩ w1 hx1 mσ1 lc1 lx1
  replace mσ1 : modi [35] σ σ1 := mσ1
  by_cases hc1 : (17 : Int32) ≤ x1
  · have ht1 := ite_t hc1 hx1
    have e2 := congrArg some (lx1 _ (Option.some.inj ht1).symm)
    obtain rfl := (Option.some.inj e2)
    exact mσ1
  · have hf1 := ite_f hc1 hx1
    obtain ⟨x2, hx4, hq4⟩ := obi_some hf1
    obtain ⟨hb3, eh3⟩ := grd_some hq4
    obtain ⟨σ2, hv4, eh4⟩ := bnd_ex eh3
    have mσ2 : modi [35] σ σ2 := hv4 ▸ modi.sr mσ1 (show ¬ (35 : Nat) < 10 by decide) (show (35 : Nat) ∈ ([35] : List Nat) by decide)
    obtain ⟨x3, hv5, eh5⟩ := bnd_ex eh4
    exact lc1 _ (Option.some.inj eh5).symm mσ2

set_option maxRecDepth 20000 in
set_option maxHeartbeats 1000000 in
theorem mX9_end {σ : St} {a1 : Int32} {a2 : Int32} {a3 : Bool} {v0 : Int32} {σ' : St} (h : fX9_end σ a1 a2 a3 = some (v0, σ')) : modi [35, 1910, 1911, 1912, 1913, 1914] σ σ' := by
  have mσ : modi [35, 1910, 1911, 1912, 1913, 1914] σ σ := modi.rf
  unfold fX9_end at h
  obtain ⟨σ1, hv1, eh1⟩ := obi_some h
  have mσ1 : modi [35, 1910, 1911, 1912, 1913, 1914] σ σ1 := mσ.tr (mX9_takes hv1) (by decide)
  obtain ⟨σ2, hv2, eh2⟩ := bnd_ex eh1
  have mσ2 : modi [35, 1910, 1911, 1912, 1913, 1914] σ σ2 := mσ1.tr (mX9_lays hv2) (by decide)
  obtain ⟨⟨x1, σ3⟩, hv3, eh3⟩ := obi_some eh2
  have mσ3 : modi [35, 1910, 1911, 1912, 1913, 1914] σ σ3 := mσ2.tr (mX9_goesOn hv3) (by decide)
  by_cases hc4 : x1 = 0
  · have ht4 := ite_t hc4 eh3
    obtain ⟨rfl, rfl⟩ := pj2 (Option.some.inj ht4)
    exact mσ3
  · have hf4 := ite_f hc4 eh3
    obtain ⟨rfl, rfl⟩ := pj2 (Option.some.inj hf4)
    exact mσ3

set_option maxRecDepth 20000 in
set_option maxHeartbeats 1000000 in
theorem mX9_doPart {σ : St} {a1 : Int32} {a2 : Int32} {v0 : Bool} {σ' : St} (h : fX9_doPart σ a1 a2 = some (v0, σ')) : modi [35, 1910, 1911, 1912, 1913, 1914] σ σ' := by
  have mσ : modi [35, 1910, 1911, 1912, 1913, 1914] σ σ := modi.rf
  unfold fX9_doPart at h
  obtain ⟨⟨x1, σ1⟩, hv1, eh1⟩ := obi_some h
  have mσ1 : modi [35, 1910, 1911, 1912, 1913, 1914] σ σ1 := mσ.tr (mX9_end hv1) (by decide)
  obtain ⟨⟨x2, σ2⟩, hv2, eh2⟩ := obi_some eh1
  have mσ2 : modi [35, 1910, 1911, 1912, 1913, 1914] σ σ2 := mσ1.tr (mX9_end hv2) (by decide)
  by_cases hc3 : x1 = x2
  · have ht3 := ite_t hc3 eh2
    obtain ⟨rfl, rfl⟩ := pj2 (Option.some.inj ht3)
    exact mσ2
  · have hf3 := ite_f hc3 eh2
    obtain ⟨rfl, rfl⟩ := pj2 (Option.some.inj hf3)
    exact mσ2

set_option maxRecDepth 20000 in
set_option maxHeartbeats 1000000 in
theorem mX9_goesNear {σ : St} {a1 : Int32} {a2 : Int32} {a3 : Int32} {v0 : Bool} {σ' : St} (h : fX9_goesNear σ a1 a2 a3 = some (v0, σ')) : modi [35, 1910, 1911, 1912, 1913, 1914] σ σ' := by
  have mσ : modi [35, 1910, 1911, 1912, 1913, 1914] σ σ := modi.rf
  unfold fX9_goesNear at h
  obtain ⟨⟨x1, σ1⟩, hv1, eh1⟩ := obi_some h
  have mσ1 : modi [35, 1910, 1911, 1912, 1913, 1914] σ σ1 := mσ.tr (mX9_end hv1) (by decide)
  by_cases hc2 : x1 = (-1 : Int32)
  · have ht2 := ite_t hc2 eh1
    obtain ⟨rfl, rfl⟩ := pj2 (Option.some.inj ht2)
    exact mσ1
  · have hf2 := ite_f hc2 eh1
    obtain ⟨⟨x2, σ2⟩, hv3, eh3⟩ := obi_some hf2
    have mσ2 : modi [35, 1910, 1911, 1912, 1913, 1914] σ σ2 := mσ1.tr (mX9_end hv3) (by decide)
    by_cases hc4 : x1 = x2
    · have ht4 := ite_t hc4 eh3
      obtain ⟨hb5, eh5⟩ := grd_some ht4
      by_cases hc6 : (σ2 (40, 0) (tn (irm x1 (100 : Int32)))) = a3
      · have ht6 := ite_t hc6 eh5
        obtain ⟨rfl, rfl⟩ := pj2 (Option.some.inj ht6)
        exact mσ2
      · have hf6 := ite_f hc6 eh5
        obtain ⟨rfl, rfl⟩ := pj2 (Option.some.inj hf6)
        exact mσ2
    · have hf4 := ite_f hc4 eh3
      obtain ⟨rfl, rfl⟩ := pj2 (Option.some.inj hf4)
      exact mσ2

set_option maxRecDepth 20000 in
set_option maxHeartbeats 1000000 in
theorem mX9_distances {σ : St} {a1 : Int32} {a2 : Int32} {σ' : St} (h : fX9_distances σ a1 a2 = some σ') : modi [31, 32, 33, 34, 35, 40, 41, 42, 1906, 1907, 1908, 1910, 1911, 1912, 1913, 1914] σ σ' := by
  have mσ : modi [31, 32, 33, 34, 35, 40, 41, 42, 1906, 1907, 1908, 1910, 1911, 1912, 1913, 1914] σ σ := modi.rf
  unfold fX9_distances at h
  obtain ⟨σ1, hv1, eh1⟩ := obi_some h
  have mσ1 : modi [31, 32, 33, 34, 35, 40, 41, 42, 1906, 1907, 1908, 1910, 1911, 1912, 1913, 1914] σ σ1 := mσ.tr (mX9_mix hv1) (by decide)
  obtain ⟨σ2, hx2, hq2⟩ := obi_some eh1
  have mσ2 : modi [31, 32, 33, 34, 35, 40, 41, 42, 1906, 1907, 1908, 1910, 1911, 1912, 1913, 1914] σ σ2 := by
    refine lpF_md (I := fun (q : Int32 × St) => match q with | (x1, σ3) => modi [31, 32, 33, 34, 35, 40, 41, 42, 1906, 1907, 1908, 1910, 1911, 1912, 1913, 1914] σ σ3) ?_ hx2 mσ1
    rintro ⟨x1, σ3⟩ w3 hx3 mσ3 lc3 lx3
    replace mσ3 : modi [31, 32, 33, 34, 35, 40, 41, 42, 1906, 1907, 1908, 1910, 1911, 1912, 1913, 1914] σ σ3 := mσ3
    by_cases hc2 : (17 : Int32) ≤ x1
    · have ht2 := ite_t hc2 hx3
      have e3 := congrArg some (lx3 _ (Option.some.inj ht2).symm)
      obtain rfl := (Option.some.inj e3)
      exact mσ3
    · have hf2 := ite_f hc2 hx3
      obtain ⟨hb4, eh4⟩ := grd_some hf2
      obtain ⟨hb5, eh5⟩ := grd_some eh4
      obtain ⟨σ4, hv6, eh6⟩ := bnd_ex eh5
      have mσ4 : modi [31, 32, 33, 34, 35, 40, 41, 42, 1906, 1907, 1908, 1910, 1911, 1912, 1913, 1914] σ σ4 := hv6 ▸ modi.sr mσ3 (show ¬ (41 : Nat) < 10 by decide) (show (41 : Nat) ∈ ([31, 32, 33, 34, 35, 40, 41, 42, 1906, 1907, 1908, 1910, 1911, 1912, 1913, 1914] : List Nat) by decide)
      obtain ⟨⟨x2, σ5⟩, hv7, eh7⟩ := obi_some eh6
      have mσ5 : modi [31, 32, 33, 34, 35, 40, 41, 42, 1906, 1907, 1908, 1910, 1911, 1912, 1913, 1914] σ σ5 := mσ4.tr (mX9_itemOf hv7) (by decide)
      obtain ⟨hb8, eh8⟩ := grd_some eh7
      obtain ⟨σ6, hv9, eh9⟩ := bnd_ex eh8
      have mσ6 : modi [31, 32, 33, 34, 35, 40, 41, 42, 1906, 1907, 1908, 1910, 1911, 1912, 1913, 1914] σ σ6 := hv9 ▸ modi.sr mσ5 (show ¬ (42 : Nat) < 10 by decide) (show (42 : Nat) ∈ ([31, 32, 33, 34, 35, 40, 41, 42, 1906, 1907, 1908, 1910, 1911, 1912, 1913, 1914] : List Nat) by decide)
      obtain ⟨x3, hv10, eh10⟩ := bnd_ex eh9
      exact lc3 _ (Option.some.inj eh10).symm mσ6
  obtain ⟨σ7, hx13, hq13⟩ := obi_some hq2
  have mσ7 : modi [31, 32, 33, 34, 35, 40, 41, 42, 1906, 1907, 1908, 1910, 1911, 1912, 1913, 1914] σ σ7 := by
    refine lpF_md (I := fun (q : Int32 × St) => match q with | (x4, σ8) => modi [31, 32, 33, 34, 35, 40, 41, 42, 1906, 1907, 1908, 1910, 1911, 1912, 1913, 1914] σ σ8) ?_ hx13 mσ2
    rintro ⟨x4, σ8⟩ w14 hx14 mσ8 lc14 lx14
    replace mσ8 : modi [31, 32, 33, 34, 35, 40, 41, 42, 1906, 1907, 1908, 1910, 1911, 1912, 1913, 1914] σ σ8 := mσ8
    by_cases hc11 : (63 : Int32) ≤ x4
    · have ht11 := ite_t hc11 hx14
      have e12 := congrArg some (lx14 _ (Option.some.inj ht11).symm)
      obtain rfl := (Option.some.inj e12)
      exact mσ8
    · have hf11 := ite_f hc11 hx14
      obtain ⟨hb13, eh13⟩ := grd_some hf11
      obtain ⟨σ9, hv14, eh14⟩ := bnd_ex eh13
      have mσ9 : modi [31, 32, 33, 34, 35, 40, 41, 42, 1906, 1907, 1908, 1910, 1911, 1912, 1913, 1914] σ σ9 := hv14 ▸ modi.sr mσ8 (show ¬ (40 : Nat) < 10 by decide) (show (40 : Nat) ∈ ([31, 32, 33, 34, 35, 40, 41, 42, 1906, 1907, 1908, 1910, 1911, 1912, 1913, 1914] : List Nat) by decide)
      obtain ⟨x5, hv15, eh15⟩ := bnd_ex eh14
      exact lc14 _ (Option.some.inj eh15).symm mσ9
  refine lpF_md (I := fun (q : Int32 × St) => match q with | (x6, σ10) => modi [31, 32, 33, 34, 35, 40, 41, 42, 1906, 1907, 1908, 1910, 1911, 1912, 1913, 1914] σ σ10) ?_ hq13 mσ7
  rintro ⟨x6, σ10⟩ w20 hx20 mσ10 lc20 lx20
  replace mσ10 : modi [31, 32, 33, 34, 35, 40, 41, 42, 1906, 1907, 1908, 1910, 1911, 1912, 1913, 1914] σ σ10 := mσ10
  by_cases hc16 : (7 : Int32) ≤ x6
  · have ht16 := ite_t hc16 hx20
    have e17 := congrArg some (lx20 _ (Option.some.inj ht16).symm)
    obtain rfl := (Option.some.inj e17)
    exact mσ10
  · have hf16 := ite_f hc16 hx20
    obtain ⟨σ11, hx23, hq23⟩ := obi_some hf16
    have mσ11 : modi [31, 32, 33, 34, 35, 40, 41, 42, 1906, 1907, 1908, 1910, 1911, 1912, 1913, 1914] σ σ11 := by
      refine lpF_md (I := fun (q : Int32 × St) => match q with | (x7, σ12) => modi [31, 32, 33, 34, 35, 40, 41, 42, 1906, 1907, 1908, 1910, 1911, 1912, 1913, 1914] σ σ12) ?_ hx23 mσ10
      rintro ⟨x7, σ12⟩ w24 hx24 mσ12 lc24 lx24
      replace mσ12 : modi [31, 32, 33, 34, 35, 40, 41, 42, 1906, 1907, 1908, 1910, 1911, 1912, 1913, 1914] σ σ12 := mσ12
      by_cases hc18 : (63 : Int32) ≤ x7
      · have ht18 := ite_t hc18 hx24
        have e19 := congrArg some (lx24 _ (Option.some.inj ht18).symm)
        obtain rfl := (Option.some.inj e19)
        exact mσ12
      · have hf18 := ite_f hc18 hx24
        obtain ⟨σ13, hx27, hq27⟩ := obi_some hf18
        have mσ13 : modi [31, 32, 33, 34, 35, 40, 41, 42, 1906, 1907, 1908, 1910, 1911, 1912, 1913, 1914] σ σ13 := by
          refine lpF_md (I := fun (q : Int32 × St) => match q with | (x8, σ14) => modi [31, 32, 33, 34, 35, 40, 41, 42, 1906, 1907, 1908, 1910, 1911, 1912, 1913, 1914] σ σ14) ?_ hx27 mσ12
          rintro ⟨x8, σ14⟩ w28 hx28 mσ14 lc28 lx28
          replace mσ14 : modi [31, 32, 33, 34, 35, 40, 41, 42, 1906, 1907, 1908, 1910, 1911, 1912, 1913, 1914] σ σ14 := mσ14
          by_cases hc20 : (40 : Int32) ≤ x8
          · have ht20 := ite_t hc20 hx28
            have e21 := congrArg some (lx28 _ (Option.some.inj ht20).symm)
            obtain rfl := (Option.some.inj e21)
            exact mσ14
          · have hf20 := ite_f hc20 hx28
            obtain ⟨hb22, eh22⟩ := grd_some hf20
            by_cases hc23 : (σ14 (40, 0) (tn x7)) = (99 : Int32)
            · have ht23 := ite_t hc23 eh22
              obtain ⟨⟨x9, σ15⟩, hx34, hq34⟩ := obi_some ht23
              have mσ15 : modi [31, 32, 33, 34, 35, 40, 41, 42, 1906, 1907, 1908, 1910, 1911, 1912, 1913, 1914] σ σ15 := by
                by_cases hc24 : x6 = (1 : Int32)
                · have ht24 := ite_t hc24 hx34
                  obtain ⟨⟨x11, σ17⟩, hv25, eh25⟩ := obi_some ht24
                  have mσ17 : modi [31, 32, 33, 34, 35, 40, 41, 42, 1906, 1907, 1908, 1910, 1911, 1912, 1913, 1914] σ σ17 := mσ14.tr (mX9_doPart hv25) (by decide)
                  by_cases hc26 : x11 = true
                  · have ht26 := ite_t hc26 eh25
                    obtain ⟨rfl, rfl⟩ := pj2 (Option.some.inj ht26)
                    exact mσ17
                  · have hf26 := ite_f hc26 eh25
                    obtain ⟨rfl, rfl⟩ := pj2 (Option.some.inj hf26)
                    exact mσ17
                · have hf24 := ite_f hc24 hx34
                  obtain ⟨⟨x10, σ16⟩, hv27, eh27⟩ := obi_some hf24
                  have mσ16 : modi [31, 32, 33, 34, 35, 40, 41, 42, 1906, 1907, 1908, 1910, 1911, 1912, 1913, 1914] σ σ16 := mσ14.tr (mX9_goesNear hv27) (by decide)
                  by_cases hc28 : x10 = true
                  · have ht28 := ite_t hc28 eh27
                    obtain ⟨rfl, rfl⟩ := pj2 (Option.some.inj ht28)
                    exact mσ16
                  · have hf28 := ite_f hc28 eh27
                    obtain ⟨rfl, rfl⟩ := pj2 (Option.some.inj hf28)
                    exact mσ16
              obtain ⟨hb29, eh29⟩ := grd_some hq34
              obtain ⟨σ18, hv30, eh30⟩ := bnd_ex eh29
              have mσ18 : modi [31, 32, 33, 34, 35, 40, 41, 42, 1906, 1907, 1908, 1910, 1911, 1912, 1913, 1914] σ σ18 := hv30 ▸ modi.sr mσ15 (show ¬ (40 : Nat) < 10 by decide) (show (40 : Nat) ∈ ([31, 32, 33, 34, 35, 40, 41, 42, 1906, 1907, 1908, 1910, 1911, 1912, 1913, 1914] : List Nat) by decide)
              obtain ⟨x12, hv31, eh31⟩ := bnd_ex eh30
              exact lc28 _ (Option.some.inj eh31).symm mσ18
            · have hf23 := ite_f hc23 eh22
              have e32 := congrArg some (lx28 _ (Option.some.inj hf23).symm)
              obtain rfl := (Option.some.inj e32)
              exact mσ14
        obtain ⟨x13, hv33, eh33⟩ := bnd_ex hq27
        exact lc24 _ (Option.some.inj eh33).symm mσ13
    obtain ⟨x14, hv34, eh34⟩ := bnd_ex hq23
    exact lc20 _ (Option.some.inj eh34).symm mσ11

set_option maxRecDepth 20000 in
set_option maxHeartbeats 1000000 in
theorem mX9_partsOf {σ : St} {a1 : Int32} {a2 : Int32} {v0 : Int32} {σ' : St} (h : fX9_partsOf σ a1 a2 = some (v0, σ')) : modi [31, 32, 33, 34, 35, 40, 41, 42, 43, 1906, 1907, 1908, 1910, 1911, 1912, 1913, 1914] σ σ' := by
  have mσ : modi [31, 32, 33, 34, 35, 40, 41, 42, 43, 1906, 1907, 1908, 1910, 1911, 1912, 1913, 1914] σ σ := modi.rf
  unfold fX9_partsOf at h
  obtain ⟨σ1, hv1, eh1⟩ := obi_some h
  have mσ1 : modi [31, 32, 33, 34, 35, 40, 41, 42, 43, 1906, 1907, 1908, 1910, 1911, 1912, 1913, 1914] σ σ1 := mσ.tr (mX9_distances hv1) (by decide)
  obtain ⟨σ2, hv2, eh2⟩ := bnd_ex eh1
  have mσ2 : modi [31, 32, 33, 34, 35, 40, 41, 42, 43, 1906, 1907, 1908, 1910, 1911, 1912, 1913, 1914] σ σ2 := mσ1.tr (mX9_begins hv2) (by decide)
  obtain ⟨x1, hv3, eh3⟩ := bnd_ex eh2
  obtain ⟨hb4, eh4⟩ := grd_some eh3
  obtain ⟨x2, hv5, eh5⟩ := bnd_ex eh4
  by_cases hc6 : x2 = (99 : Int32)
  · have ht6 := ite_t hc6 eh5
    obtain ⟨rfl, rfl⟩ := pj2 (Option.some.inj ht6)
    exact mσ2
  · have hf6 := ite_f hc6 eh5
    refine lpF_md (I := fun (q : Int32 × Int32 × St) => match q with | (x3, x4, σ3) => modi [31, 32, 33, 34, 35, 40, 41, 42, 43, 1906, 1907, 1908, 1910, 1911, 1912, 1913, 1914] σ σ3) ?_ hf6 mσ2
    rintro ⟨x3, x4, σ3⟩ w7 hx7 mσ3 lc7 lx7
    replace mσ3 : modi [31, 32, 33, 34, 35, 40, 41, 42, 43, 1906, 1907, 1908, 1910, 1911, 1912, 1913, 1914] σ σ3 := mσ3
    by_cases hc7 : x2 ≤ x4
    · have ht7 := ite_t hc7 hx7
      have e8 := congrArg some (lx7 _ (Option.some.inj ht7).symm)
      obtain ⟨rfl, rfl⟩ := pj2 (Option.some.inj e8)
      exact mσ3
    · have hf7 := ite_f hc7 hx7
      obtain ⟨x5, hv9, eh9⟩ := bnd_ex hf7
      obtain ⟨⟨x6, σ4⟩, hx11, hq11⟩ := obi_some eh9
      have mσ4 : modi [31, 32, 33, 34, 35, 40, 41, 42, 43, 1906, 1907, 1908, 1910, 1911, 1912, 1913, 1914] σ σ4 := by
        refine lpF_md (I := fun (q : Int32 × St) => match q with | (x7, σ5) => modi [31, 32, 33, 34, 35, 40, 41, 42, 43, 1906, 1907, 1908, 1910, 1911, 1912, 1913, 1914] σ σ5) ?_ hx11 mσ3
        rintro ⟨x7, σ5⟩ w12 hx12 mσ5 lc12 lx12
        replace mσ5 : modi [31, 32, 33, 34, 35, 40, 41, 42, 43, 1906, 1907, 1908, 1910, 1911, 1912, 1913, 1914] σ σ5 := mσ5
        obtain ⟨y13, hx13, hy13⟩ := bj_some hx12
        have hJ13 : ∀ (σ6 : St), y13 = .inr σ6 → modi [31, 32, 33, 34, 35, 40, 41, 42, 43, 1906, 1907, 1908, 1910, 1911, 1912, 1913, 1914] σ σ6 → modi [31, 32, 33, 34, 35, 40, 41, 42, 43, 1906, 1907, 1908, 1910, 1911, 1912, 1913, 1914] σ σ4 := by
          intro σ6 ey13 mσ6
          have hq13 := bj_r ey13 hy13
          obtain ⟨x10, hv10, eh10⟩ := bnd_ex hq13
          exact lc12 _ (Option.some.inj eh10).symm mσ6
        by_cases hc11 : x5 = (1 : Int32)
        · have ht11 := ite_t hc11 hx13
          obtain ⟨⟨x9, σ8⟩, hv12, eh12⟩ := obi_some ht11
          have mσ8 : modi [31, 32, 33, 34, 35, 40, 41, 42, 43, 1906, 1907, 1908, 1910, 1911, 1912, 1913, 1914] σ σ8 := mσ5.tr (mX9_doPart hv12) (by decide)
          by_cases hc13 : x9 = true
          · have ht13 := ite_t hc13 eh12
            have e14 := bj_l ht13 hy13
            have e15 := congrArg some (lx12 _ (Option.some.inj e14).symm)
            obtain ⟨rfl, rfl⟩ := pj2 (Option.some.inj e15)
            exact mσ8
          · have hf13 := ite_f hc13 eh12
            exact hJ13 _ (Option.some.inj hf13).symm mσ8
        · have hf11 := ite_f hc11 hx13
          obtain ⟨⟨x8, σ7⟩, hv16, eh16⟩ := obi_some hf11
          have mσ7 : modi [31, 32, 33, 34, 35, 40, 41, 42, 43, 1906, 1907, 1908, 1910, 1911, 1912, 1913, 1914] σ σ7 := mσ5.tr (mX9_goesNear hv16) (by decide)
          by_cases hc17 : x8 = true
          · have ht17 := ite_t hc17 eh16
            have e18 := bj_l ht17 hy13
            have e19 := congrArg some (lx12 _ (Option.some.inj e18).symm)
            obtain ⟨rfl, rfl⟩ := pj2 (Option.some.inj e19)
            exact mσ7
          · have hf17 := ite_f hc17 eh16
            exact hJ13 _ (Option.some.inj hf17).symm mσ7
      obtain ⟨hb20, eh20⟩ := grd_some hq11
      obtain ⟨σ9, hv21, eh21⟩ := bnd_ex eh20
      have mσ9 : modi [31, 32, 33, 34, 35, 40, 41, 42, 43, 1906, 1907, 1908, 1910, 1911, 1912, 1913, 1914] σ σ9 := hv21 ▸ modi.sr mσ4 (show ¬ (43 : Nat) < 10 by decide) (show (43 : Nat) ∈ ([31, 32, 33, 34, 35, 40, 41, 42, 43, 1906, 1907, 1908, 1910, 1911, 1912, 1913, 1914] : List Nat) by decide)
      obtain ⟨⟨x11, σ10⟩, hx26, hq26⟩ := obi_some eh21
      have mσ10 : modi [31, 32, 33, 34, 35, 40, 41, 42, 43, 1906, 1907, 1908, 1910, 1911, 1912, 1913, 1914] σ σ10 := by
        by_cases hc22 : x5 = (1 : Int32)
        · have ht22 := ite_t hc22 hx26
          obtain ⟨rfl, rfl⟩ := pj2 (Option.some.inj ht22)
          exact mσ9
        · have hf22 := ite_f hc22 hx26
          obtain ⟨⟨x12, σ11⟩, hv23, eh23⟩ := obi_some hf22
          have mσ11 : modi [31, 32, 33, 34, 35, 40, 41, 42, 43, 1906, 1907, 1908, 1910, 1911, 1912, 1913, 1914] σ σ11 := mσ9.tr (mX9_end hv23) (by decide)
          obtain ⟨rfl, rfl⟩ := pj2 (Option.some.inj eh23)
          exact mσ11
      obtain ⟨x13, hv24, eh24⟩ := bnd_ex hq26
      exact lc7 _ (Option.some.inj eh24).symm mσ10

set_option maxRecDepth 20000 in
set_option maxHeartbeats 1000000 in
theorem mX9_parts {σ : St} {a1 : Int32} {a2 : Int32} {v0 : Int32} {σ' : St} (h : fX9_parts σ a1 a2 = some (v0, σ')) : modi [31, 32, 33, 34, 35, 40, 41, 42, 43, 1906, 1907, 1908, 1910, 1911, 1912, 1913, 1914] σ σ' := by
  have mσ : modi [31, 32, 33, 34, 35, 40, 41, 42, 43, 1906, 1907, 1908, 1910, 1911, 1912, 1913, 1914] σ σ := modi.rf
  unfold fX9_parts at h
  by_cases hc1 : (fX9_isCode a1) = true
  · have ht1 := ite_t hc1 h
    by_cases hc2 : (fX9_isCode a2) = true
    · have ht2 := ite_t hc2 ht1
      obtain ⟨⟨x1, σ1⟩, hv3, eh3⟩ := obi_some ht2
      have mσ1 : modi [31, 32, 33, 34, 35, 40, 41, 42, 43, 1906, 1907, 1908, 1910, 1911, 1912, 1913, 1914] σ σ1 := mσ.tr (mX9_partsOf hv3) (by decide)
      obtain ⟨rfl, rfl⟩ := pj2 (Option.some.inj eh3)
      exact mσ1
    · have hf2 := ite_f hc2 ht1
      obtain ⟨rfl, rfl⟩ := pj2 (Option.some.inj hf2)
      exact mσ
  · have hf1 := ite_f hc1 h
    obtain ⟨rfl, rfl⟩ := pj2 (Option.some.inj hf1)
    exact mσ

set_option maxRecDepth 20000 in
set_option maxHeartbeats 1000000 in
theorem mX9_parting {σ : St} {a1 : Int32} {a2 : Int32} {a3 : Int32} {v0 : Int32} {σ' : St} (h : fX9_parting σ a1 a2 a3 = some (v0, σ')) : modi [31, 32, 33, 34, 35, 40, 41, 42, 43, 1906, 1907, 1908, 1910, 1911, 1912, 1913, 1914] σ σ' := by
  have mσ : modi [31, 32, 33, 34, 35, 40, 41, 42, 43, 1906, 1907, 1908, 1910, 1911, 1912, 1913, 1914] σ σ := modi.rf
  unfold fX9_parting at h
  by_cases hc1 : (fX9_isCode a1) = true
  · have ht1 := ite_t hc1 h
    by_cases hc2 : (fX9_isCode a2) = true
    · have ht2 := ite_t hc2 ht1
      by_cases hc3 : 0 ≤ a3
      · have ht3 := ite_t hc3 ht2
        obtain ⟨⟨x1, σ1⟩, hv4, eh4⟩ := obi_some ht3
        have mσ1 : modi [31, 32, 33, 34, 35, 40, 41, 42, 43, 1906, 1907, 1908, 1910, 1911, 1912, 1913, 1914] σ σ1 := mσ.tr (mX9_partsOf hv4) (by decide)
        by_cases hc5 : x1 ≤ a3
        · have ht5 := ite_t hc5 eh4
          obtain ⟨rfl, rfl⟩ := pj2 (Option.some.inj ht5)
          exact mσ1
        · have hf5 := ite_f hc5 eh4
          obtain ⟨hb6, eh6⟩ := grd_some hf5
          obtain ⟨rfl, rfl⟩ := pj2 (Option.some.inj eh6)
          exact mσ1
      · have hf3 := ite_f hc3 ht2
        obtain ⟨rfl, rfl⟩ := pj2 (Option.some.inj hf3)
        exact mσ
    · have hf2 := ite_f hc2 ht1
      obtain ⟨rfl, rfl⟩ := pj2 (Option.some.inj hf2)
      exact mσ
  · have hf1 := ite_f hc1 h
    obtain ⟨rfl, rfl⟩ := pj2 (Option.some.inj hf1)
    exact mσ

set_option maxRecDepth 20000 in
set_option maxHeartbeats 1000000 in
theorem mX9_fewest {σ : St} {a1 : Int32} {a2 : Int32} {v0 : Int32} {σ' : St} (h : fX9_fewest σ a1 a2 = some (v0, σ')) : modi [31, 32, 33, 34, 35, 40, 1906, 1907, 1908, 1910, 1911, 1912, 1913, 1914] σ σ' := by
  have mσ : modi [31, 32, 33, 34, 35, 40, 1906, 1907, 1908, 1910, 1911, 1912, 1913, 1914] σ σ := modi.rf
  unfold fX9_fewest at h
  by_cases hc1 : (fX9_isCode a1) = true
  · have ht1 := ite_t hc1 h
    by_cases hc2 : (fX9_in a2 (0 : Int32) (1 : Int32)) = true
    · have ht2 := ite_t hc2 ht1
      obtain ⟨σ1, hv3, eh3⟩ := obi_some ht2
      have mσ1 : modi [31, 32, 33, 34, 35, 40, 1906, 1907, 1908, 1910, 1911, 1912, 1913, 1914] σ σ1 := mσ.tr (mX9_mix hv3) (by decide)
      obtain ⟨σ2, hx4, hq4⟩ := obi_some eh3
      have mσ2 : modi [31, 32, 33, 34, 35, 40, 1906, 1907, 1908, 1910, 1911, 1912, 1913, 1914] σ σ2 := by
        refine lpF_md (I := fun (q : Int32 × St) => match q with | (x1, σ3) => modi [31, 32, 33, 34, 35, 40, 1906, 1907, 1908, 1910, 1911, 1912, 1913, 1914] σ σ3) ?_ hx4 mσ1
        rintro ⟨x1, σ3⟩ w5 hx5 mσ3 lc5 lx5
        replace mσ3 : modi [31, 32, 33, 34, 35, 40, 1906, 1907, 1908, 1910, 1911, 1912, 1913, 1914] σ σ3 := mσ3
        by_cases hc4 : (63 : Int32) ≤ x1
        · have ht4 := ite_t hc4 hx5
          have e5 := congrArg some (lx5 _ (Option.some.inj ht4).symm)
          obtain rfl := (Option.some.inj e5)
          exact mσ3
        · have hf4 := ite_f hc4 hx5
          obtain ⟨hb6, eh6⟩ := grd_some hf4
          obtain ⟨σ4, hv7, eh7⟩ := bnd_ex eh6
          have mσ4 : modi [31, 32, 33, 34, 35, 40, 1906, 1907, 1908, 1910, 1911, 1912, 1913, 1914] σ σ4 := hv7 ▸ modi.sr mσ3 (show ¬ (40 : Nat) < 10 by decide) (show (40 : Nat) ∈ ([31, 32, 33, 34, 35, 40, 1906, 1907, 1908, 1910, 1911, 1912, 1913, 1914] : List Nat) by decide)
          obtain ⟨x2, hv8, eh8⟩ := bnd_ex eh7
          exact lc5 _ (Option.some.inj eh8).symm mσ4
      obtain ⟨σ5, hv9, eh9⟩ := bnd_ex hq4
      have mσ5 : modi [31, 32, 33, 34, 35, 40, 1906, 1907, 1908, 1910, 1911, 1912, 1913, 1914] σ σ5 := mσ2.tr (mX9_begins hv9) (by decide)
      obtain ⟨hb10, eh10⟩ := grd_some eh9
      obtain ⟨σ6, hv11, eh11⟩ := bnd_ex eh10
      have mσ6 : modi [31, 32, 33, 34, 35, 40, 1906, 1907, 1908, 1910, 1911, 1912, 1913, 1914] σ σ6 := hv11 ▸ modi.sr mσ5 (show ¬ (40 : Nat) < 10 by decide) (show (40 : Nat) ∈ ([31, 32, 33, 34, 35, 40, 1906, 1907, 1908, 1910, 1911, 1912, 1913, 1914] : List Nat) by decide)
      obtain ⟨y14, hx14, hy14⟩ := bj_some eh11
      have hJ14 : ∀ (x3 : Int32) (σ7 : St), y14 = .inr (x3, σ7) → modi [31, 32, 33, 34, 35, 40, 1906, 1907, 1908, 1910, 1911, 1912, 1913, 1914] σ σ7 → modi [31, 32, 33, 34, 35, 40, 1906, 1907, 1908, 1910, 1911, 1912, 1913, 1914] σ σ' := by
        intro x3 σ7 ey14 mσ7
        have hq14 := bj_r ey14 hy14
        obtain ⟨rfl, rfl⟩ := pj2 (Option.some.inj hq14)
        exact mσ7
      refine lpF_md (I := fun (q : Int32 × St) => match q with | (x4, σ8) => modi [31, 32, 33, 34, 35, 40, 1906, 1907, 1908, 1910, 1911, 1912, 1913, 1914] σ σ8) ?_ hx14 mσ6
      rintro ⟨x4, σ8⟩ w15 hx15 mσ8 lc15 lx15
      replace mσ8 : modi [31, 32, 33, 34, 35, 40, 1906, 1907, 1908, 1910, 1911, 1912, 1913, 1914] σ σ8 := mσ8
      by_cases hc12 : (20 : Int32) ≤ x4
      · have ht12 := ite_t hc12 hx15
        have e13 := congrArg some (lx15 _ (Option.some.inj ht12).symm)
        have e14 := bj_l e13 hy14
        obtain ⟨rfl, rfl⟩ := pj2 (Option.some.inj e14)
        exact mσ8
      · have hf12 := ite_f hc12 hx15
        obtain ⟨y19, hx19, hy19⟩ := bj_some hf12
        have hJ19 : ∀ (σ9 : St), y19 = .inr σ9 → modi [31, 32, 33, 34, 35, 40, 1906, 1907, 1908, 1910, 1911, 1912, 1913, 1914] σ σ9 → modi [31, 32, 33, 34, 35, 40, 1906, 1907, 1908, 1910, 1911, 1912, 1913, 1914] σ σ' := by
          intro σ9 ey19 mσ9
          have hq19 := bj_r ey19 hy19
          obtain ⟨x13, hv15, eh15⟩ := bnd_ex hq19
          exact lc15 _ (Option.some.inj eh15).symm mσ9
        refine lpF_md (I := fun (q : Int32 × St) => match q with | (x5, σ10) => modi [31, 32, 33, 34, 35, 40, 1906, 1907, 1908, 1910, 1911, 1912, 1913, 1914] σ σ10) ?_ hx19 mσ8
        rintro ⟨x5, σ10⟩ w20 hx20 mσ10 lc20 lx20
        replace mσ10 : modi [31, 32, 33, 34, 35, 40, 1906, 1907, 1908, 1910, 1911, 1912, 1913, 1914] σ σ10 := mσ10
        by_cases hc16 : (63 : Int32) ≤ x5
        · have ht16 := ite_t hc16 hx20
          have e17 := congrArg some (lx20 _ (Option.some.inj ht16).symm)
          exact hJ19 _ (Option.some.inj e17).symm mσ10
        · have hf16 := ite_f hc16 hx20
          obtain ⟨y23, hx23, hy23⟩ := bj_some hf16
          have hJ23 : ∀ (σ11 : St), y23 = .inr σ11 → modi [31, 32, 33, 34, 35, 40, 1906, 1907, 1908, 1910, 1911, 1912, 1913, 1914] σ σ11 → modi [31, 32, 33, 34, 35, 40, 1906, 1907, 1908, 1910, 1911, 1912, 1913, 1914] σ σ' := by
            intro σ11 ey23 mσ11
            have hq23 := bj_r ey23 hy23
            obtain ⟨x12, hv18, eh18⟩ := bnd_ex hq23
            exact lc20 _ (Option.some.inj eh18).symm mσ11
          refine lpF_md (I := fun (q : Int32 × St) => match q with | (x6, σ12) => modi [31, 32, 33, 34, 35, 40, 1906, 1907, 1908, 1910, 1911, 1912, 1913, 1914] σ σ12) ?_ hx23 mσ10
          rintro ⟨x6, σ12⟩ w24 hx24 mσ12 lc24 lx24
          replace mσ12 : modi [31, 32, 33, 34, 35, 40, 1906, 1907, 1908, 1910, 1911, 1912, 1913, 1914] σ σ12 := mσ12
          by_cases hc19 : (40 : Int32) ≤ x6
          · have ht19 := ite_t hc19 hx24
            have e20 := congrArg some (lx24 _ (Option.some.inj ht19).symm)
            exact hJ23 _ (Option.some.inj e20).symm mσ12
          · have hf19 := ite_f hc19 hx24
            obtain ⟨hb21, eh21⟩ := grd_some hf19
            by_cases hc22 : (σ12 (40, 0) (tn x5)) = x4
            · have ht22 := ite_t hc22 eh21
              obtain ⟨σ13, hv23, eh23⟩ := bnd_ex ht22
              have mσ13 : modi [31, 32, 33, 34, 35, 40, 1906, 1907, 1908, 1910, 1911, 1912, 1913, 1914] σ σ13 := mσ12.tr (mX9_lays hv23) (by decide)
              obtain ⟨⟨x7, σ14⟩, hv24, eh24⟩ := obi_some eh23
              have mσ14 : modi [31, 32, 33, 34, 35, 40, 1906, 1907, 1908, 1910, 1911, 1912, 1913, 1914] σ σ14 := mσ13.tr (mX9_goesOn hv24) (by decide)
              obtain ⟨x8, hx32, hq32⟩ := bnd_ex eh24
              by_cases hc25 : x8 ≤ 0
              · have ht25 := ite_t hc25 hq32
                obtain ⟨x9, hv26, eh26⟩ := bnd_ex ht25
                obtain ⟨hb27, eh27⟩ := grd_some eh26
                obtain ⟨x10, hx37, hq37⟩ := obi_some eh27
                obtain ⟨hb28, eh28⟩ := grd_some hq37
                obtain ⟨σ15, hv29, eh29⟩ := bnd_ex eh28
                have mσ15 : modi [31, 32, 33, 34, 35, 40, 1906, 1907, 1908, 1910, 1911, 1912, 1913, 1914] σ σ15 := hv29 ▸ modi.sr mσ14 (show ¬ (40 : Nat) < 10 by decide) (show (40 : Nat) ∈ ([31, 32, 33, 34, 35, 40, 1906, 1907, 1908, 1910, 1911, 1912, 1913, 1914] : List Nat) by decide)
                obtain ⟨x11, hv30, eh30⟩ := bnd_ex eh29
                exact lc24 _ (Option.some.inj eh30).symm mσ15
              · have hf25 := ite_f hc25 hq32
                have e31 := congrArg some (lx24 _ (Option.some.inj hf25).symm)
                have e32 := bj_l e31 hy23
                have e33 := congrArg some (lx20 _ (Option.some.inj e32).symm)
                have e34 := bj_l e33 hy19
                have e35 := congrArg some (lx15 _ (Option.some.inj e34).symm)
                exact hJ14 _ _ (Option.some.inj e35).symm mσ14
            · have hf22 := ite_f hc22 eh21
              have e36 := congrArg some (lx24 _ (Option.some.inj hf22).symm)
              exact hJ23 _ (Option.some.inj e36).symm mσ12
    · have hf2 := ite_f hc2 ht1
      obtain ⟨rfl, rfl⟩ := pj2 (Option.some.inj hf2)
      exact mσ
  · have hf1 := ite_f hc1 h
    obtain ⟨rfl, rfl⟩ := pj2 (Option.some.inj hf1)
    exact mσ

set_option maxRecDepth 20000 in
set_option maxHeartbeats 1000000 in
theorem mX9_club {σ : St} {a1 : Int32} {a2 : Int32} {v0 : Int32} {σ' : St} (h : fX9_club σ a1 a2 = some (v0, σ')) : modi [44, 45, 1928] σ σ' := by
  have mσ : modi [44, 45, 1928] σ σ := modi.rf
  unfold fX9_club at h
  by_cases hc1 : (fX9_isCode a1) = true
  · have ht1 := ite_t hc1 h
    by_cases hc2 : (fX9_in a2 (0 : Int32) (131071 : Int32)) = true
    · have ht2 := ite_t hc2 ht1
      by_cases hc3 : (σ (9, 0) 28) = (12 : Int32)
      · have ht3 := ite_t hc3 ht2
        obtain ⟨rfl, rfl⟩ := pj2 (Option.some.inj ht3)
        exact mσ
      · have hf3 := ite_f hc3 ht2
        obtain ⟨hb4, eh4⟩ := grd_some hf3
        obtain ⟨σ1, hv5, eh5⟩ := bnd_ex eh4
        have mσ1 : modi [44, 45, 1928] σ σ1 := hv5 ▸ modi.sr mσ (show ¬ (44 : Nat) < 10 by decide) (show (44 : Nat) ∈ ([44, 45, 1928] : List Nat) by decide)
        obtain ⟨hb6, eh6⟩ := grd_some eh5
        obtain ⟨σ2, hv7, eh7⟩ := bnd_ex eh6
        have mσ2 : modi [44, 45, 1928] σ σ2 := hv7 ▸ modi.sr mσ1 (show ¬ (45 : Nat) < 10 by decide) (show (45 : Nat) ∈ ([44, 45, 1928] : List Nat) by decide)
        obtain ⟨σ3, hv8, eh8⟩ := bnd_ex eh7
        have mσ3 : modi [44, 45, 1928] σ σ3 := hv8 ▸ modi.su mσ2 (show (1928 : Nat) ∈ ([44, 45, 1928] : List Nat) by decide)
        obtain ⟨rfl, rfl⟩ := pj2 (Option.some.inj eh8)
        exact mσ3
    · have hf2 := ite_f hc2 ht1
      obtain ⟨rfl, rfl⟩ := pj2 (Option.some.inj hf2)
      exact mσ
  · have hf1 := ite_f hc1 h
    obtain ⟨rfl, rfl⟩ := pj2 (Option.some.inj hf1)
    exact mσ

set_option maxRecDepth 20000 in
set_option maxHeartbeats 1000000 in
theorem mX9_change {σ : St} {a1 : Int32} {a2 : Int32} {a3 : Int32} {v0 : Int32} {σ' : St} (h : fX9_change σ a1 a2 a3 = some (v0, σ')) : modi [44, 45] σ σ' := by
  have mσ : modi [44, 45] σ σ := modi.rf
  unfold fX9_change at h
  by_cases hc1 : (fX9_isClub σ a1) = true
  · have ht1 := ite_t hc1 h
    by_cases hc2 : (fX9_in a2 (0 : Int32) (1 : Int32)) = true
    · have ht2 := ite_t hc2 ht1
      obtain ⟨x1, hx3, hq3⟩ := bnd_ex ht2
      by_cases hc3 : (fX9_in a3 (0 : Int32) x1) = true
      · have ht3 := ite_t hc3 hq3
        obtain ⟨x2, hx6, hq6⟩ := obi_some ht3
        obtain ⟨x3, hx10, hq10⟩ := obi_some hq6
        obtain ⟨hb4, eh4⟩ := grd_some hq10
        obtain ⟨σ1, hv5, eh5⟩ := bnd_ex eh4
        have mσ1 : modi [44, 45] σ σ1 := hv5 ▸ modi.sr mσ (show ¬ (44 : Nat) < 10 by decide) (show (44 : Nat) ∈ ([44, 45] : List Nat) by decide)
        obtain ⟨x4, hx15, hq15⟩ := obi_some eh5
        obtain ⟨hb6, eh6⟩ := grd_some hq15
        obtain ⟨σ2, hv7, eh7⟩ := bnd_ex eh6
        have mσ2 : modi [44, 45] σ σ2 := hv7 ▸ modi.sr mσ1 (show ¬ (45 : Nat) < 10 by decide) (show (45 : Nat) ∈ ([44, 45] : List Nat) by decide)
        obtain ⟨rfl, rfl⟩ := pj2 (Option.some.inj eh7)
        exact mσ2
      · have hf3 := ite_f hc3 hq3
        obtain ⟨rfl, rfl⟩ := pj2 (Option.some.inj hf3)
        exact mσ
    · have hf2 := ite_f hc2 ht1
      obtain ⟨rfl, rfl⟩ := pj2 (Option.some.inj hf2)
      exact mσ
  · have hf1 := ite_f hc1 h
    obtain ⟨rfl, rfl⟩ := pj2 (Option.some.inj hf1)
    exact mσ

set_option maxRecDepth 20000 in
set_option maxHeartbeats 1000000 in
theorem mX9_doAgree {σ : St} {a1 : Int32} {a2 : Int32} {v0 : Bool} {σ' : St} (h : fX9_doAgree σ a1 a2 = some (v0, σ')) : modi [31, 32, 33, 34, 1906, 1907, 1908] σ σ' := by
  have mσ : modi [31, 32, 33, 34, 1906, 1907, 1908] σ σ := modi.rf
  unfold fX9_doAgree at h
  obtain ⟨hb1, eh1⟩ := grd_some h
  obtain ⟨hb2, eh2⟩ := grd_some eh1
  obtain ⟨⟨x1, σ1⟩, hv3, eh3⟩ := obi_some eh2
  have mσ1 : modi [31, 32, 33, 34, 1906, 1907, 1908] σ σ1 := mσ.tr (mX9_differOf hv3) (by decide)
  obtain ⟨hb4, eh4⟩ := grd_some eh3
  obtain ⟨hb5, eh5⟩ := grd_some eh4
  by_cases hc6 : ((x1 &&& (σ1 (45, 0) (tn a1))) &&& (σ1 (45, 0) (tn a2))) = 0
  · have ht6 := ite_t hc6 eh5
    obtain ⟨rfl, rfl⟩ := pj2 (Option.some.inj ht6)
    exact mσ1
  · have hf6 := ite_f hc6 eh5
    obtain ⟨rfl, rfl⟩ := pj2 (Option.some.inj hf6)
    exact mσ1

set_option maxRecDepth 20000 in
set_option maxHeartbeats 1000000 in
theorem mX9_agree {σ : St} {a1 : Int32} {a2 : Int32} {v0 : Int32} {σ' : St} (h : fX9_agree σ a1 a2 = some (v0, σ')) : modi [31, 32, 33, 34, 1906, 1907, 1908] σ σ' := by
  have mσ : modi [31, 32, 33, 34, 1906, 1907, 1908] σ σ := modi.rf
  unfold fX9_agree at h
  by_cases hc1 : (fX9_areTwo σ a1 a2) = true
  · have ht1 := ite_t hc1 h
    obtain ⟨⟨x1, σ1⟩, hv2, eh2⟩ := obi_some ht1
    have mσ1 : modi [31, 32, 33, 34, 1906, 1907, 1908] σ σ1 := mσ.tr (mX9_doAgree hv2) (by decide)
    by_cases hc3 : x1 = true
    · have ht3 := ite_t hc3 eh2
      obtain ⟨rfl, rfl⟩ := pj2 (Option.some.inj ht3)
      exact mσ1
    · have hf3 := ite_f hc3 eh2
      obtain ⟨rfl, rfl⟩ := pj2 (Option.some.inj hf3)
      exact mσ1
  · have hf1 := ite_f hc1 h
    obtain ⟨rfl, rfl⟩ := pj2 (Option.some.inj hf1)
    exact mσ

set_option maxRecDepth 20000 in
set_option maxHeartbeats 1000000 in
theorem mX9_givesOf {σ : St} {a1 : Int32} {a2 : Int32} {v0 : Int32} {σ' : St} (h : fX9_givesOf σ a1 a2 = some (v0, σ')) : modi [31, 32, 33, 34, 1906, 1907, 1908] σ σ' := by
  have mσ : modi [31, 32, 33, 34, 1906, 1907, 1908] σ σ := modi.rf
  unfold fX9_givesOf at h
  obtain ⟨x1, hx1, hq1⟩ := obi_some h
  obtain ⟨hb1, eh1⟩ := grd_some hq1
  obtain ⟨hb2, eh2⟩ := grd_some eh1
  obtain ⟨⟨x2, σ1⟩, hv3, eh3⟩ := obi_some eh2
  have mσ1 : modi [31, 32, 33, 34, 1906, 1907, 1908] σ σ1 := mσ.tr (mX9_differOf hv3) (by decide)
  obtain ⟨hb4, eh4⟩ := grd_some eh3
  obtain ⟨rfl, rfl⟩ := pj2 (Option.some.inj eh4)
  exact mσ1

set_option maxRecDepth 20000 in
set_option maxHeartbeats 1000000 in
theorem mX9_gives {σ : St} {a1 : Int32} {a2 : Int32} {v0 : Int32} {σ' : St} (h : fX9_gives σ a1 a2 = some (v0, σ')) : modi [31, 32, 33, 34, 1906, 1907, 1908] σ σ' := by
  have mσ : modi [31, 32, 33, 34, 1906, 1907, 1908] σ σ := modi.rf
  unfold fX9_gives at h
  by_cases hc1 : (fX9_areTwo σ a1 a2) = true
  · have ht1 := ite_t hc1 h
    obtain ⟨⟨x1, σ1⟩, hv2, eh2⟩ := obi_some ht1
    have mσ1 : modi [31, 32, 33, 34, 1906, 1907, 1908] σ σ1 := mσ.tr (mX9_doAgree hv2) (by decide)
    by_cases hc3 : x1 = true
    · have ht3 := ite_t hc3 eh2
      obtain ⟨⟨x2, σ2⟩, hv4, eh4⟩ := obi_some ht3
      have mσ2 : modi [31, 32, 33, 34, 1906, 1907, 1908] σ σ2 := mσ1.tr (mX9_givesOf hv4) (by decide)
      obtain ⟨rfl, rfl⟩ := pj2 (Option.some.inj eh4)
      exact mσ2
    · have hf3 := ite_f hc3 eh2
      obtain ⟨rfl, rfl⟩ := pj2 (Option.some.inj hf3)
      exact mσ1
  · have hf1 := ite_f hc1 h
    obtain ⟨rfl, rfl⟩ := pj2 (Option.some.inj hf1)
    exact mσ

set_option maxRecDepth 20000 in
set_option maxHeartbeats 1000000 in
theorem mX9_between {σ : St} {a1 : Int32} {a2 : Int32} {a3 : Int32} {a4 : Int32} {v0 : Int32} {σ' : St} (h : fX9_between σ a1 a2 a3 a4 = some (v0, σ')) : modi [31, 32, 33, 34, 35, 1906, 1907, 1908, 1910, 1911, 1912, 1913, 1914, 1920, 1921, 1922, 1923] σ σ' := by
  have mσ : modi [31, 32, 33, 34, 35, 1906, 1907, 1908, 1910, 1911, 1912, 1913, 1914, 1920, 1921, 1922, 1923] σ σ := modi.rf
  unfold fX9_between at h
  by_cases hc1 : (fX9_areTwo σ a1 a2) = true
  · have ht1 := ite_t hc1 h
    by_cases hc2 : (fX9_isMatch σ a3) = true
    · have ht2 := ite_t hc2 ht1
      by_cases hc3 : (fX9_in a4 (0 : Int32) (8 : Int32)) = true
      · have ht3 := ite_t hc3 ht2
        obtain ⟨⟨x1, σ1⟩, hv4, eh4⟩ := obi_some ht3
        have mσ1 : modi [31, 32, 33, 34, 35, 1906, 1907, 1908, 1910, 1911, 1912, 1913, 1914, 1920, 1921, 1922, 1923] σ σ1 := mσ.tr (mX9_doAgree hv4) (by decide)
        by_cases hc5 : x1 = true
        · have ht5 := ite_t hc5 eh4
          obtain ⟨hb6, eh6⟩ := grd_some ht5
          obtain ⟨hb7, eh7⟩ := grd_some eh6
          obtain ⟨⟨x2, σ2⟩, hv8, eh8⟩ := obi_some eh7
          have mσ2 : modi [31, 32, 33, 34, 35, 1906, 1907, 1908, 1910, 1911, 1912, 1913, 1914, 1920, 1921, 1922, 1923] σ σ2 := mσ1.tr (mX9_givesOf hv8) (by decide)
          obtain ⟨σ3, hv9, eh9⟩ := obi_some eh8
          have mσ3 : modi [31, 32, 33, 34, 35, 1906, 1907, 1908, 1910, 1911, 1912, 1913, 1914, 1920, 1921, 1922, 1923] σ σ3 := mσ2.tr (mX9_mix hv9) (by decide)
          obtain ⟨σ4, hv10, eh10⟩ := obi_some eh9
          have mσ4 : modi [31, 32, 33, 34, 35, 1906, 1907, 1908, 1910, 1911, 1912, 1913, 1914, 1920, 1921, 1922, 1923] σ σ4 := mσ3.tr (mX9_plays hv10) (by decide)
          obtain ⟨rfl, rfl⟩ := pj2 (Option.some.inj eh10)
          exact mσ4
        · have hf5 := ite_f hc5 eh4
          obtain ⟨rfl, rfl⟩ := pj2 (Option.some.inj hf5)
          exact mσ1
      · have hf3 := ite_f hc3 ht2
        obtain ⟨rfl, rfl⟩ := pj2 (Option.some.inj hf3)
        exact mσ
    · have hf2 := ite_f hc2 ht1
      obtain ⟨rfl, rfl⟩ := pj2 (Option.some.inj hf2)
      exact mσ
  · have hf1 := ite_f hc1 h
    obtain ⟨rfl, rfl⟩ := pj2 (Option.some.inj hf1)
    exact mσ

set_option maxRecDepth 20000 in
set_option maxHeartbeats 1000000 in
theorem mX9_halves {σ : St} {a1 : Int32} {a2 : Int32} {a3 : Int32} {a4 : Int32} {v0 : Int32} {σ' : St} (h : fX9_halves σ a1 a2 a3 a4 = some (v0, σ')) : modi [31, 32, 33, 34, 35, 1906, 1907, 1908, 1910, 1911, 1912, 1913, 1914, 1920, 1921, 1922, 1923] σ σ' := by
  have mσ : modi [31, 32, 33, 34, 35, 1906, 1907, 1908, 1910, 1911, 1912, 1913, 1914, 1920, 1921, 1922, 1923] σ σ := modi.rf
  unfold fX9_halves at h
  by_cases hc1 : (fX9_areTwo σ a1 a2) = true
  · have ht1 := ite_t hc1 h
    by_cases hc2 : (fX9_isMatch σ a3) = true
    · have ht2 := ite_t hc2 ht1
      by_cases hc3 : (fX9_in a4 (0 : Int32) (8 : Int32)) = true
      · have ht3 := ite_t hc3 ht2
        obtain ⟨hb4, eh4⟩ := grd_some ht3
        obtain ⟨hb5, eh5⟩ := grd_some eh4
        obtain ⟨σ1, hv6, eh6⟩ := obi_some eh5
        have mσ1 : modi [31, 32, 33, 34, 35, 1906, 1907, 1908, 1910, 1911, 1912, 1913, 1914, 1920, 1921, 1922, 1923] σ σ1 := mσ.tr (mX9_mix hv6) (by decide)
        obtain ⟨σ2, hv7, eh7⟩ := bnd_ex eh6
        have mσ2 : modi [31, 32, 33, 34, 35, 1906, 1907, 1908, 1910, 1911, 1912, 1913, 1914, 1920, 1921, 1922, 1923] σ σ2 := mσ1.tr (mX9_clears hv7) (by decide)
        obtain ⟨σ3, hx8, hq8⟩ := obi_some eh7
        have mσ3 : modi [31, 32, 33, 34, 35, 1906, 1907, 1908, 1910, 1911, 1912, 1913, 1914, 1920, 1921, 1922, 1923] σ σ3 := by
          refine lpF_md (I := fun (q : St) => match q with | σ4 => modi [31, 32, 33, 34, 35, 1906, 1907, 1908, 1910, 1911, 1912, 1913, 1914, 1920, 1921, 1922, 1923] σ σ4) ?_ hx8 mσ2
          rintro σ4 w9 hx9 mσ4 lc9 lx9
          replace mσ4 : modi [31, 32, 33, 34, 35, 1906, 1907, 1908, 1910, 1911, 1912, 1913, 1914, 1920, 1921, 1922, 1923] σ σ4 := mσ4
          obtain ⟨hb8, eh8⟩ := grd_some hx9
          by_cases hc9 : (σ4 (36, 0) (tn a3)) ≤ (σ4 (9, 0) 23)
          · have ht9 := ite_t hc9 eh8
            have e10 := congrArg some (lx9 _ (Option.some.inj ht9).symm)
            obtain rfl := (Option.some.inj e10)
            exact mσ4
          · have hf9 := ite_f hc9 eh8
            obtain ⟨hb11, eh11⟩ := grd_some hf9
            obtain ⟨σ5, hx14, hq14⟩ := obi_some eh11
            have mσ5 : modi [31, 32, 33, 34, 35, 1906, 1907, 1908, 1910, 1911, 1912, 1913, 1914, 1920, 1921, 1922, 1923] σ σ5 := by
              by_cases hc12 : (σ4 (9, 0) 23) = ((σ4 (36, 0) (tn a3)) / (2 : Int32))
              · have ht12 := ite_t hc12 hx14
                obtain ⟨hb13, eh13⟩ := grd_some ht12
                obtain ⟨hb14, eh14⟩ := grd_some eh13
                obtain ⟨σ6, hv15, eh15⟩ := obi_some eh14
                have mσ6 : modi [31, 32, 33, 34, 35, 1906, 1907, 1908, 1910, 1911, 1912, 1913, 1914, 1920, 1921, 1922, 1923] σ σ6 := mσ4.tr (mX9_mix hv15) (by decide)
                obtain rfl := (Option.some.inj eh15)
                exact mσ6
              · have hf12 := ite_f hc12 hx14
                obtain rfl := (Option.some.inj hf12)
                exact mσ4
            obtain ⟨⟨x1, σ7⟩, hv16, eh16⟩ := obi_some hq14
            have mσ7 : modi [31, 32, 33, 34, 35, 1906, 1907, 1908, 1910, 1911, 1912, 1913, 1914, 1920, 1921, 1922, 1923] σ σ7 := mσ5.tr (mX9_steps hv16) (by decide)
            exact lc9 _ (Option.some.inj eh16).symm mσ7
        obtain ⟨rfl, rfl⟩ := pj2 (Option.some.inj hq8)
        exact mσ3
      · have hf3 := ite_f hc3 ht2
        obtain ⟨rfl, rfl⟩ := pj2 (Option.some.inj hf3)
        exact mσ
    · have hf2 := ite_f hc2 ht1
      obtain ⟨rfl, rfl⟩ := pj2 (Option.some.inj hf2)
      exact mσ
  · have hf1 := ite_f hc1 h
    obtain ⟨rfl, rfl⟩ := pj2 (Option.some.inj hf1)
    exact mσ

set_option maxRecDepth 20000 in
set_option maxHeartbeats 1000000 in
theorem mX9_member {σ : St} {a1 : Int32} {a2 : Bool} {v0 : Int32} {σ' : St} (h : fX9_member σ a1 a2 = some (v0, σ')) : modi [46] σ σ' := by
  have mσ : modi [46] σ σ := modi.rf
  unfold fX9_member at h
  by_cases hc1 : (fX9_isClub σ a1) = true
  · have ht1 := ite_t hc1 h
    obtain ⟨hb2, eh2⟩ := grd_some ht1
    obtain ⟨x1, hx3, hq3⟩ := bnd_ex eh2
    obtain ⟨hb3, eh3⟩ := grd_some hq3
    obtain ⟨σ1, hv4, eh4⟩ := bnd_ex eh3
    have mσ1 : modi [46] σ σ1 := hv4 ▸ modi.sr mσ (show ¬ (46 : Nat) < 10 by decide) (show (46 : Nat) ∈ ([46] : List Nat) by decide)
    by_cases hc5 : x1 = 0
    · have ht5 := ite_t hc5 eh4
      obtain ⟨rfl, rfl⟩ := pj2 (Option.some.inj ht5)
      exact mσ1
    · have hf5 := ite_f hc5 eh4
      obtain ⟨rfl, rfl⟩ := pj2 (Option.some.inj hf5)
      exact mσ1
  · have hf1 := ite_f hc1 h
    obtain ⟨rfl, rfl⟩ := pj2 (Option.some.inj hf1)
    exact mσ

set_option maxRecDepth 20000 in
set_option maxHeartbeats 1000000 in
theorem mX9_rule {σ : St} {a1 : Int32} {a2 : Int32} {v0 : Int32} {σ' : St} (h : fX9_rule σ a1 a2 = (v0, σ')) : modi [1933, 1934, 1935] σ σ' := by
  have mσ : modi [1933, 1934, 1935] σ σ := modi.rf
  unfold fX9_rule at h
  obtain ⟨x1, hx1, hq1⟩ := bnd_ex h
  by_cases hc1 : x1 = 0
  · have ht1 := ite_t hc1 hq1
    obtain ⟨rfl, rfl⟩ := pj2 ht1
    exact mσ
  · have hf1 := ite_f hc1 hq1
    obtain ⟨x2, hx7, hq7⟩ := bnd_ex hf1
    obtain ⟨x3, hx10, hq10⟩ := bnd_ex hq7
    obtain ⟨σ1, hv2, eh2⟩ := bnd_ex hq10
    have mσ1 : modi [1933, 1934, 1935] σ σ1 := hv2 ▸ modi.su mσ (show (1933 : Nat) ∈ ([1933, 1934, 1935] : List Nat) by decide)
    obtain ⟨x4, hx13, hq13⟩ := bnd_ex eh2
    obtain ⟨σ2, hv3, eh3⟩ := bnd_ex hq13
    have mσ2 : modi [1933, 1934, 1935] σ σ2 := hv3 ▸ modi.su mσ1 (show (1934 : Nat) ∈ ([1933, 1934, 1935] : List Nat) by decide)
    obtain ⟨x5, hx16, hq16⟩ := bnd_ex eh3
    obtain ⟨σ3, hv4, eh4⟩ := bnd_ex hq16
    have mσ3 : modi [1933, 1934, 1935] σ σ3 := hv4 ▸ modi.su mσ2 (show (1935 : Nat) ∈ ([1933, 1934, 1935] : List Nat) by decide)
    obtain ⟨rfl, rfl⟩ := pj2 eh4
    exact mσ3

set_option maxRecDepth 20000 in
set_option maxHeartbeats 1000000 in
theorem mX9_enact {σ : St} {a1 : Int32} {v0 : Int32} {σ' : St} (h : fX9_enact σ a1 = some (v0, σ')) : modi [31, 32, 33, 34, 47, 1906, 1907, 1908] σ σ' := by
  have mσ : modi [31, 32, 33, 34, 47, 1906, 1907, 1908] σ σ := modi.rf
  unfold fX9_enact at h
  by_cases hc1 : (fX9_isCode a1) = true
  · have ht1 := ite_t hc1 h
    refine lpF_md (I := fun (q : Int32 × St) => match q with | (x1, σ1) => modi [31, 32, 33, 34, 47, 1906, 1907, 1908] σ σ1) ?_ ht1 mσ
    rintro ⟨x1, σ1⟩ w2 hx2 mσ1 lc2 lx2
    replace mσ1 : modi [31, 32, 33, 34, 47, 1906, 1907, 1908] σ σ1 := mσ1
    by_cases hc2 : (17 : Int32) ≤ x1
    · have ht2 := ite_t hc2 hx2
      have e3 := congrArg some (lx2 _ (Option.some.inj ht2).symm)
      obtain ⟨rfl, rfl⟩ := pj2 (Option.some.inj e3)
      exact mσ1
    · have hf2 := ite_f hc2 hx2
      obtain ⟨⟨x2, σ2⟩, hv4, eh4⟩ := obi_some hf2
      have mσ2 : modi [31, 32, 33, 34, 47, 1906, 1907, 1908] σ σ2 := mσ1.tr (mX9_itemOf hv4) (by decide)
      obtain ⟨hb5, eh5⟩ := grd_some eh4
      obtain ⟨σ3, hv6, eh6⟩ := bnd_ex eh5
      have mσ3 : modi [31, 32, 33, 34, 47, 1906, 1907, 1908] σ σ3 := hv6 ▸ modi.sr mσ2 (show ¬ (47 : Nat) < 10 by decide) (show (47 : Nat) ∈ ([31, 32, 33, 34, 47, 1906, 1907, 1908] : List Nat) by decide)
      obtain ⟨x3, hv7, eh7⟩ := bnd_ex eh6
      exact lc2 _ (Option.some.inj eh7).symm mσ3
  · have hf1 := ite_f hc1 h
    obtain ⟨rfl, rfl⟩ := pj2 (Option.some.inj hf1)
    exact mσ

set_option maxRecDepth 20000 in
set_option maxHeartbeats 1000000 in
theorem mX9_motionOf {σ : St} {a1 : Int32} {a2 : Int32} {a3 : Int32} {v0 : Int32} {σ' : St} (h : fX9_motionOf σ a1 a2 a3 = some (v0, σ')) : modi [31, 32, 33, 34, 1906, 1907, 1908] σ σ' := by
  have mσ : modi [31, 32, 33, 34, 1906, 1907, 1908] σ σ := modi.rf
  unfold fX9_motionOf at h
  obtain ⟨⟨x1, σ1⟩, hv1, eh1⟩ := obi_some h
  have mσ1 : modi [31, 32, 33, 34, 1906, 1907, 1908] σ σ1 := mσ.tr (mX9_itemOf hv1) (by decide)
  obtain ⟨⟨x2, x3, x4, σ2⟩, hx2, hq2⟩ := obi_some eh1
  have mσ2 : modi [31, 32, 33, 34, 1906, 1907, 1908] σ σ2 := by
    refine lpF_md (I := fun (q : Int32 × Int32 × Int32 × Int32 × St) => match q with | (x5, x6, x7, x8, σ3) => modi [31, 32, 33, 34, 1906, 1907, 1908] σ σ3) ?_ hx2 mσ1
    rintro ⟨x5, x6, x7, x8, σ3⟩ w3 hx3 mσ3 lc3 lx3
    replace mσ3 : modi [31, 32, 33, 34, 1906, 1907, 1908] σ σ3 := mσ3
    by_cases hc2 : (σ3 (9, 0) 28) ≤ x8
    · have ht2 := ite_t hc2 hx3
      have e3 := congrArg some (lx3 _ (Option.some.inj ht2).symm)
      obtain ⟨rfl, rfl, rfl, rfl⟩ := pj4 (Option.some.inj e3)
      exact mσ3
    · have hf2 := ite_f hc2 hx3
      obtain ⟨hb4, eh4⟩ := grd_some hf2
      obtain ⟨⟨x9, x10, x11, σ4⟩, hx7, hq7⟩ := obi_some eh4
      have mσ4 : modi [31, 32, 33, 34, 1906, 1907, 1908] σ σ4 := by
        by_cases hc5 : (σ3 (46, 0) (tn x8)) = 0
        · have ht5 := ite_t hc5 hx7
          obtain ⟨rfl, rfl, rfl, rfl⟩ := pj4 (Option.some.inj ht5)
          exact mσ3
        · have hf5 := ite_f hc5 hx7
          obtain ⟨hb6, eh6⟩ := grd_some hf5
          obtain ⟨⟨x12, σ5⟩, hv7, eh7⟩ := obi_some eh6
          have mσ5 : modi [31, 32, 33, 34, 1906, 1907, 1908] σ σ5 := mσ3.tr (mX9_itemOf hv7) (by decide)
          obtain ⟨x13, hx11, hq11⟩ := bnd_ex eh7
          obtain ⟨x14, hv8, eh8⟩ := bnd_ex hq11
          obtain ⟨x15, hx14, hq14⟩ := obi_some eh8
          obtain ⟨x16, hv9, eh9⟩ := bnd_ex hq14
          obtain ⟨x17, hx19, hq19⟩ := obi_some eh9
          obtain ⟨x18, hv10, eh10⟩ := bnd_ex hq19
          obtain ⟨rfl, rfl, rfl, rfl⟩ := pj4 (Option.some.inj eh10)
          exact mσ5
      obtain ⟨x19, hv11, eh11⟩ := bnd_ex hq7
      exact lc3 _ (Option.some.inj eh11).symm mσ4
  obtain ⟨x20, hx25, hq25⟩ := bnd_ex hq2
  by_cases hc12 : a3 = 0
  · have ht12 := ite_t hc12 hq25
    obtain ⟨rfl, rfl⟩ := pj2 (Option.some.inj ht12)
    exact mσ2
  · have hf12 := ite_f hc12 hq25
    by_cases hc13 : a3 = (1 : Int32)
    · have ht13 := ite_t hc13 hf12
      obtain ⟨rfl, rfl⟩ := pj2 (Option.some.inj ht13)
      exact mσ2
    · have hf13 := ite_f hc13 hf12
      by_cases hc14 : a3 = (2 : Int32)
      · have ht14 := ite_t hc14 hf13
        by_cases hc15 : x20 = 0
        · have ht15 := ite_t hc15 ht14
          obtain ⟨rfl, rfl⟩ := pj2 (Option.some.inj ht15)
          exact mσ2
        · have hf15 := ite_f hc15 ht14
          obtain ⟨rfl, rfl⟩ := pj2 (Option.some.inj hf15)
          exact mσ2
      · have hf14 := ite_f hc14 hf13
        obtain ⟨rfl, rfl⟩ := pj2 (Option.some.inj hf14)
        exact mσ2

set_option maxRecDepth 20000 in
set_option maxHeartbeats 1000000 in
theorem mX9_motion {σ : St} {a1 : Int32} {a2 : Int32} {a3 : Int32} {v0 : Int32} {σ' : St} (h : fX9_motion σ a1 a2 a3 = some (v0, σ')) : modi [31, 32, 33, 34, 1906, 1907, 1908] σ σ' := by
  have mσ : modi [31, 32, 33, 34, 1906, 1907, 1908] σ σ := modi.rf
  unfold fX9_motion at h
  by_cases hc1 : (fX9_in a1 (0 : Int32) (16 : Int32)) = true
  · have ht1 := ite_t hc1 h
    by_cases hc2 : (fX9_isCode a2) = true
    · have ht2 := ite_t hc2 ht1
      by_cases hc3 : (fX9_in a3 (0 : Int32) (3 : Int32)) = true
      · have ht3 := ite_t hc3 ht2
        obtain ⟨⟨x1, σ1⟩, hv4, eh4⟩ := obi_some ht3
        have mσ1 : modi [31, 32, 33, 34, 1906, 1907, 1908] σ σ1 := mσ.tr (mX9_motionOf hv4) (by decide)
        obtain ⟨rfl, rfl⟩ := pj2 (Option.some.inj eh4)
        exact mσ1
      · have hf3 := ite_f hc3 ht2
        obtain ⟨rfl, rfl⟩ := pj2 (Option.some.inj hf3)
        exact mσ
    · have hf2 := ite_f hc2 ht1
      obtain ⟨rfl, rfl⟩ := pj2 (Option.some.inj hf2)
      exact mσ
  · have hf1 := ite_f hc1 h
    obtain ⟨rfl, rfl⟩ := pj2 (Option.some.inj hf1)
    exact mσ

set_option maxRecDepth 20000 in
set_option maxHeartbeats 1000000 in
theorem mX9_put {σ : St} {a1 : Int32} {a2 : Int32} {v0 : Int32} {σ' : St} (h : fX9_put σ a1 a2 = some (v0, σ')) : modi [31, 32, 33, 34, 46, 47, 1906, 1907, 1908] σ σ' := by
  have mσ : modi [31, 32, 33, 34, 46, 47, 1906, 1907, 1908] σ σ := modi.rf
  unfold fX9_put at h
  by_cases hc1 : (fX9_in a1 (0 : Int32) (16 : Int32)) = true
  · have ht1 := ite_t hc1 h
    by_cases hc2 : (fX9_isCode a2) = true
    · have ht2 := ite_t hc2 ht1
      obtain ⟨⟨x1, σ1⟩, hv3, eh3⟩ := obi_some ht2
      have mσ1 : modi [31, 32, 33, 34, 46, 47, 1906, 1907, 1908] σ σ1 := mσ.tr (mX9_motionOf hv3) (by decide)
      by_cases hc4 : x1 = 0
      · have ht4 := ite_t hc4 eh3
        obtain ⟨rfl, rfl⟩ := pj2 (Option.some.inj ht4)
        exact mσ1
      · have hf4 := ite_f hc4 eh3
        obtain ⟨⟨x2, σ2⟩, hv5, eh5⟩ := obi_some hf4
        have mσ2 : modi [31, 32, 33, 34, 46, 47, 1906, 1907, 1908] σ σ2 := mσ1.tr (mX9_motionOf hv5) (by decide)
        obtain ⟨⟨x3, σ3⟩, hv6, eh6⟩ := obi_some eh5
        have mσ3 : modi [31, 32, 33, 34, 46, 47, 1906, 1907, 1908] σ σ3 := mσ2.tr (mX9_itemOf hv6) (by decide)
        obtain ⟨hb7, eh7⟩ := grd_some eh6
        obtain ⟨σ4, hv8, eh8⟩ := bnd_ex eh7
        have mσ4 : modi [31, 32, 33, 34, 46, 47, 1906, 1907, 1908] σ σ4 := hv8 ▸ modi.sr mσ3 (show ¬ (47 : Nat) < 10 by decide) (show (47 : Nat) ∈ ([31, 32, 33, 34, 46, 47, 1906, 1907, 1908] : List Nat) by decide)
        refine lpF_md (I := fun (q : Int32 × St) => match q with | (x4, σ5) => modi [31, 32, 33, 34, 46, 47, 1906, 1907, 1908] σ σ5) ?_ eh8 mσ4
        rintro ⟨x4, σ5⟩ w9 hx9 mσ5 lc9 lx9
        replace mσ5 : modi [31, 32, 33, 34, 46, 47, 1906, 1907, 1908] σ σ5 := mσ5
        by_cases hc9 : (σ5 (9, 0) 28) ≤ x4
        · have ht9 := ite_t hc9 hx9
          have e10 := congrArg some (lx9 _ (Option.some.inj ht9).symm)
          obtain ⟨rfl, rfl⟩ := pj2 (Option.some.inj e10)
          exact mσ5
        · have hf9 := ite_f hc9 hx9
          obtain ⟨hb11, eh11⟩ := grd_some hf9
          obtain ⟨x5, hx13, hq13⟩ := bnd_ex eh11
          obtain ⟨hb12, eh12⟩ := grd_some hq13
          obtain ⟨σ6, hv13, eh13⟩ := bnd_ex eh12
          have mσ6 : modi [31, 32, 33, 34, 46, 47, 1906, 1907, 1908] σ σ6 := hv13 ▸ modi.sr mσ5 (show ¬ (46 : Nat) < 10 by decide) (show (46 : Nat) ∈ ([31, 32, 33, 34, 46, 47, 1906, 1907, 1908] : List Nat) by decide)
          obtain ⟨x6, hv14, eh14⟩ := bnd_ex eh13
          exact lc9 _ (Option.some.inj eh14).symm mσ6
    · have hf2 := ite_f hc2 ht1
      obtain ⟨rfl, rfl⟩ := pj2 (Option.some.inj hf2)
      exact mσ
  · have hf1 := ite_f hc1 h
    obtain ⟨rfl, rfl⟩ := pj2 (Option.some.inj hf1)
    exact mσ

set_option maxRecDepth 20000 in
set_option maxHeartbeats 1000000 in
theorem mX9_stayNow {σ : St}  {v0 : Int32} {σ' : St} (h : fX9_stayNow σ  = some (v0, σ')) : modi [31, 32, 33, 34, 1906, 1907, 1908] σ σ' := by
  have mσ : modi [31, 32, 33, 34, 1906, 1907, 1908] σ σ := modi.rf
  unfold fX9_stayNow at h
  refine lpF_md (I := fun (q : Int32 × Int32 × St) => match q with | (x1, x2, σ1) => modi [31, 32, 33, 34, 1906, 1907, 1908] σ σ1) ?_ h mσ
  rintro ⟨x1, x2, σ1⟩ w1 hx1 mσ1 lc1 lx1
  replace mσ1 : modi [31, 32, 33, 34, 1906, 1907, 1908] σ σ1 := mσ1
  by_cases hc1 : (σ1 (9, 0) 28) ≤ x2
  · have ht1 := ite_t hc1 hx1
    have e2 := congrArg some (lx1 _ (Option.some.inj ht1).symm)
    obtain ⟨rfl, rfl⟩ := pj2 (Option.some.inj e2)
    exact mσ1
  · have hf1 := ite_f hc1 hx1
    obtain ⟨hb3, eh3⟩ := grd_some hf1
    obtain ⟨x3, hv4, eh4⟩ := bnd_ex eh3
    obtain ⟨⟨x4, σ2⟩, hx6, hq6⟩ := obi_some eh4
    have mσ2 : modi [31, 32, 33, 34, 1906, 1907, 1908] σ σ2 := by
      refine lpF_md (I := fun (q : Int32 × Int32 × St) => match q with | (x5, x6, σ3) => modi [31, 32, 33, 34, 1906, 1907, 1908] σ σ3) ?_ hx6 mσ1
      rintro ⟨x5, x6, σ3⟩ w7 hx7 mσ3 lc7 lx7
      replace mσ3 : modi [31, 32, 33, 34, 1906, 1907, 1908] σ σ3 := mσ3
      by_cases hc5 : (17 : Int32) ≤ x6
      · have ht5 := ite_t hc5 hx7
        have e6 := congrArg some (lx7 _ (Option.some.inj ht5).symm)
        obtain ⟨rfl, rfl⟩ := pj2 (Option.some.inj e6)
        exact mσ3
      · have hf5 := ite_f hc5 hx7
        obtain ⟨⟨x7, σ4⟩, hx10, hq10⟩ := obi_some hf5
        have mσ4 : modi [31, 32, 33, 34, 1906, 1907, 1908] σ σ4 := by
          by_cases hc7 : x5 = 0
          · have ht7 := ite_t hc7 hx10
            obtain ⟨rfl, rfl⟩ := pj2 (Option.some.inj ht7)
            exact mσ3
          · have hf7 := ite_f hc7 hx10
            obtain ⟨hb8, eh8⟩ := grd_some hf7
            by_cases hc9 : (((σ3 (45, 0) (tn x2)) >>> (x6 &&& 31)) &&& (1 : Int32)) = 0
            · have ht9 := ite_t hc9 eh8
              obtain ⟨rfl, rfl⟩ := pj2 (Option.some.inj ht9)
              exact mσ3
            · have hf9 := ite_f hc9 eh8
              obtain ⟨hb10, eh10⟩ := grd_some hf9
              obtain ⟨⟨x8, σ5⟩, hv11, eh11⟩ := obi_some eh10
              have mσ5 : modi [31, 32, 33, 34, 1906, 1907, 1908] σ σ5 := mσ3.tr (mX9_itemOf hv11) (by decide)
              obtain ⟨hb12, eh12⟩ := grd_some eh11
              by_cases hc13 : x8 = (σ5 (35, 0) (tn x6))
              · have ht13 := ite_t hc13 eh12
                obtain ⟨rfl, rfl⟩ := pj2 (Option.some.inj ht13)
                exact mσ5
              · have hf13 := ite_f hc13 eh12
                obtain ⟨rfl, rfl⟩ := pj2 (Option.some.inj hf13)
                exact mσ5
        obtain ⟨x9, hv14, eh14⟩ := bnd_ex hq10
        exact lc7 _ (Option.some.inj eh14).symm mσ4
    obtain ⟨x10, hx19, hq19⟩ := bnd_ex hq6
    obtain ⟨x11, hv15, eh15⟩ := bnd_ex hq19
    obtain ⟨x12, hv16, eh16⟩ := bnd_ex eh15
    exact lc1 _ (Option.some.inj eh16).symm mσ2

set_option maxRecDepth 20000 in
set_option maxHeartbeats 1000000 in
theorem mX9_hurtNow {σ : St}  {v0 : Int32} {σ' : St} (h : fX9_hurtNow σ  = some (v0, σ')) : modi [1910, 1911, 1912, 1913, 1914, 1920, 1921, 1922, 1923] σ σ' := by
  have mσ : modi [1910, 1911, 1912, 1913, 1914, 1920, 1921, 1922, 1923] σ σ := modi.rf
  unfold fX9_hurtNow at h
  refine lpF_md (I := fun (q : Int32 × Int32 × St) => match q with | (x1, x2, σ1) => modi [1910, 1911, 1912, 1913, 1914, 1920, 1921, 1922, 1923] σ σ1) ?_ h mσ
  rintro ⟨x1, x2, σ1⟩ w1 hx1 mσ1 lc1 lx1
  replace mσ1 : modi [1910, 1911, 1912, 1913, 1914, 1920, 1921, 1922, 1923] σ σ1 := mσ1
  by_cases hc1 : (σ1 (9, 0) 15) ≤ x2
  · have ht1 := ite_t hc1 hx1
    have e2 := congrArg some (lx1 _ (Option.some.inj ht1).symm)
    obtain ⟨rfl, rfl⟩ := pj2 (Option.some.inj e2)
    exact mσ1
  · have hf1 := ite_f hc1 hx1
    obtain ⟨σ2, hv3, eh3⟩ := obi_some hf1
    have mσ2 : modi [1910, 1911, 1912, 1913, 1914, 1920, 1921, 1922, 1923] σ σ2 := mσ1.tr (mX9_plays hv3) (by decide)
    obtain ⟨x3, hv4, eh4⟩ := bnd_ex eh3
    obtain ⟨x4, hv5, eh5⟩ := bnd_ex eh4
    exact lc1 _ (Option.some.inj eh5).symm mσ2

