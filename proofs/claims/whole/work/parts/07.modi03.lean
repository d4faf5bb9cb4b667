set_option maxRecDepth 20000 in
set_option maxHeartbeats 1000000 in
theorem mX9_best {σ : St} {a1 : Int32} {a2 : Int32} {a3 : Int32} {v0 : Int32} {σ' : St} (h : fX9_best σ a1 a2 a3 = some (v0, σ')) : modi [31, 32, 33, 34, 35, 1906, 1907, 1908, 1910, 1911, 1912, 1913, 1914, 1920, 1921, 1922, 1923] σ σ' := by
  have mσ : modi [31, 32, 33, 34, 35, 1906, 1907, 1908, 1910, 1911, 1912, 1913, 1914, 1920, 1921, 1922, 1923] σ σ := modi.rf
  unfold fX9_best at h
  by_cases hc1 : (fX9_in a1 (0 : Int32) (131071 : Int32)) = true
  · have ht1 := ite_t hc1 h
    obtain ⟨x1, hv2, eh2⟩ := obi_some ht1
    by_cases hc3 : (9 : Int32) < x1
    · have ht3 := ite_t hc3 eh2
      obtain ⟨rfl, rfl⟩ := pj2 (Option.some.inj ht3)
      exact mσ
    · have hf3 := ite_f hc3 eh2
      by_cases hc4 : (fX9_isCode a2) = true
      · have ht4 := ite_t hc4 hf3
        by_cases hc5 : (fX9_in a3 (0 : Int32) (2 : Int32)) = true
        · have ht5 := ite_t hc5 ht4
          obtain ⟨⟨x2, x3, x4, σ1⟩, hx6, hq6⟩ := obi_some ht5
          have mσ1 : modi [31, 32, 33, 34, 35, 1906, 1907, 1908, 1910, 1911, 1912, 1913, 1914, 1920, 1921, 1922, 1923] σ σ1 := by
            refine lpF_md (I := fun (q : Int32 × Int32 × Int32 × Int32 × Int32 × St) => match q with | (x5, x6, x7, x8, x9, σ2) => modi [31, 32, 33, 34, 35, 1906, 1907, 1908, 1910, 1911, 1912, 1913, 1914, 1920, 1921, 1922, 1923] σ σ2) ?_ hx6 mσ
            rintro ⟨x5, x6, x7, x8, x9, σ2⟩ w7 hx7 mσ2 lc7 lx7
            replace mσ2 : modi [31, 32, 33, 34, 35, 1906, 1907, 1908, 1910, 1911, 1912, 1913, 1914, 1920, 1921, 1922, 1923] σ σ2 := mσ2
            by_cases hc6 : x9 = 0
            · have ht6 := ite_t hc6 hx7
              have e7 := congrArg some (lx7 _ (Option.some.inj ht6).symm)
              obtain ⟨rfl, rfl, rfl, rfl⟩ := pj4 (Option.some.inj e7)
              exact mσ2
            · have hf6 := ite_f hc6 hx7
              obtain ⟨σ3, hx10, hq10⟩ := obi_some hf6
              have mσ3 : modi [31, 32, 33, 34, 35, 1906, 1907, 1908, 1910, 1911, 1912, 1913, 1914, 1920, 1921, 1922, 1923] σ σ3 := by
                refine lpF_md (I := fun (q : Int32 × St) => match q with | (x10, σ4) => modi [31, 32, 33, 34, 35, 1906, 1907, 1908, 1910, 1911, 1912, 1913, 1914, 1920, 1921, 1922, 1923] σ σ4) ?_ hx10 mσ2
                rintro ⟨x10, σ4⟩ w11 hx11 mσ4 lc11 lx11
                replace mσ4 : modi [31, 32, 33, 34, 35, 1906, 1907, 1908, 1910, 1911, 1912, 1913, 1914, 1920, 1921, 1922, 1923] σ σ4 := mσ4
                by_cases hc8 : (17 : Int32) ≤ x10
                · have ht8 := ite_t hc8 hx11
                  have e9 := congrArg some (lx11 _ (Option.some.inj ht8).symm)
                  obtain rfl := (Option.some.inj e9)
                  exact mσ4
                · have hf8 := ite_f hc8 hx11
                  obtain ⟨⟨x11, σ5⟩, hx14, hq14⟩ := obi_some hf8
                  have mσ5 : modi [31, 32, 33, 34, 35, 1906, 1907, 1908, 1910, 1911, 1912, 1913, 1914, 1920, 1921, 1922, 1923] σ σ5 := by
                    by_cases hc10 : ((x8 >>> (x10 &&& 31)) &&& (1 : Int32)) = (1 : Int32)
                    · have ht10 := ite_t hc10 hx14
                      obtain ⟨⟨x12, σ6⟩, hv11, eh11⟩ := obi_some ht10
                      have mσ6 : modi [31, 32, 33, 34, 35, 1906, 1907, 1908, 1910, 1911, 1912, 1913, 1914, 1920, 1921, 1922, 1923] σ σ6 := mσ4.tr (mX9_itemOf hv11) (by decide)
                      obtain ⟨rfl, rfl⟩ := pj2 (Option.some.inj eh11)
                      exact mσ6
                    · have hf10 := ite_f hc10 hx14
                      obtain ⟨hb12, eh12⟩ := grd_some hf10
                      obtain ⟨rfl, rfl⟩ := pj2 (Option.some.inj eh12)
                      exact mσ4
                  obtain ⟨hb13, eh13⟩ := grd_some hq14
                  obtain ⟨σ7, hv14, eh14⟩ := bnd_ex eh13
                  have mσ7 : modi [31, 32, 33, 34, 35, 1906, 1907, 1908, 1910, 1911, 1912, 1913, 1914, 1920, 1921, 1922, 1923] σ σ7 := hv14 ▸ modi.sr mσ5 (show ¬ (35 : Nat) < 10 by decide) (show (35 : Nat) ∈ ([31, 32, 33, 34, 35, 1906, 1907, 1908, 1910, 1911, 1912, 1913, 1914, 1920, 1921, 1922, 1923] : List Nat) by decide)
                  obtain ⟨x13, hv15, eh15⟩ := bnd_ex eh14
                  exact lc11 _ (Option.some.inj eh15).symm mσ7
              obtain ⟨⟨x14, σ8⟩, hv16, eh16⟩ := obi_some hq10
              have mσ8 : modi [31, 32, 33, 34, 35, 1906, 1907, 1908, 1910, 1911, 1912, 1913, 1914, 1920, 1921, 1922, 1923] σ σ8 := mσ3.tr (mX9_stayNow hv16) (by decide)
              obtain ⟨⟨x15, σ9⟩, hv17, eh17⟩ := obi_some eh16
              have mσ9 : modi [31, 32, 33, 34, 35, 1906, 1907, 1908, 1910, 1911, 1912, 1913, 1914, 1920, 1921, 1922, 1923] σ σ9 := mσ8.tr (mX9_hurtNow hv17) (by decide)
              obtain ⟨x16, hx23, hq23⟩ := bnd_ex eh17
              obtain ⟨x17, hx25, hq25⟩ := bnd_ex hq23
              obtain ⟨x18, hx27, hq27⟩ := obi_some hq25
              obtain ⟨⟨x21, x22, x23⟩, hx31, hq31⟩ := bnd_ex hq27
              obtain ⟨x24, hv18, eh18⟩ := bnd_ex hq31
              obtain ⟨x25, hx34, hq34⟩ := bnd_ex eh18
              exact lc7 _ (Option.some.inj hq34).symm mσ9
          by_cases hc19 : a3 = 0
          · have ht19 := ite_t hc19 hq6
            obtain ⟨rfl, rfl⟩ := pj2 (Option.some.inj ht19)
            exact mσ1
          · have hf19 := ite_f hc19 hq6
            by_cases hc20 : a3 = (1 : Int32)
            · have ht20 := ite_t hc20 hf19
              obtain ⟨rfl, rfl⟩ := pj2 (Option.some.inj ht20)
              exact mσ1
            · have hf20 := ite_f hc20 hf19
              obtain ⟨rfl, rfl⟩ := pj2 (Option.some.inj hf20)
              exact mσ1
        · have hf5 := ite_f hc5 ht4
          obtain ⟨rfl, rfl⟩ := pj2 (Option.some.inj hf5)
          exact mσ
      · have hf4 := ite_f hc4 hf3
        obtain ⟨rfl, rfl⟩ := pj2 (Option.some.inj hf4)
        exact mσ
  · have hf1 := ite_f hc1 h
    obtain ⟨rfl, rfl⟩ := pj2 (Option.some.inj hf1)
    exact mσ

set_option maxRecDepth 20000 in
set_option maxHeartbeats 1000000 in
theorem mX9_way {σ : St} {a1 : Int32} {a2 : Int32} {a3 : Int32} {v0 : Int32} {σ' : St} (h : fX9_way σ a1 a2 a3 = some (v0, σ')) : modi [48] σ σ' := by
  have mσ : modi [48] σ σ := modi.rf
  unfold fX9_way at h
  by_cases hc1 : (fX9_areTwo σ a1 a2) = true
  · have ht1 := ite_t hc1 h
    by_cases hc2 : (fX9_in a3 (0 : Int32) (99 : Int32)) = true
    · have ht2 := ite_t hc2 ht1
      obtain ⟨hb3, eh3⟩ := grd_some ht2
      obtain ⟨x1, hv4, eh4⟩ := bnd_ex eh3
      obtain ⟨hb5, eh5⟩ := grd_some eh4
      obtain ⟨σ1, hv6, eh6⟩ := bnd_ex eh5
      have mσ1 : modi [48] σ σ1 := hv6 ▸ modi.sr mσ (show ¬ (48 : Nat) < 10 by decide) (show (48 : Nat) ∈ ([48] : List Nat) by decide)
      obtain ⟨hb7, eh7⟩ := grd_some eh6
      obtain ⟨σ2, hv8, eh8⟩ := bnd_ex eh7
      have mσ2 : modi [48] σ σ2 := hv8 ▸ modi.sr mσ1 (show ¬ (48 : Nat) < 10 by decide) (show (48 : Nat) ∈ ([48] : List Nat) by decide)
      obtain ⟨rfl, rfl⟩ := pj2 (Option.some.inj eh8)
      exact mσ2
    · have hf2 := ite_f hc2 ht1
      obtain ⟨rfl, rfl⟩ := pj2 (Option.some.inj hf2)
      exact mσ
  · have hf1 := ite_f hc1 h
    obtain ⟨rfl, rfl⟩ := pj2 (Option.some.inj hf1)
    exact mσ

set_option maxRecDepth 20000 in
set_option maxHeartbeats 1000000 in
theorem mX9_pairs {σ : St} {a1 : Int32} {a2 : Int32} {σ' : St} (h : fX9_pairs σ a1 a2 = some σ') : modi [49, 50] σ σ' := by
  have mσ : modi [49, 50] σ σ := modi.rf
  unfold fX9_pairs at h
  obtain ⟨σ1, hv1, eh1⟩ := bnd_ex h
  have mσ1 : modi [49, 50] σ σ1 := hv1 ▸ modi.sr mσ (show ¬ (49 : Nat) < 10 by decide) (show (49 : Nat) ∈ ([49, 50] : List Nat) by decide)
  obtain ⟨σ2, hv2, eh2⟩ := bnd_ex eh1
  have mσ2 : modi [49, 50] σ σ2 := hv2 ▸ modi.sr mσ1 (show ¬ (50 : Nat) < 10 by decide) (show (50 : Nat) ∈ ([49, 50] : List Nat) by decide)
  refine lpF_md (I := fun (q : Int32 × St) => match q with | (x1, σ3) => modi [49, 50] σ σ3) ?_ eh2 mσ2
  rintro ⟨x1, σ3⟩ w5 hx5 mσ3 lc5 lx5
  replace mσ3 : modi [49, 50] σ σ3 := mσ3
  by_cases hc3 : ((1 : Int32) <<< ((σ3 (9, 0) 28) &&& 31)) ≤ x1
  · have ht3 := ite_t hc3 hx5
    have e4 := congrArg some (lx5 _ (Option.some.inj ht3).symm)
    obtain rfl := (Option.some.inj e4)
    exact mσ3
  · have hf3 := ite_f hc3 hx5
    obtain ⟨hb5, eh5⟩ := grd_some hf3
    obtain ⟨σ4, hv6, eh6⟩ := bnd_ex eh5
    have mσ4 : modi [49, 50] σ σ4 := hv6 ▸ modi.sr mσ3 (show ¬ (49 : Nat) < 10 by decide) (show (49 : Nat) ∈ ([49, 50] : List Nat) by decide)
    obtain ⟨hb7, eh7⟩ := grd_some eh6
    obtain ⟨σ5, hv8, eh8⟩ := bnd_ex eh7
    have mσ5 : modi [49, 50] σ σ5 := hv8 ▸ modi.sr mσ4 (show ¬ (50 : Nat) < 10 by decide) (show (50 : Nat) ∈ ([49, 50] : List Nat) by decide)
    obtain ⟨σ6, hx12, hq12⟩ := obi_some eh8
    have mσ6 : modi [49, 50] σ σ6 := by
      by_cases hc9 : (x1 &&& (a1 ^^^ (-1 : Int32))) = 0
      · have ht9 := ite_t hc9 hx12
        obtain ⟨x2, hv10, eh10⟩ := obi_some ht9
        by_cases hc11 : (irm x2 (2 : Int32)) = 0
        · have ht11 := ite_t hc11 eh10
          obtain ⟨x3, hv12, eh12⟩ := obi_some ht11
          obtain ⟨x4, hv13, eh13⟩ := bnd_ex eh12
          refine lpF_md (I := fun (q : Int32 × St) => match q with | (x5, σ7) => modi [49, 50] σ σ7) ?_ eh13 mσ5
          rintro ⟨x5, σ7⟩ w18 hx18 mσ7 lc18 lx18
          replace mσ7 : modi [49, 50] σ σ7 := mσ7
          by_cases hc14 : (σ7 (9, 0) 28) ≤ x5
          · have ht14 := ite_t hc14 hx18
            have e15 := congrArg some (lx18 _ (Option.some.inj ht14).symm)
            obtain rfl := (Option.some.inj e15)
            exact mσ7
          · have hf14 := ite_f hc14 hx18
            obtain ⟨x6, hv16, eh16⟩ := bnd_ex hf14
            obtain ⟨σ8, hx22, hq22⟩ := obi_some eh16
            have mσ8 : modi [49, 50] σ σ8 := by
              by_cases hc17 : ((x1 >>> (x5 &&& 31)) &&& (1 : Int32)) = (1 : Int32)
              · have ht17 := ite_t hc17 hx22
                obtain ⟨hb18, eh18⟩ := grd_some ht17
                by_cases hc19 : a2 < (σ7 (48, 0) (tn (((12 : Int32) * x3) + x5)))
                · have ht19 := ite_t hc19 eh18
                  obtain rfl := (Option.some.inj ht19)
                  exact mσ7
                · have hf19 := ite_f hc19 eh18
                  obtain ⟨hb20, eh20⟩ := grd_some hf19
                  by_cases hc21 : (σ7 (49, 0) (tn x6)) ≤ 0
                  · have ht21 := ite_t hc21 eh20
                    obtain rfl := (Option.some.inj ht21)
                    exact mσ7
                  · have hf21 := ite_f hc21 eh20
                    obtain ⟨hb22, eh22⟩ := grd_some hf21
                    obtain ⟨hb23, eh23⟩ := grd_some eh22
                    obtain ⟨x7, hv24, eh24⟩ := bnd_ex eh23
                    obtain ⟨hb25, eh25⟩ := grd_some eh24
                    obtain ⟨hb26, eh26⟩ := grd_some eh25
                    obtain ⟨hb27, eh27⟩ := grd_some eh26
                    obtain ⟨σ9, hv28, eh28⟩ := bnd_ex eh27
                    have mσ9 : modi [49, 50] σ σ9 := hv28 ▸ modi.sr mσ7 (show ¬ (49 : Nat) < 10 by decide) (show (49 : Nat) ∈ ([49, 50] : List Nat) by decide)
                    obtain ⟨hb29, eh29⟩ := grd_some eh28
                    obtain ⟨x8, hx36, hq36⟩ := obi_some eh29
                    obtain ⟨hb30, eh30⟩ := grd_some hq36
                    obtain ⟨σ10, hv31, eh31⟩ := bnd_ex eh30
                    have mσ10 : modi [49, 50] σ σ10 := hv31 ▸ modi.sr mσ9 (show ¬ (50 : Nat) < 10 by decide) (show (50 : Nat) ∈ ([49, 50] : List Nat) by decide)
                    obtain rfl := (Option.some.inj eh31)
                    exact mσ10
              · have hf17 := ite_f hc17 hx22
                obtain rfl := (Option.some.inj hf17)
                exact mσ7
            obtain ⟨x9, hv32, eh32⟩ := bnd_ex hq22
            exact lc18 _ (Option.some.inj eh32).symm mσ8
        · have hf11 := ite_f hc11 eh10
          obtain rfl := (Option.some.inj hf11)
          exact mσ5
      · have hf9 := ite_f hc9 hx12
        obtain rfl := (Option.some.inj hf9)
        exact mσ5
    obtain ⟨x10, hv33, eh33⟩ := bnd_ex hq12
    exact lc5 _ (Option.some.inj eh33).symm mσ6

set_option maxRecDepth 20000 in
set_option maxHeartbeats 1000000 in
theorem mX9_draws {σ : St} {a1 : Int32} {a2 : Int32} {v0 : Int32} {σ' : St} (h : fX9_draws σ a1 a2 = some (v0, σ')) : modi [49, 50] σ σ' := by
  have mσ : modi [49, 50] σ σ := modi.rf
  unfold fX9_draws at h
  obtain ⟨x1, hv1, eh1⟩ := obi_some h
  by_cases hc2 : x1 = true
  · have ht2 := ite_t hc2 eh1
    obtain ⟨σ1, hv3, eh3⟩ := obi_some ht2
    have mσ1 : modi [49, 50] σ σ1 := mσ.tr (mX9_pairs hv3) (by decide)
    obtain ⟨hb4, eh4⟩ := grd_some eh3
    obtain ⟨rfl, rfl⟩ := pj2 (Option.some.inj eh4)
    exact mσ1
  · have hf2 := ite_f hc2 eh1
    obtain ⟨rfl, rfl⟩ := pj2 (Option.some.inj hf2)
    exact mσ

set_option maxRecDepth 20000 in
set_option maxHeartbeats 1000000 in
theorem mX9_mate {σ : St} {a1 : Int32} {a2 : Int32} {a3 : Int32} {v0 : Int32} {σ' : St} (h : fX9_mate σ a1 a2 a3 = some (v0, σ')) : modi [49, 50] σ σ' := by
  have mσ : modi [49, 50] σ σ := modi.rf
  unfold fX9_mate at h
  obtain ⟨x1, hv1, eh1⟩ := obi_some h
  by_cases hc2 : x1 = true
  · have ht2 := ite_t hc2 eh1
    by_cases hc3 : (fX9_isClub σ a3) = true
    · have ht3 := ite_t hc3 ht2
      by_cases hc4 : ((a1 >>> (a3 &&& 31)) &&& (1 : Int32)) = 0
      · have ht4 := ite_t hc4 ht3
        obtain ⟨rfl, rfl⟩ := pj2 (Option.some.inj ht4)
        exact mσ
      · have hf4 := ite_f hc4 ht3
        obtain ⟨σ1, hv5, eh5⟩ := obi_some hf4
        have mσ1 : modi [49, 50] σ σ1 := mσ.tr (mX9_pairs hv5) (by decide)
        obtain ⟨hb6, eh6⟩ := grd_some eh5
        by_cases hc7 : (σ1 (49, 0) (tn a1)) = 0
        · have ht7 := ite_t hc7 eh6
          obtain ⟨rfl, rfl⟩ := pj2 (Option.some.inj ht7)
          exact mσ1
        · have hf7 := ite_f hc7 eh6
          obtain ⟨y8, hx8, hy8⟩ := bj_some hf7
          have hJ8 : ∀ (x2 : Int32) (x3 : Int32), y8 = .inr (x2, x3) → modi [49, 50] σ σ' := by
            intro x2 x3 ey8
            have hq8 := bj_r ey8 hy8
            by_cases hc8 : a3 = x2
            · have ht8 := ite_t hc8 hq8
              obtain ⟨rfl, rfl⟩ := pj2 (Option.some.inj ht8)
              exact mσ1
            · have hf8 := ite_f hc8 hq8
              obtain ⟨rfl, rfl⟩ := pj2 (Option.some.inj hf8)
              exact mσ1
          refine lpF_md (I := fun (q : Int32) => match q with | x4 => True) ?_ hx8 trivial
          rintro x4 w9 hx9 hI9 lc9 lx9
          by_cases hc9 : x4 = 0
          · have ht9 := ite_t hc9 hx9
            have e10 := congrArg some (lx9 _ (Option.some.inj ht9).symm)
            have e11 := bj_l e10 hy8
            obtain ⟨rfl, rfl⟩ := pj2 (Option.some.inj e11)
            exact mσ1
          · have hf9 := ite_f hc9 hx9
            obtain ⟨x5, hv12, eh12⟩ := obi_some hf9
            obtain ⟨x6, hv13, eh13⟩ := bnd_ex eh12
            obtain ⟨x7, hx15, hq15⟩ := obi_some eh13
            by_cases hc14 : a3 = x5
            · have ht14 := ite_t hc14 hq15
              have e15 := congrArg some (lx9 _ (Option.some.inj ht14).symm)
              exact hJ8 _ _ (Option.some.inj e15).symm
            · have hf14 := ite_f hc14 hq15
              by_cases hc16 : a3 = x7
              · have ht16 := ite_t hc16 hf14
                have e17 := congrArg some (lx9 _ (Option.some.inj ht16).symm)
                exact hJ8 _ _ (Option.some.inj e17).symm
              · have hf16 := ite_f hc16 hf14
                obtain ⟨x11, hv18, eh18⟩ := bnd_ex hf16
                exact lc9 _ (Option.some.inj eh18).symm trivial
    · have hf3 := ite_f hc3 ht2
      obtain ⟨rfl, rfl⟩ := pj2 (Option.some.inj hf3)
      exact mσ
  · have hf2 := ite_f hc2 eh1
    obtain ⟨rfl, rfl⟩ := pj2 (Option.some.inj hf2)
    exact mσ

set_option maxRecDepth 20000 in
set_option maxHeartbeats 1000000 in
theorem mX9_cup {σ : St} {a1 : Int32} {a2 : Int32} {v0 : Int32} {σ' : St} (h : fX9_cup σ a1 a2 = some (v0, σ')) : modi [49, 50] σ σ' := by
  have mσ : modi [49, 50] σ σ := modi.rf
  unfold fX9_cup at h
  obtain ⟨x1, hv1, eh1⟩ := obi_some h
  by_cases hc2 : x1 = true
  · have ht2 := ite_t hc2 eh1
    obtain ⟨σ1, hv3, eh3⟩ := obi_some ht2
    have mσ1 : modi [49, 50] σ σ1 := mσ.tr (mX9_pairs hv3) (by decide)
    obtain ⟨hb4, eh4⟩ := grd_some eh3
    by_cases hc5 : (σ1 (49, 0) (tn a1)) = 0
    · have ht5 := ite_t hc5 eh4
      obtain ⟨rfl, rfl⟩ := pj2 (Option.some.inj ht5)
      exact mσ1
    · have hf5 := ite_f hc5 eh4
      obtain ⟨hb6, eh6⟩ := grd_some hf5
      obtain ⟨rfl, rfl⟩ := pj2 (Option.some.inj eh6)
      exact mσ1
  · have hf2 := ite_f hc2 eh1
    obtain ⟨rfl, rfl⟩ := pj2 (Option.some.inj hf2)
    exact mσ

set_option maxRecDepth 20000 in
set_option maxHeartbeats 1000000 in
theorem mX9_sheet {σ : St} {a1 : Int32} {a2 : Int32} {a3 : Int32} {v0 : Int32} {σ' : St} (h : fX9_sheet σ a1 a2 a3 = some (v0, σ')) : modi [51, 52, 53, 54, 1944] σ σ' := by
  have mσ : modi [51, 52, 53, 54, 1944] σ σ := modi.rf
  unfold fX9_sheet at h
  by_cases hc1 : (fX9_isSheet a1) = true
  · have ht1 := ite_t hc1 h
    by_cases hc2 : (fX9_in a2 (0 : Int32) (2 : Int32)) = true
    · have ht2 := ite_t hc2 ht1
      by_cases hc3 : a3 ≤ (60 : Int32)
      · have ht3 := ite_t hc3 ht2
        by_cases hc4 : 0 ≤ a3
        · have ht4 := ite_t hc4 ht3
          obtain ⟨hb5, eh5⟩ := grd_some ht4
          obtain ⟨σ1, hv6, eh6⟩ := bnd_ex eh5
          have mσ1 : modi [51, 52, 53, 54, 1944] σ σ1 := hv6 ▸ modi.sr mσ (show ¬ (51 : Nat) < 10 by decide) (show (51 : Nat) ∈ ([51, 52, 53, 54, 1944] : List Nat) by decide)
          obtain ⟨hb7, eh7⟩ := grd_some eh6
          obtain ⟨σ2, hv8, eh8⟩ := bnd_ex eh7
          have mσ2 : modi [51, 52, 53, 54, 1944] σ σ2 := hv8 ▸ modi.sr mσ1 (show ¬ (52 : Nat) < 10 by decide) (show (52 : Nat) ∈ ([51, 52, 53, 54, 1944] : List Nat) by decide)
          obtain ⟨hb9, eh9⟩ := grd_some eh8
          obtain ⟨σ3, hv10, eh10⟩ := bnd_ex eh9
          have mσ3 : modi [51, 52, 53, 54, 1944] σ σ3 := hv10 ▸ modi.sr mσ2 (show ¬ (53 : Nat) < 10 by decide) (show (53 : Nat) ∈ ([51, 52, 53, 54, 1944] : List Nat) by decide)
          refine lpF_md (I := fun (q : Int32 × St) => match q with | (x1, σ4) => modi [51, 52, 53, 54, 1944] σ σ4) ?_ eh10 mσ3
          rintro ⟨x1, σ4⟩ w11 hx11 mσ4 lc11 lx11
          replace mσ4 : modi [51, 52, 53, 54, 1944] σ σ4 := mσ4
          by_cases hc11 : (60 : Int32) ≤ x1
          · have ht11 := ite_t hc11 hx11
            have e12 := congrArg some (lx11 _ (Option.some.inj ht11).symm)
            obtain ⟨rfl, rfl⟩ := pj2 (Option.some.inj e12)
            exact mσ4
          · have hf11 := ite_f hc11 hx11
            obtain ⟨hb13, eh13⟩ := grd_some hf11
            obtain ⟨σ5, hv14, eh14⟩ := bnd_ex eh13
            have mσ5 : modi [51, 52, 53, 54, 1944] σ σ5 := hv14 ▸ modi.sr mσ4 (show ¬ (54 : Nat) < 10 by decide) (show (54 : Nat) ∈ ([51, 52, 53, 54, 1944] : List Nat) by decide)
            obtain ⟨x2, hv15, eh15⟩ := bnd_ex eh14
            exact lc11 _ (Option.some.inj eh15).symm mσ5
        · have hf4 := ite_f hc4 ht3
          obtain ⟨⟨x3, σ6⟩, hv16, eh16⟩ := bnd_ex hf4
          have mσ6 : modi [51, 52, 53, 54, 1944] σ σ6 := mσ.tr (mX9_meets hv16) (by decide)
          obtain ⟨rfl, rfl⟩ := pj2 (Option.some.inj eh16)
          exact mσ6
      · have hf3 := ite_f hc3 ht2
        obtain ⟨rfl, rfl⟩ := pj2 (Option.some.inj hf3)
        exact mσ
    · have hf2 := ite_f hc2 ht1
      obtain ⟨rfl, rfl⟩ := pj2 (Option.some.inj hf2)
      exact mσ
  · have hf1 := ite_f hc1 h
    obtain ⟨rfl, rfl⟩ := pj2 (Option.some.inj hf1)
    exact mσ

set_option maxRecDepth 20000 in
set_option maxHeartbeats 1000000 in
theorem mX9_lose {σ : St} {a1 : Int32} {v0 : Int32} {σ' : St} (h : fX9_lose σ a1 = some (v0, σ')) : modi [51, 1944] σ σ' := by
  have mσ : modi [51, 1944] σ σ := modi.rf
  unfold fX9_lose at h
  by_cases hc1 : (fX9_isSheet a1) = true
  · have ht1 := ite_t hc1 h
    obtain ⟨hb2, eh2⟩ := grd_some ht1
    by_cases hc3 : (σ (51, 0) (tn a1)) = 0
    · have ht3 := ite_t hc3 eh2
      obtain ⟨⟨x1, σ2⟩, hv4, eh4⟩ := bnd_ex ht3
      have mσ2 : modi [51, 1944] σ σ2 := mσ.tr (mX9_meets hv4) (by decide)
      obtain ⟨rfl, rfl⟩ := pj2 (Option.some.inj eh4)
      exact mσ2
    · have hf3 := ite_f hc3 eh2
      obtain ⟨hb5, eh5⟩ := grd_some hf3
      obtain ⟨σ1, hv6, eh6⟩ := bnd_ex eh5
      have mσ1 : modi [51, 1944] σ σ1 := hv6 ▸ modi.sr mσ (show ¬ (51 : Nat) < 10 by decide) (show (51 : Nat) ∈ ([51, 1944] : List Nat) by decide)
      obtain ⟨hb7, eh7⟩ := grd_some eh6
      obtain ⟨rfl, rfl⟩ := pj2 (Option.some.inj eh7)
      exact mσ1
  · have hf1 := ite_f hc1 h
    obtain ⟨rfl, rfl⟩ := pj2 (Option.some.inj hf1)
    exact mσ

set_option maxRecDepth 20000 in
set_option maxHeartbeats 1000000 in
theorem mX9_keep {σ : St} {a1 : Int32} {a2 : Int32} {a3 : Int32} {σ' : St} (h : fX9_keep σ a1 a2 a3 = some σ') : modi [54] σ σ' := by
  have mσ : modi [54] σ σ := modi.rf
  unfold fX9_keep at h
  obtain ⟨hb1, eh1⟩ := grd_some h
  obtain ⟨x1, hx2, hq2⟩ := obi_some eh1
  obtain ⟨hb2, eh2⟩ := grd_some hq2
  obtain ⟨σ1, hv3, eh3⟩ := bnd_ex eh2
  have mσ1 : modi [54] σ σ1 := hv3 ▸ modi.sr mσ (show ¬ (54 : Nat) < 10 by decide) (show (54 : Nat) ∈ ([54] : List Nat) by decide)
  obtain rfl := (Option.some.inj eh3)
  exact mσ1

set_option maxRecDepth 20000 in
set_option maxHeartbeats 1000000 in
theorem mX9_lay {σ : St} {a1 : Int32} {a2 : Int32} {a3 : Int32} {a4 : Int32} {v0 : Int32} {σ' : St} (h : fX9_lay σ a1 a2 a3 a4 = some (v0, σ')) : modi [54, 1944] σ σ' := by
  have mσ : modi [54, 1944] σ σ := modi.rf
  unfold fX9_lay at h
  by_cases hc1 : (fX9_isSheet a1) = true
  · have ht1 := ite_t hc1 h
    by_cases hc2 : (fX9_in a2 (0 : Int32) (2 : Int32)) = true
    · have ht2 := ite_t hc2 ht1
      obtain ⟨x1, hv3, eh3⟩ := obi_some ht2
      by_cases hc4 : x1 ≤ 0
      · have ht4 := ite_t hc4 eh3
        obtain ⟨σ1, hv5, eh5⟩ := obi_some ht4
        have mσ1 : modi [54, 1944] σ σ1 := mσ.tr (mX9_keep hv5) (by decide)
        obtain ⟨rfl, rfl⟩ := pj2 (Option.some.inj eh5)
        exact mσ1
      · have hf4 := ite_f hc4 eh3
        obtain ⟨⟨x2, σ2⟩, hv6, eh6⟩ := bnd_ex hf4
        have mσ2 : modi [54, 1944] σ σ2 := mσ.tr (mX9_meets hv6) (by decide)
        obtain ⟨rfl, rfl⟩ := pj2 (Option.some.inj eh6)
        exact mσ2
    · have hf2 := ite_f hc2 ht1
      obtain ⟨rfl, rfl⟩ := pj2 (Option.some.inj hf2)
      exact mσ
  · have hf1 := ite_f hc1 h
    obtain ⟨rfl, rfl⟩ := pj2 (Option.some.inj hf1)
    exact mσ

set_option maxRecDepth 20000 in
set_option maxHeartbeats 1000000 in
theorem mX9_get {σ : St} {a1 : Int32} {a2 : Int32} {a3 : Int32} {v0 : Int32} {σ' : St} (h : fX9_get σ a1 a2 a3 = some (v0, σ')) : modi [1944] σ σ' := by
  have mσ : modi [1944] σ σ := modi.rf
  unfold fX9_get at h
  obtain ⟨y1, hx1, hy1⟩ := bj_some h
  have hJ1 : ∀ (σ1 : St), y1 = .inr σ1 → modi [1944] σ σ1 → modi [1944] σ σ' := by
    intro σ1 ey1 mσ1
    have hq1 := bj_r ey1 hy1
    obtain ⟨rfl, rfl⟩ := pj2 (Option.some.inj hq1)
    exact mσ1
  by_cases hc1 : (fX9_isSheet a1) = true
  · have ht1 := ite_t hc1 hx1
    by_cases hc2 : (fX9_in a2 (0 : Int32) (2 : Int32)) = true
    · have ht2 := ite_t hc2 ht1
      obtain ⟨x1, hv3, eh3⟩ := obi_some ht2
      by_cases hc4 : x1 ≤ 0
      · have ht4 := ite_t hc4 eh3
        obtain ⟨hb5, eh5⟩ := grd_some ht4
        have e6 := bj_l eh5 hy1
        obtain ⟨rfl, rfl⟩ := pj2 (Option.some.inj e6)
        exact mσ
      · have hf4 := ite_f hc4 eh3
        obtain ⟨σ2, hv7, eh7⟩ := bnd_ex hf4
        have mσ2 : modi [1944] σ σ2 := hv7 ▸ modi.su mσ (show (1944 : Nat) ∈ ([1944] : List Nat) by decide)
        have e8 := bj_l eh7 hy1
        obtain ⟨rfl, rfl⟩ := pj2 (Option.some.inj e8)
        exact mσ2
    · have hf2 := ite_f hc2 ht1
      exact hJ1 _ (Option.some.inj hf2).symm mσ
  · have hf1 := ite_f hc1 hx1
    exact hJ1 _ (Option.some.inj hf1).symm mσ

set_option maxRecDepth 20000 in
set_option maxHeartbeats 1000000 in
theorem mX9_copy {σ : St} {a1 : Int32} {a2 : Int32} {a3 : Int32} {a4 : Int32} {a5 : Int32} {v0 : Int32} {σ' : St} (h : fX9_copy σ a1 a2 a3 a4 a5 = some (v0, σ')) : modi [54, 55, 1944] σ σ' := by
  have mσ : modi [54, 55, 1944] σ σ := modi.rf
  unfold fX9_copy at h
  by_cases hc1 : (fX9_isSheet a1) = true
  · have ht1 := ite_t hc1 h
    by_cases hc2 : (fX9_isSheet a3) = true
    · have ht2 := ite_t hc2 ht1
      obtain ⟨hb3, eh3⟩ := grd_some ht2
      obtain ⟨y4, hx4, hy4⟩ := bj_some eh3
      have hJ4 : ∀ (σ1 : St), y4 = .inr σ1 → modi [54, 55, 1944] σ σ1 → modi [54, 55, 1944] σ σ' := by
        intro σ1 ey4 mσ1
        have hq4 := bj_r ey4 hy4
        obtain ⟨⟨x7, σ10⟩, hv4, eh4⟩ := bnd_ex hq4
        have mσ10 : modi [54, 55, 1944] σ σ10 := mσ1.tr (mX9_meets hv4) (by decide)
        obtain ⟨rfl, rfl⟩ := pj2 (Option.some.inj eh4)
        exact mσ10
      by_cases hc5 : (σ (51, 0) (tn a1)) = 0
      · have ht5 := ite_t hc5 hx4
        exact hJ4 _ (Option.some.inj ht5).symm mσ
      · have hf5 := ite_f hc5 hx4
        obtain ⟨hb6, eh6⟩ := grd_some hf5
        by_cases hc7 : (σ (51, 0) (tn a3)) = 0
        · have ht7 := ite_t hc7 eh6
          exact hJ4 _ (Option.some.inj ht7).symm mσ
        · have hf7 := ite_f hc7 eh6
          obtain ⟨hb8, eh8⟩ := grd_some hf7
          obtain ⟨hb9, eh9⟩ := grd_some eh8
          by_cases hc10 : (σ (52, 0) (tn a1)) = (σ (52, 0) (tn a3))
          · have ht10 := ite_t hc10 eh9
            obtain ⟨y11, hx11, hy11⟩ := bj_some ht10
            have hJ11 : ∀ (σ2 : St), y11 = .inr σ2 → modi [54, 55, 1944] σ σ2 → modi [54, 55, 1944] σ σ' := by
              intro σ2 ey11 mσ2
              have hq11 := bj_r ey11 hy11
              obtain ⟨⟨x5, σ8⟩, hv11, eh11⟩ := bnd_ex hq11
              have mσ8 : modi [54, 55, 1944] σ σ8 := mσ2.tr (mX9_meets hv11) (by decide)
              have e12 := bj_l eh11 hy4
              obtain ⟨rfl, rfl⟩ := pj2 (Option.some.inj e12)
              exact mσ8
            by_cases hc13 : a2 < 0
            · have ht13 := ite_t hc13 hx11
              exact hJ11 _ (Option.some.inj ht13).symm mσ
            · have hf13 := ite_f hc13 hx11
              by_cases hc14 : a4 < 0
              · have ht14 := ite_t hc14 hf13
                exact hJ11 _ (Option.some.inj ht14).symm mσ
              · have hf14 := ite_f hc14 hf13
                by_cases hc15 : a5 < 0
                · have ht15 := ite_t hc15 hf14
                  exact hJ11 _ (Option.some.inj ht15).symm mσ
                · have hf15 := ite_f hc15 hf14
                  obtain ⟨hb16, eh16⟩ := grd_some hf15
                  by_cases hc17 : 0 < (lg_cmp (a2.toInt64 + a5.toInt64) ((σ (53, 0) (tn a1)).toInt64))
                  · have ht17 := ite_t hc17 eh16
                    exact hJ11 _ (Option.some.inj ht17).symm mσ
                  · have hf17 := ite_f hc17 eh16
                    obtain ⟨hb18, eh18⟩ := grd_some hf17
                    by_cases hc19 : (lg_cmp (a4.toInt64 + a5.toInt64) ((σ (53, 0) (tn a3)).toInt64)) ≤ 0
                    · have ht19 := ite_t hc19 eh18
                      obtain ⟨σ3, hx19, hq19⟩ := obi_some ht19
                      have mσ3 : modi [54, 55, 1944] σ σ3 := by
                        refine lpF_md (I := fun (q : Int32 × St) => match q with | (x1, σ4) => modi [54, 55, 1944] σ σ4) ?_ hx19 mσ
                        rintro ⟨x1, σ4⟩ w20 hx20 mσ4 lc20 lx20
                        replace mσ4 : modi [54, 55, 1944] σ σ4 := mσ4
                        by_cases hc20 : a5 ≤ x1
                        · have ht20 := ite_t hc20 hx20
                          have e21 := congrArg some (lx20 _ (Option.some.inj ht20).symm)
                          obtain rfl := (Option.some.inj e21)
                          exact mσ4
                        · have hf20 := ite_f hc20 hx20
                          obtain ⟨hb22, eh22⟩ := grd_some hf20
                          obtain ⟨hb23, eh23⟩ := grd_some eh22
                          obtain ⟨σ5, hv24, eh24⟩ := bnd_ex eh23
                          have mσ5 : modi [54, 55, 1944] σ σ5 := hv24 ▸ modi.sr mσ4 (show ¬ (55 : Nat) < 10 by decide) (show (55 : Nat) ∈ ([54, 55, 1944] : List Nat) by decide)
                          obtain ⟨x2, hv25, eh25⟩ := bnd_ex eh24
                          exact lc20 _ (Option.some.inj eh25).symm mσ5
                      refine lpF_md (I := fun (q : Int32 × St) => match q with | (x3, σ6) => modi [54, 55, 1944] σ σ6) ?_ hq19 mσ3
                      rintro ⟨x3, σ6⟩ w27 hx27 mσ6 lc27 lx27
                      replace mσ6 : modi [54, 55, 1944] σ σ6 := mσ6
                      by_cases hc26 : a5 ≤ x3
                      · have ht26 := ite_t hc26 hx27
                        have e27 := congrArg some (lx27 _ (Option.some.inj ht26).symm)
                        have e28 := bj_l e27 hy11
                        have e29 := bj_l e28 hy4
                        obtain ⟨rfl, rfl⟩ := pj2 (Option.some.inj e29)
                        exact mσ6
                      · have hf26 := ite_f hc26 hx27
                        obtain ⟨hb30, eh30⟩ := grd_some hf26
                        obtain ⟨hb31, eh31⟩ := grd_some eh30
                        obtain ⟨σ7, hv32, eh32⟩ := bnd_ex eh31
                        have mσ7 : modi [54, 55, 1944] σ σ7 := hv32 ▸ modi.sr mσ6 (show ¬ (54 : Nat) < 10 by decide) (show (54 : Nat) ∈ ([54, 55, 1944] : List Nat) by decide)
                        obtain ⟨x4, hv33, eh33⟩ := bnd_ex eh32
                        exact lc27 _ (Option.some.inj eh33).symm mσ7
                    · have hf19 := ite_f hc19 eh18
                      exact hJ11 _ (Option.some.inj hf19).symm mσ
          · have hf10 := ite_f hc10 eh9
            obtain ⟨⟨x6, σ9⟩, hv34, eh34⟩ := bnd_ex hf10
            have mσ9 : modi [54, 55, 1944] σ σ9 := mσ.tr (mX9_meets hv34) (by decide)
            have e35 := bj_l eh34 hy4
            obtain ⟨rfl, rfl⟩ := pj2 (Option.some.inj e35)
            exact mσ9
    · have hf2 := ite_f hc2 ht1
      obtain ⟨rfl, rfl⟩ := pj2 (Option.some.inj hf2)
      exact mσ
  · have hf1 := ite_f hc1 h
    obtain ⟨rfl, rfl⟩ := pj2 (Option.some.inj hf1)
    exact mσ

set_option maxRecDepth 20000 in
set_option maxHeartbeats 1000000 in
theorem mX9_write {σ : St} {a1 : Int32} {a2 : Int32} {a3 : Int32} {v0 : Int32} {σ' : St} (h : fX9_write σ a1 a2 a3 = some (v0, σ')) : modi [31, 32, 33, 34, 35, 40, 41, 42, 43, 54, 1906, 1907, 1908, 1910, 1911, 1912, 1913, 1914, 1944] σ σ' := by
  have mσ : modi [31, 32, 33, 34, 35, 40, 41, 42, 43, 54, 1906, 1907, 1908, 1910, 1911, 1912, 1913, 1914, 1944] σ σ := modi.rf
  unfold fX9_write at h
  by_cases hc1 : (fX9_isCode a1) = true
  · have ht1 := ite_t hc1 h
    by_cases hc2 : (fX9_isCode a2) = true
    · have ht2 := ite_t hc2 ht1
      by_cases hc3 : (fX9_isSheet a3) = true
      · have ht3 := ite_t hc3 ht2
        obtain ⟨hb4, eh4⟩ := grd_some ht3
        by_cases hc5 : (σ (51, 0) (tn a3)) = 0
        · have ht5 := ite_t hc5 eh4
          obtain ⟨⟨x4, σ4⟩, hv6, eh6⟩ := bnd_ex ht5
          have mσ4 : modi [31, 32, 33, 34, 35, 40, 41, 42, 43, 54, 1906, 1907, 1908, 1910, 1911, 1912, 1913, 1914, 1944] σ σ4 := mσ.tr (mX9_meets hv6) (by decide)
          obtain ⟨rfl, rfl⟩ := pj2 (Option.some.inj eh6)
          exact mσ4
        · have hf5 := ite_f hc5 eh4
          obtain ⟨⟨x1, σ1⟩, hv7, eh7⟩ := obi_some hf5
          have mσ1 : modi [31, 32, 33, 34, 35, 40, 41, 42, 43, 54, 1906, 1907, 1908, 1910, 1911, 1912, 1913, 1914, 1944] σ σ1 := mσ.tr (mX9_partsOf hv7) (by decide)
          refine lpF_md (I := fun (q : Int32 × St) => match q with | (x2, σ2) => modi [31, 32, 33, 34, 35, 40, 41, 42, 43, 54, 1906, 1907, 1908, 1910, 1911, 1912, 1913, 1914, 1944] σ σ2) ?_ eh7 mσ1
          rintro ⟨x2, σ2⟩ w7 hx7 mσ2 lc7 lx7
          replace mσ2 : modi [31, 32, 33, 34, 35, 40, 41, 42, 43, 54, 1906, 1907, 1908, 1910, 1911, 1912, 1913, 1914, 1944] σ σ2 := mσ2
          by_cases hc8 : x1 ≤ x2
          · have ht8 := ite_t hc8 hx7
            have e9 := congrArg some (lx7 _ (Option.some.inj ht8).symm)
            obtain ⟨rfl, rfl⟩ := pj2 (Option.some.inj e9)
            exact mσ2
          · have hf8 := ite_f hc8 hx7
            obtain ⟨hb10, eh10⟩ := grd_some hf8
            by_cases hc11 : (σ2 (53, 0) (tn a3)) ≤ x2
            · have ht11 := ite_t hc11 eh10
              have e12 := congrArg some (lx7 _ (Option.some.inj ht11).symm)
              obtain ⟨rfl, rfl⟩ := pj2 (Option.some.inj e12)
              exact mσ2
            · have hf11 := ite_f hc11 eh10
              obtain ⟨hb13, eh13⟩ := grd_some hf11
              obtain ⟨σ3, hv14, eh14⟩ := obi_some eh13
              have mσ3 : modi [31, 32, 33, 34, 35, 40, 41, 42, 43, 54, 1906, 1907, 1908, 1910, 1911, 1912, 1913, 1914, 1944] σ σ3 := mσ2.tr (mX9_keep hv14) (by decide)
              obtain ⟨x3, hv15, eh15⟩ := bnd_ex eh14
              exact lc7 _ (Option.some.inj eh15).symm mσ3
      · have hf3 := ite_f hc3 ht2
        obtain ⟨rfl, rfl⟩ := pj2 (Option.some.inj hf3)
        exact mσ
    · have hf2 := ite_f hc2 ht1
      obtain ⟨rfl, rfl⟩ := pj2 (Option.some.inj hf2)
      exact mσ
  · have hf1 := ite_f hc1 h
    obtain ⟨rfl, rfl⟩ := pj2 (Option.some.inj hf1)
    exact mσ

set_option maxRecDepth 20000 in
set_option maxHeartbeats 1000000 in
theorem mX9_digest {σ : St}  {v0 : Int64} {σ' : St} (h : fX9_digest σ  = some (v0, σ')) : modi [31, 32, 33, 34, 35, 40, 41, 42, 43, 1906, 1907, 1908, 1910, 1911, 1912, 1913, 1914, 1920, 1921, 1922, 1923] σ σ' := by
  have mσ : modi [31, 32, 33, 34, 35, 40, 41, 42, 43, 1906, 1907, 1908, 1910, 1911, 1912, 1913, 1914, 1920, 1921, 1922, 1923] σ σ := modi.rf
  unfold fX9_digest at h
  obtain ⟨x1, hx1, hq1⟩ := obi_some h
  obtain ⟨⟨x7, σ1⟩, hx8, hq8⟩ := obi_some hq1
  have mσ1 : modi [31, 32, 33, 34, 35, 40, 41, 42, 43, 1906, 1907, 1908, 1910, 1911, 1912, 1913, 1914, 1920, 1921, 1922, 1923] σ σ1 := by
    refine lpF_md (I := fun (q : Int64 × Int32 × St) => match q with | (x8, x9, σ2) => modi [31, 32, 33, 34, 35, 40, 41, 42, 43, 1906, 1907, 1908, 1910, 1911, 1912, 1913, 1914, 1920, 1921, 1922, 1923] σ σ2) ?_ hx8 mσ
    rintro ⟨x8, x9, σ2⟩ w9 hx9 mσ2 lc9 lx9
    replace mσ2 : modi [31, 32, 33, 34, 35, 40, 41, 42, 43, 1906, 1907, 1908, 1910, 1911, 1912, 1913, 1914, 1920, 1921, 1922, 1923] σ σ2 := mσ2
    by_cases hc1 : (11 : Int32) ≤ x9
    · have ht1 := ite_t hc1 hx9
      have e2 := congrArg some (lx9 _ (Option.some.inj ht1).symm)
      obtain ⟨rfl, rfl⟩ := pj2 (Option.some.inj e2)
      exact mσ2
    · have hf1 := ite_f hc1 hx9
      obtain ⟨⟨x10, σ3⟩, hv3, eh3⟩ := obi_some hf1
      have mσ3 : modi [31, 32, 33, 34, 35, 40, 41, 42, 43, 1906, 1907, 1908, 1910, 1911, 1912, 1913, 1914, 1920, 1921, 1922, 1923] σ σ3 := mσ2.tr (mX9_faultOf hv3) (by decide)
      obtain ⟨x11, hv4, eh4⟩ := bnd_ex eh3
      obtain ⟨x12, hv5, eh5⟩ := bnd_ex eh4
      exact lc9 _ (Option.some.inj eh5).symm mσ3
  obtain ⟨⟨x13, σ4⟩, hx15, hq15⟩ := obi_some hq8
  have mσ4 : modi [31, 32, 33, 34, 35, 40, 41, 42, 43, 1906, 1907, 1908, 1910, 1911, 1912, 1913, 1914, 1920, 1921, 1922, 1923] σ σ4 := by
    refine lpF_md (I := fun (q : Int64 × Int32 × St) => match q with | (x14, x15, σ5) => modi [31, 32, 33, 34, 35, 40, 41, 42, 43, 1906, 1907, 1908, 1910, 1911, 1912, 1913, 1914, 1920, 1921, 1922, 1923] σ σ5) ?_ hx15 mσ1
    rintro ⟨x14, x15, σ5⟩ w16 hx16 mσ5 lc16 lx16
    replace mσ5 : modi [31, 32, 33, 34, 35, 40, 41, 42, 43, 1906, 1907, 1908, 1910, 1911, 1912, 1913, 1914, 1920, 1921, 1922, 1923] σ σ5 := mσ5
    by_cases hc6 : (σ5 (9, 0) 15) ≤ x15
    · have ht6 := ite_t hc6 hx16
      have e7 := congrArg some (lx16 _ (Option.some.inj ht6).symm)
      obtain ⟨rfl, rfl⟩ := pj2 (Option.some.inj e7)
      exact mσ5
    · have hf6 := ite_f hc6 hx16
      obtain ⟨σ6, hv8, eh8⟩ := obi_some hf6
      have mσ6 : modi [31, 32, 33, 34, 35, 40, 41, 42, 43, 1906, 1907, 1908, 1910, 1911, 1912, 1913, 1914, 1920, 1921, 1922, 1923] σ σ6 := mσ5.tr (mX9_mix hv8) (by decide)
      obtain ⟨σ7, hv9, eh9⟩ := obi_some eh8
      have mσ7 : modi [31, 32, 33, 34, 35, 40, 41, 42, 43, 1906, 1907, 1908, 1910, 1911, 1912, 1913, 1914, 1920, 1921, 1922, 1923] σ σ7 := mσ6.tr (mX9_plays hv9) (by decide)
      obtain ⟨x16, hx21, hq21⟩ := obi_some eh9
      obtain ⟨x21, hv10, eh10⟩ := bnd_ex hq21
      exact lc16 _ (Option.some.inj eh10).symm mσ7
  obtain ⟨x22, hx28, hq28⟩ := obi_some hq15
  obtain ⟨x28, hx37, hq37⟩ := obi_some hq28
  obtain ⟨⟨x33, σ8⟩, hv11, eh11⟩ := obi_some hq37
  have mσ8 : modi [31, 32, 33, 34, 35, 40, 41, 42, 43, 1906, 1907, 1908, 1910, 1911, 1912, 1913, 1914, 1920, 1921, 1922, 1923] σ σ8 := mσ4.tr (mX9_fittingNow hv11) (by decide)
  obtain ⟨x34, hv12, eh12⟩ := bnd_ex eh11
  obtain ⟨⟨x35, σ9⟩, hv13, eh13⟩ := obi_some eh12
  have mσ9 : modi [31, 32, 33, 34, 35, 40, 41, 42, 43, 1906, 1907, 1908, 1910, 1911, 1912, 1913, 1914, 1920, 1921, 1922, 1923] σ σ9 := mσ8.tr (mX9_partsOf hv13) (by decide)
  obtain ⟨rfl, rfl⟩ := pj2 (Option.some.inj eh13)
  exact mσ9

