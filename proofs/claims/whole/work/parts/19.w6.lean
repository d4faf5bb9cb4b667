set_option maxRecDepth 20000 in
theorem law_turn {K : Kx} (C : Cx K cL_law RL) (hR : RmOk K 11) {b L : Nat} {xs : Nat → Int32} (hX : SX K b L xs) (hL : L ≤ 3072) {i : Nat} (hi : i + 6 ≤ L) {σ : St} (hI : Iy σ) (cont : ∀ σ', Iy σ' → TW K 1749 (Ll K b i) [] σ') : ∀ {x : Int32} {j : Nat}, j < 64 → x = nI j → TW K 33 (Ll K b i) [.int x] σ := by
  intro x j hj hx
  by_cases c : 41 < j
  · refine tw_tabOut (tgt := 1749) C dL_law_33 (Or.inr ?_) (by decide) (cont σ hI)
    rw [hx, nI_toInt (by omega)]
    omega
  · have cs : j = 0 ∨ j = 1 ∨ j = 2 ∨ j = 3 ∨ j = 4 ∨ j = 5 ∨ j = 6 ∨ j = 7 ∨ j = 8 ∨ j = 9 ∨ j = 10 ∨ j = 11 ∨ j = 12 ∨ j = 13 ∨ j = 14 ∨ j = 15 ∨ j = 16 ∨ j = 17 ∨ j = 18 ∨ j = 19 ∨ j = 20 ∨ j = 21 ∨ j = 22 ∨ j = 23 ∨ j = 24 ∨ j = 25 ∨ j = 26 ∨ j = 27 ∨ j = 28 ∨ j = 29 ∨ j = 30 ∨ j = 31 ∨ j = 32 ∨ j = 33 ∨ j = 34 ∨ j = 35 ∨ j = 36 ∨ j = 37 ∨ j = 38 ∨ j = 39 ∨ j = 40 ∨ j = 41 := by omega
    rcases cs with rfl | rfl | rfl | rfl | rfl | rfl | rfl | rfl | rfl | rfl | rfl | rfl | rfl | rfl | rfl | rfl | rfl | rfl | rfl | rfl | rfl | rfl | rfl | rfl | rfl | rfl | rfl | rfl | rfl | rfl | rfl | rfl | rfl | rfl | rfl | rfl | rfl | rfl | rfl | rfl | rfl | rfl
    · exact tw_tabZ (tgt := 216) C dL_law_33 0 (by rw [hx]; rfl) (by decide) (by decide) rfl (by decide) (lc_0 C hR hX hL hi hI cont)
    · exact tw_tabZ (tgt := 249) C dL_law_33 1 (by rw [hx]; rfl) (by decide) (by decide) rfl (by decide) (lc_1 C hR hX hL hi hI cont)
    · exact tw_tabZ (tgt := 272) C dL_law_33 2 (by rw [hx]; rfl) (by decide) (by decide) rfl (by decide) (lc_2 C hR hX hL hi hI cont)
    · exact tw_tabZ (tgt := 295) C dL_law_33 3 (by rw [hx]; rfl) (by decide) (by decide) rfl (by decide) (lc_3 C hR hX hL hi hI cont)
    · exact tw_tabZ (tgt := 328) C dL_law_33 4 (by rw [hx]; rfl) (by decide) (by decide) rfl (by decide) (lc_4 C hR hX hL hi hI cont)
    · exact tw_tabZ (tgt := 371) C dL_law_33 5 (by rw [hx]; rfl) (by decide) (by decide) rfl (by decide) (lc_5 C hR hX hL hi hI cont)
    · exact tw_tabZ (tgt := 404) C dL_law_33 6 (by rw [hx]; rfl) (by decide) (by decide) rfl (by decide) (lc_6 C hR hX hL hi hI cont)
    · exact tw_tabZ (tgt := 437) C dL_law_33 7 (by rw [hx]; rfl) (by decide) (by decide) rfl (by decide) (lc_7 C hR hX hL hi hI cont)
    · exact tw_tabZ (tgt := 470) C dL_law_33 8 (by rw [hx]; rfl) (by decide) (by decide) rfl (by decide) (lc_8 C hR hX hL hi hI cont)
    · exact tw_tabZ (tgt := 533) C dL_law_33 9 (by rw [hx]; rfl) (by decide) (by decide) rfl (by decide) (lc_9 C hR hX hL hi hI cont)
    · exact tw_tabZ (tgt := 576) C dL_law_33 10 (by rw [hx]; rfl) (by decide) (by decide) rfl (by decide) (lc_10 C hR hX hL hi hI cont)
    · exact tw_tabZ (tgt := 609) C dL_law_33 11 (by rw [hx]; rfl) (by decide) (by decide) rfl (by decide) (lc_11 C hR hX hL hi hI cont)
    · exact tw_tabZ (tgt := 642) C dL_law_33 12 (by rw [hx]; rfl) (by decide) (by decide) rfl (by decide) (lc_12 C hR hX hL hi hI cont)
    · exact tw_tabZ (tgt := 675) C dL_law_33 13 (by rw [hx]; rfl) (by decide) (by decide) rfl (by decide) (lc_13 C hR hX hL hi hI cont)
    · exact tw_tabZ (tgt := 688) C dL_law_33 14 (by rw [hx]; rfl) (by decide) (by decide) rfl (by decide) (lc_14 C hR hX hL hi hI cont)
    · exact tw_tabZ (tgt := 721) C dL_law_33 15 (by rw [hx]; rfl) (by decide) (by decide) rfl (by decide) (lc_15 C hR hX hL hi hI cont)
    · exact tw_tabZ (tgt := 764) C dL_law_33 16 (by rw [hx]; rfl) (by decide) (by decide) rfl (by decide) (lc_16 C hR hX hL hi hI cont)
    · exact tw_tabZ (tgt := 797) C dL_law_33 17 (by rw [hx]; rfl) (by decide) (by decide) rfl (by decide) (lc_17 C hR hX hL hi hI cont)
    · exact tw_tabZ (tgt := 830) C dL_law_33 18 (by rw [hx]; rfl) (by decide) (by decide) rfl (by decide) (lc_18 C hR hX hL hi hI cont)
    · exact tw_tabZ (tgt := 873) C dL_law_33 19 (by rw [hx]; rfl) (by decide) (by decide) rfl (by decide) (lc_19 C hR hX hL hi hI cont)
    · exact tw_tabZ (tgt := 906) C dL_law_33 20 (by rw [hx]; rfl) (by decide) (by decide) rfl (by decide) (lc_20 C hR hX hL hi hI cont)
    · exact tw_tabZ (tgt := 939) C dL_law_33 21 (by rw [hx]; rfl) (by decide) (by decide) rfl (by decide) (lc_21 C hR hX hL hi hI cont)
    · exact tw_tabZ (tgt := 992) C dL_law_33 22 (by rw [hx]; rfl) (by decide) (by decide) rfl (by decide) (lc_22 C hR hX hL hi hI cont)
    · exact tw_tabZ (tgt := 1045) C dL_law_33 23 (by rw [hx]; rfl) (by decide) (by decide) rfl (by decide) (lc_23 C hR hX hL hi hI cont)
    · exact tw_tabZ (tgt := 1094) C dL_law_33 24 (by rw [hx]; rfl) (by decide) (by decide) rfl (by decide) (lc_24 C hR hX hL hi hI cont)
    · exact tw_tabZ (tgt := 1127) C dL_law_33 25 (by rw [hx]; rfl) (by decide) (by decide) rfl (by decide) (lc_25 C hR hX hL hi hI cont)
    · exact tw_tabZ (tgt := 1150) C dL_law_33 26 (by rw [hx]; rfl) (by decide) (by decide) rfl (by decide) (lc_26 C hR hX hL hi hI cont)
    · exact tw_tabZ (tgt := 1173) C dL_law_33 27 (by rw [hx]; rfl) (by decide) (by decide) rfl (by decide) (lc_27 C hR hX hL hi hI cont)
    · exact tw_tabZ (tgt := 1216) C dL_law_33 28 (by rw [hx]; rfl) (by decide) (by decide) rfl (by decide) (lc_28 C hR hX hL hi hI cont)
    · exact tw_tabZ (tgt := 1249) C dL_law_33 29 (by rw [hx]; rfl) (by decide) (by decide) rfl (by decide) (lc_29 C hR hX hL hi hI cont)
    · exact tw_tabZ (tgt := 1292) C dL_law_33 30 (by rw [hx]; rfl) (by decide) (by decide) rfl (by decide) (lc_30 C hR hX hL hi hI cont)
    · exact tw_tabZ (tgt := 1335) C dL_law_33 31 (by rw [hx]; rfl) (by decide) (by decide) rfl (by decide) (lc_31 C hR hX hL hi hI cont)
    · exact tw_tabZ (tgt := 1368) C dL_law_33 32 (by rw [hx]; rfl) (by decide) (by decide) rfl (by decide) (lc_32 C hR hX hL hi hI cont)
    · exact tw_tabZ (tgt := 1411) C dL_law_33 33 (by rw [hx]; rfl) (by decide) (by decide) rfl (by decide) (lc_33 C hR hX hL hi hI cont)
    · exact tw_tabZ (tgt := 1444) C dL_law_33 34 (by rw [hx]; rfl) (by decide) (by decide) rfl (by decide) (lc_34 C hR hX hL hi hI cont)
    · exact tw_tabZ (tgt := 1487) C dL_law_33 35 (by rw [hx]; rfl) (by decide) (by decide) rfl (by decide) (lc_35 C hR hX hL hi hI cont)
    · exact tw_tabZ (tgt := 1510) C dL_law_33 36 (by rw [hx]; rfl) (by decide) (by decide) rfl (by decide) (lc_36 C hR hX hL hi hI cont)
    · exact tw_tabZ (tgt := 1563) C dL_law_33 37 (by rw [hx]; rfl) (by decide) (by decide) rfl (by decide) (lc_37 C hR hX hL hi hI cont)
    · exact tw_tabZ (tgt := 1606) C dL_law_33 38 (by rw [hx]; rfl) (by decide) (by decide) rfl (by decide) (lc_38 C hR hX hL hi hI cont)
    · exact tw_tabZ (tgt := 1669) C dL_law_33 39 (by rw [hx]; rfl) (by decide) (by decide) rfl (by decide) (lc_39 C hR hX hL hi hI cont)
    · exact tw_tabZ (tgt := 1712) C dL_law_33 40 (by rw [hx]; rfl) (by decide) (by decide) rfl (by decide) (lc_40 C hR hX hL hi hI cont)
    · exact tw_tabZ (tgt := 1735) C dL_law_33 41 (by rw [hx]; rfl) (by decide) (by decide) rfl (by decide) (lc_41 C hR hX hL hi hI cont)
theorem law_loop {K : Kx} (C : Cx K cL_law RL) (hR : RmOk K 11) (hnL : nLof K = 4) {b L : Nat} {xs : Nat → Int32} (hX : SX K b L xs) (hL : L ≤ 3072) (done : ∀ i σ, TW K 1755 (Ll K b i) [] σ) : ∀ n i σ, i ≤ L + 6 → L + 6 - i < n → Iy σ → TW K 18 (Ll K b i) [] σ
  | 0, i, σ, _, h, _ => by omega
  | n + 1, i, σ, hi, hn, hI => by
    refine tw_iload_n (i := 3) (z := 3) C dL_law_18 rfl rfl ?_
    refine tw_aload_b (i := 0) (z := 0) C dL_law_19 rfl rfl ?_
    refine tw_slen C hX dL_law_20 ?_
    refine tw_bipush (v := 6) C dL_law_21 (by decide) ?_
    refine tw_isub C dL_law_23 ?_
    have t6 : (nI L - 6).toInt = (L : Int) - 6 := pk_sub_toInt (a := L) (b := 6) (by omega) (by decide)
    refine tw_ic_gt (tgt := 1755) C dL_law_24 (by decide) (fun _ => done i σ) (fun hc => ?_)
    have h6 : i + 6 ≤ L := by
      rw [i32_lt, t6, nI_toInt (by omega)] at hc
      omega
    refine tw_aload_b (i := 0) (z := 0) C dL_law_27 rfl rfl ?_
    refine tw_iload_n (i := 3) (z := 3) C dL_law_28 rfl rfl ?_
    refine tw_script (j := i) C hX (by omega) (by omega) rfl dL_law_29 ?_
    refine tw_bipush (v := 63) C dL_law_30 (by decide) ?_
    refine tw_iand C dL_law_32 ?_
    obtain ⟨j, hj, ej⟩ := pk_andE (xs i) (m := 63) 6 (by decide)
    refine law_turn C hR hX hL h6 hI (fun σ' hI' => ?_) hj ej
    refine tw_iinc (z := 3) (v := nI (i + 6)) (lv' := Ll K b (i + 6)) C [1, 2, 3, 0] dL_law_1749 rfl (nI_add i 6) (by rw [hnL]; decide) rfl ?_
    refine tw_goto (tgt := 18) C dL_law_1752 (by decide) ?_
    exact law_loop C hR hnL hX hL done n (i + 6) σ' (by omega) (by omega) hI'
