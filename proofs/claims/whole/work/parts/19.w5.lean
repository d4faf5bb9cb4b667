set_option maxRecDepth 20000 in
theorem lc_23 {K : Kx} (C : Cx K cL_law RL) (hR : RmOk K 11) {b L : Nat} {xs : Nat → Int32} (hX : SX K b L xs) (hL : L ≤ 3072) {i : Nat} (hi : i + 6 ≤ L) {σ : St} (hI : Iy σ) (cont : ∀ σ', Iy σ' → TW K 1749 (Ll K b i) [] σ') : TW K 1045 (Ll K b i) [] σ := by
  have key : ∀ (bb : Bool) (x2 : Int32), (x2 = 0 ↔ bb = false) → xs (i + 2) = x2 → TW K 1045 (Ll K b i) [] σ := by
    intro bb x2 hb hx2
    obtain ⟨v, s1, s2, e1, e2, hI2⟩ := oy_member hI (xs (i + 1)) bb
    have M : TW K 1067 (Ll K b i) [.int v] s1 := by
      refine tw_aload_n (i := 2) (z := 2) (r := (9, 0)) C dL_law_1067 rfl rfl ?_
      refine tw_aload_b (i := 0) (z := 0) C dL_law_1068 rfl rfl ?_
      refine tw_iload_n (i := 3) (z := 3) C dL_law_1069 rfl rfl ?_
      refine tw_iconst (v := 1) C dL_law_1070 (by decide) ?_
      refine tw_iadd C dL_law_1071 ?_
      refine tw_script (j := i + 1) C hX (by omega) (by omega) (nI_add i 1) dL_law_1072 ?_
      refine tw_aload_b (i := 0) (z := 0) C dL_law_1073 rfl rfl ?_
      refine tw_iload_n (i := 3) (z := 3) C dL_law_1074 rfl rfl ?_
      refine tw_iconst (v := 2) C dL_law_1075 (by decide) ?_
      refine tw_iadd C dL_law_1076 ?_
      refine tw_script (j := i + 2) C hX (by omega) (by omega) (nI_add i 2) dL_law_1077 ?_
      have call : TW K 1086 (Ll K b i) [.int (b2i bb), .int (xs (i + 1)), rv K (9, 0), .int v] s1 := by
        refine tw_callV (As := [.int (xs (i + 1)), .int (b2i bb)]) (rest := [.int v]) (r := (9, 0)) C hR (kX9_member K.1 _ (by omega) s1 (xs (i + 1)) bb e2) mi_X9_member is_X9_member se_X9_member ml_RL_115 (wcells_mem (f := 9) (j := 0) (by decide) (by decide)) rfl rfl rfl rfl (Nat.le_of_ble_eq_true rfl) dL_law_1086 ?_
        show TW K 1089 (Ll K b i) [.int v, .int v] s2
        exact tw_ic_eq (tgt := 1749) C dL_law_1089 (by decide) (fun _ => cont s2 hI2) (fun hne => absurd rfl hne)
      refine tw_if_eq (tgt := 1085) C dL_law_1078 (by decide) (fun hz => ?_) (fun hz => ?_)
      · have : bb = false := hb.1 (by rw [← hx2]; exact hz)
        subst this
        refine tw_iconst (v := 0) C dL_law_1085 (by decide) ?_
        exact call
      · have : bb = true := by
          cases bb with
          | true => rfl
          | false => exact absurd (hx2.trans (hb.2 rfl)) hz
        subst this
        refine tw_iconst (v := 1) C dL_law_1081 (by decide) ?_
        refine tw_goto (tgt := 1086) C dL_law_1082 (by decide) ?_
        exact call
    refine tw_aload_n (i := 1) (z := 1) (r := (8, 0)) C dL_law_1045 rfl rfl ?_
    refine tw_aload_b (i := 0) (z := 0) C dL_law_1046 rfl rfl ?_
    refine tw_iload_n (i := 3) (z := 3) C dL_law_1047 rfl rfl ?_
    refine tw_iconst (v := 1) C dL_law_1048 (by decide) ?_
    refine tw_iadd C dL_law_1049 ?_
    refine tw_script (j := i + 1) C hX (by omega) (by omega) (nI_add i 1) dL_law_1050 ?_
    refine tw_aload_b (i := 0) (z := 0) C dL_law_1051 rfl rfl ?_
    refine tw_iload_n (i := 3) (z := 3) C dL_law_1052 rfl rfl ?_
    refine tw_iconst (v := 2) C dL_law_1053 (by decide) ?_
    refine tw_iadd C dL_law_1054 ?_
    refine tw_script (j := i + 2) C hX (by omega) (by omega) (nI_add i 2) dL_law_1055 ?_
    have call : TW K 1064 (Ll K b i) [.int (b2i bb), .int (xs (i + 1)), rv K (8, 0)] σ := by
      refine tw_callV (As := [.int (xs (i + 1)), .int (b2i bb)]) (rest := []) (r := (8, 0)) C hR (kX8_member K.1 _ (by omega) σ (xs (i + 1)) bb e1) mi_X8_member is_X8_member se_X8_member ml_RL_111 (wcells_mem (f := 8) (j := 0) (by decide) (by decide)) rfl rfl rfl rfl (Nat.le_of_ble_eq_true rfl) dL_law_1064 ?_
      exact M
    refine tw_if_eq (tgt := 1063) C dL_law_1056 (by decide) (fun hz => ?_) (fun hz => ?_)
    · have : bb = false := hb.1 (by rw [← hx2]; exact hz)
      subst this
      refine tw_iconst (v := 0) C dL_law_1063 (by decide) ?_
      exact call
    · have : bb = true := by
        cases bb with
        | true => rfl
        | false => exact absurd (hx2.trans (hb.2 rfl)) hz
      subst this
      refine tw_iconst (v := 1) C dL_law_1059 (by decide) ?_
      refine tw_goto (tgt := 1064) C dL_law_1060 (by decide) ?_
      exact call
  by_cases c : xs (i + 2) = 0
  · exact key false (xs (i + 2)) ⟨fun _ => rfl, fun _ => c⟩ rfl
  · exact key true (xs (i + 2)) ⟨fun h => absurd h c, fun h => by cases h⟩ rfl
