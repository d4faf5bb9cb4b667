set_option maxRecDepth 20000 in
theorem lc_20 {K : Kx} (C : Cx K cL_law RL) (hR : RmOk K 11) {b L : Nat} {xs : Nat → Int32} (hX : SX K b L xs) (hL : L ≤ 3072) {i : Nat} (hi : i + 6 ≤ L) {σ : St} (hI : Iy σ) (cont : ∀ σ', Iy σ' → TW K 1749 (Ll K b i) [] σ') : TW K 906 (Ll K b i) [] σ := by
  refine tw_aload_n (i := 1) (z := 1) (r := (8, 0)) C dL_law_906 rfl rfl ?_
  refine tw_aload_b (i := 0) (z := 0) C dL_law_907 rfl rfl ?_
  refine tw_iload_n (i := 3) (z := 3) C dL_law_908 rfl rfl ?_
  refine tw_iconst (v := 1) C dL_law_909 (by decide) ?_
  refine tw_iadd C dL_law_910 ?_
  refine tw_script (j := i + 1) C hX (by omega) (by omega) (nI_add i 1) dL_law_911 ?_
  refine tw_aload_b (i := 0) (z := 0) C dL_law_912 rfl rfl ?_
  refine tw_iload_n (i := 3) (z := 3) C dL_law_913 rfl rfl ?_
  refine tw_iconst (v := 2) C dL_law_914 (by decide) ?_
  refine tw_iadd C dL_law_915 ?_
  refine tw_script (j := i + 2) C hX (by omega) (by omega) (nI_add i 2) dL_law_916 ?_
  obtain ⟨v, s2, e1, e2, hI2⟩ := oy_gives hI (xs (i + 1)) (xs (i + 2))
  refine tw_callV (As := [.int (xs (i + 1)), .int (xs (i + 2))]) (rest := []) (r := (8, 0)) C hR (kX8_gives K.1 _ (by omega) σ (xs (i + 1)) (xs (i + 2)) e1) mi_X8_gives is_X8_gives se_X8_gives ml_RL_98 (wcells_mem (f := 8) (j := 0) (by decide) (by decide)) rfl rfl rfl rfl (Nat.le_of_ble_eq_true rfl) dL_law_917 ?_
  show TW K 920 (Ll K b i) [.int v] σ
  refine tw_aload_n (i := 2) (z := 2) (r := (9, 0)) C dL_law_920 rfl rfl ?_
  refine tw_aload_b (i := 0) (z := 0) C dL_law_921 rfl rfl ?_
  refine tw_iload_n (i := 3) (z := 3) C dL_law_922 rfl rfl ?_
  refine tw_iconst (v := 1) C dL_law_923 (by decide) ?_
  refine tw_iadd C dL_law_924 ?_
  refine tw_script (j := i + 1) C hX (by omega) (by omega) (nI_add i 1) dL_law_925 ?_
  refine tw_aload_b (i := 0) (z := 0) C dL_law_926 rfl rfl ?_
  refine tw_iload_n (i := 3) (z := 3) C dL_law_927 rfl rfl ?_
  refine tw_iconst (v := 2) C dL_law_928 (by decide) ?_
  refine tw_iadd C dL_law_929 ?_
  refine tw_script (j := i + 2) C hX (by omega) (by omega) (nI_add i 2) dL_law_930 ?_
  refine tw_callV (As := [.int (xs (i + 1)), .int (xs (i + 2))]) (rest := [.int v]) (r := (9, 0)) C hR (kX9_gives K.1 _ (by omega) σ (xs (i + 1)) (xs (i + 2)) e2) mi_X9_gives is_X9_gives se_X9_gives ml_RL_101 (wcells_mem (f := 9) (j := 0) (by decide) (by decide)) rfl rfl rfl rfl (Nat.le_of_ble_eq_true rfl) dL_law_931 ?_
  show TW K 934 (Ll K b i) [.int v, .int v] s2
  exact tw_ic_eq (tgt := 1749) C dL_law_934 (by decide) (fun _ => cont s2 hI2) (fun hne => absurd rfl hne)
set_option maxRecDepth 20000 in
theorem lc_21 {K : Kx} (C : Cx K cL_law RL) (hR : RmOk K 11) {b L : Nat} {xs : Nat → Int32} (hX : SX K b L xs) (hL : L ≤ 3072) {i : Nat} (hi : i + 6 ≤ L) {σ : St} (hI : Iy σ) (cont : ∀ σ', Iy σ' → TW K 1749 (Ll K b i) [] σ') : TW K 939 (Ll K b i) [] σ := by
  refine tw_aload_n (i := 1) (z := 1) (r := (8, 0)) C dL_law_939 rfl rfl ?_
  refine tw_aload_b (i := 0) (z := 0) C dL_law_940 rfl rfl ?_
  refine tw_iload_n (i := 3) (z := 3) C dL_law_941 rfl rfl ?_
  refine tw_iconst (v := 1) C dL_law_942 (by decide) ?_
  refine tw_iadd C dL_law_943 ?_
  refine tw_script (j := i + 1) C hX (by omega) (by omega) (nI_add i 1) dL_law_944 ?_
  refine tw_aload_b (i := 0) (z := 0) C dL_law_945 rfl rfl ?_
  refine tw_iload_n (i := 3) (z := 3) C dL_law_946 rfl rfl ?_
  refine tw_iconst (v := 2) C dL_law_947 (by decide) ?_
  refine tw_iadd C dL_law_948 ?_
  refine tw_script (j := i + 2) C hX (by omega) (by omega) (nI_add i 2) dL_law_949 ?_
  refine tw_aload_b (i := 0) (z := 0) C dL_law_950 rfl rfl ?_
  refine tw_iload_n (i := 3) (z := 3) C dL_law_951 rfl rfl ?_
  refine tw_iconst (v := 3) C dL_law_952 (by decide) ?_
  refine tw_iadd C dL_law_953 ?_
  refine tw_script (j := i + 3) C hX (by omega) (by omega) (nI_add i 3) dL_law_954 ?_
  refine tw_aload_b (i := 0) (z := 0) C dL_law_955 rfl rfl ?_
  refine tw_iload_n (i := 3) (z := 3) C dL_law_956 rfl rfl ?_
  refine tw_iconst (v := 4) C dL_law_957 (by decide) ?_
  refine tw_iadd C dL_law_958 ?_
  refine tw_script (j := i + 4) C hX (by omega) (by omega) (nI_add i 4) dL_law_959 ?_
  obtain ⟨v, s1, s2, e1, e2, hI2⟩ := oy_between hI (xs (i + 1)) (xs (i + 2)) (xs (i + 3)) (xs (i + 4))
  refine tw_callV (As := [.int (xs (i + 1)), .int (xs (i + 2)), .int (xs (i + 3)), .int (xs (i + 4))]) (rest := []) (r := (8, 0)) C hR (kX8_between K.1 _ (by omega) σ (xs (i + 1)) (xs (i + 2)) (xs (i + 3)) (xs (i + 4)) e1) mi_X8_between is_X8_between se_X8_between ml_RL_102 (wcells_mem (f := 8) (j := 0) (by decide) (by decide)) rfl rfl rfl rfl (Nat.le_of_ble_eq_true rfl) dL_law_960 ?_
  show TW K 963 (Ll K b i) [.int v] s1
  refine tw_aload_n (i := 2) (z := 2) (r := (9, 0)) C dL_law_963 rfl rfl ?_
  refine tw_aload_b (i := 0) (z := 0) C dL_law_964 rfl rfl ?_
  refine tw_iload_n (i := 3) (z := 3) C dL_law_965 rfl rfl ?_
  refine tw_iconst (v := 1) C dL_law_966 (by decide) ?_
  refine tw_iadd C dL_law_967 ?_
  refine tw_script (j := i + 1) C hX (by omega) (by omega) (nI_add i 1) dL_law_968 ?_
  refine tw_aload_b (i := 0) (z := 0) C dL_law_969 rfl rfl ?_
  refine tw_iload_n (i := 3) (z := 3) C dL_law_970 rfl rfl ?_
  refine tw_iconst (v := 2) C dL_law_971 (by decide) ?_
  refine tw_iadd C dL_law_972 ?_
  refine tw_script (j := i + 2) C hX (by omega) (by omega) (nI_add i 2) dL_law_973 ?_
  refine tw_aload_b (i := 0) (z := 0) C dL_law_974 rfl rfl ?_
  refine tw_iload_n (i := 3) (z := 3) C dL_law_975 rfl rfl ?_
  refine tw_iconst (v := 3) C dL_law_976 (by decide) ?_
  refine tw_iadd C dL_law_977 ?_
  refine tw_script (j := i + 3) C hX (by omega) (by omega) (nI_add i 3) dL_law_978 ?_
  refine tw_aload_b (i := 0) (z := 0) C dL_law_979 rfl rfl ?_
  refine tw_iload_n (i := 3) (z := 3) C dL_law_980 rfl rfl ?_
  refine tw_iconst (v := 4) C dL_law_981 (by decide) ?_
  refine tw_iadd C dL_law_982 ?_
  refine tw_script (j := i + 4) C hX (by omega) (by omega) (nI_add i 4) dL_law_983 ?_
  refine tw_callV (As := [.int (xs (i + 1)), .int (xs (i + 2)), .int (xs (i + 3)), .int (xs (i + 4))]) (rest := [.int v]) (r := (9, 0)) C hR (kX9_between K.1 _ (by omega) s1 (xs (i + 1)) (xs (i + 2)) (xs (i + 3)) (xs (i + 4)) e2) mi_X9_between is_X9_between se_X9_between ml_RL_106 (wcells_mem (f := 9) (j := 0) (by decide) (by decide)) rfl rfl rfl rfl (Nat.le_of_ble_eq_true rfl) dL_law_984 ?_
  show TW K 987 (Ll K b i) [.int v, .int v] s2
  exact tw_ic_eq (tgt := 1749) C dL_law_987 (by decide) (fun _ => cont s2 hI2) (fun hne => absurd rfl hne)
set_option maxRecDepth 20000 in
theorem lc_22 {K : Kx} (C : Cx K cL_law RL) (hR : RmOk K 11) {b L : Nat} {xs : Nat → Int32} (hX : SX K b L xs) (hL : L ≤ 3072) {i : Nat} (hi : i + 6 ≤ L) {σ : St} (hI : Iy σ) (cont : ∀ σ', Iy σ' → TW K 1749 (Ll K b i) [] σ') : TW K 992 (Ll K b i) [] σ := by
  refine tw_aload_n (i := 1) (z := 1) (r := (8, 0)) C dL_law_992 rfl rfl ?_
  refine tw_aload_b (i := 0) (z := 0) C dL_law_993 rfl rfl ?_
  refine tw_iload_n (i := 3) (z := 3) C dL_law_994 rfl rfl ?_
  refine tw_iconst (v := 1) C dL_law_995 (by decide) ?_
  refine tw_iadd C dL_law_996 ?_
  refine tw_script (j := i + 1) C hX (by omega) (by omega) (nI_add i 1) dL_law_997 ?_
  refine tw_aload_b (i := 0) (z := 0) C dL_law_998 rfl rfl ?_
  refine tw_iload_n (i := 3) (z := 3) C dL_law_999 rfl rfl ?_
  refine tw_iconst (v := 2) C dL_law_1000 (by decide) ?_
  refine tw_iadd C dL_law_1001 ?_
  refine tw_script (j := i + 2) C hX (by omega) (by omega) (nI_add i 2) dL_law_1002 ?_
  refine tw_aload_b (i := 0) (z := 0) C dL_law_1003 rfl rfl ?_
  refine tw_iload_n (i := 3) (z := 3) C dL_law_1004 rfl rfl ?_
  refine tw_iconst (v := 3) C dL_law_1005 (by decide) ?_
  refine tw_iadd C dL_law_1006 ?_
  refine tw_script (j := i + 3) C hX (by omega) (by omega) (nI_add i 3) dL_law_1007 ?_
  refine tw_aload_b (i := 0) (z := 0) C dL_law_1008 rfl rfl ?_
  refine tw_iload_n (i := 3) (z := 3) C dL_law_1009 rfl rfl ?_
  refine tw_iconst (v := 4) C dL_law_1010 (by decide) ?_
  refine tw_iadd C dL_law_1011 ?_
  refine tw_script (j := i + 4) C hX (by omega) (by omega) (nI_add i 4) dL_law_1012 ?_
  obtain ⟨v, s1, s2, e1, e2, hI2⟩ := oy_halves hI (xs (i + 1)) (xs (i + 2)) (xs (i + 3)) (xs (i + 4))
  refine tw_callV (As := [.int (xs (i + 1)), .int (xs (i + 2)), .int (xs (i + 3)), .int (xs (i + 4))]) (rest := []) (r := (8, 0)) C hR (kX8_halves K.1 _ (by omega) σ (xs (i + 1)) (xs (i + 2)) (xs (i + 3)) (xs (i + 4)) e1) mi_X8_halves is_X8_halves se_X8_halves ml_RL_107 (wcells_mem (f := 8) (j := 0) (by decide) (by decide)) rfl rfl rfl rfl (Nat.le_of_ble_eq_true rfl) dL_law_1013 ?_
  show TW K 1016 (Ll K b i) [.int v] s1
  refine tw_aload_n (i := 2) (z := 2) (r := (9, 0)) C dL_law_1016 rfl rfl ?_
  refine tw_aload_b (i := 0) (z := 0) C dL_law_1017 rfl rfl ?_
  refine tw_iload_n (i := 3) (z := 3) C dL_law_1018 rfl rfl ?_
  refine tw_iconst (v := 1) C dL_law_1019 (by decide) ?_
  refine tw_iadd C dL_law_1020 ?_
  refine tw_script (j := i + 1) C hX (by omega) (by omega) (nI_add i 1) dL_law_1021 ?_
  refine tw_aload_b (i := 0) (z := 0) C dL_law_1022 rfl rfl ?_
  refine tw_iload_n (i := 3) (z := 3) C dL_law_1023 rfl rfl ?_
  refine tw_iconst (v := 2) C dL_law_1024 (by decide) ?_
  refine tw_iadd C dL_law_1025 ?_
  refine tw_script (j := i + 2) C hX (by omega) (by omega) (nI_add i 2) dL_law_1026 ?_
  refine tw_aload_b (i := 0) (z := 0) C dL_law_1027 rfl rfl ?_
  refine tw_iload_n (i := 3) (z := 3) C dL_law_1028 rfl rfl ?_
  refine tw_iconst (v := 3) C dL_law_1029 (by decide) ?_
  refine tw_iadd C dL_law_1030 ?_
  refine tw_script (j := i + 3) C hX (by omega) (by omega) (nI_add i 3) dL_law_1031 ?_
  refine tw_aload_b (i := 0) (z := 0) C dL_law_1032 rfl rfl ?_
  refine tw_iload_n (i := 3) (z := 3) C dL_law_1033 rfl rfl ?_
  refine tw_iconst (v := 4) C dL_law_1034 (by decide) ?_
  refine tw_iadd C dL_law_1035 ?_
  refine tw_script (j := i + 4) C hX (by omega) (by omega) (nI_add i 4) dL_law_1036 ?_
  refine tw_callV (As := [.int (xs (i + 1)), .int (xs (i + 2)), .int (xs (i + 3)), .int (xs (i + 4))]) (rest := [.int v]) (r := (9, 0)) C hR (kX9_halves K.1 _ (by omega) s1 (xs (i + 1)) (xs (i + 2)) (xs (i + 3)) (xs (i + 4)) e2) mi_X9_halves is_X9_halves se_X9_halves ml_RL_110 (wcells_mem (f := 9) (j := 0) (by decide) (by decide)) rfl rfl rfl rfl (Nat.le_of_ble_eq_true rfl) dL_law_1037 ?_
  show TW K 1040 (Ll K b i) [.int v, .int v] s2
  exact tw_ic_eq (tgt := 1749) C dL_law_1040 (by decide) (fun _ => cont s2 hI2) (fun hne => absurd rfl hne)
set_option maxRecDepth 20000 in
theorem lc_24 {K : Kx} (C : Cx K cL_law RL) (hR : RmOk K 11) {b L : Nat} {xs : Nat → Int32} (hX : SX K b L xs) (hL : L ≤ 3072) {i : Nat} (hi : i + 6 ≤ L) {σ : St} (hI : Iy σ) (cont : ∀ σ', Iy σ' → TW K 1749 (Ll K b i) [] σ') : TW K 1094 (Ll K b i) [] σ := by
  refine tw_aload_n (i := 1) (z := 1) (r := (8, 0)) C dL_law_1094 rfl rfl ?_
  refine tw_aload_b (i := 0) (z := 0) C dL_law_1095 rfl rfl ?_
  refine tw_iload_n (i := 3) (z := 3) C dL_law_1096 rfl rfl ?_
  refine tw_iconst (v := 1) C dL_law_1097 (by decide) ?_
  refine tw_iadd C dL_law_1098 ?_
  refine tw_script (j := i + 1) C hX (by omega) (by omega) (nI_add i 1) dL_law_1099 ?_
  refine tw_aload_b (i := 0) (z := 0) C dL_law_1100 rfl rfl ?_
  refine tw_iload_n (i := 3) (z := 3) C dL_law_1101 rfl rfl ?_
  refine tw_iconst (v := 2) C dL_law_1102 (by decide) ?_
  refine tw_iadd C dL_law_1103 ?_
  refine tw_script (j := i + 2) C hX (by omega) (by omega) (nI_add i 2) dL_law_1104 ?_
  obtain ⟨v, s1, s2, e1, e2, hI2⟩ := oy_rule hI (xs (i + 1)) (xs (i + 2))
  refine tw_callV (As := [.int (xs (i + 1)), .int (xs (i + 2))]) (rest := []) (r := (8, 0)) C hR (kX8_rule K.1 _ (by omega) σ (xs (i + 1)) (xs (i + 2)) e1) mi_X8_rule is_X8_rule se_X8_rule ml_RL_116 (wcells_mem (f := 8) (j := 0) (by decide) (by decide)) rfl rfl rfl rfl (Nat.le_of_ble_eq_true rfl) dL_law_1105 ?_
  show TW K 1108 (Ll K b i) [.int v] s1
  refine tw_aload_n (i := 2) (z := 2) (r := (9, 0)) C dL_law_1108 rfl rfl ?_
  refine tw_aload_b (i := 0) (z := 0) C dL_law_1109 rfl rfl ?_
  refine tw_iload_n (i := 3) (z := 3) C dL_law_1110 rfl rfl ?_
  refine tw_iconst (v := 1) C dL_law_1111 (by decide) ?_
  refine tw_iadd C dL_law_1112 ?_
  refine tw_script (j := i + 1) C hX (by omega) (by omega) (nI_add i 1) dL_law_1113 ?_
  refine tw_aload_b (i := 0) (z := 0) C dL_law_1114 rfl rfl ?_
  refine tw_iload_n (i := 3) (z := 3) C dL_law_1115 rfl rfl ?_
  refine tw_iconst (v := 2) C dL_law_1116 (by decide) ?_
  refine tw_iadd C dL_law_1117 ?_
  refine tw_script (j := i + 2) C hX (by omega) (by omega) (nI_add i 2) dL_law_1118 ?_
  refine tw_callV (As := [.int (xs (i + 1)), .int (xs (i + 2))]) (rest := [.int v]) (r := (9, 0)) C hR (kX9_rule K.1 _ (by omega) s1 (xs (i + 1)) (xs (i + 2)) e2) mi_X9_rule is_X9_rule se_X9_rule ml_RL_119 (wcells_mem (f := 9) (j := 0) (by decide) (by decide)) rfl rfl rfl rfl (Nat.le_of_ble_eq_true rfl) dL_law_1119 ?_
  show TW K 1122 (Ll K b i) [.int v, .int v] s2
  exact tw_ic_eq (tgt := 1749) C dL_law_1122 (by decide) (fun _ => cont s2 hI2) (fun hne => absurd rfl hne)
set_option maxRecDepth 20000 in
theorem lc_25 {K : Kx} (C : Cx K cL_law RL) (hR : RmOk K 11) {b L : Nat} {xs : Nat → Int32} (hX : SX K b L xs) (hL : L ≤ 3072) {i : Nat} (hi : i + 6 ≤ L) {σ : St} (hI : Iy σ) (cont : ∀ σ', Iy σ' → TW K 1749 (Ll K b i) [] σ') : TW K 1127 (Ll K b i) [] σ := by
  refine tw_aload_n (i := 1) (z := 1) (r := (8, 0)) C dL_law_1127 rfl rfl ?_
  refine tw_aload_b (i := 0) (z := 0) C dL_law_1128 rfl rfl ?_
  refine tw_iload_n (i := 3) (z := 3) C dL_law_1129 rfl rfl ?_
  refine tw_iconst (v := 1) C dL_law_1130 (by decide) ?_
  refine tw_iadd C dL_law_1131 ?_
  refine tw_script (j := i + 1) C hX (by omega) (by omega) (nI_add i 1) dL_law_1132 ?_
  obtain ⟨v, e1, e2⟩ := oy_law hI (xs (i + 1))
  refine tw_callV (As := [.int (xs (i + 1))]) (rest := []) (r := (8, 0)) C hR (kX8_law K.1 _ (by omega) σ (xs (i + 1)) e1) mi_X8_law is_X8_law se_X8_law ml_RL_120 (wcells_mem (f := 8) (j := 0) (by decide) (by decide)) rfl rfl rfl rfl (Nat.le_of_ble_eq_true rfl) dL_law_1133 ?_
  show TW K 1136 (Ll K b i) [.int v] σ
  refine tw_aload_n (i := 2) (z := 2) (r := (9, 0)) C dL_law_1136 rfl rfl ?_
  refine tw_aload_b (i := 0) (z := 0) C dL_law_1137 rfl rfl ?_
  refine tw_iload_n (i := 3) (z := 3) C dL_law_1138 rfl rfl ?_
  refine tw_iconst (v := 1) C dL_law_1139 (by decide) ?_
  refine tw_iadd C dL_law_1140 ?_
  refine tw_script (j := i + 1) C hX (by omega) (by omega) (nI_add i 1) dL_law_1141 ?_
  refine tw_callV (As := [.int (xs (i + 1))]) (rest := [.int v]) (r := (9, 0)) C hR (kX9_law K.1 _ (by omega) σ (xs (i + 1)) e2) mi_X9_law is_X9_law se_X9_law ml_RL_123 (wcells_mem (f := 9) (j := 0) (by decide) (by decide)) rfl rfl rfl rfl (Nat.le_of_ble_eq_true rfl) dL_law_1142 ?_
  show TW K 1145 (Ll K b i) [.int v, .int v] σ
  exact tw_ic_eq (tgt := 1749) C dL_law_1145 (by decide) (fun _ => cont σ hI) (fun hne => absurd rfl hne)
set_option maxRecDepth 20000 in
theorem lc_26 {K : Kx} (C : Cx K cL_law RL) (hR : RmOk K 11) {b L : Nat} {xs : Nat → Int32} (hX : SX K b L xs) (hL : L ≤ 3072) {i : Nat} (hi : i + 6 ≤ L) {σ : St} (hI : Iy σ) (cont : ∀ σ', Iy σ' → TW K 1749 (Ll K b i) [] σ') : TW K 1150 (Ll K b i) [] σ := by
  refine tw_aload_n (i := 1) (z := 1) (r := (8, 0)) C dL_law_1150 rfl rfl ?_
  refine tw_aload_b (i := 0) (z := 0) C dL_law_1151 rfl rfl ?_
  refine tw_iload_n (i := 3) (z := 3) C dL_law_1152 rfl rfl ?_
  refine tw_iconst (v := 1) C dL_law_1153 (by decide) ?_
  refine tw_iadd C dL_law_1154 ?_
  refine tw_script (j := i + 1) C hX (by omega) (by omega) (nI_add i 1) dL_law_1155 ?_
  obtain ⟨v, s1, s2, e1, e2, hI2⟩ := oy_enact hI (xs (i + 1))
  refine tw_callV (As := [.int (xs (i + 1))]) (rest := []) (r := (8, 0)) C hR (kX8_enact K.1 _ (by omega) σ (xs (i + 1)) e1) mi_X8_enact is_X8_enact se_X8_enact ml_RL_124 (wcells_mem (f := 8) (j := 0) (by decide) (by decide)) rfl rfl rfl rfl (Nat.le_of_ble_eq_true rfl) dL_law_1156 ?_
  show TW K 1159 (Ll K b i) [.int v] s1
  refine tw_aload_n (i := 2) (z := 2) (r := (9, 0)) C dL_law_1159 rfl rfl ?_
  refine tw_aload_b (i := 0) (z := 0) C dL_law_1160 rfl rfl ?_
  refine tw_iload_n (i := 3) (z := 3) C dL_law_1161 rfl rfl ?_
  refine tw_iconst (v := 1) C dL_law_1162 (by decide) ?_
  refine tw_iadd C dL_law_1163 ?_
  refine tw_script (j := i + 1) C hX (by omega) (by omega) (nI_add i 1) dL_law_1164 ?_
  refine tw_callV (As := [.int (xs (i + 1))]) (rest := [.int v]) (r := (9, 0)) C hR (kX9_enact K.1 _ (by omega) s1 (xs (i + 1)) e2) mi_X9_enact is_X9_enact se_X9_enact ml_RL_127 (wcells_mem (f := 9) (j := 0) (by decide) (by decide)) rfl rfl rfl rfl (Nat.le_of_ble_eq_true rfl) dL_law_1165 ?_
  show TW K 1168 (Ll K b i) [.int v, .int v] s2
  exact tw_ic_eq (tgt := 1749) C dL_law_1168 (by decide) (fun _ => cont s2 hI2) (fun hne => absurd rfl hne)
set_option maxRecDepth 20000 in
theorem lc_27 {K : Kx} (C : Cx K cL_law RL) (hR : RmOk K 11) {b L : Nat} {xs : Nat → Int32} (hX : SX K b L xs) (hL : L ≤ 3072) {i : Nat} (hi : i + 6 ≤ L) {σ : St} (hI : Iy σ) (cont : ∀ σ', Iy σ' → TW K 1749 (Ll K b i) [] σ') : TW K 1173 (Ll K b i) [] σ := by
  refine tw_aload_n (i := 1) (z := 1) (r := (8, 0)) C dL_law_1173 rfl rfl ?_
  refine tw_aload_b (i := 0) (z := 0) C dL_law_1174 rfl rfl ?_
  refine tw_iload_n (i := 3) (z := 3) C dL_law_1175 rfl rfl ?_
  refine tw_iconst (v := 1) C dL_law_1176 (by decide) ?_
  refine tw_iadd C dL_law_1177 ?_
  refine tw_script (j := i + 1) C hX (by omega) (by omega) (nI_add i 1) dL_law_1178 ?_
  refine tw_aload_b (i := 0) (z := 0) C dL_law_1179 rfl rfl ?_
  refine tw_iload_n (i := 3) (z := 3) C dL_law_1180 rfl rfl ?_
  refine tw_iconst (v := 2) C dL_law_1181 (by decide) ?_
  refine tw_iadd C dL_law_1182 ?_
  refine tw_script (j := i + 2) C hX (by omega) (by omega) (nI_add i 2) dL_law_1183 ?_
  refine tw_aload_b (i := 0) (z := 0) C dL_law_1184 rfl rfl ?_
  refine tw_iload_n (i := 3) (z := 3) C dL_law_1185 rfl rfl ?_
  refine tw_iconst (v := 3) C dL_law_1186 (by decide) ?_
  refine tw_iadd C dL_law_1187 ?_
  refine tw_script (j := i + 3) C hX (by omega) (by omega) (nI_add i 3) dL_law_1188 ?_
  obtain ⟨v, s2, e1, e2, hI2⟩ := oy_motion hI (xs (i + 1)) (xs (i + 2)) (xs (i + 3))
  refine tw_callV (As := [.int (xs (i + 1)), .int (xs (i + 2)), .int (xs (i + 3))]) (rest := []) (r := (8, 0)) C hR (kX8_motion K.1 _ (by omega) σ (xs (i + 1)) (xs (i + 2)) (xs (i + 3)) e1) mi_X8_motion is_X8_motion se_X8_motion ml_RL_128 (wcells_mem (f := 8) (j := 0) (by decide) (by decide)) rfl rfl rfl rfl (Nat.le_of_ble_eq_true rfl) dL_law_1189 ?_
  show TW K 1192 (Ll K b i) [.int v] σ
  refine tw_aload_n (i := 2) (z := 2) (r := (9, 0)) C dL_law_1192 rfl rfl ?_
  refine tw_aload_b (i := 0) (z := 0) C dL_law_1193 rfl rfl ?_
  refine tw_iload_n (i := 3) (z := 3) C dL_law_1194 rfl rfl ?_
  refine tw_iconst (v := 1) C dL_law_1195 (by decide) ?_
  refine tw_iadd C dL_law_1196 ?_
  refine tw_script (j := i + 1) C hX (by omega) (by omega) (nI_add i 1) dL_law_1197 ?_
  refine tw_aload_b (i := 0) (z := 0) C dL_law_1198 rfl rfl ?_
  refine tw_iload_n (i := 3) (z := 3) C dL_law_1199 rfl rfl ?_
  refine tw_iconst (v := 2) C dL_law_1200 (by decide) ?_
  refine tw_iadd C dL_law_1201 ?_
  refine tw_script (j := i + 2) C hX (by omega) (by omega) (nI_add i 2) dL_law_1202 ?_
  refine tw_aload_b (i := 0) (z := 0) C dL_law_1203 rfl rfl ?_
  refine tw_iload_n (i := 3) (z := 3) C dL_law_1204 rfl rfl ?_
  refine tw_iconst (v := 3) C dL_law_1205 (by decide) ?_
  refine tw_iadd C dL_law_1206 ?_
  refine tw_script (j := i + 3) C hX (by omega) (by omega) (nI_add i 3) dL_law_1207 ?_
  refine tw_callV (As := [.int (xs (i + 1)), .int (xs (i + 2)), .int (xs (i + 3))]) (rest := [.int v]) (r := (9, 0)) C hR (kX9_motion K.1 _ (by omega) σ (xs (i + 1)) (xs (i + 2)) (xs (i + 3)) e2) mi_X9_motion is_X9_motion se_X9_motion ml_RL_131 (wcells_mem (f := 9) (j := 0) (by decide) (by decide)) rfl rfl rfl rfl (Nat.le_of_ble_eq_true rfl) dL_law_1208 ?_
  show TW K 1211 (Ll K b i) [.int v, .int v] s2
  exact tw_ic_eq (tgt := 1749) C dL_law_1211 (by decide) (fun _ => cont s2 hI2) (fun hne => absurd rfl hne)
set_option maxRecDepth 20000 in
theorem lc_28 {K : Kx} (C : Cx K cL_law RL) (hR : RmOk K 11) {b L : Nat} {xs : Nat → Int32} (hX : SX K b L xs) (hL : L ≤ 3072) {i : Nat} (hi : i + 6 ≤ L) {σ : St} (hI : Iy σ) (cont : ∀ σ', Iy σ' → TW K 1749 (Ll K b i) [] σ') : TW K 1216 (Ll K b i) [] σ := by
  refine tw_aload_n (i := 1) (z := 1) (r := (8, 0)) C dL_law_1216 rfl rfl ?_
  refine tw_aload_b (i := 0) (z := 0) C dL_law_1217 rfl rfl ?_
  refine tw_iload_n (i := 3) (z := 3) C dL_law_1218 rfl rfl ?_
  refine tw_iconst (v := 1) C dL_law_1219 (by decide) ?_
  refine tw_iadd C dL_law_1220 ?_
  refine tw_script (j := i + 1) C hX (by omega) (by omega) (nI_add i 1) dL_law_1221 ?_
  refine tw_aload_b (i := 0) (z := 0) C dL_law_1222 rfl rfl ?_
  refine tw_iload_n (i := 3) (z := 3) C dL_law_1223 rfl rfl ?_
  refine tw_iconst (v := 2) C dL_law_1224 (by decide) ?_
  refine tw_iadd C dL_law_1225 ?_
  refine tw_script (j := i + 2) C hX (by omega) (by omega) (nI_add i 2) dL_law_1226 ?_
  obtain ⟨v, s1, s2, e1, e2, hI2⟩ := oy_put hI (xs (i + 1)) (xs (i + 2))
  refine tw_callV (As := [.int (xs (i + 1)), .int (xs (i + 2))]) (rest := []) (r := (8, 0)) C hR (kX8_put K.1 _ (by omega) σ (xs (i + 1)) (xs (i + 2)) e1) mi_X8_put is_X8_put se_X8_put ml_RL_132 (wcells_mem (f := 8) (j := 0) (by decide) (by decide)) rfl rfl rfl rfl (Nat.le_of_ble_eq_true rfl) dL_law_1227 ?_
  show TW K 1230 (Ll K b i) [.int v] s1
  refine tw_aload_n (i := 2) (z := 2) (r := (9, 0)) C dL_law_1230 rfl rfl ?_
  refine tw_aload_b (i := 0) (z := 0) C dL_law_1231 rfl rfl ?_
  refine tw_iload_n (i := 3) (z := 3) C dL_law_1232 rfl rfl ?_
  refine tw_iconst (v := 1) C dL_law_1233 (by decide) ?_
  refine tw_iadd C dL_law_1234 ?_
  refine tw_script (j := i + 1) C hX (by omega) (by omega) (nI_add i 1) dL_law_1235 ?_
  refine tw_aload_b (i := 0) (z := 0) C dL_law_1236 rfl rfl ?_
  refine tw_iload_n (i := 3) (z := 3) C dL_law_1237 rfl rfl ?_
  refine tw_iconst (v := 2) C dL_law_1238 (by decide) ?_
  refine tw_iadd C dL_law_1239 ?_
  refine tw_script (j := i + 2) C hX (by omega) (by omega) (nI_add i 2) dL_law_1240 ?_
  refine tw_callV (As := [.int (xs (i + 1)), .int (xs (i + 2))]) (rest := [.int v]) (r := (9, 0)) C hR (kX9_put K.1 _ (by omega) s1 (xs (i + 1)) (xs (i + 2)) e2) mi_X9_put is_X9_put se_X9_put ml_RL_135 (wcells_mem (f := 9) (j := 0) (by decide) (by decide)) rfl rfl rfl rfl (Nat.le_of_ble_eq_true rfl) dL_law_1241 ?_
  show TW K 1244 (Ll K b i) [.int v, .int v] s2
  exact tw_ic_eq (tgt := 1749) C dL_law_1244 (by decide) (fun _ => cont s2 hI2) (fun hne => absurd rfl hne)
set_option maxRecDepth 20000 in
theorem lc_29 {K : Kx} (C : Cx K cL_law RL) (hR : RmOk K 11) {b L : Nat} {xs : Nat → Int32} (hX : SX K b L xs) (hL : L ≤ 3072) {i : Nat} (hi : i + 6 ≤ L) {σ : St} (hI : Iy σ) (cont : ∀ σ', Iy σ' → TW K 1749 (Ll K b i) [] σ') : TW K 1249 (Ll K b i) [] σ := by
  refine tw_aload_n (i := 1) (z := 1) (r := (8, 0)) C dL_law_1249 rfl rfl ?_
  refine tw_aload_b (i := 0) (z := 0) C dL_law_1250 rfl rfl ?_
  refine tw_iload_n (i := 3) (z := 3) C dL_law_1251 rfl rfl ?_
  refine tw_iconst (v := 1) C dL_law_1252 (by decide) ?_
  refine tw_iadd C dL_law_1253 ?_
  refine tw_script (j := i + 1) C hX (by omega) (by omega) (nI_add i 1) dL_law_1254 ?_
  refine tw_aload_b (i := 0) (z := 0) C dL_law_1255 rfl rfl ?_
  refine tw_iload_n (i := 3) (z := 3) C dL_law_1256 rfl rfl ?_
  refine tw_iconst (v := 2) C dL_law_1257 (by decide) ?_
  refine tw_iadd C dL_law_1258 ?_
  refine tw_script (j := i + 2) C hX (by omega) (by omega) (nI_add i 2) dL_law_1259 ?_
  refine tw_aload_b (i := 0) (z := 0) C dL_law_1260 rfl rfl ?_
  refine tw_iload_n (i := 3) (z := 3) C dL_law_1261 rfl rfl ?_
  refine tw_iconst (v := 3) C dL_law_1262 (by decide) ?_
  refine tw_iadd C dL_law_1263 ?_
  refine tw_script (j := i + 3) C hX (by omega) (by omega) (nI_add i 3) dL_law_1264 ?_
  obtain ⟨v, s1, s2, e1, e2, hI2⟩ := oy_best hI (xs (i + 1)) (xs (i + 2)) (xs (i + 3))
  refine tw_callV (As := [.int (xs (i + 1)), .int (xs (i + 2)), .int (xs (i + 3))]) (rest := []) (r := (8, 0)) C hR (kX8_best K.1 _ (by omega) σ (xs (i + 1)) (xs (i + 2)) (xs (i + 3)) e1) mi_X8_best is_X8_best se_X8_best ml_RL_136 (wcells_mem (f := 8) (j := 0) (by decide) (by decide)) rfl rfl rfl rfl (Nat.le_of_ble_eq_true rfl) dL_law_1265 ?_
  show TW K 1268 (Ll K b i) [.int v] s1
  refine tw_aload_n (i := 2) (z := 2) (r := (9, 0)) C dL_law_1268 rfl rfl ?_
  refine tw_aload_b (i := 0) (z := 0) C dL_law_1269 rfl rfl ?_
  refine tw_iload_n (i := 3) (z := 3) C dL_law_1270 rfl rfl ?_
  refine tw_iconst (v := 1) C dL_law_1271 (by decide) ?_
  refine tw_iadd C dL_law_1272 ?_
  refine tw_script (j := i + 1) C hX (by omega) (by omega) (nI_add i 1) dL_law_1273 ?_
  refine tw_aload_b (i := 0) (z := 0) C dL_law_1274 rfl rfl ?_
  refine tw_iload_n (i := 3) (z := 3) C dL_law_1275 rfl rfl ?_
  refine tw_iconst (v := 2) C dL_law_1276 (by decide) ?_
  refine tw_iadd C dL_law_1277 ?_
  refine tw_script (j := i + 2) C hX (by omega) (by omega) (nI_add i 2) dL_law_1278 ?_
  refine tw_aload_b (i := 0) (z := 0) C dL_law_1279 rfl rfl ?_
  refine tw_iload_n (i := 3) (z := 3) C dL_law_1280 rfl rfl ?_
  refine tw_iconst (v := 3) C dL_law_1281 (by decide) ?_
  refine tw_iadd C dL_law_1282 ?_
  refine tw_script (j := i + 3) C hX (by omega) (by omega) (nI_add i 3) dL_law_1283 ?_
  refine tw_callV (As := [.int (xs (i + 1)), .int (xs (i + 2)), .int (xs (i + 3))]) (rest := [.int v]) (r := (9, 0)) C hR (kX9_best K.1 _ (by omega) s1 (xs (i + 1)) (xs (i + 2)) (xs (i + 3)) e2) mi_X9_best is_X9_best se_X9_best ml_RL_139 (wcells_mem (f := 9) (j := 0) (by decide) (by decide)) rfl rfl rfl rfl (Nat.le_of_ble_eq_true rfl) dL_law_1284 ?_
  show TW K 1287 (Ll K b i) [.int v, .int v] s2
  exact tw_ic_eq (tgt := 1749) C dL_law_1287 (by decide) (fun _ => cont s2 hI2) (fun hne => absurd rfl hne)
set_option maxRecDepth 20000 in
theorem lc_30 {K : Kx} (C : Cx K cL_law RL) (hR : RmOk K 11) {b L : Nat} {xs : Nat → Int32} (hX : SX K b L xs) (hL : L ≤ 3072) {i : Nat} (hi : i + 6 ≤ L) {σ : St} (hI : Iy σ) (cont : ∀ σ', Iy σ' → TW K 1749 (Ll K b i) [] σ') : TW K 1292 (Ll K b i) [] σ := by
  refine tw_aload_n (i := 1) (z := 1) (r := (8, 0)) C dL_law_1292 rfl rfl ?_
  refine tw_aload_b (i := 0) (z := 0) C dL_law_1293 rfl rfl ?_
  refine tw_iload_n (i := 3) (z := 3) C dL_law_1294 rfl rfl ?_
  refine tw_iconst (v := 1) C dL_law_1295 (by decide) ?_
  refine tw_iadd C dL_law_1296 ?_
  refine tw_script (j := i + 1) C hX (by omega) (by omega) (nI_add i 1) dL_law_1297 ?_
  refine tw_aload_b (i := 0) (z := 0) C dL_law_1298 rfl rfl ?_
  refine tw_iload_n (i := 3) (z := 3) C dL_law_1299 rfl rfl ?_
  refine tw_iconst (v := 2) C dL_law_1300 (by decide) ?_
  refine tw_iadd C dL_law_1301 ?_
  refine tw_script (j := i + 2) C hX (by omega) (by omega) (nI_add i 2) dL_law_1302 ?_
  refine tw_aload_b (i := 0) (z := 0) C dL_law_1303 rfl rfl ?_
  refine tw_iload_n (i := 3) (z := 3) C dL_law_1304 rfl rfl ?_
  refine tw_iconst (v := 3) C dL_law_1305 (by decide) ?_
  refine tw_iadd C dL_law_1306 ?_
  refine tw_script (j := i + 3) C hX (by omega) (by omega) (nI_add i 3) dL_law_1307 ?_
  obtain ⟨v, s1, s2, e1, e2, hI2⟩ := oy_way hI (xs (i + 1)) (xs (i + 2)) (xs (i + 3))
  refine tw_callV (As := [.int (xs (i + 1)), .int (xs (i + 2)), .int (xs (i + 3))]) (rest := []) (r := (8, 0)) C hR (kX8_way K.1 _ (by omega) σ (xs (i + 1)) (xs (i + 2)) (xs (i + 3)) e1) mi_X8_way is_X8_way se_X8_way ml_RL_140 (wcells_mem (f := 8) (j := 0) (by decide) (by decide)) rfl rfl rfl rfl (Nat.le_of_ble_eq_true rfl) dL_law_1308 ?_
  show TW K 1311 (Ll K b i) [.int v] s1
  refine tw_aload_n (i := 2) (z := 2) (r := (9, 0)) C dL_law_1311 rfl rfl ?_
  refine tw_aload_b (i := 0) (z := 0) C dL_law_1312 rfl rfl ?_
  refine tw_iload_n (i := 3) (z := 3) C dL_law_1313 rfl rfl ?_
  refine tw_iconst (v := 1) C dL_law_1314 (by decide) ?_
  refine tw_iadd C dL_law_1315 ?_
  refine tw_script (j := i + 1) C hX (by omega) (by omega) (nI_add i 1) dL_law_1316 ?_
  refine tw_aload_b (i := 0) (z := 0) C dL_law_1317 rfl rfl ?_
  refine tw_iload_n (i := 3) (z := 3) C dL_law_1318 rfl rfl ?_
  refine tw_iconst (v := 2) C dL_law_1319 (by decide) ?_
  refine tw_iadd C dL_law_1320 ?_
  refine tw_script (j := i + 2) C hX (by omega) (by omega) (nI_add i 2) dL_law_1321 ?_
  refine tw_aload_b (i := 0) (z := 0) C dL_law_1322 rfl rfl ?_
  refine tw_iload_n (i := 3) (z := 3) C dL_law_1323 rfl rfl ?_
  refine tw_iconst (v := 3) C dL_law_1324 (by decide) ?_
  refine tw_iadd C dL_law_1325 ?_
  refine tw_script (j := i + 3) C hX (by omega) (by omega) (nI_add i 3) dL_law_1326 ?_
  refine tw_callV (As := [.int (xs (i + 1)), .int (xs (i + 2)), .int (xs (i + 3))]) (rest := [.int v]) (r := (9, 0)) C hR (kX9_way K.1 _ (by omega) s1 (xs (i + 1)) (xs (i + 2)) (xs (i + 3)) e2) mi_X9_way is_X9_way se_X9_way ml_RL_143 (wcells_mem (f := 9) (j := 0) (by decide) (by decide)) rfl rfl rfl rfl (Nat.le_of_ble_eq_true rfl) dL_law_1327 ?_
  show TW K 1330 (Ll K b i) [.int v, .int v] s2
  exact tw_ic_eq (tgt := 1749) C dL_law_1330 (by decide) (fun _ => cont s2 hI2) (fun hne => absurd rfl hne)
set_option maxRecDepth 20000 in
theorem lc_31 {K : Kx} (C : Cx K cL_law RL) (hR : RmOk K 11) {b L : Nat} {xs : Nat → Int32} (hX : SX K b L xs) (hL : L ≤ 3072) {i : Nat} (hi : i + 6 ≤ L) {σ : St} (hI : Iy σ) (cont : ∀ σ', Iy σ' → TW K 1749 (Ll K b i) [] σ') : TW K 1335 (Ll K b i) [] σ := by
  refine tw_aload_n (i := 1) (z := 1) (r := (8, 0)) C dL_law_1335 rfl rfl ?_
  refine tw_aload_b (i := 0) (z := 0) C dL_law_1336 rfl rfl ?_
  refine tw_iload_n (i := 3) (z := 3) C dL_law_1337 rfl rfl ?_
  refine tw_iconst (v := 1) C dL_law_1338 (by decide) ?_
  refine tw_iadd C dL_law_1339 ?_
  refine tw_script (j := i + 1) C hX (by omega) (by omega) (nI_add i 1) dL_law_1340 ?_
  refine tw_aload_b (i := 0) (z := 0) C dL_law_1341 rfl rfl ?_
  refine tw_iload_n (i := 3) (z := 3) C dL_law_1342 rfl rfl ?_
  refine tw_iconst (v := 2) C dL_law_1343 (by decide) ?_
  refine tw_iadd C dL_law_1344 ?_
  refine tw_script (j := i + 2) C hX (by omega) (by omega) (nI_add i 2) dL_law_1345 ?_
  obtain ⟨v, s1, s2, e1, e2, hI2⟩ := oy_draws hI (xs (i + 1)) (xs (i + 2))
  refine tw_callV (As := [.int (xs (i + 1)), .int (xs (i + 2))]) (rest := []) (r := (8, 0)) C hR (kX8_draws K.1 _ (by omega) σ (xs (i + 1)) (xs (i + 2)) e1) mi_X8_draws is_X8_draws se_X8_draws ml_RL_144 (wcells_mem (f := 8) (j := 0) (by decide) (by decide)) rfl rfl rfl rfl (Nat.le_of_ble_eq_true rfl) dL_law_1346 ?_
  show TW K 1349 (Ll K b i) [.int v] s1
  refine tw_aload_n (i := 2) (z := 2) (r := (9, 0)) C dL_law_1349 rfl rfl ?_
  refine tw_aload_b (i := 0) (z := 0) C dL_law_1350 rfl rfl ?_
  refine tw_iload_n (i := 3) (z := 3) C dL_law_1351 rfl rfl ?_
  refine tw_iconst (v := 1) C dL_law_1352 (by decide) ?_
  refine tw_iadd C dL_law_1353 ?_
  refine tw_script (j := i + 1) C hX (by omega) (by omega) (nI_add i 1) dL_law_1354 ?_
  refine tw_aload_b (i := 0) (z := 0) C dL_law_1355 rfl rfl ?_
  refine tw_iload_n (i := 3) (z := 3) C dL_law_1356 rfl rfl ?_
  refine tw_iconst (v := 2) C dL_law_1357 (by decide) ?_
  refine tw_iadd C dL_law_1358 ?_
  refine tw_script (j := i + 2) C hX (by omega) (by omega) (nI_add i 2) dL_law_1359 ?_
  refine tw_callV (As := [.int (xs (i + 1)), .int (xs (i + 2))]) (rest := [.int v]) (r := (9, 0)) C hR (kX9_draws K.1 _ (by omega) s1 (xs (i + 1)) (xs (i + 2)) e2) mi_X9_draws is_X9_draws se_X9_draws ml_RL_147 (wcells_mem (f := 9) (j := 0) (by decide) (by decide)) rfl rfl rfl rfl (Nat.le_of_ble_eq_true rfl) dL_law_1360 ?_
  show TW K 1363 (Ll K b i) [.int v, .int v] s2
  exact tw_ic_eq (tgt := 1749) C dL_law_1363 (by decide) (fun _ => cont s2 hI2) (fun hne => absurd rfl hne)
set_option maxRecDepth 20000 in
theorem lc_32 {K : Kx} (C : Cx K cL_law RL) (hR : RmOk K 11) {b L : Nat} {xs : Nat → Int32} (hX : SX K b L xs) (hL : L ≤ 3072) {i : Nat} (hi : i + 6 ≤ L) {σ : St} (hI : Iy σ) (cont : ∀ σ', Iy σ' → TW K 1749 (Ll K b i) [] σ') : TW K 1368 (Ll K b i) [] σ := by
  refine tw_aload_n (i := 1) (z := 1) (r := (8, 0)) C dL_law_1368 rfl rfl ?_
  refine tw_aload_b (i := 0) (z := 0) C dL_law_1369 rfl rfl ?_
  refine tw_iload_n (i := 3) (z := 3) C dL_law_1370 rfl rfl ?_
  refine tw_iconst (v := 1) C dL_law_1371 (by decide) ?_
  refine tw_iadd C dL_law_1372 ?_
  refine tw_script (j := i + 1) C hX (by omega) (by omega) (nI_add i 1) dL_law_1373 ?_
  refine tw_aload_b (i := 0) (z := 0) C dL_law_1374 rfl rfl ?_
  refine tw_iload_n (i := 3) (z := 3) C dL_law_1375 rfl rfl ?_
  refine tw_iconst (v := 2) C dL_law_1376 (by decide) ?_
  refine tw_iadd C dL_law_1377 ?_
  refine tw_script (j := i + 2) C hX (by omega) (by omega) (nI_add i 2) dL_law_1378 ?_
  refine tw_aload_b (i := 0) (z := 0) C dL_law_1379 rfl rfl ?_
  refine tw_iload_n (i := 3) (z := 3) C dL_law_1380 rfl rfl ?_
  refine tw_iconst (v := 3) C dL_law_1381 (by decide) ?_
  refine tw_iadd C dL_law_1382 ?_
  refine tw_script (j := i + 3) C hX (by omega) (by omega) (nI_add i 3) dL_law_1383 ?_
  obtain ⟨v, s1, s2, e1, e2, hI2⟩ := oy_mate hI (xs (i + 1)) (xs (i + 2)) (xs (i + 3))
  refine tw_callV (As := [.int (xs (i + 1)), .int (xs (i + 2)), .int (xs (i + 3))]) (rest := []) (r := (8, 0)) C hR (kX8_mate K.1 _ (by omega) σ (xs (i + 1)) (xs (i + 2)) (xs (i + 3)) e1) mi_X8_mate is_X8_mate se_X8_mate ml_RL_148 (wcells_mem (f := 8) (j := 0) (by decide) (by decide)) rfl rfl rfl rfl (Nat.le_of_ble_eq_true rfl) dL_law_1384 ?_
  show TW K 1387 (Ll K b i) [.int v] s1
  refine tw_aload_n (i := 2) (z := 2) (r := (9, 0)) C dL_law_1387 rfl rfl ?_
  refine tw_aload_b (i := 0) (z := 0) C dL_law_1388 rfl rfl ?_
  refine tw_iload_n (i := 3) (z := 3) C dL_law_1389 rfl rfl ?_
  refine tw_iconst (v := 1) C dL_law_1390 (by decide) ?_
  refine tw_iadd C dL_law_1391 ?_
  refine tw_script (j := i + 1) C hX (by omega) (by omega) (nI_add i 1) dL_law_1392 ?_
  refine tw_aload_b (i := 0) (z := 0) C dL_law_1393 rfl rfl ?_
  refine tw_iload_n (i := 3) (z := 3) C dL_law_1394 rfl rfl ?_
  refine tw_iconst (v := 2) C dL_law_1395 (by decide) ?_
  refine tw_iadd C dL_law_1396 ?_
  refine tw_script (j := i + 2) C hX (by omega) (by omega) (nI_add i 2) dL_law_1397 ?_
  refine tw_aload_b (i := 0) (z := 0) C dL_law_1398 rfl rfl ?_
  refine tw_iload_n (i := 3) (z := 3) C dL_law_1399 rfl rfl ?_
  refine tw_iconst (v := 3) C dL_law_1400 (by decide) ?_
  refine tw_iadd C dL_law_1401 ?_
  refine tw_script (j := i + 3) C hX (by omega) (by omega) (nI_add i 3) dL_law_1402 ?_
  refine tw_callV (As := [.int (xs (i + 1)), .int (xs (i + 2)), .int (xs (i + 3))]) (rest := [.int v]) (r := (9, 0)) C hR (kX9_mate K.1 _ (by omega) s1 (xs (i + 1)) (xs (i + 2)) (xs (i + 3)) e2) mi_X9_mate is_X9_mate se_X9_mate ml_RL_151 (wcells_mem (f := 9) (j := 0) (by decide) (by decide)) rfl rfl rfl rfl (Nat.le_of_ble_eq_true rfl) dL_law_1403 ?_
  show TW K 1406 (Ll K b i) [.int v, .int v] s2
  exact tw_ic_eq (tgt := 1749) C dL_law_1406 (by decide) (fun _ => cont s2 hI2) (fun hne => absurd rfl hne)
set_option maxRecDepth 20000 in
theorem lc_33 {K : Kx} (C : Cx K cL_law RL) (hR : RmOk K 11) {b L : Nat} {xs : Nat → Int32} (hX : SX K b L xs) (hL : L ≤ 3072) {i : Nat} (hi : i + 6 ≤ L) {σ : St} (hI : Iy σ) (cont : ∀ σ', Iy σ' → TW K 1749 (Ll K b i) [] σ') : TW K 1411 (Ll K b i) [] σ := by
  refine tw_aload_n (i := 1) (z := 1) (r := (8, 0)) C dL_law_1411 rfl rfl ?_
  refine tw_aload_b (i := 0) (z := 0) C dL_law_1412 rfl rfl ?_
  refine tw_iload_n (i := 3) (z := 3) C dL_law_1413 rfl rfl ?_
  refine tw_iconst (v := 1) C dL_law_1414 (by decide) ?_
  refine tw_iadd C dL_law_1415 ?_
  refine tw_script (j := i + 1) C hX (by omega) (by omega) (nI_add i 1) dL_law_1416 ?_
  refine tw_aload_b (i := 0) (z := 0) C dL_law_1417 rfl rfl ?_
  refine tw_iload_n (i := 3) (z := 3) C dL_law_1418 rfl rfl ?_
  refine tw_iconst (v := 2) C dL_law_1419 (by decide) ?_
  refine tw_iadd C dL_law_1420 ?_
  refine tw_script (j := i + 2) C hX (by omega) (by omega) (nI_add i 2) dL_law_1421 ?_
  obtain ⟨v, s1, s2, e1, e2, hI2⟩ := oy_cup hI (xs (i + 1)) (xs (i + 2))
  refine tw_callV (As := [.int (xs (i + 1)), .int (xs (i + 2))]) (rest := []) (r := (8, 0)) C hR (kX8_cup K.1 _ (by omega) σ (xs (i + 1)) (xs (i + 2)) e1) mi_X8_cup is_X8_cup se_X8_cup ml_RL_152 (wcells_mem (f := 8) (j := 0) (by decide) (by decide)) rfl rfl rfl rfl (Nat.le_of_ble_eq_true rfl) dL_law_1422 ?_
  show TW K 1425 (Ll K b i) [.int v] s1
  refine tw_aload_n (i := 2) (z := 2) (r := (9, 0)) C dL_law_1425 rfl rfl ?_
  refine tw_aload_b (i := 0) (z := 0) C dL_law_1426 rfl rfl ?_
  refine tw_iload_n (i := 3) (z := 3) C dL_law_1427 rfl rfl ?_
  refine tw_iconst (v := 1) C dL_law_1428 (by decide) ?_
  refine tw_iadd C dL_law_1429 ?_
  refine tw_script (j := i + 1) C hX (by omega) (by omega) (nI_add i 1) dL_law_1430 ?_
  refine tw_aload_b (i := 0) (z := 0) C dL_law_1431 rfl rfl ?_
  refine tw_iload_n (i := 3) (z := 3) C dL_law_1432 rfl rfl ?_
  refine tw_iconst (v := 2) C dL_law_1433 (by decide) ?_
  refine tw_iadd C dL_law_1434 ?_
  refine tw_script (j := i + 2) C hX (by omega) (by omega) (nI_add i 2) dL_law_1435 ?_
  refine tw_callV (As := [.int (xs (i + 1)), .int (xs (i + 2))]) (rest := [.int v]) (r := (9, 0)) C hR (kX9_cup K.1 _ (by omega) s1 (xs (i + 1)) (xs (i + 2)) e2) mi_X9_cup is_X9_cup se_X9_cup ml_RL_155 (wcells_mem (f := 9) (j := 0) (by decide) (by decide)) rfl rfl rfl rfl (Nat.le_of_ble_eq_true rfl) dL_law_1436 ?_
  show TW K 1439 (Ll K b i) [.int v, .int v] s2
  exact tw_ic_eq (tgt := 1749) C dL_law_1439 (by decide) (fun _ => cont s2 hI2) (fun hne => absurd rfl hne)
set_option maxRecDepth 20000 in
theorem lc_34 {K : Kx} (C : Cx K cL_law RL) (hR : RmOk K 11) {b L : Nat} {xs : Nat → Int32} (hX : SX K b L xs) (hL : L ≤ 3072) {i : Nat} (hi : i + 6 ≤ L) {σ : St} (hI : Iy σ) (cont : ∀ σ', Iy σ' → TW K 1749 (Ll K b i) [] σ') : TW K 1444 (Ll K b i) [] σ := by
  refine tw_aload_n (i := 1) (z := 1) (r := (8, 0)) C dL_law_1444 rfl rfl ?_
  refine tw_aload_b (i := 0) (z := 0) C dL_law_1445 rfl rfl ?_
  refine tw_iload_n (i := 3) (z := 3) C dL_law_1446 rfl rfl ?_
  refine tw_iconst (v := 1) C dL_law_1447 (by decide) ?_
  refine tw_iadd C dL_law_1448 ?_
  refine tw_script (j := i + 1) C hX (by omega) (by omega) (nI_add i 1) dL_law_1449 ?_
  refine tw_aload_b (i := 0) (z := 0) C dL_law_1450 rfl rfl ?_
  refine tw_iload_n (i := 3) (z := 3) C dL_law_1451 rfl rfl ?_
  refine tw_iconst (v := 2) C dL_law_1452 (by decide) ?_
  refine tw_iadd C dL_law_1453 ?_
  refine tw_script (j := i + 2) C hX (by omega) (by omega) (nI_add i 2) dL_law_1454 ?_
  refine tw_aload_b (i := 0) (z := 0) C dL_law_1455 rfl rfl ?_
  refine tw_iload_n (i := 3) (z := 3) C dL_law_1456 rfl rfl ?_
  refine tw_iconst (v := 3) C dL_law_1457 (by decide) ?_
  refine tw_iadd C dL_law_1458 ?_
  refine tw_script (j := i + 3) C hX (by omega) (by omega) (nI_add i 3) dL_law_1459 ?_
  obtain ⟨v, s1, s2, e1, e2, hI2⟩ := oy_sheet hI (xs (i + 1)) (xs (i + 2)) (xs (i + 3))
  refine tw_callV (As := [.int (xs (i + 1)), .int (xs (i + 2)), .int (xs (i + 3))]) (rest := []) (r := (8, 0)) C hR (kX8_sheet K.1 _ (by omega) σ (xs (i + 1)) (xs (i + 2)) (xs (i + 3)) e1) mi_X8_sheet is_X8_sheet se_X8_sheet ml_RL_156 (wcells_mem (f := 8) (j := 0) (by decide) (by decide)) rfl rfl rfl rfl (Nat.le_of_ble_eq_true rfl) dL_law_1460 ?_
  show TW K 1463 (Ll K b i) [.int v] s1
  refine tw_aload_n (i := 2) (z := 2) (r := (9, 0)) C dL_law_1463 rfl rfl ?_
  refine tw_aload_b (i := 0) (z := 0) C dL_law_1464 rfl rfl ?_
  refine tw_iload_n (i := 3) (z := 3) C dL_law_1465 rfl rfl ?_
  refine tw_iconst (v := 1) C dL_law_1466 (by decide) ?_
  refine tw_iadd C dL_law_1467 ?_
  refine tw_script (j := i + 1) C hX (by omega) (by omega) (nI_add i 1) dL_law_1468 ?_
  refine tw_aload_b (i := 0) (z := 0) C dL_law_1469 rfl rfl ?_
  refine tw_iload_n (i := 3) (z := 3) C dL_law_1470 rfl rfl ?_
  refine tw_iconst (v := 2) C dL_law_1471 (by decide) ?_
  refine tw_iadd C dL_law_1472 ?_
  refine tw_script (j := i + 2) C hX (by omega) (by omega) (nI_add i 2) dL_law_1473 ?_
  refine tw_aload_b (i := 0) (z := 0) C dL_law_1474 rfl rfl ?_
  refine tw_iload_n (i := 3) (z := 3) C dL_law_1475 rfl rfl ?_
  refine tw_iconst (v := 3) C dL_law_1476 (by decide) ?_
  refine tw_iadd C dL_law_1477 ?_
  refine tw_script (j := i + 3) C hX (by omega) (by omega) (nI_add i 3) dL_law_1478 ?_
  refine tw_callV (As := [.int (xs (i + 1)), .int (xs (i + 2)), .int (xs (i + 3))]) (rest := [.int v]) (r := (9, 0)) C hR (kX9_sheet K.1 _ (by omega) s1 (xs (i + 1)) (xs (i + 2)) (xs (i + 3)) e2) mi_X9_sheet is_X9_sheet se_X9_sheet ml_RL_159 (wcells_mem (f := 9) (j := 0) (by decide) (by decide)) rfl rfl rfl rfl (Nat.le_of_ble_eq_true rfl) dL_law_1479 ?_
  show TW K 1482 (Ll K b i) [.int v, .int v] s2
  exact tw_ic_eq (tgt := 1749) C dL_law_1482 (by decide) (fun _ => cont s2 hI2) (fun hne => absurd rfl hne)
set_option maxRecDepth 20000 in
theorem lc_35 {K : Kx} (C : Cx K cL_law RL) (hR : RmOk K 11) {b L : Nat} {xs : Nat → Int32} (hX : SX K b L xs) (hL : L ≤ 3072) {i : Nat} (hi : i + 6 ≤ L) {σ : St} (hI : Iy σ) (cont : ∀ σ', Iy σ' → TW K 1749 (Ll K b i) [] σ') : TW K 1487 (Ll K b i) [] σ := by
  refine tw_aload_n (i := 1) (z := 1) (r := (8, 0)) C dL_law_1487 rfl rfl ?_
  refine tw_aload_b (i := 0) (z := 0) C dL_law_1488 rfl rfl ?_
  refine tw_iload_n (i := 3) (z := 3) C dL_law_1489 rfl rfl ?_
  refine tw_iconst (v := 1) C dL_law_1490 (by decide) ?_
  refine tw_iadd C dL_law_1491 ?_
  refine tw_script (j := i + 1) C hX (by omega) (by omega) (nI_add i 1) dL_law_1492 ?_
  obtain ⟨v, s1, s2, e1, e2, hI2⟩ := oy_lose hI (xs (i + 1))
  refine tw_callV (As := [.int (xs (i + 1))]) (rest := []) (r := (8, 0)) C hR (kX8_lose K.1 _ (by omega) σ (xs (i + 1)) e1) mi_X8_lose is_X8_lose se_X8_lose ml_RL_160 (wcells_mem (f := 8) (j := 0) (by decide) (by decide)) rfl rfl rfl rfl (Nat.le_of_ble_eq_true rfl) dL_law_1493 ?_
  show TW K 1496 (Ll K b i) [.int v] s1
  refine tw_aload_n (i := 2) (z := 2) (r := (9, 0)) C dL_law_1496 rfl rfl ?_
  refine tw_aload_b (i := 0) (z := 0) C dL_law_1497 rfl rfl ?_
  refine tw_iload_n (i := 3) (z := 3) C dL_law_1498 rfl rfl ?_
  refine tw_iconst (v := 1) C dL_law_1499 (by decide) ?_
  refine tw_iadd C dL_law_1500 ?_
  refine tw_script (j := i + 1) C hX (by omega) (by omega) (nI_add i 1) dL_law_1501 ?_
  refine tw_callV (As := [.int (xs (i + 1))]) (rest := [.int v]) (r := (9, 0)) C hR (kX9_lose K.1 _ (by omega) s1 (xs (i + 1)) e2) mi_X9_lose is_X9_lose se_X9_lose ml_RL_163 (wcells_mem (f := 9) (j := 0) (by decide) (by decide)) rfl rfl rfl rfl (Nat.le_of_ble_eq_true rfl) dL_law_1502 ?_
  show TW K 1505 (Ll K b i) [.int v, .int v] s2
  exact tw_ic_eq (tgt := 1749) C dL_law_1505 (by decide) (fun _ => cont s2 hI2) (fun hne => absurd rfl hne)
set_option maxRecDepth 20000 in
theorem lc_36 {K : Kx} (C : Cx K cL_law RL) (hR : RmOk K 11) {b L : Nat} {xs : Nat → Int32} (hX : SX K b L xs) (hL : L ≤ 3072) {i : Nat} (hi : i + 6 ≤ L) {σ : St} (hI : Iy σ) (cont : ∀ σ', Iy σ' → TW K 1749 (Ll K b i) [] σ') : TW K 1510 (Ll K b i) [] σ := by
  refine tw_aload_n (i := 1) (z := 1) (r := (8, 0)) C dL_law_1510 rfl rfl ?_
  refine tw_aload_b (i := 0) (z := 0) C dL_law_1511 rfl rfl ?_
  refine tw_iload_n (i := 3) (z := 3) C dL_law_1512 rfl rfl ?_
  refine tw_iconst (v := 1) C dL_law_1513 (by decide) ?_
  refine tw_iadd C dL_law_1514 ?_
  refine tw_script (j := i + 1) C hX (by omega) (by omega) (nI_add i 1) dL_law_1515 ?_
  refine tw_aload_b (i := 0) (z := 0) C dL_law_1516 rfl rfl ?_
  refine tw_iload_n (i := 3) (z := 3) C dL_law_1517 rfl rfl ?_
  refine tw_iconst (v := 2) C dL_law_1518 (by decide) ?_
  refine tw_iadd C dL_law_1519 ?_
  refine tw_script (j := i + 2) C hX (by omega) (by omega) (nI_add i 2) dL_law_1520 ?_
  refine tw_aload_b (i := 0) (z := 0) C dL_law_1521 rfl rfl ?_
  refine tw_iload_n (i := 3) (z := 3) C dL_law_1522 rfl rfl ?_
  refine tw_iconst (v := 3) C dL_law_1523 (by decide) ?_
  refine tw_iadd C dL_law_1524 ?_
  refine tw_script (j := i + 3) C hX (by omega) (by omega) (nI_add i 3) dL_law_1525 ?_
  refine tw_aload_b (i := 0) (z := 0) C dL_law_1526 rfl rfl ?_
  refine tw_iload_n (i := 3) (z := 3) C dL_law_1527 rfl rfl ?_
  refine tw_iconst (v := 4) C dL_law_1528 (by decide) ?_
  refine tw_iadd C dL_law_1529 ?_
  refine tw_script (j := i + 4) C hX (by omega) (by omega) (nI_add i 4) dL_law_1530 ?_
  obtain ⟨v, s1, s2, e1, e2, hI2⟩ := oy_lay hI (xs (i + 1)) (xs (i + 2)) (xs (i + 3)) (xs (i + 4))
  refine tw_callV (As := [.int (xs (i + 1)), .int (xs (i + 2)), .int (xs (i + 3)), .int (xs (i + 4))]) (rest := []) (r := (8, 0)) C hR (kX8_lay K.1 _ (by omega) σ (xs (i + 1)) (xs (i + 2)) (xs (i + 3)) (xs (i + 4)) e1) mi_X8_lay is_X8_lay se_X8_lay ml_RL_164 (wcells_mem (f := 8) (j := 0) (by decide) (by decide)) rfl rfl rfl rfl (Nat.le_of_ble_eq_true rfl) dL_law_1531 ?_
  show TW K 1534 (Ll K b i) [.int v] s1
  refine tw_aload_n (i := 2) (z := 2) (r := (9, 0)) C dL_law_1534 rfl rfl ?_
  refine tw_aload_b (i := 0) (z := 0) C dL_law_1535 rfl rfl ?_
  refine tw_iload_n (i := 3) (z := 3) C dL_law_1536 rfl rfl ?_
  refine tw_iconst (v := 1) C dL_law_1537 (by decide) ?_
  refine tw_iadd C dL_law_1538 ?_
  refine tw_script (j := i + 1) C hX (by omega) (by omega) (nI_add i 1) dL_law_1539 ?_
  refine tw_aload_b (i := 0) (z := 0) C dL_law_1540 rfl rfl ?_
  refine tw_iload_n (i := 3) (z := 3) C dL_law_1541 rfl rfl ?_
  refine tw_iconst (v := 2) C dL_law_1542 (by decide) ?_
  refine tw_iadd C dL_law_1543 ?_
  refine tw_script (j := i + 2) C hX (by omega) (by omega) (nI_add i 2) dL_law_1544 ?_
  refine tw_aload_b (i := 0) (z := 0) C dL_law_1545 rfl rfl ?_
  refine tw_iload_n (i := 3) (z := 3) C dL_law_1546 rfl rfl ?_
  refine tw_iconst (v := 3) C dL_law_1547 (by decide) ?_
  refine tw_iadd C dL_law_1548 ?_
  refine tw_script (j := i + 3) C hX (by omega) (by omega) (nI_add i 3) dL_law_1549 ?_
  refine tw_aload_b (i := 0) (z := 0) C dL_law_1550 rfl rfl ?_
  refine tw_iload_n (i := 3) (z := 3) C dL_law_1551 rfl rfl ?_
  refine tw_iconst (v := 4) C dL_law_1552 (by decide) ?_
  refine tw_iadd C dL_law_1553 ?_
  refine tw_script (j := i + 4) C hX (by omega) (by omega) (nI_add i 4) dL_law_1554 ?_
  refine tw_callV (As := [.int (xs (i + 1)), .int (xs (i + 2)), .int (xs (i + 3)), .int (xs (i + 4))]) (rest := [.int v]) (r := (9, 0)) C hR (kX9_lay K.1 _ (by omega) s1 (xs (i + 1)) (xs (i + 2)) (xs (i + 3)) (xs (i + 4)) e2) mi_X9_lay is_X9_lay se_X9_lay ml_RL_167 (wcells_mem (f := 9) (j := 0) (by decide) (by decide)) rfl rfl rfl rfl (Nat.le_of_ble_eq_true rfl) dL_law_1555 ?_
  show TW K 1558 (Ll K b i) [.int v, .int v] s2
  exact tw_ic_eq (tgt := 1749) C dL_law_1558 (by decide) (fun _ => cont s2 hI2) (fun hne => absurd rfl hne)
set_option maxRecDepth 20000 in
theorem lc_37 {K : Kx} (C : Cx K cL_law RL) (hR : RmOk K 11) {b L : Nat} {xs : Nat → Int32} (hX : SX K b L xs) (hL : L ≤ 3072) {i : Nat} (hi : i + 6 ≤ L) {σ : St} (hI : Iy σ) (cont : ∀ σ', Iy σ' → TW K 1749 (Ll K b i) [] σ') : TW K 1563 (Ll K b i) [] σ := by
  refine tw_aload_n (i := 1) (z := 1) (r := (8, 0)) C dL_law_1563 rfl rfl ?_
  refine tw_aload_b (i := 0) (z := 0) C dL_law_1564 rfl rfl ?_
  refine tw_iload_n (i := 3) (z := 3) C dL_law_1565 rfl rfl ?_
  refine tw_iconst (v := 1) C dL_law_1566 (by decide) ?_
  refine tw_iadd C dL_law_1567 ?_
  refine tw_script (j := i + 1) C hX (by omega) (by omega) (nI_add i 1) dL_law_1568 ?_
  refine tw_aload_b (i := 0) (z := 0) C dL_law_1569 rfl rfl ?_
  refine tw_iload_n (i := 3) (z := 3) C dL_law_1570 rfl rfl ?_
  refine tw_iconst (v := 2) C dL_law_1571 (by decide) ?_
  refine tw_iadd C dL_law_1572 ?_
  refine tw_script (j := i + 2) C hX (by omega) (by omega) (nI_add i 2) dL_law_1573 ?_
  refine tw_aload_b (i := 0) (z := 0) C dL_law_1574 rfl rfl ?_
  refine tw_iload_n (i := 3) (z := 3) C dL_law_1575 rfl rfl ?_
  refine tw_iconst (v := 3) C dL_law_1576 (by decide) ?_
  refine tw_iadd C dL_law_1577 ?_
  refine tw_script (j := i + 3) C hX (by omega) (by omega) (nI_add i 3) dL_law_1578 ?_
  obtain ⟨v, s1, s2, e1, e2, hI2⟩ := oy_get hI (xs (i + 1)) (xs (i + 2)) (xs (i + 3))
  refine tw_callV (As := [.int (xs (i + 1)), .int (xs (i + 2)), .int (xs (i + 3))]) (rest := []) (r := (8, 0)) C hR (kX8_get K.1 _ (by omega) σ (xs (i + 1)) (xs (i + 2)) (xs (i + 3)) e1) mi_X8_get is_X8_get se_X8_get ml_RL_168 (wcells_mem (f := 8) (j := 0) (by decide) (by decide)) rfl rfl rfl rfl (Nat.le_of_ble_eq_true rfl) dL_law_1579 ?_
  show TW K 1582 (Ll K b i) [.int v] s1
  refine tw_aload_n (i := 2) (z := 2) (r := (9, 0)) C dL_law_1582 rfl rfl ?_
  refine tw_aload_b (i := 0) (z := 0) C dL_law_1583 rfl rfl ?_
  refine tw_iload_n (i := 3) (z := 3) C dL_law_1584 rfl rfl ?_
  refine tw_iconst (v := 1) C dL_law_1585 (by decide) ?_
  refine tw_iadd C dL_law_1586 ?_
  refine tw_script (j := i + 1) C hX (by omega) (by omega) (nI_add i 1) dL_law_1587 ?_
  refine tw_aload_b (i := 0) (z := 0) C dL_law_1588 rfl rfl ?_
  refine tw_iload_n (i := 3) (z := 3) C dL_law_1589 rfl rfl ?_
  refine tw_iconst (v := 2) C dL_law_1590 (by decide) ?_
  refine tw_iadd C dL_law_1591 ?_
  refine tw_script (j := i + 2) C hX (by omega) (by omega) (nI_add i 2) dL_law_1592 ?_
  refine tw_aload_b (i := 0) (z := 0) C dL_law_1593 rfl rfl ?_
  refine tw_iload_n (i := 3) (z := 3) C dL_law_1594 rfl rfl ?_
  refine tw_iconst (v := 3) C dL_law_1595 (by decide) ?_
  refine tw_iadd C dL_law_1596 ?_
  refine tw_script (j := i + 3) C hX (by omega) (by omega) (nI_add i 3) dL_law_1597 ?_
  refine tw_callV (As := [.int (xs (i + 1)), .int (xs (i + 2)), .int (xs (i + 3))]) (rest := [.int v]) (r := (9, 0)) C hR (kX9_get K.1 _ (by omega) s1 (xs (i + 1)) (xs (i + 2)) (xs (i + 3)) e2) mi_X9_get is_X9_get se_X9_get ml_RL_171 (wcells_mem (f := 9) (j := 0) (by decide) (by decide)) rfl rfl rfl rfl (Nat.le_of_ble_eq_true rfl) dL_law_1598 ?_
  show TW K 1601 (Ll K b i) [.int v, .int v] s2
  exact tw_ic_eq (tgt := 1749) C dL_law_1601 (by decide) (fun _ => cont s2 hI2) (fun hne => absurd rfl hne)
set_option maxRecDepth 20000 in
theorem lc_38 {K : Kx} (C : Cx K cL_law RL) (hR : RmOk K 11) {b L : Nat} {xs : Nat → Int32} (hX : SX K b L xs) (hL : L ≤ 3072) {i : Nat} (hi : i + 6 ≤ L) {σ : St} (hI : Iy σ) (cont : ∀ σ', Iy σ' → TW K 1749 (Ll K b i) [] σ') : TW K 1606 (Ll K b i) [] σ := by
  refine tw_aload_n (i := 1) (z := 1) (r := (8, 0)) C dL_law_1606 rfl rfl ?_
  refine tw_aload_b (i := 0) (z := 0) C dL_law_1607 rfl rfl ?_
  refine tw_iload_n (i := 3) (z := 3) C dL_law_1608 rfl rfl ?_
  refine tw_iconst (v := 1) C dL_law_1609 (by decide) ?_
  refine tw_iadd C dL_law_1610 ?_
  refine tw_script (j := i + 1) C hX (by omega) (by omega) (nI_add i 1) dL_law_1611 ?_
  refine tw_aload_b (i := 0) (z := 0) C dL_law_1612 rfl rfl ?_
  refine tw_iload_n (i := 3) (z := 3) C dL_law_1613 rfl rfl ?_
  refine tw_iconst (v := 2) C dL_law_1614 (by decide) ?_
  refine tw_iadd C dL_law_1615 ?_
  refine tw_script (j := i + 2) C hX (by omega) (by omega) (nI_add i 2) dL_law_1616 ?_
  refine tw_aload_b (i := 0) (z := 0) C dL_law_1617 rfl rfl ?_
  refine tw_iload_n (i := 3) (z := 3) C dL_law_1618 rfl rfl ?_
  refine tw_iconst (v := 3) C dL_law_1619 (by decide) ?_
  refine tw_iadd C dL_law_1620 ?_
  refine tw_script (j := i + 3) C hX (by omega) (by omega) (nI_add i 3) dL_law_1621 ?_
  refine tw_aload_b (i := 0) (z := 0) C dL_law_1622 rfl rfl ?_
  refine tw_iload_n (i := 3) (z := 3) C dL_law_1623 rfl rfl ?_
  refine tw_iconst (v := 4) C dL_law_1624 (by decide) ?_
  refine tw_iadd C dL_law_1625 ?_
  refine tw_script (j := i + 4) C hX (by omega) (by omega) (nI_add i 4) dL_law_1626 ?_
  refine tw_aload_b (i := 0) (z := 0) C dL_law_1627 rfl rfl ?_
  refine tw_iload_n (i := 3) (z := 3) C dL_law_1628 rfl rfl ?_
  refine tw_iconst (v := 5) C dL_law_1629 (by decide) ?_
  refine tw_iadd C dL_law_1630 ?_
  refine tw_script (j := i + 5) C hX (by omega) (by omega) (nI_add i 5) dL_law_1631 ?_
  obtain ⟨v, s1, s2, e1, e2, hI2⟩ := oy_copy hI (xs (i + 1)) (xs (i + 2)) (xs (i + 3)) (xs (i + 4)) (xs (i + 5))
  refine tw_callV (As := [.int (xs (i + 1)), .int (xs (i + 2)), .int (xs (i + 3)), .int (xs (i + 4)), .int (xs (i + 5))]) (rest := []) (r := (8, 0)) C hR (kX8_copy K.1 _ (by omega) σ (xs (i + 1)) (xs (i + 2)) (xs (i + 3)) (xs (i + 4)) (xs (i + 5)) e1) mi_X8_copy is_X8_copy se_X8_copy ml_RL_172 (wcells_mem (f := 8) (j := 0) (by decide) (by decide)) rfl rfl rfl rfl (Nat.le_of_ble_eq_true rfl) dL_law_1632 ?_
  show TW K 1635 (Ll K b i) [.int v] s1
  refine tw_aload_n (i := 2) (z := 2) (r := (9, 0)) C dL_law_1635 rfl rfl ?_
  refine tw_aload_b (i := 0) (z := 0) C dL_law_1636 rfl rfl ?_
  refine tw_iload_n (i := 3) (z := 3) C dL_law_1637 rfl rfl ?_
  refine tw_iconst (v := 1) C dL_law_1638 (by decide) ?_
  refine tw_iadd C dL_law_1639 ?_
  refine tw_script (j := i + 1) C hX (by omega) (by omega) (nI_add i 1) dL_law_1640 ?_
  refine tw_aload_b (i := 0) (z := 0) C dL_law_1641 rfl rfl ?_
  refine tw_iload_n (i := 3) (z := 3) C dL_law_1642 rfl rfl ?_
  refine tw_iconst (v := 2) C dL_law_1643 (by decide) ?_
  refine tw_iadd C dL_law_1644 ?_
  refine tw_script (j := i + 2) C hX (by omega) (by omega) (nI_add i 2) dL_law_1645 ?_
  refine tw_aload_b (i := 0) (z := 0) C dL_law_1646 rfl rfl ?_
  refine tw_iload_n (i := 3) (z := 3) C dL_law_1647 rfl rfl ?_
  refine tw_iconst (v := 3) C dL_law_1648 (by decide) ?_
  refine tw_iadd C dL_law_1649 ?_
  refine tw_script (j := i + 3) C hX (by omega) (by omega) (nI_add i 3) dL_law_1650 ?_
  refine tw_aload_b (i := 0) (z := 0) C dL_law_1651 rfl rfl ?_
  refine tw_iload_n (i := 3) (z := 3) C dL_law_1652 rfl rfl ?_
  refine tw_iconst (v := 4) C dL_law_1653 (by decide) ?_
  refine tw_iadd C dL_law_1654 ?_
  refine tw_script (j := i + 4) C hX (by omega) (by omega) (nI_add i 4) dL_law_1655 ?_
  refine tw_aload_b (i := 0) (z := 0) C dL_law_1656 rfl rfl ?_
  refine tw_iload_n (i := 3) (z := 3) C dL_law_1657 rfl rfl ?_
  refine tw_iconst (v := 5) C dL_law_1658 (by decide) ?_
  refine tw_iadd C dL_law_1659 ?_
  refine tw_script (j := i + 5) C hX (by omega) (by omega) (nI_add i 5) dL_law_1660 ?_
  refine tw_callV (As := [.int (xs (i + 1)), .int (xs (i + 2)), .int (xs (i + 3)), .int (xs (i + 4)), .int (xs (i + 5))]) (rest := [.int v]) (r := (9, 0)) C hR (kX9_copy K.1 _ (by omega) s1 (xs (i + 1)) (xs (i + 2)) (xs (i + 3)) (xs (i + 4)) (xs (i + 5)) e2) mi_X9_copy is_X9_copy se_X9_copy ml_RL_175 (wcells_mem (f := 9) (j := 0) (by decide) (by decide)) rfl rfl rfl rfl (Nat.le_of_ble_eq_true rfl) dL_law_1661 ?_
  show TW K 1664 (Ll K b i) [.int v, .int v] s2
  exact tw_ic_eq (tgt := 1749) C dL_law_1664 (by decide) (fun _ => cont s2 hI2) (fun hne => absurd rfl hne)
set_option maxRecDepth 20000 in
theorem lc_39 {K : Kx} (C : Cx K cL_law RL) (hR : RmOk K 11) {b L : Nat} {xs : Nat → Int32} (hX : SX K b L xs) (hL : L ≤ 3072) {i : Nat} (hi : i + 6 ≤ L) {σ : St} (hI : Iy σ) (cont : ∀ σ', Iy σ' → TW K 1749 (Ll K b i) [] σ') : TW K 1669 (Ll K b i) [] σ := by
  refine tw_aload_n (i := 1) (z := 1) (r := (8, 0)) C dL_law_1669 rfl rfl ?_
  refine tw_aload_b (i := 0) (z := 0) C dL_law_1670 rfl rfl ?_
  refine tw_iload_n (i := 3) (z := 3) C dL_law_1671 rfl rfl ?_
  refine tw_iconst (v := 1) C dL_law_1672 (by decide) ?_
  refine tw_iadd C dL_law_1673 ?_
  refine tw_script (j := i + 1) C hX (by omega) (by omega) (nI_add i 1) dL_law_1674 ?_
  refine tw_aload_b (i := 0) (z := 0) C dL_law_1675 rfl rfl ?_
  refine tw_iload_n (i := 3) (z := 3) C dL_law_1676 rfl rfl ?_
  refine tw_iconst (v := 2) C dL_law_1677 (by decide) ?_
  refine tw_iadd C dL_law_1678 ?_
  refine tw_script (j := i + 2) C hX (by omega) (by omega) (nI_add i 2) dL_law_1679 ?_
  refine tw_aload_b (i := 0) (z := 0) C dL_law_1680 rfl rfl ?_
  refine tw_iload_n (i := 3) (z := 3) C dL_law_1681 rfl rfl ?_
  refine tw_iconst (v := 3) C dL_law_1682 (by decide) ?_
  refine tw_iadd C dL_law_1683 ?_
  refine tw_script (j := i + 3) C hX (by omega) (by omega) (nI_add i 3) dL_law_1684 ?_
  obtain ⟨v, s1, s2, e1, e2, hI2⟩ := oy_write hI (xs (i + 1)) (xs (i + 2)) (xs (i + 3))
  refine tw_callV (As := [.int (xs (i + 1)), .int (xs (i + 2)), .int (xs (i + 3))]) (rest := []) (r := (8, 0)) C hR (kX8_write K.1 _ (by omega) σ (xs (i + 1)) (xs (i + 2)) (xs (i + 3)) e1) mi_X8_write is_X8_write se_X8_write ml_RL_176 (wcells_mem (f := 8) (j := 0) (by decide) (by decide)) rfl rfl rfl rfl (Nat.le_of_ble_eq_true rfl) dL_law_1685 ?_
  show TW K 1688 (Ll K b i) [.int v] s1
  refine tw_aload_n (i := 2) (z := 2) (r := (9, 0)) C dL_law_1688 rfl rfl ?_
  refine tw_aload_b (i := 0) (z := 0) C dL_law_1689 rfl rfl ?_
  refine tw_iload_n (i := 3) (z := 3) C dL_law_1690 rfl rfl ?_
  refine tw_iconst (v := 1) C dL_law_1691 (by decide) ?_
  refine tw_iadd C dL_law_1692 ?_
  refine tw_script (j := i + 1) C hX (by omega) (by omega) (nI_add i 1) dL_law_1693 ?_
  refine tw_aload_b (i := 0) (z := 0) C dL_law_1694 rfl rfl ?_
  refine tw_iload_n (i := 3) (z := 3) C dL_law_1695 rfl rfl ?_
  refine tw_iconst (v := 2) C dL_law_1696 (by decide) ?_
  refine tw_iadd C dL_law_1697 ?_
  refine tw_script (j := i + 2) C hX (by omega) (by omega) (nI_add i 2) dL_law_1698 ?_
  refine tw_aload_b (i := 0) (z := 0) C dL_law_1699 rfl rfl ?_
  refine tw_iload_n (i := 3) (z := 3) C dL_law_1700 rfl rfl ?_
  refine tw_iconst (v := 3) C dL_law_1701 (by decide) ?_
  refine tw_iadd C dL_law_1702 ?_
  refine tw_script (j := i + 3) C hX (by omega) (by omega) (nI_add i 3) dL_law_1703 ?_
  refine tw_callV (As := [.int (xs (i + 1)), .int (xs (i + 2)), .int (xs (i + 3))]) (rest := [.int v]) (r := (9, 0)) C hR (kX9_write K.1 _ (by omega) s1 (xs (i + 1)) (xs (i + 2)) (xs (i + 3)) e2) mi_X9_write is_X9_write se_X9_write ml_RL_179 (wcells_mem (f := 9) (j := 0) (by decide) (by decide)) rfl rfl rfl rfl (Nat.le_of_ble_eq_true rfl) dL_law_1704 ?_
  show TW K 1707 (Ll K b i) [.int v, .int v] s2
  exact tw_ic_eq (tgt := 1749) C dL_law_1707 (by decide) (fun _ => cont s2 hI2) (fun hne => absurd rfl hne)
set_option maxRecDepth 20000 in
theorem lc_40 {K : Kx} (C : Cx K cL_law RL) (hR : RmOk K 11) {b L : Nat} {xs : Nat → Int32} (hX : SX K b L xs) (hL : L ≤ 3072) {i : Nat} (hi : i + 6 ≤ L) {σ : St} (hI : Iy σ) (cont : ∀ σ', Iy σ' → TW K 1749 (Ll K b i) [] σ') : TW K 1712 (Ll K b i) [] σ := by
  refine tw_aload_n (i := 1) (z := 1) (r := (8, 0)) C dL_law_1712 rfl rfl ?_
  refine tw_aload_b (i := 0) (z := 0) C dL_law_1713 rfl rfl ?_
  refine tw_iload_n (i := 3) (z := 3) C dL_law_1714 rfl rfl ?_
  refine tw_iconst (v := 1) C dL_law_1715 (by decide) ?_
  refine tw_iadd C dL_law_1716 ?_
  refine tw_script (j := i + 1) C hX (by omega) (by omega) (nI_add i 1) dL_law_1717 ?_
  obtain ⟨v, e1, e2⟩ := oy_count hI (xs (i + 1))
  refine tw_callV (As := [.int (xs (i + 1))]) (rest := []) (r := (8, 0)) C hR (kX8_count K.1 _ (by omega) σ (xs (i + 1)) e1) mi_X8_count is_X8_count se_X8_count ml_RL_180 (wcells_mem (f := 8) (j := 0) (by decide) (by decide)) rfl rfl rfl rfl (Nat.le_of_ble_eq_true rfl) dL_law_1718 ?_
  show TW K 1721 (Ll K b i) [.int v] σ
  refine tw_aload_n (i := 2) (z := 2) (r := (9, 0)) C dL_law_1721 rfl rfl ?_
  refine tw_aload_b (i := 0) (z := 0) C dL_law_1722 rfl rfl ?_
  refine tw_iload_n (i := 3) (z := 3) C dL_law_1723 rfl rfl ?_
  refine tw_iconst (v := 1) C dL_law_1724 (by decide) ?_
  refine tw_iadd C dL_law_1725 ?_
  refine tw_script (j := i + 1) C hX (by omega) (by omega) (nI_add i 1) dL_law_1726 ?_
  refine tw_callV (As := [.int (xs (i + 1))]) (rest := [.int v]) (r := (9, 0)) C hR (kX9_count K.1 _ (by omega) σ (xs (i + 1)) e2) mi_X9_count is_X9_count se_X9_count ml_RL_183 (wcells_mem (f := 9) (j := 0) (by decide) (by decide)) rfl rfl rfl rfl (Nat.le_of_ble_eq_true rfl) dL_law_1727 ?_
  show TW K 1730 (Ll K b i) [.int v, .int v] σ
  exact tw_ic_eq (tgt := 1749) C dL_law_1730 (by decide) (fun _ => cont σ hI) (fun hne => absurd rfl hne)
set_option maxRecDepth 20000 in
theorem lc_41 {K : Kx} (C : Cx K cL_law RL) (hR : RmOk K 11) {b L : Nat} {xs : Nat → Int32} (hX : SX K b L xs) (hL : L ≤ 3072) {i : Nat} (hi : i + 6 ≤ L) {σ : St} (hI : Iy σ) (cont : ∀ σ', Iy σ' → TW K 1749 (Ll K b i) [] σ') : TW K 1735 (Ll K b i) [] σ := by
  refine tw_aload_n (i := 1) (z := 1) (r := (8, 0)) C dL_law_1735 rfl rfl ?_
  obtain ⟨v, s1, s2, e1, e2, hI2⟩ := oy_digest hI 
  refine tw_callV (As := []) (rest := []) (r := (8, 0)) C hR (kX8_digest K.1 _ (by omega) σ  e1) mi_X8_digest is_X8_digest se_X8_digest ml_RL_184 (wcells_mem (f := 8) (j := 0) (by decide) (by decide)) rfl rfl rfl rfl (Nat.le_of_ble_eq_true rfl) dL_law_1736 ?_
  show TW K 1739 (Ll K b i) [.long v] s1
  refine tw_aload_n (i := 2) (z := 2) (r := (9, 0)) C dL_law_1739 rfl rfl ?_
  refine tw_callV (As := []) (rest := [.long v]) (r := (9, 0)) C hR (kX9_digest K.1 _ (by omega) s1  e2) mi_X9_digest is_X9_digest se_X9_digest ml_RL_188 (wcells_mem (f := 9) (j := 0) (by decide) (by decide)) rfl rfl rfl rfl (Nat.le_of_ble_eq_true rfl) dL_law_1740 ?_
  show TW K 1743 (Ll K b i) [.long v, .long v] s2
  refine tw_lcmp C dL_law_1743 ?_
  rw [lg_same]
  exact tw_if_eq (tgt := 1749) C dL_law_1744 (by decide) (fun _ => cont s2 hI2) (fun hne => absurd rfl hne)
