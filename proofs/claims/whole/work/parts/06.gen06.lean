set_option maxRecDepth 20000 in
def fX8_gives (σ : St) (a1 : Int32) (a2 : Int32) : Option (Int32) :=
  if (fX8_areTwoClubs σ a1 a2) = true then
    obi (fX8_atOdds σ a1 a2) (fun x1 =>
    if x1 = 0 then
      obi (fX8_givenBy σ a1 a2) (fun x2 =>
      some x2)
    else
      some (-3 : Int32))
  else
    some (-2 : Int32)
set_option maxRecDepth 20000 in
set_option maxHeartbeats 4000000 in
theorem kX8_gives (G : Gx) (d : Nat) (hdp : 3 ≤ d) (σ : St) (a1 : Int32) (a2 : Int32)  {v0 : Int32} (h : fX8_gives σ a1 a2 = some v0) : MS G d yX8_gives cX8_gives 3 (some .int) [.ref (G.2.1 (8, 0)), .int a1, .int a2] σ (some (.int v0)) σ := by
  refine MS_of (by decide) (Nat.le_of_ble_eq_true rfl) rfl (fun K hG hnL C hR hK => ?_) (by omega)
  subst hG
  show TW K 0 [(0, rv K (8, 0)), (1, .int a1), (2, .int a2)] [] σ
  unfold fX8_gives at h
  refine tw_aload_n (i := 0) (z := 0) (r := (8, 0)) C dX8_gives_0 rfl rfl ?_
  refine tw_iload_n (i := 1) (z := 1) C dX8_gives_1 rfl rfl ?_
  refine tw_iload_n (i := 2) (z := 2) C dX8_gives_2 rfl rfl ?_
  refine tw_callV (As := [.int a1, .int a2]) (rest := []) (r := (8, 0)) C hR (kX8_areTwoClubs K.1 _ (by omega) σ a1 a2  rfl) mi_X8_areTwoClubs is_X8_areTwoClubs se_X8_areTwoClubs ml_RX8_217 (wcells_mem (f := 8) (j := 0) (by decide) (by decide)) rfl rfl rfl rfl (Nat.le_of_ble_eq_true rfl) dX8_gives_3 ?_
  show TW K 6 [(0, rv K (8, 0)), (1, .int a1), (2, .int a2)] [.int (b2i (fX8_areTwoClubs σ a1 a2))] σ
  refine tw_if_ne (tgt := 12) C dX8_gives_6 (by decide) (fun hc1 => ?_) (fun hc1 => ?_)
  · have ht1 := ite_t (b2i_nz hc1) h
    refine tw_aload_n (i := 0) (z := 0) (r := (8, 0)) C dX8_gives_12 rfl rfl ?_
    refine tw_iload_n (i := 1) (z := 1) C dX8_gives_13 rfl rfl ?_
    refine tw_iload_n (i := 2) (z := 2) C dX8_gives_14 rfl rfl ?_
    obtain ⟨x1, hv2, eh2⟩ := obi_some ht1
    refine tw_callV (As := [.int a1, .int a2]) (rest := []) (r := (8, 0)) C hR (kX8_atOdds K.1 _ (by omega) σ a1 a2  hv2) mi_X8_atOdds is_X8_atOdds se_X8_atOdds ml_RX8_221 (wcells_mem (f := 8) (j := 0) (by decide) (by decide)) rfl rfl rfl rfl (Nat.le_of_ble_eq_true rfl) dX8_gives_15 ?_
    show TW K 18 [(0, rv K (8, 0)), (1, .int a1), (2, .int a2)] [.int x1] σ
    refine tw_if_eq (tgt := 24) C dX8_gives_18 (by decide) (fun hc3 => ?_) (fun hc3 => ?_)
    · have ht3 := ite_t hc3 eh2
      refine tw_aload_n (i := 0) (z := 0) (r := (8, 0)) C dX8_gives_24 rfl rfl ?_
      refine tw_iload_n (i := 1) (z := 1) C dX8_gives_25 rfl rfl ?_
      refine tw_iload_n (i := 2) (z := 2) C dX8_gives_26 rfl rfl ?_
      obtain ⟨x2, hv4, eh4⟩ := obi_some ht3
      refine tw_callV (As := [.int a1, .int a2]) (rest := []) (r := (8, 0)) C hR (kX8_givenBy K.1 _ (by omega) σ a1 a2  hv4) mi_X8_givenBy is_X8_givenBy se_X8_givenBy ml_RX8_225 (wcells_mem (f := 8) (j := 0) (by decide) (by decide)) rfl rfl rfl rfl (Nat.le_of_ble_eq_true rfl) dX8_gives_27 ?_
      show TW K 30 [(0, rv K (8, 0)), (1, .int a1), (2, .int a2)] [.int x2] σ
      obtain rfl := (Option.some.inj eh4)
      exact tw_iret C hK rfl rfl dX8_gives_30
    · have hf3 := ite_f hc3 eh2
      refine tw_bipush (v := (-3)) C dX8_gives_21 (by decide) ?_
      obtain rfl := (Option.some.inj hf3)
      exact tw_iret C hK rfl rfl dX8_gives_23
  · have hf1 := ite_f (b2i_z hc1) h
    refine tw_bipush (v := (-2)) C dX8_gives_9 (by decide) ?_
    obtain rfl := (Option.some.inj hf1)
    exact tw_iret C hK rfl rfl dX8_gives_11

set_option maxRecDepth 20000 in
def fX8_between (σ : St) (a1 : Int32) (a2 : Int32) (a3 : Int32) (a4 : Int32) : Option (Int32 × St) :=
  if (fX8_areTwoClubs σ a1 a2) = true then
    if (fX8_isMatch σ a3) = true then
      if (fX8_isPlayedWhat a4) = true then
        obi (fX8_atOdds σ a1 a2) (fun x1 =>
        if x1 = 0 then
          bnd (mmin a1 a2) (fun x2 =>
          bnd (mmax a1 a2) (fun x3 =>
          obi (fX8_itemsOf σ x2) (fun x4 =>
          obi (fX8_itemsOf σ x3) (fun x5 =>
          obi (fX8_givenBy σ x2 x3) (fun x6 =>
          obi (fX8_mix σ x4 x5 x6) (fun σ1 =>
          grd (inb a3 12) (
          obi (fX3_playUnder σ1 (tn a3) (28, 0) 0) (fun σ2 =>
          some (fX4_answer σ2 0 a4, σ2)))))))))
        else
          some ((-3 : Int32), σ))
      else
        some ((-2 : Int32), σ)
    else
      some ((-2 : Int32), σ)
  else
    some ((-2 : Int32), σ)
set_option maxRecDepth 20000 in
set_option maxHeartbeats 4000000 in
theorem kX8_between (G : Gx) (d : Nat) (hdp : 5 ≤ d) (σ : St) (a1 : Int32) (a2 : Int32) (a3 : Int32) (a4 : Int32)  {v0 : Int32} {σ' : St} (h : fX8_between σ a1 a2 a3 a4 = some (v0, σ')) : MS G d yX8_between cX8_between 7 (some .int) [.ref (G.2.1 (8, 0)), .int a1, .int a2, .int a3, .int a4] σ (some (.int v0)) σ' := by
  refine MS_of (by decide) (Nat.le_of_ble_eq_true rfl) rfl (fun K hG hnL C hR hK => ?_) (by omega)
  subst hG
  show TW K 0 [(0, rv K (8, 0)), (1, .int a1), (2, .int a2), (3, .int a3), (4, .int a4)] [] σ
  unfold fX8_between at h
  refine tw_aload_n (i := 0) (z := 0) (r := (8, 0)) C dX8_between_0 rfl rfl ?_
  refine tw_iload_n (i := 1) (z := 1) C dX8_between_1 rfl rfl ?_
  refine tw_iload_n (i := 2) (z := 2) C dX8_between_2 rfl rfl ?_
  refine tw_callV (As := [.int a1, .int a2]) (rest := []) (r := (8, 0)) C hR (kX8_areTwoClubs K.1 _ (by omega) σ a1 a2  rfl) mi_X8_areTwoClubs is_X8_areTwoClubs se_X8_areTwoClubs ml_RX8_217 (wcells_mem (f := 8) (j := 0) (by decide) (by decide)) rfl rfl rfl rfl (Nat.le_of_ble_eq_true rfl) dX8_between_3 ?_
  show TW K 6 [(0, rv K (8, 0)), (1, .int a1), (2, .int a2), (3, .int a3), (4, .int a4)] [.int (b2i (fX8_areTwoClubs σ a1 a2))] σ
  refine tw_if_eq (tgt := 25) C dX8_between_6 (by decide) (fun hc1 => ?_) (fun hc1 => ?_)
  · have ht1 := ite_f (b2i_z hc1) h
    refine tw_bipush (v := (-2)) C dX8_between_25 (by decide) ?_
    obtain ⟨rfl, rfl⟩ := pj2 (Option.some.inj ht1)
    exact tw_iret C hK rfl rfl dX8_between_27
  · have hf1 := ite_t (b2i_nz hc1) h
    refine tw_aload_n (i := 0) (z := 0) (r := (8, 0)) C dX8_between_9 rfl rfl ?_
    refine tw_iload_n (i := 3) (z := 3) C dX8_between_10 rfl rfl ?_
    refine tw_callV (As := [.int a3]) (rest := []) (r := (8, 0)) C hR (kX8_isMatch K.1 _ (by omega) σ a3  rfl) mi_X8_isMatch is_X8_isMatch se_X8_isMatch ml_RX8_144 (wcells_mem (f := 8) (j := 0) (by decide) (by decide)) rfl rfl rfl rfl (Nat.le_of_ble_eq_true rfl) dX8_between_11 ?_
    show TW K 14 [(0, rv K (8, 0)), (1, .int a1), (2, .int a2), (3, .int a3), (4, .int a4)] [.int (b2i (fX8_isMatch σ a3))] σ
    refine tw_if_eq (tgt := 25) C dX8_between_14 (by decide) (fun hc2 => ?_) (fun hc2 => ?_)
    · have ht2 := ite_f (b2i_z hc2) hf1
      refine tw_bipush (v := (-2)) C dX8_between_25 (by decide) ?_
      obtain ⟨rfl, rfl⟩ := pj2 (Option.some.inj ht2)
      exact tw_iret C hK rfl rfl dX8_between_27
    · have hf2 := ite_t (b2i_nz hc2) hf1
      refine tw_iload (i := 4) (z := 4) C dX8_between_17 rfl ?_
      refine tw_callS (As := [.int a4]) (rest := []) C hR (kX8_isPlayedWhat K.1 _ (by omega) σ a4  rfl) mi_X8_isPlayedWhat st_X8_isPlayedWhat ml_RX8_154 rfl rfl (Nat.le_of_ble_eq_true rfl) dX8_between_19 ?_
      show TW K 22 [(0, rv K (8, 0)), (1, .int a1), (2, .int a2), (3, .int a3), (4, .int a4)] [.int (b2i (fX8_isPlayedWhat a4))] σ
      refine tw_if_ne (tgt := 28) C dX8_between_22 (by decide) (fun hc3 => ?_) (fun hc3 => ?_)
      · have ht3 := ite_t (b2i_nz hc3) hf2
        refine tw_aload_n (i := 0) (z := 0) (r := (8, 0)) C dX8_between_28 rfl rfl ?_
        refine tw_iload_n (i := 1) (z := 1) C dX8_between_29 rfl rfl ?_
        refine tw_iload_n (i := 2) (z := 2) C dX8_between_30 rfl rfl ?_
        obtain ⟨x1, hv4, eh4⟩ := obi_some ht3
        refine tw_callV (As := [.int a1, .int a2]) (rest := []) (r := (8, 0)) C hR (kX8_atOdds K.1 _ (by omega) σ a1 a2  hv4) mi_X8_atOdds is_X8_atOdds se_X8_atOdds ml_RX8_221 (wcells_mem (f := 8) (j := 0) (by decide) (by decide)) rfl rfl rfl rfl (Nat.le_of_ble_eq_true rfl) dX8_between_31 ?_
        show TW K 34 [(0, rv K (8, 0)), (1, .int a1), (2, .int a2), (3, .int a3), (4, .int a4)] [.int x1] σ
        refine tw_if_eq (tgt := 40) C dX8_between_34 (by decide) (fun hc5 => ?_) (fun hc5 => ?_)
        · have ht5 := ite_t hc5 eh4
          refine tw_iload_n (i := 1) (z := 1) C dX8_between_40 rfl rfl ?_
          refine tw_iload_n (i := 2) (z := 2) C dX8_between_41 rfl rfl ?_
          refine tw_mmin C hR ml_RX8_228 st_mmin in_Math cw_mmin (Nat.le_of_ble_eq_true rfl) dX8_between_42 ?_
          obtain ⟨x2, ex6, eh6⟩ := bnd_ex ht5
          refine tw_topi ex6.symm ?_
          refine tw_istore (lv' := [(0, rv K (8, 0)), (1, .int a1), (2, .int a2), (3, .int a3), (4, .int a4), (5, .int x2)]) C [1, 2, 3, 4, 5, 0] dX8_between_45 (by rw [hnL]; decide) rfl ?_
          refine tw_iload_n (i := 1) (z := 1) C dX8_between_47 rfl rfl ?_
          refine tw_iload_n (i := 2) (z := 2) C dX8_between_48 rfl rfl ?_
          refine tw_mmax C hR ml_RX8_233 st_mmax in_Math cw_mmax (Nat.le_of_ble_eq_true rfl) dX8_between_49 ?_
          obtain ⟨x3, ex7, eh7⟩ := bnd_ex eh6
          refine tw_topi ex7.symm ?_
          refine tw_istore (lv' := [(0, rv K (8, 0)), (1, .int a1), (2, .int a2), (3, .int a3), (4, .int a4), (5, .int x2), (6, .int x3)]) C [1, 2, 3, 4, 5, 6, 0] dX8_between_52 (by rw [hnL]; decide) rfl ?_
          refine tw_aload_n (i := 0) (z := 0) (r := (8, 0)) C dX8_between_54 rfl rfl ?_
          refine tw_aload_n (i := 0) (z := 0) (r := (8, 0)) C dX8_between_55 rfl rfl ?_
          refine tw_iload (i := 5) (z := 5) C dX8_between_56 rfl ?_
          obtain ⟨x4, hv8, eh8⟩ := obi_some eh7
          refine tw_callV (As := [.int x2]) (rest := [rv K (8, 0)]) (r := (8, 0)) C hR (kX8_itemsOf K.1 _ (by omega) σ x2  hv8) mi_X8_itemsOf is_X8_itemsOf se_X8_itemsOf ml_RX8_236 (wcells_mem (f := 8) (j := 0) (by decide) (by decide)) rfl rfl rfl rfl (Nat.le_of_ble_eq_true rfl) dX8_between_58 ?_
          show TW K 61 [(0, rv K (8, 0)), (1, .int a1), (2, .int a2), (3, .int a3), (4, .int a4), (5, .int x2), (6, .int x3)] [rv K x4, rv K (8, 0)] σ
          refine tw_aload_n (i := 0) (z := 0) (r := (8, 0)) C dX8_between_61 rfl rfl ?_
          refine tw_iload (i := 6) (z := 6) C dX8_between_62 rfl ?_
          obtain ⟨x5, hv9, eh9⟩ := obi_some eh8
          refine tw_callV (As := [.int x3]) (rest := [rv K x4, rv K (8, 0)]) (r := (8, 0)) C hR (kX8_itemsOf K.1 _ (by omega) σ x3  hv9) mi_X8_itemsOf is_X8_itemsOf se_X8_itemsOf ml_RX8_236 (wcells_mem (f := 8) (j := 0) (by decide) (by decide)) rfl rfl rfl rfl (Nat.le_of_ble_eq_true rfl) dX8_between_64 ?_
          show TW K 67 [(0, rv K (8, 0)), (1, .int a1), (2, .int a2), (3, .int a3), (4, .int a4), (5, .int x2), (6, .int x3)] [rv K x5, rv K x4, rv K (8, 0)] σ
          refine tw_aload_n (i := 0) (z := 0) (r := (8, 0)) C dX8_between_67 rfl rfl ?_
          refine tw_iload (i := 5) (z := 5) C dX8_between_68 rfl ?_
          refine tw_iload (i := 6) (z := 6) C dX8_between_70 rfl ?_
          obtain ⟨x6, hv10, eh10⟩ := obi_some eh9
          refine tw_callV (As := [.int x2, .int x3]) (rest := [rv K x5, rv K x4, rv K (8, 0)]) (r := (8, 0)) C hR (kX8_givenBy K.1 _ (by omega) σ x2 x3  hv10) mi_X8_givenBy is_X8_givenBy se_X8_givenBy ml_RX8_225 (wcells_mem (f := 8) (j := 0) (by decide) (by decide)) rfl rfl rfl rfl (Nat.le_of_ble_eq_true rfl) dX8_between_72 ?_
          show TW K 75 [(0, rv K (8, 0)), (1, .int a1), (2, .int a2), (3, .int a3), (4, .int a4), (5, .int x2), (6, .int x3)] [.int x6, rv K x5, rv K x4, rv K (8, 0)] σ
          obtain ⟨σ1, hv11, eh11⟩ := obi_some eh10
          refine tw_callV (As := [rv K x4, rv K x5, .int x6]) (rest := []) (r := (8, 0)) C hR (kX8_mix K.1 _ (by omega) _ x4 x5 x6  hv11) mi_X8_mix is_X8_mix se_X8_mix ml_RX8_157 (wcells_mem (f := 8) (j := 0) (by decide) (by decide)) rfl rfl rfl rfl (Nat.le_of_ble_eq_true rfl) dX8_between_75 ?_
          show TW K 78 [(0, rv K (8, 0)), (1, .int a1), (2, .int a2), (3, .int a3), (4, .int a4), (5, .int x2), (6, .int x3)] [] σ1
          refine tw_aload_n (i := 0) (z := 0) (r := (8, 0)) C dX8_between_78 rfl rfl ?_
          refine tw_getR (g := 24) (z := 0) (j' := 0) C fl_RX8_17 rfl (wcells_mem (f := 8) (j := 0) (by decide) (by decide)) rfl rfl dX8_between_79 ?_
          refine tw_iload_n (i := 3) (z := 3) C dX8_between_82 rfl rfl ?_
          obtain ⟨hb12, eh12⟩ := grd_some eh11
          refine tw_aald (g := 3) C rfl 4 "ElevenCodes$Match" (fun _ => rfl) (by decide) (by decide) (wcells_mem (f := 24) (j := 0) (by decide) (by decide)) hb12 dX8_between_83 ?_
          refine tw_aload_n (i := 0) (z := 0) (r := (8, 0)) C dX8_between_84 rfl rfl ?_
          refine tw_getR (g := 28) (z := 0) (j' := 0) C fl_RX8_45 rfl (wcells_mem (f := 8) (j := 0) (by decide) (by decide)) rfl rfl dX8_between_85 ?_
          refine tw_aload_n (i := 0) (z := 0) (r := (8, 0)) C dX8_between_88 rfl rfl ?_
          refine tw_getR (g := 4) (z := 0) (j' := 0) C fl_RX8_51 rfl (wcells_mem (f := 8) (j := 0) (by decide) (by decide)) rfl rfl dX8_between_89 ?_
          obtain ⟨σ2, hv13, eh13⟩ := obi_some eh12
          refine tw_callV (As := [rv K (28, 0), rv K (4, 0)]) (rest := []) (r := (3, (tn a3))) C hR (kX3_playUnder K.1 _ (by omega) _ (tn a3) (28, 0) 0 (inb_lt hb12) (by decide) hv13) mi_X3_playUnder is_X3_playUnder se_X3_playUnder ml_RX8_161 (wcells_mem (f := 3) (j := (tn a3)) (by decide) (inb_lt hb12)) rfl rfl rfl rfl (Nat.le_of_ble_eq_true rfl) dX8_between_92 ?_
          show TW K 95 [(0, rv K (8, 0)), (1, .int a1), (2, .int a2), (3, .int a3), (4, .int a4), (5, .int x2), (6, .int x3)] [] σ2
          refine tw_aload_n (i := 0) (z := 0) (r := (8, 0)) C dX8_between_95 rfl rfl ?_
          refine tw_getR (g := 4) (z := 0) (j' := 0) C fl_RX8_51 rfl (wcells_mem (f := 8) (j := 0) (by decide) (by decide)) rfl rfl dX8_between_96 ?_
          refine tw_iload (i := 4) (z := 4) C dX8_between_99 rfl ?_
          refine tw_callV (As := [.int a4]) (rest := []) (r := (4, 0)) C hR (kX4_answer K.1 _ (by omega) σ2 0 a4 (by decide) rfl) mi_X4_answer is_X4_answer se_X4_answer ml_RX8_165 (wcells_mem (f := 4) (j := 0) (by decide) (by decide)) rfl rfl rfl rfl (Nat.le_of_ble_eq_true rfl) dX8_between_101 ?_
          show TW K 104 [(0, rv K (8, 0)), (1, .int a1), (2, .int a2), (3, .int a3), (4, .int a4), (5, .int x2), (6, .int x3)] [.int (fX4_answer σ2 0 a4)] σ2
          obtain ⟨rfl, rfl⟩ := pj2 (Option.some.inj eh13)
          exact tw_iret C hK rfl rfl dX8_between_104
        · have hf5 := ite_f hc5 eh4
          refine tw_bipush (v := (-3)) C dX8_between_37 (by decide) ?_
          obtain ⟨rfl, rfl⟩ := pj2 (Option.some.inj hf5)
          exact tw_iret C hK rfl rfl dX8_between_39
      · have hf3 := ite_f (b2i_z hc3) hf2
        refine tw_bipush (v := (-2)) C dX8_between_25 (by decide) ?_
        obtain ⟨rfl, rfl⟩ := pj2 (Option.some.inj hf3)
        exact tw_iret C hK rfl rfl dX8_between_27

set_option maxRecDepth 20000 in
def fX8_halves (σ : St) (a1 : Int32) (a2 : Int32) (a3 : Int32) (a4 : Int32) : Option (Int32 × St) :=
  if (fX8_areTwoClubs σ a1 a2) = true then
    if (fX8_isMatch σ a3) = true then
      if (fX8_isPlayedWhat a4) = true then
        grd (inb a3 12) (
        obi (fX8_itemsOf σ a1) (fun x1 =>
        obi (fX8_itemsOf σ a2) (fun x2 =>
        obi (fX3_playByHalves σ (tn a3) x1 x2 0) (fun σ1 =>
        some (fX4_answer σ1 0 a4, σ1)))))
      else
        some ((-2 : Int32), σ)
    else
      some ((-2 : Int32), σ)
  else
    some ((-2 : Int32), σ)
set_option maxRecDepth 20000 in
set_option maxHeartbeats 4000000 in
theorem kX8_halves (G : Gx) (d : Nat) (hdp : 5 ≤ d) (σ : St) (a1 : Int32) (a2 : Int32) (a3 : Int32) (a4 : Int32)  {v0 : Int32} {σ' : St} (h : fX8_halves σ a1 a2 a3 a4 = some (v0, σ')) : MS G d yX8_halves cX8_halves 5 (some .int) [.ref (G.2.1 (8, 0)), .int a1, .int a2, .int a3, .int a4] σ (some (.int v0)) σ' := by
  refine MS_of (by decide) (Nat.le_of_ble_eq_true rfl) rfl (fun K hG hnL C hR hK => ?_) (by omega)
  subst hG
  show TW K 0 [(0, rv K (8, 0)), (1, .int a1), (2, .int a2), (3, .int a3), (4, .int a4)] [] σ
  unfold fX8_halves at h
  refine tw_aload_n (i := 0) (z := 0) (r := (8, 0)) C dX8_halves_0 rfl rfl ?_
  refine tw_iload_n (i := 1) (z := 1) C dX8_halves_1 rfl rfl ?_
  refine tw_iload_n (i := 2) (z := 2) C dX8_halves_2 rfl rfl ?_
  refine tw_callV (As := [.int a1, .int a2]) (rest := []) (r := (8, 0)) C hR (kX8_areTwoClubs K.1 _ (by omega) σ a1 a2  rfl) mi_X8_areTwoClubs is_X8_areTwoClubs se_X8_areTwoClubs ml_RX8_217 (wcells_mem (f := 8) (j := 0) (by decide) (by decide)) rfl rfl rfl rfl (Nat.le_of_ble_eq_true rfl) dX8_halves_3 ?_
  show TW K 6 [(0, rv K (8, 0)), (1, .int a1), (2, .int a2), (3, .int a3), (4, .int a4)] [.int (b2i (fX8_areTwoClubs σ a1 a2))] σ
  refine tw_if_eq (tgt := 25) C dX8_halves_6 (by decide) (fun hc1 => ?_) (fun hc1 => ?_)
  · have ht1 := ite_f (b2i_z hc1) h
    refine tw_bipush (v := (-2)) C dX8_halves_25 (by decide) ?_
    obtain ⟨rfl, rfl⟩ := pj2 (Option.some.inj ht1)
    exact tw_iret C hK rfl rfl dX8_halves_27
  · have hf1 := ite_t (b2i_nz hc1) h
    refine tw_aload_n (i := 0) (z := 0) (r := (8, 0)) C dX8_halves_9 rfl rfl ?_
    refine tw_iload_n (i := 3) (z := 3) C dX8_halves_10 rfl rfl ?_
    refine tw_callV (As := [.int a3]) (rest := []) (r := (8, 0)) C hR (kX8_isMatch K.1 _ (by omega) σ a3  rfl) mi_X8_isMatch is_X8_isMatch se_X8_isMatch ml_RX8_144 (wcells_mem (f := 8) (j := 0) (by decide) (by decide)) rfl rfl rfl rfl (Nat.le_of_ble_eq_true rfl) dX8_halves_11 ?_
    show TW K 14 [(0, rv K (8, 0)), (1, .int a1), (2, .int a2), (3, .int a3), (4, .int a4)] [.int (b2i (fX8_isMatch σ a3))] σ
    refine tw_if_eq (tgt := 25) C dX8_halves_14 (by decide) (fun hc2 => ?_) (fun hc2 => ?_)
    · have ht2 := ite_f (b2i_z hc2) hf1
      refine tw_bipush (v := (-2)) C dX8_halves_25 (by decide) ?_
      obtain ⟨rfl, rfl⟩ := pj2 (Option.some.inj ht2)
      exact tw_iret C hK rfl rfl dX8_halves_27
    · have hf2 := ite_t (b2i_nz hc2) hf1
      refine tw_iload (i := 4) (z := 4) C dX8_halves_17 rfl ?_
      refine tw_callS (As := [.int a4]) (rest := []) C hR (kX8_isPlayedWhat K.1 _ (by omega) σ a4  rfl) mi_X8_isPlayedWhat st_X8_isPlayedWhat ml_RX8_154 rfl rfl (Nat.le_of_ble_eq_true rfl) dX8_halves_19 ?_
      show TW K 22 [(0, rv K (8, 0)), (1, .int a1), (2, .int a2), (3, .int a3), (4, .int a4)] [.int (b2i (fX8_isPlayedWhat a4))] σ
      refine tw_if_ne (tgt := 28) C dX8_halves_22 (by decide) (fun hc3 => ?_) (fun hc3 => ?_)
      · have ht3 := ite_t (b2i_nz hc3) hf2
        refine tw_aload_n (i := 0) (z := 0) (r := (8, 0)) C dX8_halves_28 rfl rfl ?_
        refine tw_getR (g := 24) (z := 0) (j' := 0) C fl_RX8_17 rfl (wcells_mem (f := 8) (j := 0) (by decide) (by decide)) rfl rfl dX8_halves_29 ?_
        refine tw_iload_n (i := 3) (z := 3) C dX8_halves_32 rfl rfl ?_
        obtain ⟨hb4, eh4⟩ := grd_some ht3
        refine tw_aald (g := 3) C rfl 4 "ElevenCodes$Match" (fun _ => rfl) (by decide) (by decide) (wcells_mem (f := 24) (j := 0) (by decide) (by decide)) hb4 dX8_halves_33 ?_
        refine tw_aload_n (i := 0) (z := 0) (r := (8, 0)) C dX8_halves_34 rfl rfl ?_
        refine tw_iload_n (i := 1) (z := 1) C dX8_halves_35 rfl rfl ?_
        obtain ⟨x1, hv5, eh5⟩ := obi_some eh4
        refine tw_callV (As := [.int a1]) (rest := [rv K (3, (tn a3))]) (r := (8, 0)) C hR (kX8_itemsOf K.1 _ (by omega) σ a1  hv5) mi_X8_itemsOf is_X8_itemsOf se_X8_itemsOf ml_RX8_236 (wcells_mem (f := 8) (j := 0) (by decide) (by decide)) rfl rfl rfl rfl (Nat.le_of_ble_eq_true rfl) dX8_halves_36 ?_
        show TW K 39 [(0, rv K (8, 0)), (1, .int a1), (2, .int a2), (3, .int a3), (4, .int a4)] [rv K x1, rv K (3, (tn a3))] σ
        refine tw_aload_n (i := 0) (z := 0) (r := (8, 0)) C dX8_halves_39 rfl rfl ?_
        refine tw_iload_n (i := 2) (z := 2) C dX8_halves_40 rfl rfl ?_
        obtain ⟨x2, hv6, eh6⟩ := obi_some eh5
        refine tw_callV (As := [.int a2]) (rest := [rv K x1, rv K (3, (tn a3))]) (r := (8, 0)) C hR (kX8_itemsOf K.1 _ (by omega) σ a2  hv6) mi_X8_itemsOf is_X8_itemsOf se_X8_itemsOf ml_RX8_236 (wcells_mem (f := 8) (j := 0) (by decide) (by decide)) rfl rfl rfl rfl (Nat.le_of_ble_eq_true rfl) dX8_halves_41 ?_
        show TW K 44 [(0, rv K (8, 0)), (1, .int a1), (2, .int a2), (3, .int a3), (4, .int a4)] [rv K x2, rv K x1, rv K (3, (tn a3))] σ
        refine tw_aload_n (i := 0) (z := 0) (r := (8, 0)) C dX8_halves_44 rfl rfl ?_
        refine tw_getR (g := 4) (z := 0) (j' := 0) C fl_RX8_51 rfl (wcells_mem (f := 8) (j := 0) (by decide) (by decide)) rfl rfl dX8_halves_45 ?_
        obtain ⟨σ1, hv7, eh7⟩ := obi_some eh6
        refine tw_callV (As := [rv K x1, rv K x2, rv K (4, 0)]) (rest := []) (r := (3, (tn a3))) C hR (kX3_playByHalves K.1 _ (by omega) _ (tn a3) x1 x2 0 (inb_lt hb4) (by decide) hv7) mi_X3_playByHalves is_X3_playByHalves se_X3_playByHalves ml_RX8_240 (wcells_mem (f := 3) (j := (tn a3)) (by decide) (inb_lt hb4)) rfl rfl rfl rfl (Nat.le_of_ble_eq_true rfl) dX8_halves_48 ?_
        show TW K 51 [(0, rv K (8, 0)), (1, .int a1), (2, .int a2), (3, .int a3), (4, .int a4)] [] σ1
        refine tw_aload_n (i := 0) (z := 0) (r := (8, 0)) C dX8_halves_51 rfl rfl ?_
        refine tw_getR (g := 4) (z := 0) (j' := 0) C fl_RX8_51 rfl (wcells_mem (f := 8) (j := 0) (by decide) (by decide)) rfl rfl dX8_halves_52 ?_
        refine tw_iload (i := 4) (z := 4) C dX8_halves_55 rfl ?_
        refine tw_callV (As := [.int a4]) (rest := []) (r := (4, 0)) C hR (kX4_answer K.1 _ (by omega) σ1 0 a4 (by decide) rfl) mi_X4_answer is_X4_answer se_X4_answer ml_RX8_165 (wcells_mem (f := 4) (j := 0) (by decide) (by decide)) rfl rfl rfl rfl (Nat.le_of_ble_eq_true rfl) dX8_halves_57 ?_
        show TW K 60 [(0, rv K (8, 0)), (1, .int a1), (2, .int a2), (3, .int a3), (4, .int a4)] [.int (fX4_answer σ1 0 a4)] σ1
        obtain ⟨rfl, rfl⟩ := pj2 (Option.some.inj eh7)
        exact tw_iret C hK rfl rfl dX8_halves_60
      · have hf3 := ite_f (b2i_z hc3) hf2
        refine tw_bipush (v := (-2)) C dX8_halves_25 (by decide) ?_
        obtain ⟨rfl, rfl⟩ := pj2 (Option.some.inj hf3)
        exact tw_iret C hK rfl rfl dX8_halves_27

set_option maxRecDepth 20000 in
def fX8_member (σ : St) (a1 : Int32) (a2 : Bool) : Option (Int32 × St) :=
  if (fX8_isClub σ a1) = true then
    grd (inb a1 12) (
    if (σ (0, (tn a1)) 2) = (b2i a2) then
      some ((0 : Int32), σ)
    else
      grd (inb a1 12) (bnd (su σ (0, (tn a1)) 2 (b2i a2)) (fun σ1 =>
      some ((1 : Int32), σ1))))
  else
    some ((-2 : Int32), σ)
set_option maxRecDepth 20000 in
set_option maxHeartbeats 4000000 in
theorem kX8_member (G : Gx) (d : Nat) (hdp : 2 ≤ d) (σ : St) (a1 : Int32) (a2 : Bool)  {v0 : Int32} {σ' : St} (h : fX8_member σ a1 a2 = some (v0, σ')) : MS G d yX8_member cX8_member 3 (some .int) [.ref (G.2.1 (8, 0)), .int a1, .int (b2i a2)] σ (some (.int v0)) σ' := by
  refine MS_of (by decide) (Nat.le_of_ble_eq_true rfl) rfl (fun K hG hnL C hR hK => ?_) (by omega)
  subst hG
  show TW K 0 [(0, rv K (8, 0)), (1, .int a1), (2, .int (b2i a2))] [] σ
  unfold fX8_member at h
  refine tw_aload_n (i := 0) (z := 0) (r := (8, 0)) C dX8_member_0 rfl rfl ?_
  refine tw_iload_n (i := 1) (z := 1) C dX8_member_1 rfl rfl ?_
  refine tw_callV (As := [.int a1]) (rest := []) (r := (8, 0)) C hR (kX8_isClub K.1 _ (by omega) σ a1  rfl) mi_X8_isClub is_X8_isClub se_X8_isClub ml_RX8_214 (wcells_mem (f := 8) (j := 0) (by decide) (by decide)) rfl rfl rfl rfl (Nat.le_of_ble_eq_true rfl) dX8_member_2 ?_
  show TW K 5 [(0, rv K (8, 0)), (1, .int a1), (2, .int (b2i a2))] [.int (b2i (fX8_isClub σ a1))] σ
  refine tw_if_ne (tgt := 11) C dX8_member_5 (by decide) (fun hc1 => ?_) (fun hc1 => ?_)
  · have ht1 := ite_t (b2i_nz hc1) h
    refine tw_aload_n (i := 0) (z := 0) (r := (8, 0)) C dX8_member_11 rfl rfl ?_
    refine tw_getR (g := 25) (z := 0) (j' := 0) C fl_RX8_23 rfl (wcells_mem (f := 8) (j := 0) (by decide) (by decide)) rfl rfl dX8_member_12 ?_
    refine tw_iload_n (i := 1) (z := 1) C dX8_member_15 rfl rfl ?_
    obtain ⟨hb2, eh2⟩ := grd_some ht1
    refine tw_aald (g := 0) C rfl 5 "ElevenCodes$Club" (fun _ => rfl) (by decide) (by decide) (wcells_mem (f := 25) (j := 0) (by decide) (by decide)) hb2 dX8_member_16 ?_
    refine tw_getI C fl_RX8_244 rfl (wcells_mem (f := 0) (j := (tn a1)) (by decide) (inb_lt hb2)) rfl dX8_member_17 ?_
    refine tw_iload_n (i := 2) (z := 2) C dX8_member_20 rfl rfl ?_
    refine tw_ic_ne (tgt := 26) C dX8_member_21 (by decide) (fun hc3 => ?_) (fun hc3 => ?_)
    · have ht3 := ite_f hc3 eh2
      refine tw_aload_n (i := 0) (z := 0) (r := (8, 0)) C dX8_member_26 rfl rfl ?_
      refine tw_getR (g := 25) (z := 0) (j' := 0) C fl_RX8_23 rfl (wcells_mem (f := 8) (j := 0) (by decide) (by decide)) rfl rfl dX8_member_27 ?_
      refine tw_iload_n (i := 1) (z := 1) C dX8_member_30 rfl rfl ?_
      obtain ⟨hb4, eh4⟩ := grd_some ht3
      refine tw_aald (g := 0) C rfl 5 "ElevenCodes$Club" (fun _ => rfl) (by decide) (by decide) (wcells_mem (f := 25) (j := 0) (by decide) (by decide)) hb4 dX8_member_31 ?_
      refine tw_iload_n (i := 2) (z := 2) C dX8_member_32 rfl rfl ?_
      obtain ⟨σ1, es5, eh5⟩ := bnd_ex eh4
      refine tw_put C fl_RX8_244 (fun q hq => by cases hq; rfl) rfl (wcells_mem (f := 0) (j := (tn a1)) (by decide) (inb_lt hb4)) rfl (nar_b2i a2) (fit_b2i a2) dX8_member_33 ?_
      rw [es5]
      refine tw_iconst (v := 1) C dX8_member_36 (by decide) ?_
      obtain ⟨rfl, rfl⟩ := pj2 (Option.some.inj eh5)
      exact tw_iret C hK rfl rfl dX8_member_37
    · have hf3 := ite_t hc3 eh2
      refine tw_iconst (v := 0) C dX8_member_24 (by decide) ?_
      obtain ⟨rfl, rfl⟩ := pj2 (Option.some.inj hf3)
      exact tw_iret C hK rfl rfl dX8_member_25
  · have hf1 := ite_f (b2i_z hc1) h
    refine tw_bipush (v := (-2)) C dX8_member_8 (by decide) ?_
    obtain ⟨rfl, rfl⟩ := pj2 (Option.some.inj hf1)
    exact tw_iret C hK rfl rfl dX8_member_10

set_option maxRecDepth 20000 in
def fX8_rule (σ : St) (a1 : Int32) (a2 : Int32) : Int32 × St :=
  bjp (if a1 = 0 then
    if a2 < (1 : Int32) then
      .inr ((-2 : Int32), σ)
    else
      if (σ (8, 0) 13) < a2 then
        .inr ((-2 : Int32), σ)
      else
        bnd (σ (8, 0) 12) (fun x2 =>
        bnd (su σ (8, 0) 12 a2) (fun σ2 =>
        .inl (x2, σ2)))
  else
    .inr ((-2 : Int32), σ)) (fun (x1, σ1) =>
  bjp (if a1 = (1 : Int32) then
    if a2 < (σ1 (8, 0) 12) then
      .inr (x1, σ1)
    else
      if (9 : Int32) < a2 then
        .inr (x1, σ1)
      else
        bnd (σ1 (8, 0) 13) (fun x4 =>
        bnd (su σ1 (8, 0) 13 a2) (fun σ4 =>
        .inl (x4, σ4)))
  else
    .inr (x1, σ1)) (fun (x3, σ3) =>
  if a1 = (2 : Int32) then
    if a2 < 0 then
      (x3, σ3)
    else
      if (12 : Int32) < a2 then
        (x3, σ3)
      else
        bnd (σ3 (8, 0) 14) (fun x5 =>
        bnd (su σ3 (8, 0) 14 a2) (fun σ5 =>
        (x5, σ5)))
  else
    (x3, σ3)))
set_option maxRecDepth 20000 in
set_option maxHeartbeats 4000000 in
theorem kX8_rule (G : Gx) (d : Nat) (hdp : 1 ≤ d) (σ : St) (a1 : Int32) (a2 : Int32)  {v0 : Int32} {σ' : St} (h : fX8_rule σ a1 a2 = (v0, σ')) : MS G d yX8_rule cX8_rule 4 (some .int) [.ref (G.2.1 (8, 0)), .int a1, .int a2] σ (some (.int v0)) σ' := by
  refine MS_of (by decide) (Nat.le_of_ble_eq_true rfl) rfl (fun K hG hnL C hR hK => ?_) (by omega)
  subst hG
  show TW K 0 [(0, rv K (8, 0)), (1, .int a1), (2, .int a2)] [] σ
  unfold fX8_rule at h
  refine tw_bipush (v := (-2)) C dX8_rule_0 (by decide) ?_
  refine tw_istore_n (lv' := [(0, rv K (8, 0)), (1, .int a1), (2, .int a2), (3, .int (-2 : Int32))]) C [1, 2, 3, 0] dX8_rule_2 rfl (by rw [hnL]; decide) rfl ?_
  refine tw_iload_n (i := 1) (z := 1) C dX8_rule_3 rfl rfl ?_
  obtain ⟨y1, hx1, hy1⟩ := bjp_some h
  have hJ1 : ∀ (x1 : Int32) (σ1 : St), y1 = .inr (x1, σ1) → TW K 33 [(0, rv K (8, 0)), (1, .int a1), (2, .int a2), (3, .int x1)] [] σ1 := by
    intro x1 σ1 ey1
    have hq1 := bjp_r ey1 hy1
    refine tw_iload_n (i := 1) (z := 1) C dX8_rule_33 rfl rfl ?_
    refine tw_iconst (v := 1) C dX8_rule_34 (by decide) ?_
    obtain ⟨y8, hx8, hy8⟩ := bjp_some hq1
    have hJ8 : ∀ (x3 : Int32) (σ3 : St), y8 = .inr (x3, σ3) → TW K 65 [(0, rv K (8, 0)), (1, .int a1), (2, .int a2), (3, .int x3)] [] σ3 := by
      intro x3 σ3 ey8
      have hq8 := bjp_r ey8 hy8
      refine tw_iload_n (i := 1) (z := 1) C dX8_rule_65 rfl rfl ?_
      refine tw_iconst (v := 2) C dX8_rule_66 (by decide) ?_
      refine tw_ic_ne (tgt := 90) C dX8_rule_67 (by decide) (fun hc15 => ?_) (fun hc15 => ?_)
      · have ht15 := ite_f hc15 hq8
        refine tw_iload_n (i := 3) (z := 3) C dX8_rule_90 rfl rfl ?_
        obtain ⟨rfl, rfl⟩ := pj2 ht15
        exact tw_iret C hK rfl rfl dX8_rule_91
      · have hf15 := ite_t hc15 hq8
        refine tw_iload_n (i := 2) (z := 2) C dX8_rule_70 rfl rfl ?_
        refine tw_if_lt (tgt := 90) C dX8_rule_71 (by decide) (fun hc16 => ?_) (fun hc16 => ?_)
        · have ht16 := ite_t hc16 hf15
          refine tw_iload_n (i := 3) (z := 3) C dX8_rule_90 rfl rfl ?_
          obtain ⟨rfl, rfl⟩ := pj2 ht16
          exact tw_iret C hK rfl rfl dX8_rule_91
        · have hf16 := ite_f hc16 hf15
          refine tw_iload_n (i := 2) (z := 2) C dX8_rule_74 rfl rfl ?_
          refine tw_bipush (v := 12) C dX8_rule_75 (by decide) ?_
          refine tw_ic_gt (tgt := 90) C dX8_rule_77 (by decide) (fun hc17 => ?_) (fun hc17 => ?_)
          · have ht17 := ite_t hc17 hf16
            refine tw_iload_n (i := 3) (z := 3) C dX8_rule_90 rfl rfl ?_
            obtain ⟨rfl, rfl⟩ := pj2 ht17
            exact tw_iret C hK rfl rfl dX8_rule_91
          · have hf17 := ite_f hc17 hf16
            refine tw_aload_n (i := 0) (z := 0) (r := (8, 0)) C dX8_rule_80 rfl rfl ?_
            refine tw_getI C fl_RX8_83 rfl (wcells_mem (f := 8) (j := 0) (by decide) (by decide)) rfl dX8_rule_81 ?_
            obtain ⟨x5, ex18, eh18⟩ := bnd_ex hf17
            refine tw_topi ex18.symm ?_
            refine tw_istore_n (lv' := [(0, rv K (8, 0)), (1, .int a1), (2, .int a2), (3, .int x5)]) C [1, 2, 3, 0] dX8_rule_84 rfl (by rw [hnL]; decide) rfl ?_
            refine tw_aload_n (i := 0) (z := 0) (r := (8, 0)) C dX8_rule_85 rfl rfl ?_
            refine tw_iload_n (i := 2) (z := 2) C dX8_rule_86 rfl rfl ?_
            obtain ⟨σ5, es19, eh19⟩ := bnd_ex eh18
            refine tw_put C fl_RX8_83 (fun q hq => by cases hq; rfl) rfl (wcells_mem (f := 8) (j := 0) (by decide) (by decide)) rfl rfl rfl dX8_rule_87 ?_
            rw [es19]
            refine tw_iload_n (i := 3) (z := 3) C dX8_rule_90 rfl rfl ?_
            obtain ⟨rfl, rfl⟩ := pj2 eh19
            exact tw_iret C hK rfl rfl dX8_rule_91
    refine tw_ic_ne (tgt := 65) C dX8_rule_35 (by decide) (fun hc9 => ?_) (fun hc9 => ?_)
    · have ht9 := ite_f hc9 hx8
      exact hJ8 _ _ ht9.symm
    · have hf9 := ite_t hc9 hx8
      refine tw_iload_n (i := 2) (z := 2) C dX8_rule_38 rfl rfl ?_
      refine tw_aload_n (i := 0) (z := 0) (r := (8, 0)) C dX8_rule_39 rfl rfl ?_
      refine tw_getI C fl_RX8_76 rfl (wcells_mem (f := 8) (j := 0) (by decide) (by decide)) rfl dX8_rule_40 ?_
      refine tw_ic_lt (tgt := 65) C dX8_rule_43 (by decide) (fun hc10 => ?_) (fun hc10 => ?_)
      · have ht10 := ite_t hc10 hf9
        exact hJ8 _ _ ht10.symm
      · have hf10 := ite_f hc10 hf9
        refine tw_iload_n (i := 2) (z := 2) C dX8_rule_46 rfl rfl ?_
        refine tw_bipush (v := 9) C dX8_rule_47 (by decide) ?_
        refine tw_ic_gt (tgt := 65) C dX8_rule_49 (by decide) (fun hc11 => ?_) (fun hc11 => ?_)
        · have ht11 := ite_t hc11 hf10
          exact hJ8 _ _ ht11.symm
        · have hf11 := ite_f hc11 hf10
          refine tw_aload_n (i := 0) (z := 0) (r := (8, 0)) C dX8_rule_52 rfl rfl ?_
          refine tw_getI C fl_RX8_80 rfl (wcells_mem (f := 8) (j := 0) (by decide) (by decide)) rfl dX8_rule_53 ?_
          obtain ⟨x4, ex12, eh12⟩ := bnd_ex hf11
          refine tw_topi ex12.symm ?_
          refine tw_istore_n (lv' := [(0, rv K (8, 0)), (1, .int a1), (2, .int a2), (3, .int x4)]) C [1, 2, 3, 0] dX8_rule_56 rfl (by rw [hnL]; decide) rfl ?_
          refine tw_aload_n (i := 0) (z := 0) (r := (8, 0)) C dX8_rule_57 rfl rfl ?_
          refine tw_iload_n (i := 2) (z := 2) C dX8_rule_58 rfl rfl ?_
          obtain ⟨σ4, es13, eh13⟩ := bnd_ex eh12
          refine tw_put C fl_RX8_80 (fun q hq => by cases hq; rfl) rfl (wcells_mem (f := 8) (j := 0) (by decide) (by decide)) rfl rfl rfl dX8_rule_59 ?_
          rw [es13]
          refine tw_goto (tgt := 90) C dX8_rule_62 (by decide) ?_
          refine tw_iload_n (i := 3) (z := 3) C dX8_rule_90 rfl rfl ?_
          have e14 := bjp_l eh13 hy8
          obtain ⟨rfl, rfl⟩ := pj2 e14
          exact tw_iret C hK rfl rfl dX8_rule_91
  refine tw_if_ne (tgt := 33) C dX8_rule_4 (by decide) (fun hc2 => ?_) (fun hc2 => ?_)
  · have ht2 := ite_f hc2 hx1
    exact hJ1 _ _ ht2.symm
  · have hf2 := ite_t hc2 hx1
    refine tw_iload_n (i := 2) (z := 2) C dX8_rule_7 rfl rfl ?_
    refine tw_iconst (v := 1) C dX8_rule_8 (by decide) ?_
    refine tw_ic_lt (tgt := 33) C dX8_rule_9 (by decide) (fun hc3 => ?_) (fun hc3 => ?_)
    · have ht3 := ite_t hc3 hf2
      exact hJ1 _ _ ht3.symm
    · have hf3 := ite_f hc3 hf2
      refine tw_iload_n (i := 2) (z := 2) C dX8_rule_12 rfl rfl ?_
      refine tw_aload_n (i := 0) (z := 0) (r := (8, 0)) C dX8_rule_13 rfl rfl ?_
      refine tw_getI C fl_RX8_80 rfl (wcells_mem (f := 8) (j := 0) (by decide) (by decide)) rfl dX8_rule_14 ?_
      refine tw_ic_gt (tgt := 33) C dX8_rule_17 (by decide) (fun hc4 => ?_) (fun hc4 => ?_)
      · have ht4 := ite_t hc4 hf3
        exact hJ1 _ _ ht4.symm
      · have hf4 := ite_f hc4 hf3
        refine tw_aload_n (i := 0) (z := 0) (r := (8, 0)) C dX8_rule_20 rfl rfl ?_
        refine tw_getI C fl_RX8_76 rfl (wcells_mem (f := 8) (j := 0) (by decide) (by decide)) rfl dX8_rule_21 ?_
        obtain ⟨x2, ex5, eh5⟩ := bnd_ex hf4
        refine tw_topi ex5.symm ?_
        refine tw_istore_n (lv' := [(0, rv K (8, 0)), (1, .int a1), (2, .int a2), (3, .int x2)]) C [1, 2, 3, 0] dX8_rule_24 rfl (by rw [hnL]; decide) rfl ?_
        refine tw_aload_n (i := 0) (z := 0) (r := (8, 0)) C dX8_rule_25 rfl rfl ?_
        refine tw_iload_n (i := 2) (z := 2) C dX8_rule_26 rfl rfl ?_
        obtain ⟨σ2, es6, eh6⟩ := bnd_ex eh5
        refine tw_put C fl_RX8_76 (fun q hq => by cases hq; rfl) rfl (wcells_mem (f := 8) (j := 0) (by decide) (by decide)) rfl rfl rfl dX8_rule_27 ?_
        rw [es6]
        refine tw_goto (tgt := 90) C dX8_rule_30 (by decide) ?_
        refine tw_iload_n (i := 3) (z := 3) C dX8_rule_90 rfl rfl ?_
        have e7 := bjp_l eh6 hy1
        obtain ⟨rfl, rfl⟩ := pj2 e7
        exact tw_iret C hK rfl rfl dX8_rule_91

set_option maxRecDepth 20000 in
def fX8_law (σ : St) (a1 : Int32) : Option (Int32) :=
  if (fX8_isItem a1) = true then
    grd (inb a1 17) (
    some (σ (27, 0) (tn a1)))
  else
    some (-2 : Int32)
set_option maxRecDepth 20000 in
set_option maxHeartbeats 4000000 in
theorem kX8_law (G : Gx) (d : Nat) (hdp : 2 ≤ d) (σ : St) (a1 : Int32)  {v0 : Int32} (h : fX8_law σ a1 = some v0) : MS G d yX8_law cX8_law 2 (some .int) [.ref (G.2.1 (8, 0)), .int a1] σ (some (.int v0)) σ := by
  refine MS_of (by decide) (Nat.le_of_ble_eq_true rfl) rfl (fun K hG hnL C hR hK => ?_) (by omega)
  subst hG
  show TW K 0 [(0, rv K (8, 0)), (1, .int a1)] [] σ
  unfold fX8_law at h
  refine tw_iload_n (i := 1) (z := 1) C dX8_law_0 rfl rfl ?_
  refine tw_callS (As := [.int a1]) (rest := []) C hR (kX8_isItem K.1 _ (by omega) σ a1  rfl) mi_X8_isItem st_X8_isItem ml_RX8_105 rfl rfl (Nat.le_of_ble_eq_true rfl) dX8_law_1 ?_
  show TW K 4 [(0, rv K (8, 0)), (1, .int a1)] [.int (b2i (fX8_isItem a1))] σ
  refine tw_if_ne (tgt := 10) C dX8_law_4 (by decide) (fun hc1 => ?_) (fun hc1 => ?_)
  · have ht1 := ite_t (b2i_nz hc1) h
    refine tw_aload_n (i := 0) (z := 0) (r := (8, 0)) C dX8_law_10 rfl rfl ?_
    refine tw_getR (g := 27) (z := 0) (j' := 0) C fl_RX8_42 rfl (wcells_mem (f := 8) (j := 0) (by decide) (by decide)) rfl rfl dX8_law_11 ?_
    refine tw_iload_n (i := 1) (z := 1) C dX8_law_14 rfl rfl ?_
    obtain ⟨hb2, eh2⟩ := grd_some ht1
    refine tw_iald (r := (27, 0)) C (ia_of rfl (by decide)) hb2 dX8_law_15 ?_
    obtain rfl := (Option.some.inj eh2)
    exact tw_iret C hK rfl rfl dX8_law_16
  · have hf1 := ite_f (b2i_z hc1) h
    refine tw_bipush (v := (-2)) C dX8_law_7 (by decide) ?_
    obtain rfl := (Option.some.inj hf1)
    exact tw_iret C hK rfl rfl dX8_law_9

set_option maxRecDepth 20000 in
def fX8_enact (σ : St) (a1 : Int32) : Option (Int32 × St) :=
  if (fX8_isCode a1) = true then
    grd (inb a1 11) (
    grd (acpOk (11, (tn a1)) (0 : Int32) (27, 0) (0 : Int32) (17 : Int32)) (bnd (acp σ (11, (tn a1)) (0 : Int32) (27, 0) (0 : Int32) (17 : Int32)) (fun σ1 =>
    some ((1 : Int32), σ1))))
  else
    some ((-2 : Int32), σ)
set_option maxRecDepth 20000 in
set_option maxHeartbeats 4000000 in
theorem kX8_enact (G : Gx) (d : Nat) (hdp : 2 ≤ d) (σ : St) (a1 : Int32)  {v0 : Int32} {σ' : St} (h : fX8_enact σ a1 = some (v0, σ')) : MS G d yX8_enact cX8_enact 2 (some .int) [.ref (G.2.1 (8, 0)), .int a1] σ (some (.int v0)) σ' := by
  refine MS_of (by decide) (Nat.le_of_ble_eq_true rfl) rfl (fun K hG hnL C hR hK => ?_) (by omega)
  subst hG
  show TW K 0 [(0, rv K (8, 0)), (1, .int a1)] [] σ
  unfold fX8_enact at h
  refine tw_iload_n (i := 1) (z := 1) C dX8_enact_0 rfl rfl ?_
  refine tw_callS (As := [.int a1]) (rest := []) C hR (kX8_isCode K.1 _ (by omega) σ a1  rfl) mi_X8_isCode st_X8_isCode ml_RX8_90 rfl rfl (Nat.le_of_ble_eq_true rfl) dX8_enact_1 ?_
  show TW K 4 [(0, rv K (8, 0)), (1, .int a1)] [.int (b2i (fX8_isCode a1))] σ
  refine tw_if_ne (tgt := 10) C dX8_enact_4 (by decide) (fun hc1 => ?_) (fun hc1 => ?_)
  · have ht1 := ite_t (b2i_nz hc1) h
    refine tw_aload_n (i := 0) (z := 0) (r := (8, 0)) C dX8_enact_10 rfl rfl ?_
    refine tw_getR (g := 23) (z := 0) (j' := 0) C fl_RX8_11 rfl (wcells_mem (f := 8) (j := 0) (by decide) (by decide)) rfl rfl dX8_enact_11 ?_
    refine tw_iload_n (i := 1) (z := 1) C dX8_enact_14 rfl rfl ?_
    obtain ⟨hb2, eh2⟩ := grd_some ht1
    refine tw_aald (g := 1) C rfl 3 "ElevenCodes$Code" (fun _ => rfl) (by decide) (by decide) (wcells_mem (f := 23) (j := 0) (by decide) (by decide)) hb2 dX8_enact_15 ?_
    refine tw_getR (g := 11) (z := 0) (j' := (tn a1)) C fl_RX8_108 rfl (wcells_mem (f := 1) (j := (tn a1)) (by decide) (inb_lt hb2)) rfl rfl dX8_enact_16 ?_
    refine tw_iconst (v := 0) C dX8_enact_19 (by decide) ?_
    refine tw_aload_n (i := 0) (z := 0) (r := (8, 0)) C dX8_enact_20 rfl rfl ?_
    refine tw_getR (g := 27) (z := 0) (j' := 0) C fl_RX8_42 rfl (wcells_mem (f := 8) (j := 0) (by decide) (by decide)) rfl rfl dX8_enact_21 ?_
    refine tw_iconst (v := 0) C dX8_enact_24 (by decide) ?_
    refine tw_bipush (v := 17) C dX8_enact_25 (by decide) ?_
    obtain ⟨hb3, eh3⟩ := grd_some eh2
    obtain ⟨σ1, es4, eg4⟩ := bnd_ex eh3
    refine tw_acp (r := (11, (tn a1))) (q := (27, 0)) C hR hb3 ml_RX8_247 nt_acp st_acp in_System (Nat.le_of_ble_eq_true rfl) dX8_enact_27 ?_
    rw [es4]
    refine tw_iconst (v := 1) C dX8_enact_30 (by decide) ?_
    obtain ⟨rfl, rfl⟩ := pj2 (Option.some.inj eg4)
    exact tw_iret C hK rfl rfl dX8_enact_31
  · have hf1 := ite_f (b2i_z hc1) h
    refine tw_bipush (v := (-2)) C dX8_enact_7 (by decide) ?_
    obtain ⟨rfl, rfl⟩ := pj2 (Option.some.inj hf1)
    exact tw_iret C hK rfl rfl dX8_enact_9

set_option maxRecDepth 20000 in
def fX8_leaving (σ : St) (a1 : Int32) (a2 : Int32) : Option (Int32) :=
  lpF (fun (q1 : Int32 × Int32) => match q1 with
  | (x1, x2) =>
  if (σ (8, 0) 11) ≤ x2 then
    some (.inr x1)
  else
    grd (inb x2 12) (
    obi (if (σ (0, (tn x2)) 2) = 0 then
      some x1
    else
      grd (inb x2 12) (
      if (((σ (0, (tn x2)) 1) >>> (a1 &&& 31)) &&& (1 : Int32)) = (1 : Int32) then
        obi (fX8_itemsOf σ x2) (fun x4 =>
        grd (isIA x4 && inb a1 (alen x4.1)) (
        if (σ x4 (tn a1)) = a2 then
          some x1
        else
          bnd (x1 ||| ((1 : Int32) <<< (x2 &&& 31))) (fun x5 =>
          some x5)))
      else
        some x1)) (fun x3 =>
    bnd (x2 + 1) (fun x6 =>
    some (.inl (x3, x6)))))) ((0 : Int32), (0 : Int32))
set_option maxRecDepth 20000 in
set_option maxHeartbeats 4000000 in
theorem kX8_leaving (G : Gx) (d : Nat) (hdp : 2 ≤ d) (σ : St) (a1 : Int32) (a2 : Int32)  {v0 : Int32} (h : fX8_leaving σ a1 a2 = some v0) : MS G d yX8_leaving cX8_leaving 5 (some .int) [.ref (G.2.1 (8, 0)), .int a1, .int a2] σ (some (.int v0)) σ := by
  refine MS_of (by decide) (Nat.le_of_ble_eq_true rfl) rfl (fun K hG hnL C hR hK => ?_) (by omega)
  subst hG
  show TW K 0 [(0, rv K (8, 0)), (1, .int a1), (2, .int a2)] [] σ
  unfold fX8_leaving at h
  refine tw_iconst (v := 0) C dX8_leaving_0 (by decide) ?_
  refine tw_istore_n (lv' := [(0, rv K (8, 0)), (1, .int a1), (2, .int a2), (3, .int (0 : Int32))]) C [1, 2, 3, 0] dX8_leaving_1 rfl (by rw [hnL]; decide) rfl ?_
  refine tw_iconst (v := 0) C dX8_leaving_2 (by decide) ?_
  refine tw_istore (lv' := [(0, rv K (8, 0)), (1, .int a1), (2, .int a2), (3, .int (0 : Int32)), (4, .int (0 : Int32))]) C [1, 2, 3, 4, 0] dX8_leaving_3 (by rw [hnL]; decide) rfl ?_
  refine lpF_ct (G := fun (q : Int32 × Int32) => match q with | (x1, x2) => TW K 5 [(0, rv K (8, 0)), (1, .int a1), (2, .int a2), (3, .int x1), (4, .int x2)] [] σ) ?_ h
  rintro ⟨x1, x2⟩ w1 hx1 hk1
  show TW K 5 [(0, rv K (8, 0)), (1, .int a1), (2, .int a2), (3, .int x1), (4, .int x2)] [] σ
  refine tw_iload (i := 4) (z := 4) C dX8_leaving_5 rfl ?_
  refine tw_aload_n (i := 0) (z := 0) (r := (8, 0)) C dX8_leaving_7 rfl rfl ?_
  refine tw_getI C fl_RX8_205 rfl (wcells_mem (f := 8) (j := 0) (by decide) (by decide)) rfl dX8_leaving_8 ?_
  refine tw_ic_ge (tgt := 70) C dX8_leaving_11 (by decide) (fun hc2 => ?_) (fun hc2 => ?_)
  · have ht2 := ite_t hc2 hx1
    refine tw_iload_n (i := 3) (z := 3) C dX8_leaving_70 rfl rfl ?_
    have e3 := lp_x ht2 hk1
    obtain rfl := (Option.some.inj e3)
    exact tw_iret C hK rfl rfl dX8_leaving_71
  · have hf2 := ite_f hc2 hx1
    refine tw_aload_n (i := 0) (z := 0) (r := (8, 0)) C dX8_leaving_14 rfl rfl ?_
    refine tw_getR (g := 25) (z := 0) (j' := 0) C fl_RX8_23 rfl (wcells_mem (f := 8) (j := 0) (by decide) (by decide)) rfl rfl dX8_leaving_15 ?_
    refine tw_iload (i := 4) (z := 4) C dX8_leaving_18 rfl ?_
    obtain ⟨hb4, eh4⟩ := grd_some hf2
    refine tw_aald (g := 0) C rfl 5 "ElevenCodes$Club" (fun _ => rfl) (by decide) (by decide) (wcells_mem (f := 25) (j := 0) (by decide) (by decide)) hb4 dX8_leaving_20 ?_
    refine tw_getI C fl_RX8_244 rfl (wcells_mem (f := 0) (j := (tn x2)) (by decide) (inb_lt hb4)) rfl dX8_leaving_21 ?_
    obtain ⟨x3, hx5, hq5⟩ := obi_some eh4
    have hJ5 : TW K 64 [(0, rv K (8, 0)), (1, .int a1), (2, .int a2), (3, .int x3), (4, .int x2)] [] σ := by
      obtain ⟨x6, ex13, eh13⟩ := bnd_ex hq5
      refine tw_iinc (z := 4) (v := x6) (lv' := [(0, rv K (8, 0)), (1, .int a1), (2, .int a2), (3, .int x3), (4, .int x6)]) C [1, 2, 3, 4, 0] dX8_leaving_64 rfl ex13 (by rw [hnL]; decide) rfl ?_
      refine tw_goto (tgt := 5) C dX8_leaving_67 (by decide) ?_
      have hz := lp_c eh13 hk1
      exact hz
    refine tw_if_eq (tgt := 64) C dX8_leaving_24 (by decide) (fun hc6 => ?_) (fun hc6 => ?_)
    · have ht6 := ite_t hc6 hx5
      obtain rfl := (Option.some.inj ht6)
      exact hJ5
    · have hf6 := ite_f hc6 hx5
      refine tw_aload_n (i := 0) (z := 0) (r := (8, 0)) C dX8_leaving_27 rfl rfl ?_
      refine tw_getR (g := 25) (z := 0) (j' := 0) C fl_RX8_23 rfl (wcells_mem (f := 8) (j := 0) (by decide) (by decide)) rfl rfl dX8_leaving_28 ?_
      refine tw_iload (i := 4) (z := 4) C dX8_leaving_31 rfl ?_
      obtain ⟨hb7, eh7⟩ := grd_some hf6
      refine tw_aald (g := 0) C rfl 5 "ElevenCodes$Club" (fun _ => rfl) (by decide) (by decide) (wcells_mem (f := 25) (j := 0) (by decide) (by decide)) hb7 dX8_leaving_33 ?_
      refine tw_getI C fl_RX8_211 rfl (wcells_mem (f := 0) (j := (tn x2)) (by decide) (inb_lt hb7)) rfl dX8_leaving_34 ?_
      refine tw_iload_n (i := 1) (z := 1) C dX8_leaving_37 rfl rfl ?_
      refine tw_ishr C dX8_leaving_38 ?_
      refine tw_iconst (v := 1) C dX8_leaving_39 (by decide) ?_
      refine tw_iand C dX8_leaving_40 ?_
      refine tw_iconst (v := 1) C dX8_leaving_41 (by decide) ?_
      refine tw_ic_ne (tgt := 64) C dX8_leaving_42 (by decide) (fun hc8 => ?_) (fun hc8 => ?_)
      · have ht8 := ite_f hc8 eh7
        obtain rfl := (Option.some.inj ht8)
        exact hJ5
      · have hf8 := ite_t hc8 eh7
        refine tw_aload_n (i := 0) (z := 0) (r := (8, 0)) C dX8_leaving_45 rfl rfl ?_
        refine tw_iload (i := 4) (z := 4) C dX8_leaving_46 rfl ?_
        obtain ⟨x4, hv9, eh9⟩ := obi_some hf8
        refine tw_callV (As := [.int x2]) (rest := []) (r := (8, 0)) C hR (kX8_itemsOf K.1 _ (by omega) σ x2  hv9) mi_X8_itemsOf is_X8_itemsOf se_X8_itemsOf ml_RX8_236 (wcells_mem (f := 8) (j := 0) (by decide) (by decide)) rfl rfl rfl rfl (Nat.le_of_ble_eq_true rfl) dX8_leaving_48 ?_
        show TW K 51 [(0, rv K (8, 0)), (1, .int a1), (2, .int a2), (3, .int x1), (4, .int x2)] [rv K x4] σ
        refine tw_iload_n (i := 1) (z := 1) C dX8_leaving_51 rfl rfl ?_
        obtain ⟨hb10, eh10⟩ := grd_some eh9
        refine tw_iald (r := x4) C (and_t hb10).1 (and_t hb10).2 dX8_leaving_52 ?_
        refine tw_iload_n (i := 2) (z := 2) C dX8_leaving_53 rfl rfl ?_
        refine tw_ic_eq (tgt := 64) C dX8_leaving_54 (by decide) (fun hc11 => ?_) (fun hc11 => ?_)
        · have ht11 := ite_t hc11 eh10
          obtain rfl := (Option.some.inj ht11)
          exact hJ5
        · have hf11 := ite_f hc11 eh10
          refine tw_iload_n (i := 3) (z := 3) C dX8_leaving_57 rfl rfl ?_
          refine tw_iconst (v := 1) C dX8_leaving_58 (by decide) ?_
          refine tw_iload (i := 4) (z := 4) C dX8_leaving_59 rfl ?_
          refine tw_ishl C dX8_leaving_61 ?_
          refine tw_ior C dX8_leaving_62 ?_
          obtain ⟨x5, ex12, eh12⟩ := bnd_ex hf11
          refine tw_topi ex12.symm ?_
          refine tw_istore_n (lv' := [(0, rv K (8, 0)), (1, .int a1), (2, .int a2), (3, .int x5), (4, .int x2)]) C [1, 2, 3, 0, 4] dX8_leaving_63 rfl (by rw [hnL]; decide) rfl ?_
          obtain rfl := (Option.some.inj eh12)
          exact hJ5

set_option maxRecDepth 20000 in
def fX8_votesFor (σ : St) (a1 : Int32) (a2 : Int32) : Option (Int32) :=
  lpF (fun (q1 : Int32 × Int32) => match q1 with
  | (x1, x2) =>
  if (σ (8, 0) 11) ≤ x2 then
    some (.inr x1)
  else
    grd (inb x2 12) (
    obi (if (σ (0, (tn x2)) 2) = 0 then
      some x1
    else
      obi (fX8_itemsOf σ x2) (fun x4 =>
      grd (isIA x4 && inb a1 (alen x4.1)) (
      if (σ x4 (tn a1)) = a2 then
        bnd (x1 + 1) (fun x5 =>
        some x5)
      else
        some x1))) (fun x3 =>
    bnd (x2 + 1) (fun x6 =>
    some (.inl (x3, x6)))))) ((0 : Int32), (0 : Int32))
set_option maxRecDepth 20000 in
set_option maxHeartbeats 4000000 in
theorem kX8_votesFor (G : Gx) (d : Nat) (hdp : 2 ≤ d) (σ : St) (a1 : Int32) (a2 : Int32)  {v0 : Int32} (h : fX8_votesFor σ a1 a2 = some v0) : MS G d yX8_votesFor cX8_votesFor 5 (some .int) [.ref (G.2.1 (8, 0)), .int a1, .int a2] σ (some (.int v0)) σ := by
  refine MS_of (by decide) (Nat.le_of_ble_eq_true rfl) rfl (fun K hG hnL C hR hK => ?_) (by omega)
  subst hG
  show TW K 0 [(0, rv K (8, 0)), (1, .int a1), (2, .int a2)] [] σ
  unfold fX8_votesFor at h
  refine tw_iconst (v := 0) C dX8_votesFor_0 (by decide) ?_
  refine tw_istore_n (lv' := [(0, rv K (8, 0)), (1, .int a1), (2, .int a2), (3, .int (0 : Int32))]) C [1, 2, 3, 0] dX8_votesFor_1 rfl (by rw [hnL]; decide) rfl ?_
  refine tw_iconst (v := 0) C dX8_votesFor_2 (by decide) ?_
  refine tw_istore (lv' := [(0, rv K (8, 0)), (1, .int a1), (2, .int a2), (3, .int (0 : Int32)), (4, .int (0 : Int32))]) C [1, 2, 3, 4, 0] dX8_votesFor_3 (by rw [hnL]; decide) rfl ?_
  refine lpF_ct (G := fun (q : Int32 × Int32) => match q with | (x1, x2) => TW K 5 [(0, rv K (8, 0)), (1, .int a1), (2, .int a2), (3, .int x1), (4, .int x2)] [] σ) ?_ h
  rintro ⟨x1, x2⟩ w1 hx1 hk1
  show TW K 5 [(0, rv K (8, 0)), (1, .int a1), (2, .int a2), (3, .int x1), (4, .int x2)] [] σ
  refine tw_iload (i := 4) (z := 4) C dX8_votesFor_5 rfl ?_
  refine tw_aload_n (i := 0) (z := 0) (r := (8, 0)) C dX8_votesFor_7 rfl rfl ?_
  refine tw_getI C fl_RX8_205 rfl (wcells_mem (f := 8) (j := 0) (by decide) (by decide)) rfl dX8_votesFor_8 ?_
  refine tw_ic_ge (tgt := 48) C dX8_votesFor_11 (by decide) (fun hc2 => ?_) (fun hc2 => ?_)
  · have ht2 := ite_t hc2 hx1
    refine tw_iload_n (i := 3) (z := 3) C dX8_votesFor_48 rfl rfl ?_
    have e3 := lp_x ht2 hk1
    obtain rfl := (Option.some.inj e3)
    exact tw_iret C hK rfl rfl dX8_votesFor_49
  · have hf2 := ite_f hc2 hx1
    refine tw_aload_n (i := 0) (z := 0) (r := (8, 0)) C dX8_votesFor_14 rfl rfl ?_
    refine tw_getR (g := 25) (z := 0) (j' := 0) C fl_RX8_23 rfl (wcells_mem (f := 8) (j := 0) (by decide) (by decide)) rfl rfl dX8_votesFor_15 ?_
    refine tw_iload (i := 4) (z := 4) C dX8_votesFor_18 rfl ?_
    obtain ⟨hb4, eh4⟩ := grd_some hf2
    refine tw_aald (g := 0) C rfl 5 "ElevenCodes$Club" (fun _ => rfl) (by decide) (by decide) (wcells_mem (f := 25) (j := 0) (by decide) (by decide)) hb4 dX8_votesFor_20 ?_
    refine tw_getI C fl_RX8_244 rfl (wcells_mem (f := 0) (j := (tn x2)) (by decide) (inb_lt hb4)) rfl dX8_votesFor_21 ?_
    obtain ⟨x3, hx5, hq5⟩ := obi_some eh4
    have hJ5 : TW K 42 [(0, rv K (8, 0)), (1, .int a1), (2, .int a2), (3, .int x3), (4, .int x2)] [] σ := by
      obtain ⟨x6, ex11, eh11⟩ := bnd_ex hq5
      refine tw_iinc (z := 4) (v := x6) (lv' := [(0, rv K (8, 0)), (1, .int a1), (2, .int a2), (3, .int x3), (4, .int x6)]) C [1, 2, 3, 4, 0] dX8_votesFor_42 rfl ex11 (by rw [hnL]; decide) rfl ?_
      refine tw_goto (tgt := 5) C dX8_votesFor_45 (by decide) ?_
      have hz := lp_c eh11 hk1
      exact hz
    refine tw_if_eq (tgt := 42) C dX8_votesFor_24 (by decide) (fun hc6 => ?_) (fun hc6 => ?_)
    · have ht6 := ite_t hc6 hx5
      obtain rfl := (Option.some.inj ht6)
      exact hJ5
    · have hf6 := ite_f hc6 hx5
      refine tw_aload_n (i := 0) (z := 0) (r := (8, 0)) C dX8_votesFor_27 rfl rfl ?_
      refine tw_iload (i := 4) (z := 4) C dX8_votesFor_28 rfl ?_
      obtain ⟨x4, hv7, eh7⟩ := obi_some hf6
      refine tw_callV (As := [.int x2]) (rest := []) (r := (8, 0)) C hR (kX8_itemsOf K.1 _ (by omega) σ x2  hv7) mi_X8_itemsOf is_X8_itemsOf se_X8_itemsOf ml_RX8_236 (wcells_mem (f := 8) (j := 0) (by decide) (by decide)) rfl rfl rfl rfl (Nat.le_of_ble_eq_true rfl) dX8_votesFor_30 ?_
      show TW K 33 [(0, rv K (8, 0)), (1, .int a1), (2, .int a2), (3, .int x1), (4, .int x2)] [rv K x4] σ
      refine tw_iload_n (i := 1) (z := 1) C dX8_votesFor_33 rfl rfl ?_
      obtain ⟨hb8, eh8⟩ := grd_some eh7
      refine tw_iald (r := x4) C (and_t hb8).1 (and_t hb8).2 dX8_votesFor_34 ?_
      refine tw_iload_n (i := 2) (z := 2) C dX8_votesFor_35 rfl rfl ?_
      refine tw_ic_ne (tgt := 42) C dX8_votesFor_36 (by decide) (fun hc9 => ?_) (fun hc9 => ?_)
      · have ht9 := ite_f hc9 eh8
        obtain rfl := (Option.some.inj ht9)
        exact hJ5
      · have hf9 := ite_t hc9 eh8
        obtain ⟨x5, ex10, eh10⟩ := bnd_ex hf9
        refine tw_iinc (z := 3) (v := x5) (lv' := [(0, rv K (8, 0)), (1, .int a1), (2, .int a2), (3, .int x5), (4, .int x2)]) C [1, 2, 3, 0, 4] dX8_votesFor_39 rfl ex10 (by rw [hnL]; decide) rfl ?_
        obtain rfl := (Option.some.inj eh10)
        exact hJ5

set_option maxRecDepth 20000 in
def fX8_votesAgainst (σ : St) (a1 : Int32) (a2 : Int32) : Option (Int32) :=
  grd (inb a1 17) (
  if (σ (27, 0) (tn a1)) = a2 then
    some (0 : Int32)
  else
    grd (inb a1 17) (
    obi (fX8_votesFor σ a1 (σ (27, 0) (tn a1))) (fun x1 =>
    some x1)))
set_option maxRecDepth 20000 in
set_option maxHeartbeats 4000000 in
theorem kX8_votesAgainst (G : Gx) (d : Nat) (hdp : 3 ≤ d) (σ : St) (a1 : Int32) (a2 : Int32)  {v0 : Int32} (h : fX8_votesAgainst σ a1 a2 = some v0) : MS G d yX8_votesAgainst cX8_votesAgainst 3 (some .int) [.ref (G.2.1 (8, 0)), .int a1, .int a2] σ (some (.int v0)) σ := by
  refine MS_of (by decide) (Nat.le_of_ble_eq_true rfl) rfl (fun K hG hnL C hR hK => ?_) (by omega)
  subst hG
  show TW K 0 [(0, rv K (8, 0)), (1, .int a1), (2, .int a2)] [] σ
  unfold fX8_votesAgainst at h
  refine tw_aload_n (i := 0) (z := 0) (r := (8, 0)) C dX8_votesAgainst_0 rfl rfl ?_
  refine tw_getR (g := 27) (z := 0) (j' := 0) C fl_RX8_42 rfl (wcells_mem (f := 8) (j := 0) (by decide) (by decide)) rfl rfl dX8_votesAgainst_1 ?_
  refine tw_iload_n (i := 1) (z := 1) C dX8_votesAgainst_4 rfl rfl ?_
  obtain ⟨hb1, eh1⟩ := grd_some h
  refine tw_iald (r := (27, 0)) C (ia_of rfl (by decide)) hb1 dX8_votesAgainst_5 ?_
  refine tw_iload_n (i := 2) (z := 2) C dX8_votesAgainst_6 rfl rfl ?_
  refine tw_ic_ne (tgt := 14) C dX8_votesAgainst_7 (by decide) (fun hc2 => ?_) (fun hc2 => ?_)
  · have ht2 := ite_f hc2 eh1
    refine tw_aload_n (i := 0) (z := 0) (r := (8, 0)) C dX8_votesAgainst_14 rfl rfl ?_
    refine tw_iload_n (i := 1) (z := 1) C dX8_votesAgainst_15 rfl rfl ?_
    refine tw_aload_n (i := 0) (z := 0) (r := (8, 0)) C dX8_votesAgainst_16 rfl rfl ?_
    refine tw_getR (g := 27) (z := 0) (j' := 0) C fl_RX8_42 rfl (wcells_mem (f := 8) (j := 0) (by decide) (by decide)) rfl rfl dX8_votesAgainst_17 ?_
    refine tw_iload_n (i := 1) (z := 1) C dX8_votesAgainst_20 rfl rfl ?_
    obtain ⟨hb3, eh3⟩ := grd_some ht2
    refine tw_iald (r := (27, 0)) C (ia_of rfl (by decide)) hb3 dX8_votesAgainst_21 ?_
    obtain ⟨x1, hv4, eh4⟩ := obi_some eh3
    refine tw_callV (As := [.int a1, .int (σ (27, 0) (tn a1))]) (rest := []) (r := (8, 0)) C hR (kX8_votesFor K.1 _ (by omega) σ a1 (σ (27, 0) (tn a1))  hv4) mi_X8_votesFor is_X8_votesFor se_X8_votesFor ml_RX8_253 (wcells_mem (f := 8) (j := 0) (by decide) (by decide)) rfl rfl rfl rfl (Nat.le_of_ble_eq_true rfl) dX8_votesAgainst_22 ?_
    show TW K 25 [(0, rv K (8, 0)), (1, .int a1), (2, .int a2)] [.int x1] σ
    obtain rfl := (Option.some.inj eh4)
    exact tw_iret C hK rfl rfl dX8_votesAgainst_25
  · have hf2 := ite_t hc2 eh1
    refine tw_iconst (v := 0) C dX8_votesAgainst_10 (by decide) ?_
    refine tw_goto (tgt := 25) C dX8_votesAgainst_11 (by decide) ?_
    obtain rfl := (Option.some.inj hf2)
    exact tw_iret C hK rfl rfl dX8_votesAgainst_25

set_option maxRecDepth 20000 in
def fX8_isCarried (σ : St) (a1 : Int32) (a2 : Int32) : Option (Bool) :=
  obi (fX8_votesFor σ a1 a2) (fun x1 =>
  obi (fX8_votesAgainst σ a1 a2) (fun x2 =>
  bnd (x1 + x2) (fun x3 =>
  if (x1 * (σ (8, 0) 13)) < ((σ (8, 0) 12) * x3) then
    some false
  else
    if x3 < (σ (8, 0) 14) then
      some false
    else
      some true)))
set_option maxRecDepth 20000 in
set_option maxHeartbeats 4000000 in
theorem kX8_isCarried (G : Gx) (d : Nat) (hdp : 4 ≤ d) (σ : St) (a1 : Int32) (a2 : Int32)  {v0 : Bool} (h : fX8_isCarried σ a1 a2 = some v0) : MS G d yX8_isCarried cX8_isCarried 5 (some .boolean) [.ref (G.2.1 (8, 0)), .int a1, .int a2] σ (some (.int (b2i v0))) σ := by
  refine MS_of (by decide) (Nat.le_of_ble_eq_true rfl) rfl (fun K hG hnL C hR hK => ?_) (by omega)
  subst hG
  show TW K 0 [(0, rv K (8, 0)), (1, .int a1), (2, .int a2)] [] σ
  unfold fX8_isCarried at h
  refine tw_aload_n (i := 0) (z := 0) (r := (8, 0)) C dX8_isCarried_0 rfl rfl ?_
  refine tw_iload_n (i := 1) (z := 1) C dX8_isCarried_1 rfl rfl ?_
  refine tw_iload_n (i := 2) (z := 2) C dX8_isCarried_2 rfl rfl ?_
  obtain ⟨x1, hv1, eh1⟩ := obi_some h
  refine tw_callV (As := [.int a1, .int a2]) (rest := []) (r := (8, 0)) C hR (kX8_votesFor K.1 _ (by omega) σ a1 a2  hv1) mi_X8_votesFor is_X8_votesFor se_X8_votesFor ml_RX8_253 (wcells_mem (f := 8) (j := 0) (by decide) (by decide)) rfl rfl rfl rfl (Nat.le_of_ble_eq_true rfl) dX8_isCarried_3 ?_
  show TW K 6 [(0, rv K (8, 0)), (1, .int a1), (2, .int a2)] [.int x1] σ
  refine tw_istore_n (lv' := [(0, rv K (8, 0)), (1, .int a1), (2, .int a2), (3, .int x1)]) C [1, 2, 3, 0] dX8_isCarried_6 rfl (by rw [hnL]; decide) rfl ?_
  refine tw_iload_n (i := 3) (z := 3) C dX8_isCarried_7 rfl rfl ?_
  refine tw_aload_n (i := 0) (z := 0) (r := (8, 0)) C dX8_isCarried_8 rfl rfl ?_
  refine tw_iload_n (i := 1) (z := 1) C dX8_isCarried_9 rfl rfl ?_
  refine tw_iload_n (i := 2) (z := 2) C dX8_isCarried_10 rfl rfl ?_
  obtain ⟨x2, hv2, eh2⟩ := obi_some eh1
  refine tw_callV (As := [.int a1, .int a2]) (rest := [.int x1]) (r := (8, 0)) C hR (kX8_votesAgainst K.1 _ (by omega) σ a1 a2  hv2) mi_X8_votesAgainst is_X8_votesAgainst se_X8_votesAgainst ml_RX8_256 (wcells_mem (f := 8) (j := 0) (by decide) (by decide)) rfl rfl rfl rfl (Nat.le_of_ble_eq_true rfl) dX8_isCarried_11 ?_
  show TW K 14 [(0, rv K (8, 0)), (1, .int a1), (2, .int a2), (3, .int x1)] [.int x2, .int x1] σ
  refine tw_iadd C dX8_isCarried_14 ?_
  obtain ⟨x3, ex3, eh3⟩ := bnd_ex eh2
  refine tw_topi ex3.symm ?_
  refine tw_istore (lv' := [(0, rv K (8, 0)), (1, .int a1), (2, .int a2), (3, .int x1), (4, .int x3)]) C [1, 2, 3, 4, 0] dX8_isCarried_15 (by rw [hnL]; decide) rfl ?_
  refine tw_iload_n (i := 3) (z := 3) C dX8_isCarried_17 rfl rfl ?_
  refine tw_aload_n (i := 0) (z := 0) (r := (8, 0)) C dX8_isCarried_18 rfl rfl ?_
  refine tw_getI C fl_RX8_80 rfl (wcells_mem (f := 8) (j := 0) (by decide) (by decide)) rfl dX8_isCarried_19 ?_
  refine tw_imul C dX8_isCarried_22 ?_
  refine tw_aload_n (i := 0) (z := 0) (r := (8, 0)) C dX8_isCarried_23 rfl rfl ?_
  refine tw_getI C fl_RX8_76 rfl (wcells_mem (f := 8) (j := 0) (by decide) (by decide)) rfl dX8_isCarried_24 ?_
  refine tw_iload (i := 4) (z := 4) C dX8_isCarried_27 rfl ?_
  refine tw_imul C dX8_isCarried_29 ?_
  refine tw_ic_lt (tgt := 46) C dX8_isCarried_30 (by decide) (fun hc4 => ?_) (fun hc4 => ?_)
  · have ht4 := ite_t hc4 eh3
    refine tw_iconst (v := 0) C dX8_isCarried_46 (by decide) ?_
    obtain rfl := (Option.some.inj ht4)
    exact tw_zret C hK rfl rfl rfl dX8_isCarried_47
  · have hf4 := ite_f hc4 eh3
    refine tw_iload (i := 4) (z := 4) C dX8_isCarried_33 rfl ?_
    refine tw_aload_n (i := 0) (z := 0) (r := (8, 0)) C dX8_isCarried_35 rfl rfl ?_
    refine tw_getI C fl_RX8_83 rfl (wcells_mem (f := 8) (j := 0) (by decide) (by decide)) rfl dX8_isCarried_36 ?_
    refine tw_ic_lt (tgt := 46) C dX8_isCarried_39 (by decide) (fun hc5 => ?_) (fun hc5 => ?_)
    · have ht5 := ite_t hc5 hf4
      refine tw_iconst (v := 0) C dX8_isCarried_46 (by decide) ?_
      obtain rfl := (Option.some.inj ht5)
      exact tw_zret C hK rfl rfl rfl dX8_isCarried_47
    · have hf5 := ite_f hc5 hf4
      refine tw_iconst (v := 1) C dX8_isCarried_42 (by decide) ?_
      refine tw_goto (tgt := 47) C dX8_isCarried_43 (by decide) ?_
      obtain rfl := (Option.some.inj hf5)
      exact tw_zret C hK rfl rfl rfl dX8_isCarried_47

set_option maxRecDepth 20000 in
def fX8_motion (σ : St) (a1 : Int32) (a2 : Int32) (a3 : Int32) : Option (Int32) :=
  if (fX8_isItem a1) = true then
    if (fX8_isCode a2) = true then
      if a3 < 0 then
        some (-2 : Int32)
      else
        if a3 ≤ (3 : Int32) then
          grd (inb a2 11) (
          grd (inb a1 17) (
          bnd (σ (11, (tn a2)) (tn a1)) (fun x1 =>
          if a3 = 0 then
            obi (fX8_votesFor σ a1 x1) (fun x2 =>
            some x2)
          else
            if a3 = 1 then
              obi (fX8_votesAgainst σ a1 x1) (fun x3 =>
              some x3)
            else
              if a3 = 2 then
                obi (fX8_isCarried σ a1 x1) (fun x4 =>
                if x4 = true then
                  some (1 : Int32)
                else
                  some (0 : Int32))
              else
                obi (fX8_leaving σ a1 x1) (fun x5 =>
                some x5))))
        else
          some (-2 : Int32)
    else
      some (-2 : Int32)
  else
    some (-2 : Int32)
set_option maxRecDepth 20000 in
set_option maxHeartbeats 4000000 in
theorem kX8_motion (G : Gx) (d : Nat) (hdp : 5 ≤ d) (σ : St) (a1 : Int32) (a2 : Int32) (a3 : Int32)  {v0 : Int32} (h : fX8_motion σ a1 a2 a3 = some v0) : MS G d yX8_motion cX8_motion 5 (some .int) [.ref (G.2.1 (8, 0)), .int a1, .int a2, .int a3] σ (some (.int v0)) σ := by
  refine MS_of (by decide) (Nat.le_of_ble_eq_true rfl) rfl (fun K hG hnL C hR hK => ?_) (by omega)
  subst hG
  show TW K 0 [(0, rv K (8, 0)), (1, .int a1), (2, .int a2), (3, .int a3)] [] σ
  unfold fX8_motion at h
  refine tw_iload_n (i := 1) (z := 1) C dX8_motion_0 rfl rfl ?_
  refine tw_callS (As := [.int a1]) (rest := []) C hR (kX8_isItem K.1 _ (by omega) σ a1  rfl) mi_X8_isItem st_X8_isItem ml_RX8_105 rfl rfl (Nat.le_of_ble_eq_true rfl) dX8_motion_1 ?_
  show TW K 4 [(0, rv K (8, 0)), (1, .int a1), (2, .int a2), (3, .int a3)] [.int (b2i (fX8_isItem a1))] σ
  refine tw_if_eq (tgt := 23) C dX8_motion_4 (by decide) (fun hc1 => ?_) (fun hc1 => ?_)
  · have ht1 := ite_f (b2i_z hc1) h
    refine tw_bipush (v := (-2)) C dX8_motion_23 (by decide) ?_
    obtain rfl := (Option.some.inj ht1)
    exact tw_iret C hK rfl rfl dX8_motion_25
  · have hf1 := ite_t (b2i_nz hc1) h
    refine tw_iload_n (i := 2) (z := 2) C dX8_motion_7 rfl rfl ?_
    refine tw_callS (As := [.int a2]) (rest := []) C hR (kX8_isCode K.1 _ (by omega) σ a2  rfl) mi_X8_isCode st_X8_isCode ml_RX8_90 rfl rfl (Nat.le_of_ble_eq_true rfl) dX8_motion_8 ?_
    show TW K 11 [(0, rv K (8, 0)), (1, .int a1), (2, .int a2), (3, .int a3)] [.int (b2i (fX8_isCode a2))] σ
    refine tw_if_eq (tgt := 23) C dX8_motion_11 (by decide) (fun hc2 => ?_) (fun hc2 => ?_)
    · have ht2 := ite_f (b2i_z hc2) hf1
      refine tw_bipush (v := (-2)) C dX8_motion_23 (by decide) ?_
      obtain rfl := (Option.some.inj ht2)
      exact tw_iret C hK rfl rfl dX8_motion_25
    · have hf2 := ite_t (b2i_nz hc2) hf1
      refine tw_iload_n (i := 3) (z := 3) C dX8_motion_14 rfl rfl ?_
      refine tw_if_lt (tgt := 23) C dX8_motion_15 (by decide) (fun hc3 => ?_) (fun hc3 => ?_)
      · have ht3 := ite_t hc3 hf2
        refine tw_bipush (v := (-2)) C dX8_motion_23 (by decide) ?_
        obtain rfl := (Option.some.inj ht3)
        exact tw_iret C hK rfl rfl dX8_motion_25
      · have hf3 := ite_f hc3 hf2
        refine tw_iload_n (i := 3) (z := 3) C dX8_motion_18 rfl rfl ?_
        refine tw_iconst (v := 3) C dX8_motion_19 (by decide) ?_
        refine tw_ic_le (tgt := 26) C dX8_motion_20 (by decide) (fun hc4 => ?_) (fun hc4 => ?_)
        · have ht4 := ite_t hc4 hf3
          refine tw_aload_n (i := 0) (z := 0) (r := (8, 0)) C dX8_motion_26 rfl rfl ?_
          refine tw_getR (g := 23) (z := 0) (j' := 0) C fl_RX8_11 rfl (wcells_mem (f := 8) (j := 0) (by decide) (by decide)) rfl rfl dX8_motion_27 ?_
          refine tw_iload_n (i := 2) (z := 2) C dX8_motion_30 rfl rfl ?_
          obtain ⟨hb5, eh5⟩ := grd_some ht4
          refine tw_aald (g := 1) C rfl 3 "ElevenCodes$Code" (fun _ => rfl) (by decide) (by decide) (wcells_mem (f := 23) (j := 0) (by decide) (by decide)) hb5 dX8_motion_31 ?_
          refine tw_getR (g := 11) (z := 0) (j' := (tn a2)) C fl_RX8_108 rfl (wcells_mem (f := 1) (j := (tn a2)) (by decide) (inb_lt hb5)) rfl rfl dX8_motion_32 ?_
          refine tw_iload_n (i := 1) (z := 1) C dX8_motion_35 rfl rfl ?_
          obtain ⟨hb6, eh6⟩ := grd_some eh5
          refine tw_iald (r := (11, (tn a2))) C (ia_of rfl (inb_lt hb5)) hb6 dX8_motion_36 ?_
          obtain ⟨x1, ex7, eh7⟩ := bnd_ex eh6
          refine tw_topi ex7.symm ?_
          refine tw_istore (lv' := [(0, rv K (8, 0)), (1, .int a1), (2, .int a2), (3, .int a3), (4, .int x1)]) C [1, 2, 3, 4, 0] dX8_motion_37 (by rw [hnL]; decide) rfl ?_
          refine tw_iload_n (i := 3) (z := 3) C dX8_motion_39 rfl rfl ?_
          by_cases hc8_0 : a3 = 0
          · have ht8_0 := ite_t hc8_0 eh7
            refine tw_tabZ (tgt := 68) C dX8_motion_40 (0) (by rw [hc8_0]; decide) (by decide) (by decide) rfl (by decide) ?_
            refine tw_aload_n (i := 0) (z := 0) (r := (8, 0)) C dX8_motion_68 rfl rfl ?_
            refine tw_iload_n (i := 1) (z := 1) C dX8_motion_69 rfl rfl ?_
            refine tw_iload (i := 4) (z := 4) C dX8_motion_70 rfl ?_
            obtain ⟨x2, hv9, eh9⟩ := obi_some ht8_0
            refine tw_callV (As := [.int a1, .int x1]) (rest := []) (r := (8, 0)) C hR (kX8_votesFor K.1 _ (by omega) σ a1 x1  hv9) mi_X8_votesFor is_X8_votesFor se_X8_votesFor ml_RX8_253 (wcells_mem (f := 8) (j := 0) (by decide) (by decide)) rfl rfl rfl rfl (Nat.le_of_ble_eq_true rfl) dX8_motion_72 ?_
            show TW K 75 [(0, rv K (8, 0)), (1, .int a1), (2, .int a2), (3, .int a3), (4, .int x1)] [.int x2] σ
            obtain rfl := (Option.some.inj eh9)
            exact tw_iret C hK rfl rfl dX8_motion_75
          have hf8_0 := ite_f hc8_0 eh7
          by_cases hc8_1 : a3 = 1
          · have ht8_1 := ite_t hc8_1 hf8_0
            refine tw_tabZ (tgt := 76) C dX8_motion_40 (1) (by rw [hc8_1]; decide) (by decide) (by decide) rfl (by decide) ?_
            refine tw_aload_n (i := 0) (z := 0) (r := (8, 0)) C dX8_motion_76 rfl rfl ?_
            refine tw_iload_n (i := 1) (z := 1) C dX8_motion_77 rfl rfl ?_
            refine tw_iload (i := 4) (z := 4) C dX8_motion_78 rfl ?_
            obtain ⟨x3, hv10, eh10⟩ := obi_some ht8_1
            refine tw_callV (As := [.int a1, .int x1]) (rest := []) (r := (8, 0)) C hR (kX8_votesAgainst K.1 _ (by omega) σ a1 x1  hv10) mi_X8_votesAgainst is_X8_votesAgainst se_X8_votesAgainst ml_RX8_256 (wcells_mem (f := 8) (j := 0) (by decide) (by decide)) rfl rfl rfl rfl (Nat.le_of_ble_eq_true rfl) dX8_motion_80 ?_
            show TW K 83 [(0, rv K (8, 0)), (1, .int a1), (2, .int a2), (3, .int a3), (4, .int x1)] [.int x3] σ
            obtain rfl := (Option.some.inj eh10)
            exact tw_iret C hK rfl rfl dX8_motion_83
          have hf8_1 := ite_f hc8_1 hf8_0
          by_cases hc8_2 : a3 = 2
          · have ht8_2 := ite_t hc8_2 hf8_1
            refine tw_tabZ (tgt := 84) C dX8_motion_40 (2) (by rw [hc8_2]; decide) (by decide) (by decide) rfl (by decide) ?_
            refine tw_aload_n (i := 0) (z := 0) (r := (8, 0)) C dX8_motion_84 rfl rfl ?_
            refine tw_iload_n (i := 1) (z := 1) C dX8_motion_85 rfl rfl ?_
            refine tw_iload (i := 4) (z := 4) C dX8_motion_86 rfl ?_
            obtain ⟨x4, hv11, eh11⟩ := obi_some ht8_2
            refine tw_callV (As := [.int a1, .int x1]) (rest := []) (r := (8, 0)) C hR (kX8_isCarried K.1 _ (by omega) σ a1 x1  hv11) mi_X8_isCarried is_X8_isCarried se_X8_isCarried ml_RX8_259 (wcells_mem (f := 8) (j := 0) (by decide) (by decide)) rfl rfl rfl rfl (Nat.le_of_ble_eq_true rfl) dX8_motion_88 ?_
            show TW K 91 [(0, rv K (8, 0)), (1, .int a1), (2, .int a2), (3, .int a3), (4, .int x1)] [.int (b2i x4)] σ
            refine tw_if_eq (tgt := 98) C dX8_motion_91 (by decide) (fun hc12 => ?_) (fun hc12 => ?_)
            · have ht12 := ite_f (b2i_z hc12) eh11
              refine tw_iconst (v := 0) C dX8_motion_98 (by decide) ?_
              obtain rfl := (Option.some.inj ht12)
              exact tw_iret C hK rfl rfl dX8_motion_99
            · have hf12 := ite_t (b2i_nz hc12) eh11
              refine tw_iconst (v := 1) C dX8_motion_94 (by decide) ?_
              refine tw_goto (tgt := 99) C dX8_motion_95 (by decide) ?_
              obtain rfl := (Option.some.inj hf12)
              exact tw_iret C hK rfl rfl dX8_motion_99
          have hf8_2 := ite_f hc8_2 hf8_1
          have hT8 : TW K 100 [(0, rv K (8, 0)), (1, .int a1), (2, .int a2), (3, .int a3), (4, .int x1)] [] σ := by
            refine tw_aload_n (i := 0) (z := 0) (r := (8, 0)) C dX8_motion_100 rfl rfl ?_
            refine tw_iload_n (i := 1) (z := 1) C dX8_motion_101 rfl rfl ?_
            refine tw_iload (i := 4) (z := 4) C dX8_motion_102 rfl ?_
            obtain ⟨x5, hv13, eh13⟩ := obi_some hf8_2
            refine tw_callV (As := [.int a1, .int x1]) (rest := []) (r := (8, 0)) C hR (kX8_leaving K.1 _ (by omega) σ a1 x1  hv13) mi_X8_leaving is_X8_leaving se_X8_leaving ml_RX8_262 (wcells_mem (f := 8) (j := 0) (by decide) (by decide)) rfl rfl rfl rfl (Nat.le_of_ble_eq_true rfl) dX8_motion_104 ?_
            show TW K 107 [(0, rv K (8, 0)), (1, .int a1), (2, .int a2), (3, .int a3), (4, .int x1)] [.int x5] σ
            obtain rfl := (Option.some.inj eh13)
            exact tw_iret C hK rfl rfl dX8_motion_107
          have hn8_0 : ¬ (a3).toInt = 0 := lv_neT (k := 0) hc8_0 (by decide)
          have hn8_1 : ¬ (a3).toInt = 1 := lv_neT (k := 1) hc8_1 (by decide)
          have hn8_2 : ¬ (a3).toInt = 2 := lv_neT (k := 2) hc8_2 (by decide)
          rcases (show (a3).toInt < 0 ∨ 2 < (a3).toInt by omega) with hz | hz
          · exact tw_tabOut (tgt := 100) C dX8_motion_40 (Or.inl hz) (by decide) hT8
          · exact tw_tabOut (tgt := 100) C dX8_motion_40 (Or.inr hz) (by decide) hT8
        · have hf4 := ite_f hc4 hf3
          refine tw_bipush (v := (-2)) C dX8_motion_23 (by decide) ?_
          obtain rfl := (Option.some.inj hf4)
          exact tw_iret C hK rfl rfl dX8_motion_25

set_option maxRecDepth 20000 in
def fX8_put (σ : St) (a1 : Int32) (a2 : Int32) : Option (Int32 × St) :=
  if (fX8_isItem a1) = true then
    if (fX8_isCode a2) = true then
      grd (inb a2 11) (
      grd (inb a1 17) (
      bnd (σ (11, (tn a2)) (tn a1)) (fun x1 =>
      obi (fX8_isCarried σ a1 x1) (fun x2 =>
      if x2 = true then
        obi (fX8_leaving σ a1 x1) (fun x3 =>
        obi (lpF (fun (q10 : Int32 × St) => match q10 with
        | (x4, σ2) =>
        if (σ2 (8, 0) 11) ≤ x4 then
          some (.inr σ2)
        else
          obi (if ((x3 >>> (x4 &&& 31)) &&& (1 : Int32)) = (1 : Int32) then
            grd (inb x4 12) (bnd (su σ2 (0, (tn x4)) 2 (0 : Int32)) (fun σ4 =>
            some σ4))
          else
            some σ2) (fun σ3 =>
          bnd (x4 + 1) (fun x5 =>
          some (.inl (x5, σ3))))) ((0 : Int32), σ)) (fun σ1 =>
        grd (inb a1 17) (bnd (su σ1 (27, 0) (tn a1) x1) (fun σ5 =>
        some ((1 : Int32), σ5)))))
      else
        some ((0 : Int32), σ)))))
    else
      some ((-2 : Int32), σ)
  else
    some ((-2 : Int32), σ)
set_option maxRecDepth 20000 in
set_option maxHeartbeats 4000000 in
theorem kX8_put (G : Gx) (d : Nat) (hdp : 5 ≤ d) (σ : St) (a1 : Int32) (a2 : Int32)  {v0 : Int32} {σ' : St} (h : fX8_put σ a1 a2 = some (v0, σ')) : MS G d yX8_put cX8_put 6 (some .int) [.ref (G.2.1 (8, 0)), .int a1, .int a2] σ (some (.int v0)) σ' := by
  refine MS_of (by decide) (Nat.le_of_ble_eq_true rfl) rfl (fun K hG hnL C hR hK => ?_) (by omega)
  subst hG
  show TW K 0 [(0, rv K (8, 0)), (1, .int a1), (2, .int a2)] [] σ
  unfold fX8_put at h
  refine tw_iload_n (i := 1) (z := 1) C dX8_put_0 rfl rfl ?_
  refine tw_callS (As := [.int a1]) (rest := []) C hR (kX8_isItem K.1 _ (by omega) σ a1  rfl) mi_X8_isItem st_X8_isItem ml_RX8_105 rfl rfl (Nat.le_of_ble_eq_true rfl) dX8_put_1 ?_
  show TW K 4 [(0, rv K (8, 0)), (1, .int a1), (2, .int a2)] [.int (b2i (fX8_isItem a1))] σ
  refine tw_if_eq (tgt := 14) C dX8_put_4 (by decide) (fun hc1 => ?_) (fun hc1 => ?_)
  · have ht1 := ite_f (b2i_z hc1) h
    refine tw_bipush (v := (-2)) C dX8_put_14 (by decide) ?_
    obtain ⟨rfl, rfl⟩ := pj2 (Option.some.inj ht1)
    exact tw_iret C hK rfl rfl dX8_put_16
  · have hf1 := ite_t (b2i_nz hc1) h
    refine tw_iload_n (i := 2) (z := 2) C dX8_put_7 rfl rfl ?_
    refine tw_callS (As := [.int a2]) (rest := []) C hR (kX8_isCode K.1 _ (by omega) σ a2  rfl) mi_X8_isCode st_X8_isCode ml_RX8_90 rfl rfl (Nat.le_of_ble_eq_true rfl) dX8_put_8 ?_
    show TW K 11 [(0, rv K (8, 0)), (1, .int a1), (2, .int a2)] [.int (b2i (fX8_isCode a2))] σ
    refine tw_if_ne (tgt := 17) C dX8_put_11 (by decide) (fun hc2 => ?_) (fun hc2 => ?_)
    · have ht2 := ite_t (b2i_nz hc2) hf1
      refine tw_aload_n (i := 0) (z := 0) (r := (8, 0)) C dX8_put_17 rfl rfl ?_
      refine tw_getR (g := 23) (z := 0) (j' := 0) C fl_RX8_11 rfl (wcells_mem (f := 8) (j := 0) (by decide) (by decide)) rfl rfl dX8_put_18 ?_
      refine tw_iload_n (i := 2) (z := 2) C dX8_put_21 rfl rfl ?_
      obtain ⟨hb3, eh3⟩ := grd_some ht2
      refine tw_aald (g := 1) C rfl 3 "ElevenCodes$Code" (fun _ => rfl) (by decide) (by decide) (wcells_mem (f := 23) (j := 0) (by decide) (by decide)) hb3 dX8_put_22 ?_
      refine tw_getR (g := 11) (z := 0) (j' := (tn a2)) C fl_RX8_108 rfl (wcells_mem (f := 1) (j := (tn a2)) (by decide) (inb_lt hb3)) rfl rfl dX8_put_23 ?_
      refine tw_iload_n (i := 1) (z := 1) C dX8_put_26 rfl rfl ?_
      obtain ⟨hb4, eh4⟩ := grd_some eh3
      refine tw_iald (r := (11, (tn a2))) C (ia_of rfl (inb_lt hb3)) hb4 dX8_put_27 ?_
      obtain ⟨x1, ex5, eh5⟩ := bnd_ex eh4
      refine tw_topi ex5.symm ?_
      refine tw_istore_n (lv' := [(0, rv K (8, 0)), (1, .int a1), (2, .int a2), (3, .int x1)]) C [1, 2, 3, 0] dX8_put_28 rfl (by rw [hnL]; decide) rfl ?_
      refine tw_aload_n (i := 0) (z := 0) (r := (8, 0)) C dX8_put_29 rfl rfl ?_
      refine tw_iload_n (i := 1) (z := 1) C dX8_put_30 rfl rfl ?_
      refine tw_iload_n (i := 3) (z := 3) C dX8_put_31 rfl rfl ?_
      obtain ⟨x2, hv6, eh6⟩ := obi_some eh5
      refine tw_callV (As := [.int a1, .int x1]) (rest := []) (r := (8, 0)) C hR (kX8_isCarried K.1 _ (by omega) σ a1 x1  hv6) mi_X8_isCarried is_X8_isCarried se_X8_isCarried ml_RX8_259 (wcells_mem (f := 8) (j := 0) (by decide) (by decide)) rfl rfl rfl rfl (Nat.le_of_ble_eq_true rfl) dX8_put_32 ?_
      show TW K 35 [(0, rv K (8, 0)), (1, .int a1), (2, .int a2), (3, .int x1)] [.int (b2i x2)] σ
      refine tw_if_ne (tgt := 40) C dX8_put_35 (by decide) (fun hc7 => ?_) (fun hc7 => ?_)
      · have ht7 := ite_t (b2i_nz hc7) eh6
        refine tw_aload_n (i := 0) (z := 0) (r := (8, 0)) C dX8_put_40 rfl rfl ?_
        refine tw_iload_n (i := 1) (z := 1) C dX8_put_41 rfl rfl ?_
        refine tw_iload_n (i := 3) (z := 3) C dX8_put_42 rfl rfl ?_
        obtain ⟨x3, hv8, eh8⟩ := obi_some ht7
        refine tw_callV (As := [.int a1, .int x1]) (rest := []) (r := (8, 0)) C hR (kX8_leaving K.1 _ (by omega) σ a1 x1  hv8) mi_X8_leaving is_X8_leaving se_X8_leaving ml_RX8_262 (wcells_mem (f := 8) (j := 0) (by decide) (by decide)) rfl rfl rfl rfl (Nat.le_of_ble_eq_true rfl) dX8_put_43 ?_
        show TW K 46 [(0, rv K (8, 0)), (1, .int a1), (2, .int a2), (3, .int x1)] [.int x3] σ
        refine tw_istore (lv' := [(0, rv K (8, 0)), (1, .int a1), (2, .int a2), (3, .int x1), (4, .int x3)]) C [1, 2, 3, 4, 0] dX8_put_46 (by rw [hnL]; decide) rfl ?_
        refine tw_iconst (v := 0) C dX8_put_48 (by decide) ?_
        refine tw_istore (lv' := [(0, rv K (8, 0)), (1, .int a1), (2, .int a2), (3, .int x1), (4, .int x3), (5, .int (0 : Int32))]) C [1, 2, 3, 4, 5, 0] dX8_put_49 (by rw [hnL]; decide) rfl ?_
        obtain ⟨σ1, hx9, hq9⟩ := obi_some eh8
        have hJ9 : TW K 88 [(0, rv K (8, 0)), (1, .int a1), (3, .int x1)] [] σ1 := by
          refine tw_aload_n (i := 0) (z := 0) (r := (8, 0)) C dX8_put_88 rfl rfl ?_
          refine tw_getR (g := 27) (z := 0) (j' := 0) C fl_RX8_42 rfl (wcells_mem (f := 8) (j := 0) (by decide) (by decide)) rfl rfl dX8_put_89 ?_
          refine tw_iload_n (i := 1) (z := 1) C dX8_put_92 rfl rfl ?_
          refine tw_iload_n (i := 3) (z := 2) C dX8_put_93 rfl rfl ?_
          obtain ⟨hb18, eh18⟩ := grd_some hq9
          obtain ⟨σ5, es19, eg19⟩ := bnd_ex eh18
          refine tw_iast (r := (27, 0)) C (wa_of rfl (by decide) (by decide)) hb18 dX8_put_94 ?_
          rw [es19]
          refine tw_iconst (v := 1) C dX8_put_95 (by decide) ?_
          obtain ⟨rfl, rfl⟩ := pj2 (Option.some.inj eg19)
          exact tw_iret C hK rfl rfl dX8_put_96
        refine tw_sub [0, 1, 3, 4, 5] rfl ?_
        refine lpF_ct (G := fun (q : Int32 × St) => match q with | (x4, σ2) => TW K 51 [(0, rv K (8, 0)), (1, .int a1), (3, .int x1), (4, .int x3), (5, .int x4)] [] σ2) ?_ hx9
        rintro ⟨x4, σ2⟩ w10 hx10 hk10
        show TW K 51 [(0, rv K (8, 0)), (1, .int a1), (3, .int x1), (4, .int x3), (5, .int x4)] [] σ2
        refine tw_iload (i := 5) (z := 4) C dX8_put_51 rfl ?_
        refine tw_aload_n (i := 0) (z := 0) (r := (8, 0)) C dX8_put_53 rfl rfl ?_
        refine tw_getI C fl_RX8_205 rfl (wcells_mem (f := 8) (j := 0) (by decide) (by decide)) rfl dX8_put_54 ?_
        refine tw_ic_ge (tgt := 88) C dX8_put_57 (by decide) (fun hc11 => ?_) (fun hc11 => ?_)
        · have ht11 := ite_t hc11 hx10
          refine tw_sub [0, 1, 2] rfl ?_
          have e12 := lp_x ht11 hk10
          obtain rfl := (Option.some.inj e12)
          exact hJ9
        · have hf11 := ite_f hc11 hx10
          refine tw_iload (i := 4) (z := 3) C dX8_put_60 rfl ?_
          refine tw_iload (i := 5) (z := 4) C dX8_put_62 rfl ?_
          refine tw_ishr C dX8_put_64 ?_
          refine tw_iconst (v := 1) C dX8_put_65 (by decide) ?_
          refine tw_iand C dX8_put_66 ?_
          refine tw_iconst (v := 1) C dX8_put_67 (by decide) ?_
          obtain ⟨σ3, hx13, hq13⟩ := obi_some hf11
          have hJ13 : TW K 82 [(0, rv K (8, 0)), (1, .int a1), (3, .int x1), (4, .int x3), (5, .int x4)] [] σ3 := by
            obtain ⟨x5, ex17, eh17⟩ := bnd_ex hq13
            refine tw_iinc (z := 4) (v := x5) (lv' := [(0, rv K (8, 0)), (1, .int a1), (3, .int x1), (4, .int x3), (5, .int x5)]) C [1, 2, 3, 4, 0] dX8_put_82 rfl ex17 (by rw [hnL]; decide) rfl ?_
            refine tw_goto (tgt := 51) C dX8_put_85 (by decide) ?_
            have hz := lp_c eh17 hk10
            exact hz
          refine tw_ic_ne (tgt := 82) C dX8_put_68 (by decide) (fun hc14 => ?_) (fun hc14 => ?_)
          · have ht14 := ite_f hc14 hx13
            obtain rfl := (Option.some.inj ht14)
            exact hJ13
          · have hf14 := ite_t hc14 hx13
            refine tw_aload_n (i := 0) (z := 0) (r := (8, 0)) C dX8_put_71 rfl rfl ?_
            refine tw_getR (g := 25) (z := 0) (j' := 0) C fl_RX8_23 rfl (wcells_mem (f := 8) (j := 0) (by decide) (by decide)) rfl rfl dX8_put_72 ?_
            refine tw_iload (i := 5) (z := 4) C dX8_put_75 rfl ?_
            obtain ⟨hb15, eh15⟩ := grd_some hf14
            refine tw_aald (g := 0) C rfl 5 "ElevenCodes$Club" (fun _ => rfl) (by decide) (by decide) (wcells_mem (f := 25) (j := 0) (by decide) (by decide)) hb15 dX8_put_77 ?_
            refine tw_iconst (v := 0) C dX8_put_78 (by decide) ?_
            obtain ⟨σ4, es16, eh16⟩ := bnd_ex eh15
            refine tw_put C fl_RX8_244 (fun q hq => by cases hq; rfl) rfl (wcells_mem (f := 0) (j := (tn x4)) (by decide) (inb_lt hb15)) rfl rfl rfl dX8_put_79 ?_
            rw [es16]
            obtain rfl := (Option.some.inj eh16)
            exact hJ13
      · have hf7 := ite_f (b2i_z hc7) eh6
        refine tw_iconst (v := 0) C dX8_put_38 (by decide) ?_
        obtain ⟨rfl, rfl⟩ := pj2 (Option.some.inj hf7)
        exact tw_iret C hK rfl rfl dX8_put_39
    · have hf2 := ite_f (b2i_z hc2) hf1
      refine tw_bipush (v := (-2)) C dX8_put_14 (by decide) ?_
      obtain ⟨rfl, rfl⟩ := pj2 (Option.some.inj hf2)
      exact tw_iret C hK rfl rfl dX8_put_16

set_option maxRecDepth 20000 in
def fX8_staying (σ : St)  : Option (Int32) :=
  lpF (fun (q1 : Int32 × Int32) => match q1 with
  | (x1, x2) =>
  if (σ (8, 0) 11) ≤ x2 then
    some (.inr x1)
  else
    grd (inb x2 12) (
    obi (if (σ (0, (tn x2)) 2) = 0 then
      some x1
    else
      grd (inb x2 12) (
      obi (fX8_itemsOf σ x2) (fun x4 =>
      obi (fX8_unlike σ (28, 0) x4) (fun x5 =>
      if ((σ (0, (tn x2)) 1) &&& x5) = 0 then
        bnd (x1 + 1) (fun x6 =>
        some x6)
      else
        some x1)))) (fun x3 =>
    bnd (x2 + 1) (fun x7 =>
    some (.inl (x3, x7)))))) ((0 : Int32), (0 : Int32))
set_option maxRecDepth 20000 in
set_option maxHeartbeats 4000000 in
theorem kX8_staying (G : Gx) (d : Nat) (hdp : 2 ≤ d) (σ : St)   {v0 : Int32} (h : fX8_staying σ  = some v0) : MS G d yX8_staying cX8_staying 3 (some .int) [.ref (G.2.1 (8, 0))] σ (some (.int v0)) σ := by
  refine MS_of (by decide) (Nat.le_of_ble_eq_true rfl) rfl (fun K hG hnL C hR hK => ?_) (by omega)
  subst hG
  show TW K 0 [(0, rv K (8, 0))] [] σ
  unfold fX8_staying at h
  refine tw_iconst (v := 0) C dX8_staying_0 (by decide) ?_
  refine tw_istore_n (lv' := [(0, rv K (8, 0)), (1, .int (0 : Int32))]) C [1, 0] dX8_staying_1 rfl (by rw [hnL]; decide) rfl ?_
  refine tw_iconst (v := 0) C dX8_staying_2 (by decide) ?_
  refine tw_istore_n (lv' := [(0, rv K (8, 0)), (1, .int (0 : Int32)), (2, .int (0 : Int32))]) C [1, 2, 0] dX8_staying_3 rfl (by rw [hnL]; decide) rfl ?_
  refine lpF_ct (G := fun (q : Int32 × Int32) => match q with | (x1, x2) => TW K 4 [(0, rv K (8, 0)), (1, .int x1), (2, .int x2)] [] σ) ?_ h
  rintro ⟨x1, x2⟩ w1 hx1 hk1
  show TW K 4 [(0, rv K (8, 0)), (1, .int x1), (2, .int x2)] [] σ
  refine tw_iload_n (i := 2) (z := 2) C dX8_staying_4 rfl rfl ?_
  refine tw_aload_n (i := 0) (z := 0) (r := (8, 0)) C dX8_staying_5 rfl rfl ?_
  refine tw_getI C fl_RX8_205 rfl (wcells_mem (f := 8) (j := 0) (by decide) (by decide)) rfl dX8_staying_6 ?_
  refine tw_ic_ge (tgt := 58) C dX8_staying_9 (by decide) (fun hc2 => ?_) (fun hc2 => ?_)
  · have ht2 := ite_t hc2 hx1
    refine tw_iload_n (i := 1) (z := 1) C dX8_staying_58 rfl rfl ?_
    have e3 := lp_x ht2 hk1
    obtain rfl := (Option.some.inj e3)
    exact tw_iret C hK rfl rfl dX8_staying_59
  · have hf2 := ite_f hc2 hx1
    refine tw_aload_n (i := 0) (z := 0) (r := (8, 0)) C dX8_staying_12 rfl rfl ?_
    refine tw_getR (g := 25) (z := 0) (j' := 0) C fl_RX8_23 rfl (wcells_mem (f := 8) (j := 0) (by decide) (by decide)) rfl rfl dX8_staying_13 ?_
    refine tw_iload_n (i := 2) (z := 2) C dX8_staying_16 rfl rfl ?_
    obtain ⟨hb4, eh4⟩ := grd_some hf2
    refine tw_aald (g := 0) C rfl 5 "ElevenCodes$Club" (fun _ => rfl) (by decide) (by decide) (wcells_mem (f := 25) (j := 0) (by decide) (by decide)) hb4 dX8_staying_17 ?_
    refine tw_getI C fl_RX8_244 rfl (wcells_mem (f := 0) (j := (tn x2)) (by decide) (inb_lt hb4)) rfl dX8_staying_18 ?_
    obtain ⟨x3, hx5, hq5⟩ := obi_some eh4
    have hJ5 : TW K 52 [(0, rv K (8, 0)), (1, .int x3), (2, .int x2)] [] σ := by
      obtain ⟨x7, ex12, eh12⟩ := bnd_ex hq5
      refine tw_iinc (z := 2) (v := x7) (lv' := [(0, rv K (8, 0)), (1, .int x3), (2, .int x7)]) C [1, 2, 0] dX8_staying_52 rfl ex12 (by rw [hnL]; decide) rfl ?_
      refine tw_goto (tgt := 4) C dX8_staying_55 (by decide) ?_
      have hz := lp_c eh12 hk1
      exact hz
    refine tw_if_eq (tgt := 52) C dX8_staying_21 (by decide) (fun hc6 => ?_) (fun hc6 => ?_)
    · have ht6 := ite_t hc6 hx5
      obtain rfl := (Option.some.inj ht6)
      exact hJ5
    · have hf6 := ite_f hc6 hx5
      refine tw_aload_n (i := 0) (z := 0) (r := (8, 0)) C dX8_staying_24 rfl rfl ?_
      refine tw_getR (g := 25) (z := 0) (j' := 0) C fl_RX8_23 rfl (wcells_mem (f := 8) (j := 0) (by decide) (by decide)) rfl rfl dX8_staying_25 ?_
      refine tw_iload_n (i := 2) (z := 2) C dX8_staying_28 rfl rfl ?_
      obtain ⟨hb7, eh7⟩ := grd_some hf6
      refine tw_aald (g := 0) C rfl 5 "ElevenCodes$Club" (fun _ => rfl) (by decide) (by decide) (wcells_mem (f := 25) (j := 0) (by decide) (by decide)) hb7 dX8_staying_29 ?_
      refine tw_getI C fl_RX8_211 rfl (wcells_mem (f := 0) (j := (tn x2)) (by decide) (inb_lt hb7)) rfl dX8_staying_30 ?_
      refine tw_aload_n (i := 0) (z := 0) (r := (8, 0)) C dX8_staying_33 rfl rfl ?_
      refine tw_getR (g := 28) (z := 0) (j' := 0) C fl_RX8_45 rfl (wcells_mem (f := 8) (j := 0) (by decide) (by decide)) rfl rfl dX8_staying_34 ?_
      refine tw_aload_n (i := 0) (z := 0) (r := (8, 0)) C dX8_staying_37 rfl rfl ?_
      refine tw_iload_n (i := 2) (z := 2) C dX8_staying_38 rfl rfl ?_
      obtain ⟨x4, hv8, eh8⟩ := obi_some eh7
      refine tw_callV (As := [.int x2]) (rest := [rv K (28, 0), .int (σ (0, (tn x2)) 1)]) (r := (8, 0)) C hR (kX8_itemsOf K.1 _ (by omega) σ x2  hv8) mi_X8_itemsOf is_X8_itemsOf se_X8_itemsOf ml_RX8_236 (wcells_mem (f := 8) (j := 0) (by decide) (by decide)) rfl rfl rfl rfl (Nat.le_of_ble_eq_true rfl) dX8_staying_39 ?_
      show TW K 42 [(0, rv K (8, 0)), (1, .int x1), (2, .int x2)] [rv K x4, rv K (28, 0), .int (σ (0, (tn x2)) 1)] σ
      obtain ⟨x5, hv9, eh9⟩ := obi_some eh8
      refine tw_callS (As := [rv K (28, 0), rv K x4]) (rest := [.int (σ (0, (tn x2)) 1)]) C hR (kX8_unlike K.1 _ (by omega) σ (28, 0) x4  hv9) mi_X8_unlike st_X8_unlike ml_RX8_120 rfl rfl (Nat.le_of_ble_eq_true rfl) dX8_staying_42 ?_
      show TW K 45 [(0, rv K (8, 0)), (1, .int x1), (2, .int x2)] [.int x5, .int (σ (0, (tn x2)) 1)] σ
      refine tw_iand C dX8_staying_45 ?_
      refine tw_if_ne (tgt := 52) C dX8_staying_46 (by decide) (fun hc10 => ?_) (fun hc10 => ?_)
      · have ht10 := ite_f hc10 eh9
        obtain rfl := (Option.some.inj ht10)
        exact hJ5
      · have hf10 := ite_t hc10 eh9
        obtain ⟨x6, ex11, eh11⟩ := bnd_ex hf10
        refine tw_iinc (z := 1) (v := x6) (lv' := [(0, rv K (8, 0)), (1, .int x6), (2, .int x2)]) C [1, 0, 2] dX8_staying_49 rfl ex11 (by rw [hnL]; decide) rfl ?_
        obtain rfl := (Option.some.inj eh11)
        exact hJ5

set_option maxRecDepth 20000 in
def fX8_hurtInAll (σ : St)  : Option (Int32 × St) :=
  lpF (fun (q1 : Int32 × Int32 × St) => match q1 with
  | (x1, x2, σ1) =>
  if (σ1 (8, 0) 10) ≤ x2 then
    some (.inr ((x1, σ1)))
  else
    grd (inb x2 12) (
    obi (fX3_playUnder σ1 (tn x2) (28, 0) 0) (fun σ2 =>
    bnd (x1 + (σ2 (4, 0) 8)) (fun x3 =>
    bnd (x2 + 1) (fun x4 =>
    some (.inl (x3, x4, σ2))))))) ((0 : Int32), (0 : Int32), σ)
set_option maxRecDepth 20000 in
set_option maxHeartbeats 4000000 in
theorem kX8_hurtInAll (G : Gx) (d : Nat) (hdp : 5 ≤ d) (σ : St)   {v0 : Int32} {σ' : St} (h : fX8_hurtInAll σ  = some (v0, σ')) : MS G d yX8_hurtInAll cX8_hurtInAll 3 (some .int) [.ref (G.2.1 (8, 0))] σ (some (.int v0)) σ' := by
  refine MS_of (by decide) (Nat.le_of_ble_eq_true rfl) rfl (fun K hG hnL C hR hK => ?_) (by omega)
  subst hG
  show TW K 0 [(0, rv K (8, 0))] [] σ
  unfold fX8_hurtInAll at h
  refine tw_iconst (v := 0) C dX8_hurtInAll_0 (by decide) ?_
  refine tw_istore_n (lv' := [(0, rv K (8, 0)), (1, .int (0 : Int32))]) C [1, 0] dX8_hurtInAll_1 rfl (by rw [hnL]; decide) rfl ?_
  refine tw_iconst (v := 0) C dX8_hurtInAll_2 (by decide) ?_
  refine tw_istore_n (lv' := [(0, rv K (8, 0)), (1, .int (0 : Int32)), (2, .int (0 : Int32))]) C [1, 2, 0] dX8_hurtInAll_3 rfl (by rw [hnL]; decide) rfl ?_
  refine lpF_ct (G := fun (q : Int32 × Int32 × St) => match q with | (x1, x2, σ1) => TW K 4 [(0, rv K (8, 0)), (1, .int x1), (2, .int x2)] [] σ1) ?_ h
  rintro ⟨x1, x2, σ1⟩ w1 hx1 hk1
  show TW K 4 [(0, rv K (8, 0)), (1, .int x1), (2, .int x2)] [] σ1
  refine tw_iload_n (i := 2) (z := 2) C dX8_hurtInAll_4 rfl rfl ?_
  refine tw_aload_n (i := 0) (z := 0) (r := (8, 0)) C dX8_hurtInAll_5 rfl rfl ?_
  refine tw_getI C fl_RX8_137 rfl (wcells_mem (f := 8) (j := 0) (by decide) (by decide)) rfl dX8_hurtInAll_6 ?_
  refine tw_ic_ge (tgt := 45) C dX8_hurtInAll_9 (by decide) (fun hc2 => ?_) (fun hc2 => ?_)
  · have ht2 := ite_t hc2 hx1
    refine tw_iload_n (i := 1) (z := 1) C dX8_hurtInAll_45 rfl rfl ?_
    have e3 := lp_x ht2 hk1
    obtain ⟨rfl, rfl⟩ := pj2 (Option.some.inj e3)
    exact tw_iret C hK rfl rfl dX8_hurtInAll_46
  · have hf2 := ite_f hc2 hx1
    refine tw_aload_n (i := 0) (z := 0) (r := (8, 0)) C dX8_hurtInAll_12 rfl rfl ?_
    refine tw_getR (g := 24) (z := 0) (j' := 0) C fl_RX8_17 rfl (wcells_mem (f := 8) (j := 0) (by decide) (by decide)) rfl rfl dX8_hurtInAll_13 ?_
    refine tw_iload_n (i := 2) (z := 2) C dX8_hurtInAll_16 rfl rfl ?_
    obtain ⟨hb4, eh4⟩ := grd_some hf2
    refine tw_aald (g := 3) C rfl 4 "ElevenCodes$Match" (fun _ => rfl) (by decide) (by decide) (wcells_mem (f := 24) (j := 0) (by decide) (by decide)) hb4 dX8_hurtInAll_17 ?_
    refine tw_aload_n (i := 0) (z := 0) (r := (8, 0)) C dX8_hurtInAll_18 rfl rfl ?_
    refine tw_getR (g := 28) (z := 0) (j' := 0) C fl_RX8_45 rfl (wcells_mem (f := 8) (j := 0) (by decide) (by decide)) rfl rfl dX8_hurtInAll_19 ?_
    refine tw_aload_n (i := 0) (z := 0) (r := (8, 0)) C dX8_hurtInAll_22 rfl rfl ?_
    refine tw_getR (g := 4) (z := 0) (j' := 0) C fl_RX8_51 rfl (wcells_mem (f := 8) (j := 0) (by decide) (by decide)) rfl rfl dX8_hurtInAll_23 ?_
    obtain ⟨σ2, hv5, eh5⟩ := obi_some eh4
    refine tw_callV (As := [rv K (28, 0), rv K (4, 0)]) (rest := []) (r := (3, (tn x2))) C hR (kX3_playUnder K.1 _ (by omega) _ (tn x2) (28, 0) 0 (inb_lt hb4) (by decide) hv5) mi_X3_playUnder is_X3_playUnder se_X3_playUnder ml_RX8_161 (wcells_mem (f := 3) (j := (tn x2)) (by decide) (inb_lt hb4)) rfl rfl rfl rfl (Nat.le_of_ble_eq_true rfl) dX8_hurtInAll_26 ?_
    show TW K 29 [(0, rv K (8, 0)), (1, .int x1), (2, .int x2)] [] σ2
    refine tw_iload_n (i := 1) (z := 1) C dX8_hurtInAll_29 rfl rfl ?_
    refine tw_aload_n (i := 0) (z := 0) (r := (8, 0)) C dX8_hurtInAll_30 rfl rfl ?_
    refine tw_getR (g := 4) (z := 0) (j' := 0) C fl_RX8_51 rfl (wcells_mem (f := 8) (j := 0) (by decide) (by decide)) rfl rfl dX8_hurtInAll_31 ?_
    refine tw_getI C fl_RX8_366 rfl (wcells_mem (f := 4) (j := 0) (by decide) (by decide)) rfl dX8_hurtInAll_34 ?_
    refine tw_iadd C dX8_hurtInAll_37 ?_
    obtain ⟨x3, ex6, eh6⟩ := bnd_ex eh5
    refine tw_topi ex6.symm ?_
    refine tw_istore_n (lv' := [(0, rv K (8, 0)), (1, .int x3), (2, .int x2)]) C [1, 0, 2] dX8_hurtInAll_38 rfl (by rw [hnL]; decide) rfl ?_
    obtain ⟨x4, ex7, eh7⟩ := bnd_ex eh6
    refine tw_iinc (z := 2) (v := x4) (lv' := [(0, rv K (8, 0)), (1, .int x3), (2, .int x4)]) C [1, 2, 0] dX8_hurtInAll_39 rfl ex7 (by rw [hnL]; decide) rfl ?_
    refine tw_goto (tgt := 4) C dX8_hurtInAll_42 (by decide) ?_
    have hz := lp_c eh7 hk1
    exact hz

set_option maxRecDepth 20000 in
def fX8_seekLines (σ : St) (a1 : Int32) (r2 : Rf) : Option (St) :=
  obi (fX8_unlike σ (27, 0) r2) (fun x1 =>
  bnd (a1 &&& x1) (fun x2 =>
  bnd ((1 : Int32) <<< ((fJ6_bitCount_0f7a4 x2) &&& 31)) (fun x3 =>
  bnd (fX2_clear σ) (fun σ1 =>
  lpF (fun (q5 : Int32 × Int32 × St) => match q5 with
  | (x4, x5, σ2) =>
  if x3 ≤ x5 then
    some (.inr σ2)
  else
    obi (fX8_mix σ2 (27, 0) r2 x4) (fun σ3 =>
    obi (fX8_staying σ3) (fun x6 =>
    obi (if x6 < (σ3 (2, 0) 1) then
      some σ3
    else
      obi (fX8_hurtInAll σ3) (fun (x7, σ5) =>
      bnd (fX2_offer σ5 x4 x6 x7) (fun σ6 =>
      some σ6))) (fun σ4 =>
    bnd ((x4 - x2) &&& x2) (fun x8 =>
    bnd (x5 + 1) (fun x9 =>
    some (.inl (x8, x9, σ4)))))))) ((0 : Int32), (0 : Int32), σ1)))))
set_option maxRecDepth 20000 in
set_option maxHeartbeats 4000000 in
theorem kX8_seekLines (G : Gx) (d : Nat) (hdp : 6 ≤ d) (σ : St) (a1 : Int32) (r2 : Rf)  {σ' : St} (h : fX8_seekLines σ a1 r2 = some σ') : MS G d yX8_seekLines cX8_seekLines 8 none [.ref (G.2.1 (8, 0)), .int a1, .ref (G.2.1 r2)] σ none σ' := by
  refine MS_of (by decide) (Nat.le_of_ble_eq_true rfl) rfl (fun K hG hnL C hR hK => ?_) (by omega)
  subst hG
  show TW K 0 [(0, rv K (8, 0)), (1, .int a1), (2, rv K r2)] [] σ
  unfold fX8_seekLines at h
  refine tw_iload_n (i := 1) (z := 1) C dX8_seekLines_0 rfl rfl ?_
  refine tw_aload_n (i := 0) (z := 0) (r := (8, 0)) C dX8_seekLines_1 rfl rfl ?_
  refine tw_getR (g := 27) (z := 0) (j' := 0) C fl_RX8_42 rfl (wcells_mem (f := 8) (j := 0) (by decide) (by decide)) rfl rfl dX8_seekLines_2 ?_
  refine tw_aload_n (i := 2) (z := 2) (r := r2) C dX8_seekLines_5 rfl rfl ?_
  obtain ⟨x1, hv1, eh1⟩ := obi_some h
  refine tw_callS (As := [rv K (27, 0), rv K r2]) (rest := [.int a1]) C hR (kX8_unlike K.1 _ (by omega) σ (27, 0) r2  hv1) mi_X8_unlike st_X8_unlike ml_RX8_120 rfl rfl (Nat.le_of_ble_eq_true rfl) dX8_seekLines_6 ?_
  show TW K 9 [(0, rv K (8, 0)), (1, .int a1), (2, rv K r2)] [.int x1, .int a1] σ
  refine tw_iand C dX8_seekLines_9 ?_
  obtain ⟨x2, ex2, eh2⟩ := bnd_ex eh1
  refine tw_topi ex2.symm ?_
  refine tw_istore_n (lv' := [(0, rv K (8, 0)), (1, .int a1), (2, rv K r2), (3, .int x2)]) C [1, 2, 3, 0] dX8_seekLines_10 rfl (by rw [hnL]; decide) rfl ?_
  refine tw_iconst (v := 1) C dX8_seekLines_11 (by decide) ?_
  refine tw_iload_n (i := 3) (z := 3) C dX8_seekLines_12 rfl rfl ?_
  refine tw_callS (As := [.int x2]) (rest := [.int (1 : Int32)]) C hR (kJ6_bitCount_0f7a4 K.1 _ (by omega) σ x2  rfl) mi_J6_bitCount_0f7a4 st_J6_bitCount_0f7a4 ml_RX8_265 rfl rfl (Nat.le_of_ble_eq_true rfl) dX8_seekLines_13 ?_
  show TW K 16 [(0, rv K (8, 0)), (1, .int a1), (2, rv K r2), (3, .int x2)] [.int (fJ6_bitCount_0f7a4 x2), .int (1 : Int32)] σ
  refine tw_ishl C dX8_seekLines_16 ?_
  obtain ⟨x3, ex3, eh3⟩ := bnd_ex eh2
  refine tw_topi ex3.symm ?_
  refine tw_istore (lv' := [(0, rv K (8, 0)), (1, .int a1), (2, rv K r2), (3, .int x2), (4, .int x3)]) C [1, 2, 3, 4, 0] dX8_seekLines_17 (by rw [hnL]; decide) rfl ?_
  refine tw_aload_n (i := 0) (z := 0) (r := (8, 0)) C dX8_seekLines_19 rfl rfl ?_
  refine tw_getR (g := 2) (z := 0) (j' := 0) C fl_RX8_65 rfl (wcells_mem (f := 8) (j := 0) (by decide) (by decide)) rfl rfl dX8_seekLines_20 ?_
  obtain ⟨σ1, hv4, eh4⟩ := bnd_ex eh3
  refine tw_callV (As := []) (rest := []) (r := (2, 0)) C hR (kX2_clear K.1 _ (by omega) _   hv4) mi_X2_clear is_X2_clear se_X2_clear ml_RX8_353 (wcells_mem (f := 2) (j := 0) (by decide) (by decide)) rfl rfl rfl rfl (Nat.le_of_ble_eq_true rfl) dX8_seekLines_23 ?_
  show TW K 26 [(0, rv K (8, 0)), (1, .int a1), (2, rv K r2), (3, .int x2), (4, .int x3)] [] σ1
  refine tw_iconst (v := 0) C dX8_seekLines_26 (by decide) ?_
  refine tw_istore (lv' := [(0, rv K (8, 0)), (1, .int a1), (2, rv K r2), (3, .int x2), (4, .int x3), (5, .int (0 : Int32))]) C [1, 2, 3, 4, 5, 0] dX8_seekLines_27 (by rw [hnL]; decide) rfl ?_
  refine tw_iconst (v := 0) C dX8_seekLines_29 (by decide) ?_
  refine tw_istore (lv' := [(0, rv K (8, 0)), (1, .int a1), (2, rv K r2), (3, .int x2), (4, .int x3), (5, .int (0 : Int32)), (6, .int (0 : Int32))]) C [1, 2, 3, 4, 5, 6, 0] dX8_seekLines_30 (by rw [hnL]; decide) rfl ?_
  refine tw_sub [0, 2, 3, 4, 5, 6] rfl ?_
  refine lpF_ct (G := fun (q : Int32 × Int32 × St) => match q with | (x4, x5, σ2) => TW K 32 [(0, rv K (8, 0)), (2, rv K r2), (3, .int x2), (4, .int x3), (5, .int x4), (6, .int x5)] [] σ2) ?_ eh4
  rintro ⟨x4, x5, σ2⟩ w5 hx5 hk5
  show TW K 32 [(0, rv K (8, 0)), (2, rv K r2), (3, .int x2), (4, .int x3), (5, .int x4), (6, .int x5)] [] σ2
  refine tw_iload (i := 6) (z := 5) C dX8_seekLines_32 rfl ?_
  refine tw_iload (i := 4) (z := 3) C dX8_seekLines_34 rfl ?_
  refine tw_ic_ge (tgt := 97) C dX8_seekLines_36 (by decide) (fun hc6 => ?_) (fun hc6 => ?_)
  · have ht6 := ite_t hc6 hx5
    have e7 := lp_x ht6 hk5
    obtain rfl := (Option.some.inj e7)
    exact tw_vret C hK rfl rfl dX8_seekLines_97
  · have hf6 := ite_f hc6 hx5
    refine tw_aload_n (i := 0) (z := 0) (r := (8, 0)) C dX8_seekLines_39 rfl rfl ?_
    refine tw_aload_n (i := 0) (z := 0) (r := (8, 0)) C dX8_seekLines_40 rfl rfl ?_
    refine tw_getR (g := 27) (z := 0) (j' := 0) C fl_RX8_42 rfl (wcells_mem (f := 8) (j := 0) (by decide) (by decide)) rfl rfl dX8_seekLines_41 ?_
    refine tw_aload_n (i := 2) (z := 1) (r := r2) C dX8_seekLines_44 rfl rfl ?_
    refine tw_iload (i := 5) (z := 4) C dX8_seekLines_45 rfl ?_
    obtain ⟨σ3, hv8, eh8⟩ := obi_some hf6
    refine tw_callV (As := [rv K (27, 0), rv K r2, .int x4]) (rest := []) (r := (8, 0)) C hR (kX8_mix K.1 _ (by omega) _ (27, 0) r2 x4  hv8) mi_X8_mix is_X8_mix se_X8_mix ml_RX8_157 (wcells_mem (f := 8) (j := 0) (by decide) (by decide)) rfl rfl rfl rfl (Nat.le_of_ble_eq_true rfl) dX8_seekLines_47 ?_
    show TW K 50 [(0, rv K (8, 0)), (2, rv K r2), (3, .int x2), (4, .int x3), (5, .int x4), (6, .int x5)] [] σ3
    refine tw_aload_n (i := 0) (z := 0) (r := (8, 0)) C dX8_seekLines_50 rfl rfl ?_
    obtain ⟨x6, hv9, eh9⟩ := obi_some eh8
    refine tw_callV (As := []) (rest := []) (r := (8, 0)) C hR (kX8_staying K.1 _ (by omega) σ3   hv9) mi_X8_staying is_X8_staying se_X8_staying ml_RX8_356 (wcells_mem (f := 8) (j := 0) (by decide) (by decide)) rfl rfl rfl rfl (Nat.le_of_ble_eq_true rfl) dX8_seekLines_51 ?_
    show TW K 54 [(0, rv K (8, 0)), (2, rv K r2), (3, .int x2), (4, .int x3), (5, .int x4), (6, .int x5)] [.int x6] σ3
    refine tw_istore (lv' := [(0, rv K (8, 0)), (2, rv K r2), (3, .int x2), (4, .int x3), (5, .int x4), (6, .int x5), (7, .int x6)]) C [1, 2, 3, 4, 5, 6, 0] dX8_seekLines_54 (by rw [hnL]; decide) rfl ?_
    refine tw_iload (i := 7) (z := 6) C dX8_seekLines_56 rfl ?_
    refine tw_aload_n (i := 0) (z := 0) (r := (8, 0)) C dX8_seekLines_58 rfl rfl ?_
    refine tw_getR (g := 2) (z := 0) (j' := 0) C fl_RX8_65 rfl (wcells_mem (f := 8) (j := 0) (by decide) (by decide)) rfl rfl dX8_seekLines_59 ?_
    refine tw_getI C fl_RX8_277 rfl (wcells_mem (f := 2) (j := 0) (by decide) (by decide)) rfl dX8_seekLines_62 ?_
    obtain ⟨σ4, hx10, hq10⟩ := obi_some eh9
    have hJ10 : TW K 83 [(0, rv K (8, 0)), (2, rv K r2), (3, .int x2), (4, .int x3), (5, .int x4), (6, .int x5)] [] σ4 := by
      refine tw_iload (i := 5) (z := 4) C dX8_seekLines_83 rfl ?_
      refine tw_iload_n (i := 3) (z := 2) C dX8_seekLines_85 rfl rfl ?_
      refine tw_isub C dX8_seekLines_86 ?_
      refine tw_iload_n (i := 3) (z := 2) C dX8_seekLines_87 rfl rfl ?_
      refine tw_iand C dX8_seekLines_88 ?_
      obtain ⟨x8, ex14, eh14⟩ := bnd_ex hq10
      refine tw_topi ex14.symm ?_
      refine tw_istore (lv' := [(0, rv K (8, 0)), (2, rv K r2), (3, .int x2), (4, .int x3), (5, .int x8), (6, .int x5)]) C [1, 2, 3, 4, 0, 5] dX8_seekLines_89 (by rw [hnL]; decide) rfl ?_
      obtain ⟨x9, ex15, eh15⟩ := bnd_ex eh14
      refine tw_iinc (z := 5) (v := x9) (lv' := [(0, rv K (8, 0)), (2, rv K r2), (3, .int x2), (4, .int x3), (5, .int x8), (6, .int x9)]) C [1, 2, 3, 4, 5, 0] dX8_seekLines_91 rfl ex15 (by rw [hnL]; decide) rfl ?_
      refine tw_goto (tgt := 32) C dX8_seekLines_94 (by decide) ?_
      have hz := lp_c eh15 hk5
      exact hz
    refine tw_ic_lt (tgt := 83) C dX8_seekLines_65 (by decide) (fun hc11 => ?_) (fun hc11 => ?_)
    · have ht11 := ite_t hc11 hx10
      refine tw_sub [0, 1, 2, 3, 4, 5] rfl ?_
      obtain rfl := (Option.some.inj ht11)
      exact hJ10
    · have hf11 := ite_f hc11 hx10
      refine tw_aload_n (i := 0) (z := 0) (r := (8, 0)) C dX8_seekLines_68 rfl rfl ?_
      refine tw_getR (g := 2) (z := 0) (j' := 0) C fl_RX8_65 rfl (wcells_mem (f := 8) (j := 0) (by decide) (by decide)) rfl rfl dX8_seekLines_69 ?_
      refine tw_iload (i := 5) (z := 4) C dX8_seekLines_72 rfl ?_
      refine tw_iload (i := 7) (z := 6) C dX8_seekLines_74 rfl ?_
      refine tw_aload_n (i := 0) (z := 0) (r := (8, 0)) C dX8_seekLines_76 rfl rfl ?_
      obtain ⟨⟨x7, σ5⟩, hv12, eh12⟩ := obi_some hf11
      refine tw_callV (As := []) (rest := [.int x6, .int x4, rv K (2, 0)]) (r := (8, 0)) C hR (kX8_hurtInAll K.1 _ (by omega) _   hv12) mi_X8_hurtInAll is_X8_hurtInAll se_X8_hurtInAll ml_RX8_359 (wcells_mem (f := 8) (j := 0) (by decide) (by decide)) rfl rfl rfl rfl (Nat.le_of_ble_eq_true rfl) dX8_seekLines_77 ?_
      show TW K 80 [(0, rv K (8, 0)), (2, rv K r2), (3, .int x2), (4, .int x3), (5, .int x4), (6, .int x5), (7, .int x6)] [.int x7, .int x6, .int x4, rv K (2, 0)] σ5
      obtain ⟨σ6, hv13, eh13⟩ := bnd_ex eh12
      refine tw_callV (As := [.int x4, .int x6, .int x7]) (rest := []) (r := (2, 0)) C hR (kX2_offer K.1 _ (by omega) _ x4 x6 x7  hv13) mi_X2_offer is_X2_offer se_X2_offer ml_RX8_362 (wcells_mem (f := 2) (j := 0) (by decide) (by decide)) rfl rfl rfl rfl (Nat.le_of_ble_eq_true rfl) dX8_seekLines_80 ?_
      show TW K 83 [(0, rv K (8, 0)), (2, rv K r2), (3, .int x2), (4, .int x3), (5, .int x4), (6, .int x5), (7, .int x6)] [] σ6
      refine tw_sub [0, 1, 2, 3, 4, 5] rfl ?_
      obtain rfl := (Option.some.inj eh13)
      exact hJ10

set_option maxRecDepth 20000 in
def fX8_best (σ : St) (a1 : Int32) (a2 : Int32) (a3 : Int32) : Option (Int32 × St) :=
  if (fX8_isItemSet a1) = true then
    if (9 : Int32) < (fJ6_bitCount_0f7a4 a1) then
      some ((-2 : Int32), σ)
    else
      if (fX8_isCode a2) = true then
        if a3 < 0 then
          some ((-2 : Int32), σ)
        else
          if a3 ≤ (2 : Int32) then
            grd (inb a2 11) (
            obi (fX8_seekLines σ a1 (11, (tn a2))) (fun σ1 =>
            if a3 = 0 then
              some (σ1 (2, 0) 0, σ1)
            else
              if a3 = (1 : Int32) then
                some (σ1 (2, 0) 1, σ1)
              else
                some (σ1 (2, 0) 2, σ1)))
          else
            some ((-2 : Int32), σ)
      else
        some ((-2 : Int32), σ)
  else
    some ((-2 : Int32), σ)
set_option maxRecDepth 20000 in
set_option maxHeartbeats 4000000 in
theorem kX8_best (G : Gx) (d : Nat) (hdp : 7 ≤ d) (σ : St) (a1 : Int32) (a2 : Int32) (a3 : Int32)  {v0 : Int32} {σ' : St} (h : fX8_best σ a1 a2 a3 = some (v0, σ')) : MS G d yX8_best cX8_best 4 (some .int) [.ref (G.2.1 (8, 0)), .int a1, .int a2, .int a3] σ (some (.int v0)) σ' := by
  refine MS_of (by decide) (Nat.le_of_ble_eq_true rfl) rfl (fun K hG hnL C hR hK => ?_) (by omega)
  subst hG
  show TW K 0 [(0, rv K (8, 0)), (1, .int a1), (2, .int a2), (3, .int a3)] [] σ
  unfold fX8_best at h
  refine tw_iload_n (i := 1) (z := 1) C dX8_best_0 rfl rfl ?_
  refine tw_callS (As := [.int a1]) (rest := []) C hR (kX8_isItemSet K.1 _ (by omega) σ a1  rfl) mi_X8_isItemSet st_X8_isItemSet ml_RX8_151 rfl rfl (Nat.le_of_ble_eq_true rfl) dX8_best_1 ?_
  show TW K 4 [(0, rv K (8, 0)), (1, .int a1), (2, .int a2), (3, .int a3)] [.int (b2i (fX8_isItemSet a1))] σ
  refine tw_if_eq (tgt := 32) C dX8_best_4 (by decide) (fun hc1 => ?_) (fun hc1 => ?_)
  · have ht1 := ite_f (b2i_z hc1) h
    refine tw_bipush (v := (-2)) C dX8_best_32 (by decide) ?_
    obtain ⟨rfl, rfl⟩ := pj2 (Option.some.inj ht1)
    exact tw_iret C hK rfl rfl dX8_best_34
  · have hf1 := ite_t (b2i_nz hc1) h
    refine tw_iload_n (i := 1) (z := 1) C dX8_best_7 rfl rfl ?_
    refine tw_callS (As := [.int a1]) (rest := []) C hR (kJ6_bitCount_0f7a4 K.1 _ (by omega) σ a1  rfl) mi_J6_bitCount_0f7a4 st_J6_bitCount_0f7a4 ml_RX8_265 rfl rfl (Nat.le_of_ble_eq_true rfl) dX8_best_8 ?_
    show TW K 11 [(0, rv K (8, 0)), (1, .int a1), (2, .int a2), (3, .int a3)] [.int (fJ6_bitCount_0f7a4 a1)] σ
    refine tw_bipush (v := 9) C dX8_best_11 (by decide) ?_
    refine tw_ic_gt (tgt := 32) C dX8_best_13 (by decide) (fun hc2 => ?_) (fun hc2 => ?_)
    · have ht2 := ite_t hc2 hf1
      refine tw_bipush (v := (-2)) C dX8_best_32 (by decide) ?_
      obtain ⟨rfl, rfl⟩ := pj2 (Option.some.inj ht2)
      exact tw_iret C hK rfl rfl dX8_best_34
    · have hf2 := ite_f hc2 hf1
      refine tw_iload_n (i := 2) (z := 2) C dX8_best_16 rfl rfl ?_
      refine tw_callS (As := [.int a2]) (rest := []) C hR (kX8_isCode K.1 _ (by omega) σ a2  rfl) mi_X8_isCode st_X8_isCode ml_RX8_90 rfl rfl (Nat.le_of_ble_eq_true rfl) dX8_best_17 ?_
      show TW K 20 [(0, rv K (8, 0)), (1, .int a1), (2, .int a2), (3, .int a3)] [.int (b2i (fX8_isCode a2))] σ
      refine tw_if_eq (tgt := 32) C dX8_best_20 (by decide) (fun hc3 => ?_) (fun hc3 => ?_)
      · have ht3 := ite_f (b2i_z hc3) hf2
        refine tw_bipush (v := (-2)) C dX8_best_32 (by decide) ?_
        obtain ⟨rfl, rfl⟩ := pj2 (Option.some.inj ht3)
        exact tw_iret C hK rfl rfl dX8_best_34
      · have hf3 := ite_t (b2i_nz hc3) hf2
        refine tw_iload_n (i := 3) (z := 3) C dX8_best_23 rfl rfl ?_
        refine tw_if_lt (tgt := 32) C dX8_best_24 (by decide) (fun hc4 => ?_) (fun hc4 => ?_)
        · have ht4 := ite_t hc4 hf3
          refine tw_bipush (v := (-2)) C dX8_best_32 (by decide) ?_
          obtain ⟨rfl, rfl⟩ := pj2 (Option.some.inj ht4)
          exact tw_iret C hK rfl rfl dX8_best_34
        · have hf4 := ite_f hc4 hf3
          refine tw_iload_n (i := 3) (z := 3) C dX8_best_27 rfl rfl ?_
          refine tw_iconst (v := 2) C dX8_best_28 (by decide) ?_
          refine tw_ic_le (tgt := 35) C dX8_best_29 (by decide) (fun hc5 => ?_) (fun hc5 => ?_)
          · have ht5 := ite_t hc5 hf4
            refine tw_aload_n (i := 0) (z := 0) (r := (8, 0)) C dX8_best_35 rfl rfl ?_
            refine tw_iload_n (i := 1) (z := 1) C dX8_best_36 rfl rfl ?_
            refine tw_aload_n (i := 0) (z := 0) (r := (8, 0)) C dX8_best_37 rfl rfl ?_
            refine tw_getR (g := 23) (z := 0) (j' := 0) C fl_RX8_11 rfl (wcells_mem (f := 8) (j := 0) (by decide) (by decide)) rfl rfl dX8_best_38 ?_
            refine tw_iload_n (i := 2) (z := 2) C dX8_best_41 rfl rfl ?_
            obtain ⟨hb6, eh6⟩ := grd_some ht5
            refine tw_aald (g := 1) C rfl 3 "ElevenCodes$Code" (fun _ => rfl) (by decide) (by decide) (wcells_mem (f := 23) (j := 0) (by decide) (by decide)) hb6 dX8_best_42 ?_
            refine tw_getR (g := 11) (z := 0) (j' := (tn a2)) C fl_RX8_108 rfl (wcells_mem (f := 1) (j := (tn a2)) (by decide) (inb_lt hb6)) rfl rfl dX8_best_43 ?_
            obtain ⟨σ1, hv7, eh7⟩ := obi_some eh6
            refine tw_callV (As := [.int a1, rv K (11, (tn a2))]) (rest := []) (r := (8, 0)) C hR (kX8_seekLines K.1 _ (by omega) _ a1 (11, (tn a2))  hv7) mi_X8_seekLines is_X8_seekLines se_X8_seekLines ml_RX8_270 (wcells_mem (f := 8) (j := 0) (by decide) (by decide)) rfl rfl rfl rfl (Nat.le_of_ble_eq_true rfl) dX8_best_46 ?_
            show TW K 49 [(0, rv K (8, 0)), (1, .int a1), (2, .int a2), (3, .int a3)] [] σ1
            refine tw_iload_n (i := 3) (z := 3) C dX8_best_49 rfl rfl ?_
            refine tw_if_ne (tgt := 61) C dX8_best_50 (by decide) (fun hc8 => ?_) (fun hc8 => ?_)
            · have ht8 := ite_f hc8 eh7
              refine tw_iload_n (i := 3) (z := 3) C dX8_best_61 rfl rfl ?_
              refine tw_iconst (v := 1) C dX8_best_62 (by decide) ?_
              refine tw_ic_ne (tgt := 76) C dX8_best_63 (by decide) (fun hc9 => ?_) (fun hc9 => ?_)
              · have ht9 := ite_f hc9 ht8
                refine tw_aload_n (i := 0) (z := 0) (r := (8, 0)) C dX8_best_76 rfl rfl ?_
                refine tw_getR (g := 2) (z := 0) (j' := 0) C fl_RX8_65 rfl (wcells_mem (f := 8) (j := 0) (by decide) (by decide)) rfl rfl dX8_best_77 ?_
                refine tw_getI C fl_RX8_280 rfl (wcells_mem (f := 2) (j := 0) (by decide) (by decide)) rfl dX8_best_80 ?_
                obtain ⟨rfl, rfl⟩ := pj2 (Option.some.inj ht9)
                exact tw_iret C hK rfl rfl dX8_best_83
              · have hf9 := ite_t hc9 ht8
                refine tw_aload_n (i := 0) (z := 0) (r := (8, 0)) C dX8_best_66 rfl rfl ?_
                refine tw_getR (g := 2) (z := 0) (j' := 0) C fl_RX8_65 rfl (wcells_mem (f := 8) (j := 0) (by decide) (by decide)) rfl rfl dX8_best_67 ?_
                refine tw_getI C fl_RX8_277 rfl (wcells_mem (f := 2) (j := 0) (by decide) (by decide)) rfl dX8_best_70 ?_
                refine tw_goto (tgt := 83) C dX8_best_73 (by decide) ?_
                obtain ⟨rfl, rfl⟩ := pj2 (Option.some.inj hf9)
                exact tw_iret C hK rfl rfl dX8_best_83
            · have hf8 := ite_t hc8 eh7
              refine tw_aload_n (i := 0) (z := 0) (r := (8, 0)) C dX8_best_53 rfl rfl ?_
              refine tw_getR (g := 2) (z := 0) (j' := 0) C fl_RX8_65 rfl (wcells_mem (f := 8) (j := 0) (by decide) (by decide)) rfl rfl dX8_best_54 ?_
              refine tw_getI C fl_RX8_274 rfl (wcells_mem (f := 2) (j := 0) (by decide) (by decide)) rfl dX8_best_57 ?_
              obtain ⟨rfl, rfl⟩ := pj2 (Option.some.inj hf8)
              exact tw_iret C hK rfl rfl dX8_best_60
          · have hf5 := ite_f hc5 hf4
            refine tw_bipush (v := (-2)) C dX8_best_32 (by decide) ?_
            obtain ⟨rfl, rfl⟩ := pj2 (Option.some.inj hf5)
            exact tw_iret C hK rfl rfl dX8_best_34

set_option maxRecDepth 20000 in
def fX8_isWay (a0 : Int32) : Bool :=
  if a0 < 0 then
    false
  else
    if (99 : Int32) < a0 then
      false
    else
      true
set_option maxRecDepth 20000 in
set_option maxHeartbeats 4000000 in
theorem kX8_isWay (G : Gx) (d : Nat) (hdp : 1 ≤ d) (σ : St) (a0 : Int32)  {v0 : Bool} (h : fX8_isWay a0 = v0) : MS G d yX8_isWay cX8_isWay 1 (some .boolean) [.int a0] σ (some (.int (b2i v0))) σ := by
  refine MS_of (by decide) (Nat.le_of_ble_eq_true rfl) rfl (fun K hG hnL C hR hK => ?_) (by omega)
  subst hG
  show TW K 0 [(0, .int a0)] [] σ
  unfold fX8_isWay at h
  refine tw_iload_n (i := 0) (z := 0) C dX8_isWay_0 rfl rfl ?_
  refine tw_if_lt (tgt := 14) C dX8_isWay_1 (by decide) (fun hc1 => ?_) (fun hc1 => ?_)
  · have ht1 := ite_t hc1 h
    refine tw_iconst (v := 0) C dX8_isWay_14 (by decide) ?_
    obtain rfl := ht1
    exact tw_zret C hK rfl rfl rfl dX8_isWay_15
  · have hf1 := ite_f hc1 h
    refine tw_iload_n (i := 0) (z := 0) C dX8_isWay_4 rfl rfl ?_
    refine tw_bipush (v := 99) C dX8_isWay_5 (by decide) ?_
    refine tw_ic_gt (tgt := 14) C dX8_isWay_7 (by decide) (fun hc2 => ?_) (fun hc2 => ?_)
    · have ht2 := ite_t hc2 hf1
      refine tw_iconst (v := 0) C dX8_isWay_14 (by decide) ?_
      obtain rfl := ht2
      exact tw_zret C hK rfl rfl rfl dX8_isWay_15
    · have hf2 := ite_f hc2 hf1
      refine tw_iconst (v := 1) C dX8_isWay_10 (by decide) ?_
      refine tw_goto (tgt := 15) C dX8_isWay_11 (by decide) ?_
      obtain rfl := hf2
      exact tw_zret C hK rfl rfl rfl dX8_isWay_15

