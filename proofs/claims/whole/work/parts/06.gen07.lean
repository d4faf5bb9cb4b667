set_option maxRecDepth 20000 in
def fX8_way (σ : St) (a1 : Int32) (a2 : Int32) (a3 : Int32) : Option (Int32 × St) :=
  if (fX8_areTwoClubs σ a1 a2) = true then
    if (fX8_isWay a3) = true then
      obi (fX7_setBetween σ a1 a2 a3) (fun (x1, σ1) =>
      some (x1, σ1))
    else
      some ((-2 : Int32), σ)
  else
    some ((-2 : Int32), σ)
set_option maxRecDepth 20000 in
set_option maxHeartbeats 4000000 in
theorem kX8_way (G : Gx) (d : Nat) (hdp : 3 ≤ d) (σ : St) (a1 : Int32) (a2 : Int32) (a3 : Int32)  {v0 : Int32} {σ' : St} (h : fX8_way σ a1 a2 a3 = some (v0, σ')) : MS G d yX8_way cX8_way 4 (some .int) [.ref (G.2.1 (8, 0)), .int a1, .int a2, .int a3] σ (some (.int v0)) σ' := by
  refine MS_of (by decide) (Nat.le_of_ble_eq_true rfl) rfl (fun K hG hnL C hR hK => ?_) (by omega)
  subst hG
  show TW K 0 [(0, rv K (8, 0)), (1, .int a1), (2, .int a2), (3, .int a3)] [] σ
  unfold fX8_way at h
  refine tw_aload_n (i := 0) (z := 0) (r := (8, 0)) C dX8_way_0 rfl rfl ?_
  refine tw_iload_n (i := 1) (z := 1) C dX8_way_1 rfl rfl ?_
  refine tw_iload_n (i := 2) (z := 2) C dX8_way_2 rfl rfl ?_
  refine tw_callV (As := [.int a1, .int a2]) (rest := []) (r := (8, 0)) C hR (kX8_areTwoClubs K.1 _ (by omega) σ a1 a2  rfl) mi_X8_areTwoClubs is_X8_areTwoClubs se_X8_areTwoClubs ml_RX8_217 (wcells_mem (f := 8) (j := 0) (by decide) (by decide)) rfl rfl rfl rfl (Nat.le_of_ble_eq_true rfl) dX8_way_3 ?_
  show TW K 6 [(0, rv K (8, 0)), (1, .int a1), (2, .int a2), (3, .int a3)] [.int (b2i (fX8_areTwoClubs σ a1 a2))] σ
  refine tw_if_eq (tgt := 16) C dX8_way_6 (by decide) (fun hc1 => ?_) (fun hc1 => ?_)
  · have ht1 := ite_f (b2i_z hc1) h
    refine tw_bipush (v := (-2)) C dX8_way_16 (by decide) ?_
    obtain ⟨rfl, rfl⟩ := pj2 (Option.some.inj ht1)
    exact tw_iret C hK rfl rfl dX8_way_18
  · have hf1 := ite_t (b2i_nz hc1) h
    refine tw_iload_n (i := 3) (z := 3) C dX8_way_9 rfl rfl ?_
    refine tw_callS (As := [.int a3]) (rest := []) C hR (kX8_isWay K.1 _ (by omega) σ a3  rfl) mi_X8_isWay st_X8_isWay ml_RX8_283 rfl rfl (Nat.le_of_ble_eq_true rfl) dX8_way_10 ?_
    show TW K 13 [(0, rv K (8, 0)), (1, .int a1), (2, .int a2), (3, .int a3)] [.int (b2i (fX8_isWay a3))] σ
    refine tw_if_ne (tgt := 19) C dX8_way_13 (by decide) (fun hc2 => ?_) (fun hc2 => ?_)
    · have ht2 := ite_t (b2i_nz hc2) hf1
      refine tw_aload_n (i := 0) (z := 0) (r := (8, 0)) C dX8_way_19 rfl rfl ?_
      refine tw_getR (g := 7) (z := 0) (j' := 0) C fl_RX8_72 rfl (wcells_mem (f := 8) (j := 0) (by decide) (by decide)) rfl rfl dX8_way_20 ?_
      refine tw_iload_n (i := 1) (z := 1) C dX8_way_23 rfl rfl ?_
      refine tw_iload_n (i := 2) (z := 2) C dX8_way_24 rfl rfl ?_
      refine tw_iload_n (i := 3) (z := 3) C dX8_way_25 rfl rfl ?_
      obtain ⟨⟨x1, σ1⟩, hv3, eh3⟩ := obi_some ht2
      refine tw_callV (As := [.int a1, .int a2, .int a3]) (rest := []) (r := (7, 0)) C hR (kX7_setBetween K.1 _ (by omega) _ a1 a2 a3  hv3) mi_X7_setBetween is_X7_setBetween se_X7_setBetween ml_RX8_286 (wcells_mem (f := 7) (j := 0) (by decide) (by decide)) rfl rfl rfl rfl (Nat.le_of_ble_eq_true rfl) dX8_way_26 ?_
      show TW K 29 [(0, rv K (8, 0)), (1, .int a1), (2, .int a2), (3, .int a3)] [.int x1] σ1
      obtain ⟨rfl, rfl⟩ := pj2 (Option.some.inj eh3)
      exact tw_iret C hK rfl rfl dX8_way_29
    · have hf2 := ite_f (b2i_z hc2) hf1
      refine tw_bipush (v := (-2)) C dX8_way_16 (by decide) ?_
      obtain ⟨rfl, rfl⟩ := pj2 (Option.some.inj hf2)
      exact tw_iret C hK rfl rfl dX8_way_18

set_option maxRecDepth 20000 in
def fX8_isField (σ : St) (a1 : Int32) : Bool :=
  if a1 ≤ 0 then
    false
  else
    if ((1 : Int32) <<< ((σ (8, 0) 11) &&& 31)) ≤ a1 then
      false
    else
      if (irm (fJ6_bitCount_0f7a4 a1) (2 : Int32)) = 0 then
        true
      else
        false
set_option maxRecDepth 20000 in
set_option maxHeartbeats 4000000 in
theorem kX8_isField (G : Gx) (d : Nat) (hdp : 2 ≤ d) (σ : St) (a1 : Int32)  {v0 : Bool} (h : fX8_isField σ a1 = v0) : MS G d yX8_isField cX8_isField 2 (some .boolean) [.ref (G.2.1 (8, 0)), .int a1] σ (some (.int (b2i v0))) σ := by
  refine MS_of (by decide) (Nat.le_of_ble_eq_true rfl) rfl (fun K hG hnL C hR hK => ?_) (by omega)
  subst hG
  show TW K 0 [(0, rv K (8, 0)), (1, .int a1)] [] σ
  unfold fX8_isField at h
  refine tw_iload_n (i := 1) (z := 1) C dX8_isField_0 rfl rfl ?_
  refine tw_if_le (tgt := 27) C dX8_isField_1 (by decide) (fun hc1 => ?_) (fun hc1 => ?_)
  · have ht1 := ite_t hc1 h
    refine tw_iconst (v := 0) C dX8_isField_27 (by decide) ?_
    obtain rfl := ht1
    exact tw_zret C hK rfl rfl rfl dX8_isField_28
  · have hf1 := ite_f hc1 h
    refine tw_iload_n (i := 1) (z := 1) C dX8_isField_4 rfl rfl ?_
    refine tw_iconst (v := 1) C dX8_isField_5 (by decide) ?_
    refine tw_aload_n (i := 0) (z := 0) (r := (8, 0)) C dX8_isField_6 rfl rfl ?_
    refine tw_getI C fl_RX8_205 rfl (wcells_mem (f := 8) (j := 0) (by decide) (by decide)) rfl dX8_isField_7 ?_
    refine tw_ishl C dX8_isField_10 ?_
    refine tw_ic_ge (tgt := 27) C dX8_isField_11 (by decide) (fun hc2 => ?_) (fun hc2 => ?_)
    · have ht2 := ite_t hc2 hf1
      refine tw_iconst (v := 0) C dX8_isField_27 (by decide) ?_
      obtain rfl := ht2
      exact tw_zret C hK rfl rfl rfl dX8_isField_28
    · have hf2 := ite_f hc2 hf1
      refine tw_iload_n (i := 1) (z := 1) C dX8_isField_14 rfl rfl ?_
      refine tw_callS (As := [.int a1]) (rest := []) C hR (kJ6_bitCount_0f7a4 K.1 _ (by omega) σ a1  rfl) mi_J6_bitCount_0f7a4 st_J6_bitCount_0f7a4 ml_RX8_265 rfl rfl (Nat.le_of_ble_eq_true rfl) dX8_isField_15 ?_
      show TW K 18 [(0, rv K (8, 0)), (1, .int a1)] [.int (fJ6_bitCount_0f7a4 a1)] σ
      refine tw_iconst (v := 2) C dX8_isField_18 (by decide) ?_
      refine tw_irem C dX8_isField_19 (by decide) ?_
      refine tw_if_ne (tgt := 27) C dX8_isField_20 (by decide) (fun hc3 => ?_) (fun hc3 => ?_)
      · have ht3 := ite_f hc3 hf2
        refine tw_iconst (v := 0) C dX8_isField_27 (by decide) ?_
        obtain rfl := ht3
        exact tw_zret C hK rfl rfl rfl dX8_isField_28
      · have hf3 := ite_t hc3 hf2
        refine tw_iconst (v := 1) C dX8_isField_23 (by decide) ?_
        refine tw_goto (tgt := 28) C dX8_isField_24 (by decide) ?_
        obtain rfl := hf3
        exact tw_zret C hK rfl rfl rfl dX8_isField_28

set_option maxRecDepth 20000 in
def fX8_draws (σ : St) (a1 : Int32) (a2 : Int32) : Option (Int32 × St) :=
  if (fX8_isField σ a1) = true then
    if (fX8_isWay a2) = true then
      obi (fX7_countDraws σ a1 a2) (fun (x1, σ1) =>
      some (x1, σ1))
    else
      some ((-2 : Int32), σ)
  else
    some ((-2 : Int32), σ)
set_option maxRecDepth 20000 in
set_option maxHeartbeats 4000000 in
theorem kX8_draws (G : Gx) (d : Nat) (hdp : 4 ≤ d) (σ : St) (a1 : Int32) (a2 : Int32)  {v0 : Int32} {σ' : St} (h : fX8_draws σ a1 a2 = some (v0, σ')) : MS G d yX8_draws cX8_draws 3 (some .int) [.ref (G.2.1 (8, 0)), .int a1, .int a2] σ (some (.int v0)) σ' := by
  refine MS_of (by decide) (Nat.le_of_ble_eq_true rfl) rfl (fun K hG hnL C hR hK => ?_) (by omega)
  subst hG
  show TW K 0 [(0, rv K (8, 0)), (1, .int a1), (2, .int a2)] [] σ
  unfold fX8_draws at h
  refine tw_aload_n (i := 0) (z := 0) (r := (8, 0)) C dX8_draws_0 rfl rfl ?_
  refine tw_iload_n (i := 1) (z := 1) C dX8_draws_1 rfl rfl ?_
  refine tw_callV (As := [.int a1]) (rest := []) (r := (8, 0)) C hR (kX8_isField K.1 _ (by omega) σ a1  rfl) mi_X8_isField is_X8_isField se_X8_isField ml_RX8_290 (wcells_mem (f := 8) (j := 0) (by decide) (by decide)) rfl rfl rfl rfl (Nat.le_of_ble_eq_true rfl) dX8_draws_2 ?_
  show TW K 5 [(0, rv K (8, 0)), (1, .int a1), (2, .int a2)] [.int (b2i (fX8_isField σ a1))] σ
  refine tw_if_eq (tgt := 15) C dX8_draws_5 (by decide) (fun hc1 => ?_) (fun hc1 => ?_)
  · have ht1 := ite_f (b2i_z hc1) h
    refine tw_bipush (v := (-2)) C dX8_draws_15 (by decide) ?_
    obtain ⟨rfl, rfl⟩ := pj2 (Option.some.inj ht1)
    exact tw_iret C hK rfl rfl dX8_draws_17
  · have hf1 := ite_t (b2i_nz hc1) h
    refine tw_iload_n (i := 2) (z := 2) C dX8_draws_8 rfl rfl ?_
    refine tw_callS (As := [.int a2]) (rest := []) C hR (kX8_isWay K.1 _ (by omega) σ a2  rfl) mi_X8_isWay st_X8_isWay ml_RX8_283 rfl rfl (Nat.le_of_ble_eq_true rfl) dX8_draws_9 ?_
    show TW K 12 [(0, rv K (8, 0)), (1, .int a1), (2, .int a2)] [.int (b2i (fX8_isWay a2))] σ
    refine tw_if_ne (tgt := 18) C dX8_draws_12 (by decide) (fun hc2 => ?_) (fun hc2 => ?_)
    · have ht2 := ite_t (b2i_nz hc2) hf1
      refine tw_aload_n (i := 0) (z := 0) (r := (8, 0)) C dX8_draws_18 rfl rfl ?_
      refine tw_getR (g := 7) (z := 0) (j' := 0) C fl_RX8_72 rfl (wcells_mem (f := 8) (j := 0) (by decide) (by decide)) rfl rfl dX8_draws_19 ?_
      refine tw_iload_n (i := 1) (z := 1) C dX8_draws_22 rfl rfl ?_
      refine tw_iload_n (i := 2) (z := 2) C dX8_draws_23 rfl rfl ?_
      obtain ⟨⟨x1, σ1⟩, hv3, eh3⟩ := obi_some ht2
      refine tw_callV (As := [.int a1, .int a2]) (rest := []) (r := (7, 0)) C hR (kX7_countDraws K.1 _ (by omega) _ a1 a2  hv3) mi_X7_countDraws is_X7_countDraws se_X7_countDraws ml_RX8_293 (wcells_mem (f := 7) (j := 0) (by decide) (by decide)) rfl rfl rfl rfl (Nat.le_of_ble_eq_true rfl) dX8_draws_24 ?_
      show TW K 27 [(0, rv K (8, 0)), (1, .int a1), (2, .int a2)] [.int x1] σ1
      obtain ⟨rfl, rfl⟩ := pj2 (Option.some.inj eh3)
      exact tw_iret C hK rfl rfl dX8_draws_27
    · have hf2 := ite_f (b2i_z hc2) hf1
      refine tw_bipush (v := (-2)) C dX8_draws_15 (by decide) ?_
      obtain ⟨rfl, rfl⟩ := pj2 (Option.some.inj hf2)
      exact tw_iret C hK rfl rfl dX8_draws_17

set_option maxRecDepth 20000 in
def fX8_mate (σ : St) (a1 : Int32) (a2 : Int32) (a3 : Int32) : Option (Int32 × St) :=
  if (fX8_isField σ a1) = true then
    if (fX8_isWay a2) = true then
      if (fX8_isClub σ a3) = true then
        if ((a1 >>> (a3 &&& 31)) &&& (1 : Int32)) = 0 then
          some ((-2 : Int32), σ)
        else
          obi (fX7_leastTogether σ a1 a2) (fun (x1, σ1) =>
          if x1 = (-1 : Int32) then
            some ((-3 : Int32), σ1)
          else
            obi (fX7_mateOf σ1 a3 a1 a2) (fun x2 =>
            some (x2, σ1)))
      else
        some ((-2 : Int32), σ)
    else
      some ((-2 : Int32), σ)
  else
    some ((-2 : Int32), σ)
set_option maxRecDepth 20000 in
set_option maxHeartbeats 4000000 in
theorem kX8_mate (G : Gx) (d : Nat) (hdp : 4 ≤ d) (σ : St) (a1 : Int32) (a2 : Int32) (a3 : Int32)  {v0 : Int32} {σ' : St} (h : fX8_mate σ a1 a2 a3 = some (v0, σ')) : MS G d yX8_mate cX8_mate 4 (some .int) [.ref (G.2.1 (8, 0)), .int a1, .int a2, .int a3] σ (some (.int v0)) σ' := by
  refine MS_of (by decide) (Nat.le_of_ble_eq_true rfl) rfl (fun K hG hnL C hR hK => ?_) (by omega)
  subst hG
  show TW K 0 [(0, rv K (8, 0)), (1, .int a1), (2, .int a2), (3, .int a3)] [] σ
  unfold fX8_mate at h
  refine tw_aload_n (i := 0) (z := 0) (r := (8, 0)) C dX8_mate_0 rfl rfl ?_
  refine tw_iload_n (i := 1) (z := 1) C dX8_mate_1 rfl rfl ?_
  refine tw_callV (As := [.int a1]) (rest := []) (r := (8, 0)) C hR (kX8_isField K.1 _ (by omega) σ a1  rfl) mi_X8_isField is_X8_isField se_X8_isField ml_RX8_290 (wcells_mem (f := 8) (j := 0) (by decide) (by decide)) rfl rfl rfl rfl (Nat.le_of_ble_eq_true rfl) dX8_mate_2 ?_
  show TW K 5 [(0, rv K (8, 0)), (1, .int a1), (2, .int a2), (3, .int a3)] [.int (b2i (fX8_isField σ a1))] σ
  refine tw_if_eq (tgt := 31) C dX8_mate_5 (by decide) (fun hc1 => ?_) (fun hc1 => ?_)
  · have ht1 := ite_f (b2i_z hc1) h
    refine tw_bipush (v := (-2)) C dX8_mate_31 (by decide) ?_
    obtain ⟨rfl, rfl⟩ := pj2 (Option.some.inj ht1)
    exact tw_iret C hK rfl rfl dX8_mate_33
  · have hf1 := ite_t (b2i_nz hc1) h
    refine tw_iload_n (i := 2) (z := 2) C dX8_mate_8 rfl rfl ?_
    refine tw_callS (As := [.int a2]) (rest := []) C hR (kX8_isWay K.1 _ (by omega) σ a2  rfl) mi_X8_isWay st_X8_isWay ml_RX8_283 rfl rfl (Nat.le_of_ble_eq_true rfl) dX8_mate_9 ?_
    show TW K 12 [(0, rv K (8, 0)), (1, .int a1), (2, .int a2), (3, .int a3)] [.int (b2i (fX8_isWay a2))] σ
    refine tw_if_eq (tgt := 31) C dX8_mate_12 (by decide) (fun hc2 => ?_) (fun hc2 => ?_)
    · have ht2 := ite_f (b2i_z hc2) hf1
      refine tw_bipush (v := (-2)) C dX8_mate_31 (by decide) ?_
      obtain ⟨rfl, rfl⟩ := pj2 (Option.some.inj ht2)
      exact tw_iret C hK rfl rfl dX8_mate_33
    · have hf2 := ite_t (b2i_nz hc2) hf1
      refine tw_aload_n (i := 0) (z := 0) (r := (8, 0)) C dX8_mate_15 rfl rfl ?_
      refine tw_iload_n (i := 3) (z := 3) C dX8_mate_16 rfl rfl ?_
      refine tw_callV (As := [.int a3]) (rest := []) (r := (8, 0)) C hR (kX8_isClub K.1 _ (by omega) σ a3  rfl) mi_X8_isClub is_X8_isClub se_X8_isClub ml_RX8_214 (wcells_mem (f := 8) (j := 0) (by decide) (by decide)) rfl rfl rfl rfl (Nat.le_of_ble_eq_true rfl) dX8_mate_17 ?_
      show TW K 20 [(0, rv K (8, 0)), (1, .int a1), (2, .int a2), (3, .int a3)] [.int (b2i (fX8_isClub σ a3))] σ
      refine tw_if_eq (tgt := 31) C dX8_mate_20 (by decide) (fun hc3 => ?_) (fun hc3 => ?_)
      · have ht3 := ite_f (b2i_z hc3) hf2
        refine tw_bipush (v := (-2)) C dX8_mate_31 (by decide) ?_
        obtain ⟨rfl, rfl⟩ := pj2 (Option.some.inj ht3)
        exact tw_iret C hK rfl rfl dX8_mate_33
      · have hf3 := ite_t (b2i_nz hc3) hf2
        refine tw_iload_n (i := 1) (z := 1) C dX8_mate_23 rfl rfl ?_
        refine tw_iload_n (i := 3) (z := 3) C dX8_mate_24 rfl rfl ?_
        refine tw_ishr C dX8_mate_25 ?_
        refine tw_iconst (v := 1) C dX8_mate_26 (by decide) ?_
        refine tw_iand C dX8_mate_27 ?_
        refine tw_if_ne (tgt := 34) C dX8_mate_28 (by decide) (fun hc4 => ?_) (fun hc4 => ?_)
        · have ht4 := ite_f hc4 hf3
          refine tw_aload_n (i := 0) (z := 0) (r := (8, 0)) C dX8_mate_34 rfl rfl ?_
          refine tw_getR (g := 7) (z := 0) (j' := 0) C fl_RX8_72 rfl (wcells_mem (f := 8) (j := 0) (by decide) (by decide)) rfl rfl dX8_mate_35 ?_
          refine tw_iload_n (i := 1) (z := 1) C dX8_mate_38 rfl rfl ?_
          refine tw_iload_n (i := 2) (z := 2) C dX8_mate_39 rfl rfl ?_
          obtain ⟨⟨x1, σ1⟩, hv5, eh5⟩ := obi_some ht4
          refine tw_callV (As := [.int a1, .int a2]) (rest := []) (r := (7, 0)) C hR (kX7_leastTogether K.1 _ (by omega) _ a1 a2  hv5) mi_X7_leastTogether is_X7_leastTogether se_X7_leastTogether ml_RX8_296 (wcells_mem (f := 7) (j := 0) (by decide) (by decide)) rfl rfl rfl rfl (Nat.le_of_ble_eq_true rfl) dX8_mate_40 ?_
          show TW K 43 [(0, rv K (8, 0)), (1, .int a1), (2, .int a2), (3, .int a3)] [.int x1] σ1
          refine tw_iconst (v := (-1)) C dX8_mate_43 (by decide) ?_
          refine tw_ic_ne (tgt := 50) C dX8_mate_44 (by decide) (fun hc6 => ?_) (fun hc6 => ?_)
          · have ht6 := ite_f hc6 eh5
            refine tw_aload_n (i := 0) (z := 0) (r := (8, 0)) C dX8_mate_50 rfl rfl ?_
            refine tw_getR (g := 7) (z := 0) (j' := 0) C fl_RX8_72 rfl (wcells_mem (f := 8) (j := 0) (by decide) (by decide)) rfl rfl dX8_mate_51 ?_
            refine tw_iload_n (i := 3) (z := 3) C dX8_mate_54 rfl rfl ?_
            refine tw_iload_n (i := 1) (z := 1) C dX8_mate_55 rfl rfl ?_
            refine tw_iload_n (i := 2) (z := 2) C dX8_mate_56 rfl rfl ?_
            obtain ⟨x2, hv7, eh7⟩ := obi_some ht6
            refine tw_callV (As := [.int a3, .int a1, .int a2]) (rest := []) (r := (7, 0)) C hR (kX7_mateOf K.1 _ (by omega) σ1 a3 a1 a2  hv7) mi_X7_mateOf is_X7_mateOf se_X7_mateOf ml_RX8_299 (wcells_mem (f := 7) (j := 0) (by decide) (by decide)) rfl rfl rfl rfl (Nat.le_of_ble_eq_true rfl) dX8_mate_57 ?_
            show TW K 60 [(0, rv K (8, 0)), (1, .int a1), (2, .int a2), (3, .int a3)] [.int x2] σ1
            obtain ⟨rfl, rfl⟩ := pj2 (Option.some.inj eh7)
            exact tw_iret C hK rfl rfl dX8_mate_60
          · have hf6 := ite_t hc6 eh5
            refine tw_bipush (v := (-3)) C dX8_mate_47 (by decide) ?_
            obtain ⟨rfl, rfl⟩ := pj2 (Option.some.inj hf6)
            exact tw_iret C hK rfl rfl dX8_mate_49
        · have hf4 := ite_t hc4 hf3
          refine tw_bipush (v := (-2)) C dX8_mate_31 (by decide) ?_
          obtain ⟨rfl, rfl⟩ := pj2 (Option.some.inj hf4)
          exact tw_iret C hK rfl rfl dX8_mate_33

set_option maxRecDepth 20000 in
def fX8_cup (σ : St) (a1 : Int32) (a2 : Int32) : Option (Int32 × St) :=
  if (fX8_isField σ a1) = true then
    if (fX8_isWay a2) = true then
      obi (fX7_leastTogether σ a1 a2) (fun (x1, σ1) =>
      if x1 = (-1 : Int32) then
        some ((-3 : Int32), σ1)
      else
        some (x1, σ1))
    else
      some ((-2 : Int32), σ)
  else
    some ((-2 : Int32), σ)
set_option maxRecDepth 20000 in
set_option maxHeartbeats 4000000 in
theorem kX8_cup (G : Gx) (d : Nat) (hdp : 4 ≤ d) (σ : St) (a1 : Int32) (a2 : Int32)  {v0 : Int32} {σ' : St} (h : fX8_cup σ a1 a2 = some (v0, σ')) : MS G d yX8_cup cX8_cup 4 (some .int) [.ref (G.2.1 (8, 0)), .int a1, .int a2] σ (some (.int v0)) σ' := by
  refine MS_of (by decide) (Nat.le_of_ble_eq_true rfl) rfl (fun K hG hnL C hR hK => ?_) (by omega)
  subst hG
  show TW K 0 [(0, rv K (8, 0)), (1, .int a1), (2, .int a2)] [] σ
  unfold fX8_cup at h
  refine tw_aload_n (i := 0) (z := 0) (r := (8, 0)) C dX8_cup_0 rfl rfl ?_
  refine tw_iload_n (i := 1) (z := 1) C dX8_cup_1 rfl rfl ?_
  refine tw_callV (As := [.int a1]) (rest := []) (r := (8, 0)) C hR (kX8_isField K.1 _ (by omega) σ a1  rfl) mi_X8_isField is_X8_isField se_X8_isField ml_RX8_290 (wcells_mem (f := 8) (j := 0) (by decide) (by decide)) rfl rfl rfl rfl (Nat.le_of_ble_eq_true rfl) dX8_cup_2 ?_
  show TW K 5 [(0, rv K (8, 0)), (1, .int a1), (2, .int a2)] [.int (b2i (fX8_isField σ a1))] σ
  refine tw_if_eq (tgt := 15) C dX8_cup_5 (by decide) (fun hc1 => ?_) (fun hc1 => ?_)
  · have ht1 := ite_f (b2i_z hc1) h
    refine tw_bipush (v := (-2)) C dX8_cup_15 (by decide) ?_
    obtain ⟨rfl, rfl⟩ := pj2 (Option.some.inj ht1)
    exact tw_iret C hK rfl rfl dX8_cup_17
  · have hf1 := ite_t (b2i_nz hc1) h
    refine tw_iload_n (i := 2) (z := 2) C dX8_cup_8 rfl rfl ?_
    refine tw_callS (As := [.int a2]) (rest := []) C hR (kX8_isWay K.1 _ (by omega) σ a2  rfl) mi_X8_isWay st_X8_isWay ml_RX8_283 rfl rfl (Nat.le_of_ble_eq_true rfl) dX8_cup_9 ?_
    show TW K 12 [(0, rv K (8, 0)), (1, .int a1), (2, .int a2)] [.int (b2i (fX8_isWay a2))] σ
    refine tw_if_ne (tgt := 18) C dX8_cup_12 (by decide) (fun hc2 => ?_) (fun hc2 => ?_)
    · have ht2 := ite_t (b2i_nz hc2) hf1
      refine tw_aload_n (i := 0) (z := 0) (r := (8, 0)) C dX8_cup_18 rfl rfl ?_
      refine tw_getR (g := 7) (z := 0) (j' := 0) C fl_RX8_72 rfl (wcells_mem (f := 8) (j := 0) (by decide) (by decide)) rfl rfl dX8_cup_19 ?_
      refine tw_iload_n (i := 1) (z := 1) C dX8_cup_22 rfl rfl ?_
      refine tw_iload_n (i := 2) (z := 2) C dX8_cup_23 rfl rfl ?_
      obtain ⟨⟨x1, σ1⟩, hv3, eh3⟩ := obi_some ht2
      refine tw_callV (As := [.int a1, .int a2]) (rest := []) (r := (7, 0)) C hR (kX7_leastTogether K.1 _ (by omega) _ a1 a2  hv3) mi_X7_leastTogether is_X7_leastTogether se_X7_leastTogether ml_RX8_296 (wcells_mem (f := 7) (j := 0) (by decide) (by decide)) rfl rfl rfl rfl (Nat.le_of_ble_eq_true rfl) dX8_cup_24 ?_
      show TW K 27 [(0, rv K (8, 0)), (1, .int a1), (2, .int a2)] [.int x1] σ1
      refine tw_istore_n (lv' := [(0, rv K (8, 0)), (1, .int a1), (2, .int a2), (3, .int x1)]) C [1, 2, 3, 0] dX8_cup_27 rfl (by rw [hnL]; decide) rfl ?_
      refine tw_iload_n (i := 3) (z := 3) C dX8_cup_28 rfl rfl ?_
      refine tw_iconst (v := (-1)) C dX8_cup_29 (by decide) ?_
      refine tw_ic_ne (tgt := 38) C dX8_cup_30 (by decide) (fun hc4 => ?_) (fun hc4 => ?_)
      · have ht4 := ite_f hc4 eh3
        refine tw_iload_n (i := 3) (z := 3) C dX8_cup_38 rfl rfl ?_
        obtain ⟨rfl, rfl⟩ := pj2 (Option.some.inj ht4)
        exact tw_iret C hK rfl rfl dX8_cup_39
      · have hf4 := ite_t hc4 eh3
        refine tw_bipush (v := (-3)) C dX8_cup_33 (by decide) ?_
        refine tw_goto (tgt := 39) C dX8_cup_35 (by decide) ?_
        obtain ⟨rfl, rfl⟩ := pj2 (Option.some.inj hf4)
        exact tw_iret C hK rfl rfl dX8_cup_39
    · have hf2 := ite_f (b2i_z hc2) hf1
      refine tw_bipush (v := (-2)) C dX8_cup_15 (by decide) ?_
      obtain ⟨rfl, rfl⟩ := pj2 (Option.some.inj hf2)
      exact tw_iret C hK rfl rfl dX8_cup_17

set_option maxRecDepth 20000 in
def fX8_isType (a0 : Int32) : Bool :=
  if a0 < 0 then
    false
  else
    if (3 : Int32) ≤ a0 then
      false
    else
      true
set_option maxRecDepth 20000 in
set_option maxHeartbeats 4000000 in
theorem kX8_isType (G : Gx) (d : Nat) (hdp : 1 ≤ d) (σ : St) (a0 : Int32)  {v0 : Bool} (h : fX8_isType a0 = v0) : MS G d yX8_isType cX8_isType 1 (some .boolean) [.int a0] σ (some (.int (b2i v0))) σ := by
  refine MS_of (by decide) (Nat.le_of_ble_eq_true rfl) rfl (fun K hG hnL C hR hK => ?_) (by omega)
  subst hG
  show TW K 0 [(0, .int a0)] [] σ
  unfold fX8_isType at h
  refine tw_iload_n (i := 0) (z := 0) C dX8_isType_0 rfl rfl ?_
  refine tw_if_lt (tgt := 13) C dX8_isType_1 (by decide) (fun hc1 => ?_) (fun hc1 => ?_)
  · have ht1 := ite_t hc1 h
    refine tw_iconst (v := 0) C dX8_isType_13 (by decide) ?_
    obtain rfl := ht1
    exact tw_zret C hK rfl rfl rfl dX8_isType_14
  · have hf1 := ite_f hc1 h
    refine tw_iload_n (i := 0) (z := 0) C dX8_isType_4 rfl rfl ?_
    refine tw_iconst (v := 3) C dX8_isType_5 (by decide) ?_
    refine tw_ic_ge (tgt := 13) C dX8_isType_6 (by decide) (fun hc2 => ?_) (fun hc2 => ?_)
    · have ht2 := ite_t hc2 hf1
      refine tw_iconst (v := 0) C dX8_isType_13 (by decide) ?_
      obtain rfl := ht2
      exact tw_zret C hK rfl rfl rfl dX8_isType_14
    · have hf2 := ite_f hc2 hf1
      refine tw_iconst (v := 1) C dX8_isType_9 (by decide) ?_
      refine tw_goto (tgt := 14) C dX8_isType_10 (by decide) ?_
      obtain rfl := hf2
      exact tw_zret C hK rfl rfl rfl dX8_isType_14

set_option maxRecDepth 20000 in
def fX8_sheet (σ : St) (a1 : Int32) (a2 : Int32) (a3 : Int32) : Option (Int32 × St) :=
  if (fX8_isSheet a1) = true then
    if (fX8_isType a2) = true then
      if a3 ≤ (60 : Int32) then
        if 0 ≤ a3 then
          grd (inb a1 4) (
          obi (fX6_renew σ (tn a1) a2 a3) (fun σ1 =>
          some (a3, σ1)))
        else
          bnd (fX8_refuse σ (5 : Int32)) (fun (x1, σ2) =>
          some (x1, σ2))
      else
        some ((-2 : Int32), σ)
    else
      some ((-2 : Int32), σ)
  else
    some ((-2 : Int32), σ)
set_option maxRecDepth 20000 in
set_option maxHeartbeats 4000000 in
theorem kX8_sheet (G : Gx) (d : Nat) (hdp : 3 ≤ d) (σ : St) (a1 : Int32) (a2 : Int32) (a3 : Int32)  {v0 : Int32} {σ' : St} (h : fX8_sheet σ a1 a2 a3 = some (v0, σ')) : MS G d yX8_sheet cX8_sheet 4 (some .int) [.ref (G.2.1 (8, 0)), .int a1, .int a2, .int a3] σ (some (.int v0)) σ' := by
  refine MS_of (by decide) (Nat.le_of_ble_eq_true rfl) rfl (fun K hG hnL C hR hK => ?_) (by omega)
  subst hG
  show TW K 0 [(0, rv K (8, 0)), (1, .int a1), (2, .int a2), (3, .int a3)] [] σ
  unfold fX8_sheet at h
  refine tw_iload_n (i := 1) (z := 1) C dX8_sheet_0 rfl rfl ?_
  refine tw_callS (As := [.int a1]) (rest := []) C hR (kX8_isSheet K.1 _ (by omega) σ a1  rfl) mi_X8_isSheet st_X8_isSheet ml_RX8_124 rfl rfl (Nat.le_of_ble_eq_true rfl) dX8_sheet_1 ?_
  show TW K 4 [(0, rv K (8, 0)), (1, .int a1), (2, .int a2), (3, .int a3)] [.int (b2i (fX8_isSheet a1))] σ
  refine tw_if_eq (tgt := 20) C dX8_sheet_4 (by decide) (fun hc1 => ?_) (fun hc1 => ?_)
  · have ht1 := ite_f (b2i_z hc1) h
    refine tw_bipush (v := (-2)) C dX8_sheet_20 (by decide) ?_
    obtain ⟨rfl, rfl⟩ := pj2 (Option.some.inj ht1)
    exact tw_iret C hK rfl rfl dX8_sheet_22
  · have hf1 := ite_t (b2i_nz hc1) h
    refine tw_iload_n (i := 2) (z := 2) C dX8_sheet_7 rfl rfl ?_
    refine tw_callS (As := [.int a2]) (rest := []) C hR (kX8_isType K.1 _ (by omega) σ a2  rfl) mi_X8_isType st_X8_isType ml_RX8_302 rfl rfl (Nat.le_of_ble_eq_true rfl) dX8_sheet_8 ?_
    show TW K 11 [(0, rv K (8, 0)), (1, .int a1), (2, .int a2), (3, .int a3)] [.int (b2i (fX8_isType a2))] σ
    refine tw_if_eq (tgt := 20) C dX8_sheet_11 (by decide) (fun hc2 => ?_) (fun hc2 => ?_)
    · have ht2 := ite_f (b2i_z hc2) hf1
      refine tw_bipush (v := (-2)) C dX8_sheet_20 (by decide) ?_
      obtain ⟨rfl, rfl⟩ := pj2 (Option.some.inj ht2)
      exact tw_iret C hK rfl rfl dX8_sheet_22
    · have hf2 := ite_t (b2i_nz hc2) hf1
      refine tw_iload_n (i := 3) (z := 3) C dX8_sheet_14 rfl rfl ?_
      refine tw_bipush (v := 60) C dX8_sheet_15 (by decide) ?_
      refine tw_ic_le (tgt := 23) C dX8_sheet_17 (by decide) (fun hc3 => ?_) (fun hc3 => ?_)
      · have ht3 := ite_t hc3 hf2
        refine tw_iload_n (i := 3) (z := 3) C dX8_sheet_23 rfl rfl ?_
        refine tw_if_ge (tgt := 33) C dX8_sheet_24 (by decide) (fun hc4 => ?_) (fun hc4 => ?_)
        · have ht4 := ite_t hc4 ht3
          refine tw_aload_n (i := 0) (z := 0) (r := (8, 0)) C dX8_sheet_33 rfl rfl ?_
          refine tw_getR (g := 26) (z := 0) (j' := 0) C fl_RX8_29 rfl (wcells_mem (f := 8) (j := 0) (by decide) (by decide)) rfl rfl dX8_sheet_34 ?_
          refine tw_iload_n (i := 1) (z := 1) C dX8_sheet_37 rfl rfl ?_
          obtain ⟨hb5, eh5⟩ := grd_some ht4
          refine tw_aald (g := 6) C rfl 6 "ElevenCodes$Sheet" (fun _ => rfl) (by decide) (by decide) (wcells_mem (f := 26) (j := 0) (by decide) (by decide)) hb5 dX8_sheet_38 ?_
          refine tw_iload_n (i := 2) (z := 2) C dX8_sheet_39 rfl rfl ?_
          refine tw_iload_n (i := 3) (z := 3) C dX8_sheet_40 rfl rfl ?_
          obtain ⟨σ1, hv6, eh6⟩ := obi_some eh5
          refine tw_callV (As := [.int a2, .int a3]) (rest := []) (r := (6, (tn a1))) C hR (kX6_renew K.1 _ (by omega) _ (tn a1) a2 a3 (inb_lt hb5) hv6) mi_X6_renew is_X6_renew se_X6_renew ml_RX8_305 (wcells_mem (f := 6) (j := (tn a1)) (by decide) (inb_lt hb5)) rfl rfl rfl rfl (Nat.le_of_ble_eq_true rfl) dX8_sheet_41 ?_
          show TW K 44 [(0, rv K (8, 0)), (1, .int a1), (2, .int a2), (3, .int a3)] [] σ1
          refine tw_iload_n (i := 3) (z := 3) C dX8_sheet_44 rfl rfl ?_
          obtain ⟨rfl, rfl⟩ := pj2 (Option.some.inj eh6)
          exact tw_iret C hK rfl rfl dX8_sheet_45
        · have hf4 := ite_f hc4 ht3
          refine tw_aload_n (i := 0) (z := 0) (r := (8, 0)) C dX8_sheet_27 rfl rfl ?_
          refine tw_iconst (v := 5) C dX8_sheet_28 (by decide) ?_
          obtain ⟨⟨x1, σ2⟩, hv7, eh7⟩ := bnd_ex hf4
          refine tw_callV (As := [.int (5 : Int32)]) (rest := []) (r := (8, 0)) C hR (kX8_refuse K.1 _ (by omega) _ (5 : Int32)  hv7) mi_X8_refuse is_X8_refuse se_X8_refuse ml_RX8_131 (wcells_mem (f := 8) (j := 0) (by decide) (by decide)) rfl rfl rfl rfl (Nat.le_of_ble_eq_true rfl) dX8_sheet_29 ?_
          show TW K 32 [(0, rv K (8, 0)), (1, .int a1), (2, .int a2), (3, .int a3)] [.int x1] σ2
          obtain ⟨rfl, rfl⟩ := pj2 (Option.some.inj eh7)
          exact tw_iret C hK rfl rfl dX8_sheet_32
      · have hf3 := ite_f hc3 hf2
        refine tw_bipush (v := (-2)) C dX8_sheet_20 (by decide) ?_
        obtain ⟨rfl, rfl⟩ := pj2 (Option.some.inj hf3)
        exact tw_iret C hK rfl rfl dX8_sheet_22

set_option maxRecDepth 20000 in
def fX8_lose (σ : St) (a1 : Int32) : Option (Int32 × St) :=
  if (fX8_isSheet a1) = true then
    grd (inb a1 4) (
    if (σ (6, (tn a1)) 1) = 0 then
      grd (inb a1 4) (bnd (su σ (6, (tn a1)) 1 (1 : Int32)) (fun σ1 =>
      grd (inb a1 4) (
      some (σ1 (6, (tn a1)) 3, σ1))))
    else
      bnd (fX8_refuse σ (1 : Int32)) (fun (x1, σ2) =>
      some (x1, σ2)))
  else
    some ((-2 : Int32), σ)
set_option maxRecDepth 20000 in
set_option maxHeartbeats 4000000 in
theorem kX8_lose (G : Gx) (d : Nat) (hdp : 2 ≤ d) (σ : St) (a1 : Int32)  {v0 : Int32} {σ' : St} (h : fX8_lose σ a1 = some (v0, σ')) : MS G d yX8_lose cX8_lose 2 (some .int) [.ref (G.2.1 (8, 0)), .int a1] σ (some (.int v0)) σ' := by
  refine MS_of (by decide) (Nat.le_of_ble_eq_true rfl) rfl (fun K hG hnL C hR hK => ?_) (by omega)
  subst hG
  show TW K 0 [(0, rv K (8, 0)), (1, .int a1)] [] σ
  unfold fX8_lose at h
  refine tw_iload_n (i := 1) (z := 1) C dX8_lose_0 rfl rfl ?_
  refine tw_callS (As := [.int a1]) (rest := []) C hR (kX8_isSheet K.1 _ (by omega) σ a1  rfl) mi_X8_isSheet st_X8_isSheet ml_RX8_124 rfl rfl (Nat.le_of_ble_eq_true rfl) dX8_lose_1 ?_
  show TW K 4 [(0, rv K (8, 0)), (1, .int a1)] [.int (b2i (fX8_isSheet a1))] σ
  refine tw_if_ne (tgt := 10) C dX8_lose_4 (by decide) (fun hc1 => ?_) (fun hc1 => ?_)
  · have ht1 := ite_t (b2i_nz hc1) h
    refine tw_aload_n (i := 0) (z := 0) (r := (8, 0)) C dX8_lose_10 rfl rfl ?_
    refine tw_getR (g := 26) (z := 0) (j' := 0) C fl_RX8_29 rfl (wcells_mem (f := 8) (j := 0) (by decide) (by decide)) rfl rfl dX8_lose_11 ?_
    refine tw_iload_n (i := 1) (z := 1) C dX8_lose_14 rfl rfl ?_
    obtain ⟨hb2, eh2⟩ := grd_some ht1
    refine tw_aald (g := 6) C rfl 6 "ElevenCodes$Sheet" (fun _ => rfl) (by decide) (by decide) (wcells_mem (f := 26) (j := 0) (by decide) (by decide)) hb2 dX8_lose_15 ?_
    refine tw_getI C fl_RX8_127 rfl (wcells_mem (f := 6) (j := (tn a1)) (by decide) (inb_lt hb2)) rfl dX8_lose_16 ?_
    refine tw_if_eq (tgt := 28) C dX8_lose_19 (by decide) (fun hc3 => ?_) (fun hc3 => ?_)
    · have ht3 := ite_t hc3 eh2
      refine tw_aload_n (i := 0) (z := 0) (r := (8, 0)) C dX8_lose_28 rfl rfl ?_
      refine tw_getR (g := 26) (z := 0) (j' := 0) C fl_RX8_29 rfl (wcells_mem (f := 8) (j := 0) (by decide) (by decide)) rfl rfl dX8_lose_29 ?_
      refine tw_iload_n (i := 1) (z := 1) C dX8_lose_32 rfl rfl ?_
      obtain ⟨hb4, eh4⟩ := grd_some ht3
      refine tw_aald (g := 6) C rfl 6 "ElevenCodes$Sheet" (fun _ => rfl) (by decide) (by decide) (wcells_mem (f := 26) (j := 0) (by decide) (by decide)) hb4 dX8_lose_33 ?_
      refine tw_iconst (v := 1) C dX8_lose_34 (by decide) ?_
      obtain ⟨σ1, es5, eh5⟩ := bnd_ex eh4
      refine tw_put C fl_RX8_127 (fun q hq => by cases hq; rfl) rfl (wcells_mem (f := 6) (j := (tn a1)) (by decide) (inb_lt hb4)) rfl rfl rfl dX8_lose_35 ?_
      rw [es5]
      refine tw_aload_n (i := 0) (z := 0) (r := (8, 0)) C dX8_lose_38 rfl rfl ?_
      refine tw_getR (g := 26) (z := 0) (j' := 0) C fl_RX8_29 rfl (wcells_mem (f := 8) (j := 0) (by decide) (by decide)) rfl rfl dX8_lose_39 ?_
      refine tw_iload_n (i := 1) (z := 1) C dX8_lose_42 rfl rfl ?_
      obtain ⟨hb6, eh6⟩ := grd_some eh5
      refine tw_aald (g := 6) C rfl 6 "ElevenCodes$Sheet" (fun _ => rfl) (by decide) (by decide) (wcells_mem (f := 26) (j := 0) (by decide) (by decide)) hb6 dX8_lose_43 ?_
      refine tw_getI C fl_RX8_134 rfl (wcells_mem (f := 6) (j := (tn a1)) (by decide) (inb_lt hb6)) rfl dX8_lose_44 ?_
      obtain ⟨rfl, rfl⟩ := pj2 (Option.some.inj eh6)
      exact tw_iret C hK rfl rfl dX8_lose_47
    · have hf3 := ite_f hc3 eh2
      refine tw_aload_n (i := 0) (z := 0) (r := (8, 0)) C dX8_lose_22 rfl rfl ?_
      refine tw_iconst (v := 1) C dX8_lose_23 (by decide) ?_
      obtain ⟨⟨x1, σ2⟩, hv7, eh7⟩ := bnd_ex hf3
      refine tw_callV (As := [.int (1 : Int32)]) (rest := []) (r := (8, 0)) C hR (kX8_refuse K.1 _ (by omega) _ (1 : Int32)  hv7) mi_X8_refuse is_X8_refuse se_X8_refuse ml_RX8_131 (wcells_mem (f := 8) (j := 0) (by decide) (by decide)) rfl rfl rfl rfl (Nat.le_of_ble_eq_true rfl) dX8_lose_24 ?_
      show TW K 27 [(0, rv K (8, 0)), (1, .int a1)] [.int x1] σ2
      obtain ⟨rfl, rfl⟩ := pj2 (Option.some.inj eh7)
      exact tw_iret C hK rfl rfl dX8_lose_27
  · have hf1 := ite_f (b2i_z hc1) h
    refine tw_bipush (v := (-2)) C dX8_lose_7 (by decide) ?_
    obtain ⟨rfl, rfl⟩ := pj2 (Option.some.inj hf1)
    exact tw_iret C hK rfl rfl dX8_lose_9

set_option maxRecDepth 20000 in
def fX8_findingOf (σ : St) (t0 : Nat) (a1 : Int32) (a2 : Int32) : Int32 :=
  if (σ (6, t0) 1) = 0 then
    if (σ (6, t0) 2) = a1 then
      if (fX6_has σ t0 a2) = true then
        (0 : Int32)
      else
        (2 : Int32)
    else
      (3 : Int32)
  else
    (1 : Int32)
set_option maxRecDepth 20000 in
set_option maxHeartbeats 4000000 in
theorem kX8_findingOf (G : Gx) (d : Nat) (hdp : 2 ≤ d) (σ : St) (t0 : Nat) (a1 : Int32) (a2 : Int32) (h0 : t0 < 4) {v0 : Int32} (h : fX8_findingOf σ t0 a1 a2 = v0) : MS G d yX8_findingOf cX8_findingOf 3 (some .int) [.ref (G.2.1 (6, t0)), .int a1, .int a2] σ (some (.int v0)) σ := by
  refine MS_of (by decide) (Nat.le_of_ble_eq_true rfl) rfl (fun K hG hnL C hR hK => ?_) (by omega)
  subst hG
  show TW K 0 [(0, rv K (6, t0)), (1, .int a1), (2, .int a2)] [] σ
  unfold fX8_findingOf at h
  refine tw_aload_n (i := 0) (z := 0) (r := (6, t0)) C dX8_findingOf_0 rfl rfl ?_
  refine tw_getI C fl_RX8_127 rfl (wcells_mem (f := 6) (j := t0) (by decide) h0) rfl dX8_findingOf_1 ?_
  refine tw_if_eq (tgt := 9) C dX8_findingOf_4 (by decide) (fun hc1 => ?_) (fun hc1 => ?_)
  · have ht1 := ite_t hc1 h
    refine tw_aload_n (i := 0) (z := 0) (r := (6, t0)) C dX8_findingOf_9 rfl rfl ?_
    refine tw_getI C fl_RX8_321 rfl (wcells_mem (f := 6) (j := t0) (by decide) h0) rfl dX8_findingOf_10 ?_
    refine tw_iload_n (i := 1) (z := 1) C dX8_findingOf_13 rfl rfl ?_
    refine tw_ic_eq (tgt := 19) C dX8_findingOf_14 (by decide) (fun hc2 => ?_) (fun hc2 => ?_)
    · have ht2 := ite_t hc2 ht1
      refine tw_aload_n (i := 0) (z := 0) (r := (6, t0)) C dX8_findingOf_19 rfl rfl ?_
      refine tw_iload_n (i := 2) (z := 2) C dX8_findingOf_20 rfl rfl ?_
      refine tw_callV (As := [.int a2]) (rest := []) (r := (6, t0)) C hR (kX6_has K.1 _ (by omega) σ t0 a2 h0 rfl) mi_X6_has is_X6_has se_X6_has ml_RX8_350 (wcells_mem (f := 6) (j := t0) (by decide) h0) rfl rfl rfl rfl (Nat.le_of_ble_eq_true rfl) dX8_findingOf_21 ?_
      show TW K 24 [(0, rv K (6, t0)), (1, .int a1), (2, .int a2)] [.int (b2i (fX6_has σ t0 a2))] σ
      refine tw_if_eq (tgt := 31) C dX8_findingOf_24 (by decide) (fun hc3 => ?_) (fun hc3 => ?_)
      · have ht3 := ite_f (b2i_z hc3) ht2
        refine tw_iconst (v := 2) C dX8_findingOf_31 (by decide) ?_
        obtain rfl := ht3
        exact tw_iret C hK rfl rfl dX8_findingOf_32
      · have hf3 := ite_t (b2i_nz hc3) ht2
        refine tw_iconst (v := 0) C dX8_findingOf_27 (by decide) ?_
        refine tw_goto (tgt := 32) C dX8_findingOf_28 (by decide) ?_
        obtain rfl := hf3
        exact tw_iret C hK rfl rfl dX8_findingOf_32
    · have hf2 := ite_f hc2 ht1
      refine tw_iconst (v := 3) C dX8_findingOf_17 (by decide) ?_
      obtain rfl := hf2
      exact tw_iret C hK rfl rfl dX8_findingOf_18
  · have hf1 := ite_f hc1 h
    refine tw_iconst (v := 1) C dX8_findingOf_7 (by decide) ?_
    obtain rfl := hf1
    exact tw_iret C hK rfl rfl dX8_findingOf_8

set_option maxRecDepth 20000 in
def fX8_lay (σ : St) (a1 : Int32) (a2 : Int32) (a3 : Int32) (a4 : Int32) : Option (Int32 × St) :=
  if (fX8_isSheet a1) = true then
    if (fX8_isType a2) = true then
      grd (inb a1 4) (
      bnd (fX8_findingOf σ (tn a1) a2 a3) (fun x1 =>
      if x1 = 0 then
        grd (inb a1 4) (
        obi (fX6_setItem σ (tn a1) a3 a4) (fun σ1 =>
        some ((1 : Int32), σ1)))
      else
        bnd (fX8_refuse σ x1) (fun (x2, σ2) =>
        some (x2, σ2))))
    else
      some ((-2 : Int32), σ)
  else
    some ((-2 : Int32), σ)
set_option maxRecDepth 20000 in
set_option maxHeartbeats 4000000 in
theorem kX8_lay (G : Gx) (d : Nat) (hdp : 3 ≤ d) (σ : St) (a1 : Int32) (a2 : Int32) (a3 : Int32) (a4 : Int32)  {v0 : Int32} {σ' : St} (h : fX8_lay σ a1 a2 a3 a4 = some (v0, σ')) : MS G d yX8_lay cX8_lay 6 (some .int) [.ref (G.2.1 (8, 0)), .int a1, .int a2, .int a3, .int a4] σ (some (.int v0)) σ' := by
  refine MS_of (by decide) (Nat.le_of_ble_eq_true rfl) rfl (fun K hG hnL C hR hK => ?_) (by omega)
  subst hG
  show TW K 0 [(0, rv K (8, 0)), (1, .int a1), (2, .int a2), (3, .int a3), (4, .int a4)] [] σ
  unfold fX8_lay at h
  refine tw_iload_n (i := 1) (z := 1) C dX8_lay_0 rfl rfl ?_
  refine tw_callS (As := [.int a1]) (rest := []) C hR (kX8_isSheet K.1 _ (by omega) σ a1  rfl) mi_X8_isSheet st_X8_isSheet ml_RX8_124 rfl rfl (Nat.le_of_ble_eq_true rfl) dX8_lay_1 ?_
  show TW K 4 [(0, rv K (8, 0)), (1, .int a1), (2, .int a2), (3, .int a3), (4, .int a4)] [.int (b2i (fX8_isSheet a1))] σ
  refine tw_if_eq (tgt := 14) C dX8_lay_4 (by decide) (fun hc1 => ?_) (fun hc1 => ?_)
  · have ht1 := ite_f (b2i_z hc1) h
    refine tw_bipush (v := (-2)) C dX8_lay_14 (by decide) ?_
    obtain ⟨rfl, rfl⟩ := pj2 (Option.some.inj ht1)
    exact tw_iret C hK rfl rfl dX8_lay_16
  · have hf1 := ite_t (b2i_nz hc1) h
    refine tw_iload_n (i := 2) (z := 2) C dX8_lay_7 rfl rfl ?_
    refine tw_callS (As := [.int a2]) (rest := []) C hR (kX8_isType K.1 _ (by omega) σ a2  rfl) mi_X8_isType st_X8_isType ml_RX8_302 rfl rfl (Nat.le_of_ble_eq_true rfl) dX8_lay_8 ?_
    show TW K 11 [(0, rv K (8, 0)), (1, .int a1), (2, .int a2), (3, .int a3), (4, .int a4)] [.int (b2i (fX8_isType a2))] σ
    refine tw_if_ne (tgt := 17) C dX8_lay_11 (by decide) (fun hc2 => ?_) (fun hc2 => ?_)
    · have ht2 := ite_t (b2i_nz hc2) hf1
      refine tw_aload_n (i := 0) (z := 0) (r := (8, 0)) C dX8_lay_17 rfl rfl ?_
      refine tw_getR (g := 26) (z := 0) (j' := 0) C fl_RX8_29 rfl (wcells_mem (f := 8) (j := 0) (by decide) (by decide)) rfl rfl dX8_lay_18 ?_
      refine tw_iload_n (i := 1) (z := 1) C dX8_lay_21 rfl rfl ?_
      obtain ⟨hb3, eh3⟩ := grd_some ht2
      refine tw_aald (g := 6) C rfl 6 "ElevenCodes$Sheet" (fun _ => rfl) (by decide) (by decide) (wcells_mem (f := 26) (j := 0) (by decide) (by decide)) hb3 dX8_lay_22 ?_
      refine tw_iload_n (i := 2) (z := 2) C dX8_lay_23 rfl rfl ?_
      refine tw_iload_n (i := 3) (z := 3) C dX8_lay_24 rfl rfl ?_
      refine tw_callS (As := [rv K (6, (tn a1)), .int a2, .int a3]) (rest := []) C hR (kX8_findingOf K.1 _ (by omega) σ (tn a1) a2 a3 (inb_lt hb3) rfl) mi_X8_findingOf st_X8_findingOf ml_RX8_309 rfl rfl (Nat.le_of_ble_eq_true rfl) dX8_lay_25 ?_
      show TW K 28 [(0, rv K (8, 0)), (1, .int a1), (2, .int a2), (3, .int a3), (4, .int a4)] [.int (fX8_findingOf σ (tn a1) a2 a3)] σ
      obtain ⟨x1, ex4, eh4⟩ := bnd_ex eh3
      refine tw_topi ex4.symm ?_
      refine tw_istore (lv' := [(0, rv K (8, 0)), (1, .int a1), (2, .int a2), (3, .int a3), (4, .int a4), (5, .int x1)]) C [1, 2, 3, 4, 5, 0] dX8_lay_28 (by rw [hnL]; decide) rfl ?_
      refine tw_iload (i := 5) (z := 5) C dX8_lay_30 rfl ?_
      refine tw_if_eq (tgt := 42) C dX8_lay_32 (by decide) (fun hc5 => ?_) (fun hc5 => ?_)
      · have ht5 := ite_t hc5 eh4
        refine tw_aload_n (i := 0) (z := 0) (r := (8, 0)) C dX8_lay_42 rfl rfl ?_
        refine tw_getR (g := 26) (z := 0) (j' := 0) C fl_RX8_29 rfl (wcells_mem (f := 8) (j := 0) (by decide) (by decide)) rfl rfl dX8_lay_43 ?_
        refine tw_iload_n (i := 1) (z := 1) C dX8_lay_46 rfl rfl ?_
        obtain ⟨hb6, eh6⟩ := grd_some ht5
        refine tw_aald (g := 6) C rfl 6 "ElevenCodes$Sheet" (fun _ => rfl) (by decide) (by decide) (wcells_mem (f := 26) (j := 0) (by decide) (by decide)) hb6 dX8_lay_47 ?_
        refine tw_iload_n (i := 3) (z := 3) C dX8_lay_48 rfl rfl ?_
        refine tw_iload (i := 4) (z := 4) C dX8_lay_49 rfl ?_
        obtain ⟨σ1, hv7, eh7⟩ := obi_some eh6
        refine tw_callV (As := [.int a3, .int a4]) (rest := []) (r := (6, (tn a1))) C hR (kX6_setItem K.1 _ (by omega) _ (tn a1) a3 a4 (inb_lt hb6) hv7) mi_X6_setItem is_X6_setItem se_X6_setItem ml_RX8_313 (wcells_mem (f := 6) (j := (tn a1)) (by decide) (inb_lt hb6)) rfl rfl rfl rfl (Nat.le_of_ble_eq_true rfl) dX8_lay_51 ?_
        show TW K 54 [(0, rv K (8, 0)), (1, .int a1), (2, .int a2), (3, .int a3), (4, .int a4), (5, .int x1)] [] σ1
        refine tw_iconst (v := 1) C dX8_lay_54 (by decide) ?_
        obtain ⟨rfl, rfl⟩ := pj2 (Option.some.inj eh7)
        exact tw_iret C hK rfl rfl dX8_lay_55
      · have hf5 := ite_f hc5 eh4
        refine tw_aload_n (i := 0) (z := 0) (r := (8, 0)) C dX8_lay_35 rfl rfl ?_
        refine tw_iload (i := 5) (z := 5) C dX8_lay_36 rfl ?_
        obtain ⟨⟨x2, σ2⟩, hv8, eh8⟩ := bnd_ex hf5
        refine tw_callV (As := [.int x1]) (rest := []) (r := (8, 0)) C hR (kX8_refuse K.1 _ (by omega) _ x1  hv8) mi_X8_refuse is_X8_refuse se_X8_refuse ml_RX8_131 (wcells_mem (f := 8) (j := 0) (by decide) (by decide)) rfl rfl rfl rfl (Nat.le_of_ble_eq_true rfl) dX8_lay_38 ?_
        show TW K 41 [(0, rv K (8, 0)), (1, .int a1), (2, .int a2), (3, .int a3), (4, .int a4), (5, .int x1)] [.int x2] σ2
        obtain ⟨rfl, rfl⟩ := pj2 (Option.some.inj eh8)
        exact tw_iret C hK rfl rfl dX8_lay_41
    · have hf2 := ite_f (b2i_z hc2) hf1
      refine tw_bipush (v := (-2)) C dX8_lay_14 (by decide) ?_
      obtain ⟨rfl, rfl⟩ := pj2 (Option.some.inj hf2)
      exact tw_iret C hK rfl rfl dX8_lay_16

set_option maxRecDepth 20000 in
def fX8_get (σ : St) (a1 : Int32) (a2 : Int32) (a3 : Int32) : Option (Int32 × St) :=
  bj (if (fX8_isSheet a1) = true then
    if (fX8_isType a2) = true then
      grd (inb a1 4) (
      bnd (fX8_findingOf σ (tn a1) a2 a3) (fun x1 =>
      if x1 = 0 then
        grd (inb a1 4) (
        grd (inb a3 60) (
        some (.inl (σ (20, (tn a1)) (tn a3), σ))))
      else
        bnd (su σ (8, 0) 15 x1) (fun σ2 =>
        some (.inl ((-2147483648 : Int32), σ2)))))
    else
      some (.inr σ)
  else
    some (.inr σ)) (fun σ1 =>
  some ((-2147483648 : Int32), σ1))
set_option maxRecDepth 20000 in
set_option maxHeartbeats 4000000 in
theorem kX8_get (G : Gx) (d : Nat) (hdp : 3 ≤ d) (σ : St) (a1 : Int32) (a2 : Int32) (a3 : Int32)  {v0 : Int32} {σ' : St} (h : fX8_get σ a1 a2 a3 = some (v0, σ')) : MS G d yX8_get cX8_get 5 (some .int) [.ref (G.2.1 (8, 0)), .int a1, .int a2, .int a3] σ (some (.int v0)) σ' := by
  refine MS_of (by decide) (Nat.le_of_ble_eq_true rfl) rfl (fun K hG hnL C hR hK => ?_) (by omega)
  subst hG
  show TW K 0 [(0, rv K (8, 0)), (1, .int a1), (2, .int a2), (3, .int a3)] [] σ
  unfold fX8_get at h
  refine tw_iload_n (i := 1) (z := 1) C dX8_get_0 rfl rfl ?_
  refine tw_callS (As := [.int a1]) (rest := []) C hR (kX8_isSheet K.1 _ (by omega) σ a1  rfl) mi_X8_isSheet st_X8_isSheet ml_RX8_124 rfl rfl (Nat.le_of_ble_eq_true rfl) dX8_get_1 ?_
  show TW K 4 [(0, rv K (8, 0)), (1, .int a1), (2, .int a2), (3, .int a3)] [.int (b2i (fX8_isSheet a1))] σ
  obtain ⟨y1, hx1, hy1⟩ := bj_some h
  have hJ1 : ∀ (σ1 : St), y1 = .inr σ1 → TW K 14 [] [] σ1 := by
    intro σ1 ey1
    have hq1 := bj_r ey1 hy1
    refine tw_ldcw C cn_RX8_316 dX8_get_14 ?_
    obtain ⟨rfl, rfl⟩ := pj2 (Option.some.inj hq1)
    exact tw_iret C hK rfl rfl dX8_get_17
  refine tw_if_eq (tgt := 14) C dX8_get_4 (by decide) (fun hc2 => ?_) (fun hc2 => ?_)
  · have ht2 := ite_f (b2i_z hc2) hx1
    refine tw_sub [] rfl ?_
    exact hJ1 _ (Option.some.inj ht2).symm
  · have hf2 := ite_t (b2i_nz hc2) hx1
    refine tw_iload_n (i := 2) (z := 2) C dX8_get_7 rfl rfl ?_
    refine tw_callS (As := [.int a2]) (rest := []) C hR (kX8_isType K.1 _ (by omega) σ a2  rfl) mi_X8_isType st_X8_isType ml_RX8_302 rfl rfl (Nat.le_of_ble_eq_true rfl) dX8_get_8 ?_
    show TW K 11 [(0, rv K (8, 0)), (1, .int a1), (2, .int a2), (3, .int a3)] [.int (b2i (fX8_isType a2))] σ
    refine tw_if_ne (tgt := 18) C dX8_get_11 (by decide) (fun hc3 => ?_) (fun hc3 => ?_)
    · have ht3 := ite_t (b2i_nz hc3) hf2
      refine tw_aload_n (i := 0) (z := 0) (r := (8, 0)) C dX8_get_18 rfl rfl ?_
      refine tw_getR (g := 26) (z := 0) (j' := 0) C fl_RX8_29 rfl (wcells_mem (f := 8) (j := 0) (by decide) (by decide)) rfl rfl dX8_get_19 ?_
      refine tw_iload_n (i := 1) (z := 1) C dX8_get_22 rfl rfl ?_
      obtain ⟨hb4, eh4⟩ := grd_some ht3
      refine tw_aald (g := 6) C rfl 6 "ElevenCodes$Sheet" (fun _ => rfl) (by decide) (by decide) (wcells_mem (f := 26) (j := 0) (by decide) (by decide)) hb4 dX8_get_23 ?_
      refine tw_iload_n (i := 2) (z := 2) C dX8_get_24 rfl rfl ?_
      refine tw_iload_n (i := 3) (z := 3) C dX8_get_25 rfl rfl ?_
      refine tw_callS (As := [rv K (6, (tn a1)), .int a2, .int a3]) (rest := []) C hR (kX8_findingOf K.1 _ (by omega) σ (tn a1) a2 a3 (inb_lt hb4) rfl) mi_X8_findingOf st_X8_findingOf ml_RX8_309 rfl rfl (Nat.le_of_ble_eq_true rfl) dX8_get_26 ?_
      show TW K 29 [(0, rv K (8, 0)), (1, .int a1), (2, .int a2), (3, .int a3)] [.int (fX8_findingOf σ (tn a1) a2 a3)] σ
      obtain ⟨x1, ex5, eh5⟩ := bnd_ex eh4
      refine tw_topi ex5.symm ?_
      refine tw_istore (lv' := [(0, rv K (8, 0)), (1, .int a1), (2, .int a2), (3, .int a3), (4, .int x1)]) C [1, 2, 3, 4, 0] dX8_get_29 (by rw [hnL]; decide) rfl ?_
      refine tw_iload (i := 4) (z := 4) C dX8_get_31 rfl ?_
      refine tw_if_eq (tgt := 46) C dX8_get_33 (by decide) (fun hc6 => ?_) (fun hc6 => ?_)
      · have ht6 := ite_t hc6 eh5
        refine tw_aload_n (i := 0) (z := 0) (r := (8, 0)) C dX8_get_46 rfl rfl ?_
        refine tw_getR (g := 26) (z := 0) (j' := 0) C fl_RX8_29 rfl (wcells_mem (f := 8) (j := 0) (by decide) (by decide)) rfl rfl dX8_get_47 ?_
        refine tw_iload_n (i := 1) (z := 1) C dX8_get_50 rfl rfl ?_
        obtain ⟨hb7, eh7⟩ := grd_some ht6
        refine tw_aald (g := 6) C rfl 6 "ElevenCodes$Sheet" (fun _ => rfl) (by decide) (by decide) (wcells_mem (f := 26) (j := 0) (by decide) (by decide)) hb7 dX8_get_51 ?_
        refine tw_getR (g := 20) (z := 0) (j' := (tn a1)) C fl_RX8_320 rfl (wcells_mem (f := 6) (j := (tn a1)) (by decide) (inb_lt hb7)) rfl rfl dX8_get_52 ?_
        refine tw_iload_n (i := 3) (z := 3) C dX8_get_55 rfl rfl ?_
        obtain ⟨hb8, eh8⟩ := grd_some eh7
        refine tw_iald (r := (20, (tn a1))) C (ia_of rfl (inb_lt hb7)) hb8 dX8_get_56 ?_
        have e9 := bj_l eh8 hy1
        obtain ⟨rfl, rfl⟩ := pj2 (Option.some.inj e9)
        exact tw_iret C hK rfl rfl dX8_get_57
      · have hf6 := ite_f hc6 eh5
        refine tw_aload_n (i := 0) (z := 0) (r := (8, 0)) C dX8_get_36 rfl rfl ?_
        refine tw_iload (i := 4) (z := 4) C dX8_get_37 rfl ?_
        obtain ⟨σ2, es10, eh10⟩ := bnd_ex hf6
        refine tw_put C fl_RX8_317 (fun q hq => by cases hq; rfl) rfl (wcells_mem (f := 8) (j := 0) (by decide) (by decide)) rfl rfl rfl dX8_get_39 ?_
        rw [es10]
        refine tw_ldcw C cn_RX8_316 dX8_get_42 ?_
        have e11 := bj_l eh10 hy1
        obtain ⟨rfl, rfl⟩ := pj2 (Option.some.inj e11)
        exact tw_iret C hK rfl rfl dX8_get_45
    · have hf3 := ite_f (b2i_z hc3) hf2
      refine tw_sub [] rfl ?_
      exact hJ1 _ (Option.some.inj hf3).symm

set_option maxRecDepth 20000 in
def fX8_copy (σ : St) (a1 : Int32) (a2 : Int32) (a3 : Int32) (a4 : Int32) (a5 : Int32) : Option (Int32 × St) :=
  if (fX8_isSheet a1) = true then
    if (fX8_isSheet a3) = true then
      grd (inb a1 4) (
      bj (if (σ (6, (tn a1)) 1) = 0 then
        grd (inb a3 4) (
        if (σ (6, (tn a3)) 1) = 0 then
          grd (inb a1 4) (
          grd (inb a3 4) (
          if (σ (6, (tn a1)) 2) = (σ (6, (tn a3)) 2) then
            grd (inb a1 4) (
            bj (if (fX6_hasRow σ (tn a1) a2 a5) = true then
              grd (inb a3 4) (
              if (fX6_hasRow σ (tn a3) a4 a5) = true then
                grd (inb a1 4) (
                grd (inb a3 4) (
                grd (acpOk (20, (tn a1)) a2 (20, (tn a3)) a4 a5) (bnd (acp σ (20, (tn a1)) a2 (20, (tn a3)) a4 a5) (fun σ3 =>
                some (.inl (.inl ((1 : Int32), σ3)))))))
              else
                some (.inr σ))
            else
              some (.inr σ)) (fun σ2 =>
            bnd (fX8_refuse σ2 (2 : Int32)) (fun (x1, σ4) =>
            some (.inl (x1, σ4)))))
          else
            bnd (fX8_refuse σ (4 : Int32)) (fun (x2, σ5) =>
            some (.inl (x2, σ5)))))
        else
          some (.inr σ))
      else
        some (.inr σ)) (fun σ1 =>
      bnd (fX8_refuse σ1 (1 : Int32)) (fun (x3, σ6) =>
      some (x3, σ6))))
    else
      some ((-2 : Int32), σ)
  else
    some ((-2 : Int32), σ)
set_option maxRecDepth 20000 in
set_option maxHeartbeats 4000000 in
theorem kX8_copy (G : Gx) (d : Nat) (hdp : 2 ≤ d) (σ : St) (a1 : Int32) (a2 : Int32) (a3 : Int32) (a4 : Int32) (a5 : Int32)  {v0 : Int32} {σ' : St} (h : fX8_copy σ a1 a2 a3 a4 a5 = some (v0, σ')) : MS G d yX8_copy cX8_copy 6 (some .int) [.ref (G.2.1 (8, 0)), .int a1, .int a2, .int a3, .int a4, .int a5] σ (some (.int v0)) σ' := by
  refine MS_of (by decide) (Nat.le_of_ble_eq_true rfl) rfl (fun K hG hnL C hR hK => ?_) (by omega)
  subst hG
  show TW K 0 [(0, rv K (8, 0)), (1, .int a1), (2, .int a2), (3, .int a3), (4, .int a4), (5, .int a5)] [] σ
  unfold fX8_copy at h
  refine tw_iload_n (i := 1) (z := 1) C dX8_copy_0 rfl rfl ?_
  refine tw_callS (As := [.int a1]) (rest := []) C hR (kX8_isSheet K.1 _ (by omega) σ a1  rfl) mi_X8_isSheet st_X8_isSheet ml_RX8_124 rfl rfl (Nat.le_of_ble_eq_true rfl) dX8_copy_1 ?_
  show TW K 4 [(0, rv K (8, 0)), (1, .int a1), (2, .int a2), (3, .int a3), (4, .int a4), (5, .int a5)] [.int (b2i (fX8_isSheet a1))] σ
  refine tw_if_eq (tgt := 14) C dX8_copy_4 (by decide) (fun hc1 => ?_) (fun hc1 => ?_)
  · have ht1 := ite_f (b2i_z hc1) h
    refine tw_bipush (v := (-2)) C dX8_copy_14 (by decide) ?_
    obtain ⟨rfl, rfl⟩ := pj2 (Option.some.inj ht1)
    exact tw_iret C hK rfl rfl dX8_copy_16
  · have hf1 := ite_t (b2i_nz hc1) h
    refine tw_iload_n (i := 3) (z := 3) C dX8_copy_7 rfl rfl ?_
    refine tw_callS (As := [.int a3]) (rest := []) C hR (kX8_isSheet K.1 _ (by omega) σ a3  rfl) mi_X8_isSheet st_X8_isSheet ml_RX8_124 rfl rfl (Nat.le_of_ble_eq_true rfl) dX8_copy_8 ?_
    show TW K 11 [(0, rv K (8, 0)), (1, .int a1), (2, .int a2), (3, .int a3), (4, .int a4), (5, .int a5)] [.int (b2i (fX8_isSheet a3))] σ
    refine tw_if_ne (tgt := 17) C dX8_copy_11 (by decide) (fun hc2 => ?_) (fun hc2 => ?_)
    · have ht2 := ite_t (b2i_nz hc2) hf1
      refine tw_aload_n (i := 0) (z := 0) (r := (8, 0)) C dX8_copy_17 rfl rfl ?_
      refine tw_getR (g := 26) (z := 0) (j' := 0) C fl_RX8_29 rfl (wcells_mem (f := 8) (j := 0) (by decide) (by decide)) rfl rfl dX8_copy_18 ?_
      refine tw_iload_n (i := 1) (z := 1) C dX8_copy_21 rfl rfl ?_
      obtain ⟨hb3, eh3⟩ := grd_some ht2
      refine tw_aald (g := 6) C rfl 6 "ElevenCodes$Sheet" (fun _ => rfl) (by decide) (by decide) (wcells_mem (f := 26) (j := 0) (by decide) (by decide)) hb3 dX8_copy_22 ?_
      refine tw_getI C fl_RX8_127 rfl (wcells_mem (f := 6) (j := (tn a1)) (by decide) (inb_lt hb3)) rfl dX8_copy_23 ?_
      obtain ⟨y4, hx4, hy4⟩ := bj_some eh3
      have hJ4 : ∀ (σ1 : St), y4 = .inr σ1 → TW K 41 [(0, rv K (8, 0))] [] σ1 := by
        intro σ1 ey4
        have hq4 := bj_r ey4 hy4
        refine tw_aload_n (i := 0) (z := 0) (r := (8, 0)) C dX8_copy_41 rfl rfl ?_
        refine tw_iconst (v := 1) C dX8_copy_42 (by decide) ?_
        obtain ⟨⟨x3, σ6⟩, hv26, eh26⟩ := bnd_ex hq4
        refine tw_callV (As := [.int (1 : Int32)]) (rest := []) (r := (8, 0)) C hR (kX8_refuse K.1 _ (by omega) _ (1 : Int32)  hv26) mi_X8_refuse is_X8_refuse se_X8_refuse ml_RX8_131 (wcells_mem (f := 8) (j := 0) (by decide) (by decide)) rfl rfl rfl rfl (Nat.le_of_ble_eq_true rfl) dX8_copy_43 ?_
        show TW K 46 [(0, rv K (8, 0))] [.int x3] σ6
        obtain ⟨rfl, rfl⟩ := pj2 (Option.some.inj eh26)
        exact tw_iret C hK rfl rfl dX8_copy_46
      refine tw_if_ne (tgt := 41) C dX8_copy_26 (by decide) (fun hc5 => ?_) (fun hc5 => ?_)
      · have ht5 := ite_f hc5 hx4
        refine tw_sub [0] rfl ?_
        exact hJ4 _ (Option.some.inj ht5).symm
      · have hf5 := ite_t hc5 hx4
        refine tw_aload_n (i := 0) (z := 0) (r := (8, 0)) C dX8_copy_29 rfl rfl ?_
        refine tw_getR (g := 26) (z := 0) (j' := 0) C fl_RX8_29 rfl (wcells_mem (f := 8) (j := 0) (by decide) (by decide)) rfl rfl dX8_copy_30 ?_
        refine tw_iload_n (i := 3) (z := 3) C dX8_copy_33 rfl rfl ?_
        obtain ⟨hb6, eh6⟩ := grd_some hf5
        refine tw_aald (g := 6) C rfl 6 "ElevenCodes$Sheet" (fun _ => rfl) (by decide) (by decide) (wcells_mem (f := 26) (j := 0) (by decide) (by decide)) hb6 dX8_copy_34 ?_
        refine tw_getI C fl_RX8_127 rfl (wcells_mem (f := 6) (j := (tn a3)) (by decide) (inb_lt hb6)) rfl dX8_copy_35 ?_
        refine tw_if_eq (tgt := 47) C dX8_copy_38 (by decide) (fun hc7 => ?_) (fun hc7 => ?_)
        · have ht7 := ite_t hc7 eh6
          refine tw_aload_n (i := 0) (z := 0) (r := (8, 0)) C dX8_copy_47 rfl rfl ?_
          refine tw_getR (g := 26) (z := 0) (j' := 0) C fl_RX8_29 rfl (wcells_mem (f := 8) (j := 0) (by decide) (by decide)) rfl rfl dX8_copy_48 ?_
          refine tw_iload_n (i := 1) (z := 1) C dX8_copy_51 rfl rfl ?_
          obtain ⟨hb8, eh8⟩ := grd_some ht7
          refine tw_aald (g := 6) C rfl 6 "ElevenCodes$Sheet" (fun _ => rfl) (by decide) (by decide) (wcells_mem (f := 26) (j := 0) (by decide) (by decide)) hb8 dX8_copy_52 ?_
          refine tw_getI C fl_RX8_321 rfl (wcells_mem (f := 6) (j := (tn a1)) (by decide) (inb_lt hb8)) rfl dX8_copy_53 ?_
          refine tw_aload_n (i := 0) (z := 0) (r := (8, 0)) C dX8_copy_56 rfl rfl ?_
          refine tw_getR (g := 26) (z := 0) (j' := 0) C fl_RX8_29 rfl (wcells_mem (f := 8) (j := 0) (by decide) (by decide)) rfl rfl dX8_copy_57 ?_
          refine tw_iload_n (i := 3) (z := 3) C dX8_copy_60 rfl rfl ?_
          obtain ⟨hb9, eh9⟩ := grd_some eh8
          refine tw_aald (g := 6) C rfl 6 "ElevenCodes$Sheet" (fun _ => rfl) (by decide) (by decide) (wcells_mem (f := 26) (j := 0) (by decide) (by decide)) hb9 dX8_copy_61 ?_
          refine tw_getI C fl_RX8_321 rfl (wcells_mem (f := 6) (j := (tn a3)) (by decide) (inb_lt hb9)) rfl dX8_copy_62 ?_
          refine tw_ic_eq (tgt := 74) C dX8_copy_65 (by decide) (fun hc10 => ?_) (fun hc10 => ?_)
          · have ht10 := ite_t hc10 eh9
            refine tw_aload_n (i := 0) (z := 0) (r := (8, 0)) C dX8_copy_74 rfl rfl ?_
            refine tw_getR (g := 26) (z := 0) (j' := 0) C fl_RX8_29 rfl (wcells_mem (f := 8) (j := 0) (by decide) (by decide)) rfl rfl dX8_copy_75 ?_
            refine tw_iload_n (i := 1) (z := 1) C dX8_copy_78 rfl rfl ?_
            obtain ⟨hb11, eh11⟩ := grd_some ht10
            refine tw_aald (g := 6) C rfl 6 "ElevenCodes$Sheet" (fun _ => rfl) (by decide) (by decide) (wcells_mem (f := 26) (j := 0) (by decide) (by decide)) hb11 dX8_copy_79 ?_
            refine tw_iload_n (i := 2) (z := 2) C dX8_copy_80 rfl rfl ?_
            refine tw_iload (i := 5) (z := 5) C dX8_copy_81 rfl ?_
            refine tw_callV (As := [.int a2, .int a5]) (rest := []) (r := (6, (tn a1))) C hR (kX6_hasRow K.1 _ (by omega) σ (tn a1) a2 a5 (inb_lt hb11) rfl) mi_X6_hasRow is_X6_hasRow se_X6_hasRow ml_RX8_324 (wcells_mem (f := 6) (j := (tn a1)) (by decide) (inb_lt hb11)) rfl rfl rfl rfl (Nat.le_of_ble_eq_true rfl) dX8_copy_83 ?_
            show TW K 86 [(0, rv K (8, 0)), (1, .int a1), (2, .int a2), (3, .int a3), (4, .int a4), (5, .int a5)] [.int (b2i (fX6_hasRow σ (tn a1) a2 a5))] σ
            obtain ⟨y12, hx12, hy12⟩ := bj_some eh11
            have hJ12 : ∀ (σ2 : St), y12 = .inr σ2 → TW K 105 [(0, rv K (8, 0))] [] σ2 := by
              intro σ2 ey12
              have hq12 := bj_r ey12 hy12
              refine tw_aload_n (i := 0) (z := 0) (r := (8, 0)) C dX8_copy_105 rfl rfl ?_
              refine tw_iconst (v := 2) C dX8_copy_106 (by decide) ?_
              obtain ⟨⟨x1, σ4⟩, hv22, eh22⟩ := bnd_ex hq12
              refine tw_callV (As := [.int (2 : Int32)]) (rest := []) (r := (8, 0)) C hR (kX8_refuse K.1 _ (by omega) _ (2 : Int32)  hv22) mi_X8_refuse is_X8_refuse se_X8_refuse ml_RX8_131 (wcells_mem (f := 8) (j := 0) (by decide) (by decide)) rfl rfl rfl rfl (Nat.le_of_ble_eq_true rfl) dX8_copy_107 ?_
              show TW K 110 [(0, rv K (8, 0))] [.int x1] σ4
              have e23 := bj_l eh22 hy4
              obtain ⟨rfl, rfl⟩ := pj2 (Option.some.inj e23)
              exact tw_iret C hK rfl rfl dX8_copy_110
            refine tw_if_eq (tgt := 105) C dX8_copy_86 (by decide) (fun hc13 => ?_) (fun hc13 => ?_)
            · have ht13 := ite_f (b2i_z hc13) hx12
              refine tw_sub [0] rfl ?_
              exact hJ12 _ (Option.some.inj ht13).symm
            · have hf13 := ite_t (b2i_nz hc13) hx12
              refine tw_aload_n (i := 0) (z := 0) (r := (8, 0)) C dX8_copy_89 rfl rfl ?_
              refine tw_getR (g := 26) (z := 0) (j' := 0) C fl_RX8_29 rfl (wcells_mem (f := 8) (j := 0) (by decide) (by decide)) rfl rfl dX8_copy_90 ?_
              refine tw_iload_n (i := 3) (z := 3) C dX8_copy_93 rfl rfl ?_
              obtain ⟨hb14, eh14⟩ := grd_some hf13
              refine tw_aald (g := 6) C rfl 6 "ElevenCodes$Sheet" (fun _ => rfl) (by decide) (by decide) (wcells_mem (f := 26) (j := 0) (by decide) (by decide)) hb14 dX8_copy_94 ?_
              refine tw_iload (i := 4) (z := 4) C dX8_copy_95 rfl ?_
              refine tw_iload (i := 5) (z := 5) C dX8_copy_97 rfl ?_
              refine tw_callV (As := [.int a4, .int a5]) (rest := []) (r := (6, (tn a3))) C hR (kX6_hasRow K.1 _ (by omega) σ (tn a3) a4 a5 (inb_lt hb14) rfl) mi_X6_hasRow is_X6_hasRow se_X6_hasRow ml_RX8_324 (wcells_mem (f := 6) (j := (tn a3)) (by decide) (inb_lt hb14)) rfl rfl rfl rfl (Nat.le_of_ble_eq_true rfl) dX8_copy_99 ?_
              show TW K 102 [(0, rv K (8, 0)), (1, .int a1), (2, .int a2), (3, .int a3), (4, .int a4), (5, .int a5)] [.int (b2i (fX6_hasRow σ (tn a3) a4 a5))] σ
              refine tw_if_ne (tgt := 111) C dX8_copy_102 (by decide) (fun hc15 => ?_) (fun hc15 => ?_)
              · have ht15 := ite_t (b2i_nz hc15) eh14
                refine tw_aload_n (i := 0) (z := 0) (r := (8, 0)) C dX8_copy_111 rfl rfl ?_
                refine tw_getR (g := 26) (z := 0) (j' := 0) C fl_RX8_29 rfl (wcells_mem (f := 8) (j := 0) (by decide) (by decide)) rfl rfl dX8_copy_112 ?_
                refine tw_iload_n (i := 1) (z := 1) C dX8_copy_115 rfl rfl ?_
                obtain ⟨hb16, eh16⟩ := grd_some ht15
                refine tw_aald (g := 6) C rfl 6 "ElevenCodes$Sheet" (fun _ => rfl) (by decide) (by decide) (wcells_mem (f := 26) (j := 0) (by decide) (by decide)) hb16 dX8_copy_116 ?_
                refine tw_getR (g := 20) (z := 0) (j' := (tn a1)) C fl_RX8_320 rfl (wcells_mem (f := 6) (j := (tn a1)) (by decide) (inb_lt hb16)) rfl rfl dX8_copy_117 ?_
                refine tw_iload_n (i := 2) (z := 2) C dX8_copy_120 rfl rfl ?_
                refine tw_aload_n (i := 0) (z := 0) (r := (8, 0)) C dX8_copy_121 rfl rfl ?_
                refine tw_getR (g := 26) (z := 0) (j' := 0) C fl_RX8_29 rfl (wcells_mem (f := 8) (j := 0) (by decide) (by decide)) rfl rfl dX8_copy_122 ?_
                refine tw_iload_n (i := 3) (z := 3) C dX8_copy_125 rfl rfl ?_
                obtain ⟨hb17, eh17⟩ := grd_some eh16
                refine tw_aald (g := 6) C rfl 6 "ElevenCodes$Sheet" (fun _ => rfl) (by decide) (by decide) (wcells_mem (f := 26) (j := 0) (by decide) (by decide)) hb17 dX8_copy_126 ?_
                refine tw_getR (g := 20) (z := 0) (j' := (tn a3)) C fl_RX8_320 rfl (wcells_mem (f := 6) (j := (tn a3)) (by decide) (inb_lt hb17)) rfl rfl dX8_copy_127 ?_
                refine tw_iload (i := 4) (z := 4) C dX8_copy_130 rfl ?_
                refine tw_iload (i := 5) (z := 5) C dX8_copy_132 rfl ?_
                obtain ⟨hb18, eh18⟩ := grd_some eh17
                obtain ⟨σ3, es19, eg19⟩ := bnd_ex eh18
                refine tw_acp (r := (20, (tn a1))) (q := (20, (tn a3))) C hR hb18 ml_RX8_247 nt_acp st_acp in_System (Nat.le_of_ble_eq_true rfl) dX8_copy_134 ?_
                rw [es19]
                refine tw_iconst (v := 1) C dX8_copy_137 (by decide) ?_
                have e20 := bj_l eg19 hy12
                have e21 := bj_l e20 hy4
                obtain ⟨rfl, rfl⟩ := pj2 (Option.some.inj e21)
                exact tw_iret C hK rfl rfl dX8_copy_138
              · have hf15 := ite_f (b2i_z hc15) eh14
                refine tw_sub [0] rfl ?_
                exact hJ12 _ (Option.some.inj hf15).symm
          · have hf10 := ite_f hc10 eh9
            refine tw_aload_n (i := 0) (z := 0) (r := (8, 0)) C dX8_copy_68 rfl rfl ?_
            refine tw_iconst (v := 4) C dX8_copy_69 (by decide) ?_
            obtain ⟨⟨x2, σ5⟩, hv24, eh24⟩ := bnd_ex hf10
            refine tw_callV (As := [.int (4 : Int32)]) (rest := []) (r := (8, 0)) C hR (kX8_refuse K.1 _ (by omega) _ (4 : Int32)  hv24) mi_X8_refuse is_X8_refuse se_X8_refuse ml_RX8_131 (wcells_mem (f := 8) (j := 0) (by decide) (by decide)) rfl rfl rfl rfl (Nat.le_of_ble_eq_true rfl) dX8_copy_70 ?_
            show TW K 73 [(0, rv K (8, 0)), (1, .int a1), (2, .int a2), (3, .int a3), (4, .int a4), (5, .int a5)] [.int x2] σ5
            have e25 := bj_l eh24 hy4
            obtain ⟨rfl, rfl⟩ := pj2 (Option.some.inj e25)
            exact tw_iret C hK rfl rfl dX8_copy_73
        · have hf7 := ite_f hc7 eh6
          refine tw_sub [0] rfl ?_
          exact hJ4 _ (Option.some.inj hf7).symm
    · have hf2 := ite_f (b2i_z hc2) hf1
      refine tw_bipush (v := (-2)) C dX8_copy_14 (by decide) ?_
      obtain ⟨rfl, rfl⟩ := pj2 (Option.some.inj hf2)
      exact tw_iret C hK rfl rfl dX8_copy_16

set_option maxRecDepth 20000 in
def fX8_write (σ : St) (a1 : Int32) (a2 : Int32) (a3 : Int32) : Option (Int32 × St) :=
  if (fX8_isCode a1) = true then
    if (fX8_isCode a2) = true then
      if (fX8_isSheet a3) = true then
        grd (inb a3 4) (
        if (σ (6, (tn a3)) 1) = 0 then
          grd (inb a1 11) (
          grd (inb a2 11) (
          obi (fX5_part σ (11, (tn a1)) (11, (tn a2))) (fun σ1 =>
          grd (inb a3 4) (
          bnd (mmin (σ1 (5, 0) 7) (σ1 (6, (tn a3)) 3)) (fun x1 =>
          lpF (fun (q11 : Int32 × St) => match q11 with
          | (x2, σ2) =>
          if x1 ≤ x2 then
            some (.inr ((x1, σ2)))
          else
            grd (inb a3 4) (
            grd (inb x2 6) (
            obi (fX6_setItem σ2 (tn a3) x2 (σ2 (19, 0) (tn x2))) (fun σ3 =>
            bnd (x2 + 1) (fun x3 =>
            some (.inl (x3, σ3))))))) ((0 : Int32), σ1))))))
        else
          bnd (fX8_refuse σ (1 : Int32)) (fun (x4, σ4) =>
          some (x4, σ4)))
      else
        some ((-2 : Int32), σ)
    else
      some ((-2 : Int32), σ)
  else
    some ((-2 : Int32), σ)
set_option maxRecDepth 20000 in
set_option maxHeartbeats 4000000 in
theorem kX8_write (G : Gx) (d : Nat) (hdp : 5 ≤ d) (σ : St) (a1 : Int32) (a2 : Int32) (a3 : Int32)  {v0 : Int32} {σ' : St} (h : fX8_write σ a1 a2 a3 = some (v0, σ')) : MS G d yX8_write cX8_write 6 (some .int) [.ref (G.2.1 (8, 0)), .int a1, .int a2, .int a3] σ (some (.int v0)) σ' := by
  refine MS_of (by decide) (Nat.le_of_ble_eq_true rfl) rfl (fun K hG hnL C hR hK => ?_) (by omega)
  subst hG
  show TW K 0 [(0, rv K (8, 0)), (1, .int a1), (2, .int a2), (3, .int a3)] [] σ
  unfold fX8_write at h
  refine tw_iload_n (i := 1) (z := 1) C dX8_write_0 rfl rfl ?_
  refine tw_callS (As := [.int a1]) (rest := []) C hR (kX8_isCode K.1 _ (by omega) σ a1  rfl) mi_X8_isCode st_X8_isCode ml_RX8_90 rfl rfl (Nat.le_of_ble_eq_true rfl) dX8_write_1 ?_
  show TW K 4 [(0, rv K (8, 0)), (1, .int a1), (2, .int a2), (3, .int a3)] [.int (b2i (fX8_isCode a1))] σ
  refine tw_if_eq (tgt := 21) C dX8_write_4 (by decide) (fun hc1 => ?_) (fun hc1 => ?_)
  · have ht1 := ite_f (b2i_z hc1) h
    refine tw_bipush (v := (-2)) C dX8_write_21 (by decide) ?_
    obtain ⟨rfl, rfl⟩ := pj2 (Option.some.inj ht1)
    exact tw_iret C hK rfl rfl dX8_write_23
  · have hf1 := ite_t (b2i_nz hc1) h
    refine tw_iload_n (i := 2) (z := 2) C dX8_write_7 rfl rfl ?_
    refine tw_callS (As := [.int a2]) (rest := []) C hR (kX8_isCode K.1 _ (by omega) σ a2  rfl) mi_X8_isCode st_X8_isCode ml_RX8_90 rfl rfl (Nat.le_of_ble_eq_true rfl) dX8_write_8 ?_
    show TW K 11 [(0, rv K (8, 0)), (1, .int a1), (2, .int a2), (3, .int a3)] [.int (b2i (fX8_isCode a2))] σ
    refine tw_if_eq (tgt := 21) C dX8_write_11 (by decide) (fun hc2 => ?_) (fun hc2 => ?_)
    · have ht2 := ite_f (b2i_z hc2) hf1
      refine tw_bipush (v := (-2)) C dX8_write_21 (by decide) ?_
      obtain ⟨rfl, rfl⟩ := pj2 (Option.some.inj ht2)
      exact tw_iret C hK rfl rfl dX8_write_23
    · have hf2 := ite_t (b2i_nz hc2) hf1
      refine tw_iload_n (i := 3) (z := 3) C dX8_write_14 rfl rfl ?_
      refine tw_callS (As := [.int a3]) (rest := []) C hR (kX8_isSheet K.1 _ (by omega) σ a3  rfl) mi_X8_isSheet st_X8_isSheet ml_RX8_124 rfl rfl (Nat.le_of_ble_eq_true rfl) dX8_write_15 ?_
      show TW K 18 [(0, rv K (8, 0)), (1, .int a1), (2, .int a2), (3, .int a3)] [.int (b2i (fX8_isSheet a3))] σ
      refine tw_if_ne (tgt := 24) C dX8_write_18 (by decide) (fun hc3 => ?_) (fun hc3 => ?_)
      · have ht3 := ite_t (b2i_nz hc3) hf2
        refine tw_aload_n (i := 0) (z := 0) (r := (8, 0)) C dX8_write_24 rfl rfl ?_
        refine tw_getR (g := 26) (z := 0) (j' := 0) C fl_RX8_29 rfl (wcells_mem (f := 8) (j := 0) (by decide) (by decide)) rfl rfl dX8_write_25 ?_
        refine tw_iload_n (i := 3) (z := 3) C dX8_write_28 rfl rfl ?_
        obtain ⟨hb4, eh4⟩ := grd_some ht3
        refine tw_aald (g := 6) C rfl 6 "ElevenCodes$Sheet" (fun _ => rfl) (by decide) (by decide) (wcells_mem (f := 26) (j := 0) (by decide) (by decide)) hb4 dX8_write_29 ?_
        refine tw_getI C fl_RX8_127 rfl (wcells_mem (f := 6) (j := (tn a3)) (by decide) (inb_lt hb4)) rfl dX8_write_30 ?_
        refine tw_if_eq (tgt := 42) C dX8_write_33 (by decide) (fun hc5 => ?_) (fun hc5 => ?_)
        · have ht5 := ite_t hc5 eh4
          refine tw_aload_n (i := 0) (z := 0) (r := (8, 0)) C dX8_write_42 rfl rfl ?_
          refine tw_getR (g := 5) (z := 0) (j' := 0) C fl_RX8_58 rfl (wcells_mem (f := 8) (j := 0) (by decide) (by decide)) rfl rfl dX8_write_43 ?_
          refine tw_aload_n (i := 0) (z := 0) (r := (8, 0)) C dX8_write_46 rfl rfl ?_
          refine tw_getR (g := 23) (z := 0) (j' := 0) C fl_RX8_11 rfl (wcells_mem (f := 8) (j := 0) (by decide) (by decide)) rfl rfl dX8_write_47 ?_
          refine tw_iload_n (i := 1) (z := 1) C dX8_write_50 rfl rfl ?_
          obtain ⟨hb6, eh6⟩ := grd_some ht5
          refine tw_aald (g := 1) C rfl 3 "ElevenCodes$Code" (fun _ => rfl) (by decide) (by decide) (wcells_mem (f := 23) (j := 0) (by decide) (by decide)) hb6 dX8_write_51 ?_
          refine tw_getR (g := 11) (z := 0) (j' := (tn a1)) C fl_RX8_108 rfl (wcells_mem (f := 1) (j := (tn a1)) (by decide) (inb_lt hb6)) rfl rfl dX8_write_52 ?_
          refine tw_aload_n (i := 0) (z := 0) (r := (8, 0)) C dX8_write_55 rfl rfl ?_
          refine tw_getR (g := 23) (z := 0) (j' := 0) C fl_RX8_11 rfl (wcells_mem (f := 8) (j := 0) (by decide) (by decide)) rfl rfl dX8_write_56 ?_
          refine tw_iload_n (i := 2) (z := 2) C dX8_write_59 rfl rfl ?_
          obtain ⟨hb7, eh7⟩ := grd_some eh6
          refine tw_aald (g := 1) C rfl 3 "ElevenCodes$Code" (fun _ => rfl) (by decide) (by decide) (wcells_mem (f := 23) (j := 0) (by decide) (by decide)) hb7 dX8_write_60 ?_
          refine tw_getR (g := 11) (z := 0) (j' := (tn a2)) C fl_RX8_108 rfl (wcells_mem (f := 1) (j := (tn a2)) (by decide) (inb_lt hb7)) rfl rfl dX8_write_61 ?_
          obtain ⟨σ1, hv8, eh8⟩ := obi_some eh7
          refine tw_callV (As := [rv K (11, (tn a1)), rv K (11, (tn a2))]) (rest := []) (r := (5, 0)) C hR (kX5_part K.1 _ (by omega) _ (11, (tn a1)) (11, (tn a2))  hv8) mi_X5_part is_X5_part se_X5_part ml_RX8_191 (wcells_mem (f := 5) (j := 0) (by decide) (by decide)) rfl rfl rfl rfl (Nat.le_of_ble_eq_true rfl) dX8_write_64 ?_
          show TW K 67 [(0, rv K (8, 0)), (1, .int a1), (2, .int a2), (3, .int a3)] [] σ1
          refine tw_aload_n (i := 0) (z := 0) (r := (8, 0)) C dX8_write_67 rfl rfl ?_
          refine tw_getR (g := 5) (z := 0) (j' := 0) C fl_RX8_58 rfl (wcells_mem (f := 8) (j := 0) (by decide) (by decide)) rfl rfl dX8_write_68 ?_
          refine tw_getI C fl_RX8_195 rfl (wcells_mem (f := 5) (j := 0) (by decide) (by decide)) rfl dX8_write_71 ?_
          refine tw_aload_n (i := 0) (z := 0) (r := (8, 0)) C dX8_write_74 rfl rfl ?_
          refine tw_getR (g := 26) (z := 0) (j' := 0) C fl_RX8_29 rfl (wcells_mem (f := 8) (j := 0) (by decide) (by decide)) rfl rfl dX8_write_75 ?_
          refine tw_iload_n (i := 3) (z := 3) C dX8_write_78 rfl rfl ?_
          obtain ⟨hb9, eh9⟩ := grd_some eh8
          refine tw_aald (g := 6) C rfl 6 "ElevenCodes$Sheet" (fun _ => rfl) (by decide) (by decide) (wcells_mem (f := 26) (j := 0) (by decide) (by decide)) hb9 dX8_write_79 ?_
          refine tw_getI C fl_RX8_134 rfl (wcells_mem (f := 6) (j := (tn a3)) (by decide) (inb_lt hb9)) rfl dX8_write_80 ?_
          refine tw_mmin C hR ml_RX8_228 st_mmin in_Math cw_mmin (Nat.le_of_ble_eq_true rfl) dX8_write_83 ?_
          obtain ⟨x1, ex10, eh10⟩ := bnd_ex eh9
          refine tw_topi ex10.symm ?_
          refine tw_istore (lv' := [(0, rv K (8, 0)), (1, .int a1), (2, .int a2), (3, .int a3), (4, .int x1)]) C [1, 2, 3, 4, 0] dX8_write_86 (by rw [hnL]; decide) rfl ?_
          refine tw_iconst (v := 0) C dX8_write_88 (by decide) ?_
          refine tw_istore (lv' := [(0, rv K (8, 0)), (1, .int a1), (2, .int a2), (3, .int a3), (4, .int x1), (5, .int (0 : Int32))]) C [1, 2, 3, 4, 5, 0] dX8_write_89 (by rw [hnL]; decide) rfl ?_
          refine tw_sub [0, 3, 4, 5] rfl ?_
          refine lpF_ct (G := fun (q : Int32 × St) => match q with | (x2, σ2) => TW K 91 [(0, rv K (8, 0)), (3, .int a3), (4, .int x1), (5, .int x2)] [] σ2) ?_ eh10
          rintro ⟨x2, σ2⟩ w11 hx11 hk11
          show TW K 91 [(0, rv K (8, 0)), (3, .int a3), (4, .int x1), (5, .int x2)] [] σ2
          refine tw_iload (i := 5) (z := 3) C dX8_write_91 rfl ?_
          refine tw_iload (i := 4) (z := 2) C dX8_write_93 rfl ?_
          refine tw_ic_ge (tgt := 125) C dX8_write_95 (by decide) (fun hc12 => ?_) (fun hc12 => ?_)
          · have ht12 := ite_t hc12 hx11
            refine tw_iload (i := 4) (z := 2) C dX8_write_125 rfl ?_
            have e13 := lp_x ht12 hk11
            obtain ⟨rfl, rfl⟩ := pj2 (Option.some.inj e13)
            exact tw_iret C hK rfl rfl dX8_write_127
          · have hf12 := ite_f hc12 hx11
            refine tw_aload_n (i := 0) (z := 0) (r := (8, 0)) C dX8_write_98 rfl rfl ?_
            refine tw_getR (g := 26) (z := 0) (j' := 0) C fl_RX8_29 rfl (wcells_mem (f := 8) (j := 0) (by decide) (by decide)) rfl rfl dX8_write_99 ?_
            refine tw_iload_n (i := 3) (z := 1) C dX8_write_102 rfl rfl ?_
            obtain ⟨hb14, eh14⟩ := grd_some hf12
            refine tw_aald (g := 6) C rfl 6 "ElevenCodes$Sheet" (fun _ => rfl) (by decide) (by decide) (wcells_mem (f := 26) (j := 0) (by decide) (by decide)) hb14 dX8_write_103 ?_
            refine tw_iload (i := 5) (z := 3) C dX8_write_104 rfl ?_
            refine tw_aload_n (i := 0) (z := 0) (r := (8, 0)) C dX8_write_106 rfl rfl ?_
            refine tw_getR (g := 5) (z := 0) (j' := 0) C fl_RX8_58 rfl (wcells_mem (f := 8) (j := 0) (by decide) (by decide)) rfl rfl dX8_write_107 ?_
            refine tw_getR (g := 19) (z := 0) (j' := 0) C fl_RX8_198 rfl (wcells_mem (f := 5) (j := 0) (by decide) (by decide)) rfl rfl dX8_write_110 ?_
            refine tw_iload (i := 5) (z := 3) C dX8_write_113 rfl ?_
            obtain ⟨hb15, eh15⟩ := grd_some eh14
            refine tw_iald (r := (19, 0)) C (ia_of rfl (by decide)) hb15 dX8_write_115 ?_
            obtain ⟨σ3, hv16, eh16⟩ := obi_some eh15
            refine tw_callV (As := [.int x2, .int (σ2 (19, 0) (tn x2))]) (rest := []) (r := (6, (tn a3))) C hR (kX6_setItem K.1 _ (by omega) _ (tn a3) x2 (σ2 (19, 0) (tn x2)) (inb_lt hb14) hv16) mi_X6_setItem is_X6_setItem se_X6_setItem ml_RX8_313 (wcells_mem (f := 6) (j := (tn a3)) (by decide) (inb_lt hb14)) rfl rfl rfl rfl (Nat.le_of_ble_eq_true rfl) dX8_write_116 ?_
            show TW K 119 [(0, rv K (8, 0)), (3, .int a3), (4, .int x1), (5, .int x2)] [] σ3
            obtain ⟨x3, ex17, eh17⟩ := bnd_ex eh16
            refine tw_iinc (z := 3) (v := x3) (lv' := [(0, rv K (8, 0)), (3, .int a3), (4, .int x1), (5, .int x3)]) C [1, 2, 3, 0] dX8_write_119 rfl ex17 (by rw [hnL]; decide) rfl ?_
            refine tw_goto (tgt := 91) C dX8_write_122 (by decide) ?_
            have hz := lp_c eh17 hk11
            exact hz
        · have hf5 := ite_f hc5 eh4
          refine tw_aload_n (i := 0) (z := 0) (r := (8, 0)) C dX8_write_36 rfl rfl ?_
          refine tw_iconst (v := 1) C dX8_write_37 (by decide) ?_
          obtain ⟨⟨x4, σ4⟩, hv18, eh18⟩ := bnd_ex hf5
          refine tw_callV (As := [.int (1 : Int32)]) (rest := []) (r := (8, 0)) C hR (kX8_refuse K.1 _ (by omega) _ (1 : Int32)  hv18) mi_X8_refuse is_X8_refuse se_X8_refuse ml_RX8_131 (wcells_mem (f := 8) (j := 0) (by decide) (by decide)) rfl rfl rfl rfl (Nat.le_of_ble_eq_true rfl) dX8_write_38 ?_
          show TW K 41 [(0, rv K (8, 0)), (1, .int a1), (2, .int a2), (3, .int a3)] [.int x4] σ4
          obtain ⟨rfl, rfl⟩ := pj2 (Option.some.inj eh18)
          exact tw_iret C hK rfl rfl dX8_write_41
      · have hf3 := ite_f (b2i_z hc3) hf2
        refine tw_bipush (v := (-2)) C dX8_write_21 (by decide) ?_
        obtain ⟨rfl, rfl⟩ := pj2 (Option.some.inj hf3)
        exact tw_iret C hK rfl rfl dX8_write_23

set_option maxRecDepth 20000 in
def fX8_bytesOfCodes (σ : St)  : Option (Int32) :=
  lpF (fun (q1 : Int32 × Int32) => match q1 with
  | (x1, x2) =>
  if (11 : Int32) ≤ x2 then
    some (.inr x1)
  else
    grd (inb x2 11) (
    bnd (x1 + (σ (1, (tn x2)) 3)) (fun x3 =>
    bnd (x2 + 1) (fun x4 =>
    some (.inl (x3, x4)))))) ((0 : Int32), (0 : Int32))
set_option maxRecDepth 20000 in
set_option maxHeartbeats 4000000 in
theorem kX8_bytesOfCodes (G : Gx) (d : Nat) (hdp : 1 ≤ d) (σ : St)   {v0 : Int32} (h : fX8_bytesOfCodes σ  = some v0) : MS G d yX8_bytesOfCodes cX8_bytesOfCodes 3 (some .int) [.ref (G.2.1 (8, 0))] σ (some (.int v0)) σ := by
  refine MS_of (by decide) (Nat.le_of_ble_eq_true rfl) rfl (fun K hG hnL C hR hK => ?_) (by omega)
  subst hG
  show TW K 0 [(0, rv K (8, 0))] [] σ
  unfold fX8_bytesOfCodes at h
  refine tw_iconst (v := 0) C dX8_bytesOfCodes_0 (by decide) ?_
  refine tw_istore_n (lv' := [(0, rv K (8, 0)), (1, .int (0 : Int32))]) C [1, 0] dX8_bytesOfCodes_1 rfl (by rw [hnL]; decide) rfl ?_
  refine tw_iconst (v := 0) C dX8_bytesOfCodes_2 (by decide) ?_
  refine tw_istore_n (lv' := [(0, rv K (8, 0)), (1, .int (0 : Int32)), (2, .int (0 : Int32))]) C [1, 2, 0] dX8_bytesOfCodes_3 rfl (by rw [hnL]; decide) rfl ?_
  refine lpF_ct (G := fun (q : Int32 × Int32) => match q with | (x1, x2) => TW K 4 [(0, rv K (8, 0)), (1, .int x1), (2, .int x2)] [] σ) ?_ h
  rintro ⟨x1, x2⟩ w1 hx1 hk1
  show TW K 4 [(0, rv K (8, 0)), (1, .int x1), (2, .int x2)] [] σ
  refine tw_iload_n (i := 2) (z := 2) C dX8_bytesOfCodes_4 rfl rfl ?_
  refine tw_bipush (v := 11) C dX8_bytesOfCodes_5 (by decide) ?_
  refine tw_ic_ge (tgt := 28) C dX8_bytesOfCodes_7 (by decide) (fun hc2 => ?_) (fun hc2 => ?_)
  · have ht2 := ite_t hc2 hx1
    refine tw_iload_n (i := 1) (z := 1) C dX8_bytesOfCodes_28 rfl rfl ?_
    have e3 := lp_x ht2 hk1
    obtain rfl := (Option.some.inj e3)
    exact tw_iret C hK rfl rfl dX8_bytesOfCodes_29
  · have hf2 := ite_f hc2 hx1
    refine tw_iload_n (i := 1) (z := 1) C dX8_bytesOfCodes_10 rfl rfl ?_
    refine tw_aload_n (i := 0) (z := 0) (r := (8, 0)) C dX8_bytesOfCodes_11 rfl rfl ?_
    refine tw_getR (g := 23) (z := 0) (j' := 0) C fl_RX8_11 rfl (wcells_mem (f := 8) (j := 0) (by decide) (by decide)) rfl rfl dX8_bytesOfCodes_12 ?_
    refine tw_iload_n (i := 2) (z := 2) C dX8_bytesOfCodes_15 rfl rfl ?_
    obtain ⟨hb4, eh4⟩ := grd_some hf2
    refine tw_aald (g := 1) C rfl 3 "ElevenCodes$Code" (fun _ => rfl) (by decide) (by decide) (wcells_mem (f := 23) (j := 0) (by decide) (by decide)) hb4 dX8_bytesOfCodes_16 ?_
    refine tw_getI C fl_RX8_367 rfl (wcells_mem (f := 1) (j := (tn x2)) (by decide) (inb_lt hb4)) rfl dX8_bytesOfCodes_17 ?_
    refine tw_iadd C dX8_bytesOfCodes_20 ?_
    obtain ⟨x3, ex5, eh5⟩ := bnd_ex eh4
    refine tw_topi ex5.symm ?_
    refine tw_istore_n (lv' := [(0, rv K (8, 0)), (1, .int x3), (2, .int x2)]) C [1, 0, 2] dX8_bytesOfCodes_21 rfl (by rw [hnL]; decide) rfl ?_
    obtain ⟨x4, ex6, eh6⟩ := bnd_ex eh5
    refine tw_iinc (z := 2) (v := x4) (lv' := [(0, rv K (8, 0)), (1, .int x3), (2, .int x4)]) C [1, 2, 0] dX8_bytesOfCodes_22 rfl ex6 (by rw [hnL]; decide) rfl ?_
    refine tw_goto (tgt := 4) C dX8_bytesOfCodes_25 (by decide) ?_
    have hz := lp_c eh6 hk1
    exact hz

set_option maxRecDepth 20000 in
def fX8_members (σ : St)  : Option (Int32) :=
  lpF (fun (q1 : Int32 × Int32) => match q1 with
  | (x1, x2) =>
  if (σ (8, 0) 11) ≤ x2 then
    some (.inr x1)
  else
    grd (inb x2 12) (
    bnd (if (σ (0, (tn x2)) 2) = 0 then
      x1
    else
      bnd (x1 + 1) (fun x4 =>
      x4)) (fun x3 =>
    bnd (x2 + 1) (fun x5 =>
    some (.inl (x3, x5)))))) ((0 : Int32), (0 : Int32))
set_option maxRecDepth 20000 in
set_option maxHeartbeats 4000000 in
theorem kX8_members (G : Gx) (d : Nat) (hdp : 1 ≤ d) (σ : St)   {v0 : Int32} (h : fX8_members σ  = some v0) : MS G d yX8_members cX8_members 3 (some .int) [.ref (G.2.1 (8, 0))] σ (some (.int v0)) σ := by
  refine MS_of (by decide) (Nat.le_of_ble_eq_true rfl) rfl (fun K hG hnL C hR hK => ?_) (by omega)
  subst hG
  show TW K 0 [(0, rv K (8, 0))] [] σ
  unfold fX8_members at h
  refine tw_iconst (v := 0) C dX8_members_0 (by decide) ?_
  refine tw_istore_n (lv' := [(0, rv K (8, 0)), (1, .int (0 : Int32))]) C [1, 0] dX8_members_1 rfl (by rw [hnL]; decide) rfl ?_
  refine tw_iconst (v := 0) C dX8_members_2 (by decide) ?_
  refine tw_istore_n (lv' := [(0, rv K (8, 0)), (1, .int (0 : Int32)), (2, .int (0 : Int32))]) C [1, 2, 0] dX8_members_3 rfl (by rw [hnL]; decide) rfl ?_
  refine lpF_ct (G := fun (q : Int32 × Int32) => match q with | (x1, x2) => TW K 4 [(0, rv K (8, 0)), (1, .int x1), (2, .int x2)] [] σ) ?_ h
  rintro ⟨x1, x2⟩ w1 hx1 hk1
  show TW K 4 [(0, rv K (8, 0)), (1, .int x1), (2, .int x2)] [] σ
  refine tw_iload_n (i := 2) (z := 2) C dX8_members_4 rfl rfl ?_
  refine tw_aload_n (i := 0) (z := 0) (r := (8, 0)) C dX8_members_5 rfl rfl ?_
  refine tw_getI C fl_RX8_205 rfl (wcells_mem (f := 8) (j := 0) (by decide) (by decide)) rfl dX8_members_6 ?_
  refine tw_ic_ge (tgt := 33) C dX8_members_9 (by decide) (fun hc2 => ?_) (fun hc2 => ?_)
  · have ht2 := ite_t hc2 hx1
    refine tw_iload_n (i := 1) (z := 1) C dX8_members_33 rfl rfl ?_
    have e3 := lp_x ht2 hk1
    obtain rfl := (Option.some.inj e3)
    exact tw_iret C hK rfl rfl dX8_members_34
  · have hf2 := ite_f hc2 hx1
    refine tw_aload_n (i := 0) (z := 0) (r := (8, 0)) C dX8_members_12 rfl rfl ?_
    refine tw_getR (g := 25) (z := 0) (j' := 0) C fl_RX8_23 rfl (wcells_mem (f := 8) (j := 0) (by decide) (by decide)) rfl rfl dX8_members_13 ?_
    refine tw_iload_n (i := 2) (z := 2) C dX8_members_16 rfl rfl ?_
    obtain ⟨hb4, eh4⟩ := grd_some hf2
    refine tw_aald (g := 0) C rfl 5 "ElevenCodes$Club" (fun _ => rfl) (by decide) (by decide) (wcells_mem (f := 25) (j := 0) (by decide) (by decide)) hb4 dX8_members_17 ?_
    refine tw_getI C fl_RX8_244 rfl (wcells_mem (f := 0) (j := (tn x2)) (by decide) (inb_lt hb4)) rfl dX8_members_18 ?_
    obtain ⟨x3, hx5, hq5⟩ := bnd_ex eh4
    have hJ5 : TW K 27 [(0, rv K (8, 0)), (1, .int x3), (2, .int x2)] [] σ := by
      obtain ⟨x5, ex8, eh8⟩ := bnd_ex hq5
      refine tw_iinc (z := 2) (v := x5) (lv' := [(0, rv K (8, 0)), (1, .int x3), (2, .int x5)]) C [1, 2, 0] dX8_members_27 rfl ex8 (by rw [hnL]; decide) rfl ?_
      refine tw_goto (tgt := 4) C dX8_members_30 (by decide) ?_
      have hz := lp_c eh8 hk1
      exact hz
    refine tw_if_eq (tgt := 27) C dX8_members_21 (by decide) (fun hc6 => ?_) (fun hc6 => ?_)
    · have ht6 := ite_t hc6 hx5
      obtain rfl := ht6
      exact hJ5
    · have hf6 := ite_f hc6 hx5
      obtain ⟨x4, ex7, eh7⟩ := bnd_ex hf6
      refine tw_iinc (z := 1) (v := x4) (lv' := [(0, rv K (8, 0)), (1, .int x4), (2, .int x2)]) C [1, 0, 2] dX8_members_24 rfl ex7 (by rw [hnL]; decide) rfl ?_
      obtain rfl := eh7
      exact hJ5

set_option maxRecDepth 20000 in
def fX8_toldMatches (σ : St)  : Option (Int32) :=
  lpF (fun (q1 : Int32 × Int32) => match q1 with
  | (x1, x2) =>
  if (σ (8, 0) 10) ≤ x2 then
    some (.inr x1)
  else
    grd (inb x2 12) (
    bnd (if (σ (3, (tn x2)) 3) = 0 then
      x1
    else
      bnd (x1 + 1) (fun x4 =>
      x4)) (fun x3 =>
    bnd (x2 + 1) (fun x5 =>
    some (.inl (x3, x5)))))) ((0 : Int32), (0 : Int32))
set_option maxRecDepth 20000 in
set_option maxHeartbeats 4000000 in
theorem kX8_toldMatches (G : Gx) (d : Nat) (hdp : 1 ≤ d) (σ : St)   {v0 : Int32} (h : fX8_toldMatches σ  = some v0) : MS G d yX8_toldMatches cX8_toldMatches 3 (some .int) [.ref (G.2.1 (8, 0))] σ (some (.int v0)) σ := by
  refine MS_of (by decide) (Nat.le_of_ble_eq_true rfl) rfl (fun K hG hnL C hR hK => ?_) (by omega)
  subst hG
  show TW K 0 [(0, rv K (8, 0))] [] σ
  unfold fX8_toldMatches at h
  refine tw_iconst (v := 0) C dX8_toldMatches_0 (by decide) ?_
  refine tw_istore_n (lv' := [(0, rv K (8, 0)), (1, .int (0 : Int32))]) C [1, 0] dX8_toldMatches_1 rfl (by rw [hnL]; decide) rfl ?_
  refine tw_iconst (v := 0) C dX8_toldMatches_2 (by decide) ?_
  refine tw_istore_n (lv' := [(0, rv K (8, 0)), (1, .int (0 : Int32)), (2, .int (0 : Int32))]) C [1, 2, 0] dX8_toldMatches_3 rfl (by rw [hnL]; decide) rfl ?_
  refine lpF_ct (G := fun (q : Int32 × Int32) => match q with | (x1, x2) => TW K 4 [(0, rv K (8, 0)), (1, .int x1), (2, .int x2)] [] σ) ?_ h
  rintro ⟨x1, x2⟩ w1 hx1 hk1
  show TW K 4 [(0, rv K (8, 0)), (1, .int x1), (2, .int x2)] [] σ
  refine tw_iload_n (i := 2) (z := 2) C dX8_toldMatches_4 rfl rfl ?_
  refine tw_aload_n (i := 0) (z := 0) (r := (8, 0)) C dX8_toldMatches_5 rfl rfl ?_
  refine tw_getI C fl_RX8_137 rfl (wcells_mem (f := 8) (j := 0) (by decide) (by decide)) rfl dX8_toldMatches_6 ?_
  refine tw_ic_ge (tgt := 33) C dX8_toldMatches_9 (by decide) (fun hc2 => ?_) (fun hc2 => ?_)
  · have ht2 := ite_t hc2 hx1
    refine tw_iload_n (i := 1) (z := 1) C dX8_toldMatches_33 rfl rfl ?_
    have e3 := lp_x ht2 hk1
    obtain rfl := (Option.some.inj e3)
    exact tw_iret C hK rfl rfl dX8_toldMatches_34
  · have hf2 := ite_f hc2 hx1
    refine tw_aload_n (i := 0) (z := 0) (r := (8, 0)) C dX8_toldMatches_12 rfl rfl ?_
    refine tw_getR (g := 24) (z := 0) (j' := 0) C fl_RX8_17 rfl (wcells_mem (f := 8) (j := 0) (by decide) (by decide)) rfl rfl dX8_toldMatches_13 ?_
    refine tw_iload_n (i := 2) (z := 2) C dX8_toldMatches_16 rfl rfl ?_
    obtain ⟨hb4, eh4⟩ := grd_some hf2
    refine tw_aald (g := 3) C rfl 4 "ElevenCodes$Match" (fun _ => rfl) (by decide) (by decide) (wcells_mem (f := 24) (j := 0) (by decide) (by decide)) hb4 dX8_toldMatches_17 ?_
    refine tw_getI C fl_RX8_180 rfl (wcells_mem (f := 3) (j := (tn x2)) (by decide) (inb_lt hb4)) rfl dX8_toldMatches_18 ?_
    obtain ⟨x3, hx5, hq5⟩ := bnd_ex eh4
    have hJ5 : TW K 27 [(0, rv K (8, 0)), (1, .int x3), (2, .int x2)] [] σ := by
      obtain ⟨x5, ex8, eh8⟩ := bnd_ex hq5
      refine tw_iinc (z := 2) (v := x5) (lv' := [(0, rv K (8, 0)), (1, .int x3), (2, .int x5)]) C [1, 2, 0] dX8_toldMatches_27 rfl ex8 (by rw [hnL]; decide) rfl ?_
      refine tw_goto (tgt := 4) C dX8_toldMatches_30 (by decide) ?_
      have hz := lp_c eh8 hk1
      exact hz
    refine tw_if_eq (tgt := 27) C dX8_toldMatches_21 (by decide) (fun hc6 => ?_) (fun hc6 => ?_)
    · have ht6 := ite_t hc6 hx5
      obtain rfl := ht6
      exact hJ5
    · have hf6 := ite_f hc6 hx5
      obtain ⟨x4, ex7, eh7⟩ := bnd_ex hf6
      refine tw_iinc (z := 1) (v := x4) (lv' := [(0, rv K (8, 0)), (1, .int x4), (2, .int x2)]) C [1, 0, 2] dX8_toldMatches_24 rfl ex7 (by rw [hnL]; decide) rfl ?_
      obtain rfl := eh7
      exact hJ5

set_option maxRecDepth 20000 in
def fX8_count (σ : St) (a1 : Int32) : Option (Int32) :=
  if a1 = 0 then
    some (σ (8, 0) 10)
  else
    if a1 = 1 then
      obi (fX8_toldMatches σ) (fun x1 =>
      some x1)
    else
      if a1 = 2 then
        some (σ (8, 0) 11)
      else
        if a1 = 3 then
          obi (fX8_members σ) (fun x2 =>
          some x2)
        else
          if a1 = 4 then
            obi (fX8_bytesOfCodes σ) (fun x3 =>
            some x3)
          else
            if a1 = 5 then
              some (σ (8, 0) 12)
            else
              if a1 = 6 then
                some (σ (8, 0) 13)
              else
                if a1 = 7 then
                  some (σ (8, 0) 14)
                else
                  if a1 = 8 then
                    some (σ (8, 0) 15)
                  else
                    some (-2 : Int32)
set_option maxRecDepth 20000 in
set_option maxHeartbeats 4000000 in
theorem kX8_count (G : Gx) (d : Nat) (hdp : 2 ≤ d) (σ : St) (a1 : Int32)  {v0 : Int32} (h : fX8_count σ a1 = some v0) : MS G d yX8_count cX8_count 2 (some .int) [.ref (G.2.1 (8, 0)), .int a1] σ (some (.int v0)) σ := by
  refine MS_of (by decide) (Nat.le_of_ble_eq_true rfl) rfl (fun K hG hnL C hR hK => ?_) (by omega)
  subst hG
  show TW K 0 [(0, rv K (8, 0)), (1, .int a1)] [] σ
  unfold fX8_count at h
  refine tw_iload_n (i := 1) (z := 1) C dX8_count_0 rfl rfl ?_
  by_cases hc1_0 : a1 = 0
  · have ht1_0 := ite_t hc1_0 h
    refine tw_tabZ (tgt := 52) C dX8_count_1 (0) (by rw [hc1_0]; decide) (by decide) (by decide) rfl (by decide) ?_
    refine tw_aload_n (i := 0) (z := 0) (r := (8, 0)) C dX8_count_52 rfl rfl ?_
    refine tw_getI C fl_RX8_137 rfl (wcells_mem (f := 8) (j := 0) (by decide) (by decide)) rfl dX8_count_53 ?_
    obtain rfl := (Option.some.inj ht1_0)
    exact tw_iret C hK rfl rfl dX8_count_56
  have hf1_0 := ite_f hc1_0 h
  by_cases hc1_1 : a1 = 1
  · have ht1_1 := ite_t hc1_1 hf1_0
    refine tw_tabZ (tgt := 57) C dX8_count_1 (1) (by rw [hc1_1]; decide) (by decide) (by decide) rfl (by decide) ?_
    refine tw_aload_n (i := 0) (z := 0) (r := (8, 0)) C dX8_count_57 rfl rfl ?_
    obtain ⟨x1, hv2, eh2⟩ := obi_some ht1_1
    refine tw_callV (As := []) (rest := []) (r := (8, 0)) C hR (kX8_toldMatches K.1 _ (by omega) σ   hv2) mi_X8_toldMatches is_X8_toldMatches se_X8_toldMatches ml_RX8_327 (wcells_mem (f := 8) (j := 0) (by decide) (by decide)) rfl rfl rfl rfl (Nat.le_of_ble_eq_true rfl) dX8_count_58 ?_
    show TW K 61 [(0, rv K (8, 0)), (1, .int a1)] [.int x1] σ
    obtain rfl := (Option.some.inj eh2)
    exact tw_iret C hK rfl rfl dX8_count_61
  have hf1_1 := ite_f hc1_1 hf1_0
  by_cases hc1_2 : a1 = 2
  · have ht1_2 := ite_t hc1_2 hf1_1
    refine tw_tabZ (tgt := 62) C dX8_count_1 (2) (by rw [hc1_2]; decide) (by decide) (by decide) rfl (by decide) ?_
    refine tw_aload_n (i := 0) (z := 0) (r := (8, 0)) C dX8_count_62 rfl rfl ?_
    refine tw_getI C fl_RX8_205 rfl (wcells_mem (f := 8) (j := 0) (by decide) (by decide)) rfl dX8_count_63 ?_
    obtain rfl := (Option.some.inj ht1_2)
    exact tw_iret C hK rfl rfl dX8_count_66
  have hf1_2 := ite_f hc1_2 hf1_1
  by_cases hc1_3 : a1 = 3
  · have ht1_3 := ite_t hc1_3 hf1_2
    refine tw_tabZ (tgt := 67) C dX8_count_1 (3) (by rw [hc1_3]; decide) (by decide) (by decide) rfl (by decide) ?_
    refine tw_aload_n (i := 0) (z := 0) (r := (8, 0)) C dX8_count_67 rfl rfl ?_
    obtain ⟨x2, hv3, eh3⟩ := obi_some ht1_3
    refine tw_callV (As := []) (rest := []) (r := (8, 0)) C hR (kX8_members K.1 _ (by omega) σ   hv3) mi_X8_members is_X8_members se_X8_members ml_RX8_330 (wcells_mem (f := 8) (j := 0) (by decide) (by decide)) rfl rfl rfl rfl (Nat.le_of_ble_eq_true rfl) dX8_count_68 ?_
    show TW K 71 [(0, rv K (8, 0)), (1, .int a1)] [.int x2] σ
    obtain rfl := (Option.some.inj eh3)
    exact tw_iret C hK rfl rfl dX8_count_71
  have hf1_3 := ite_f hc1_3 hf1_2
  by_cases hc1_4 : a1 = 4
  · have ht1_4 := ite_t hc1_4 hf1_3
    refine tw_tabZ (tgt := 72) C dX8_count_1 (4) (by rw [hc1_4]; decide) (by decide) (by decide) rfl (by decide) ?_
    refine tw_aload_n (i := 0) (z := 0) (r := (8, 0)) C dX8_count_72 rfl rfl ?_
    obtain ⟨x3, hv4, eh4⟩ := obi_some ht1_4
    refine tw_callV (As := []) (rest := []) (r := (8, 0)) C hR (kX8_bytesOfCodes K.1 _ (by omega) σ   hv4) mi_X8_bytesOfCodes is_X8_bytesOfCodes se_X8_bytesOfCodes ml_RX8_333 (wcells_mem (f := 8) (j := 0) (by decide) (by decide)) rfl rfl rfl rfl (Nat.le_of_ble_eq_true rfl) dX8_count_73 ?_
    show TW K 76 [(0, rv K (8, 0)), (1, .int a1)] [.int x3] σ
    obtain rfl := (Option.some.inj eh4)
    exact tw_iret C hK rfl rfl dX8_count_76
  have hf1_4 := ite_f hc1_4 hf1_3
  by_cases hc1_5 : a1 = 5
  · have ht1_5 := ite_t hc1_5 hf1_4
    refine tw_tabZ (tgt := 77) C dX8_count_1 (5) (by rw [hc1_5]; decide) (by decide) (by decide) rfl (by decide) ?_
    refine tw_aload_n (i := 0) (z := 0) (r := (8, 0)) C dX8_count_77 rfl rfl ?_
    refine tw_getI C fl_RX8_76 rfl (wcells_mem (f := 8) (j := 0) (by decide) (by decide)) rfl dX8_count_78 ?_
    obtain rfl := (Option.some.inj ht1_5)
    exact tw_iret C hK rfl rfl dX8_count_81
  have hf1_5 := ite_f hc1_5 hf1_4
  by_cases hc1_6 : a1 = 6
  · have ht1_6 := ite_t hc1_6 hf1_5
    refine tw_tabZ (tgt := 82) C dX8_count_1 (6) (by rw [hc1_6]; decide) (by decide) (by decide) rfl (by decide) ?_
    refine tw_aload_n (i := 0) (z := 0) (r := (8, 0)) C dX8_count_82 rfl rfl ?_
    refine tw_getI C fl_RX8_80 rfl (wcells_mem (f := 8) (j := 0) (by decide) (by decide)) rfl dX8_count_83 ?_
    obtain rfl := (Option.some.inj ht1_6)
    exact tw_iret C hK rfl rfl dX8_count_86
  have hf1_6 := ite_f hc1_6 hf1_5
  by_cases hc1_7 : a1 = 7
  · have ht1_7 := ite_t hc1_7 hf1_6
    refine tw_tabZ (tgt := 87) C dX8_count_1 (7) (by rw [hc1_7]; decide) (by decide) (by decide) rfl (by decide) ?_
    refine tw_aload_n (i := 0) (z := 0) (r := (8, 0)) C dX8_count_87 rfl rfl ?_
    refine tw_getI C fl_RX8_83 rfl (wcells_mem (f := 8) (j := 0) (by decide) (by decide)) rfl dX8_count_88 ?_
    obtain rfl := (Option.some.inj ht1_7)
    exact tw_iret C hK rfl rfl dX8_count_91
  have hf1_7 := ite_f hc1_7 hf1_6
  by_cases hc1_8 : a1 = 8
  · have ht1_8 := ite_t hc1_8 hf1_7
    refine tw_tabZ (tgt := 92) C dX8_count_1 (8) (by rw [hc1_8]; decide) (by decide) (by decide) rfl (by decide) ?_
    refine tw_aload_n (i := 0) (z := 0) (r := (8, 0)) C dX8_count_92 rfl rfl ?_
    refine tw_getI C fl_RX8_317 rfl (wcells_mem (f := 8) (j := 0) (by decide) (by decide)) rfl dX8_count_93 ?_
    obtain rfl := (Option.some.inj ht1_8)
    exact tw_iret C hK rfl rfl dX8_count_96
  have hf1_8 := ite_f hc1_8 hf1_7
  have hT1 : TW K 97 [(0, rv K (8, 0)), (1, .int a1)] [] σ := by
    refine tw_bipush (v := (-2)) C dX8_count_97 (by decide) ?_
    obtain rfl := (Option.some.inj hf1_8)
    exact tw_iret C hK rfl rfl dX8_count_99
  have hn1_0 : ¬ (a1).toInt = 0 := lv_neT (k := 0) hc1_0 (by decide)
  have hn1_1 : ¬ (a1).toInt = 1 := lv_neT (k := 1) hc1_1 (by decide)
  have hn1_2 : ¬ (a1).toInt = 2 := lv_neT (k := 2) hc1_2 (by decide)
  have hn1_3 : ¬ (a1).toInt = 3 := lv_neT (k := 3) hc1_3 (by decide)
  have hn1_4 : ¬ (a1).toInt = 4 := lv_neT (k := 4) hc1_4 (by decide)
  have hn1_5 : ¬ (a1).toInt = 5 := lv_neT (k := 5) hc1_5 (by decide)
  have hn1_6 : ¬ (a1).toInt = 6 := lv_neT (k := 6) hc1_6 (by decide)
  have hn1_7 : ¬ (a1).toInt = 7 := lv_neT (k := 7) hc1_7 (by decide)
  have hn1_8 : ¬ (a1).toInt = 8 := lv_neT (k := 8) hc1_8 (by decide)
  rcases (show (a1).toInt < 0 ∨ 8 < (a1).toInt by omega) with hz | hz
  · exact tw_tabOut (tgt := 97) C dX8_count_1 (Or.inl hz) (by decide) hT1
  · exact tw_tabOut (tgt := 97) C dX8_count_1 (Or.inr hz) (by decide) hT1

