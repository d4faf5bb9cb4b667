set_option maxRecDepth 20000 in
def fX9_fault (σ : St) (a1 : Int32) : Option (Int32 × St) :=
  if (fX9_isCode a1) = true then
    obi (fX9_faultOf σ a1) (fun (x1, σ1) =>
    some (x1, σ1))
  else
    some ((-2 : Int32), σ)
set_option maxRecDepth 20000 in
set_option maxHeartbeats 4000000 in
theorem kX9_fault (G : Gx) (d : Nat) (hdp : 7 ≤ d) (σ : St) (a1 : Int32)  {v0 : Int32} {σ' : St} (h : fX9_fault σ a1 = some (v0, σ')) : MS G d yX9_fault cX9_fault 2 (some .int) [.ref (G.2.1 (9, 0)), .int a1] σ (some (.int v0)) σ' := by
  refine MS_of (by decide) (Nat.le_of_ble_eq_true rfl) rfl (fun K hG hnL C hR hK => ?_) (by omega)
  subst hG
  show TW K 0 [(0, rv K (9, 0)), (1, .int a1)] [] σ
  unfold fX9_fault at h
  refine tw_iload_n (i := 1) (z := 1) C dX9_fault_0 rfl rfl ?_
  refine tw_callS (As := [.int a1]) (rest := []) C hR (kX9_isCode K.1 _ (by omega) σ a1  rfl) mi_X9_isCode st_X9_isCode ml_RX9_110 rfl rfl (Nat.le_of_ble_eq_true rfl) dX9_fault_1 ?_
  show TW K 4 [(0, rv K (9, 0)), (1, .int a1)] [.int (b2i (fX9_isCode a1))] σ
  refine tw_if_eq (tgt := 15) C dX9_fault_4 (by decide) (fun hc1 => ?_) (fun hc1 => ?_)
  · have ht1 := ite_f (b2i_z hc1) h
    refine tw_bipush (v := (-2)) C dX9_fault_15 (by decide) ?_
    obtain ⟨rfl, rfl⟩ := pj2 (Option.some.inj ht1)
    exact tw_iret C hK rfl rfl dX9_fault_17
  · have hf1 := ite_t (b2i_nz hc1) h
    refine tw_aload_n (i := 0) (z := 0) (r := (9, 0)) C dX9_fault_7 rfl rfl ?_
    refine tw_iload_n (i := 1) (z := 1) C dX9_fault_8 rfl rfl ?_
    obtain ⟨⟨x1, σ1⟩, hv2, eh2⟩ := obi_some hf1
    refine tw_callV (As := [.int a1]) (rest := []) (r := (9, 0)) C hR (kX9_faultOf K.1 _ (by omega) _ a1  hv2) mi_X9_faultOf is_X9_faultOf se_X9_faultOf ml_RX9_144 (wcells_mem (f := 9) (j := 0) (by decide) (by decide)) rfl rfl rfl rfl (Nat.le_of_ble_eq_true rfl) dX9_fault_9 ?_
    show TW K 12 [(0, rv K (9, 0)), (1, .int a1)] [.int x1] σ1
    refine tw_goto (tgt := 17) C dX9_fault_12 (by decide) ?_
    obtain ⟨rfl, rfl⟩ := pj2 (Option.some.inj eh2)
    exact tw_iret C hK rfl rfl dX9_fault_17

set_option maxRecDepth 20000 in
def fX9_itemOf (σ : St) (a1 : Int32) (a2 : Int32) : Option (Int32 × St) :=
  obi (fX9_reads σ a1) (fun σ1 =>
  grd (inb (((17 : Int32) * a1) + a2) 187) (
  some (σ1 (33, 0) (tn (((17 : Int32) * a1) + a2)), σ1)))
set_option maxRecDepth 20000 in
set_option maxHeartbeats 4000000 in
theorem kX9_itemOf (G : Gx) (d : Nat) (hdp : 6 ≤ d) (σ : St) (a1 : Int32) (a2 : Int32)  {v0 : Int32} {σ' : St} (h : fX9_itemOf σ a1 a2 = some (v0, σ')) : MS G d yX9_itemOf cX9_itemOf 3 (some .int) [.ref (G.2.1 (9, 0)), .int a1, .int a2] σ (some (.int v0)) σ' := by
  refine MS_of (by decide) (Nat.le_of_ble_eq_true rfl) rfl (fun K hG hnL C hR hK => ?_) (by omega)
  subst hG
  show TW K 0 [(0, rv K (9, 0)), (1, .int a1), (2, .int a2)] [] σ
  unfold fX9_itemOf at h
  refine tw_aload_n (i := 0) (z := 0) (r := (9, 0)) C dX9_itemOf_0 rfl rfl ?_
  refine tw_iload_n (i := 1) (z := 1) C dX9_itemOf_1 rfl rfl ?_
  obtain ⟨σ1, hv1, eh1⟩ := obi_some h
  refine tw_callV (As := [.int a1]) (rest := []) (r := (9, 0)) C hR (kX9_reads K.1 _ (by omega) _ a1  hv1) mi_X9_reads is_X9_reads se_X9_reads ml_RX9_141 (wcells_mem (f := 9) (j := 0) (by decide) (by decide)) rfl rfl rfl rfl (Nat.le_of_ble_eq_true rfl) dX9_itemOf_2 ?_
  show TW K 5 [(0, rv K (9, 0)), (1, .int a1), (2, .int a2)] [] σ1
  refine tw_aload_n (i := 0) (z := 0) (r := (9, 0)) C dX9_itemOf_5 rfl rfl ?_
  refine tw_getR (g := 33) (z := 0) (j' := 0) C fl_RX9_23 rfl (wcells_mem (f := 9) (j := 0) (by decide) (by decide)) rfl rfl dX9_itemOf_6 ?_
  refine tw_bipush (v := 17) C dX9_itemOf_9 (by decide) ?_
  refine tw_iload_n (i := 1) (z := 1) C dX9_itemOf_11 rfl rfl ?_
  refine tw_imul C dX9_itemOf_12 ?_
  refine tw_iload_n (i := 2) (z := 2) C dX9_itemOf_13 rfl rfl ?_
  refine tw_iadd C dX9_itemOf_14 ?_
  obtain ⟨hb2, eh2⟩ := grd_some eh1
  refine tw_iald (r := (33, 0)) C (ia_of rfl (by decide)) hb2 dX9_itemOf_15 ?_
  obtain ⟨rfl, rfl⟩ := pj2 (Option.some.inj eh2)
  exact tw_iret C hK rfl rfl dX9_itemOf_16

set_option maxRecDepth 20000 in
def fX9_item (σ : St) (a1 : Int32) (a2 : Int32) : Option (Int32 × St) :=
  if (fX9_isCode a1) = true then
    if (fX9_in a2 (0 : Int32) (16 : Int32)) = true then
      obi (fX9_itemOf σ a1 a2) (fun (x1, σ1) =>
      some (x1, σ1))
    else
      some ((-2 : Int32), σ)
  else
    some ((-2 : Int32), σ)
set_option maxRecDepth 20000 in
set_option maxHeartbeats 4000000 in
theorem kX9_item (G : Gx) (d : Nat) (hdp : 7 ≤ d) (σ : St) (a1 : Int32) (a2 : Int32)  {v0 : Int32} {σ' : St} (h : fX9_item σ a1 a2 = some (v0, σ')) : MS G d yX9_item cX9_item 3 (some .int) [.ref (G.2.1 (9, 0)), .int a1, .int a2] σ (some (.int v0)) σ' := by
  refine MS_of (by decide) (Nat.le_of_ble_eq_true rfl) rfl (fun K hG hnL C hR hK => ?_) (by omega)
  subst hG
  show TW K 0 [(0, rv K (9, 0)), (1, .int a1), (2, .int a2)] [] σ
  unfold fX9_item at h
  refine tw_iload_n (i := 1) (z := 1) C dX9_item_0 rfl rfl ?_
  refine tw_callS (As := [.int a1]) (rest := []) C hR (kX9_isCode K.1 _ (by omega) σ a1  rfl) mi_X9_isCode st_X9_isCode ml_RX9_110 rfl rfl (Nat.le_of_ble_eq_true rfl) dX9_item_1 ?_
  show TW K 4 [(0, rv K (9, 0)), (1, .int a1), (2, .int a2)] [.int (b2i (fX9_isCode a1))] σ
  refine tw_if_eq (tgt := 26) C dX9_item_4 (by decide) (fun hc1 => ?_) (fun hc1 => ?_)
  · have ht1 := ite_f (b2i_z hc1) h
    refine tw_bipush (v := (-2)) C dX9_item_26 (by decide) ?_
    obtain ⟨rfl, rfl⟩ := pj2 (Option.some.inj ht1)
    exact tw_iret C hK rfl rfl dX9_item_28
  · have hf1 := ite_t (b2i_nz hc1) h
    refine tw_iload_n (i := 2) (z := 2) C dX9_item_7 rfl rfl ?_
    refine tw_iconst (v := 0) C dX9_item_8 (by decide) ?_
    refine tw_bipush (v := 16) C dX9_item_9 (by decide) ?_
    refine tw_callS (As := [.int a2, .int (0 : Int32), .int (16 : Int32)]) (rest := []) C hR (kX9_in K.1 _ (by omega) σ a2 (0 : Int32) (16 : Int32)  rfl) mi_X9_in st_X9_in ml_RX9_106 rfl rfl (Nat.le_of_ble_eq_true rfl) dX9_item_11 ?_
    show TW K 14 [(0, rv K (9, 0)), (1, .int a1), (2, .int a2)] [.int (b2i (fX9_in a2 (0 : Int32) (16 : Int32)))] σ
    refine tw_if_eq (tgt := 26) C dX9_item_14 (by decide) (fun hc2 => ?_) (fun hc2 => ?_)
    · have ht2 := ite_f (b2i_z hc2) hf1
      refine tw_bipush (v := (-2)) C dX9_item_26 (by decide) ?_
      obtain ⟨rfl, rfl⟩ := pj2 (Option.some.inj ht2)
      exact tw_iret C hK rfl rfl dX9_item_28
    · have hf2 := ite_t (b2i_nz hc2) hf1
      refine tw_aload_n (i := 0) (z := 0) (r := (9, 0)) C dX9_item_17 rfl rfl ?_
      refine tw_iload_n (i := 1) (z := 1) C dX9_item_18 rfl rfl ?_
      refine tw_iload_n (i := 2) (z := 2) C dX9_item_19 rfl rfl ?_
      obtain ⟨⟨x1, σ1⟩, hv3, eh3⟩ := obi_some hf2
      refine tw_callV (As := [.int a1, .int a2]) (rest := []) (r := (9, 0)) C hR (kX9_itemOf K.1 _ (by omega) _ a1 a2  hv3) mi_X9_itemOf is_X9_itemOf se_X9_itemOf ml_RX9_147 (wcells_mem (f := 9) (j := 0) (by decide) (by decide)) rfl rfl rfl rfl (Nat.le_of_ble_eq_true rfl) dX9_item_20 ?_
      show TW K 23 [(0, rv K (9, 0)), (1, .int a1), (2, .int a2)] [.int x1] σ1
      refine tw_goto (tgt := 28) C dX9_item_23 (by decide) ?_
      obtain ⟨rfl, rfl⟩ := pj2 (Option.some.inj eh3)
      exact tw_iret C hK rfl rfl dX9_item_28

set_option maxRecDepth 20000 in
def fX9_why (σ : St) (a1 : Int32) (a2 : Int32) (a3 : Int32) : Option (Int32 × St) :=
  if (fX9_isCode a1) = true then
    if (fX9_in a2 (0 : Int32) (9 : Int32)) = true then
      if (fX9_in a3 (0 : Int32) (6 : Int32)) = true then
        obi (fX9_reads σ a1) (fun σ1 =>
        lpF (fun (q5 : Int32 × Int32) => match q5 with
        | (x1, x2) =>
        if (28 : Int32) ≤ x2 then
          some (.inr ((x1, σ1)))
        else
          grd (inb (((28 : Int32) * a1) + x2) 308) (
          bnd (σ1 (34, 0) (tn (((28 : Int32) * a1) + x2))) (fun x3 =>
          obi (if x3 = (-1 : Int32) then
            some x1
          else
            if (x3 / (128 : Int32)) = a2 then
              if (((irm x3 (128 : Int32)) >>> (a3 &&& 31)) &&& (1 : Int32)) = (1 : Int32) then
                some x2
              else
                some x1
            else
              some x1) (fun x4 =>
          bnd (x2 + 1) (fun x5 =>
          some (.inl (x4, x5))))))) ((-1 : Int32), (0 : Int32)))
      else
        some ((-2 : Int32), σ)
    else
      some ((-2 : Int32), σ)
  else
    some ((-2 : Int32), σ)
set_option maxRecDepth 20000 in
set_option maxHeartbeats 4000000 in
theorem kX9_why (G : Gx) (d : Nat) (hdp : 6 ≤ d) (σ : St) (a1 : Int32) (a2 : Int32) (a3 : Int32)  {v0 : Int32} {σ' : St} (h : fX9_why σ a1 a2 a3 = some (v0, σ')) : MS G d yX9_why cX9_why 7 (some .int) [.ref (G.2.1 (9, 0)), .int a1, .int a2, .int a3] σ (some (.int v0)) σ' := by
  refine MS_of (by decide) (Nat.le_of_ble_eq_true rfl) rfl (fun K hG hnL C hR hK => ?_) (by omega)
  subst hG
  show TW K 0 [(0, rv K (9, 0)), (1, .int a1), (2, .int a2), (3, .int a3)] [] σ
  unfold fX9_why at h
  refine tw_iload_n (i := 1) (z := 1) C dX9_why_0 rfl rfl ?_
  refine tw_callS (As := [.int a1]) (rest := []) C hR (kX9_isCode K.1 _ (by omega) σ a1  rfl) mi_X9_isCode st_X9_isCode ml_RX9_110 rfl rfl (Nat.le_of_ble_eq_true rfl) dX9_why_1 ?_
  show TW K 4 [(0, rv K (9, 0)), (1, .int a1), (2, .int a2), (3, .int a3)] [.int (b2i (fX9_isCode a1))] σ
  refine tw_if_eq (tgt := 27) C dX9_why_4 (by decide) (fun hc1 => ?_) (fun hc1 => ?_)
  · have ht1 := ite_f (b2i_z hc1) h
    refine tw_bipush (v := (-2)) C dX9_why_27 (by decide) ?_
    obtain ⟨rfl, rfl⟩ := pj2 (Option.some.inj ht1)
    exact tw_iret C hK rfl rfl dX9_why_29
  · have hf1 := ite_t (b2i_nz hc1) h
    refine tw_iload_n (i := 2) (z := 2) C dX9_why_7 rfl rfl ?_
    refine tw_iconst (v := 0) C dX9_why_8 (by decide) ?_
    refine tw_bipush (v := 9) C dX9_why_9 (by decide) ?_
    refine tw_callS (As := [.int a2, .int (0 : Int32), .int (9 : Int32)]) (rest := []) C hR (kX9_in K.1 _ (by omega) σ a2 (0 : Int32) (9 : Int32)  rfl) mi_X9_in st_X9_in ml_RX9_106 rfl rfl (Nat.le_of_ble_eq_true rfl) dX9_why_11 ?_
    show TW K 14 [(0, rv K (9, 0)), (1, .int a1), (2, .int a2), (3, .int a3)] [.int (b2i (fX9_in a2 (0 : Int32) (9 : Int32)))] σ
    refine tw_if_eq (tgt := 27) C dX9_why_14 (by decide) (fun hc2 => ?_) (fun hc2 => ?_)
    · have ht2 := ite_f (b2i_z hc2) hf1
      refine tw_bipush (v := (-2)) C dX9_why_27 (by decide) ?_
      obtain ⟨rfl, rfl⟩ := pj2 (Option.some.inj ht2)
      exact tw_iret C hK rfl rfl dX9_why_29
    · have hf2 := ite_t (b2i_nz hc2) hf1
      refine tw_iload_n (i := 3) (z := 3) C dX9_why_17 rfl rfl ?_
      refine tw_iconst (v := 0) C dX9_why_18 (by decide) ?_
      refine tw_bipush (v := 6) C dX9_why_19 (by decide) ?_
      refine tw_callS (As := [.int a3, .int (0 : Int32), .int (6 : Int32)]) (rest := []) C hR (kX9_in K.1 _ (by omega) σ a3 (0 : Int32) (6 : Int32)  rfl) mi_X9_in st_X9_in ml_RX9_106 rfl rfl (Nat.le_of_ble_eq_true rfl) dX9_why_21 ?_
      show TW K 24 [(0, rv K (9, 0)), (1, .int a1), (2, .int a2), (3, .int a3)] [.int (b2i (fX9_in a3 (0 : Int32) (6 : Int32)))] σ
      refine tw_if_ne (tgt := 30) C dX9_why_24 (by decide) (fun hc3 => ?_) (fun hc3 => ?_)
      · have ht3 := ite_t (b2i_nz hc3) hf2
        refine tw_aload_n (i := 0) (z := 0) (r := (9, 0)) C dX9_why_30 rfl rfl ?_
        refine tw_iload_n (i := 1) (z := 1) C dX9_why_31 rfl rfl ?_
        obtain ⟨σ1, hv4, eh4⟩ := obi_some ht3
        refine tw_callV (As := [.int a1]) (rest := []) (r := (9, 0)) C hR (kX9_reads K.1 _ (by omega) _ a1  hv4) mi_X9_reads is_X9_reads se_X9_reads ml_RX9_141 (wcells_mem (f := 9) (j := 0) (by decide) (by decide)) rfl rfl rfl rfl (Nat.le_of_ble_eq_true rfl) dX9_why_32 ?_
        show TW K 35 [(0, rv K (9, 0)), (1, .int a1), (2, .int a2), (3, .int a3)] [] σ1
        refine tw_iconst (v := (-1)) C dX9_why_35 (by decide) ?_
        refine tw_istore (lv' := [(0, rv K (9, 0)), (1, .int a1), (2, .int a2), (3, .int a3), (4, .int (-1 : Int32))]) C [1, 2, 3, 4, 0] dX9_why_36 (by rw [hnL]; decide) rfl ?_
        refine tw_iconst (v := 0) C dX9_why_38 (by decide) ?_
        refine tw_istore (lv' := [(0, rv K (9, 0)), (1, .int a1), (2, .int a2), (3, .int a3), (4, .int (-1 : Int32)), (5, .int (0 : Int32))]) C [1, 2, 3, 4, 5, 0] dX9_why_39 (by rw [hnL]; decide) rfl ?_
        refine lpF_ct (G := fun (q : Int32 × Int32) => match q with | (x1, x2) => TW K 41 [(0, rv K (9, 0)), (1, .int a1), (2, .int a2), (3, .int a3), (4, .int x1), (5, .int x2)] [] σ1) ?_ eh4
        rintro ⟨x1, x2⟩ w5 hx5 hk5
        show TW K 41 [(0, rv K (9, 0)), (1, .int a1), (2, .int a2), (3, .int a3), (4, .int x1), (5, .int x2)] [] σ1
        refine tw_iload (i := 5) (z := 5) C dX9_why_41 rfl ?_
        refine tw_bipush (v := 28) C dX9_why_43 (by decide) ?_
        refine tw_ic_ge (tgt := 107) C dX9_why_45 (by decide) (fun hc6 => ?_) (fun hc6 => ?_)
        · have ht6 := ite_t hc6 hx5
          refine tw_iload (i := 4) (z := 4) C dX9_why_107 rfl ?_
          have e7 := lp_x ht6 hk5
          obtain ⟨rfl, rfl⟩ := pj2 (Option.some.inj e7)
          exact tw_iret C hK rfl rfl dX9_why_109
        · have hf6 := ite_f hc6 hx5
          refine tw_aload_n (i := 0) (z := 0) (r := (9, 0)) C dX9_why_48 rfl rfl ?_
          refine tw_getR (g := 34) (z := 0) (j' := 0) C fl_RX9_26 rfl (wcells_mem (f := 9) (j := 0) (by decide) (by decide)) rfl rfl dX9_why_49 ?_
          refine tw_bipush (v := 28) C dX9_why_52 (by decide) ?_
          refine tw_iload_n (i := 1) (z := 1) C dX9_why_54 rfl rfl ?_
          refine tw_imul C dX9_why_55 ?_
          refine tw_iload (i := 5) (z := 5) C dX9_why_56 rfl ?_
          refine tw_iadd C dX9_why_58 ?_
          obtain ⟨hb8, eh8⟩ := grd_some hf6
          refine tw_iald (r := (34, 0)) C (ia_of rfl (by decide)) hb8 dX9_why_59 ?_
          obtain ⟨x3, ex9, eh9⟩ := bnd_ex eh8
          refine tw_topi ex9.symm ?_
          refine tw_istore (lv' := [(0, rv K (9, 0)), (1, .int a1), (2, .int a2), (3, .int a3), (4, .int x1), (5, .int x2), (6, .int x3)]) C [1, 2, 3, 4, 5, 6, 0] dX9_why_60 (by rw [hnL]; decide) rfl ?_
          refine tw_iload (i := 6) (z := 6) C dX9_why_62 rfl ?_
          refine tw_iconst (v := (-1)) C dX9_why_64 (by decide) ?_
          obtain ⟨x4, hx10, hq10⟩ := obi_some eh9
          have hJ10 : TW K 99 [(0, rv K (9, 0)), (1, .int a1), (2, .int a2), (3, .int a3), (5, .int x2)] [.int x4] σ1 := by
            refine tw_istore (lv' := [(0, rv K (9, 0)), (1, .int a1), (2, .int a2), (3, .int a3), (4, .int x4), (5, .int x2)]) C [1, 2, 3, 4, 0, 5] dX9_why_99 (by rw [hnL]; decide) rfl ?_
            obtain ⟨x5, ex14, eh14⟩ := bnd_ex hq10
            refine tw_iinc (z := 5) (v := x5) (lv' := [(0, rv K (9, 0)), (1, .int a1), (2, .int a2), (3, .int a3), (4, .int x4), (5, .int x5)]) C [1, 2, 3, 4, 5, 0] dX9_why_101 rfl ex14 (by rw [hnL]; decide) rfl ?_
            refine tw_goto (tgt := 41) C dX9_why_104 (by decide) ?_
            have hz := lp_c eh14 hk5
            exact hz
          refine tw_ic_eq (tgt := 97) C dX9_why_65 (by decide) (fun hc11 => ?_) (fun hc11 => ?_)
          · have ht11 := ite_t hc11 hx10
            refine tw_iload (i := 4) (z := 4) C dX9_why_97 rfl ?_
            refine tw_sub [0, 1, 2, 3, 5] rfl ?_
            obtain rfl := (Option.some.inj ht11)
            exact hJ10
          · have hf11 := ite_f hc11 hx10
            refine tw_iload (i := 6) (z := 6) C dX9_why_68 rfl ?_
            refine tw_sipush (v := 128) C dX9_why_70 (by decide) ?_
            refine tw_idiv C dX9_why_73 (by decide) ?_
            refine tw_iload_n (i := 2) (z := 2) C dX9_why_74 rfl rfl ?_
            refine tw_ic_ne (tgt := 97) C dX9_why_75 (by decide) (fun hc12 => ?_) (fun hc12 => ?_)
            · have ht12 := ite_f hc12 hf11
              refine tw_iload (i := 4) (z := 4) C dX9_why_97 rfl ?_
              refine tw_sub [0, 1, 2, 3, 5] rfl ?_
              obtain rfl := (Option.some.inj ht12)
              exact hJ10
            · have hf12 := ite_t hc12 hf11
              refine tw_iload (i := 6) (z := 6) C dX9_why_78 rfl ?_
              refine tw_sipush (v := 128) C dX9_why_80 (by decide) ?_
              refine tw_irem C dX9_why_83 (by decide) ?_
              refine tw_iload_n (i := 3) (z := 3) C dX9_why_84 rfl rfl ?_
              refine tw_ishr C dX9_why_85 ?_
              refine tw_iconst (v := 1) C dX9_why_86 (by decide) ?_
              refine tw_iand C dX9_why_87 ?_
              refine tw_iconst (v := 1) C dX9_why_88 (by decide) ?_
              refine tw_ic_ne (tgt := 97) C dX9_why_89 (by decide) (fun hc13 => ?_) (fun hc13 => ?_)
              · have ht13 := ite_f hc13 hf12
                refine tw_iload (i := 4) (z := 4) C dX9_why_97 rfl ?_
                refine tw_sub [0, 1, 2, 3, 5] rfl ?_
                obtain rfl := (Option.some.inj ht13)
                exact hJ10
              · have hf13 := ite_t hc13 hf12
                refine tw_iload (i := 5) (z := 5) C dX9_why_92 rfl ?_
                refine tw_goto (tgt := 99) C dX9_why_94 (by decide) ?_
                refine tw_sub [0, 1, 2, 3, 5] rfl ?_
                obtain rfl := (Option.some.inj hf13)
                exact hJ10
      · have hf3 := ite_f (b2i_z hc3) hf2
        refine tw_bipush (v := (-2)) C dX9_why_27 (by decide) ?_
        obtain ⟨rfl, rfl⟩ := pj2 (Option.some.inj hf3)
        exact tw_iret C hK rfl rfl dX9_why_29

set_option maxRecDepth 20000 in
def fX9_differOf (σ : St) (a1 : Int32) (a2 : Int32) : Option (Int32 × St) :=
  lpF (fun (q1 : Int32 × Int32 × St) => match q1 with
  | (x1, x2, σ1) =>
  if (17 : Int32) ≤ x2 then
    some (.inr ((x1, σ1)))
  else
    obi (fX9_itemOf σ1 a1 x2) (fun (x3, σ2) =>
    obi (fX9_itemOf σ2 a2 x2) (fun (x4, σ3) =>
    bnd (if x3 = x4 then
      (0 : Int32)
    else
      (1 : Int32) <<< (x2 &&& 31)) (fun x5 =>
    bnd (x1 ||| x5) (fun x6 =>
    bnd (x2 + 1) (fun x7 =>
    some (.inl (x6, x7, σ3)))))))) ((0 : Int32), (0 : Int32), σ)
set_option maxRecDepth 20000 in
set_option maxHeartbeats 4000000 in
theorem kX9_differOf (G : Gx) (d : Nat) (hdp : 7 ≤ d) (σ : St) (a1 : Int32) (a2 : Int32)  {v0 : Int32} {σ' : St} (h : fX9_differOf σ a1 a2 = some (v0, σ')) : MS G d yX9_differOf cX9_differOf 5 (some .int) [.ref (G.2.1 (9, 0)), .int a1, .int a2] σ (some (.int v0)) σ' := by
  refine MS_of (by decide) (Nat.le_of_ble_eq_true rfl) rfl (fun K hG hnL C hR hK => ?_) (by omega)
  subst hG
  show TW K 0 [(0, rv K (9, 0)), (1, .int a1), (2, .int a2)] [] σ
  unfold fX9_differOf at h
  refine tw_iconst (v := 0) C dX9_differOf_0 (by decide) ?_
  refine tw_istore_n (lv' := [(0, rv K (9, 0)), (1, .int a1), (2, .int a2), (3, .int (0 : Int32))]) C [1, 2, 3, 0] dX9_differOf_1 rfl (by rw [hnL]; decide) rfl ?_
  refine tw_iconst (v := 0) C dX9_differOf_2 (by decide) ?_
  refine tw_istore (lv' := [(0, rv K (9, 0)), (1, .int a1), (2, .int a2), (3, .int (0 : Int32)), (4, .int (0 : Int32))]) C [1, 2, 3, 4, 0] dX9_differOf_3 (by rw [hnL]; decide) rfl ?_
  refine lpF_ct (G := fun (q : Int32 × Int32 × St) => match q with | (x1, x2, σ1) => TW K 5 [(0, rv K (9, 0)), (1, .int a1), (2, .int a2), (3, .int x1), (4, .int x2)] [] σ1) ?_ h
  rintro ⟨x1, x2, σ1⟩ w1 hx1 hk1
  show TW K 5 [(0, rv K (9, 0)), (1, .int a1), (2, .int a2), (3, .int x1), (4, .int x2)] [] σ1
  refine tw_iload (i := 4) (z := 4) C dX9_differOf_5 rfl ?_
  refine tw_bipush (v := 17) C dX9_differOf_7 (by decide) ?_
  refine tw_ic_ge (tgt := 46) C dX9_differOf_9 (by decide) (fun hc2 => ?_) (fun hc2 => ?_)
  · have ht2 := ite_t hc2 hx1
    refine tw_iload_n (i := 3) (z := 3) C dX9_differOf_46 rfl rfl ?_
    have e3 := lp_x ht2 hk1
    obtain ⟨rfl, rfl⟩ := pj2 (Option.some.inj e3)
    exact tw_iret C hK rfl rfl dX9_differOf_47
  · have hf2 := ite_f hc2 hx1
    refine tw_iload_n (i := 3) (z := 3) C dX9_differOf_12 rfl rfl ?_
    refine tw_aload_n (i := 0) (z := 0) (r := (9, 0)) C dX9_differOf_13 rfl rfl ?_
    refine tw_iload_n (i := 1) (z := 1) C dX9_differOf_14 rfl rfl ?_
    refine tw_iload (i := 4) (z := 4) C dX9_differOf_15 rfl ?_
    obtain ⟨⟨x3, σ2⟩, hv4, eh4⟩ := obi_some hf2
    refine tw_callV (As := [.int a1, .int x2]) (rest := [.int x1]) (r := (9, 0)) C hR (kX9_itemOf K.1 _ (by omega) _ a1 x2  hv4) mi_X9_itemOf is_X9_itemOf se_X9_itemOf ml_RX9_147 (wcells_mem (f := 9) (j := 0) (by decide) (by decide)) rfl rfl rfl rfl (Nat.le_of_ble_eq_true rfl) dX9_differOf_17 ?_
    show TW K 20 [(0, rv K (9, 0)), (1, .int a1), (2, .int a2), (3, .int x1), (4, .int x2)] [.int x3, .int x1] σ2
    refine tw_aload_n (i := 0) (z := 0) (r := (9, 0)) C dX9_differOf_20 rfl rfl ?_
    refine tw_iload_n (i := 2) (z := 2) C dX9_differOf_21 rfl rfl ?_
    refine tw_iload (i := 4) (z := 4) C dX9_differOf_22 rfl ?_
    obtain ⟨⟨x4, σ3⟩, hv5, eh5⟩ := obi_some eh4
    refine tw_callV (As := [.int a2, .int x2]) (rest := [.int x3, .int x1]) (r := (9, 0)) C hR (kX9_itemOf K.1 _ (by omega) _ a2 x2  hv5) mi_X9_itemOf is_X9_itemOf se_X9_itemOf ml_RX9_147 (wcells_mem (f := 9) (j := 0) (by decide) (by decide)) rfl rfl rfl rfl (Nat.le_of_ble_eq_true rfl) dX9_differOf_24 ?_
    show TW K 27 [(0, rv K (9, 0)), (1, .int a1), (2, .int a2), (3, .int x1), (4, .int x2)] [.int x4, .int x3, .int x1] σ3
    obtain ⟨x5, hx6, hq6⟩ := bnd_ex eh5
    have hJ6 : TW K 38 [(0, rv K (9, 0)), (1, .int a1), (2, .int a2), (4, .int x2)] [.int x5, .int x1] σ3 := by
      refine tw_ior C dX9_differOf_38 ?_
      obtain ⟨x6, ex8, eh8⟩ := bnd_ex hq6
      refine tw_topi ex8.symm ?_
      refine tw_istore_n (lv' := [(0, rv K (9, 0)), (1, .int a1), (2, .int a2), (3, .int x6), (4, .int x2)]) C [1, 2, 3, 0, 4] dX9_differOf_39 rfl (by rw [hnL]; decide) rfl ?_
      obtain ⟨x7, ex9, eh9⟩ := bnd_ex eh8
      refine tw_iinc (z := 4) (v := x7) (lv' := [(0, rv K (9, 0)), (1, .int a1), (2, .int a2), (3, .int x6), (4, .int x7)]) C [1, 2, 3, 4, 0] dX9_differOf_40 rfl ex9 (by rw [hnL]; decide) rfl ?_
      refine tw_goto (tgt := 5) C dX9_differOf_43 (by decide) ?_
      have hz := lp_c eh9 hk1
      exact hz
    refine tw_ic_ne (tgt := 34) C dX9_differOf_27 (by decide) (fun hc7 => ?_) (fun hc7 => ?_)
    · have ht7 := ite_f hc7 hx6
      refine tw_iconst (v := 1) C dX9_differOf_34 (by decide) ?_
      refine tw_iload (i := 4) (z := 4) C dX9_differOf_35 rfl ?_
      refine tw_ishl C dX9_differOf_37 ?_
      refine tw_sub [0, 1, 2, 4] rfl ?_
      obtain rfl := ht7
      exact hJ6
    · have hf7 := ite_t hc7 hx6
      refine tw_iconst (v := 0) C dX9_differOf_30 (by decide) ?_
      refine tw_goto (tgt := 38) C dX9_differOf_31 (by decide) ?_
      refine tw_sub [0, 1, 2, 4] rfl ?_
      obtain rfl := hf7
      exact hJ6

set_option maxRecDepth 20000 in
def fX9_differ (σ : St) (a1 : Int32) (a2 : Int32) : Option (Int32 × St) :=
  if (fX9_isCode a1) = true then
    if (fX9_isCode a2) = true then
      obi (fX9_differOf σ a1 a2) (fun (x1, σ1) =>
      some (x1, σ1))
    else
      some ((-2 : Int32), σ)
  else
    some ((-2 : Int32), σ)
set_option maxRecDepth 20000 in
set_option maxHeartbeats 4000000 in
theorem kX9_differ (G : Gx) (d : Nat) (hdp : 8 ≤ d) (σ : St) (a1 : Int32) (a2 : Int32)  {v0 : Int32} {σ' : St} (h : fX9_differ σ a1 a2 = some (v0, σ')) : MS G d yX9_differ cX9_differ 3 (some .int) [.ref (G.2.1 (9, 0)), .int a1, .int a2] σ (some (.int v0)) σ' := by
  refine MS_of (by decide) (Nat.le_of_ble_eq_true rfl) rfl (fun K hG hnL C hR hK => ?_) (by omega)
  subst hG
  show TW K 0 [(0, rv K (9, 0)), (1, .int a1), (2, .int a2)] [] σ
  unfold fX9_differ at h
  refine tw_iload_n (i := 1) (z := 1) C dX9_differ_0 rfl rfl ?_
  refine tw_callS (As := [.int a1]) (rest := []) C hR (kX9_isCode K.1 _ (by omega) σ a1  rfl) mi_X9_isCode st_X9_isCode ml_RX9_110 rfl rfl (Nat.le_of_ble_eq_true rfl) dX9_differ_1 ?_
  show TW K 4 [(0, rv K (9, 0)), (1, .int a1), (2, .int a2)] [.int (b2i (fX9_isCode a1))] σ
  refine tw_if_eq (tgt := 23) C dX9_differ_4 (by decide) (fun hc1 => ?_) (fun hc1 => ?_)
  · have ht1 := ite_f (b2i_z hc1) h
    refine tw_bipush (v := (-2)) C dX9_differ_23 (by decide) ?_
    obtain ⟨rfl, rfl⟩ := pj2 (Option.some.inj ht1)
    exact tw_iret C hK rfl rfl dX9_differ_25
  · have hf1 := ite_t (b2i_nz hc1) h
    refine tw_iload_n (i := 2) (z := 2) C dX9_differ_7 rfl rfl ?_
    refine tw_callS (As := [.int a2]) (rest := []) C hR (kX9_isCode K.1 _ (by omega) σ a2  rfl) mi_X9_isCode st_X9_isCode ml_RX9_110 rfl rfl (Nat.le_of_ble_eq_true rfl) dX9_differ_8 ?_
    show TW K 11 [(0, rv K (9, 0)), (1, .int a1), (2, .int a2)] [.int (b2i (fX9_isCode a2))] σ
    refine tw_if_eq (tgt := 23) C dX9_differ_11 (by decide) (fun hc2 => ?_) (fun hc2 => ?_)
    · have ht2 := ite_f (b2i_z hc2) hf1
      refine tw_bipush (v := (-2)) C dX9_differ_23 (by decide) ?_
      obtain ⟨rfl, rfl⟩ := pj2 (Option.some.inj ht2)
      exact tw_iret C hK rfl rfl dX9_differ_25
    · have hf2 := ite_t (b2i_nz hc2) hf1
      refine tw_aload_n (i := 0) (z := 0) (r := (9, 0)) C dX9_differ_14 rfl rfl ?_
      refine tw_iload_n (i := 1) (z := 1) C dX9_differ_15 rfl rfl ?_
      refine tw_iload_n (i := 2) (z := 2) C dX9_differ_16 rfl rfl ?_
      obtain ⟨⟨x1, σ1⟩, hv3, eh3⟩ := obi_some hf2
      refine tw_callV (As := [.int a1, .int a2]) (rest := []) (r := (9, 0)) C hR (kX9_differOf K.1 _ (by omega) _ a1 a2  hv3) mi_X9_differOf is_X9_differOf se_X9_differOf ml_RX9_151 (wcells_mem (f := 9) (j := 0) (by decide) (by decide)) rfl rfl rfl rfl (Nat.le_of_ble_eq_true rfl) dX9_differ_17 ?_
      show TW K 20 [(0, rv K (9, 0)), (1, .int a1), (2, .int a2)] [.int x1] σ1
      refine tw_goto (tgt := 25) C dX9_differ_20 (by decide) ?_
      obtain ⟨rfl, rfl⟩ := pj2 (Option.some.inj eh3)
      exact tw_iret C hK rfl rfl dX9_differ_25

set_option maxRecDepth 20000 in
def fX9_mix (σ : St) (a1 : Int32) (a2 : Int32) (a3 : Int32) : Option (St) :=
  lpF (fun (q1 : Int32 × St) => match q1 with
  | (x1, σ1) =>
  if (17 : Int32) ≤ x1 then
    some (.inr σ1)
  else
    bnd (if ((a3 >>> (x1 &&& 31)) &&& (1 : Int32)) = (1 : Int32) then
      a2
    else
      a1) (fun x2 =>
    obi (fX9_itemOf σ1 x2 x1) (fun (x3, σ2) =>
    grd (inb x1 17) (bnd (su σ2 (35, 0) (tn x1) x3) (fun σ3 =>
    bnd (x1 + 1) (fun x4 =>
    some (.inl (x4, σ3)))))))) ((0 : Int32), σ)
set_option maxRecDepth 20000 in
set_option maxHeartbeats 4000000 in
theorem kX9_mix (G : Gx) (d : Nat) (hdp : 7 ≤ d) (σ : St) (a1 : Int32) (a2 : Int32) (a3 : Int32)  {σ' : St} (h : fX9_mix σ a1 a2 a3 = some σ') : MS G d yX9_mix cX9_mix 5 none [.ref (G.2.1 (9, 0)), .int a1, .int a2, .int a3] σ none σ' := by
  refine MS_of (by decide) (Nat.le_of_ble_eq_true rfl) rfl (fun K hG hnL C hR hK => ?_) (by omega)
  subst hG
  show TW K 0 [(0, rv K (9, 0)), (1, .int a1), (2, .int a2), (3, .int a3)] [] σ
  unfold fX9_mix at h
  refine tw_iconst (v := 0) C dX9_mix_0 (by decide) ?_
  refine tw_istore (lv' := [(0, rv K (9, 0)), (1, .int a1), (2, .int a2), (3, .int a3), (4, .int (0 : Int32))]) C [1, 2, 3, 4, 0] dX9_mix_1 (by rw [hnL]; decide) rfl ?_
  refine lpF_ct (G := fun (q : Int32 × St) => match q with | (x1, σ1) => TW K 3 [(0, rv K (9, 0)), (1, .int a1), (2, .int a2), (3, .int a3), (4, .int x1)] [] σ1) ?_ h
  rintro ⟨x1, σ1⟩ w1 hx1 hk1
  show TW K 3 [(0, rv K (9, 0)), (1, .int a1), (2, .int a2), (3, .int a3), (4, .int x1)] [] σ1
  refine tw_iload (i := 4) (z := 4) C dX9_mix_3 rfl ?_
  refine tw_bipush (v := 17) C dX9_mix_5 (by decide) ?_
  refine tw_ic_ge (tgt := 44) C dX9_mix_7 (by decide) (fun hc2 => ?_) (fun hc2 => ?_)
  · have ht2 := ite_t hc2 hx1
    have e3 := lp_x ht2 hk1
    obtain rfl := (Option.some.inj e3)
    exact tw_vret C hK rfl rfl dX9_mix_44
  · have hf2 := ite_f hc2 hx1
    refine tw_aload_n (i := 0) (z := 0) (r := (9, 0)) C dX9_mix_10 rfl rfl ?_
    refine tw_getR (g := 35) (z := 0) (j' := 0) C fl_RX9_29 rfl (wcells_mem (f := 9) (j := 0) (by decide) (by decide)) rfl rfl dX9_mix_11 ?_
    refine tw_iload (i := 4) (z := 4) C dX9_mix_14 rfl ?_
    refine tw_aload_n (i := 0) (z := 0) (r := (9, 0)) C dX9_mix_16 rfl rfl ?_
    refine tw_iload_n (i := 3) (z := 3) C dX9_mix_17 rfl rfl ?_
    refine tw_iload (i := 4) (z := 4) C dX9_mix_18 rfl ?_
    refine tw_ishr C dX9_mix_20 ?_
    refine tw_iconst (v := 1) C dX9_mix_21 (by decide) ?_
    refine tw_iand C dX9_mix_22 ?_
    refine tw_iconst (v := 1) C dX9_mix_23 (by decide) ?_
    obtain ⟨x2, hx4, hq4⟩ := bnd_ex hf2
    have hJ4 : TW K 32 [(0, rv K (9, 0)), (1, .int a1), (2, .int a2), (3, .int a3), (4, .int x1)] [.int x2, rv K (9, 0), .int x1, rv K (35, 0)] σ1 := by
      refine tw_iload (i := 4) (z := 4) C dX9_mix_32 rfl ?_
      obtain ⟨⟨x3, σ2⟩, hv6, eh6⟩ := obi_some hq4
      refine tw_callV (As := [.int x2, .int x1]) (rest := [.int x1, rv K (35, 0)]) (r := (9, 0)) C hR (kX9_itemOf K.1 _ (by omega) _ x2 x1  hv6) mi_X9_itemOf is_X9_itemOf se_X9_itemOf ml_RX9_147 (wcells_mem (f := 9) (j := 0) (by decide) (by decide)) rfl rfl rfl rfl (Nat.le_of_ble_eq_true rfl) dX9_mix_34 ?_
      show TW K 37 [(0, rv K (9, 0)), (1, .int a1), (2, .int a2), (3, .int a3), (4, .int x1)] [.int x3, .int x1, rv K (35, 0)] σ2
      obtain ⟨hb7, eh7⟩ := grd_some eh6
      obtain ⟨σ3, es8, eg8⟩ := bnd_ex eh7
      refine tw_iast (r := (35, 0)) C (wa_of rfl (by decide) (by decide)) hb7 dX9_mix_37 ?_
      rw [es8]
      obtain ⟨x4, ex9, eh9⟩ := bnd_ex eg8
      refine tw_iinc (z := 4) (v := x4) (lv' := [(0, rv K (9, 0)), (1, .int a1), (2, .int a2), (3, .int a3), (4, .int x4)]) C [1, 2, 3, 4, 0] dX9_mix_38 rfl ex9 (by rw [hnL]; decide) rfl ?_
      refine tw_goto (tgt := 3) C dX9_mix_41 (by decide) ?_
      have hz := lp_c eh9 hk1
      exact hz
    refine tw_ic_ne (tgt := 31) C dX9_mix_24 (by decide) (fun hc5 => ?_) (fun hc5 => ?_)
    · have ht5 := ite_f hc5 hx4
      refine tw_iload_n (i := 1) (z := 1) C dX9_mix_31 rfl rfl ?_
      obtain rfl := ht5
      exact hJ4
    · have hf5 := ite_t hc5 hx4
      refine tw_iload_n (i := 2) (z := 2) C dX9_mix_27 rfl rfl ?_
      refine tw_goto (tgt := 32) C dX9_mix_28 (by decide) ?_
      obtain rfl := hf5
      exact hJ4

set_option maxRecDepth 20000 in
def fX9_begins (σ : St)  : St :=
  bnd (su σ (9, 0) 10 (3 : Int32)) (fun σ1 =>
  bnd (su σ1 (9, 0) 11 (2 : Int32)) (fun σ2 =>
  bnd (su σ2 (9, 0) 12 (0 : Int32)) (fun σ3 =>
  bnd (su σ3 (9, 0) 13 (0 : Int32)) (fun σ4 =>
  bnd (su σ4 (9, 0) 14 (0 : Int32)) (fun σ5 =>
  σ5)))))
set_option maxRecDepth 20000 in
set_option maxHeartbeats 4000000 in
theorem kX9_begins (G : Gx) (d : Nat) (hdp : 1 ≤ d) (σ : St)   {σ' : St} (h : fX9_begins σ  = σ') : MS G d yX9_begins cX9_begins 1 none [.ref (G.2.1 (9, 0))] σ none σ' := by
  refine MS_of (by decide) (Nat.le_of_ble_eq_true rfl) rfl (fun K hG hnL C hR hK => ?_) (by omega)
  subst hG
  show TW K 0 [(0, rv K (9, 0))] [] σ
  unfold fX9_begins at h
  refine tw_aload_n (i := 0) (z := 0) (r := (9, 0)) C dX9_begins_0 rfl rfl ?_
  refine tw_iconst (v := 3) C dX9_begins_1 (by decide) ?_
  obtain ⟨σ1, es1, eh1⟩ := bnd_ex h
  refine tw_put C fl_RX9_154 (fun q hq => by cases hq; rfl) rfl (wcells_mem (f := 9) (j := 0) (by decide) (by decide)) rfl rfl rfl dX9_begins_2 ?_
  rw [es1]
  refine tw_aload_n (i := 0) (z := 0) (r := (9, 0)) C dX9_begins_5 rfl rfl ?_
  refine tw_iconst (v := 2) C dX9_begins_6 (by decide) ?_
  obtain ⟨σ2, es2, eh2⟩ := bnd_ex eh1
  refine tw_put C fl_RX9_157 (fun q hq => by cases hq; rfl) rfl (wcells_mem (f := 9) (j := 0) (by decide) (by decide)) rfl rfl rfl dX9_begins_7 ?_
  rw [es2]
  refine tw_aload_n (i := 0) (z := 0) (r := (9, 0)) C dX9_begins_10 rfl rfl ?_
  refine tw_iconst (v := 0) C dX9_begins_11 (by decide) ?_
  obtain ⟨σ3, es3, eh3⟩ := bnd_ex eh2
  refine tw_put C fl_RX9_160 (fun q hq => by cases hq; rfl) rfl (wcells_mem (f := 9) (j := 0) (by decide) (by decide)) rfl rfl rfl dX9_begins_12 ?_
  rw [es3]
  refine tw_aload_n (i := 0) (z := 0) (r := (9, 0)) C dX9_begins_15 rfl rfl ?_
  refine tw_iconst (v := 0) C dX9_begins_16 (by decide) ?_
  obtain ⟨σ4, es4, eh4⟩ := bnd_ex eh3
  refine tw_put C fl_RX9_163 (fun q hq => by cases hq; rfl) rfl (wcells_mem (f := 9) (j := 0) (by decide) (by decide)) rfl rfl rfl dX9_begins_17 ?_
  rw [es4]
  refine tw_aload_n (i := 0) (z := 0) (r := (9, 0)) C dX9_begins_20 rfl rfl ?_
  refine tw_iconst (v := 0) C dX9_begins_21 (by decide) ?_
  obtain ⟨σ5, es5, eh5⟩ := bnd_ex eh4
  refine tw_put C fl_RX9_166 (fun q hq => by cases hq; rfl) rfl (wcells_mem (f := 9) (j := 0) (by decide) (by decide)) rfl rfl rfl dX9_begins_22 ?_
  rw [es5]
  obtain rfl := eh5
  exact tw_vret C hK rfl rfl dX9_begins_25

set_option maxRecDepth 20000 in
def fX9_ownCell (a0 : Int32) (a1 : Int32) : Int32 :=
  if a0 = 0 then
    a1
  else
    (6 : Int32) - a1
set_option maxRecDepth 20000 in
set_option maxHeartbeats 4000000 in
theorem kX9_ownCell (G : Gx) (d : Nat) (hdp : 1 ≤ d) (σ : St) (a0 : Int32) (a1 : Int32)  {v0 : Int32} (h : fX9_ownCell a0 a1 = v0) : MS G d yX9_ownCell cX9_ownCell 2 (some .int) [.int a0, .int a1] σ (some (.int v0)) σ := by
  refine MS_of (by decide) (Nat.le_of_ble_eq_true rfl) rfl (fun K hG hnL C hR hK => ?_) (by omega)
  subst hG
  show TW K 0 [(0, .int a0), (1, .int a1)] [] σ
  unfold fX9_ownCell at h
  refine tw_iload_n (i := 0) (z := 0) C dX9_ownCell_0 rfl rfl ?_
  refine tw_if_ne (tgt := 8) C dX9_ownCell_1 (by decide) (fun hc1 => ?_) (fun hc1 => ?_)
  · have ht1 := ite_f hc1 h
    refine tw_bipush (v := 6) C dX9_ownCell_8 (by decide) ?_
    refine tw_iload_n (i := 1) (z := 1) C dX9_ownCell_10 rfl rfl ?_
    refine tw_isub C dX9_ownCell_11 ?_
    obtain rfl := ht1
    exact tw_iret C hK rfl rfl dX9_ownCell_12
  · have hf1 := ite_t hc1 h
    refine tw_iload_n (i := 1) (z := 1) C dX9_ownCell_4 rfl rfl ?_
    refine tw_goto (tgt := 12) C dX9_ownCell_5 (by decide) ?_
    obtain rfl := hf1
    exact tw_iret C hK rfl rfl dX9_ownCell_12

set_option maxRecDepth 20000 in
def fX9_on (a0 : Int32) (a1 : Int32) (a2 : Int32) : Int32 :=
  bnd ((fX9_ownCell a0 a1) + a2) (fun x1 =>
  bnd (if 0 ≤ x1 then
    if x1 ≤ (6 : Int32) then
      x1
    else
      (6 : Int32)
  else
    (0 : Int32)) (fun x2 =>
  fX9_ownCell a0 x2))
set_option maxRecDepth 20000 in
set_option maxHeartbeats 4000000 in
theorem kX9_on (G : Gx) (d : Nat) (hdp : 2 ≤ d) (σ : St) (a0 : Int32) (a1 : Int32) (a2 : Int32)  {v0 : Int32} (h : fX9_on a0 a1 a2 = v0) : MS G d yX9_on cX9_on 4 (some .int) [.int a0, .int a1, .int a2] σ (some (.int v0)) σ := by
  refine MS_of (by decide) (Nat.le_of_ble_eq_true rfl) rfl (fun K hG hnL C hR hK => ?_) (by omega)
  subst hG
  show TW K 0 [(0, .int a0), (1, .int a1), (2, .int a2)] [] σ
  unfold fX9_on at h
  refine tw_iload_n (i := 0) (z := 0) C dX9_on_0 rfl rfl ?_
  refine tw_iload_n (i := 1) (z := 1) C dX9_on_1 rfl rfl ?_
  refine tw_callS (As := [.int a0, .int a1]) (rest := []) C hR (kX9_ownCell K.1 _ (by omega) σ a0 a1  rfl) mi_X9_ownCell st_X9_ownCell ml_RX9_169 rfl rfl (Nat.le_of_ble_eq_true rfl) dX9_on_2 ?_
  show TW K 5 [(0, .int a0), (1, .int a1), (2, .int a2)] [.int (fX9_ownCell a0 a1)] σ
  refine tw_iload_n (i := 2) (z := 2) C dX9_on_5 rfl rfl ?_
  refine tw_iadd C dX9_on_6 ?_
  obtain ⟨x1, ex1, eh1⟩ := bnd_ex h
  refine tw_topi ex1.symm ?_
  refine tw_istore_n (lv' := [(0, .int a0), (1, .int a1), (2, .int a2), (3, .int x1)]) C [1, 2, 3, 0] dX9_on_7 rfl (by rw [hnL]; decide) rfl ?_
  refine tw_iload_n (i := 0) (z := 0) C dX9_on_8 rfl rfl ?_
  refine tw_iload_n (i := 3) (z := 3) C dX9_on_9 rfl rfl ?_
  obtain ⟨x2, hx2, hq2⟩ := bnd_ex eh1
  have hJ2 : TW K 29 [] [.int x2, .int a0] σ := by
    refine tw_callS (As := [.int a0, .int x2]) (rest := []) C hR (kX9_ownCell K.1 _ (by omega) σ a0 x2  rfl) mi_X9_ownCell st_X9_ownCell ml_RX9_169 rfl rfl (Nat.le_of_ble_eq_true rfl) dX9_on_29 ?_
    show TW K 32 [] [.int (fX9_ownCell a0 x2)] σ
    obtain rfl := hq2
    exact tw_iret C hK rfl rfl dX9_on_32
  refine tw_if_ge (tgt := 17) C dX9_on_10 (by decide) (fun hc3 => ?_) (fun hc3 => ?_)
  · have ht3 := ite_t hc3 hx2
    refine tw_iload_n (i := 3) (z := 3) C dX9_on_17 rfl rfl ?_
    refine tw_bipush (v := 6) C dX9_on_18 (by decide) ?_
    refine tw_ic_le (tgt := 28) C dX9_on_20 (by decide) (fun hc4 => ?_) (fun hc4 => ?_)
    · have ht4 := ite_t hc4 ht3
      refine tw_iload_n (i := 3) (z := 3) C dX9_on_28 rfl rfl ?_
      refine tw_sub [] rfl ?_
      obtain rfl := ht4
      exact hJ2
    · have hf4 := ite_f hc4 ht3
      refine tw_bipush (v := 6) C dX9_on_23 (by decide) ?_
      refine tw_goto (tgt := 29) C dX9_on_25 (by decide) ?_
      refine tw_sub [] rfl ?_
      obtain rfl := hf4
      exact hJ2
  · have hf3 := ite_f hc3 hx2
    refine tw_iconst (v := 0) C dX9_on_13 (by decide) ?_
    refine tw_goto (tgt := 29) C dX9_on_14 (by decide) ?_
    refine tw_sub [] rfl ?_
    obtain rfl := hf3
    exact hJ2

set_option maxRecDepth 20000 in
def fX9_canBe (σ : St) (a1 : Int32) (a2 : Int32) : Bool :=
  bnd (if (σ (9, 0) 11) = a1 then
    (1 : Int32)
  else
    (0 : Int32)) (fun x1 =>
  bnd ((6 : Int32) - (fX9_ownCell a1 (σ (9, 0) 10))) (fun x2 =>
  if a2 = 0 ∨ a2 = 2 then
    if x1 = 0 then
      false
    else
      if (σ (9, 0) 12) = 0 then
        true
      else
        false
  else
    if a2 = 1 then
      if x1 = 0 then
        if (σ (9, 0) 12) = (1 : Int32) then
          false
        else
          true
      else
        false
    else
      if a2 = 3 then
        if (σ (9, 0) 12) = (2 : Int32) then
          true
        else
          false
      else
        if a2 = 4 then
          if x1 = 0 then
            false
          else
            if x2 ≤ 0 then
              false
            else
              true
        else
          if a2 = 5 ∨ a2 = 6 then
            if x1 = 0 then
              false
            else
              if (σ (9, 0) 12) = (1 : Int32) then
                true
              else
                false
          else
            if a2 = 7 then
              if (σ (9, 0) 11) = ((1 : Int32) - a1) then
                true
              else
                false
            else
              if a2 = 8 then
                if x1 = 0 then
                  false
                else
                  if (2 : Int32) < x2 then
                    false
                  else
                    true
              else
                if x1 = 0 then
                  false
                else
                  if (σ (9, 0) 12) = 0 then
                    if (1 : Int32) < x2 then
                      false
                    else
                      true
                  else
                    false))
set_option maxRecDepth 20000 in
set_option maxHeartbeats 4000000 in
theorem kX9_canBe (G : Gx) (d : Nat) (hdp : 2 ≤ d) (σ : St) (a1 : Int32) (a2 : Int32)  {v0 : Bool} (h : fX9_canBe σ a1 a2 = v0) : MS G d yX9_canBe cX9_canBe 5 (some .boolean) [.ref (G.2.1 (9, 0)), .int a1, .int a2] σ (some (.int (b2i v0))) σ := by
  refine MS_of (by decide) (Nat.le_of_ble_eq_true rfl) rfl (fun K hG hnL C hR hK => ?_) (by omega)
  subst hG
  show TW K 0 [(0, rv K (9, 0)), (1, .int a1), (2, .int a2)] [] σ
  unfold fX9_canBe at h
  refine tw_aload_n (i := 0) (z := 0) (r := (9, 0)) C dX9_canBe_0 rfl rfl ?_
  refine tw_getI C fl_RX9_157 rfl (wcells_mem (f := 9) (j := 0) (by decide) (by decide)) rfl dX9_canBe_1 ?_
  refine tw_iload_n (i := 1) (z := 1) C dX9_canBe_4 rfl rfl ?_
  obtain ⟨x1, hx1, hq1⟩ := bnd_ex h
  have hJ1 : TW K 13 [(0, rv K (9, 0)), (1, .int a1), (2, .int a2)] [.int x1] σ := by
    refine tw_istore_n (lv' := [(0, rv K (9, 0)), (1, .int a1), (2, .int a2), (3, .int x1)]) C [1, 2, 3, 0] dX9_canBe_13 rfl (by rw [hnL]; decide) rfl ?_
    refine tw_bipush (v := 6) C dX9_canBe_14 (by decide) ?_
    refine tw_iload_n (i := 1) (z := 1) C dX9_canBe_16 rfl rfl ?_
    refine tw_aload_n (i := 0) (z := 0) (r := (9, 0)) C dX9_canBe_17 rfl rfl ?_
    refine tw_getI C fl_RX9_154 rfl (wcells_mem (f := 9) (j := 0) (by decide) (by decide)) rfl dX9_canBe_18 ?_
    refine tw_callS (As := [.int a1, .int (σ (9, 0) 10)]) (rest := [.int (6 : Int32)]) C hR (kX9_ownCell K.1 _ (by omega) σ a1 (σ (9, 0) 10)  rfl) mi_X9_ownCell st_X9_ownCell ml_RX9_169 rfl rfl (Nat.le_of_ble_eq_true rfl) dX9_canBe_21 ?_
    show TW K 24 [(0, rv K (9, 0)), (1, .int a1), (2, .int a2), (3, .int x1)] [.int (fX9_ownCell a1 (σ (9, 0) 10)), .int (6 : Int32)] σ
    refine tw_isub C dX9_canBe_24 ?_
    obtain ⟨x2, ex3, eh3⟩ := bnd_ex hq1
    refine tw_topi ex3.symm ?_
    refine tw_istore (lv' := [(0, rv K (9, 0)), (1, .int a1), (2, .int a2), (3, .int x1), (4, .int x2)]) C [1, 2, 3, 4, 0] dX9_canBe_25 (by rw [hnL]; decide) rfl ?_
    refine tw_iload_n (i := 2) (z := 2) C dX9_canBe_27 rfl rfl ?_
    by_cases hc4_0 : a2 = 0 ∨ a2 = 2
    · have ht4_0 := ite_t hc4_0 eh3
      have hT4_0 : TW K 80 [(0, rv K (9, 0)), (1, .int a1), (2, .int a2), (3, .int x1), (4, .int x2)] [] σ := by
        refine tw_iload_n (i := 3) (z := 3) C dX9_canBe_80 rfl rfl ?_
        refine tw_if_eq (tgt := 95) C dX9_canBe_81 (by decide) (fun hc5 => ?_) (fun hc5 => ?_)
        · have ht5 := ite_t hc5 ht4_0
          refine tw_iconst (v := 0) C dX9_canBe_95 (by decide) ?_
          obtain rfl := ht5
          exact tw_zret C hK rfl rfl rfl dX9_canBe_96
        · have hf5 := ite_f hc5 ht4_0
          refine tw_aload_n (i := 0) (z := 0) (r := (9, 0)) C dX9_canBe_84 rfl rfl ?_
          refine tw_getI C fl_RX9_160 rfl (wcells_mem (f := 9) (j := 0) (by decide) (by decide)) rfl dX9_canBe_85 ?_
          refine tw_if_ne (tgt := 95) C dX9_canBe_88 (by decide) (fun hc6 => ?_) (fun hc6 => ?_)
          · have ht6 := ite_f hc6 hf5
            refine tw_iconst (v := 0) C dX9_canBe_95 (by decide) ?_
            obtain rfl := ht6
            exact tw_zret C hK rfl rfl rfl dX9_canBe_96
          · have hf6 := ite_t hc6 hf5
            refine tw_iconst (v := 1) C dX9_canBe_91 (by decide) ?_
            refine tw_goto (tgt := 96) C dX9_canBe_92 (by decide) ?_
            obtain rfl := hf6
            exact tw_zret C hK rfl rfl rfl dX9_canBe_96
      rcases hc4_0 with hz | hz
      · exact tw_tabZ (tgt := 80) C dX9_canBe_28 (0) (by rw [hz]; decide) (by decide) (by decide) rfl (by decide) hT4_0
      · exact tw_tabZ (tgt := 80) C dX9_canBe_28 (2) (by rw [hz]; decide) (by decide) (by decide) rfl (by decide) hT4_0
    have hf4_0 := ite_f hc4_0 eh3
    by_cases hc4_1 : a2 = 1
    · have ht4_1 := ite_t hc4_1 hf4_0
      refine tw_tabZ (tgt := 97) C dX9_canBe_28 (1) (by rw [hc4_1]; decide) (by decide) (by decide) rfl (by decide) ?_
      refine tw_iload_n (i := 3) (z := 3) C dX9_canBe_97 rfl rfl ?_
      refine tw_if_ne (tgt := 113) C dX9_canBe_98 (by decide) (fun hc7 => ?_) (fun hc7 => ?_)
      · have ht7 := ite_f hc7 ht4_1
        refine tw_iconst (v := 0) C dX9_canBe_113 (by decide) ?_
        obtain rfl := ht7
        exact tw_zret C hK rfl rfl rfl dX9_canBe_114
      · have hf7 := ite_t hc7 ht4_1
        refine tw_aload_n (i := 0) (z := 0) (r := (9, 0)) C dX9_canBe_101 rfl rfl ?_
        refine tw_getI C fl_RX9_160 rfl (wcells_mem (f := 9) (j := 0) (by decide) (by decide)) rfl dX9_canBe_102 ?_
        refine tw_iconst (v := 1) C dX9_canBe_105 (by decide) ?_
        refine tw_ic_eq (tgt := 113) C dX9_canBe_106 (by decide) (fun hc8 => ?_) (fun hc8 => ?_)
        · have ht8 := ite_t hc8 hf7
          refine tw_iconst (v := 0) C dX9_canBe_113 (by decide) ?_
          obtain rfl := ht8
          exact tw_zret C hK rfl rfl rfl dX9_canBe_114
        · have hf8 := ite_f hc8 hf7
          refine tw_iconst (v := 1) C dX9_canBe_109 (by decide) ?_
          refine tw_goto (tgt := 114) C dX9_canBe_110 (by decide) ?_
          obtain rfl := hf8
          exact tw_zret C hK rfl rfl rfl dX9_canBe_114
    have hf4_1 := ite_f hc4_1 hf4_0
    by_cases hc4_2 : a2 = 3
    · have ht4_2 := ite_t hc4_2 hf4_1
      refine tw_tabZ (tgt := 115) C dX9_canBe_28 (3) (by rw [hc4_2]; decide) (by decide) (by decide) rfl (by decide) ?_
      refine tw_aload_n (i := 0) (z := 0) (r := (9, 0)) C dX9_canBe_115 rfl rfl ?_
      refine tw_getI C fl_RX9_160 rfl (wcells_mem (f := 9) (j := 0) (by decide) (by decide)) rfl dX9_canBe_116 ?_
      refine tw_iconst (v := 2) C dX9_canBe_119 (by decide) ?_
      refine tw_ic_ne (tgt := 127) C dX9_canBe_120 (by decide) (fun hc9 => ?_) (fun hc9 => ?_)
      · have ht9 := ite_f hc9 ht4_2
        refine tw_iconst (v := 0) C dX9_canBe_127 (by decide) ?_
        obtain rfl := ht9
        exact tw_zret C hK rfl rfl rfl dX9_canBe_128
      · have hf9 := ite_t hc9 ht4_2
        refine tw_iconst (v := 1) C dX9_canBe_123 (by decide) ?_
        refine tw_goto (tgt := 128) C dX9_canBe_124 (by decide) ?_
        obtain rfl := hf9
        exact tw_zret C hK rfl rfl rfl dX9_canBe_128
    have hf4_2 := ite_f hc4_2 hf4_1
    by_cases hc4_3 : a2 = 4
    · have ht4_3 := ite_t hc4_3 hf4_2
      refine tw_tabZ (tgt := 129) C dX9_canBe_28 (4) (by rw [hc4_3]; decide) (by decide) (by decide) rfl (by decide) ?_
      refine tw_iload_n (i := 3) (z := 3) C dX9_canBe_129 rfl rfl ?_
      refine tw_if_eq (tgt := 142) C dX9_canBe_130 (by decide) (fun hc10 => ?_) (fun hc10 => ?_)
      · have ht10 := ite_t hc10 ht4_3
        refine tw_iconst (v := 0) C dX9_canBe_142 (by decide) ?_
        obtain rfl := ht10
        exact tw_zret C hK rfl rfl rfl dX9_canBe_143
      · have hf10 := ite_f hc10 ht4_3
        refine tw_iload (i := 4) (z := 4) C dX9_canBe_133 rfl ?_
        refine tw_if_le (tgt := 142) C dX9_canBe_135 (by decide) (fun hc11 => ?_) (fun hc11 => ?_)
        · have ht11 := ite_t hc11 hf10
          refine tw_iconst (v := 0) C dX9_canBe_142 (by decide) ?_
          obtain rfl := ht11
          exact tw_zret C hK rfl rfl rfl dX9_canBe_143
        · have hf11 := ite_f hc11 hf10
          refine tw_iconst (v := 1) C dX9_canBe_138 (by decide) ?_
          refine tw_goto (tgt := 143) C dX9_canBe_139 (by decide) ?_
          obtain rfl := hf11
          exact tw_zret C hK rfl rfl rfl dX9_canBe_143
    have hf4_3 := ite_f hc4_3 hf4_2
    by_cases hc4_4 : a2 = 5 ∨ a2 = 6
    · have ht4_4 := ite_t hc4_4 hf4_3
      have hT4_4 : TW K 144 [(0, rv K (9, 0)), (1, .int a1), (2, .int a2), (3, .int x1), (4, .int x2)] [] σ := by
        refine tw_iload_n (i := 3) (z := 3) C dX9_canBe_144 rfl rfl ?_
        refine tw_if_eq (tgt := 160) C dX9_canBe_145 (by decide) (fun hc12 => ?_) (fun hc12 => ?_)
        · have ht12 := ite_t hc12 ht4_4
          refine tw_iconst (v := 0) C dX9_canBe_160 (by decide) ?_
          obtain rfl := ht12
          exact tw_zret C hK rfl rfl rfl dX9_canBe_161
        · have hf12 := ite_f hc12 ht4_4
          refine tw_aload_n (i := 0) (z := 0) (r := (9, 0)) C dX9_canBe_148 rfl rfl ?_
          refine tw_getI C fl_RX9_160 rfl (wcells_mem (f := 9) (j := 0) (by decide) (by decide)) rfl dX9_canBe_149 ?_
          refine tw_iconst (v := 1) C dX9_canBe_152 (by decide) ?_
          refine tw_ic_ne (tgt := 160) C dX9_canBe_153 (by decide) (fun hc13 => ?_) (fun hc13 => ?_)
          · have ht13 := ite_f hc13 hf12
            refine tw_iconst (v := 0) C dX9_canBe_160 (by decide) ?_
            obtain rfl := ht13
            exact tw_zret C hK rfl rfl rfl dX9_canBe_161
          · have hf13 := ite_t hc13 hf12
            refine tw_iconst (v := 1) C dX9_canBe_156 (by decide) ?_
            refine tw_goto (tgt := 161) C dX9_canBe_157 (by decide) ?_
            obtain rfl := hf13
            exact tw_zret C hK rfl rfl rfl dX9_canBe_161
      rcases hc4_4 with hz | hz
      · exact tw_tabZ (tgt := 144) C dX9_canBe_28 (5) (by rw [hz]; decide) (by decide) (by decide) rfl (by decide) hT4_4
      · exact tw_tabZ (tgt := 144) C dX9_canBe_28 (6) (by rw [hz]; decide) (by decide) (by decide) rfl (by decide) hT4_4
    have hf4_4 := ite_f hc4_4 hf4_3
    by_cases hc4_5 : a2 = 7
    · have ht4_5 := ite_t hc4_5 hf4_4
      refine tw_tabZ (tgt := 162) C dX9_canBe_28 (7) (by rw [hc4_5]; decide) (by decide) (by decide) rfl (by decide) ?_
      refine tw_aload_n (i := 0) (z := 0) (r := (9, 0)) C dX9_canBe_162 rfl rfl ?_
      refine tw_getI C fl_RX9_157 rfl (wcells_mem (f := 9) (j := 0) (by decide) (by decide)) rfl dX9_canBe_163 ?_
      refine tw_iconst (v := 1) C dX9_canBe_166 (by decide) ?_
      refine tw_iload_n (i := 1) (z := 1) C dX9_canBe_167 rfl rfl ?_
      refine tw_isub C dX9_canBe_168 ?_
      refine tw_ic_ne (tgt := 176) C dX9_canBe_169 (by decide) (fun hc14 => ?_) (fun hc14 => ?_)
      · have ht14 := ite_f hc14 ht4_5
        refine tw_iconst (v := 0) C dX9_canBe_176 (by decide) ?_
        obtain rfl := ht14
        exact tw_zret C hK rfl rfl rfl dX9_canBe_177
      · have hf14 := ite_t hc14 ht4_5
        refine tw_iconst (v := 1) C dX9_canBe_172 (by decide) ?_
        refine tw_goto (tgt := 177) C dX9_canBe_173 (by decide) ?_
        obtain rfl := hf14
        exact tw_zret C hK rfl rfl rfl dX9_canBe_177
    have hf4_5 := ite_f hc4_5 hf4_4
    by_cases hc4_6 : a2 = 8
    · have ht4_6 := ite_t hc4_6 hf4_5
      refine tw_tabZ (tgt := 178) C dX9_canBe_28 (8) (by rw [hc4_6]; decide) (by decide) (by decide) rfl (by decide) ?_
      refine tw_iload_n (i := 3) (z := 3) C dX9_canBe_178 rfl rfl ?_
      refine tw_if_eq (tgt := 192) C dX9_canBe_179 (by decide) (fun hc15 => ?_) (fun hc15 => ?_)
      · have ht15 := ite_t hc15 ht4_6
        refine tw_iconst (v := 0) C dX9_canBe_192 (by decide) ?_
        obtain rfl := ht15
        exact tw_zret C hK rfl rfl rfl dX9_canBe_193
      · have hf15 := ite_f hc15 ht4_6
        refine tw_iload (i := 4) (z := 4) C dX9_canBe_182 rfl ?_
        refine tw_iconst (v := 2) C dX9_canBe_184 (by decide) ?_
        refine tw_ic_gt (tgt := 192) C dX9_canBe_185 (by decide) (fun hc16 => ?_) (fun hc16 => ?_)
        · have ht16 := ite_t hc16 hf15
          refine tw_iconst (v := 0) C dX9_canBe_192 (by decide) ?_
          obtain rfl := ht16
          exact tw_zret C hK rfl rfl rfl dX9_canBe_193
        · have hf16 := ite_f hc16 hf15
          refine tw_iconst (v := 1) C dX9_canBe_188 (by decide) ?_
          refine tw_goto (tgt := 193) C dX9_canBe_189 (by decide) ?_
          obtain rfl := hf16
          exact tw_zret C hK rfl rfl rfl dX9_canBe_193
    have hf4_6 := ite_f hc4_6 hf4_5
    have hT4 : TW K 194 [(0, rv K (9, 0)), (1, .int a1), (2, .int a2), (3, .int x1), (4, .int x2)] [] σ := by
      refine tw_iload_n (i := 3) (z := 3) C dX9_canBe_194 rfl rfl ?_
      refine tw_if_eq (tgt := 215) C dX9_canBe_195 (by decide) (fun hc17 => ?_) (fun hc17 => ?_)
      · have ht17 := ite_t hc17 hf4_6
        refine tw_iconst (v := 0) C dX9_canBe_215 (by decide) ?_
        obtain rfl := ht17
        exact tw_zret C hK rfl rfl rfl dX9_canBe_216
      · have hf17 := ite_f hc17 hf4_6
        refine tw_aload_n (i := 0) (z := 0) (r := (9, 0)) C dX9_canBe_198 rfl rfl ?_
        refine tw_getI C fl_RX9_160 rfl (wcells_mem (f := 9) (j := 0) (by decide) (by decide)) rfl dX9_canBe_199 ?_
        refine tw_if_ne (tgt := 215) C dX9_canBe_202 (by decide) (fun hc18 => ?_) (fun hc18 => ?_)
        · have ht18 := ite_f hc18 hf17
          refine tw_iconst (v := 0) C dX9_canBe_215 (by decide) ?_
          obtain rfl := ht18
          exact tw_zret C hK rfl rfl rfl dX9_canBe_216
        · have hf18 := ite_t hc18 hf17
          refine tw_iload (i := 4) (z := 4) C dX9_canBe_205 rfl ?_
          refine tw_iconst (v := 1) C dX9_canBe_207 (by decide) ?_
          refine tw_ic_gt (tgt := 215) C dX9_canBe_208 (by decide) (fun hc19 => ?_) (fun hc19 => ?_)
          · have ht19 := ite_t hc19 hf18
            refine tw_iconst (v := 0) C dX9_canBe_215 (by decide) ?_
            obtain rfl := ht19
            exact tw_zret C hK rfl rfl rfl dX9_canBe_216
          · have hf19 := ite_f hc19 hf18
            refine tw_iconst (v := 1) C dX9_canBe_211 (by decide) ?_
            refine tw_goto (tgt := 216) C dX9_canBe_212 (by decide) ?_
            obtain rfl := hf19
            exact tw_zret C hK rfl rfl rfl dX9_canBe_216
    have hn4_0 : ¬ (a2).toInt = 0 := lv_neT (k := 0) (fun q => hc4_0 (Or.inl q)) (by decide)
    have hn4_2 : ¬ (a2).toInt = 2 := lv_neT (k := 2) (fun q => hc4_0 (Or.inr q)) (by decide)
    have hn4_1 : ¬ (a2).toInt = 1 := lv_neT (k := 1) hc4_1 (by decide)
    have hn4_3 : ¬ (a2).toInt = 3 := lv_neT (k := 3) hc4_2 (by decide)
    have hn4_4 : ¬ (a2).toInt = 4 := lv_neT (k := 4) hc4_3 (by decide)
    have hn4_5 : ¬ (a2).toInt = 5 := lv_neT (k := 5) (fun q => hc4_4 (Or.inl q)) (by decide)
    have hn4_6 : ¬ (a2).toInt = 6 := lv_neT (k := 6) (fun q => hc4_4 (Or.inr q)) (by decide)
    have hn4_7 : ¬ (a2).toInt = 7 := lv_neT (k := 7) hc4_5 (by decide)
    have hn4_8 : ¬ (a2).toInt = 8 := lv_neT (k := 8) hc4_6 (by decide)
    rcases (show (a2).toInt < 0 ∨ 8 < (a2).toInt by omega) with hz | hz
    · exact tw_tabOut (tgt := 194) C dX9_canBe_28 (Or.inl hz) (by decide) hT4
    · exact tw_tabOut (tgt := 194) C dX9_canBe_28 (Or.inr hz) (by decide) hT4
  refine tw_ic_ne (tgt := 12) C dX9_canBe_5 (by decide) (fun hc2 => ?_) (fun hc2 => ?_)
  · have ht2 := ite_f hc2 hx1
    refine tw_iconst (v := 0) C dX9_canBe_12 (by decide) ?_
    obtain rfl := ht2
    exact hJ1
  · have hf2 := ite_t hc2 hx1
    refine tw_iconst (v := 1) C dX9_canBe_8 (by decide) ?_
    refine tw_goto (tgt := 13) C dX9_canBe_9 (by decide) ?_
    obtain rfl := hf2
    exact hJ1

set_option maxRecDepth 20000 in
def fX9_ball (σ : St) (a1 : Int32) (a2 : Int32) (a3 : Int32) : St :=
  bnd (su σ (9, 0) 10 a1) (fun σ1 =>
  bnd (su σ1 (9, 0) 11 a2) (fun σ2 =>
  bnd (su σ2 (9, 0) 12 a3) (fun σ3 =>
  σ3)))
set_option maxRecDepth 20000 in
set_option maxHeartbeats 4000000 in
theorem kX9_ball (G : Gx) (d : Nat) (hdp : 1 ≤ d) (σ : St) (a1 : Int32) (a2 : Int32) (a3 : Int32)  {σ' : St} (h : fX9_ball σ a1 a2 a3 = σ') : MS G d yX9_ball cX9_ball 4 none [.ref (G.2.1 (9, 0)), .int a1, .int a2, .int a3] σ none σ' := by
  refine MS_of (by decide) (Nat.le_of_ble_eq_true rfl) rfl (fun K hG hnL C hR hK => ?_) (by omega)
  subst hG
  show TW K 0 [(0, rv K (9, 0)), (1, .int a1), (2, .int a2), (3, .int a3)] [] σ
  unfold fX9_ball at h
  refine tw_aload_n (i := 0) (z := 0) (r := (9, 0)) C dX9_ball_0 rfl rfl ?_
  refine tw_iload_n (i := 1) (z := 1) C dX9_ball_1 rfl rfl ?_
  obtain ⟨σ1, es1, eh1⟩ := bnd_ex h
  refine tw_put C fl_RX9_154 (fun q hq => by cases hq; rfl) rfl (wcells_mem (f := 9) (j := 0) (by decide) (by decide)) rfl rfl rfl dX9_ball_2 ?_
  rw [es1]
  refine tw_aload_n (i := 0) (z := 0) (r := (9, 0)) C dX9_ball_5 rfl rfl ?_
  refine tw_iload_n (i := 2) (z := 2) C dX9_ball_6 rfl rfl ?_
  obtain ⟨σ2, es2, eh2⟩ := bnd_ex eh1
  refine tw_put C fl_RX9_157 (fun q hq => by cases hq; rfl) rfl (wcells_mem (f := 9) (j := 0) (by decide) (by decide)) rfl rfl rfl dX9_ball_7 ?_
  rw [es2]
  refine tw_aload_n (i := 0) (z := 0) (r := (9, 0)) C dX9_ball_10 rfl rfl ?_
  refine tw_iload_n (i := 3) (z := 3) C dX9_ball_11 rfl rfl ?_
  obtain ⟨σ3, es3, eh3⟩ := bnd_ex eh2
  refine tw_put C fl_RX9_160 (fun q hq => by cases hq; rfl) rfl (wcells_mem (f := 9) (j := 0) (by decide) (by decide)) rfl rfl rfl dX9_ball_12 ?_
  rw [es3]
  obtain rfl := eh3
  exact tw_vret C hK rfl rfl dX9_ball_15

set_option maxRecDepth 20000 in
def fX9_scores (σ : St) (a1 : Int32) (a2 : Int32) : Option (St) :=
  bnd (if a2 = (4 : Int32) then
    (10 : Int32)
  else
    a2 + (3 : Int32)) (fun x1 =>
  grd (inb x1 17) (
  bnd (σ (35, 0) (tn x1)) (fun x2 =>
  bnd (if a1 = 0 then
    x2
  else
    (0 : Int32)) (fun x3 =>
  bnd (su σ (9, 0) 13 ((σ (9, 0) 13) + x3)) (fun σ1 =>
  bnd (if a1 = (1 : Int32) then
    x2
  else
    (0 : Int32)) (fun x4 =>
  bnd (su σ1 (9, 0) 14 ((σ1 (9, 0) 14) + x4)) (fun σ2 =>
  if x2 ≤ 0 then
    if a2 ≤ (7 : Int32) then
      some σ2
    else
      bnd (fX9_ball σ2 (fX9_on a1 (σ2 (9, 0) 10) (6 : Int32)) (2 : Int32) (0 : Int32)) (fun σ3 =>
      some σ3)
  else
    bnd (if (σ2 (35, 0) (tn (14 : Int32))) = 0 then
      (2 : Int32)
    else
      if (σ2 (35, 0) (tn (14 : Int32))) = (1 : Int32) then
        (1 : Int32) - a1
      else
        a1) (fun x5 =>
    bnd (fX9_ball σ2 (3 : Int32) x5 (0 : Int32)) (fun σ4 =>
    some σ4)))))))))
set_option maxRecDepth 20000 in
set_option maxHeartbeats 4000000 in
theorem kX9_scores (G : Gx) (d : Nat) (hdp : 3 ≤ d) (σ : St) (a1 : Int32) (a2 : Int32)  {σ' : St} (h : fX9_scores σ a1 a2 = some σ') : MS G d yX9_scores cX9_scores 4 none [.ref (G.2.1 (9, 0)), .int a1, .int a2] σ none σ' := by
  refine MS_of (by decide) (Nat.le_of_ble_eq_true rfl) rfl (fun K hG hnL C hR hK => ?_) (by omega)
  subst hG
  show TW K 0 [(0, rv K (9, 0)), (1, .int a1), (2, .int a2)] [] σ
  unfold fX9_scores at h
  refine tw_aload_n (i := 0) (z := 0) (r := (9, 0)) C dX9_scores_0 rfl rfl ?_
  refine tw_getR (g := 35) (z := 0) (j' := 0) C fl_RX9_29 rfl (wcells_mem (f := 9) (j := 0) (by decide) (by decide)) rfl rfl dX9_scores_1 ?_
  refine tw_iload_n (i := 2) (z := 2) C dX9_scores_4 rfl rfl ?_
  refine tw_iconst (v := 4) C dX9_scores_5 (by decide) ?_
  obtain ⟨x1, hx1, hq1⟩ := bnd_ex h
  have hJ1 : TW K 17 [(0, rv K (9, 0)), (1, .int a1), (2, .int a2)] [.int x1, rv K (35, 0)] σ := by
    obtain ⟨hb3, eh3⟩ := grd_some hq1
    refine tw_iald (r := (35, 0)) C (ia_of rfl (by decide)) hb3 dX9_scores_17 ?_
    obtain ⟨x2, ex4, eh4⟩ := bnd_ex eh3
    refine tw_topi ex4.symm ?_
    refine tw_istore_n (lv' := [(0, rv K (9, 0)), (1, .int a1), (2, .int a2), (3, .int x2)]) C [1, 2, 3, 0] dX9_scores_18 rfl (by rw [hnL]; decide) rfl ?_
    refine tw_aload_n (i := 0) (z := 0) (r := (9, 0)) C dX9_scores_19 rfl rfl ?_
    refine tw_dup C dX9_scores_20 rfl ?_
    refine tw_getI C fl_RX9_163 rfl (wcells_mem (f := 9) (j := 0) (by decide) (by decide)) rfl dX9_scores_21 ?_
    refine tw_iload_n (i := 1) (z := 1) C dX9_scores_24 rfl rfl ?_
    obtain ⟨x3, hx5, hq5⟩ := bnd_ex eh4
    have hJ5 : TW K 33 [(0, rv K (9, 0)), (1, .int a1), (2, .int a2), (3, .int x2)] [.int x3, .int (σ (9, 0) 13), rv K (9, 0)] σ := by
      refine tw_iadd C dX9_scores_33 ?_
      obtain ⟨σ1, es7, eh7⟩ := bnd_ex hq5
      refine tw_put C fl_RX9_163 (fun q hq => by cases hq; rfl) rfl (wcells_mem (f := 9) (j := 0) (by decide) (by decide)) rfl rfl rfl dX9_scores_34 ?_
      rw [es7]
      refine tw_aload_n (i := 0) (z := 0) (r := (9, 0)) C dX9_scores_37 rfl rfl ?_
      refine tw_dup C dX9_scores_38 rfl ?_
      refine tw_getI C fl_RX9_166 rfl (wcells_mem (f := 9) (j := 0) (by decide) (by decide)) rfl dX9_scores_39 ?_
      refine tw_iload_n (i := 1) (z := 1) C dX9_scores_42 rfl rfl ?_
      refine tw_iconst (v := 1) C dX9_scores_43 (by decide) ?_
      obtain ⟨x4, hx8, hq8⟩ := bnd_ex eh7
      have hJ8 : TW K 52 [(0, rv K (9, 0)), (1, .int a1), (2, .int a2), (3, .int x2)] [.int x4, .int (σ1 (9, 0) 14), rv K (9, 0)] σ1 := by
        refine tw_iadd C dX9_scores_52 ?_
        obtain ⟨σ2, es10, eh10⟩ := bnd_ex hq8
        refine tw_put C fl_RX9_166 (fun q hq => by cases hq; rfl) rfl (wcells_mem (f := 9) (j := 0) (by decide) (by decide)) rfl rfl rfl dX9_scores_53 ?_
        rw [es10]
        refine tw_iload_n (i := 3) (z := 3) C dX9_scores_56 rfl rfl ?_
        refine tw_if_le (tgt := 101) C dX9_scores_57 (by decide) (fun hc11 => ?_) (fun hc11 => ?_)
        · have ht11 := ite_t hc11 eh10
          refine tw_iload_n (i := 2) (z := 2) C dX9_scores_101 rfl rfl ?_
          refine tw_bipush (v := 7) C dX9_scores_102 (by decide) ?_
          refine tw_ic_le (tgt := 123) C dX9_scores_104 (by decide) (fun hc12 => ?_) (fun hc12 => ?_)
          · have ht12 := ite_t hc12 ht11
            obtain rfl := (Option.some.inj ht12)
            exact tw_vret C hK rfl rfl dX9_scores_123
          · have hf12 := ite_f hc12 ht11
            refine tw_aload_n (i := 0) (z := 0) (r := (9, 0)) C dX9_scores_107 rfl rfl ?_
            refine tw_iload_n (i := 1) (z := 1) C dX9_scores_108 rfl rfl ?_
            refine tw_aload_n (i := 0) (z := 0) (r := (9, 0)) C dX9_scores_109 rfl rfl ?_
            refine tw_getI C fl_RX9_154 rfl (wcells_mem (f := 9) (j := 0) (by decide) (by decide)) rfl dX9_scores_110 ?_
            refine tw_bipush (v := 6) C dX9_scores_113 (by decide) ?_
            refine tw_callS (As := [.int a1, .int (σ2 (9, 0) 10), .int (6 : Int32)]) (rest := [rv K (9, 0)]) C hR (kX9_on K.1 _ (by omega) σ2 a1 (σ2 (9, 0) 10) (6 : Int32)  rfl) mi_X9_on st_X9_on ml_RX9_176 rfl rfl (Nat.le_of_ble_eq_true rfl) dX9_scores_115 ?_
            show TW K 118 [(0, rv K (9, 0)), (1, .int a1), (2, .int a2), (3, .int x2)] [.int (fX9_on a1 (σ2 (9, 0) 10) (6 : Int32)), rv K (9, 0)] σ2
            refine tw_iconst (v := 2) C dX9_scores_118 (by decide) ?_
            refine tw_iconst (v := 0) C dX9_scores_119 (by decide) ?_
            obtain ⟨σ3, hv13, eh13⟩ := bnd_ex hf12
            refine tw_callV (As := [.int (fX9_on a1 (σ2 (9, 0) 10) (6 : Int32)), .int (2 : Int32), .int (0 : Int32)]) (rest := []) (r := (9, 0)) C hR (kX9_ball K.1 _ (by omega) _ (fX9_on a1 (σ2 (9, 0) 10) (6 : Int32)) (2 : Int32) (0 : Int32)  hv13) mi_X9_ball is_X9_ball se_X9_ball ml_RX9_172 (wcells_mem (f := 9) (j := 0) (by decide) (by decide)) rfl rfl rfl rfl (Nat.le_of_ble_eq_true rfl) dX9_scores_120 ?_
            show TW K 123 [(0, rv K (9, 0)), (1, .int a1), (2, .int a2), (3, .int x2)] [] σ3
            obtain rfl := (Option.some.inj eh13)
            exact tw_vret C hK rfl rfl dX9_scores_123
        · have hf11 := ite_f hc11 eh10
          refine tw_aload_n (i := 0) (z := 0) (r := (9, 0)) C dX9_scores_60 rfl rfl ?_
          refine tw_iconst (v := 3) C dX9_scores_61 (by decide) ?_
          refine tw_aload_n (i := 0) (z := 0) (r := (9, 0)) C dX9_scores_62 rfl rfl ?_
          refine tw_getR (g := 35) (z := 0) (j' := 0) C fl_RX9_29 rfl (wcells_mem (f := 9) (j := 0) (by decide) (by decide)) rfl rfl dX9_scores_63 ?_
          refine tw_bipush (v := 14) C dX9_scores_66 (by decide) ?_
          refine tw_iald (r := (35, 0)) C (ia_of rfl (by decide)) (by decide) dX9_scores_68 ?_
          obtain ⟨x5, hx14, hq14⟩ := bnd_ex hf11
          have hJ14 : TW K 94 [] [.int x5, .int (3 : Int32), rv K (9, 0)] σ2 := by
            refine tw_iconst (v := 0) C dX9_scores_94 (by decide) ?_
            obtain ⟨σ4, hv17, eh17⟩ := bnd_ex hq14
            refine tw_callV (As := [.int (3 : Int32), .int x5, .int (0 : Int32)]) (rest := []) (r := (9, 0)) C hR (kX9_ball K.1 _ (by omega) _ (3 : Int32) x5 (0 : Int32)  hv17) mi_X9_ball is_X9_ball se_X9_ball ml_RX9_172 (wcells_mem (f := 9) (j := 0) (by decide) (by decide)) rfl rfl rfl rfl (Nat.le_of_ble_eq_true rfl) dX9_scores_95 ?_
            show TW K 98 [] [] σ4
            refine tw_goto (tgt := 123) C dX9_scores_98 (by decide) ?_
            obtain rfl := (Option.some.inj eh17)
            exact tw_vret C hK rfl rfl dX9_scores_123
          refine tw_if_ne (tgt := 76) C dX9_scores_69 (by decide) (fun hc15 => ?_) (fun hc15 => ?_)
          · have ht15 := ite_f hc15 hx14
            refine tw_aload_n (i := 0) (z := 0) (r := (9, 0)) C dX9_scores_76 rfl rfl ?_
            refine tw_getR (g := 35) (z := 0) (j' := 0) C fl_RX9_29 rfl (wcells_mem (f := 9) (j := 0) (by decide) (by decide)) rfl rfl dX9_scores_77 ?_
            refine tw_bipush (v := 14) C dX9_scores_80 (by decide) ?_
            refine tw_iald (r := (35, 0)) C (ia_of rfl (by decide)) (by decide) dX9_scores_82 ?_
            refine tw_iconst (v := 1) C dX9_scores_83 (by decide) ?_
            refine tw_ic_ne (tgt := 93) C dX9_scores_84 (by decide) (fun hc16 => ?_) (fun hc16 => ?_)
            · have ht16 := ite_f hc16 ht15
              refine tw_iload_n (i := 1) (z := 1) C dX9_scores_93 rfl rfl ?_
              refine tw_sub [] rfl ?_
              obtain rfl := ht16
              exact hJ14
            · have hf16 := ite_t hc16 ht15
              refine tw_iconst (v := 1) C dX9_scores_87 (by decide) ?_
              refine tw_iload_n (i := 1) (z := 1) C dX9_scores_88 rfl rfl ?_
              refine tw_isub C dX9_scores_89 ?_
              refine tw_goto (tgt := 94) C dX9_scores_90 (by decide) ?_
              refine tw_sub [] rfl ?_
              obtain rfl := hf16
              exact hJ14
          · have hf15 := ite_t hc15 hx14
            refine tw_iconst (v := 2) C dX9_scores_72 (by decide) ?_
            refine tw_goto (tgt := 94) C dX9_scores_73 (by decide) ?_
            refine tw_sub [] rfl ?_
            obtain rfl := hf15
            exact hJ14
      refine tw_ic_ne (tgt := 51) C dX9_scores_44 (by decide) (fun hc9 => ?_) (fun hc9 => ?_)
      · have ht9 := ite_f hc9 hx8
        refine tw_iconst (v := 0) C dX9_scores_51 (by decide) ?_
        obtain rfl := ht9
        exact hJ8
      · have hf9 := ite_t hc9 hx8
        refine tw_iload_n (i := 3) (z := 3) C dX9_scores_47 rfl rfl ?_
        refine tw_goto (tgt := 52) C dX9_scores_48 (by decide) ?_
        obtain rfl := hf9
        exact hJ8
    refine tw_if_ne (tgt := 32) C dX9_scores_25 (by decide) (fun hc6 => ?_) (fun hc6 => ?_)
    · have ht6 := ite_f hc6 hx5
      refine tw_iconst (v := 0) C dX9_scores_32 (by decide) ?_
      obtain rfl := ht6
      exact hJ5
    · have hf6 := ite_t hc6 hx5
      refine tw_iload_n (i := 3) (z := 3) C dX9_scores_28 rfl rfl ?_
      refine tw_goto (tgt := 33) C dX9_scores_29 (by decide) ?_
      obtain rfl := hf6
      exact hJ5
  refine tw_ic_ne (tgt := 14) C dX9_scores_6 (by decide) (fun hc2 => ?_) (fun hc2 => ?_)
  · have ht2 := ite_f hc2 hx1
    refine tw_iload_n (i := 2) (z := 2) C dX9_scores_14 rfl rfl ?_
    refine tw_iconst (v := 3) C dX9_scores_15 (by decide) ?_
    refine tw_iadd C dX9_scores_16 ?_
    obtain rfl := ht2
    exact hJ1
  · have hf2 := ite_t hc2 hx1
    refine tw_bipush (v := 10) C dX9_scores_9 (by decide) ?_
    refine tw_goto (tgt := 17) C dX9_scores_11 (by decide) ?_
    obtain rfl := hf2
    exact hJ1

set_option maxRecDepth 20000 in
def fX9_does (σ : St) (a1 : Int32) (a2 : Int32) : Option (St) :=
  if a2 = 0 ∨ a2 = 6 then
    bnd (fX9_ball σ (fX9_on a1 (σ (9, 0) 10) (2 : Int32)) (2 : Int32) (2 : Int32)) (fun σ1 =>
    some σ1)
  else
    if a2 = 1 then
      bnd (fX9_ball σ (σ (9, 0) 10) a1 (0 : Int32)) (fun σ2 =>
      some σ2)
    else
      if a2 = 2 ∨ a2 = 3 then
        bnd (fX9_ball σ (σ (9, 0) 10) a1 (1 : Int32)) (fun σ3 =>
        some σ3)
      else
        if a2 = 4 then
          bnd (fX9_ball σ (fX9_on a1 (σ (9, 0) 10) (1 : Int32)) a1 (σ (9, 0) 12)) (fun σ4 =>
          if (σ4 (9, 0) 12) = (1 : Int32) then
            if (fX9_ownCell a1 (σ4 (9, 0) 10)) = (6 : Int32) then
              obi (fX9_scores σ4 a1 a2) (fun σ5 =>
              some σ5)
            else
              some σ4
          else
            some σ4)
        else
          if a2 = 5 then
            bnd (fX9_ball σ (fX9_on a1 (σ (9, 0) 10) (-1 : Int32)) (2 : Int32) (2 : Int32)) (fun σ6 =>
            some σ6)
          else
            if a2 = 7 then
              bnd (fX9_ball σ (σ (9, 0) 10) (2 : Int32) (0 : Int32)) (fun σ7 =>
              some σ7)
            else
              obi (fX9_scores σ a1 a2) (fun σ8 =>
              some σ8)
set_option maxRecDepth 20000 in
set_option maxHeartbeats 4000000 in
theorem kX9_does (G : Gx) (d : Nat) (hdp : 4 ≤ d) (σ : St) (a1 : Int32) (a2 : Int32)  {σ' : St} (h : fX9_does σ a1 a2 = some σ') : MS G d yX9_does cX9_does 3 none [.ref (G.2.1 (9, 0)), .int a1, .int a2] σ none σ' := by
  refine MS_of (by decide) (Nat.le_of_ble_eq_true rfl) rfl (fun K hG hnL C hR hK => ?_) (by omega)
  subst hG
  show TW K 0 [(0, rv K (9, 0)), (1, .int a1), (2, .int a2)] [] σ
  unfold fX9_does at h
  refine tw_iload_n (i := 2) (z := 2) C dX9_does_0 rfl rfl ?_
  by_cases hc1_0 : a2 = 0 ∨ a2 = 6
  · have ht1_0 := ite_t hc1_0 h
    have hT1_0 : TW K 48 [(0, rv K (9, 0)), (1, .int a1), (2, .int a2)] [] σ := by
      refine tw_aload_n (i := 0) (z := 0) (r := (9, 0)) C dX9_does_48 rfl rfl ?_
      refine tw_iload_n (i := 1) (z := 1) C dX9_does_49 rfl rfl ?_
      refine tw_aload_n (i := 0) (z := 0) (r := (9, 0)) C dX9_does_50 rfl rfl ?_
      refine tw_getI C fl_RX9_154 rfl (wcells_mem (f := 9) (j := 0) (by decide) (by decide)) rfl dX9_does_51 ?_
      refine tw_iconst (v := 2) C dX9_does_54 (by decide) ?_
      refine tw_callS (As := [.int a1, .int (σ (9, 0) 10), .int (2 : Int32)]) (rest := [rv K (9, 0)]) C hR (kX9_on K.1 _ (by omega) σ a1 (σ (9, 0) 10) (2 : Int32)  rfl) mi_X9_on st_X9_on ml_RX9_176 rfl rfl (Nat.le_of_ble_eq_true rfl) dX9_does_55 ?_
      show TW K 58 [(0, rv K (9, 0)), (1, .int a1), (2, .int a2)] [.int (fX9_on a1 (σ (9, 0) 10) (2 : Int32)), rv K (9, 0)] σ
      refine tw_iconst (v := 2) C dX9_does_58 (by decide) ?_
      refine tw_iconst (v := 2) C dX9_does_59 (by decide) ?_
      obtain ⟨σ1, hv2, eh2⟩ := bnd_ex ht1_0
      refine tw_callV (As := [.int (fX9_on a1 (σ (9, 0) 10) (2 : Int32)), .int (2 : Int32), .int (2 : Int32)]) (rest := []) (r := (9, 0)) C hR (kX9_ball K.1 _ (by omega) _ (fX9_on a1 (σ (9, 0) 10) (2 : Int32)) (2 : Int32) (2 : Int32)  hv2) mi_X9_ball is_X9_ball se_X9_ball ml_RX9_172 (wcells_mem (f := 9) (j := 0) (by decide) (by decide)) rfl rfl rfl rfl (Nat.le_of_ble_eq_true rfl) dX9_does_60 ?_
      show TW K 63 [(0, rv K (9, 0)), (1, .int a1), (2, .int a2)] [] σ1
      refine tw_goto (tgt := 177) C dX9_does_63 (by decide) ?_
      obtain rfl := (Option.some.inj eh2)
      exact tw_vret C hK rfl rfl dX9_does_177
    rcases hc1_0 with hz | hz
    · exact tw_tabZ (tgt := 48) C dX9_does_1 (0) (by rw [hz]; decide) (by decide) (by decide) rfl (by decide) hT1_0
    · exact tw_tabZ (tgt := 48) C dX9_does_1 (6) (by rw [hz]; decide) (by decide) (by decide) rfl (by decide) hT1_0
  have hf1_0 := ite_f hc1_0 h
  by_cases hc1_1 : a2 = 1
  · have ht1_1 := ite_t hc1_1 hf1_0
    refine tw_tabZ (tgt := 66) C dX9_does_1 (1) (by rw [hc1_1]; decide) (by decide) (by decide) rfl (by decide) ?_
    refine tw_aload_n (i := 0) (z := 0) (r := (9, 0)) C dX9_does_66 rfl rfl ?_
    refine tw_aload_n (i := 0) (z := 0) (r := (9, 0)) C dX9_does_67 rfl rfl ?_
    refine tw_getI C fl_RX9_154 rfl (wcells_mem (f := 9) (j := 0) (by decide) (by decide)) rfl dX9_does_68 ?_
    refine tw_iload_n (i := 1) (z := 1) C dX9_does_71 rfl rfl ?_
    refine tw_iconst (v := 0) C dX9_does_72 (by decide) ?_
    obtain ⟨σ2, hv3, eh3⟩ := bnd_ex ht1_1
    refine tw_callV (As := [.int (σ (9, 0) 10), .int a1, .int (0 : Int32)]) (rest := []) (r := (9, 0)) C hR (kX9_ball K.1 _ (by omega) _ (σ (9, 0) 10) a1 (0 : Int32)  hv3) mi_X9_ball is_X9_ball se_X9_ball ml_RX9_172 (wcells_mem (f := 9) (j := 0) (by decide) (by decide)) rfl rfl rfl rfl (Nat.le_of_ble_eq_true rfl) dX9_does_73 ?_
    show TW K 76 [(0, rv K (9, 0)), (1, .int a1), (2, .int a2)] [] σ2
    refine tw_goto (tgt := 177) C dX9_does_76 (by decide) ?_
    obtain rfl := (Option.some.inj eh3)
    exact tw_vret C hK rfl rfl dX9_does_177
  have hf1_1 := ite_f hc1_1 hf1_0
  by_cases hc1_2 : a2 = 2 ∨ a2 = 3
  · have ht1_2 := ite_t hc1_2 hf1_1
    have hT1_2 : TW K 79 [(0, rv K (9, 0)), (1, .int a1), (2, .int a2)] [] σ := by
      refine tw_aload_n (i := 0) (z := 0) (r := (9, 0)) C dX9_does_79 rfl rfl ?_
      refine tw_aload_n (i := 0) (z := 0) (r := (9, 0)) C dX9_does_80 rfl rfl ?_
      refine tw_getI C fl_RX9_154 rfl (wcells_mem (f := 9) (j := 0) (by decide) (by decide)) rfl dX9_does_81 ?_
      refine tw_iload_n (i := 1) (z := 1) C dX9_does_84 rfl rfl ?_
      refine tw_iconst (v := 1) C dX9_does_85 (by decide) ?_
      obtain ⟨σ3, hv4, eh4⟩ := bnd_ex ht1_2
      refine tw_callV (As := [.int (σ (9, 0) 10), .int a1, .int (1 : Int32)]) (rest := []) (r := (9, 0)) C hR (kX9_ball K.1 _ (by omega) _ (σ (9, 0) 10) a1 (1 : Int32)  hv4) mi_X9_ball is_X9_ball se_X9_ball ml_RX9_172 (wcells_mem (f := 9) (j := 0) (by decide) (by decide)) rfl rfl rfl rfl (Nat.le_of_ble_eq_true rfl) dX9_does_86 ?_
      show TW K 89 [(0, rv K (9, 0)), (1, .int a1), (2, .int a2)] [] σ3
      refine tw_goto (tgt := 177) C dX9_does_89 (by decide) ?_
      obtain rfl := (Option.some.inj eh4)
      exact tw_vret C hK rfl rfl dX9_does_177
    rcases hc1_2 with hz | hz
    · exact tw_tabZ (tgt := 79) C dX9_does_1 (2) (by rw [hz]; decide) (by decide) (by decide) rfl (by decide) hT1_2
    · exact tw_tabZ (tgt := 79) C dX9_does_1 (3) (by rw [hz]; decide) (by decide) (by decide) rfl (by decide) hT1_2
  have hf1_2 := ite_f hc1_2 hf1_1
  by_cases hc1_3 : a2 = 4
  · have ht1_3 := ite_t hc1_3 hf1_2
    refine tw_tabZ (tgt := 92) C dX9_does_1 (4) (by rw [hc1_3]; decide) (by decide) (by decide) rfl (by decide) ?_
    refine tw_aload_n (i := 0) (z := 0) (r := (9, 0)) C dX9_does_92 rfl rfl ?_
    refine tw_iload_n (i := 1) (z := 1) C dX9_does_93 rfl rfl ?_
    refine tw_aload_n (i := 0) (z := 0) (r := (9, 0)) C dX9_does_94 rfl rfl ?_
    refine tw_getI C fl_RX9_154 rfl (wcells_mem (f := 9) (j := 0) (by decide) (by decide)) rfl dX9_does_95 ?_
    refine tw_iconst (v := 1) C dX9_does_98 (by decide) ?_
    refine tw_callS (As := [.int a1, .int (σ (9, 0) 10), .int (1 : Int32)]) (rest := [rv K (9, 0)]) C hR (kX9_on K.1 _ (by omega) σ a1 (σ (9, 0) 10) (1 : Int32)  rfl) mi_X9_on st_X9_on ml_RX9_176 rfl rfl (Nat.le_of_ble_eq_true rfl) dX9_does_99 ?_
    show TW K 102 [(0, rv K (9, 0)), (1, .int a1), (2, .int a2)] [.int (fX9_on a1 (σ (9, 0) 10) (1 : Int32)), rv K (9, 0)] σ
    refine tw_iload_n (i := 1) (z := 1) C dX9_does_102 rfl rfl ?_
    refine tw_aload_n (i := 0) (z := 0) (r := (9, 0)) C dX9_does_103 rfl rfl ?_
    refine tw_getI C fl_RX9_160 rfl (wcells_mem (f := 9) (j := 0) (by decide) (by decide)) rfl dX9_does_104 ?_
    obtain ⟨σ4, hv5, eh5⟩ := bnd_ex ht1_3
    refine tw_callV (As := [.int (fX9_on a1 (σ (9, 0) 10) (1 : Int32)), .int a1, .int (σ (9, 0) 12)]) (rest := []) (r := (9, 0)) C hR (kX9_ball K.1 _ (by omega) _ (fX9_on a1 (σ (9, 0) 10) (1 : Int32)) a1 (σ (9, 0) 12)  hv5) mi_X9_ball is_X9_ball se_X9_ball ml_RX9_172 (wcells_mem (f := 9) (j := 0) (by decide) (by decide)) rfl rfl rfl rfl (Nat.le_of_ble_eq_true rfl) dX9_does_107 ?_
    show TW K 110 [(0, rv K (9, 0)), (1, .int a1), (2, .int a2)] [] σ4
    refine tw_aload_n (i := 0) (z := 0) (r := (9, 0)) C dX9_does_110 rfl rfl ?_
    refine tw_getI C fl_RX9_160 rfl (wcells_mem (f := 9) (j := 0) (by decide) (by decide)) rfl dX9_does_111 ?_
    refine tw_iconst (v := 1) C dX9_does_114 (by decide) ?_
    refine tw_ic_ne (tgt := 177) C dX9_does_115 (by decide) (fun hc6 => ?_) (fun hc6 => ?_)
    · have ht6 := ite_f hc6 eh5
      obtain rfl := (Option.some.inj ht6)
      exact tw_vret C hK rfl rfl dX9_does_177
    · have hf6 := ite_t hc6 eh5
      refine tw_iload_n (i := 1) (z := 1) C dX9_does_118 rfl rfl ?_
      refine tw_aload_n (i := 0) (z := 0) (r := (9, 0)) C dX9_does_119 rfl rfl ?_
      refine tw_getI C fl_RX9_154 rfl (wcells_mem (f := 9) (j := 0) (by decide) (by decide)) rfl dX9_does_120 ?_
      refine tw_callS (As := [.int a1, .int (σ4 (9, 0) 10)]) (rest := []) C hR (kX9_ownCell K.1 _ (by omega) σ4 a1 (σ4 (9, 0) 10)  rfl) mi_X9_ownCell st_X9_ownCell ml_RX9_169 rfl rfl (Nat.le_of_ble_eq_true rfl) dX9_does_123 ?_
      show TW K 126 [(0, rv K (9, 0)), (1, .int a1), (2, .int a2)] [.int (fX9_ownCell a1 (σ4 (9, 0) 10))] σ4
      refine tw_bipush (v := 6) C dX9_does_126 (by decide) ?_
      refine tw_ic_ne (tgt := 177) C dX9_does_128 (by decide) (fun hc7 => ?_) (fun hc7 => ?_)
      · have ht7 := ite_f hc7 hf6
        obtain rfl := (Option.some.inj ht7)
        exact tw_vret C hK rfl rfl dX9_does_177
      · have hf7 := ite_t hc7 hf6
        refine tw_aload_n (i := 0) (z := 0) (r := (9, 0)) C dX9_does_131 rfl rfl ?_
        refine tw_iload_n (i := 1) (z := 1) C dX9_does_132 rfl rfl ?_
        refine tw_iload_n (i := 2) (z := 2) C dX9_does_133 rfl rfl ?_
        obtain ⟨σ5, hv8, eh8⟩ := obi_some hf7
        refine tw_callV (As := [.int a1, .int a2]) (rest := []) (r := (9, 0)) C hR (kX9_scores K.1 _ (by omega) _ a1 a2  hv8) mi_X9_scores is_X9_scores se_X9_scores ml_RX9_179 (wcells_mem (f := 9) (j := 0) (by decide) (by decide)) rfl rfl rfl rfl (Nat.le_of_ble_eq_true rfl) dX9_does_134 ?_
        show TW K 137 [(0, rv K (9, 0)), (1, .int a1), (2, .int a2)] [] σ5
        refine tw_goto (tgt := 177) C dX9_does_137 (by decide) ?_
        obtain rfl := (Option.some.inj eh8)
        exact tw_vret C hK rfl rfl dX9_does_177
  have hf1_3 := ite_f hc1_3 hf1_2
  by_cases hc1_4 : a2 = 5
  · have ht1_4 := ite_t hc1_4 hf1_3
    refine tw_tabZ (tgt := 140) C dX9_does_1 (5) (by rw [hc1_4]; decide) (by decide) (by decide) rfl (by decide) ?_
    refine tw_aload_n (i := 0) (z := 0) (r := (9, 0)) C dX9_does_140 rfl rfl ?_
    refine tw_iload_n (i := 1) (z := 1) C dX9_does_141 rfl rfl ?_
    refine tw_aload_n (i := 0) (z := 0) (r := (9, 0)) C dX9_does_142 rfl rfl ?_
    refine tw_getI C fl_RX9_154 rfl (wcells_mem (f := 9) (j := 0) (by decide) (by decide)) rfl dX9_does_143 ?_
    refine tw_iconst (v := (-1)) C dX9_does_146 (by decide) ?_
    refine tw_callS (As := [.int a1, .int (σ (9, 0) 10), .int (-1 : Int32)]) (rest := [rv K (9, 0)]) C hR (kX9_on K.1 _ (by omega) σ a1 (σ (9, 0) 10) (-1 : Int32)  rfl) mi_X9_on st_X9_on ml_RX9_176 rfl rfl (Nat.le_of_ble_eq_true rfl) dX9_does_147 ?_
    show TW K 150 [(0, rv K (9, 0)), (1, .int a1), (2, .int a2)] [.int (fX9_on a1 (σ (9, 0) 10) (-1 : Int32)), rv K (9, 0)] σ
    refine tw_iconst (v := 2) C dX9_does_150 (by decide) ?_
    refine tw_iconst (v := 2) C dX9_does_151 (by decide) ?_
    obtain ⟨σ6, hv9, eh9⟩ := bnd_ex ht1_4
    refine tw_callV (As := [.int (fX9_on a1 (σ (9, 0) 10) (-1 : Int32)), .int (2 : Int32), .int (2 : Int32)]) (rest := []) (r := (9, 0)) C hR (kX9_ball K.1 _ (by omega) _ (fX9_on a1 (σ (9, 0) 10) (-1 : Int32)) (2 : Int32) (2 : Int32)  hv9) mi_X9_ball is_X9_ball se_X9_ball ml_RX9_172 (wcells_mem (f := 9) (j := 0) (by decide) (by decide)) rfl rfl rfl rfl (Nat.le_of_ble_eq_true rfl) dX9_does_152 ?_
    show TW K 155 [(0, rv K (9, 0)), (1, .int a1), (2, .int a2)] [] σ6
    refine tw_goto (tgt := 177) C dX9_does_155 (by decide) ?_
    obtain rfl := (Option.some.inj eh9)
    exact tw_vret C hK rfl rfl dX9_does_177
  have hf1_4 := ite_f hc1_4 hf1_3
  by_cases hc1_5 : a2 = 7
  · have ht1_5 := ite_t hc1_5 hf1_4
    refine tw_tabZ (tgt := 158) C dX9_does_1 (7) (by rw [hc1_5]; decide) (by decide) (by decide) rfl (by decide) ?_
    refine tw_aload_n (i := 0) (z := 0) (r := (9, 0)) C dX9_does_158 rfl rfl ?_
    refine tw_aload_n (i := 0) (z := 0) (r := (9, 0)) C dX9_does_159 rfl rfl ?_
    refine tw_getI C fl_RX9_154 rfl (wcells_mem (f := 9) (j := 0) (by decide) (by decide)) rfl dX9_does_160 ?_
    refine tw_iconst (v := 2) C dX9_does_163 (by decide) ?_
    refine tw_iconst (v := 0) C dX9_does_164 (by decide) ?_
    obtain ⟨σ7, hv10, eh10⟩ := bnd_ex ht1_5
    refine tw_callV (As := [.int (σ (9, 0) 10), .int (2 : Int32), .int (0 : Int32)]) (rest := []) (r := (9, 0)) C hR (kX9_ball K.1 _ (by omega) _ (σ (9, 0) 10) (2 : Int32) (0 : Int32)  hv10) mi_X9_ball is_X9_ball se_X9_ball ml_RX9_172 (wcells_mem (f := 9) (j := 0) (by decide) (by decide)) rfl rfl rfl rfl (Nat.le_of_ble_eq_true rfl) dX9_does_165 ?_
    show TW K 168 [(0, rv K (9, 0)), (1, .int a1), (2, .int a2)] [] σ7
    refine tw_goto (tgt := 177) C dX9_does_168 (by decide) ?_
    obtain rfl := (Option.some.inj eh10)
    exact tw_vret C hK rfl rfl dX9_does_177
  have hf1_5 := ite_f hc1_5 hf1_4
  have hT1 : TW K 171 [(0, rv K (9, 0)), (1, .int a1), (2, .int a2)] [] σ := by
    refine tw_aload_n (i := 0) (z := 0) (r := (9, 0)) C dX9_does_171 rfl rfl ?_
    refine tw_iload_n (i := 1) (z := 1) C dX9_does_172 rfl rfl ?_
    refine tw_iload_n (i := 2) (z := 2) C dX9_does_173 rfl rfl ?_
    obtain ⟨σ8, hv11, eh11⟩ := obi_some hf1_5
    refine tw_callV (As := [.int a1, .int a2]) (rest := []) (r := (9, 0)) C hR (kX9_scores K.1 _ (by omega) _ a1 a2  hv11) mi_X9_scores is_X9_scores se_X9_scores ml_RX9_179 (wcells_mem (f := 9) (j := 0) (by decide) (by decide)) rfl rfl rfl rfl (Nat.le_of_ble_eq_true rfl) dX9_does_174 ?_
    show TW K 177 [(0, rv K (9, 0)), (1, .int a1), (2, .int a2)] [] σ8
    obtain rfl := (Option.some.inj eh11)
    exact tw_vret C hK rfl rfl dX9_does_177
  have hn1_0 : ¬ (a2).toInt = 0 := lv_neT (k := 0) (fun q => hc1_0 (Or.inl q)) (by decide)
  have hn1_6 : ¬ (a2).toInt = 6 := lv_neT (k := 6) (fun q => hc1_0 (Or.inr q)) (by decide)
  have hn1_1 : ¬ (a2).toInt = 1 := lv_neT (k := 1) hc1_1 (by decide)
  have hn1_2 : ¬ (a2).toInt = 2 := lv_neT (k := 2) (fun q => hc1_2 (Or.inl q)) (by decide)
  have hn1_3 : ¬ (a2).toInt = 3 := lv_neT (k := 3) (fun q => hc1_2 (Or.inr q)) (by decide)
  have hn1_4 : ¬ (a2).toInt = 4 := lv_neT (k := 4) hc1_3 (by decide)
  have hn1_5 : ¬ (a2).toInt = 5 := lv_neT (k := 5) hc1_4 (by decide)
  have hn1_7 : ¬ (a2).toInt = 7 := lv_neT (k := 7) hc1_5 (by decide)
  rcases (show (a2).toInt < 0 ∨ 7 < (a2).toInt by omega) with hz | hz
  · exact tw_tabOut (tgt := 171) C dX9_does_1 (Or.inl hz) (by decide) hT1
  · exact tw_tabOut (tgt := 171) C dX9_does_1 (Or.inr hz) (by decide) hT1

set_option maxRecDepth 20000 in
def fX9_isLet (σ : St) (a1 : Int32) : Option (Bool) :=
  bnd (irm (a1 / (10 : Int32)) (2 : Int32)) (fun x1 =>
  bnd (irm a1 (10 : Int32)) (fun x2 =>
  bnd (if a1 ≤ (19 : Int32) then
    (0 : Int32)
  else
    if (σ (35, 0) (tn (13 : Int32))) = (2 : Int32) then
      (1 : Int32)
    else
      if (σ (35, 0) (tn (13 : Int32))) = (1 : Int32) then
        if x2 = (1 : Int32) then
          (1 : Int32)
        else
          if x2 = (3 : Int32) then
            (1 : Int32)
          else
            (0 : Int32)
      else
        (0 : Int32)) (fun x3 =>
  if x3 = 0 then
    grd (inb x2 17) (
    if (((σ (35, 0) (tn x2)) >>> ((fX9_ownCell x1 (σ (9, 0) 10)) &&& 31)) &&& (1 : Int32)) = (1 : Int32) then
      some true
    else
      some false)
  else
    some false)))
set_option maxRecDepth 20000 in
set_option maxHeartbeats 4000000 in
theorem kX9_isLet (G : Gx) (d : Nat) (hdp : 2 ≤ d) (σ : St) (a1 : Int32)  {v0 : Bool} (h : fX9_isLet σ a1 = some v0) : MS G d yX9_isLet cX9_isLet 5 (some .boolean) [.ref (G.2.1 (9, 0)), .int a1] σ (some (.int (b2i v0))) σ := by
  refine MS_of (by decide) (Nat.le_of_ble_eq_true rfl) rfl (fun K hG hnL C hR hK => ?_) (by omega)
  subst hG
  show TW K 0 [(0, rv K (9, 0)), (1, .int a1)] [] σ
  unfold fX9_isLet at h
  refine tw_iload_n (i := 1) (z := 1) C dX9_isLet_0 rfl rfl ?_
  refine tw_bipush (v := 10) C dX9_isLet_1 (by decide) ?_
  refine tw_idiv C dX9_isLet_3 (by decide) ?_
  refine tw_iconst (v := 2) C dX9_isLet_4 (by decide) ?_
  refine tw_irem C dX9_isLet_5 (by decide) ?_
  obtain ⟨x1, ex1, eh1⟩ := bnd_ex h
  refine tw_topi ex1.symm ?_
  refine tw_istore_n (lv' := [(0, rv K (9, 0)), (1, .int a1), (2, .int x1)]) C [1, 2, 0] dX9_isLet_6 rfl (by rw [hnL]; decide) rfl ?_
  refine tw_iload_n (i := 1) (z := 1) C dX9_isLet_7 rfl rfl ?_
  refine tw_bipush (v := 10) C dX9_isLet_8 (by decide) ?_
  refine tw_irem C dX9_isLet_10 (by decide) ?_
  obtain ⟨x2, ex2, eh2⟩ := bnd_ex eh1
  refine tw_topi ex2.symm ?_
  refine tw_istore_n (lv' := [(0, rv K (9, 0)), (1, .int a1), (2, .int x1), (3, .int x2)]) C [1, 2, 3, 0] dX9_isLet_11 rfl (by rw [hnL]; decide) rfl ?_
  refine tw_iload_n (i := 1) (z := 1) C dX9_isLet_12 rfl rfl ?_
  refine tw_bipush (v := 19) C dX9_isLet_13 (by decide) ?_
  obtain ⟨x3, hx3, hq3⟩ := bnd_ex eh2
  have hJ3 : TW K 55 [(0, rv K (9, 0)), (2, .int x1), (3, .int x2)] [.int x3] σ := by
    refine tw_istore (lv' := [(0, rv K (9, 0)), (2, .int x1), (3, .int x2), (4, .int x3)]) C [1, 2, 3, 0] dX9_isLet_55 (by rw [hnL]; decide) rfl ?_
    refine tw_iload (i := 4) (z := 3) C dX9_isLet_57 rfl ?_
    refine tw_if_ne (tgt := 87) C dX9_isLet_59 (by decide) (fun hc9 => ?_) (fun hc9 => ?_)
    · have ht9 := ite_f hc9 hq3
      refine tw_iconst (v := 0) C dX9_isLet_87 (by decide) ?_
      obtain rfl := (Option.some.inj ht9)
      exact tw_zret C hK rfl rfl rfl dX9_isLet_88
    · have hf9 := ite_t hc9 hq3
      refine tw_aload_n (i := 0) (z := 0) (r := (9, 0)) C dX9_isLet_62 rfl rfl ?_
      refine tw_getR (g := 35) (z := 0) (j' := 0) C fl_RX9_29 rfl (wcells_mem (f := 9) (j := 0) (by decide) (by decide)) rfl rfl dX9_isLet_63 ?_
      refine tw_iload_n (i := 3) (z := 2) C dX9_isLet_66 rfl rfl ?_
      obtain ⟨hb10, eh10⟩ := grd_some hf9
      refine tw_iald (r := (35, 0)) C (ia_of rfl (by decide)) hb10 dX9_isLet_67 ?_
      refine tw_iload_n (i := 2) (z := 1) C dX9_isLet_68 rfl rfl ?_
      refine tw_aload_n (i := 0) (z := 0) (r := (9, 0)) C dX9_isLet_69 rfl rfl ?_
      refine tw_getI C fl_RX9_154 rfl (wcells_mem (f := 9) (j := 0) (by decide) (by decide)) rfl dX9_isLet_70 ?_
      refine tw_callS (As := [.int x1, .int (σ (9, 0) 10)]) (rest := [.int (σ (35, 0) (tn x2))]) C hR (kX9_ownCell K.1 _ (by omega) σ x1 (σ (9, 0) 10)  rfl) mi_X9_ownCell st_X9_ownCell ml_RX9_169 rfl rfl (Nat.le_of_ble_eq_true rfl) dX9_isLet_73 ?_
      show TW K 76 [(0, rv K (9, 0)), (2, .int x1), (3, .int x2), (4, .int x3)] [.int (fX9_ownCell x1 (σ (9, 0) 10)), .int (σ (35, 0) (tn x2))] σ
      refine tw_ishr C dX9_isLet_76 ?_
      refine tw_iconst (v := 1) C dX9_isLet_77 (by decide) ?_
      refine tw_iand C dX9_isLet_78 ?_
      refine tw_iconst (v := 1) C dX9_isLet_79 (by decide) ?_
      refine tw_ic_ne (tgt := 87) C dX9_isLet_80 (by decide) (fun hc11 => ?_) (fun hc11 => ?_)
      · have ht11 := ite_f hc11 eh10
        refine tw_iconst (v := 0) C dX9_isLet_87 (by decide) ?_
        obtain rfl := (Option.some.inj ht11)
        exact tw_zret C hK rfl rfl rfl dX9_isLet_88
      · have hf11 := ite_t hc11 eh10
        refine tw_iconst (v := 1) C dX9_isLet_83 (by decide) ?_
        refine tw_goto (tgt := 88) C dX9_isLet_84 (by decide) ?_
        obtain rfl := (Option.some.inj hf11)
        exact tw_zret C hK rfl rfl rfl dX9_isLet_88
  refine tw_ic_le (tgt := 54) C dX9_isLet_15 (by decide) (fun hc4 => ?_) (fun hc4 => ?_)
  · have ht4 := ite_t hc4 hx3
    refine tw_iconst (v := 0) C dX9_isLet_54 (by decide) ?_
    refine tw_sub [0, 2, 3] rfl ?_
    obtain rfl := ht4
    exact hJ3
  · have hf4 := ite_f hc4 hx3
    refine tw_aload_n (i := 0) (z := 0) (r := (9, 0)) C dX9_isLet_18 rfl rfl ?_
    refine tw_getR (g := 35) (z := 0) (j' := 0) C fl_RX9_29 rfl (wcells_mem (f := 9) (j := 0) (by decide) (by decide)) rfl rfl dX9_isLet_19 ?_
    refine tw_bipush (v := 13) C dX9_isLet_22 (by decide) ?_
    refine tw_iald (r := (35, 0)) C (ia_of rfl (by decide)) (by decide) dX9_isLet_24 ?_
    refine tw_iconst (v := 2) C dX9_isLet_25 (by decide) ?_
    refine tw_ic_eq (tgt := 50) C dX9_isLet_26 (by decide) (fun hc5 => ?_) (fun hc5 => ?_)
    · have ht5 := ite_t hc5 hf4
      refine tw_iconst (v := 1) C dX9_isLet_50 (by decide) ?_
      refine tw_goto (tgt := 55) C dX9_isLet_51 (by decide) ?_
      refine tw_sub [0, 2, 3] rfl ?_
      obtain rfl := ht5
      exact hJ3
    · have hf5 := ite_f hc5 hf4
      refine tw_aload_n (i := 0) (z := 0) (r := (9, 0)) C dX9_isLet_29 rfl rfl ?_
      refine tw_getR (g := 35) (z := 0) (j' := 0) C fl_RX9_29 rfl (wcells_mem (f := 9) (j := 0) (by decide) (by decide)) rfl rfl dX9_isLet_30 ?_
      refine tw_bipush (v := 13) C dX9_isLet_33 (by decide) ?_
      refine tw_iald (r := (35, 0)) C (ia_of rfl (by decide)) (by decide) dX9_isLet_35 ?_
      refine tw_iconst (v := 1) C dX9_isLet_36 (by decide) ?_
      refine tw_ic_ne (tgt := 54) C dX9_isLet_37 (by decide) (fun hc6 => ?_) (fun hc6 => ?_)
      · have ht6 := ite_f hc6 hf5
        refine tw_iconst (v := 0) C dX9_isLet_54 (by decide) ?_
        refine tw_sub [0, 2, 3] rfl ?_
        obtain rfl := ht6
        exact hJ3
      · have hf6 := ite_t hc6 hf5
        refine tw_iload_n (i := 3) (z := 3) C dX9_isLet_40 rfl rfl ?_
        refine tw_iconst (v := 1) C dX9_isLet_41 (by decide) ?_
        refine tw_ic_eq (tgt := 50) C dX9_isLet_42 (by decide) (fun hc7 => ?_) (fun hc7 => ?_)
        · have ht7 := ite_t hc7 hf6
          refine tw_iconst (v := 1) C dX9_isLet_50 (by decide) ?_
          refine tw_goto (tgt := 55) C dX9_isLet_51 (by decide) ?_
          refine tw_sub [0, 2, 3] rfl ?_
          obtain rfl := ht7
          exact hJ3
        · have hf7 := ite_f hc7 hf6
          refine tw_iload_n (i := 3) (z := 3) C dX9_isLet_45 rfl rfl ?_
          refine tw_iconst (v := 3) C dX9_isLet_46 (by decide) ?_
          refine tw_ic_ne (tgt := 54) C dX9_isLet_47 (by decide) (fun hc8 => ?_) (fun hc8 => ?_)
          · have ht8 := ite_f hc8 hf7
            refine tw_iconst (v := 0) C dX9_isLet_54 (by decide) ?_
            refine tw_sub [0, 2, 3] rfl ?_
            obtain rfl := ht8
            exact hJ3
          · have hf8 := ite_t hc8 hf7
            refine tw_iconst (v := 1) C dX9_isLet_50 (by decide) ?_
            refine tw_goto (tgt := 55) C dX9_isLet_51 (by decide) ?_
            refine tw_sub [0, 2, 3] rfl ?_
            obtain rfl := hf8
            exact hJ3

set_option maxRecDepth 20000 in
def fX9_goesOn (σ : St) (a1 : Int32) (a2 : Int32) : Option (Int32 × St) :=
  bnd (irm (a1 / (10 : Int32)) (2 : Int32)) (fun x1 =>
  if (fX9_canBe σ x1 (irm a1 (10 : Int32))) = true then
    bj (bj (if a2 = (-1 : Int32) then
      obi (fX9_isLet σ a1) (fun x2 =>
      if x2 = true then
        some (.inr ())
      else
        some (.inl (.inr σ)))
    else
      if a2 = (1 : Int32) then
        some (.inr ())
      else
        some (.inl (.inr σ))) (fun _ =>
    obi (fX9_does σ x1 (irm a1 (10 : Int32))) (fun σ2 =>
    some (.inl ((1 : Int32), σ2))))) (fun σ1 =>
    bnd (fX9_ball σ1 (σ1 (9, 0) 10) ((1 : Int32) - x1) (0 : Int32)) (fun σ3 =>
    some ((2 : Int32), σ3)))
  else
    some ((0 : Int32), σ))
set_option maxRecDepth 20000 in
set_option maxHeartbeats 4000000 in
theorem kX9_goesOn (G : Gx) (d : Nat) (hdp : 5 ≤ d) (σ : St) (a1 : Int32) (a2 : Int32)  {v0 : Int32} {σ' : St} (h : fX9_goesOn σ a1 a2 = some (v0, σ')) : MS G d yX9_goesOn cX9_goesOn 4 (some .int) [.ref (G.2.1 (9, 0)), .int a1, .int a2] σ (some (.int v0)) σ' := by
  refine MS_of (by decide) (Nat.le_of_ble_eq_true rfl) rfl (fun K hG hnL C hR hK => ?_) (by omega)
  subst hG
  show TW K 0 [(0, rv K (9, 0)), (1, .int a1), (2, .int a2)] [] σ
  unfold fX9_goesOn at h
  refine tw_iload_n (i := 1) (z := 1) C dX9_goesOn_0 rfl rfl ?_
  refine tw_bipush (v := 10) C dX9_goesOn_1 (by decide) ?_
  refine tw_idiv C dX9_goesOn_3 (by decide) ?_
  refine tw_iconst (v := 2) C dX9_goesOn_4 (by decide) ?_
  refine tw_irem C dX9_goesOn_5 (by decide) ?_
  obtain ⟨x1, ex1, eh1⟩ := bnd_ex h
  refine tw_topi ex1.symm ?_
  refine tw_istore_n (lv' := [(0, rv K (9, 0)), (1, .int a1), (2, .int a2), (3, .int x1)]) C [1, 2, 3, 0] dX9_goesOn_6 rfl (by rw [hnL]; decide) rfl ?_
  refine tw_aload_n (i := 0) (z := 0) (r := (9, 0)) C dX9_goesOn_7 rfl rfl ?_
  refine tw_iload_n (i := 3) (z := 3) C dX9_goesOn_8 rfl rfl ?_
  refine tw_iload_n (i := 1) (z := 1) C dX9_goesOn_9 rfl rfl ?_
  refine tw_bipush (v := 10) C dX9_goesOn_10 (by decide) ?_
  refine tw_irem C dX9_goesOn_12 (by decide) ?_
  refine tw_callV (As := [.int x1, .int (irm a1 (10 : Int32))]) (rest := []) (r := (9, 0)) C hR (kX9_canBe K.1 _ (by omega) σ x1 (irm a1 (10 : Int32))  rfl) mi_X9_canBe is_X9_canBe se_X9_canBe ml_RX9_183 (wcells_mem (f := 9) (j := 0) (by decide) (by decide)) rfl rfl rfl rfl (Nat.le_of_ble_eq_true rfl) dX9_goesOn_13 ?_
  show TW K 16 [(0, rv K (9, 0)), (1, .int a1), (2, .int a2), (3, .int x1)] [.int (b2i (fX9_canBe σ x1 (irm a1 (10 : Int32))))] σ
  refine tw_if_ne (tgt := 21) C dX9_goesOn_16 (by decide) (fun hc2 => ?_) (fun hc2 => ?_)
  · have ht2 := ite_t (b2i_nz hc2) eh1
    refine tw_iload_n (i := 2) (z := 2) C dX9_goesOn_21 rfl rfl ?_
    refine tw_iconst (v := (-1)) C dX9_goesOn_22 (by decide) ?_
    obtain ⟨y3, hx3, hy3⟩ := bj_some ht2
    have hJ3 : ∀ (σ1 : St), y3 = .inr σ1 → TW K 53 [(0, rv K (9, 0)), (3, .int x1)] [] σ1 := by
      intro σ1 ey3
      have hq3 := bj_r ey3 hy3
      refine tw_aload_n (i := 0) (z := 0) (r := (9, 0)) C dX9_goesOn_53 rfl rfl ?_
      refine tw_aload_n (i := 0) (z := 0) (r := (9, 0)) C dX9_goesOn_54 rfl rfl ?_
      refine tw_getI C fl_RX9_154 rfl (wcells_mem (f := 9) (j := 0) (by decide) (by decide)) rfl dX9_goesOn_55 ?_
      refine tw_iconst (v := 1) C dX9_goesOn_58 (by decide) ?_
      refine tw_iload_n (i := 3) (z := 1) C dX9_goesOn_59 rfl rfl ?_
      refine tw_isub C dX9_goesOn_60 ?_
      refine tw_iconst (v := 0) C dX9_goesOn_61 (by decide) ?_
      obtain ⟨σ3, hv13, eh13⟩ := bnd_ex hq3
      refine tw_callV (As := [.int (σ1 (9, 0) 10), .int ((1 : Int32) - x1), .int (0 : Int32)]) (rest := []) (r := (9, 0)) C hR (kX9_ball K.1 _ (by omega) _ (σ1 (9, 0) 10) ((1 : Int32) - x1) (0 : Int32)  hv13) mi_X9_ball is_X9_ball se_X9_ball ml_RX9_172 (wcells_mem (f := 9) (j := 0) (by decide) (by decide)) rfl rfl rfl rfl (Nat.le_of_ble_eq_true rfl) dX9_goesOn_62 ?_
      show TW K 65 [(0, rv K (9, 0)), (3, .int x1)] [] σ3
      refine tw_iconst (v := 2) C dX9_goesOn_65 (by decide) ?_
      obtain ⟨rfl, rfl⟩ := pj2 (Option.some.inj eh13)
      exact tw_iret C hK rfl rfl dX9_goesOn_66
    obtain ⟨y4, hx4, hy4⟩ := bj_some hx3
    have hJ4 : y4 = .inr () → TW K 42 [(0, rv K (9, 0)), (1, .int a1), (3, .int x1)] [] σ := by
      intro  ey4
      have hq4 := bj_r ey4 hy4
      refine tw_aload_n (i := 0) (z := 0) (r := (9, 0)) C dX9_goesOn_42 rfl rfl ?_
      refine tw_iload_n (i := 3) (z := 2) C dX9_goesOn_43 rfl rfl ?_
      refine tw_iload_n (i := 1) (z := 1) C dX9_goesOn_44 rfl rfl ?_
      refine tw_bipush (v := 10) C dX9_goesOn_45 (by decide) ?_
      refine tw_irem C dX9_goesOn_47 (by decide) ?_
      obtain ⟨σ2, hv11, eh11⟩ := obi_some hq4
      refine tw_callV (As := [.int x1, .int (irm a1 (10 : Int32))]) (rest := []) (r := (9, 0)) C hR (kX9_does K.1 _ (by omega) _ x1 (irm a1 (10 : Int32))  hv11) mi_X9_does is_X9_does se_X9_does ml_RX9_190 (wcells_mem (f := 9) (j := 0) (by decide) (by decide)) rfl rfl rfl rfl (Nat.le_of_ble_eq_true rfl) dX9_goesOn_48 ?_
      show TW K 51 [(0, rv K (9, 0)), (1, .int a1), (3, .int x1)] [] σ2
      refine tw_iconst (v := 1) C dX9_goesOn_51 (by decide) ?_
      have e12 := bj_l eh11 hy3
      obtain ⟨rfl, rfl⟩ := pj2 (Option.some.inj e12)
      exact tw_iret C hK rfl rfl dX9_goesOn_52
    refine tw_ic_ne (tgt := 37) C dX9_goesOn_23 (by decide) (fun hc5 => ?_) (fun hc5 => ?_)
    · have ht5 := ite_f hc5 hx4
      refine tw_iload_n (i := 2) (z := 2) C dX9_goesOn_37 rfl rfl ?_
      refine tw_iconst (v := 1) C dX9_goesOn_38 (by decide) ?_
      refine tw_ic_ne (tgt := 53) C dX9_goesOn_39 (by decide) (fun hc6 => ?_) (fun hc6 => ?_)
      · have ht6 := ite_f hc6 ht5
        refine tw_sub [0, 3] rfl ?_
        have e7 := bj_l ht6 hy4
        exact hJ3 _ (Option.some.inj e7).symm
      · have hf6 := ite_t hc6 ht5
        refine tw_sub [0, 1, 3] rfl ?_
        exact hJ4 (Option.some.inj hf6).symm
    · have hf5 := ite_t hc5 hx4
      refine tw_aload_n (i := 0) (z := 0) (r := (9, 0)) C dX9_goesOn_26 rfl rfl ?_
      refine tw_iload_n (i := 1) (z := 1) C dX9_goesOn_27 rfl rfl ?_
      obtain ⟨x2, hv8, eh8⟩ := obi_some hf5
      refine tw_callV (As := [.int a1]) (rest := []) (r := (9, 0)) C hR (kX9_isLet K.1 _ (by omega) σ a1  hv8) mi_X9_isLet is_X9_isLet se_X9_isLet ml_RX9_187 (wcells_mem (f := 9) (j := 0) (by decide) (by decide)) rfl rfl rfl rfl (Nat.le_of_ble_eq_true rfl) dX9_goesOn_28 ?_
      show TW K 31 [(0, rv K (9, 0)), (1, .int a1), (2, .int a2), (3, .int x1)] [.int (b2i x2)] σ
      refine tw_if_eq (tgt := 53) C dX9_goesOn_31 (by decide) (fun hc9 => ?_) (fun hc9 => ?_)
      · have ht9 := ite_f (b2i_z hc9) eh8
        refine tw_sub [0, 3] rfl ?_
        have e10 := bj_l ht9 hy4
        exact hJ3 _ (Option.some.inj e10).symm
      · have hf9 := ite_t (b2i_nz hc9) eh8
        refine tw_goto (tgt := 42) C dX9_goesOn_34 (by decide) ?_
        refine tw_sub [0, 1, 3] rfl ?_
        exact hJ4 (Option.some.inj hf9).symm
  · have hf2 := ite_f (b2i_z hc2) eh1
    refine tw_iconst (v := 0) C dX9_goesOn_19 (by decide) ?_
    obtain ⟨rfl, rfl⟩ := pj2 (Option.some.inj hf2)
    exact tw_iret C hK rfl rfl dX9_goesOn_20

set_option maxRecDepth 20000 in
def fX9_isMatch (σ : St) (a1 : Int32) : Bool :=
  fX9_in a1 (0 : Int32) ((σ (9, 0) 15) - (1 : Int32))
set_option maxRecDepth 20000 in
set_option maxHeartbeats 4000000 in
theorem kX9_isMatch (G : Gx) (d : Nat) (hdp : 2 ≤ d) (σ : St) (a1 : Int32)  {v0 : Bool} (h : fX9_isMatch σ a1 = v0) : MS G d yX9_isMatch cX9_isMatch 2 (some .boolean) [.ref (G.2.1 (9, 0)), .int a1] σ (some (.int (b2i v0))) σ := by
  refine MS_of (by decide) (Nat.le_of_ble_eq_true rfl) rfl (fun K hG hnL C hR hK => ?_) (by omega)
  subst hG
  show TW K 0 [(0, rv K (9, 0)), (1, .int a1)] [] σ
  unfold fX9_isMatch at h
  refine tw_iload_n (i := 1) (z := 1) C dX9_isMatch_0 rfl rfl ?_
  refine tw_iconst (v := 0) C dX9_isMatch_1 (by decide) ?_
  refine tw_aload_n (i := 0) (z := 0) (r := (9, 0)) C dX9_isMatch_2 rfl rfl ?_
  refine tw_getI C fl_RX9_193 rfl (wcells_mem (f := 9) (j := 0) (by decide) (by decide)) rfl dX9_isMatch_3 ?_
  refine tw_iconst (v := 1) C dX9_isMatch_6 (by decide) ?_
  refine tw_isub C dX9_isMatch_7 ?_
  refine tw_callS (As := [.int a1, .int (0 : Int32), .int ((σ (9, 0) 15) - (1 : Int32))]) (rest := []) C hR (kX9_in K.1 _ (by omega) σ a1 (0 : Int32) ((σ (9, 0) 15) - (1 : Int32))  rfl) mi_X9_in st_X9_in ml_RX9_106 rfl rfl (Nat.le_of_ble_eq_true rfl) dX9_isMatch_8 ?_
  show TW K 11 [(0, rv K (9, 0)), (1, .int a1)] [.int (b2i (fX9_in a1 (0 : Int32) ((σ (9, 0) 15) - (1 : Int32))))] σ
  obtain rfl := h
  exact tw_zret C hK (nar_b2i _) rfl rfl dX9_isMatch_11

set_option maxRecDepth 20000 in
def fX9_isSheet (a0 : Int32) : Bool :=
  fX9_in a0 (0 : Int32) (3 : Int32)
set_option maxRecDepth 20000 in
set_option maxHeartbeats 4000000 in
theorem kX9_isSheet (G : Gx) (d : Nat) (hdp : 2 ≤ d) (σ : St) (a0 : Int32)  {v0 : Bool} (h : fX9_isSheet a0 = v0) : MS G d yX9_isSheet cX9_isSheet 1 (some .boolean) [.int a0] σ (some (.int (b2i v0))) σ := by
  refine MS_of (by decide) (Nat.le_of_ble_eq_true rfl) rfl (fun K hG hnL C hR hK => ?_) (by omega)
  subst hG
  show TW K 0 [(0, .int a0)] [] σ
  unfold fX9_isSheet at h
  refine tw_iload_n (i := 0) (z := 0) C dX9_isSheet_0 rfl rfl ?_
  refine tw_iconst (v := 0) C dX9_isSheet_1 (by decide) ?_
  refine tw_iconst (v := 3) C dX9_isSheet_2 (by decide) ?_
  refine tw_callS (As := [.int a0, .int (0 : Int32), .int (3 : Int32)]) (rest := []) C hR (kX9_in K.1 _ (by omega) σ a0 (0 : Int32) (3 : Int32)  rfl) mi_X9_in st_X9_in ml_RX9_106 rfl rfl (Nat.le_of_ble_eq_true rfl) dX9_isSheet_3 ?_
  show TW K 6 [(0, .int a0)] [.int (b2i (fX9_in a0 (0 : Int32) (3 : Int32)))] σ
  obtain rfl := h
  exact tw_zret C hK (nar_b2i _) rfl rfl dX9_isSheet_6

