set_option maxRecDepth 20000 in
def fX9_in (a0 : Int32) (a1 : Int32) (a2 : Int32) : Bool :=
  if a0 < a1 then
    false
  else
    if a2 < a0 then
      false
    else
      true
set_option maxRecDepth 20000 in
set_option maxHeartbeats 4000000 in
theorem kX9_in (G : Gx) (d : Nat) (hdp : 1 ≤ d) (σ : St) (a0 : Int32) (a1 : Int32) (a2 : Int32)  {v0 : Bool} (h : fX9_in a0 a1 a2 = v0) : MS G d yX9_in cX9_in 3 (some .boolean) [.int a0, .int a1, .int a2] σ (some (.int (b2i v0))) σ := by
  refine MS_of (by decide) (Nat.le_of_ble_eq_true rfl) rfl (fun K hG hnL C hR hK => ?_) (by omega)
  subst hG
  show TW K 0 [(0, .int a0), (1, .int a1), (2, .int a2)] [] σ
  unfold fX9_in at h
  refine tw_iload_n (i := 0) (z := 0) C dX9_in_0 rfl rfl ?_
  refine tw_iload_n (i := 1) (z := 1) C dX9_in_1 rfl rfl ?_
  refine tw_ic_lt (tgt := 14) C dX9_in_2 (by decide) (fun hc1 => ?_) (fun hc1 => ?_)
  · have ht1 := ite_t hc1 h
    refine tw_iconst (v := 0) C dX9_in_14 (by decide) ?_
    obtain rfl := ht1
    exact tw_zret C hK rfl rfl rfl dX9_in_15
  · have hf1 := ite_f hc1 h
    refine tw_iload_n (i := 0) (z := 0) C dX9_in_5 rfl rfl ?_
    refine tw_iload_n (i := 2) (z := 2) C dX9_in_6 rfl rfl ?_
    refine tw_ic_gt (tgt := 14) C dX9_in_7 (by decide) (fun hc2 => ?_) (fun hc2 => ?_)
    · have ht2 := ite_t hc2 hf1
      refine tw_iconst (v := 0) C dX9_in_14 (by decide) ?_
      obtain rfl := ht2
      exact tw_zret C hK rfl rfl rfl dX9_in_15
    · have hf2 := ite_f hc2 hf1
      refine tw_iconst (v := 1) C dX9_in_10 (by decide) ?_
      refine tw_goto (tgt := 15) C dX9_in_11 (by decide) ?_
      obtain rfl := hf2
      exact tw_zret C hK rfl rfl rfl dX9_in_15

set_option maxRecDepth 20000 in
def fX9_ones (a0 : Int32) : Option (Int32) :=
  lpF (fun (q1 : Int32 × Int32) => match q1 with
  | (x1, x2) =>
  if (17 : Int32) ≤ x2 then
    some (.inr x1)
  else
    bnd (x1 + ((a0 >>> (x2 &&& 31)) &&& (1 : Int32))) (fun x3 =>
    bnd (x2 + 1) (fun x4 =>
    some (.inl (x3, x4))))) ((0 : Int32), (0 : Int32))
set_option maxRecDepth 20000 in
set_option maxHeartbeats 4000000 in
theorem kX9_ones (G : Gx) (d : Nat) (hdp : 1 ≤ d) (σ : St) (a0 : Int32)  {v0 : Int32} (h : fX9_ones a0 = some v0) : MS G d yX9_ones cX9_ones 3 (some .int) [.int a0] σ (some (.int v0)) σ := by
  refine MS_of (by decide) (Nat.le_of_ble_eq_true rfl) rfl (fun K hG hnL C hR hK => ?_) (by omega)
  subst hG
  show TW K 0 [(0, .int a0)] [] σ
  unfold fX9_ones at h
  refine tw_iconst (v := 0) C dX9_ones_0 (by decide) ?_
  refine tw_istore_n (lv' := [(0, .int a0), (1, .int (0 : Int32))]) C [1, 0] dX9_ones_1 rfl (by rw [hnL]; decide) rfl ?_
  refine tw_iconst (v := 0) C dX9_ones_2 (by decide) ?_
  refine tw_istore_n (lv' := [(0, .int a0), (1, .int (0 : Int32)), (2, .int (0 : Int32))]) C [1, 2, 0] dX9_ones_3 rfl (by rw [hnL]; decide) rfl ?_
  refine lpF_ct (G := fun (q : Int32 × Int32) => match q with | (x1, x2) => TW K 4 [(0, .int a0), (1, .int x1), (2, .int x2)] [] σ) ?_ h
  rintro ⟨x1, x2⟩ w1 hx1 hk1
  show TW K 4 [(0, .int a0), (1, .int x1), (2, .int x2)] [] σ
  refine tw_iload_n (i := 2) (z := 2) C dX9_ones_4 rfl rfl ?_
  refine tw_bipush (v := 17) C dX9_ones_5 (by decide) ?_
  refine tw_ic_ge (tgt := 24) C dX9_ones_7 (by decide) (fun hc2 => ?_) (fun hc2 => ?_)
  · have ht2 := ite_t hc2 hx1
    refine tw_iload_n (i := 1) (z := 1) C dX9_ones_24 rfl rfl ?_
    have e3 := lp_x ht2 hk1
    obtain rfl := (Option.some.inj e3)
    exact tw_iret C hK rfl rfl dX9_ones_25
  · have hf2 := ite_f hc2 hx1
    refine tw_iload_n (i := 1) (z := 1) C dX9_ones_10 rfl rfl ?_
    refine tw_iload_n (i := 0) (z := 0) C dX9_ones_11 rfl rfl ?_
    refine tw_iload_n (i := 2) (z := 2) C dX9_ones_12 rfl rfl ?_
    refine tw_ishr C dX9_ones_13 ?_
    refine tw_iconst (v := 1) C dX9_ones_14 (by decide) ?_
    refine tw_iand C dX9_ones_15 ?_
    refine tw_iadd C dX9_ones_16 ?_
    obtain ⟨x3, ex4, eh4⟩ := bnd_ex hf2
    refine tw_topi ex4.symm ?_
    refine tw_istore_n (lv' := [(0, .int a0), (1, .int x3), (2, .int x2)]) C [1, 0, 2] dX9_ones_17 rfl (by rw [hnL]; decide) rfl ?_
    obtain ⟨x4, ex5, eh5⟩ := bnd_ex eh4
    refine tw_iinc (z := 2) (v := x4) (lv' := [(0, .int a0), (1, .int x3), (2, .int x4)]) C [1, 2, 0] dX9_ones_18 rfl ex5 (by rw [hnL]; decide) rfl ?_
    refine tw_goto (tgt := 4) C dX9_ones_21 (by decide) ?_
    have hz := lp_c eh5 hk1
    exact hz

set_option maxRecDepth 20000 in
def fX9_plain (a0 : Int32) : Int32 :=
  if (10 : Int32) ≤ a0 then
    if a0 = (11 : Int32) then
      (1 : Int32)
    else
      if a0 = (12 : Int32) then
        (1 : Int32)
      else
        if a0 = (16 : Int32) then
          (99 : Int32)
        else
          (0 : Int32)
  else
    (127 : Int32)
set_option maxRecDepth 20000 in
set_option maxHeartbeats 4000000 in
theorem kX9_plain (G : Gx) (d : Nat) (hdp : 1 ≤ d) (σ : St) (a0 : Int32)  {v0 : Int32} (h : fX9_plain a0 = v0) : MS G d yX9_plain cX9_plain 1 (some .int) [.int a0] σ (some (.int v0)) σ := by
  refine MS_of (by decide) (Nat.le_of_ble_eq_true rfl) rfl (fun K hG hnL C hR hK => ?_) (by omega)
  subst hG
  show TW K 0 [(0, .int a0)] [] σ
  unfold fX9_plain at h
  refine tw_iload_n (i := 0) (z := 0) C dX9_plain_0 rfl rfl ?_
  refine tw_bipush (v := 10) C dX9_plain_1 (by decide) ?_
  refine tw_ic_ge (tgt := 11) C dX9_plain_3 (by decide) (fun hc1 => ?_) (fun hc1 => ?_)
  · have ht1 := ite_t hc1 h
    refine tw_iload_n (i := 0) (z := 0) C dX9_plain_11 rfl rfl ?_
    refine tw_bipush (v := 11) C dX9_plain_12 (by decide) ?_
    refine tw_ic_eq (tgt := 23) C dX9_plain_14 (by decide) (fun hc2 => ?_) (fun hc2 => ?_)
    · have ht2 := ite_t hc2 ht1
      refine tw_iconst (v := 1) C dX9_plain_23 (by decide) ?_
      refine tw_goto (tgt := 39) C dX9_plain_24 (by decide) ?_
      obtain rfl := ht2
      exact tw_iret C hK rfl rfl dX9_plain_39
    · have hf2 := ite_f hc2 ht1
      refine tw_iload_n (i := 0) (z := 0) C dX9_plain_17 rfl rfl ?_
      refine tw_bipush (v := 12) C dX9_plain_18 (by decide) ?_
      refine tw_ic_ne (tgt := 27) C dX9_plain_20 (by decide) (fun hc3 => ?_) (fun hc3 => ?_)
      · have ht3 := ite_f hc3 hf2
        refine tw_iload_n (i := 0) (z := 0) C dX9_plain_27 rfl rfl ?_
        refine tw_bipush (v := 16) C dX9_plain_28 (by decide) ?_
        refine tw_ic_ne (tgt := 38) C dX9_plain_30 (by decide) (fun hc4 => ?_) (fun hc4 => ?_)
        · have ht4 := ite_f hc4 ht3
          refine tw_iconst (v := 0) C dX9_plain_38 (by decide) ?_
          obtain rfl := ht4
          exact tw_iret C hK rfl rfl dX9_plain_39
        · have hf4 := ite_t hc4 ht3
          refine tw_bipush (v := 99) C dX9_plain_33 (by decide) ?_
          refine tw_goto (tgt := 39) C dX9_plain_35 (by decide) ?_
          obtain rfl := hf4
          exact tw_iret C hK rfl rfl dX9_plain_39
      · have hf3 := ite_t hc3 hf2
        refine tw_iconst (v := 1) C dX9_plain_23 (by decide) ?_
        refine tw_goto (tgt := 39) C dX9_plain_24 (by decide) ?_
        obtain rfl := hf3
        exact tw_iret C hK rfl rfl dX9_plain_39
  · have hf1 := ite_f hc1 h
    refine tw_bipush (v := 127) C dX9_plain_6 (by decide) ?_
    refine tw_goto (tgt := 39) C dX9_plain_8 (by decide) ?_
    obtain rfl := hf1
    exact tw_iret C hK rfl rfl dX9_plain_39

set_option maxRecDepth 20000 in
def fX9_isCode (a0 : Int32) : Bool :=
  fX9_in a0 (0 : Int32) (10 : Int32)
set_option maxRecDepth 20000 in
set_option maxHeartbeats 4000000 in
theorem kX9_isCode (G : Gx) (d : Nat) (hdp : 2 ≤ d) (σ : St) (a0 : Int32)  {v0 : Bool} (h : fX9_isCode a0 = v0) : MS G d yX9_isCode cX9_isCode 1 (some .boolean) [.int a0] σ (some (.int (b2i v0))) σ := by
  refine MS_of (by decide) (Nat.le_of_ble_eq_true rfl) rfl (fun K hG hnL C hR hK => ?_) (by omega)
  subst hG
  show TW K 0 [(0, .int a0)] [] σ
  unfold fX9_isCode at h
  refine tw_iload_n (i := 0) (z := 0) C dX9_isCode_0 rfl rfl ?_
  refine tw_iconst (v := 0) C dX9_isCode_1 (by decide) ?_
  refine tw_bipush (v := 10) C dX9_isCode_2 (by decide) ?_
  refine tw_callS (As := [.int a0, .int (0 : Int32), .int (10 : Int32)]) (rest := []) C hR (kX9_in K.1 _ (by omega) σ a0 (0 : Int32) (10 : Int32)  rfl) mi_X9_in st_X9_in ml_RX9_106 rfl rfl (Nat.le_of_ble_eq_true rfl) dX9_isCode_4 ?_
  show TW K 7 [(0, .int a0)] [.int (b2i (fX9_in a0 (0 : Int32) (10 : Int32)))] σ
  obtain rfl := h
  exact tw_zret C hK (nar_b2i _) rfl rfl dX9_isCode_7

set_option maxRecDepth 20000 in
def fX9_type (σ : St) (a1 : Int32) (a2 : Int32) : Option (Int32 × St) :=
  if (fX9_isCode a1) = true then
    if (fX9_in a2 (0 : Int32) (255 : Int32)) = true then
      grd (inb a1 11) (
      if (σ (29, 0) (tn a1)) = (80 : Int32) then
        some ((-4 : Int32), σ)
      else
        grd (inb a1 11) (
        grd (inb (((80 : Int32) * a1) + (σ (29, 0) (tn a1))) 880) (bnd (su σ (30, 0) (tn (((80 : Int32) * a1) + (σ (29, 0) (tn a1)))) a2) (fun σ1 =>
        grd (inb a1 11) (
        grd (inb a1 11) (bnd (su σ1 (29, 0) (tn a1) ((σ1 (29, 0) (tn a1)) + (1 : Int32))) (fun σ2 =>
        grd (inb a1 11) (bnd (su σ2 (31, 0) (tn a1) (nbo (0 : Int32))) (fun σ3 =>
        grd (inb a1 11) (
        some (σ3 (29, 0) (tn a1), σ3)))))))))))
    else
      some ((-2 : Int32), σ)
  else
    some ((-2 : Int32), σ)
set_option maxRecDepth 20000 in
set_option maxHeartbeats 4000000 in
theorem kX9_type (G : Gx) (d : Nat) (hdp : 3 ≤ d) (σ : St) (a1 : Int32) (a2 : Int32)  {v0 : Int32} {σ' : St} (h : fX9_type σ a1 a2 = some (v0, σ')) : MS G d yX9_type cX9_type 3 (some .int) [.ref (G.2.1 (9, 0)), .int a1, .int a2] σ (some (.int v0)) σ' := by
  refine MS_of (by decide) (Nat.le_of_ble_eq_true rfl) rfl (fun K hG hnL C hR hK => ?_) (by omega)
  subst hG
  show TW K 0 [(0, rv K (9, 0)), (1, .int a1), (2, .int a2)] [] σ
  unfold fX9_type at h
  refine tw_iload_n (i := 1) (z := 1) C dX9_type_0 rfl rfl ?_
  refine tw_callS (As := [.int a1]) (rest := []) C hR (kX9_isCode K.1 _ (by omega) σ a1  rfl) mi_X9_isCode st_X9_isCode ml_RX9_110 rfl rfl (Nat.le_of_ble_eq_true rfl) dX9_type_1 ?_
  show TW K 4 [(0, rv K (9, 0)), (1, .int a1), (2, .int a2)] [.int (b2i (fX9_isCode a1))] σ
  refine tw_if_eq (tgt := 18) C dX9_type_4 (by decide) (fun hc1 => ?_) (fun hc1 => ?_)
  · have ht1 := ite_f (b2i_z hc1) h
    refine tw_bipush (v := (-2)) C dX9_type_18 (by decide) ?_
    obtain ⟨rfl, rfl⟩ := pj2 (Option.some.inj ht1)
    exact tw_iret C hK rfl rfl dX9_type_20
  · have hf1 := ite_t (b2i_nz hc1) h
    refine tw_iload_n (i := 2) (z := 2) C dX9_type_7 rfl rfl ?_
    refine tw_iconst (v := 0) C dX9_type_8 (by decide) ?_
    refine tw_sipush (v := 255) C dX9_type_9 (by decide) ?_
    refine tw_callS (As := [.int a2, .int (0 : Int32), .int (255 : Int32)]) (rest := []) C hR (kX9_in K.1 _ (by omega) σ a2 (0 : Int32) (255 : Int32)  rfl) mi_X9_in st_X9_in ml_RX9_106 rfl rfl (Nat.le_of_ble_eq_true rfl) dX9_type_12 ?_
    show TW K 15 [(0, rv K (9, 0)), (1, .int a1), (2, .int a2)] [.int (b2i (fX9_in a2 (0 : Int32) (255 : Int32)))] σ
    refine tw_if_ne (tgt := 21) C dX9_type_15 (by decide) (fun hc2 => ?_) (fun hc2 => ?_)
    · have ht2 := ite_t (b2i_nz hc2) hf1
      refine tw_aload_n (i := 0) (z := 0) (r := (9, 0)) C dX9_type_21 rfl rfl ?_
      refine tw_getR (g := 29) (z := 0) (j' := 0) C fl_RX9_7 rfl (wcells_mem (f := 9) (j := 0) (by decide) (by decide)) rfl rfl dX9_type_22 ?_
      refine tw_iload_n (i := 1) (z := 1) C dX9_type_25 rfl rfl ?_
      obtain ⟨hb3, eh3⟩ := grd_some ht2
      refine tw_iald (r := (29, 0)) C (ia_of rfl (by decide)) hb3 dX9_type_26 ?_
      refine tw_bipush (v := 80) C dX9_type_27 (by decide) ?_
      refine tw_ic_ne (tgt := 35) C dX9_type_29 (by decide) (fun hc4 => ?_) (fun hc4 => ?_)
      · have ht4 := ite_f hc4 eh3
        refine tw_aload_n (i := 0) (z := 0) (r := (9, 0)) C dX9_type_35 rfl rfl ?_
        refine tw_getR (g := 30) (z := 0) (j' := 0) C fl_RX9_13 rfl (wcells_mem (f := 9) (j := 0) (by decide) (by decide)) rfl rfl dX9_type_36 ?_
        refine tw_bipush (v := 80) C dX9_type_39 (by decide) ?_
        refine tw_iload_n (i := 1) (z := 1) C dX9_type_41 rfl rfl ?_
        refine tw_imul C dX9_type_42 ?_
        refine tw_aload_n (i := 0) (z := 0) (r := (9, 0)) C dX9_type_43 rfl rfl ?_
        refine tw_getR (g := 29) (z := 0) (j' := 0) C fl_RX9_7 rfl (wcells_mem (f := 9) (j := 0) (by decide) (by decide)) rfl rfl dX9_type_44 ?_
        refine tw_iload_n (i := 1) (z := 1) C dX9_type_47 rfl rfl ?_
        obtain ⟨hb5, eh5⟩ := grd_some ht4
        refine tw_iald (r := (29, 0)) C (ia_of rfl (by decide)) hb5 dX9_type_48 ?_
        refine tw_iadd C dX9_type_49 ?_
        refine tw_iload_n (i := 2) (z := 2) C dX9_type_50 rfl rfl ?_
        obtain ⟨hb6, eh6⟩ := grd_some eh5
        obtain ⟨σ1, es7, eg7⟩ := bnd_ex eh6
        refine tw_iast (r := (30, 0)) C (wa_of rfl (by decide) (by decide)) hb6 dX9_type_51 ?_
        rw [es7]
        refine tw_aload_n (i := 0) (z := 0) (r := (9, 0)) C dX9_type_52 rfl rfl ?_
        refine tw_getR (g := 29) (z := 0) (j' := 0) C fl_RX9_7 rfl (wcells_mem (f := 9) (j := 0) (by decide) (by decide)) rfl rfl dX9_type_53 ?_
        refine tw_iload_n (i := 1) (z := 1) C dX9_type_56 rfl rfl ?_
        refine tw_dup2 C dX9_type_57 rfl rfl ?_
        obtain ⟨hb8, eh8⟩ := grd_some eg7
        refine tw_iald (r := (29, 0)) C (ia_of rfl (by decide)) hb8 dX9_type_58 ?_
        refine tw_iconst (v := 1) C dX9_type_59 (by decide) ?_
        refine tw_iadd C dX9_type_60 ?_
        obtain ⟨hb9, eh9⟩ := grd_some eh8
        obtain ⟨σ2, es10, eg10⟩ := bnd_ex eh9
        refine tw_iast (r := (29, 0)) C (wa_of rfl (by decide) (by decide)) hb9 dX9_type_61 ?_
        rw [es10]
        refine tw_aload_n (i := 0) (z := 0) (r := (9, 0)) C dX9_type_62 rfl rfl ?_
        refine tw_getR (g := 31) (z := 0) (j' := 0) C fl_RX9_16 rfl (wcells_mem (f := 9) (j := 0) (by decide) (by decide)) rfl rfl dX9_type_63 ?_
        refine tw_iload_n (i := 1) (z := 1) C dX9_type_66 rfl rfl ?_
        refine tw_iconst (v := 0) C dX9_type_67 (by decide) ?_
        obtain ⟨hb11, eh11⟩ := grd_some eg10
        obtain ⟨σ3, es12, eg12⟩ := bnd_ex eh11
        refine tw_zast (r := (31, 0)) C rfl (wcells_mem (f := 31) (j := 0) (by decide) (by decide)) hb11 dX9_type_68 ?_
        rw [es12]
        refine tw_aload_n (i := 0) (z := 0) (r := (9, 0)) C dX9_type_69 rfl rfl ?_
        refine tw_getR (g := 29) (z := 0) (j' := 0) C fl_RX9_7 rfl (wcells_mem (f := 9) (j := 0) (by decide) (by decide)) rfl rfl dX9_type_70 ?_
        refine tw_iload_n (i := 1) (z := 1) C dX9_type_73 rfl rfl ?_
        obtain ⟨hb13, eh13⟩ := grd_some eg12
        refine tw_iald (r := (29, 0)) C (ia_of rfl (by decide)) hb13 dX9_type_74 ?_
        obtain ⟨rfl, rfl⟩ := pj2 (Option.some.inj eh13)
        exact tw_iret C hK rfl rfl dX9_type_75
      · have hf4 := ite_t hc4 eh3
        refine tw_bipush (v := (-4)) C dX9_type_32 (by decide) ?_
        obtain ⟨rfl, rfl⟩ := pj2 (Option.some.inj hf4)
        exact tw_iret C hK rfl rfl dX9_type_34
    · have hf2 := ite_f (b2i_z hc2) hf1
      refine tw_bipush (v := (-2)) C dX9_type_18 (by decide) ?_
      obtain ⟨rfl, rfl⟩ := pj2 (Option.some.inj hf2)
      exact tw_iret C hK rfl rfl dX9_type_20

set_option maxRecDepth 20000 in
def fX9_wipe (σ : St) (a1 : Int32) : Option (Int32 × St) :=
  if (fX9_isCode a1) = true then
    grd (inb a1 11) (
    bnd (σ (29, 0) (tn a1)) (fun x1 =>
    grd (inb a1 11) (bnd (su σ (29, 0) (tn a1) (0 : Int32)) (fun σ1 =>
    grd (inb a1 11) (bnd (su σ1 (31, 0) (tn a1) (nbo (0 : Int32))) (fun σ2 =>
    some (x1, σ2)))))))
  else
    some ((-2 : Int32), σ)
set_option maxRecDepth 20000 in
set_option maxHeartbeats 4000000 in
theorem kX9_wipe (G : Gx) (d : Nat) (hdp : 3 ≤ d) (σ : St) (a1 : Int32)  {v0 : Int32} {σ' : St} (h : fX9_wipe σ a1 = some (v0, σ')) : MS G d yX9_wipe cX9_wipe 3 (some .int) [.ref (G.2.1 (9, 0)), .int a1] σ (some (.int v0)) σ' := by
  refine MS_of (by decide) (Nat.le_of_ble_eq_true rfl) rfl (fun K hG hnL C hR hK => ?_) (by omega)
  subst hG
  show TW K 0 [(0, rv K (9, 0)), (1, .int a1)] [] σ
  unfold fX9_wipe at h
  refine tw_iload_n (i := 1) (z := 1) C dX9_wipe_0 rfl rfl ?_
  refine tw_callS (As := [.int a1]) (rest := []) C hR (kX9_isCode K.1 _ (by omega) σ a1  rfl) mi_X9_isCode st_X9_isCode ml_RX9_110 rfl rfl (Nat.le_of_ble_eq_true rfl) dX9_wipe_1 ?_
  show TW K 4 [(0, rv K (9, 0)), (1, .int a1)] [.int (b2i (fX9_isCode a1))] σ
  refine tw_if_ne (tgt := 10) C dX9_wipe_4 (by decide) (fun hc1 => ?_) (fun hc1 => ?_)
  · have ht1 := ite_t (b2i_nz hc1) h
    refine tw_aload_n (i := 0) (z := 0) (r := (9, 0)) C dX9_wipe_10 rfl rfl ?_
    refine tw_getR (g := 29) (z := 0) (j' := 0) C fl_RX9_7 rfl (wcells_mem (f := 9) (j := 0) (by decide) (by decide)) rfl rfl dX9_wipe_11 ?_
    refine tw_iload_n (i := 1) (z := 1) C dX9_wipe_14 rfl rfl ?_
    obtain ⟨hb2, eh2⟩ := grd_some ht1
    refine tw_iald (r := (29, 0)) C (ia_of rfl (by decide)) hb2 dX9_wipe_15 ?_
    obtain ⟨x1, ex3, eh3⟩ := bnd_ex eh2
    refine tw_topi ex3.symm ?_
    refine tw_istore_n (lv' := [(0, rv K (9, 0)), (1, .int a1), (2, .int x1)]) C [1, 2, 0] dX9_wipe_16 rfl (by rw [hnL]; decide) rfl ?_
    refine tw_aload_n (i := 0) (z := 0) (r := (9, 0)) C dX9_wipe_17 rfl rfl ?_
    refine tw_getR (g := 29) (z := 0) (j' := 0) C fl_RX9_7 rfl (wcells_mem (f := 9) (j := 0) (by decide) (by decide)) rfl rfl dX9_wipe_18 ?_
    refine tw_iload_n (i := 1) (z := 1) C dX9_wipe_21 rfl rfl ?_
    refine tw_iconst (v := 0) C dX9_wipe_22 (by decide) ?_
    obtain ⟨hb4, eh4⟩ := grd_some eh3
    obtain ⟨σ1, es5, eg5⟩ := bnd_ex eh4
    refine tw_iast (r := (29, 0)) C (wa_of rfl (by decide) (by decide)) hb4 dX9_wipe_23 ?_
    rw [es5]
    refine tw_aload_n (i := 0) (z := 0) (r := (9, 0)) C dX9_wipe_24 rfl rfl ?_
    refine tw_getR (g := 31) (z := 0) (j' := 0) C fl_RX9_16 rfl (wcells_mem (f := 9) (j := 0) (by decide) (by decide)) rfl rfl dX9_wipe_25 ?_
    refine tw_iload_n (i := 1) (z := 1) C dX9_wipe_28 rfl rfl ?_
    refine tw_iconst (v := 0) C dX9_wipe_29 (by decide) ?_
    obtain ⟨hb6, eh6⟩ := grd_some eg5
    obtain ⟨σ2, es7, eg7⟩ := bnd_ex eh6
    refine tw_zast (r := (31, 0)) C rfl (wcells_mem (f := 31) (j := 0) (by decide) (by decide)) hb6 dX9_wipe_30 ?_
    rw [es7]
    refine tw_iload_n (i := 2) (z := 2) C dX9_wipe_31 rfl rfl ?_
    obtain ⟨rfl, rfl⟩ := pj2 (Option.some.inj eg7)
    exact tw_iret C hK rfl rfl dX9_wipe_32
  · have hf1 := ite_f (b2i_z hc1) h
    refine tw_bipush (v := (-2)) C dX9_wipe_7 (by decide) ?_
    obtain ⟨rfl, rfl⟩ := pj2 (Option.some.inj hf1)
    exact tw_iret C hK rfl rfl dX9_wipe_9

set_option maxRecDepth 20000 in
def fX9_byteNow (σ : St)  : Option (Int32) :=
  grd (inb (σ (9, 0) 6) 11) (
  if (σ (29, 0) (tn (σ (9, 0) 6))) ≤ (σ (9, 0) 7) then
    some (-1 : Int32)
  else
    grd (inb (((80 : Int32) * (σ (9, 0) 6)) + (σ (9, 0) 7)) 880) (
    some (σ (30, 0) (tn (((80 : Int32) * (σ (9, 0) 6)) + (σ (9, 0) 7))))))
set_option maxRecDepth 20000 in
set_option maxHeartbeats 4000000 in
theorem kX9_byteNow (G : Gx) (d : Nat) (hdp : 1 ≤ d) (σ : St)   {v0 : Int32} (h : fX9_byteNow σ  = some v0) : MS G d yX9_byteNow cX9_byteNow 1 (some .int) [.ref (G.2.1 (9, 0))] σ (some (.int v0)) σ := by
  refine MS_of (by decide) (Nat.le_of_ble_eq_true rfl) rfl (fun K hG hnL C hR hK => ?_) (by omega)
  subst hG
  show TW K 0 [(0, rv K (9, 0))] [] σ
  unfold fX9_byteNow at h
  refine tw_aload_n (i := 0) (z := 0) (r := (9, 0)) C dX9_byteNow_0 rfl rfl ?_
  refine tw_getI C fl_RX9_114 rfl (wcells_mem (f := 9) (j := 0) (by decide) (by decide)) rfl dX9_byteNow_1 ?_
  refine tw_aload_n (i := 0) (z := 0) (r := (9, 0)) C dX9_byteNow_4 rfl rfl ?_
  refine tw_getR (g := 29) (z := 0) (j' := 0) C fl_RX9_7 rfl (wcells_mem (f := 9) (j := 0) (by decide) (by decide)) rfl rfl dX9_byteNow_5 ?_
  refine tw_aload_n (i := 0) (z := 0) (r := (9, 0)) C dX9_byteNow_8 rfl rfl ?_
  refine tw_getI C fl_RX9_117 rfl (wcells_mem (f := 9) (j := 0) (by decide) (by decide)) rfl dX9_byteNow_9 ?_
  obtain ⟨hb1, eh1⟩ := grd_some h
  refine tw_iald (r := (29, 0)) C (ia_of rfl (by decide)) hb1 dX9_byteNow_12 ?_
  refine tw_ic_ge (tgt := 36) C dX9_byteNow_13 (by decide) (fun hc2 => ?_) (fun hc2 => ?_)
  · have ht2 := ite_t hc2 eh1
    refine tw_iconst (v := (-1)) C dX9_byteNow_36 (by decide) ?_
    obtain rfl := (Option.some.inj ht2)
    exact tw_iret C hK rfl rfl dX9_byteNow_37
  · have hf2 := ite_f hc2 eh1
    refine tw_aload_n (i := 0) (z := 0) (r := (9, 0)) C dX9_byteNow_16 rfl rfl ?_
    refine tw_getR (g := 30) (z := 0) (j' := 0) C fl_RX9_13 rfl (wcells_mem (f := 9) (j := 0) (by decide) (by decide)) rfl rfl dX9_byteNow_17 ?_
    refine tw_bipush (v := 80) C dX9_byteNow_20 (by decide) ?_
    refine tw_aload_n (i := 0) (z := 0) (r := (9, 0)) C dX9_byteNow_22 rfl rfl ?_
    refine tw_getI C fl_RX9_117 rfl (wcells_mem (f := 9) (j := 0) (by decide) (by decide)) rfl dX9_byteNow_23 ?_
    refine tw_imul C dX9_byteNow_26 ?_
    refine tw_aload_n (i := 0) (z := 0) (r := (9, 0)) C dX9_byteNow_27 rfl rfl ?_
    refine tw_getI C fl_RX9_114 rfl (wcells_mem (f := 9) (j := 0) (by decide) (by decide)) rfl dX9_byteNow_28 ?_
    refine tw_iadd C dX9_byteNow_31 ?_
    obtain ⟨hb3, eh3⟩ := grd_some hf2
    refine tw_iald (r := (30, 0)) C (ia_of rfl (by decide)) hb3 dX9_byteNow_32 ?_
    refine tw_goto (tgt := 37) C dX9_byteNow_33 (by decide) ?_
    obtain rfl := (Option.some.inj eh3)
    exact tw_iret C hK rfl rfl dX9_byteNow_37

set_option maxRecDepth 20000 in
def fX9_figures (σ : St) (a1 : Int32) (a2 : Int32) (a3 : Int32) : Option (Int32 × St) :=
  bnd (σ (9, 0) 7) (fun x1 =>
  obi (lpF (fun (q3 : Int32 × St) => match q3 with
  | (x3, σ2) =>
  if (σ2 (9, 0) 8) = (-1 : Int32) then
    if (x1 + a1) ≤ (σ2 (9, 0) 7) then
      some (.inr ((x3, σ2)))
    else
      obi (fX9_byteNow σ2) (fun x4 =>
      if x4 < (48 : Int32) then
        some (.inr ((x3, σ2)))
      else
        obi (fX9_byteNow σ2) (fun x5 =>
        if (57 : Int32) < x5 then
          some (.inr ((x3, σ2)))
        else
          obi (fX9_byteNow σ2) (fun x6 =>
          bnd ((((10 : Int32) * x3) + x6) - (48 : Int32)) (fun x7 =>
          bnd (su σ2 (9, 0) 7 ((σ2 (9, 0) 7) + (1 : Int32))) (fun σ3 =>
          some (.inl (x7, σ3)))))))
  else
    some (.inr ((x3, σ2)))) ((0 : Int32), σ)) (fun (x2, σ1) =>
  if (σ1 (9, 0) 8) = (-1 : Int32) then
    bj (if (σ1 (9, 0) 7) = x1 then
      some (.inr ())
    else
      if (fX9_in x2 a2 a3) = true then
        some (.inl (x2, σ1))
      else
        some (.inr ())) (fun _ =>
    bnd (su σ1 (9, 0) 8 x1) (fun σ4 =>
    some (x2, σ4)))
  else
    some (x2, σ1)))
set_option maxRecDepth 20000 in
set_option maxHeartbeats 4000000 in
theorem kX9_figures (G : Gx) (d : Nat) (hdp : 2 ≤ d) (σ : St) (a1 : Int32) (a2 : Int32) (a3 : Int32)  {v0 : Int32} {σ' : St} (h : fX9_figures σ a1 a2 a3 = some (v0, σ')) : MS G d yX9_figures cX9_figures 6 (some .int) [.ref (G.2.1 (9, 0)), .int a1, .int a2, .int a3] σ (some (.int v0)) σ' := by
  refine MS_of (by decide) (Nat.le_of_ble_eq_true rfl) rfl (fun K hG hnL C hR hK => ?_) (by omega)
  subst hG
  show TW K 0 [(0, rv K (9, 0)), (1, .int a1), (2, .int a2), (3, .int a3)] [] σ
  unfold fX9_figures at h
  refine tw_aload_n (i := 0) (z := 0) (r := (9, 0)) C dX9_figures_0 rfl rfl ?_
  refine tw_getI C fl_RX9_114 rfl (wcells_mem (f := 9) (j := 0) (by decide) (by decide)) rfl dX9_figures_1 ?_
  obtain ⟨x1, ex1, eh1⟩ := bnd_ex h
  refine tw_topi ex1.symm ?_
  refine tw_istore (lv' := [(0, rv K (9, 0)), (1, .int a1), (2, .int a2), (3, .int a3), (4, .int x1)]) C [1, 2, 3, 4, 0] dX9_figures_4 (by rw [hnL]; decide) rfl ?_
  refine tw_iconst (v := 0) C dX9_figures_6 (by decide) ?_
  refine tw_istore (lv' := [(0, rv K (9, 0)), (1, .int a1), (2, .int a2), (3, .int a3), (4, .int x1), (5, .int (0 : Int32))]) C [1, 2, 3, 4, 5, 0] dX9_figures_7 (by rw [hnL]; decide) rfl ?_
  obtain ⟨⟨x2, σ1⟩, hx2, hq2⟩ := obi_some eh1
  have hJ2 : TW K 74 [(0, rv K (9, 0)), (2, .int a2), (3, .int a3), (4, .int x1), (5, .int x2)] [] σ1 := by
    refine tw_aload_n (i := 0) (z := 0) (r := (9, 0)) C dX9_figures_74 rfl rfl ?_
    refine tw_getI C fl_RX9_120 rfl (wcells_mem (f := 9) (j := 0) (by decide) (by decide)) rfl dX9_figures_75 ?_
    refine tw_iconst (v := (-1)) C dX9_figures_78 (by decide) ?_
    refine tw_ic_ne (tgt := 107) C dX9_figures_79 (by decide) (fun hc17 => ?_) (fun hc17 => ?_)
    · have ht17 := ite_f hc17 hq2
      refine tw_iload (i := 5) (z := 4) C dX9_figures_107 rfl ?_
      obtain ⟨rfl, rfl⟩ := pj2 (Option.some.inj ht17)
      exact tw_iret C hK rfl rfl dX9_figures_109
    · have hf17 := ite_t hc17 hq2
      refine tw_aload_n (i := 0) (z := 0) (r := (9, 0)) C dX9_figures_82 rfl rfl ?_
      refine tw_getI C fl_RX9_114 rfl (wcells_mem (f := 9) (j := 0) (by decide) (by decide)) rfl dX9_figures_83 ?_
      refine tw_iload (i := 4) (z := 3) C dX9_figures_86 rfl ?_
      obtain ⟨y18, hx18, hy18⟩ := bj_some hf17
      have hJ18 : y18 = .inr () → TW K 101 [(0, rv K (9, 0)), (4, .int x1), (5, .int x2)] [] σ1 := by
        intro  ey18
        have hq18 := bj_r ey18 hy18
        refine tw_aload_n (i := 0) (z := 0) (r := (9, 0)) C dX9_figures_101 rfl rfl ?_
        refine tw_iload (i := 4) (z := 1) C dX9_figures_102 rfl ?_
        obtain ⟨σ4, es22, eh22⟩ := bnd_ex hq18
        refine tw_put C fl_RX9_120 (fun q hq => by cases hq; rfl) rfl (wcells_mem (f := 9) (j := 0) (by decide) (by decide)) rfl rfl rfl dX9_figures_104 ?_
        rw [es22]
        refine tw_iload (i := 5) (z := 2) C dX9_figures_107 rfl ?_
        obtain ⟨rfl, rfl⟩ := pj2 (Option.some.inj eh22)
        exact tw_iret C hK rfl rfl dX9_figures_109
      refine tw_ic_eq (tgt := 101) C dX9_figures_88 (by decide) (fun hc19 => ?_) (fun hc19 => ?_)
      · have ht19 := ite_t hc19 hx18
        refine tw_sub [0, 3, 4] rfl ?_
        exact hJ18 (Option.some.inj ht19).symm
      · have hf19 := ite_f hc19 hx18
        refine tw_iload (i := 5) (z := 4) C dX9_figures_91 rfl ?_
        refine tw_iload_n (i := 2) (z := 1) C dX9_figures_93 rfl rfl ?_
        refine tw_iload_n (i := 3) (z := 2) C dX9_figures_94 rfl rfl ?_
        refine tw_callS (As := [.int x2, .int a2, .int a3]) (rest := []) C hR (kX9_in K.1 _ (by omega) σ1 x2 a2 a3  rfl) mi_X9_in st_X9_in ml_RX9_106 rfl rfl (Nat.le_of_ble_eq_true rfl) dX9_figures_95 ?_
        show TW K 98 [(0, rv K (9, 0)), (2, .int a2), (3, .int a3), (4, .int x1), (5, .int x2)] [.int (b2i (fX9_in x2 a2 a3))] σ1
        refine tw_if_ne (tgt := 107) C dX9_figures_98 (by decide) (fun hc20 => ?_) (fun hc20 => ?_)
        · have ht20 := ite_t (b2i_nz hc20) hf19
          refine tw_iload (i := 5) (z := 4) C dX9_figures_107 rfl ?_
          have e21 := bj_l ht20 hy18
          obtain ⟨rfl, rfl⟩ := pj2 (Option.some.inj e21)
          exact tw_iret C hK rfl rfl dX9_figures_109
        · have hf20 := ite_f (b2i_z hc20) hf19
          refine tw_sub [0, 3, 4] rfl ?_
          exact hJ18 (Option.some.inj hf20).symm
  refine lpF_ct (G := fun (q : Int32 × St) => match q with | (x3, σ2) => TW K 9 [(0, rv K (9, 0)), (1, .int a1), (2, .int a2), (3, .int a3), (4, .int x1), (5, .int x3)] [] σ2) ?_ hx2
  rintro ⟨x3, σ2⟩ w3 hx3 hk3
  show TW K 9 [(0, rv K (9, 0)), (1, .int a1), (2, .int a2), (3, .int a3), (4, .int x1), (5, .int x3)] [] σ2
  refine tw_aload_n (i := 0) (z := 0) (r := (9, 0)) C dX9_figures_9 rfl rfl ?_
  refine tw_getI C fl_RX9_120 rfl (wcells_mem (f := 9) (j := 0) (by decide) (by decide)) rfl dX9_figures_10 ?_
  refine tw_iconst (v := (-1)) C dX9_figures_13 (by decide) ?_
  refine tw_ic_ne (tgt := 74) C dX9_figures_14 (by decide) (fun hc4 => ?_) (fun hc4 => ?_)
  · have ht4 := ite_f hc4 hx3
    refine tw_sub [0, 2, 3, 4, 5] rfl ?_
    have e5 := lp_x ht4 hk3
    obtain ⟨rfl, rfl⟩ := pj2 (Option.some.inj e5)
    exact hJ2
  · have hf4 := ite_t hc4 hx3
    refine tw_aload_n (i := 0) (z := 0) (r := (9, 0)) C dX9_figures_17 rfl rfl ?_
    refine tw_getI C fl_RX9_114 rfl (wcells_mem (f := 9) (j := 0) (by decide) (by decide)) rfl dX9_figures_18 ?_
    refine tw_iload (i := 4) (z := 4) C dX9_figures_21 rfl ?_
    refine tw_iload_n (i := 1) (z := 1) C dX9_figures_23 rfl rfl ?_
    refine tw_iadd C dX9_figures_24 ?_
    refine tw_ic_ge (tgt := 74) C dX9_figures_25 (by decide) (fun hc6 => ?_) (fun hc6 => ?_)
    · have ht6 := ite_t hc6 hf4
      refine tw_sub [0, 2, 3, 4, 5] rfl ?_
      have e7 := lp_x ht6 hk3
      obtain ⟨rfl, rfl⟩ := pj2 (Option.some.inj e7)
      exact hJ2
    · have hf6 := ite_f hc6 hf4
      refine tw_aload_n (i := 0) (z := 0) (r := (9, 0)) C dX9_figures_28 rfl rfl ?_
      obtain ⟨x4, hv8, eh8⟩ := obi_some hf6
      refine tw_callV (As := []) (rest := []) (r := (9, 0)) C hR (kX9_byteNow K.1 _ (by omega) σ2   hv8) mi_X9_byteNow is_X9_byteNow se_X9_byteNow ml_RX9_123 (wcells_mem (f := 9) (j := 0) (by decide) (by decide)) rfl rfl rfl rfl (Nat.le_of_ble_eq_true rfl) dX9_figures_29 ?_
      show TW K 32 [(0, rv K (9, 0)), (1, .int a1), (2, .int a2), (3, .int a3), (4, .int x1), (5, .int x3)] [.int x4] σ2
      refine tw_bipush (v := 48) C dX9_figures_32 (by decide) ?_
      refine tw_ic_lt (tgt := 74) C dX9_figures_34 (by decide) (fun hc9 => ?_) (fun hc9 => ?_)
      · have ht9 := ite_t hc9 eh8
        refine tw_sub [0, 2, 3, 4, 5] rfl ?_
        have e10 := lp_x ht9 hk3
        obtain ⟨rfl, rfl⟩ := pj2 (Option.some.inj e10)
        exact hJ2
      · have hf9 := ite_f hc9 eh8
        refine tw_aload_n (i := 0) (z := 0) (r := (9, 0)) C dX9_figures_37 rfl rfl ?_
        obtain ⟨x5, hv11, eh11⟩ := obi_some hf9
        refine tw_callV (As := []) (rest := []) (r := (9, 0)) C hR (kX9_byteNow K.1 _ (by omega) σ2   hv11) mi_X9_byteNow is_X9_byteNow se_X9_byteNow ml_RX9_123 (wcells_mem (f := 9) (j := 0) (by decide) (by decide)) rfl rfl rfl rfl (Nat.le_of_ble_eq_true rfl) dX9_figures_38 ?_
        show TW K 41 [(0, rv K (9, 0)), (1, .int a1), (2, .int a2), (3, .int a3), (4, .int x1), (5, .int x3)] [.int x5] σ2
        refine tw_bipush (v := 57) C dX9_figures_41 (by decide) ?_
        refine tw_ic_gt (tgt := 74) C dX9_figures_43 (by decide) (fun hc12 => ?_) (fun hc12 => ?_)
        · have ht12 := ite_t hc12 eh11
          refine tw_sub [0, 2, 3, 4, 5] rfl ?_
          have e13 := lp_x ht12 hk3
          obtain ⟨rfl, rfl⟩ := pj2 (Option.some.inj e13)
          exact hJ2
        · have hf12 := ite_f hc12 eh11
          refine tw_bipush (v := 10) C dX9_figures_46 (by decide) ?_
          refine tw_iload (i := 5) (z := 5) C dX9_figures_48 rfl ?_
          refine tw_imul C dX9_figures_50 ?_
          refine tw_aload_n (i := 0) (z := 0) (r := (9, 0)) C dX9_figures_51 rfl rfl ?_
          obtain ⟨x6, hv14, eh14⟩ := obi_some hf12
          refine tw_callV (As := []) (rest := [.int ((10 : Int32) * x3)]) (r := (9, 0)) C hR (kX9_byteNow K.1 _ (by omega) σ2   hv14) mi_X9_byteNow is_X9_byteNow se_X9_byteNow ml_RX9_123 (wcells_mem (f := 9) (j := 0) (by decide) (by decide)) rfl rfl rfl rfl (Nat.le_of_ble_eq_true rfl) dX9_figures_52 ?_
          show TW K 55 [(0, rv K (9, 0)), (1, .int a1), (2, .int a2), (3, .int a3), (4, .int x1), (5, .int x3)] [.int x6, .int ((10 : Int32) * x3)] σ2
          refine tw_iadd C dX9_figures_55 ?_
          refine tw_bipush (v := 48) C dX9_figures_56 (by decide) ?_
          refine tw_isub C dX9_figures_58 ?_
          obtain ⟨x7, ex15, eh15⟩ := bnd_ex eh14
          refine tw_topi ex15.symm ?_
          refine tw_istore (lv' := [(0, rv K (9, 0)), (1, .int a1), (2, .int a2), (3, .int a3), (4, .int x1), (5, .int x7)]) C [1, 2, 3, 4, 5, 0] dX9_figures_59 (by rw [hnL]; decide) rfl ?_
          refine tw_aload_n (i := 0) (z := 0) (r := (9, 0)) C dX9_figures_61 rfl rfl ?_
          refine tw_dup C dX9_figures_62 rfl ?_
          refine tw_getI C fl_RX9_114 rfl (wcells_mem (f := 9) (j := 0) (by decide) (by decide)) rfl dX9_figures_63 ?_
          refine tw_iconst (v := 1) C dX9_figures_66 (by decide) ?_
          refine tw_iadd C dX9_figures_67 ?_
          obtain ⟨σ3, es16, eh16⟩ := bnd_ex eh15
          refine tw_put C fl_RX9_114 (fun q hq => by cases hq; rfl) rfl (wcells_mem (f := 9) (j := 0) (by decide) (by decide)) rfl rfl rfl dX9_figures_68 ?_
          rw [es16]
          refine tw_goto (tgt := 9) C dX9_figures_71 (by decide) ?_
          have hz := lp_c eh16 hk3
          exact hz

set_option maxRecDepth 20000 in
def fX9_cellsTold (σ : St)  : Option (Int32 × St) :=
  if (σ (9, 0) 8) = (-1 : Int32) then
    obi (fX9_byteNow σ) (fun x1 =>
    if x1 < (48 : Int32) then
      some ((127 : Int32), σ)
    else
      obi (fX9_byteNow σ) (fun x2 =>
      if x2 ≤ (57 : Int32) then
        obi (fX9_figures σ (1 : Int32) (0 : Int32) (6 : Int32)) (fun (x3, σ1) =>
        obi (if (σ1 (9, 0) 8) = (-1 : Int32) then
          obi (fX9_byteNow σ1) (fun x4 =>
          if x4 = (45 : Int32) then
            some σ1
          else
            bnd (su σ1 (9, 0) 8 (σ1 (9, 0) 7)) (fun σ3 =>
            some σ3))
        else
          some σ1) (fun σ2 =>
        bnd (su σ2 (9, 0) 7 ((σ2 (9, 0) 7) + (1 : Int32))) (fun σ4 =>
        obi (fX9_figures σ4 (1 : Int32) x3 (6 : Int32)) (fun (x5, σ5) =>
        if (σ5 (9, 0) 8) = (-1 : Int32) then
          some (((2 : Int32) <<< (x5 &&& 31)) - ((1 : Int32) <<< (x3 &&& 31)), σ5)
        else
          some ((0 : Int32), σ5)))))
      else
        some ((127 : Int32), σ)))
  else
    some ((127 : Int32), σ)
set_option maxRecDepth 20000 in
set_option maxHeartbeats 4000000 in
theorem kX9_cellsTold (G : Gx) (d : Nat) (hdp : 3 ≤ d) (σ : St)   {v0 : Int32} {σ' : St} (h : fX9_cellsTold σ  = some (v0, σ')) : MS G d yX9_cellsTold cX9_cellsTold 3 (some .int) [.ref (G.2.1 (9, 0))] σ (some (.int v0)) σ' := by
  refine MS_of (by decide) (Nat.le_of_ble_eq_true rfl) rfl (fun K hG hnL C hR hK => ?_) (by omega)
  subst hG
  show TW K 0 [(0, rv K (9, 0))] [] σ
  unfold fX9_cellsTold at h
  refine tw_aload_n (i := 0) (z := 0) (r := (9, 0)) C dX9_cellsTold_0 rfl rfl ?_
  refine tw_getI C fl_RX9_120 rfl (wcells_mem (f := 9) (j := 0) (by decide) (by decide)) rfl dX9_cellsTold_1 ?_
  refine tw_iconst (v := (-1)) C dX9_cellsTold_4 (by decide) ?_
  refine tw_ic_ne (tgt := 26) C dX9_cellsTold_5 (by decide) (fun hc1 => ?_) (fun hc1 => ?_)
  · have ht1 := ite_f hc1 h
    refine tw_bipush (v := 127) C dX9_cellsTold_26 (by decide) ?_
    obtain ⟨rfl, rfl⟩ := pj2 (Option.some.inj ht1)
    exact tw_iret C hK rfl rfl dX9_cellsTold_28
  · have hf1 := ite_t hc1 h
    refine tw_aload_n (i := 0) (z := 0) (r := (9, 0)) C dX9_cellsTold_8 rfl rfl ?_
    obtain ⟨x1, hv2, eh2⟩ := obi_some hf1
    refine tw_callV (As := []) (rest := []) (r := (9, 0)) C hR (kX9_byteNow K.1 _ (by omega) σ   hv2) mi_X9_byteNow is_X9_byteNow se_X9_byteNow ml_RX9_123 (wcells_mem (f := 9) (j := 0) (by decide) (by decide)) rfl rfl rfl rfl (Nat.le_of_ble_eq_true rfl) dX9_cellsTold_9 ?_
    show TW K 12 [(0, rv K (9, 0))] [.int x1] σ
    refine tw_bipush (v := 48) C dX9_cellsTold_12 (by decide) ?_
    refine tw_ic_lt (tgt := 26) C dX9_cellsTold_14 (by decide) (fun hc3 => ?_) (fun hc3 => ?_)
    · have ht3 := ite_t hc3 eh2
      refine tw_bipush (v := 127) C dX9_cellsTold_26 (by decide) ?_
      obtain ⟨rfl, rfl⟩ := pj2 (Option.some.inj ht3)
      exact tw_iret C hK rfl rfl dX9_cellsTold_28
    · have hf3 := ite_f hc3 eh2
      refine tw_aload_n (i := 0) (z := 0) (r := (9, 0)) C dX9_cellsTold_17 rfl rfl ?_
      obtain ⟨x2, hv4, eh4⟩ := obi_some hf3
      refine tw_callV (As := []) (rest := []) (r := (9, 0)) C hR (kX9_byteNow K.1 _ (by omega) σ   hv4) mi_X9_byteNow is_X9_byteNow se_X9_byteNow ml_RX9_123 (wcells_mem (f := 9) (j := 0) (by decide) (by decide)) rfl rfl rfl rfl (Nat.le_of_ble_eq_true rfl) dX9_cellsTold_18 ?_
      show TW K 21 [(0, rv K (9, 0))] [.int x2] σ
      refine tw_bipush (v := 57) C dX9_cellsTold_21 (by decide) ?_
      refine tw_ic_le (tgt := 29) C dX9_cellsTold_23 (by decide) (fun hc5 => ?_) (fun hc5 => ?_)
      · have ht5 := ite_t hc5 eh4
        refine tw_aload_n (i := 0) (z := 0) (r := (9, 0)) C dX9_cellsTold_29 rfl rfl ?_
        refine tw_iconst (v := 1) C dX9_cellsTold_30 (by decide) ?_
        refine tw_iconst (v := 0) C dX9_cellsTold_31 (by decide) ?_
        refine tw_bipush (v := 6) C dX9_cellsTold_32 (by decide) ?_
        obtain ⟨⟨x3, σ1⟩, hv6, eh6⟩ := obi_some ht5
        refine tw_callV (As := [.int (1 : Int32), .int (0 : Int32), .int (6 : Int32)]) (rest := []) (r := (9, 0)) C hR (kX9_figures K.1 _ (by omega) _ (1 : Int32) (0 : Int32) (6 : Int32)  hv6) mi_X9_figures is_X9_figures se_X9_figures ml_RX9_127 (wcells_mem (f := 9) (j := 0) (by decide) (by decide)) rfl rfl rfl rfl (Nat.le_of_ble_eq_true rfl) dX9_cellsTold_34 ?_
        show TW K 37 [(0, rv K (9, 0))] [.int x3] σ1
        refine tw_istore_n (lv' := [(0, rv K (9, 0)), (1, .int x3)]) C [1, 0] dX9_cellsTold_37 rfl (by rw [hnL]; decide) rfl ?_
        refine tw_aload_n (i := 0) (z := 0) (r := (9, 0)) C dX9_cellsTold_38 rfl rfl ?_
        refine tw_getI C fl_RX9_120 rfl (wcells_mem (f := 9) (j := 0) (by decide) (by decide)) rfl dX9_cellsTold_39 ?_
        refine tw_iconst (v := (-1)) C dX9_cellsTold_42 (by decide) ?_
        obtain ⟨σ2, hx7, hq7⟩ := obi_some eh6
        have hJ7 : TW K 63 [(0, rv K (9, 0)), (1, .int x3)] [] σ2 := by
          refine tw_aload_n (i := 0) (z := 0) (r := (9, 0)) C dX9_cellsTold_63 rfl rfl ?_
          refine tw_dup C dX9_cellsTold_64 rfl ?_
          refine tw_getI C fl_RX9_114 rfl (wcells_mem (f := 9) (j := 0) (by decide) (by decide)) rfl dX9_cellsTold_65 ?_
          refine tw_iconst (v := 1) C dX9_cellsTold_68 (by decide) ?_
          refine tw_iadd C dX9_cellsTold_69 ?_
          obtain ⟨σ4, es12, eh12⟩ := bnd_ex hq7
          refine tw_put C fl_RX9_114 (fun q hq => by cases hq; rfl) rfl (wcells_mem (f := 9) (j := 0) (by decide) (by decide)) rfl rfl rfl dX9_cellsTold_70 ?_
          rw [es12]
          refine tw_aload_n (i := 0) (z := 0) (r := (9, 0)) C dX9_cellsTold_73 rfl rfl ?_
          refine tw_iconst (v := 1) C dX9_cellsTold_74 (by decide) ?_
          refine tw_iload_n (i := 1) (z := 1) C dX9_cellsTold_75 rfl rfl ?_
          refine tw_bipush (v := 6) C dX9_cellsTold_76 (by decide) ?_
          obtain ⟨⟨x5, σ5⟩, hv13, eh13⟩ := obi_some eh12
          refine tw_callV (As := [.int (1 : Int32), .int x3, .int (6 : Int32)]) (rest := []) (r := (9, 0)) C hR (kX9_figures K.1 _ (by omega) _ (1 : Int32) x3 (6 : Int32)  hv13) mi_X9_figures is_X9_figures se_X9_figures ml_RX9_127 (wcells_mem (f := 9) (j := 0) (by decide) (by decide)) rfl rfl rfl rfl (Nat.le_of_ble_eq_true rfl) dX9_cellsTold_78 ?_
          show TW K 81 [(0, rv K (9, 0)), (1, .int x3)] [.int x5] σ5
          refine tw_istore_n (lv' := [(0, rv K (9, 0)), (1, .int x3), (2, .int x5)]) C [1, 2, 0] dX9_cellsTold_81 rfl (by rw [hnL]; decide) rfl ?_
          refine tw_aload_n (i := 0) (z := 0) (r := (9, 0)) C dX9_cellsTold_82 rfl rfl ?_
          refine tw_getI C fl_RX9_120 rfl (wcells_mem (f := 9) (j := 0) (by decide) (by decide)) rfl dX9_cellsTold_83 ?_
          refine tw_iconst (v := (-1)) C dX9_cellsTold_86 (by decide) ?_
          refine tw_ic_ne (tgt := 100) C dX9_cellsTold_87 (by decide) (fun hc14 => ?_) (fun hc14 => ?_)
          · have ht14 := ite_f hc14 eh13
            refine tw_iconst (v := 0) C dX9_cellsTold_100 (by decide) ?_
            obtain ⟨rfl, rfl⟩ := pj2 (Option.some.inj ht14)
            exact tw_iret C hK rfl rfl dX9_cellsTold_101
          · have hf14 := ite_t hc14 eh13
            refine tw_iconst (v := 2) C dX9_cellsTold_90 (by decide) ?_
            refine tw_iload_n (i := 2) (z := 2) C dX9_cellsTold_91 rfl rfl ?_
            refine tw_ishl C dX9_cellsTold_92 ?_
            refine tw_iconst (v := 1) C dX9_cellsTold_93 (by decide) ?_
            refine tw_iload_n (i := 1) (z := 1) C dX9_cellsTold_94 rfl rfl ?_
            refine tw_ishl C dX9_cellsTold_95 ?_
            refine tw_isub C dX9_cellsTold_96 ?_
            refine tw_goto (tgt := 101) C dX9_cellsTold_97 (by decide) ?_
            obtain ⟨rfl, rfl⟩ := pj2 (Option.some.inj hf14)
            exact tw_iret C hK rfl rfl dX9_cellsTold_101
        refine tw_ic_ne (tgt := 63) C dX9_cellsTold_43 (by decide) (fun hc8 => ?_) (fun hc8 => ?_)
        · have ht8 := ite_f hc8 hx7
          obtain rfl := (Option.some.inj ht8)
          exact hJ7
        · have hf8 := ite_t hc8 hx7
          refine tw_aload_n (i := 0) (z := 0) (r := (9, 0)) C dX9_cellsTold_46 rfl rfl ?_
          obtain ⟨x4, hv9, eh9⟩ := obi_some hf8
          refine tw_callV (As := []) (rest := []) (r := (9, 0)) C hR (kX9_byteNow K.1 _ (by omega) σ1   hv9) mi_X9_byteNow is_X9_byteNow se_X9_byteNow ml_RX9_123 (wcells_mem (f := 9) (j := 0) (by decide) (by decide)) rfl rfl rfl rfl (Nat.le_of_ble_eq_true rfl) dX9_cellsTold_47 ?_
          show TW K 50 [(0, rv K (9, 0)), (1, .int x3)] [.int x4] σ1
          refine tw_bipush (v := 45) C dX9_cellsTold_50 (by decide) ?_
          refine tw_ic_eq (tgt := 63) C dX9_cellsTold_52 (by decide) (fun hc10 => ?_) (fun hc10 => ?_)
          · have ht10 := ite_t hc10 eh9
            obtain rfl := (Option.some.inj ht10)
            exact hJ7
          · have hf10 := ite_f hc10 eh9
            refine tw_aload_n (i := 0) (z := 0) (r := (9, 0)) C dX9_cellsTold_55 rfl rfl ?_
            refine tw_aload_n (i := 0) (z := 0) (r := (9, 0)) C dX9_cellsTold_56 rfl rfl ?_
            refine tw_getI C fl_RX9_114 rfl (wcells_mem (f := 9) (j := 0) (by decide) (by decide)) rfl dX9_cellsTold_57 ?_
            obtain ⟨σ3, es11, eh11⟩ := bnd_ex hf10
            refine tw_put C fl_RX9_120 (fun q hq => by cases hq; rfl) rfl (wcells_mem (f := 9) (j := 0) (by decide) (by decide)) rfl rfl rfl dX9_cellsTold_60 ?_
            rw [es11]
            obtain rfl := (Option.some.inj eh11)
            exact hJ7
      · have hf5 := ite_f hc5 eh4
        refine tw_bipush (v := 127) C dX9_cellsTold_26 (by decide) ?_
        obtain ⟨rfl, rfl⟩ := pj2 (Option.some.inj hf5)
        exact tw_iret C hK rfl rfl dX9_cellsTold_28

set_option maxRecDepth 20000 in
def fX9_readsPart (σ : St)  : Option (Int32 × St) :=
  bnd ((17 : Int32) * (σ (9, 0) 6)) (fun x1 =>
  obi (fX9_byteNow σ) (fun x2 =>
  bnd (σ (9, 0) 7) (fun x3 =>
  bnd (su σ (9, 0) 7 ((σ (9, 0) 7) + (1 : Int32))) (fun σ1 =>
  bj (if x2 = (121 : Int32) then
    some (.inr σ1)
  else
    if x2 = (110 : Int32) then
      some (.inr σ1)
    else
      if x2 = (103 : Int32) then
        bnd (σ1 (9, 0) 7) (fun x9 =>
        obi (fX9_figures σ1 (1 : Int32) (4 : Int32) (9 : Int32)) (fun (x10, σ8) =>
        bnd (if (σ8 (9, 0) 8) = (-1 : Int32) then
          if x10 = (4 : Int32) then
            σ8
          else
            if x10 = (8 : Int32) then
              σ8
            else
              if x10 = (9 : Int32) then
                σ8
              else
                bnd (su σ8 (9, 0) 8 x9) (fun σ10 =>
                σ10)
        else
          σ8) (fun σ9 =>
        obi (if (σ9 (9, 0) 8) = (-1 : Int32) then
          obi (fX9_byteNow σ9) (fun x11 =>
          if x11 = (61 : Int32) then
            some σ9
          else
            bnd (su σ9 (9, 0) 8 (σ9 (9, 0) 7)) (fun σ12 =>
            some σ12))
        else
          some σ9) (fun σ11 =>
        bnd (su σ11 (9, 0) 7 ((σ11 (9, 0) 7) + (1 : Int32))) (fun σ13 =>
        obi (fX9_figures σ13 (1 : Int32) (0 : Int32) (9 : Int32)) (fun (x12, σ14) =>
        if (σ14 (9, 0) 8) = (-1 : Int32) then
          bnd (if x10 = (4 : Int32) then
            (10 : Int32)
          else
            x10 + (3 : Int32)) (fun x13 =>
          grd (inb (x1 + x13) 187) (bnd (su σ14 (33, 0) (tn (x1 + x13)) x12) (fun σ15 =>
          some (.inl ((-1 : Int32), σ15)))))
        else
          some (.inl ((-1 : Int32), σ14))))))))
      else
        bnd (if x2 = (97 : Int32) then
          (13 : Int32)
        else
          if x2 = (107 : Int32) then
            (14 : Int32)
          else
            if x2 = (101 : Int32) then
              (15 : Int32)
            else
              if x2 = (116 : Int32) then
                (16 : Int32)
              else
                (-1 : Int32)) (fun x4 =>
        if x4 = (-1 : Int32) then
          bnd (su σ1 (9, 0) 8 x3) (fun σ7 =>
          some (.inl ((-1 : Int32), σ7)))
        else
          obi (if (15 : Int32) ≤ x4 then
            bnd (if x4 = (16 : Int32) then
              (1 : Int32)
            else
              (0 : Int32)) (fun x6 =>
            obi (fX9_figures σ1 (2 : Int32) x6 (99 : Int32)) (fun (x7, σ4) =>
            some (x7, σ4)))
          else
            obi (fX9_figures σ1 (1 : Int32) (0 : Int32) (2 : Int32)) (fun (x8, σ5) =>
            some (x8, σ5))) (fun (x5, σ3) =>
          grd (inb (x1 + x4) 187) (bnd (su σ3 (33, 0) (tn (x1 + x4)) x5) (fun σ6 =>
          some (.inl ((-1 : Int32), σ6))))))) (fun σ2 =>
  obi (fX9_figures σ2 (1 : Int32) (0 : Int32) (9 : Int32)) (fun (x14, σ16) =>
  obi (fX9_cellsTold σ16) (fun (x15, σ17) =>
  obi (if (σ17 (9, 0) 8) = (-1 : Int32) then
    obi (if x2 = (121 : Int32) then
      grd (inb (x1 + x14) 187) (
      some ((σ17 (33, 0) (tn (x1 + x14))) ||| x15))
    else
      grd (inb (x1 + x14) 187) (
      some ((σ17 (33, 0) (tn (x1 + x14))) &&& (x15 ^^^ (-1 : Int32))))) (fun x16 =>
    grd (inb (x1 + x14) 187) (bnd (su σ17 (33, 0) (tn (x1 + x14)) x16) (fun σ19 =>
    some σ19)))
  else
    some σ17) (fun σ18 =>
  if (σ18 (9, 0) 8) = (-1 : Int32) then
    some (((128 : Int32) * x14) + x15, σ18)
  else
    some ((-1 : Int32), σ18)))))))))
set_option maxRecDepth 20000 in
set_option maxHeartbeats 4000000 in
theorem kX9_readsPart (G : Gx) (d : Nat) (hdp : 4 ≤ d) (σ : St)   {v0 : Int32} {σ' : St} (h : fX9_readsPart σ  = some (v0, σ')) : MS G d yX9_readsPart cX9_readsPart 7 (some .int) [.ref (G.2.1 (9, 0))] σ (some (.int v0)) σ' := by
  refine MS_of (by decide) (Nat.le_of_ble_eq_true rfl) rfl (fun K hG hnL C hR hK => ?_) (by omega)
  subst hG
  show TW K 0 [(0, rv K (9, 0))] [] σ
  unfold fX9_readsPart at h
  refine tw_bipush (v := 17) C dX9_readsPart_0 (by decide) ?_
  refine tw_aload_n (i := 0) (z := 0) (r := (9, 0)) C dX9_readsPart_2 rfl rfl ?_
  refine tw_getI C fl_RX9_117 rfl (wcells_mem (f := 9) (j := 0) (by decide) (by decide)) rfl dX9_readsPart_3 ?_
  refine tw_imul C dX9_readsPart_6 ?_
  obtain ⟨x1, ex1, eh1⟩ := bnd_ex h
  refine tw_topi ex1.symm ?_
  refine tw_istore_n (lv' := [(0, rv K (9, 0)), (1, .int x1)]) C [1, 0] dX9_readsPart_7 rfl (by rw [hnL]; decide) rfl ?_
  refine tw_aload_n (i := 0) (z := 0) (r := (9, 0)) C dX9_readsPart_8 rfl rfl ?_
  obtain ⟨x2, hv2, eh2⟩ := obi_some eh1
  refine tw_callV (As := []) (rest := []) (r := (9, 0)) C hR (kX9_byteNow K.1 _ (by omega) σ   hv2) mi_X9_byteNow is_X9_byteNow se_X9_byteNow ml_RX9_123 (wcells_mem (f := 9) (j := 0) (by decide) (by decide)) rfl rfl rfl rfl (Nat.le_of_ble_eq_true rfl) dX9_readsPart_9 ?_
  show TW K 12 [(0, rv K (9, 0)), (1, .int x1)] [.int x2] σ
  refine tw_istore_n (lv' := [(0, rv K (9, 0)), (1, .int x1), (2, .int x2)]) C [1, 2, 0] dX9_readsPart_12 rfl (by rw [hnL]; decide) rfl ?_
  refine tw_aload_n (i := 0) (z := 0) (r := (9, 0)) C dX9_readsPart_13 rfl rfl ?_
  refine tw_getI C fl_RX9_114 rfl (wcells_mem (f := 9) (j := 0) (by decide) (by decide)) rfl dX9_readsPart_14 ?_
  obtain ⟨x3, ex3, eh3⟩ := bnd_ex eh2
  refine tw_topi ex3.symm ?_
  refine tw_istore_n (lv' := [(0, rv K (9, 0)), (1, .int x1), (2, .int x2), (3, .int x3)]) C [1, 2, 3, 0] dX9_readsPart_17 rfl (by rw [hnL]; decide) rfl ?_
  refine tw_aload_n (i := 0) (z := 0) (r := (9, 0)) C dX9_readsPart_18 rfl rfl ?_
  refine tw_dup C dX9_readsPart_19 rfl ?_
  refine tw_getI C fl_RX9_114 rfl (wcells_mem (f := 9) (j := 0) (by decide) (by decide)) rfl dX9_readsPart_20 ?_
  refine tw_iconst (v := 1) C dX9_readsPart_23 (by decide) ?_
  refine tw_iadd C dX9_readsPart_24 ?_
  obtain ⟨σ1, es4, eh4⟩ := bnd_ex eh3
  refine tw_put C fl_RX9_114 (fun q hq => by cases hq; rfl) rfl (wcells_mem (f := 9) (j := 0) (by decide) (by decide)) rfl rfl rfl dX9_readsPart_25 ?_
  rw [es4]
  refine tw_iload_n (i := 2) (z := 2) C dX9_readsPart_28 rfl rfl ?_
  refine tw_bipush (v := 121) C dX9_readsPart_29 (by decide) ?_
  obtain ⟨y5, hx5, hy5⟩ := bj_some eh4
  have hJ5 : ∀ (σ2 : St), y5 = .inr σ2 → TW K 40 [(0, rv K (9, 0)), (1, .int x1), (2, .int x2)] [] σ2 := by
    intro σ2 ey5
    have hq5 := bj_r ey5 hy5
    refine tw_aload_n (i := 0) (z := 0) (r := (9, 0)) C dX9_readsPart_40 rfl rfl ?_
    refine tw_iconst (v := 1) C dX9_readsPart_41 (by decide) ?_
    refine tw_iconst (v := 0) C dX9_readsPart_42 (by decide) ?_
    refine tw_bipush (v := 9) C dX9_readsPart_43 (by decide) ?_
    obtain ⟨⟨x14, σ16⟩, hv48, eh48⟩ := obi_some hq5
    refine tw_callV (As := [.int (1 : Int32), .int (0 : Int32), .int (9 : Int32)]) (rest := []) (r := (9, 0)) C hR (kX9_figures K.1 _ (by omega) _ (1 : Int32) (0 : Int32) (9 : Int32)  hv48) mi_X9_figures is_X9_figures se_X9_figures ml_RX9_127 (wcells_mem (f := 9) (j := 0) (by decide) (by decide)) rfl rfl rfl rfl (Nat.le_of_ble_eq_true rfl) dX9_readsPart_45 ?_
    show TW K 48 [(0, rv K (9, 0)), (1, .int x1), (2, .int x2)] [.int x14] σ16
    refine tw_istore (lv' := [(0, rv K (9, 0)), (1, .int x1), (2, .int x2), (4, .int x14)]) C [1, 2, 3, 0] dX9_readsPart_48 (by rw [hnL]; decide) rfl ?_
    refine tw_aload_n (i := 0) (z := 0) (r := (9, 0)) C dX9_readsPart_50 rfl rfl ?_
    obtain ⟨⟨x15, σ17⟩, hv49, eh49⟩ := obi_some eh48
    refine tw_callV (As := []) (rest := []) (r := (9, 0)) C hR (kX9_cellsTold K.1 _ (by omega) _   hv49) mi_X9_cellsTold is_X9_cellsTold se_X9_cellsTold ml_RX9_131 (wcells_mem (f := 9) (j := 0) (by decide) (by decide)) rfl rfl rfl rfl (Nat.le_of_ble_eq_true rfl) dX9_readsPart_51 ?_
    show TW K 54 [(0, rv K (9, 0)), (1, .int x1), (2, .int x2), (4, .int x14)] [.int x15] σ17
    refine tw_istore (lv' := [(0, rv K (9, 0)), (1, .int x1), (2, .int x2), (4, .int x14), (5, .int x15)]) C [1, 2, 3, 4, 0] dX9_readsPart_54 (by rw [hnL]; decide) rfl ?_
    refine tw_aload_n (i := 0) (z := 0) (r := (9, 0)) C dX9_readsPart_56 rfl rfl ?_
    refine tw_getI C fl_RX9_120 rfl (wcells_mem (f := 9) (j := 0) (by decide) (by decide)) rfl dX9_readsPart_57 ?_
    refine tw_iconst (v := (-1)) C dX9_readsPart_60 (by decide) ?_
    obtain ⟨σ18, hx50, hq50⟩ := obi_some eh49
    have hJ50 : TW K 108 [(0, rv K (9, 0)), (4, .int x14), (5, .int x15)] [] σ18 := by
      refine tw_aload_n (i := 0) (z := 0) (r := (9, 0)) C dX9_readsPart_108 rfl rfl ?_
      refine tw_getI C fl_RX9_120 rfl (wcells_mem (f := 9) (j := 0) (by decide) (by decide)) rfl dX9_readsPart_109 ?_
      refine tw_iconst (v := (-1)) C dX9_readsPart_112 (by decide) ?_
      refine tw_ic_ne (tgt := 128) C dX9_readsPart_113 (by decide) (fun hc58 => ?_) (fun hc58 => ?_)
      · have ht58 := ite_f hc58 hq50
        refine tw_iconst (v := (-1)) C dX9_readsPart_128 (by decide) ?_
        obtain ⟨rfl, rfl⟩ := pj2 (Option.some.inj ht58)
        exact tw_iret C hK rfl rfl dX9_readsPart_129
      · have hf58 := ite_t hc58 hq50
        refine tw_sipush (v := 128) C dX9_readsPart_116 (by decide) ?_
        refine tw_iload (i := 4) (z := 1) C dX9_readsPart_119 rfl ?_
        refine tw_imul C dX9_readsPart_121 ?_
        refine tw_iload (i := 5) (z := 2) C dX9_readsPart_122 rfl ?_
        refine tw_iadd C dX9_readsPart_124 ?_
        refine tw_goto (tgt := 129) C dX9_readsPart_125 (by decide) ?_
        obtain ⟨rfl, rfl⟩ := pj2 (Option.some.inj hf58)
        exact tw_iret C hK rfl rfl dX9_readsPart_129
    refine tw_ic_ne (tgt := 108) C dX9_readsPart_61 (by decide) (fun hc51 => ?_) (fun hc51 => ?_)
    · have ht51 := ite_f hc51 hx50
      refine tw_sub [0, 3, 4] rfl ?_
      obtain rfl := (Option.some.inj ht51)
      exact hJ50
    · have hf51 := ite_t hc51 hx50
      refine tw_aload_n (i := 0) (z := 0) (r := (9, 0)) C dX9_readsPart_64 rfl rfl ?_
      refine tw_getR (g := 33) (z := 0) (j' := 0) C fl_RX9_23 rfl (wcells_mem (f := 9) (j := 0) (by decide) (by decide)) rfl rfl dX9_readsPart_65 ?_
      refine tw_iload_n (i := 1) (z := 1) C dX9_readsPart_68 rfl rfl ?_
      refine tw_iload (i := 4) (z := 3) C dX9_readsPart_69 rfl ?_
      refine tw_iadd C dX9_readsPart_71 ?_
      refine tw_iload_n (i := 2) (z := 2) C dX9_readsPart_72 rfl rfl ?_
      refine tw_bipush (v := 121) C dX9_readsPart_73 (by decide) ?_
      obtain ⟨x16, hx52, hq52⟩ := obi_some hf51
      have hJ52 : TW K 107 [(0, rv K (9, 0)), (4, .int x14), (5, .int x15)] [.int x16, .int (x1 + x14), rv K (33, 0)] σ17 := by
        obtain ⟨hb56, eh56⟩ := grd_some hq52
        obtain ⟨σ19, es57, eg57⟩ := bnd_ex eh56
        refine tw_iast (r := (33, 0)) C (wa_of rfl (by decide) (by decide)) hb56 dX9_readsPart_107 ?_
        rw [es57]
        obtain rfl := (Option.some.inj eg57)
        exact hJ50
      refine tw_ic_ne (tgt := 93) C dX9_readsPart_75 (by decide) (fun hc53 => ?_) (fun hc53 => ?_)
      · have ht53 := ite_f hc53 hx52
        refine tw_aload_n (i := 0) (z := 0) (r := (9, 0)) C dX9_readsPart_93 rfl rfl ?_
        refine tw_getR (g := 33) (z := 0) (j' := 0) C fl_RX9_23 rfl (wcells_mem (f := 9) (j := 0) (by decide) (by decide)) rfl rfl dX9_readsPart_94 ?_
        refine tw_iload_n (i := 1) (z := 1) C dX9_readsPart_97 rfl rfl ?_
        refine tw_iload (i := 4) (z := 3) C dX9_readsPart_98 rfl ?_
        refine tw_iadd C dX9_readsPart_100 ?_
        obtain ⟨hb54, eh54⟩ := grd_some ht53
        refine tw_iald (r := (33, 0)) C (ia_of rfl (by decide)) hb54 dX9_readsPart_101 ?_
        refine tw_iload (i := 5) (z := 4) C dX9_readsPart_102 rfl ?_
        refine tw_iconst (v := (-1)) C dX9_readsPart_104 (by decide) ?_
        refine tw_ixor C dX9_readsPart_105 ?_
        refine tw_iand C dX9_readsPart_106 ?_
        refine tw_sub [0, 3, 4] rfl ?_
        obtain rfl := (Option.some.inj eh54)
        exact hJ52
      · have hf53 := ite_t hc53 hx52
        refine tw_aload_n (i := 0) (z := 0) (r := (9, 0)) C dX9_readsPart_78 rfl rfl ?_
        refine tw_getR (g := 33) (z := 0) (j' := 0) C fl_RX9_23 rfl (wcells_mem (f := 9) (j := 0) (by decide) (by decide)) rfl rfl dX9_readsPart_79 ?_
        refine tw_iload_n (i := 1) (z := 1) C dX9_readsPart_82 rfl rfl ?_
        refine tw_iload (i := 4) (z := 3) C dX9_readsPart_83 rfl ?_
        refine tw_iadd C dX9_readsPart_85 ?_
        obtain ⟨hb55, eh55⟩ := grd_some hf53
        refine tw_iald (r := (33, 0)) C (ia_of rfl (by decide)) hb55 dX9_readsPart_86 ?_
        refine tw_iload (i := 5) (z := 4) C dX9_readsPart_87 rfl ?_
        refine tw_ior C dX9_readsPart_89 ?_
        refine tw_goto (tgt := 107) C dX9_readsPart_90 (by decide) ?_
        refine tw_sub [0, 3, 4] rfl ?_
        obtain rfl := (Option.some.inj eh55)
        exact hJ52
  refine tw_ic_eq (tgt := 40) C dX9_readsPart_31 (by decide) (fun hc6 => ?_) (fun hc6 => ?_)
  · have ht6 := ite_t hc6 hx5
    refine tw_sub [0, 1, 2] rfl ?_
    exact hJ5 _ (Option.some.inj ht6).symm
  · have hf6 := ite_f hc6 hx5
    refine tw_iload_n (i := 2) (z := 2) C dX9_readsPart_34 rfl rfl ?_
    refine tw_bipush (v := 110) C dX9_readsPart_35 (by decide) ?_
    refine tw_ic_ne (tgt := 130) C dX9_readsPart_37 (by decide) (fun hc7 => ?_) (fun hc7 => ?_)
    · have ht7 := ite_f hc7 hf6
      refine tw_iload_n (i := 2) (z := 2) C dX9_readsPart_130 rfl rfl ?_
      refine tw_bipush (v := 103) C dX9_readsPart_131 (by decide) ?_
      refine tw_ic_ne (tgt := 265) C dX9_readsPart_133 (by decide) (fun hc8 => ?_) (fun hc8 => ?_)
      · have ht8 := ite_f hc8 ht7
        refine tw_iload_n (i := 2) (z := 2) C dX9_readsPart_265 rfl rfl ?_
        refine tw_bipush (v := 97) C dX9_readsPart_266 (by decide) ?_
        obtain ⟨x4, hx9, hq9⟩ := bnd_ex ht8
        have hJ9 : TW K 310 [(0, rv K (9, 0)), (1, .int x1), (3, .int x3)] [.int x4] σ1 := by
          refine tw_istore (lv' := [(0, rv K (9, 0)), (1, .int x1), (3, .int x3), (4, .int x4)]) C [1, 2, 3, 0] dX9_readsPart_310 (by rw [hnL]; decide) rfl ?_
          refine tw_iload (i := 4) (z := 3) C dX9_readsPart_312 rfl ?_
          refine tw_iconst (v := (-1)) C dX9_readsPart_314 (by decide) ?_
          refine tw_ic_ne (tgt := 325) C dX9_readsPart_315 (by decide) (fun hc14 => ?_) (fun hc14 => ?_)
          · have ht14 := ite_f hc14 hq9
            refine tw_iload (i := 4) (z := 3) C dX9_readsPart_325 rfl ?_
            refine tw_bipush (v := 15) C dX9_readsPart_327 (by decide) ?_
            obtain ⟨⟨x5, σ3⟩, hx15, hq15⟩ := obi_some ht14
            have hJ15 : TW K 361 [(0, rv K (9, 0)), (1, .int x1), (4, .int x4)] [.int x5] σ3 := by
              refine tw_istore (lv' := [(0, rv K (9, 0)), (1, .int x1), (4, .int x4), (5, .int x5)]) C [1, 2, 3, 0] dX9_readsPart_361 (by rw [hnL]; decide) rfl ?_
              refine tw_aload_n (i := 0) (z := 0) (r := (9, 0)) C dX9_readsPart_363 rfl rfl ?_
              refine tw_getR (g := 33) (z := 0) (j' := 0) C fl_RX9_23 rfl (wcells_mem (f := 9) (j := 0) (by decide) (by decide)) rfl rfl dX9_readsPart_364 ?_
              refine tw_iload_n (i := 1) (z := 1) C dX9_readsPart_367 rfl rfl ?_
              refine tw_iload (i := 4) (z := 2) C dX9_readsPart_368 rfl ?_
              refine tw_iadd C dX9_readsPart_370 ?_
              refine tw_iload (i := 5) (z := 3) C dX9_readsPart_371 rfl ?_
              obtain ⟨hb21, eh21⟩ := grd_some hq15
              obtain ⟨σ6, es22, eg22⟩ := bnd_ex eh21
              refine tw_iast (r := (33, 0)) C (wa_of rfl (by decide) (by decide)) hb21 dX9_readsPart_373 ?_
              rw [es22]
              refine tw_iconst (v := (-1)) C dX9_readsPart_374 (by decide) ?_
              have e23 := bj_l eg22 hy5
              obtain ⟨rfl, rfl⟩ := pj2 (Option.some.inj e23)
              exact tw_iret C hK rfl rfl dX9_readsPart_375
            refine tw_ic_ge (tgt := 342) C dX9_readsPart_329 (by decide) (fun hc16 => ?_) (fun hc16 => ?_)
            · have ht16 := ite_t hc16 hx15
              refine tw_aload_n (i := 0) (z := 0) (r := (9, 0)) C dX9_readsPart_342 rfl rfl ?_
              refine tw_iconst (v := 2) C dX9_readsPart_343 (by decide) ?_
              refine tw_iload (i := 4) (z := 3) C dX9_readsPart_344 rfl ?_
              refine tw_bipush (v := 16) C dX9_readsPart_346 (by decide) ?_
              obtain ⟨x6, hx17, hq17⟩ := bnd_ex ht16
              have hJ17 : TW K 356 [(0, rv K (9, 0)), (1, .int x1), (4, .int x4)] [.int x6, .int (2 : Int32), rv K (9, 0)] σ1 := by
                refine tw_bipush (v := 99) C dX9_readsPart_356 (by decide) ?_
                obtain ⟨⟨x7, σ4⟩, hv19, eh19⟩ := obi_some hq17
                refine tw_callV (As := [.int (2 : Int32), .int x6, .int (99 : Int32)]) (rest := []) (r := (9, 0)) C hR (kX9_figures K.1 _ (by omega) _ (2 : Int32) x6 (99 : Int32)  hv19) mi_X9_figures is_X9_figures se_X9_figures ml_RX9_127 (wcells_mem (f := 9) (j := 0) (by decide) (by decide)) rfl rfl rfl rfl (Nat.le_of_ble_eq_true rfl) dX9_readsPart_358 ?_
                show TW K 361 [(0, rv K (9, 0)), (1, .int x1), (4, .int x4)] [.int x7] σ4
                obtain ⟨rfl, rfl⟩ := pj2 (Option.some.inj eh19)
                exact hJ15
              refine tw_ic_ne (tgt := 355) C dX9_readsPart_348 (by decide) (fun hc18 => ?_) (fun hc18 => ?_)
              · have ht18 := ite_f hc18 hx17
                refine tw_iconst (v := 0) C dX9_readsPart_355 (by decide) ?_
                refine tw_sub [0, 1, 3] rfl ?_
                obtain rfl := ht18
                exact hJ17
              · have hf18 := ite_t hc18 hx17
                refine tw_iconst (v := 1) C dX9_readsPart_351 (by decide) ?_
                refine tw_goto (tgt := 356) C dX9_readsPart_352 (by decide) ?_
                refine tw_sub [0, 1, 3] rfl ?_
                obtain rfl := hf18
                exact hJ17
            · have hf16 := ite_f hc16 hx15
              refine tw_aload_n (i := 0) (z := 0) (r := (9, 0)) C dX9_readsPart_332 rfl rfl ?_
              refine tw_iconst (v := 1) C dX9_readsPart_333 (by decide) ?_
              refine tw_iconst (v := 0) C dX9_readsPart_334 (by decide) ?_
              refine tw_iconst (v := 2) C dX9_readsPart_335 (by decide) ?_
              obtain ⟨⟨x8, σ5⟩, hv20, eh20⟩ := obi_some hf16
              refine tw_callV (As := [.int (1 : Int32), .int (0 : Int32), .int (2 : Int32)]) (rest := []) (r := (9, 0)) C hR (kX9_figures K.1 _ (by omega) _ (1 : Int32) (0 : Int32) (2 : Int32)  hv20) mi_X9_figures is_X9_figures se_X9_figures ml_RX9_127 (wcells_mem (f := 9) (j := 0) (by decide) (by decide)) rfl rfl rfl rfl (Nat.le_of_ble_eq_true rfl) dX9_readsPart_336 ?_
              show TW K 339 [(0, rv K (9, 0)), (1, .int x1), (3, .int x3), (4, .int x4)] [.int x8] σ5
              refine tw_goto (tgt := 361) C dX9_readsPart_339 (by decide) ?_
              refine tw_sub [0, 1, 3] rfl ?_
              obtain ⟨rfl, rfl⟩ := pj2 (Option.some.inj eh20)
              exact hJ15
          · have hf14 := ite_t hc14 hq9
            refine tw_aload_n (i := 0) (z := 0) (r := (9, 0)) C dX9_readsPart_318 rfl rfl ?_
            refine tw_iload_n (i := 3) (z := 2) C dX9_readsPart_319 rfl rfl ?_
            obtain ⟨σ7, es24, eh24⟩ := bnd_ex hf14
            refine tw_put C fl_RX9_120 (fun q hq => by cases hq; rfl) rfl (wcells_mem (f := 9) (j := 0) (by decide) (by decide)) rfl rfl rfl dX9_readsPart_320 ?_
            rw [es24]
            refine tw_iconst (v := (-1)) C dX9_readsPart_323 (by decide) ?_
            have e25 := bj_l eh24 hy5
            obtain ⟨rfl, rfl⟩ := pj2 (Option.some.inj e25)
            exact tw_iret C hK rfl rfl dX9_readsPart_324
        refine tw_ic_ne (tgt := 276) C dX9_readsPart_268 (by decide) (fun hc10 => ?_) (fun hc10 => ?_)
        · have ht10 := ite_f hc10 hx9
          refine tw_iload_n (i := 2) (z := 2) C dX9_readsPart_276 rfl rfl ?_
          refine tw_bipush (v := 107) C dX9_readsPart_277 (by decide) ?_
          refine tw_ic_ne (tgt := 287) C dX9_readsPart_279 (by decide) (fun hc11 => ?_) (fun hc11 => ?_)
          · have ht11 := ite_f hc11 ht10
            refine tw_iload_n (i := 2) (z := 2) C dX9_readsPart_287 rfl rfl ?_
            refine tw_bipush (v := 101) C dX9_readsPart_288 (by decide) ?_
            refine tw_ic_ne (tgt := 298) C dX9_readsPart_290 (by decide) (fun hc12 => ?_) (fun hc12 => ?_)
            · have ht12 := ite_f hc12 ht11
              refine tw_iload_n (i := 2) (z := 2) C dX9_readsPart_298 rfl rfl ?_
              refine tw_bipush (v := 116) C dX9_readsPart_299 (by decide) ?_
              refine tw_ic_ne (tgt := 309) C dX9_readsPart_301 (by decide) (fun hc13 => ?_) (fun hc13 => ?_)
              · have ht13 := ite_f hc13 ht12
                refine tw_iconst (v := (-1)) C dX9_readsPart_309 (by decide) ?_
                refine tw_sub [0, 1, 3] rfl ?_
                obtain rfl := ht13
                exact hJ9
              · have hf13 := ite_t hc13 ht12
                refine tw_bipush (v := 16) C dX9_readsPart_304 (by decide) ?_
                refine tw_goto (tgt := 310) C dX9_readsPart_306 (by decide) ?_
                refine tw_sub [0, 1, 3] rfl ?_
                obtain rfl := hf13
                exact hJ9
            · have hf12 := ite_t hc12 ht11
              refine tw_bipush (v := 15) C dX9_readsPart_293 (by decide) ?_
              refine tw_goto (tgt := 310) C dX9_readsPart_295 (by decide) ?_
              refine tw_sub [0, 1, 3] rfl ?_
              obtain rfl := hf12
              exact hJ9
          · have hf11 := ite_t hc11 ht10
            refine tw_bipush (v := 14) C dX9_readsPart_282 (by decide) ?_
            refine tw_goto (tgt := 310) C dX9_readsPart_284 (by decide) ?_
            refine tw_sub [0, 1, 3] rfl ?_
            obtain rfl := hf11
            exact hJ9
        · have hf10 := ite_t hc10 hx9
          refine tw_bipush (v := 13) C dX9_readsPart_271 (by decide) ?_
          refine tw_goto (tgt := 310) C dX9_readsPart_273 (by decide) ?_
          refine tw_sub [0, 1, 3] rfl ?_
          obtain rfl := hf10
          exact hJ9
      · have hf8 := ite_t hc8 ht7
        refine tw_aload_n (i := 0) (z := 0) (r := (9, 0)) C dX9_readsPart_136 rfl rfl ?_
        refine tw_getI C fl_RX9_114 rfl (wcells_mem (f := 9) (j := 0) (by decide) (by decide)) rfl dX9_readsPart_137 ?_
        obtain ⟨x9, ex26, eh26⟩ := bnd_ex hf8
        refine tw_topi ex26.symm ?_
        refine tw_istore (lv' := [(0, rv K (9, 0)), (1, .int x1), (2, .int x2), (3, .int x3), (4, .int x9)]) C [1, 2, 3, 4, 0] dX9_readsPart_140 (by rw [hnL]; decide) rfl ?_
        refine tw_aload_n (i := 0) (z := 0) (r := (9, 0)) C dX9_readsPart_142 rfl rfl ?_
        refine tw_iconst (v := 1) C dX9_readsPart_143 (by decide) ?_
        refine tw_iconst (v := 4) C dX9_readsPart_144 (by decide) ?_
        refine tw_bipush (v := 9) C dX9_readsPart_145 (by decide) ?_
        obtain ⟨⟨x10, σ8⟩, hv27, eh27⟩ := obi_some eh26
        refine tw_callV (As := [.int (1 : Int32), .int (4 : Int32), .int (9 : Int32)]) (rest := []) (r := (9, 0)) C hR (kX9_figures K.1 _ (by omega) _ (1 : Int32) (4 : Int32) (9 : Int32)  hv27) mi_X9_figures is_X9_figures se_X9_figures ml_RX9_127 (wcells_mem (f := 9) (j := 0) (by decide) (by decide)) rfl rfl rfl rfl (Nat.le_of_ble_eq_true rfl) dX9_readsPart_147 ?_
        show TW K 150 [(0, rv K (9, 0)), (1, .int x1), (2, .int x2), (3, .int x3), (4, .int x9)] [.int x10] σ8
        refine tw_istore (lv' := [(0, rv K (9, 0)), (1, .int x1), (2, .int x2), (3, .int x3), (4, .int x9), (5, .int x10)]) C [1, 2, 3, 4, 5, 0] dX9_readsPart_150 (by rw [hnL]; decide) rfl ?_
        refine tw_aload_n (i := 0) (z := 0) (r := (9, 0)) C dX9_readsPart_152 rfl rfl ?_
        refine tw_getI C fl_RX9_120 rfl (wcells_mem (f := 9) (j := 0) (by decide) (by decide)) rfl dX9_readsPart_153 ?_
        refine tw_iconst (v := (-1)) C dX9_readsPart_156 (by decide) ?_
        obtain ⟨σ9, hx28, hq28⟩ := bnd_ex eh27
        have hJ28 : TW K 186 [(0, rv K (9, 0)), (1, .int x1), (5, .int x10)] [] σ9 := by
          refine tw_aload_n (i := 0) (z := 0) (r := (9, 0)) C dX9_readsPart_186 rfl rfl ?_
          refine tw_getI C fl_RX9_120 rfl (wcells_mem (f := 9) (j := 0) (by decide) (by decide)) rfl dX9_readsPart_187 ?_
          refine tw_iconst (v := (-1)) C dX9_readsPart_190 (by decide) ?_
          obtain ⟨σ11, hx34, hq34⟩ := obi_some hq28
          have hJ34 : TW K 211 [(0, rv K (9, 0)), (1, .int x1), (5, .int x10)] [] σ11 := by
            refine tw_aload_n (i := 0) (z := 0) (r := (9, 0)) C dX9_readsPart_211 rfl rfl ?_
            refine tw_dup C dX9_readsPart_212 rfl ?_
            refine tw_getI C fl_RX9_114 rfl (wcells_mem (f := 9) (j := 0) (by decide) (by decide)) rfl dX9_readsPart_213 ?_
            refine tw_iconst (v := 1) C dX9_readsPart_216 (by decide) ?_
            refine tw_iadd C dX9_readsPart_217 ?_
            obtain ⟨σ13, es39, eh39⟩ := bnd_ex hq34
            refine tw_put C fl_RX9_114 (fun q hq => by cases hq; rfl) rfl (wcells_mem (f := 9) (j := 0) (by decide) (by decide)) rfl rfl rfl dX9_readsPart_218 ?_
            rw [es39]
            refine tw_aload_n (i := 0) (z := 0) (r := (9, 0)) C dX9_readsPart_221 rfl rfl ?_
            refine tw_iconst (v := 1) C dX9_readsPart_222 (by decide) ?_
            refine tw_iconst (v := 0) C dX9_readsPart_223 (by decide) ?_
            refine tw_bipush (v := 9) C dX9_readsPart_224 (by decide) ?_
            obtain ⟨⟨x12, σ14⟩, hv40, eh40⟩ := obi_some eh39
            refine tw_callV (As := [.int (1 : Int32), .int (0 : Int32), .int (9 : Int32)]) (rest := []) (r := (9, 0)) C hR (kX9_figures K.1 _ (by omega) _ (1 : Int32) (0 : Int32) (9 : Int32)  hv40) mi_X9_figures is_X9_figures se_X9_figures ml_RX9_127 (wcells_mem (f := 9) (j := 0) (by decide) (by decide)) rfl rfl rfl rfl (Nat.le_of_ble_eq_true rfl) dX9_readsPart_226 ?_
            show TW K 229 [(0, rv K (9, 0)), (1, .int x1), (5, .int x10)] [.int x12] σ14
            refine tw_istore (lv' := [(0, rv K (9, 0)), (1, .int x1), (5, .int x10), (6, .int x12)]) C [1, 2, 3, 0] dX9_readsPart_229 (by rw [hnL]; decide) rfl ?_
            refine tw_aload_n (i := 0) (z := 0) (r := (9, 0)) C dX9_readsPart_231 rfl rfl ?_
            refine tw_getI C fl_RX9_120 rfl (wcells_mem (f := 9) (j := 0) (by decide) (by decide)) rfl dX9_readsPart_232 ?_
            refine tw_iconst (v := (-1)) C dX9_readsPart_235 (by decide) ?_
            refine tw_ic_ne (tgt := 263) C dX9_readsPart_236 (by decide) (fun hc41 => ?_) (fun hc41 => ?_)
            · have ht41 := ite_f hc41 eh40
              refine tw_iconst (v := (-1)) C dX9_readsPart_263 (by decide) ?_
              have e42 := bj_l ht41 hy5
              obtain ⟨rfl, rfl⟩ := pj2 (Option.some.inj e42)
              exact tw_iret C hK rfl rfl dX9_readsPart_264
            · have hf41 := ite_t hc41 eh40
              refine tw_aload_n (i := 0) (z := 0) (r := (9, 0)) C dX9_readsPart_239 rfl rfl ?_
              refine tw_getR (g := 33) (z := 0) (j' := 0) C fl_RX9_23 rfl (wcells_mem (f := 9) (j := 0) (by decide) (by decide)) rfl rfl dX9_readsPart_240 ?_
              refine tw_iload_n (i := 1) (z := 1) C dX9_readsPart_243 rfl rfl ?_
              refine tw_iload (i := 5) (z := 2) C dX9_readsPart_244 rfl ?_
              refine tw_iconst (v := 4) C dX9_readsPart_246 (by decide) ?_
              obtain ⟨x13, hx43, hq43⟩ := bnd_ex hf41
              have hJ43 : TW K 259 [(6, .int x12)] [.int x13, .int x1, rv K (33, 0)] σ14 := by
                refine tw_iadd C dX9_readsPart_259 ?_
                refine tw_iload (i := 6) (z := 0) C dX9_readsPart_260 rfl ?_
                obtain ⟨hb45, eh45⟩ := grd_some hq43
                obtain ⟨σ15, es46, eg46⟩ := bnd_ex eh45
                refine tw_iast (r := (33, 0)) C (wa_of rfl (by decide) (by decide)) hb45 dX9_readsPart_262 ?_
                rw [es46]
                refine tw_iconst (v := (-1)) C dX9_readsPart_263 (by decide) ?_
                have e47 := bj_l eg46 hy5
                obtain ⟨rfl, rfl⟩ := pj2 (Option.some.inj e47)
                exact tw_iret C hK rfl rfl dX9_readsPart_264
              refine tw_ic_ne (tgt := 255) C dX9_readsPart_247 (by decide) (fun hc44 => ?_) (fun hc44 => ?_)
              · have ht44 := ite_f hc44 hx43
                refine tw_iload (i := 5) (z := 2) C dX9_readsPart_255 rfl ?_
                refine tw_iconst (v := 3) C dX9_readsPart_257 (by decide) ?_
                refine tw_iadd C dX9_readsPart_258 ?_
                refine tw_sub [3] rfl ?_
                obtain rfl := ht44
                exact hJ43
              · have hf44 := ite_t hc44 hx43
                refine tw_bipush (v := 10) C dX9_readsPart_250 (by decide) ?_
                refine tw_goto (tgt := 259) C dX9_readsPart_252 (by decide) ?_
                refine tw_sub [3] rfl ?_
                obtain rfl := hf44
                exact hJ43
          refine tw_ic_ne (tgt := 211) C dX9_readsPart_191 (by decide) (fun hc35 => ?_) (fun hc35 => ?_)
          · have ht35 := ite_f hc35 hx34
            obtain rfl := (Option.some.inj ht35)
            exact hJ34
          · have hf35 := ite_t hc35 hx34
            refine tw_aload_n (i := 0) (z := 0) (r := (9, 0)) C dX9_readsPart_194 rfl rfl ?_
            obtain ⟨x11, hv36, eh36⟩ := obi_some hf35
            refine tw_callV (As := []) (rest := []) (r := (9, 0)) C hR (kX9_byteNow K.1 _ (by omega) σ9   hv36) mi_X9_byteNow is_X9_byteNow se_X9_byteNow ml_RX9_123 (wcells_mem (f := 9) (j := 0) (by decide) (by decide)) rfl rfl rfl rfl (Nat.le_of_ble_eq_true rfl) dX9_readsPart_195 ?_
            show TW K 198 [(0, rv K (9, 0)), (1, .int x1), (5, .int x10)] [.int x11] σ9
            refine tw_bipush (v := 61) C dX9_readsPart_198 (by decide) ?_
            refine tw_ic_eq (tgt := 211) C dX9_readsPart_200 (by decide) (fun hc37 => ?_) (fun hc37 => ?_)
            · have ht37 := ite_t hc37 eh36
              obtain rfl := (Option.some.inj ht37)
              exact hJ34
            · have hf37 := ite_f hc37 eh36
              refine tw_aload_n (i := 0) (z := 0) (r := (9, 0)) C dX9_readsPart_203 rfl rfl ?_
              refine tw_aload_n (i := 0) (z := 0) (r := (9, 0)) C dX9_readsPart_204 rfl rfl ?_
              refine tw_getI C fl_RX9_114 rfl (wcells_mem (f := 9) (j := 0) (by decide) (by decide)) rfl dX9_readsPart_205 ?_
              obtain ⟨σ12, es38, eh38⟩ := bnd_ex hf37
              refine tw_put C fl_RX9_120 (fun q hq => by cases hq; rfl) rfl (wcells_mem (f := 9) (j := 0) (by decide) (by decide)) rfl rfl rfl dX9_readsPart_208 ?_
              rw [es38]
              obtain rfl := (Option.some.inj eh38)
              exact hJ34
        refine tw_ic_ne (tgt := 186) C dX9_readsPart_157 (by decide) (fun hc29 => ?_) (fun hc29 => ?_)
        · have ht29 := ite_f hc29 hx28
          refine tw_sub [0, 1, 5] rfl ?_
          obtain rfl := ht29
          exact hJ28
        · have hf29 := ite_t hc29 hx28
          refine tw_iload (i := 5) (z := 5) C dX9_readsPart_160 rfl ?_
          refine tw_iconst (v := 4) C dX9_readsPart_162 (by decide) ?_
          refine tw_ic_eq (tgt := 186) C dX9_readsPart_163 (by decide) (fun hc30 => ?_) (fun hc30 => ?_)
          · have ht30 := ite_t hc30 hf29
            refine tw_sub [0, 1, 5] rfl ?_
            obtain rfl := ht30
            exact hJ28
          · have hf30 := ite_f hc30 hf29
            refine tw_iload (i := 5) (z := 5) C dX9_readsPart_166 rfl ?_
            refine tw_bipush (v := 8) C dX9_readsPart_168 (by decide) ?_
            refine tw_ic_eq (tgt := 186) C dX9_readsPart_170 (by decide) (fun hc31 => ?_) (fun hc31 => ?_)
            · have ht31 := ite_t hc31 hf30
              refine tw_sub [0, 1, 5] rfl ?_
              obtain rfl := ht31
              exact hJ28
            · have hf31 := ite_f hc31 hf30
              refine tw_iload (i := 5) (z := 5) C dX9_readsPart_173 rfl ?_
              refine tw_bipush (v := 9) C dX9_readsPart_175 (by decide) ?_
              refine tw_ic_eq (tgt := 186) C dX9_readsPart_177 (by decide) (fun hc32 => ?_) (fun hc32 => ?_)
              · have ht32 := ite_t hc32 hf31
                refine tw_sub [0, 1, 5] rfl ?_
                obtain rfl := ht32
                exact hJ28
              · have hf32 := ite_f hc32 hf31
                refine tw_aload_n (i := 0) (z := 0) (r := (9, 0)) C dX9_readsPart_180 rfl rfl ?_
                refine tw_iload (i := 4) (z := 4) C dX9_readsPart_181 rfl ?_
                obtain ⟨σ10, es33, eh33⟩ := bnd_ex hf32
                refine tw_put C fl_RX9_120 (fun q hq => by cases hq; rfl) rfl (wcells_mem (f := 9) (j := 0) (by decide) (by decide)) rfl rfl rfl dX9_readsPart_183 ?_
                rw [es33]
                refine tw_sub [0, 1, 5] rfl ?_
                obtain rfl := eh33
                exact hJ28
    · have hf7 := ite_t hc7 hf6
      refine tw_sub [0, 1, 2] rfl ?_
      exact hJ5 _ (Option.some.inj hf7).symm

set_option maxRecDepth 20000 in
def fX9_plains (σ : St) (a1 : Int32) : Option (St) :=
  lpF (fun (q1 : Int32 × St) => match q1 with
  | (x1, σ1) =>
  if (17 : Int32) ≤ x1 then
    some (.inr σ1)
  else
    grd (inb (((17 : Int32) * a1) + x1) 187) (bnd (su σ1 (33, 0) (tn (((17 : Int32) * a1) + x1)) (fX9_plain x1)) (fun σ2 =>
    bnd (x1 + 1) (fun x2 =>
    some (.inl (x2, σ2)))))) ((0 : Int32), σ)
set_option maxRecDepth 20000 in
set_option maxHeartbeats 4000000 in
theorem kX9_plains (G : Gx) (d : Nat) (hdp : 2 ≤ d) (σ : St) (a1 : Int32)  {σ' : St} (h : fX9_plains σ a1 = some σ') : MS G d yX9_plains cX9_plains 3 none [.ref (G.2.1 (9, 0)), .int a1] σ none σ' := by
  refine MS_of (by decide) (Nat.le_of_ble_eq_true rfl) rfl (fun K hG hnL C hR hK => ?_) (by omega)
  subst hG
  show TW K 0 [(0, rv K (9, 0)), (1, .int a1)] [] σ
  unfold fX9_plains at h
  refine tw_iconst (v := 0) C dX9_plains_0 (by decide) ?_
  refine tw_istore_n (lv' := [(0, rv K (9, 0)), (1, .int a1), (2, .int (0 : Int32))]) C [1, 2, 0] dX9_plains_1 rfl (by rw [hnL]; decide) rfl ?_
  refine lpF_ct (G := fun (q : Int32 × St) => match q with | (x1, σ1) => TW K 2 [(0, rv K (9, 0)), (1, .int a1), (2, .int x1)] [] σ1) ?_ h
  rintro ⟨x1, σ1⟩ w1 hx1 hk1
  show TW K 2 [(0, rv K (9, 0)), (1, .int a1), (2, .int x1)] [] σ1
  refine tw_iload_n (i := 2) (z := 2) C dX9_plains_2 rfl rfl ?_
  refine tw_bipush (v := 17) C dX9_plains_3 (by decide) ?_
  refine tw_ic_ge (tgt := 29) C dX9_plains_5 (by decide) (fun hc2 => ?_) (fun hc2 => ?_)
  · have ht2 := ite_t hc2 hx1
    have e3 := lp_x ht2 hk1
    obtain rfl := (Option.some.inj e3)
    exact tw_vret C hK rfl rfl dX9_plains_29
  · have hf2 := ite_f hc2 hx1
    refine tw_aload_n (i := 0) (z := 0) (r := (9, 0)) C dX9_plains_8 rfl rfl ?_
    refine tw_getR (g := 33) (z := 0) (j' := 0) C fl_RX9_23 rfl (wcells_mem (f := 9) (j := 0) (by decide) (by decide)) rfl rfl dX9_plains_9 ?_
    refine tw_bipush (v := 17) C dX9_plains_12 (by decide) ?_
    refine tw_iload_n (i := 1) (z := 1) C dX9_plains_14 rfl rfl ?_
    refine tw_imul C dX9_plains_15 ?_
    refine tw_iload_n (i := 2) (z := 2) C dX9_plains_16 rfl rfl ?_
    refine tw_iadd C dX9_plains_17 ?_
    refine tw_iload_n (i := 2) (z := 2) C dX9_plains_18 rfl rfl ?_
    refine tw_callS (As := [.int x1]) (rest := [.int (((17 : Int32) * a1) + x1), rv K (33, 0)]) C hR (kX9_plain K.1 _ (by omega) σ1 x1  rfl) mi_X9_plain st_X9_plain ml_RX9_102 rfl rfl (Nat.le_of_ble_eq_true rfl) dX9_plains_19 ?_
    show TW K 22 [(0, rv K (9, 0)), (1, .int a1), (2, .int x1)] [.int (fX9_plain x1), .int (((17 : Int32) * a1) + x1), rv K (33, 0)] σ1
    obtain ⟨hb4, eh4⟩ := grd_some hf2
    obtain ⟨σ2, es5, eg5⟩ := bnd_ex eh4
    refine tw_iast (r := (33, 0)) C (wa_of rfl (by decide) (by decide)) hb4 dX9_plains_22 ?_
    rw [es5]
    obtain ⟨x2, ex6, eh6⟩ := bnd_ex eg5
    refine tw_iinc (z := 2) (v := x2) (lv' := [(0, rv K (9, 0)), (1, .int a1), (2, .int x2)]) C [1, 2, 0] dX9_plains_23 rfl ex6 (by rw [hnL]; decide) rfl ?_
    refine tw_goto (tgt := 2) C dX9_plains_26 (by decide) ?_
    have hz := lp_c eh6 hk1
    exact hz

set_option maxRecDepth 20000 in
def fX9_reads (σ : St) (a1 : Int32) : Option (St) :=
  grd (inb a1 11) (
  if (σ (31, 0) (tn a1)) = 0 then
    grd (inb a1 11) (bnd (su σ (31, 0) (tn a1) (nbo (1 : Int32))) (fun σ1 =>
    bnd (su σ1 (9, 0) 6 a1) (fun σ2 =>
    bnd (su σ2 (9, 0) 7 (0 : Int32)) (fun σ3 =>
    bnd (su σ3 (9, 0) 8 (-1 : Int32)) (fun σ4 =>
    obi (fX9_plains σ4 a1) (fun σ5 =>
    obi (lpF (fun (q10 : Int32 × St) => match q10 with
    | (x1, σ7) =>
    if (28 : Int32) ≤ x1 then
      some (.inr σ7)
    else
      grd (inb (((28 : Int32) * a1) + x1) 308) (bnd (su σ7 (34, 0) (tn (((28 : Int32) * a1) + x1)) (-1 : Int32)) (fun σ8 =>
      bnd (x1 + 1) (fun x2 =>
      some (.inl (x2, σ8)))))) ((0 : Int32), σ5)) (fun σ6 =>
    grd (inb a1 11) (
    bnd (if (σ6 (29, 0) (tn a1)) ≤ 0 then
      (0 : Int32)
    else
      (1 : Int32)) (fun x3 =>
    obi (lpF (fun (q20 : Int32 × Int32 × St) => match q20 with
    | (x4, x5, σ10) =>
    if x5 = 0 then
      some (.inr σ10)
    else
      obi (fX9_readsPart σ10) (fun (x6, σ11) =>
      bnd (if (27 : Int32) ≤ x4 then
        (27 : Int32)
      else
        x4) (fun x7 =>
      grd (inb (((28 : Int32) * a1) + x7) 308) (bnd (su σ11 (34, 0) (tn (((28 : Int32) * a1) + x7)) x6) (fun σ12 =>
      bnd (x4 + 1) (fun x8 =>
      obi (if (σ12 (9, 0) 8) = (-1 : Int32) then
        grd (inb a1 11) (
        if (σ12 (29, 0) (tn a1)) ≤ (σ12 (9, 0) 7) then
          some (0 : Int32)
        else
          some (1 : Int32))
      else
        some (0 : Int32)) (fun x9 =>
      obi (if x9 = 0 then
        some (x9, σ12)
      else
        obi (fX9_byteNow σ12) (fun x11 =>
        if x11 = (59 : Int32) then
          some (x9, σ12)
        else
          bnd (su σ12 (9, 0) 8 (σ12 (9, 0) 7)) (fun σ14 =>
          some ((0 : Int32), σ14)))) (fun (x10, σ13) =>
      bnd (su σ13 (9, 0) 7 ((σ13 (9, 0) 7) + (1 : Int32))) (fun σ15 =>
      some (.inl (x8, x10, σ15))))))))))) ((0 : Int32), x3, σ6)) (fun σ9 =>
    grd (inb a1 11) (bnd (su σ9 (32, 0) (tn a1) (σ9 (9, 0) 8)) (fun σ16 =>
    if (σ16 (9, 0) 8) = (-1 : Int32) then
      some σ16
    else
      obi (fX9_plains σ16 a1) (fun σ17 =>
      lpF (fun (q43 : Int32 × St) => match q43 with
      | (x12, σ18) =>
      if (28 : Int32) ≤ x12 then
        some (.inr σ18)
      else
        grd (inb (((28 : Int32) * a1) + x12) 308) (bnd (su σ18 (34, 0) (tn (((28 : Int32) * a1) + x12)) (-1 : Int32)) (fun σ19 =>
        bnd (x12 + 1) (fun x13 =>
        some (.inl (x13, σ19)))))) ((0 : Int32), σ17))))))))))))))
  else
    some σ)
set_option maxRecDepth 20000 in
set_option maxHeartbeats 4000000 in
theorem kX9_reads (G : Gx) (d : Nat) (hdp : 5 ≤ d) (σ : St) (a1 : Int32)  {σ' : St} (h : fX9_reads σ a1 = some σ') : MS G d yX9_reads cX9_reads 5 none [.ref (G.2.1 (9, 0)), .int a1] σ none σ' := by
  refine MS_of (by decide) (Nat.le_of_ble_eq_true rfl) rfl (fun K hG hnL C hR hK => ?_) (by omega)
  subst hG
  show TW K 0 [(0, rv K (9, 0)), (1, .int a1)] [] σ
  unfold fX9_reads at h
  refine tw_aload_n (i := 0) (z := 0) (r := (9, 0)) C dX9_reads_0 rfl rfl ?_
  refine tw_getR (g := 31) (z := 0) (j' := 0) C fl_RX9_16 rfl (wcells_mem (f := 9) (j := 0) (by decide) (by decide)) rfl rfl dX9_reads_1 ?_
  refine tw_iload_n (i := 1) (z := 1) C dX9_reads_4 rfl rfl ?_
  obtain ⟨hb1, eh1⟩ := grd_some h
  refine tw_zald (r := (31, 0)) C rfl (wcells_mem (f := 31) (j := 0) (by decide) (by decide)) hb1 dX9_reads_5 ?_
  refine tw_if_eq (tgt := 10) C dX9_reads_6 (by decide) (fun hc2 => ?_) (fun hc2 => ?_)
  · have ht2 := ite_t hc2 eh1
    refine tw_aload_n (i := 0) (z := 0) (r := (9, 0)) C dX9_reads_10 rfl rfl ?_
    refine tw_getR (g := 31) (z := 0) (j' := 0) C fl_RX9_16 rfl (wcells_mem (f := 9) (j := 0) (by decide) (by decide)) rfl rfl dX9_reads_11 ?_
    refine tw_iload_n (i := 1) (z := 1) C dX9_reads_14 rfl rfl ?_
    refine tw_iconst (v := 1) C dX9_reads_15 (by decide) ?_
    obtain ⟨hb3, eh3⟩ := grd_some ht2
    obtain ⟨σ1, es4, eg4⟩ := bnd_ex eh3
    refine tw_zast (r := (31, 0)) C rfl (wcells_mem (f := 31) (j := 0) (by decide) (by decide)) hb3 dX9_reads_16 ?_
    rw [es4]
    refine tw_aload_n (i := 0) (z := 0) (r := (9, 0)) C dX9_reads_17 rfl rfl ?_
    refine tw_iload_n (i := 1) (z := 1) C dX9_reads_18 rfl rfl ?_
    obtain ⟨σ2, es5, eh5⟩ := bnd_ex eg4
    refine tw_put C fl_RX9_117 (fun q hq => by cases hq; rfl) rfl (wcells_mem (f := 9) (j := 0) (by decide) (by decide)) rfl rfl rfl dX9_reads_19 ?_
    rw [es5]
    refine tw_aload_n (i := 0) (z := 0) (r := (9, 0)) C dX9_reads_22 rfl rfl ?_
    refine tw_iconst (v := 0) C dX9_reads_23 (by decide) ?_
    obtain ⟨σ3, es6, eh6⟩ := bnd_ex eh5
    refine tw_put C fl_RX9_114 (fun q hq => by cases hq; rfl) rfl (wcells_mem (f := 9) (j := 0) (by decide) (by decide)) rfl rfl rfl dX9_reads_24 ?_
    rw [es6]
    refine tw_aload_n (i := 0) (z := 0) (r := (9, 0)) C dX9_reads_27 rfl rfl ?_
    refine tw_iconst (v := (-1)) C dX9_reads_28 (by decide) ?_
    obtain ⟨σ4, es7, eh7⟩ := bnd_ex eh6
    refine tw_put C fl_RX9_120 (fun q hq => by cases hq; rfl) rfl (wcells_mem (f := 9) (j := 0) (by decide) (by decide)) rfl rfl rfl dX9_reads_29 ?_
    rw [es7]
    refine tw_aload_n (i := 0) (z := 0) (r := (9, 0)) C dX9_reads_32 rfl rfl ?_
    refine tw_iload_n (i := 1) (z := 1) C dX9_reads_33 rfl rfl ?_
    obtain ⟨σ5, hv8, eh8⟩ := obi_some eh7
    refine tw_callV (As := [.int a1]) (rest := []) (r := (9, 0)) C hR (kX9_plains K.1 _ (by omega) _ a1  hv8) mi_X9_plains is_X9_plains se_X9_plains ml_RX9_134 (wcells_mem (f := 9) (j := 0) (by decide) (by decide)) rfl rfl rfl rfl (Nat.le_of_ble_eq_true rfl) dX9_reads_34 ?_
    show TW K 37 [(0, rv K (9, 0)), (1, .int a1)] [] σ5
    refine tw_iconst (v := 0) C dX9_reads_37 (by decide) ?_
    refine tw_istore_n (lv' := [(0, rv K (9, 0)), (1, .int a1), (2, .int (0 : Int32))]) C [1, 2, 0] dX9_reads_38 rfl (by rw [hnL]; decide) rfl ?_
    obtain ⟨σ6, hx9, hq9⟩ := obi_some eh8
    have hJ9 : TW K 63 [(0, rv K (9, 0)), (1, .int a1)] [] σ6 := by
      refine tw_iconst (v := 0) C dX9_reads_63 (by decide) ?_
      refine tw_istore_n (lv' := [(0, rv K (9, 0)), (1, .int a1), (2, .int (0 : Int32))]) C [1, 2, 0] dX9_reads_64 rfl (by rw [hnL]; decide) rfl ?_
      refine tw_aload_n (i := 0) (z := 0) (r := (9, 0)) C dX9_reads_65 rfl rfl ?_
      refine tw_getR (g := 29) (z := 0) (j' := 0) C fl_RX9_7 rfl (wcells_mem (f := 9) (j := 0) (by decide) (by decide)) rfl rfl dX9_reads_66 ?_
      refine tw_iload_n (i := 1) (z := 1) C dX9_reads_69 rfl rfl ?_
      obtain ⟨hb16, eh16⟩ := grd_some hq9
      refine tw_iald (r := (29, 0)) C (ia_of rfl (by decide)) hb16 dX9_reads_70 ?_
      obtain ⟨x3, hx17, hq17⟩ := bnd_ex eh16
      have hJ17 : TW K 79 [(0, rv K (9, 0)), (1, .int a1), (2, .int (0 : Int32))] [.int x3] σ6 := by
        refine tw_istore_n (lv' := [(0, rv K (9, 0)), (1, .int a1), (2, .int (0 : Int32)), (3, .int x3)]) C [1, 2, 3, 0] dX9_reads_79 rfl (by rw [hnL]; decide) rfl ?_
        obtain ⟨σ9, hx19, hq19⟩ := obi_some hq17
        have hJ19 : TW K 180 [(0, rv K (9, 0)), (1, .int a1)] [] σ9 := by
          refine tw_aload_n (i := 0) (z := 0) (r := (9, 0)) C dX9_reads_180 rfl rfl ?_
          refine tw_getR (g := 32) (z := 0) (j' := 0) C fl_RX9_20 rfl (wcells_mem (f := 9) (j := 0) (by decide) (by decide)) rfl rfl dX9_reads_181 ?_
          refine tw_iload_n (i := 1) (z := 1) C dX9_reads_184 rfl rfl ?_
          refine tw_aload_n (i := 0) (z := 0) (r := (9, 0)) C dX9_reads_185 rfl rfl ?_
          refine tw_getI C fl_RX9_120 rfl (wcells_mem (f := 9) (j := 0) (by decide) (by decide)) rfl dX9_reads_186 ?_
          obtain ⟨hb39, eh39⟩ := grd_some hq19
          obtain ⟨σ16, es40, eg40⟩ := bnd_ex eh39
          refine tw_iast (r := (32, 0)) C (wa_of rfl (by decide) (by decide)) hb39 dX9_reads_189 ?_
          rw [es40]
          refine tw_aload_n (i := 0) (z := 0) (r := (9, 0)) C dX9_reads_190 rfl rfl ?_
          refine tw_getI C fl_RX9_120 rfl (wcells_mem (f := 9) (j := 0) (by decide) (by decide)) rfl dX9_reads_191 ?_
          refine tw_iconst (v := (-1)) C dX9_reads_194 (by decide) ?_
          refine tw_ic_eq (tgt := 232) C dX9_reads_195 (by decide) (fun hc41 => ?_) (fun hc41 => ?_)
          · have ht41 := ite_t hc41 eg40
            obtain rfl := (Option.some.inj ht41)
            exact tw_vret C hK rfl rfl dX9_reads_232
          · have hf41 := ite_f hc41 eg40
            refine tw_aload_n (i := 0) (z := 0) (r := (9, 0)) C dX9_reads_198 rfl rfl ?_
            refine tw_iload_n (i := 1) (z := 1) C dX9_reads_199 rfl rfl ?_
            obtain ⟨σ17, hv42, eh42⟩ := obi_some hf41
            refine tw_callV (As := [.int a1]) (rest := []) (r := (9, 0)) C hR (kX9_plains K.1 _ (by omega) _ a1  hv42) mi_X9_plains is_X9_plains se_X9_plains ml_RX9_134 (wcells_mem (f := 9) (j := 0) (by decide) (by decide)) rfl rfl rfl rfl (Nat.le_of_ble_eq_true rfl) dX9_reads_200 ?_
            show TW K 203 [(0, rv K (9, 0)), (1, .int a1)] [] σ17
            refine tw_iconst (v := 0) C dX9_reads_203 (by decide) ?_
            refine tw_istore (lv' := [(0, rv K (9, 0)), (1, .int a1), (4, .int (0 : Int32))]) C [1, 2, 0] dX9_reads_204 (by rw [hnL]; decide) rfl ?_
            refine lpF_ct (G := fun (q : Int32 × St) => match q with | (x12, σ18) => TW K 206 [(0, rv K (9, 0)), (1, .int a1), (4, .int x12)] [] σ18) ?_ eh42
            rintro ⟨x12, σ18⟩ w43 hx43 hk43
            show TW K 206 [(0, rv K (9, 0)), (1, .int a1), (4, .int x12)] [] σ18
            refine tw_iload (i := 4) (z := 2) C dX9_reads_206 rfl ?_
            refine tw_bipush (v := 28) C dX9_reads_208 (by decide) ?_
            refine tw_ic_ge (tgt := 232) C dX9_reads_210 (by decide) (fun hc44 => ?_) (fun hc44 => ?_)
            · have ht44 := ite_t hc44 hx43
              have e45 := lp_x ht44 hk43
              obtain rfl := (Option.some.inj e45)
              exact tw_vret C hK rfl rfl dX9_reads_232
            · have hf44 := ite_f hc44 hx43
              refine tw_aload_n (i := 0) (z := 0) (r := (9, 0)) C dX9_reads_213 rfl rfl ?_
              refine tw_getR (g := 34) (z := 0) (j' := 0) C fl_RX9_26 rfl (wcells_mem (f := 9) (j := 0) (by decide) (by decide)) rfl rfl dX9_reads_214 ?_
              refine tw_bipush (v := 28) C dX9_reads_217 (by decide) ?_
              refine tw_iload_n (i := 1) (z := 1) C dX9_reads_219 rfl rfl ?_
              refine tw_imul C dX9_reads_220 ?_
              refine tw_iload (i := 4) (z := 2) C dX9_reads_221 rfl ?_
              refine tw_iadd C dX9_reads_223 ?_
              refine tw_iconst (v := (-1)) C dX9_reads_224 (by decide) ?_
              obtain ⟨hb46, eh46⟩ := grd_some hf44
              obtain ⟨σ19, es47, eg47⟩ := bnd_ex eh46
              refine tw_iast (r := (34, 0)) C (wa_of rfl (by decide) (by decide)) hb46 dX9_reads_225 ?_
              rw [es47]
              obtain ⟨x13, ex48, eh48⟩ := bnd_ex eg47
              refine tw_iinc (z := 2) (v := x13) (lv' := [(0, rv K (9, 0)), (1, .int a1), (4, .int x13)]) C [1, 2, 0] dX9_reads_226 rfl ex48 (by rw [hnL]; decide) rfl ?_
              refine tw_goto (tgt := 206) C dX9_reads_229 (by decide) ?_
              have hz := lp_c eh48 hk43
              exact hz
        refine lpF_ct (G := fun (q : Int32 × Int32 × St) => match q with | (x4, x5, σ10) => TW K 80 [(0, rv K (9, 0)), (1, .int a1), (2, .int x4), (3, .int x5)] [] σ10) ?_ hx19
        rintro ⟨x4, x5, σ10⟩ w20 hx20 hk20
        show TW K 80 [(0, rv K (9, 0)), (1, .int a1), (2, .int x4), (3, .int x5)] [] σ10
        refine tw_iload_n (i := 3) (z := 3) C dX9_reads_80 rfl rfl ?_
        refine tw_if_eq (tgt := 180) C dX9_reads_81 (by decide) (fun hc21 => ?_) (fun hc21 => ?_)
        · have ht21 := ite_t hc21 hx20
          refine tw_sub [0, 1] rfl ?_
          have e22 := lp_x ht21 hk20
          obtain rfl := (Option.some.inj e22)
          exact hJ19
        · have hf21 := ite_f hc21 hx20
          refine tw_aload_n (i := 0) (z := 0) (r := (9, 0)) C dX9_reads_84 rfl rfl ?_
          obtain ⟨⟨x6, σ11⟩, hv23, eh23⟩ := obi_some hf21
          refine tw_callV (As := []) (rest := []) (r := (9, 0)) C hR (kX9_readsPart K.1 _ (by omega) _   hv23) mi_X9_readsPart is_X9_readsPart se_X9_readsPart ml_RX9_138 (wcells_mem (f := 9) (j := 0) (by decide) (by decide)) rfl rfl rfl rfl (Nat.le_of_ble_eq_true rfl) dX9_reads_85 ?_
          show TW K 88 [(0, rv K (9, 0)), (1, .int a1), (2, .int x4), (3, .int x5)] [.int x6] σ11
          refine tw_istore (lv' := [(0, rv K (9, 0)), (1, .int a1), (2, .int x4), (3, .int x5), (4, .int x6)]) C [1, 2, 3, 4, 0] dX9_reads_88 (by rw [hnL]; decide) rfl ?_
          refine tw_aload_n (i := 0) (z := 0) (r := (9, 0)) C dX9_reads_90 rfl rfl ?_
          refine tw_getR (g := 34) (z := 0) (j' := 0) C fl_RX9_26 rfl (wcells_mem (f := 9) (j := 0) (by decide) (by decide)) rfl rfl dX9_reads_91 ?_
          refine tw_bipush (v := 28) C dX9_reads_94 (by decide) ?_
          refine tw_iload_n (i := 1) (z := 1) C dX9_reads_96 rfl rfl ?_
          refine tw_imul C dX9_reads_97 ?_
          refine tw_iload_n (i := 2) (z := 2) C dX9_reads_98 rfl rfl ?_
          refine tw_bipush (v := 27) C dX9_reads_99 (by decide) ?_
          obtain ⟨x7, hx24, hq24⟩ := bnd_ex eh23
          have hJ24 : TW K 110 [(0, rv K (9, 0)), (1, .int a1), (2, .int x4), (4, .int x6)] [.int x7, .int ((28 : Int32) * a1), rv K (34, 0)] σ11 := by
            refine tw_iadd C dX9_reads_110 ?_
            refine tw_iload (i := 4) (z := 3) C dX9_reads_111 rfl ?_
            obtain ⟨hb26, eh26⟩ := grd_some hq24
            obtain ⟨σ12, es27, eg27⟩ := bnd_ex eh26
            refine tw_iast (r := (34, 0)) C (wa_of rfl (by decide) (by decide)) hb26 dX9_reads_113 ?_
            rw [es27]
            obtain ⟨x8, ex28, eh28⟩ := bnd_ex eg27
            refine tw_iinc (z := 2) (v := x8) (lv' := [(0, rv K (9, 0)), (1, .int a1), (2, .int x8), (4, .int x6)]) C [1, 2, 0, 3] dX9_reads_114 rfl ex28 (by rw [hnL]; decide) rfl ?_
            refine tw_aload_n (i := 0) (z := 0) (r := (9, 0)) C dX9_reads_117 rfl rfl ?_
            refine tw_getI C fl_RX9_120 rfl (wcells_mem (f := 9) (j := 0) (by decide) (by decide)) rfl dX9_reads_118 ?_
            refine tw_iconst (v := (-1)) C dX9_reads_121 (by decide) ?_
            obtain ⟨x9, hx29, hq29⟩ := obi_some eh28
            have hJ29 : TW K 143 [(0, rv K (9, 0)), (1, .int a1), (2, .int x8)] [.int x9] σ12 := by
              refine tw_istore_n (lv' := [(0, rv K (9, 0)), (1, .int a1), (2, .int x8), (3, .int x9)]) C [1, 2, 3, 0] dX9_reads_143 rfl (by rw [hnL]; decide) rfl ?_
              refine tw_iload_n (i := 3) (z := 3) C dX9_reads_144 rfl rfl ?_
              obtain ⟨⟨x10, σ13⟩, hx33, hq33⟩ := obi_some hq29
              have hJ33 : TW K 167 [(0, rv K (9, 0)), (1, .int a1), (2, .int x8), (3, .int x10)] [] σ13 := by
                refine tw_aload_n (i := 0) (z := 0) (r := (9, 0)) C dX9_reads_167 rfl rfl ?_
                refine tw_dup C dX9_reads_168 rfl ?_
                refine tw_getI C fl_RX9_114 rfl (wcells_mem (f := 9) (j := 0) (by decide) (by decide)) rfl dX9_reads_169 ?_
                refine tw_iconst (v := 1) C dX9_reads_172 (by decide) ?_
                refine tw_iadd C dX9_reads_173 ?_
                obtain ⟨σ15, es38, eh38⟩ := bnd_ex hq33
                refine tw_put C fl_RX9_114 (fun q hq => by cases hq; rfl) rfl (wcells_mem (f := 9) (j := 0) (by decide) (by decide)) rfl rfl rfl dX9_reads_174 ?_
                rw [es38]
                refine tw_goto (tgt := 80) C dX9_reads_177 (by decide) ?_
                have hz := lp_c eh38 hk20
                exact hz
              refine tw_if_eq (tgt := 167) C dX9_reads_145 (by decide) (fun hc34 => ?_) (fun hc34 => ?_)
              · have ht34 := ite_t hc34 hx33
                obtain ⟨rfl, rfl⟩ := pj2 (Option.some.inj ht34)
                exact hJ33
              · have hf34 := ite_f hc34 hx33
                refine tw_aload_n (i := 0) (z := 0) (r := (9, 0)) C dX9_reads_148 rfl rfl ?_
                obtain ⟨x11, hv35, eh35⟩ := obi_some hf34
                refine tw_callV (As := []) (rest := []) (r := (9, 0)) C hR (kX9_byteNow K.1 _ (by omega) σ12   hv35) mi_X9_byteNow is_X9_byteNow se_X9_byteNow ml_RX9_123 (wcells_mem (f := 9) (j := 0) (by decide) (by decide)) rfl rfl rfl rfl (Nat.le_of_ble_eq_true rfl) dX9_reads_149 ?_
                show TW K 152 [(0, rv K (9, 0)), (1, .int a1), (2, .int x8), (3, .int x9)] [.int x11] σ12
                refine tw_bipush (v := 59) C dX9_reads_152 (by decide) ?_
                refine tw_ic_eq (tgt := 167) C dX9_reads_154 (by decide) (fun hc36 => ?_) (fun hc36 => ?_)
                · have ht36 := ite_t hc36 eh35
                  obtain ⟨rfl, rfl⟩ := pj2 (Option.some.inj ht36)
                  exact hJ33
                · have hf36 := ite_f hc36 eh35
                  refine tw_aload_n (i := 0) (z := 0) (r := (9, 0)) C dX9_reads_157 rfl rfl ?_
                  refine tw_aload_n (i := 0) (z := 0) (r := (9, 0)) C dX9_reads_158 rfl rfl ?_
                  refine tw_getI C fl_RX9_114 rfl (wcells_mem (f := 9) (j := 0) (by decide) (by decide)) rfl dX9_reads_159 ?_
                  obtain ⟨σ14, es37, eh37⟩ := bnd_ex hf36
                  refine tw_put C fl_RX9_120 (fun q hq => by cases hq; rfl) rfl (wcells_mem (f := 9) (j := 0) (by decide) (by decide)) rfl rfl rfl dX9_reads_162 ?_
                  rw [es37]
                  refine tw_iconst (v := 0) C dX9_reads_165 (by decide) ?_
                  refine tw_istore_n (lv' := [(0, rv K (9, 0)), (1, .int a1), (2, .int x8), (3, .int (0 : Int32))]) C [1, 2, 3, 0] dX9_reads_166 rfl (by rw [hnL]; decide) rfl ?_
                  obtain ⟨rfl, rfl⟩ := pj2 (Option.some.inj eh37)
                  exact hJ33
            refine tw_ic_ne (tgt := 142) C dX9_reads_122 (by decide) (fun hc30 => ?_) (fun hc30 => ?_)
            · have ht30 := ite_f hc30 hx29
              refine tw_iconst (v := 0) C dX9_reads_142 (by decide) ?_
              refine tw_sub [0, 1, 2] rfl ?_
              obtain rfl := (Option.some.inj ht30)
              exact hJ29
            · have hf30 := ite_t hc30 hx29
              refine tw_aload_n (i := 0) (z := 0) (r := (9, 0)) C dX9_reads_125 rfl rfl ?_
              refine tw_getI C fl_RX9_114 rfl (wcells_mem (f := 9) (j := 0) (by decide) (by decide)) rfl dX9_reads_126 ?_
              refine tw_aload_n (i := 0) (z := 0) (r := (9, 0)) C dX9_reads_129 rfl rfl ?_
              refine tw_getR (g := 29) (z := 0) (j' := 0) C fl_RX9_7 rfl (wcells_mem (f := 9) (j := 0) (by decide) (by decide)) rfl rfl dX9_reads_130 ?_
              refine tw_iload_n (i := 1) (z := 1) C dX9_reads_133 rfl rfl ?_
              obtain ⟨hb31, eh31⟩ := grd_some hf30
              refine tw_iald (r := (29, 0)) C (ia_of rfl (by decide)) hb31 dX9_reads_134 ?_
              refine tw_ic_ge (tgt := 142) C dX9_reads_135 (by decide) (fun hc32 => ?_) (fun hc32 => ?_)
              · have ht32 := ite_t hc32 eh31
                refine tw_iconst (v := 0) C dX9_reads_142 (by decide) ?_
                refine tw_sub [0, 1, 2] rfl ?_
                obtain rfl := (Option.some.inj ht32)
                exact hJ29
              · have hf32 := ite_f hc32 eh31
                refine tw_iconst (v := 1) C dX9_reads_138 (by decide) ?_
                refine tw_goto (tgt := 143) C dX9_reads_139 (by decide) ?_
                refine tw_sub [0, 1, 2] rfl ?_
                obtain rfl := (Option.some.inj hf32)
                exact hJ29
          refine tw_ic_ge (tgt := 108) C dX9_reads_101 (by decide) (fun hc25 => ?_) (fun hc25 => ?_)
          · have ht25 := ite_t hc25 hx24
            refine tw_bipush (v := 27) C dX9_reads_108 (by decide) ?_
            refine tw_sub [0, 1, 2, 4] rfl ?_
            obtain rfl := ht25
            exact hJ24
          · have hf25 := ite_f hc25 hx24
            refine tw_iload_n (i := 2) (z := 2) C dX9_reads_104 rfl rfl ?_
            refine tw_goto (tgt := 110) C dX9_reads_105 (by decide) ?_
            refine tw_sub [0, 1, 2, 4] rfl ?_
            obtain rfl := hf25
            exact hJ24
      refine tw_if_le (tgt := 78) C dX9_reads_71 (by decide) (fun hc18 => ?_) (fun hc18 => ?_)
      · have ht18 := ite_t hc18 hx17
        refine tw_iconst (v := 0) C dX9_reads_78 (by decide) ?_
        obtain rfl := ht18
        exact hJ17
      · have hf18 := ite_f hc18 hx17
        refine tw_iconst (v := 1) C dX9_reads_74 (by decide) ?_
        refine tw_goto (tgt := 79) C dX9_reads_75 (by decide) ?_
        obtain rfl := hf18
        exact hJ17
    refine lpF_ct (G := fun (q : Int32 × St) => match q with | (x1, σ7) => TW K 39 [(0, rv K (9, 0)), (1, .int a1), (2, .int x1)] [] σ7) ?_ hx9
    rintro ⟨x1, σ7⟩ w10 hx10 hk10
    show TW K 39 [(0, rv K (9, 0)), (1, .int a1), (2, .int x1)] [] σ7
    refine tw_iload_n (i := 2) (z := 2) C dX9_reads_39 rfl rfl ?_
    refine tw_bipush (v := 28) C dX9_reads_40 (by decide) ?_
    refine tw_ic_ge (tgt := 63) C dX9_reads_42 (by decide) (fun hc11 => ?_) (fun hc11 => ?_)
    · have ht11 := ite_t hc11 hx10
      refine tw_sub [0, 1] rfl ?_
      have e12 := lp_x ht11 hk10
      obtain rfl := (Option.some.inj e12)
      exact hJ9
    · have hf11 := ite_f hc11 hx10
      refine tw_aload_n (i := 0) (z := 0) (r := (9, 0)) C dX9_reads_45 rfl rfl ?_
      refine tw_getR (g := 34) (z := 0) (j' := 0) C fl_RX9_26 rfl (wcells_mem (f := 9) (j := 0) (by decide) (by decide)) rfl rfl dX9_reads_46 ?_
      refine tw_bipush (v := 28) C dX9_reads_49 (by decide) ?_
      refine tw_iload_n (i := 1) (z := 1) C dX9_reads_51 rfl rfl ?_
      refine tw_imul C dX9_reads_52 ?_
      refine tw_iload_n (i := 2) (z := 2) C dX9_reads_53 rfl rfl ?_
      refine tw_iadd C dX9_reads_54 ?_
      refine tw_iconst (v := (-1)) C dX9_reads_55 (by decide) ?_
      obtain ⟨hb13, eh13⟩ := grd_some hf11
      obtain ⟨σ8, es14, eg14⟩ := bnd_ex eh13
      refine tw_iast (r := (34, 0)) C (wa_of rfl (by decide) (by decide)) hb13 dX9_reads_56 ?_
      rw [es14]
      obtain ⟨x2, ex15, eh15⟩ := bnd_ex eg14
      refine tw_iinc (z := 2) (v := x2) (lv' := [(0, rv K (9, 0)), (1, .int a1), (2, .int x2)]) C [1, 2, 0] dX9_reads_57 rfl ex15 (by rw [hnL]; decide) rfl ?_
      refine tw_goto (tgt := 39) C dX9_reads_60 (by decide) ?_
      have hz := lp_c eh15 hk10
      exact hz
  · have hf2 := ite_f hc2 eh1
    obtain rfl := (Option.some.inj hf2)
    exact tw_vret C hK rfl rfl dX9_reads_9

set_option maxRecDepth 20000 in
def fX9_faultOf (σ : St) (a1 : Int32) : Option (Int32 × St) :=
  obi (fX9_reads σ a1) (fun σ1 =>
  grd (inb a1 11) (
  some (σ1 (32, 0) (tn a1), σ1)))
set_option maxRecDepth 20000 in
set_option maxHeartbeats 4000000 in
theorem kX9_faultOf (G : Gx) (d : Nat) (hdp : 6 ≤ d) (σ : St) (a1 : Int32)  {v0 : Int32} {σ' : St} (h : fX9_faultOf σ a1 = some (v0, σ')) : MS G d yX9_faultOf cX9_faultOf 2 (some .int) [.ref (G.2.1 (9, 0)), .int a1] σ (some (.int v0)) σ' := by
  refine MS_of (by decide) (Nat.le_of_ble_eq_true rfl) rfl (fun K hG hnL C hR hK => ?_) (by omega)
  subst hG
  show TW K 0 [(0, rv K (9, 0)), (1, .int a1)] [] σ
  unfold fX9_faultOf at h
  refine tw_aload_n (i := 0) (z := 0) (r := (9, 0)) C dX9_faultOf_0 rfl rfl ?_
  refine tw_iload_n (i := 1) (z := 1) C dX9_faultOf_1 rfl rfl ?_
  obtain ⟨σ1, hv1, eh1⟩ := obi_some h
  refine tw_callV (As := [.int a1]) (rest := []) (r := (9, 0)) C hR (kX9_reads K.1 _ (by omega) _ a1  hv1) mi_X9_reads is_X9_reads se_X9_reads ml_RX9_141 (wcells_mem (f := 9) (j := 0) (by decide) (by decide)) rfl rfl rfl rfl (Nat.le_of_ble_eq_true rfl) dX9_faultOf_2 ?_
  show TW K 5 [(0, rv K (9, 0)), (1, .int a1)] [] σ1
  refine tw_aload_n (i := 0) (z := 0) (r := (9, 0)) C dX9_faultOf_5 rfl rfl ?_
  refine tw_getR (g := 32) (z := 0) (j' := 0) C fl_RX9_20 rfl (wcells_mem (f := 9) (j := 0) (by decide) (by decide)) rfl rfl dX9_faultOf_6 ?_
  refine tw_iload_n (i := 1) (z := 1) C dX9_faultOf_9 rfl rfl ?_
  obtain ⟨hb2, eh2⟩ := grd_some eh1
  refine tw_iald (r := (32, 0)) C (ia_of rfl (by decide)) hb2 dX9_faultOf_10 ?_
  obtain ⟨rfl, rfl⟩ := pj2 (Option.some.inj eh2)
  exact tw_iret C hK rfl rfl dX9_faultOf_11

