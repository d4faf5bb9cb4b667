set_option maxRecDepth 20000 in
def fX3_setVerdicts (σ : St) (t0 : Nat) (t1 : Nat) : Option (St) :=
  obi (lpF (fun (q2 : Int32 × St) => match q2 with
  | (x1, σ2) =>
  if (40 : Int32) ≤ x1 then
    some (.inr σ2)
  else
    obi (if (fX6_has σ2 t1 x1) = true then
      grd (inb x1 60) (
      if (σ2 (20, t1) (tn x1)) = 0 then
        some (1 : Int32)
      else
        grd (inb x1 60) (
        if (σ2 (20, t1) (tn x1)) = (1 : Int32) then
          some (1 : Int32)
        else
          some (0 : Int32)))
    else
      some (0 : Int32)) (fun x2 =>
    obi (if x2 = 0 then
      some (-1 : Int32)
    else
      grd (inb x1 60) (
      some (σ2 (20, t1) (tn x1)))) (fun x3 =>
    grd (inb x1 40) (bnd (su σ2 (14, t0) (tn x1) x3) (fun σ3 =>
    bnd (x1 + 1) (fun x4 =>
    some (.inl (x4, σ3)))))))) ((0 : Int32), σ)) (fun σ1 =>
  bnd (su σ1 (3, t0) 3 (1 : Int32)) (fun σ4 =>
  some σ4))
set_option maxRecDepth 20000 in
set_option maxHeartbeats 4000000 in
theorem kX3_setVerdicts (G : Gx) (d : Nat) (hdp : 2 ≤ d) (σ : St) (t0 : Nat) (t1 : Nat) (h0 : t0 < 12) (h1 : t1 < 4) {σ' : St} (h : fX3_setVerdicts σ t0 t1 = some σ') : MS G d yX3_setVerdicts cX3_setVerdicts 4 none [.ref (G.2.1 (3, t0)), .ref (G.2.1 (6, t1))] σ none σ' := by
  refine MS_of (by decide) (Nat.le_of_ble_eq_true rfl) rfl (fun K hG hnL C hR hK => ?_) (by omega)
  subst hG
  show TW K 0 [(0, rv K (3, t0)), (1, rv K (6, t1))] [] σ
  unfold fX3_setVerdicts at h
  refine tw_iconst (v := 0) C dX3_setVerdicts_0 (by decide) ?_
  refine tw_istore_n (lv' := [(0, rv K (3, t0)), (1, rv K (6, t1)), (2, .int (0 : Int32))]) C [1, 2, 0] dX3_setVerdicts_1 rfl (by rw [hnL]; decide) rfl ?_
  obtain ⟨σ1, hx1, hq1⟩ := obi_some h
  have hJ1 : TW K 67 [(0, rv K (3, t0))] [] σ1 := by
    refine tw_aload_n (i := 0) (z := 0) (r := (3, t0)) C dX3_setVerdicts_67 rfl rfl ?_
    refine tw_iconst (v := 1) C dX3_setVerdicts_68 (by decide) ?_
    obtain ⟨σ4, es17, eh17⟩ := bnd_ex hq1
    refine tw_put C fl_RX3_52 (fun q hq => by cases hq; rfl) rfl (wcells_mem (f := 3) (j := t0) (by decide) h0) rfl rfl rfl dX3_setVerdicts_69 ?_
    rw [es17]
    obtain rfl := (Option.some.inj eh17)
    exact tw_vret C hK rfl rfl dX3_setVerdicts_72
  refine lpF_ct (G := fun (q : Int32 × St) => match q with | (x1, σ2) => TW K 2 [(0, rv K (3, t0)), (1, rv K (6, t1)), (2, .int x1)] [] σ2) ?_ hx1
  rintro ⟨x1, σ2⟩ w2 hx2 hk2
  show TW K 2 [(0, rv K (3, t0)), (1, rv K (6, t1)), (2, .int x1)] [] σ2
  refine tw_iload_n (i := 2) (z := 2) C dX3_setVerdicts_2 rfl rfl ?_
  refine tw_bipush (v := 40) C dX3_setVerdicts_3 (by decide) ?_
  refine tw_ic_ge (tgt := 67) C dX3_setVerdicts_5 (by decide) (fun hc3 => ?_) (fun hc3 => ?_)
  · have ht3 := ite_t hc3 hx2
    refine tw_sub [0] rfl ?_
    have e4 := lp_x ht3 hk2
    obtain rfl := (Option.some.inj e4)
    exact hJ1
  · have hf3 := ite_f hc3 hx2
    refine tw_aload_n (i := 1) (z := 1) (r := (6, t1)) C dX3_setVerdicts_8 rfl rfl ?_
    refine tw_iload_n (i := 2) (z := 2) C dX3_setVerdicts_9 rfl rfl ?_
    refine tw_callV (As := [.int x1]) (rest := []) (r := (6, t1)) C hR (kX6_has K.1 _ (by omega) σ2 t1 x1 h1 rfl) mi_X6_has is_X6_has se_X6_has ml_RX3_48 (wcells_mem (f := 6) (j := t1) (by decide) h1) rfl rfl rfl rfl (Nat.le_of_ble_eq_true rfl) dX3_setVerdicts_10 ?_
    show TW K 13 [(0, rv K (3, t0)), (1, rv K (6, t1)), (2, .int x1)] [.int (b2i (fX6_has σ2 t1 x1))] σ2
    obtain ⟨x2, hx5, hq5⟩ := obi_some hf3
    have hJ5 : TW K 40 [(0, rv K (3, t0)), (1, rv K (6, t1)), (2, .int x1)] [.int x2] σ2 := by
      refine tw_istore_n (lv' := [(0, rv K (3, t0)), (1, rv K (6, t1)), (2, .int x1), (3, .int x2)]) C [1, 2, 3, 0] dX3_setVerdicts_40 rfl (by rw [hnL]; decide) rfl ?_
      refine tw_aload_n (i := 0) (z := 0) (r := (3, t0)) C dX3_setVerdicts_41 rfl rfl ?_
      refine tw_getR (g := 14) (z := 0) (j' := t0) C fl_RX3_15 rfl (wcells_mem (f := 3) (j := t0) (by decide) h0) rfl rfl dX3_setVerdicts_42 ?_
      refine tw_iload_n (i := 2) (z := 2) C dX3_setVerdicts_45 rfl rfl ?_
      refine tw_iload_n (i := 3) (z := 3) C dX3_setVerdicts_46 rfl rfl ?_
      obtain ⟨x3, hx11, hq11⟩ := obi_some hq5
      have hJ11 : TW K 60 [(0, rv K (3, t0)), (1, rv K (6, t1)), (2, .int x1)] [.int x3, .int x1, rv K (14, t0)] σ2 := by
        obtain ⟨hb14, eh14⟩ := grd_some hq11
        obtain ⟨σ3, es15, eg15⟩ := bnd_ex eh14
        refine tw_iast (r := (14, t0)) C (wa_of rfl h0 (by decide)) hb14 dX3_setVerdicts_60 ?_
        rw [es15]
        obtain ⟨x4, ex16, eh16⟩ := bnd_ex eg15
        refine tw_iinc (z := 2) (v := x4) (lv' := [(0, rv K (3, t0)), (1, rv K (6, t1)), (2, .int x4)]) C [1, 2, 0] dX3_setVerdicts_61 rfl ex16 (by rw [hnL]; decide) rfl ?_
        refine tw_goto (tgt := 2) C dX3_setVerdicts_64 (by decide) ?_
        have hz := lp_c eh16 hk2
        exact hz
      refine tw_if_eq (tgt := 59) C dX3_setVerdicts_47 (by decide) (fun hc12 => ?_) (fun hc12 => ?_)
      · have ht12 := ite_t hc12 hx11
        refine tw_iconst (v := (-1)) C dX3_setVerdicts_59 (by decide) ?_
        refine tw_sub [0, 1, 2] rfl ?_
        obtain rfl := (Option.some.inj ht12)
        exact hJ11
      · have hf12 := ite_f hc12 hx11
        refine tw_aload_n (i := 1) (z := 1) (r := (6, t1)) C dX3_setVerdicts_50 rfl rfl ?_
        refine tw_getR (g := 20) (z := 0) (j' := t1) C fl_RX3_37 rfl (wcells_mem (f := 6) (j := t1) (by decide) h1) rfl rfl dX3_setVerdicts_51 ?_
        refine tw_iload_n (i := 2) (z := 2) C dX3_setVerdicts_54 rfl rfl ?_
        obtain ⟨hb13, eh13⟩ := grd_some hf12
        refine tw_iald (r := (20, t1)) C (ia_of rfl h1) hb13 dX3_setVerdicts_55 ?_
        refine tw_goto (tgt := 60) C dX3_setVerdicts_56 (by decide) ?_
        refine tw_sub [0, 1, 2] rfl ?_
        obtain rfl := (Option.some.inj eh13)
        exact hJ11
    refine tw_if_eq (tgt := 39) C dX3_setVerdicts_13 (by decide) (fun hc6 => ?_) (fun hc6 => ?_)
    · have ht6 := ite_f (b2i_z hc6) hx5
      refine tw_iconst (v := 0) C dX3_setVerdicts_39 (by decide) ?_
      obtain rfl := (Option.some.inj ht6)
      exact hJ5
    · have hf6 := ite_t (b2i_nz hc6) hx5
      refine tw_aload_n (i := 1) (z := 1) (r := (6, t1)) C dX3_setVerdicts_16 rfl rfl ?_
      refine tw_getR (g := 20) (z := 0) (j' := t1) C fl_RX3_37 rfl (wcells_mem (f := 6) (j := t1) (by decide) h1) rfl rfl dX3_setVerdicts_17 ?_
      refine tw_iload_n (i := 2) (z := 2) C dX3_setVerdicts_20 rfl rfl ?_
      obtain ⟨hb7, eh7⟩ := grd_some hf6
      refine tw_iald (r := (20, t1)) C (ia_of rfl h1) hb7 dX3_setVerdicts_21 ?_
      refine tw_if_eq (tgt := 35) C dX3_setVerdicts_22 (by decide) (fun hc8 => ?_) (fun hc8 => ?_)
      · have ht8 := ite_t hc8 eh7
        refine tw_iconst (v := 1) C dX3_setVerdicts_35 (by decide) ?_
        refine tw_goto (tgt := 40) C dX3_setVerdicts_36 (by decide) ?_
        obtain rfl := (Option.some.inj ht8)
        exact hJ5
      · have hf8 := ite_f hc8 eh7
        refine tw_aload_n (i := 1) (z := 1) (r := (6, t1)) C dX3_setVerdicts_25 rfl rfl ?_
        refine tw_getR (g := 20) (z := 0) (j' := t1) C fl_RX3_37 rfl (wcells_mem (f := 6) (j := t1) (by decide) h1) rfl rfl dX3_setVerdicts_26 ?_
        refine tw_iload_n (i := 2) (z := 2) C dX3_setVerdicts_29 rfl rfl ?_
        obtain ⟨hb9, eh9⟩ := grd_some hf8
        refine tw_iald (r := (20, t1)) C (ia_of rfl h1) hb9 dX3_setVerdicts_30 ?_
        refine tw_iconst (v := 1) C dX3_setVerdicts_31 (by decide) ?_
        refine tw_ic_ne (tgt := 39) C dX3_setVerdicts_32 (by decide) (fun hc10 => ?_) (fun hc10 => ?_)
        · have ht10 := ite_f hc10 eh9
          refine tw_iconst (v := 0) C dX3_setVerdicts_39 (by decide) ?_
          obtain rfl := (Option.some.inj ht10)
          exact hJ5
        · have hf10 := ite_t hc10 eh9
          refine tw_iconst (v := 1) C dX3_setVerdicts_35 (by decide) ?_
          refine tw_goto (tgt := 40) C dX3_setVerdicts_36 (by decide) ?_
          obtain rfl := (Option.some.inj hf10)
          exact hJ5

set_option maxRecDepth 20000 in
def fX4_begin (σ : St) (t0 : Nat) : St :=
  bnd (su σ (4, t0) 0 (3 : Int32)) (fun σ1 =>
  bnd (su σ1 (4, t0) 1 (2 : Int32)) (fun σ2 =>
  bnd (su σ2 (4, t0) 2 (0 : Int32)) (fun σ3 =>
  bnd (su σ3 (4, t0) 3 (0 : Int32)) (fun σ4 =>
  bnd (su σ4 (4, t0) 4 (0 : Int32)) (fun σ5 =>
  bnd (su σ5 (4, t0) 5 (0 : Int32)) (fun σ6 =>
  bnd (su σ6 (4, t0) 6 (0 : Int32)) (fun σ7 =>
  bnd (su σ7 (4, t0) 7 (0 : Int32)) (fun σ8 =>
  bnd (su σ8 (4, t0) 8 (0 : Int32)) (fun σ9 =>
  bnd (su σ9 (4, t0) 9 (0 : Int32)) (fun σ10 =>
  σ10))))))))))
set_option maxRecDepth 20000 in
set_option maxHeartbeats 4000000 in
theorem kX4_begin (G : Gx) (d : Nat) (hdp : 1 ≤ d) (σ : St) (t0 : Nat) (h0 : t0 < 3) {σ' : St} (h : fX4_begin σ t0 = σ') : MS G d yX4_begin cX4_begin 1 none [.ref (G.2.1 (4, t0))] σ none σ' := by
  refine MS_of (by decide) (Nat.le_of_ble_eq_true rfl) rfl (fun K hG hnL C hR hK => ?_) (by omega)
  subst hG
  show TW K 0 [(0, rv K (4, t0))] [] σ
  unfold fX4_begin at h
  refine tw_aload_n (i := 0) (z := 0) (r := (4, t0)) C dX4_begin_0 rfl rfl ?_
  refine tw_iconst (v := 3) C dX4_begin_1 (by decide) ?_
  obtain ⟨σ1, es1, eh1⟩ := bnd_ex h
  refine tw_put C fl_RX4_9 (fun q hq => by cases hq; rfl) rfl (wcells_mem (f := 4) (j := t0) (by decide) h0) rfl rfl rfl dX4_begin_2 ?_
  rw [es1]
  refine tw_aload_n (i := 0) (z := 0) (r := (4, t0)) C dX4_begin_5 rfl rfl ?_
  refine tw_iconst (v := 2) C dX4_begin_6 (by decide) ?_
  obtain ⟨σ2, es2, eh2⟩ := bnd_ex eh1
  refine tw_put C fl_RX4_15 (fun q hq => by cases hq; rfl) rfl (wcells_mem (f := 4) (j := t0) (by decide) h0) rfl rfl rfl dX4_begin_7 ?_
  rw [es2]
  refine tw_aload_n (i := 0) (z := 0) (r := (4, t0)) C dX4_begin_10 rfl rfl ?_
  refine tw_iconst (v := 0) C dX4_begin_11 (by decide) ?_
  obtain ⟨σ3, es3, eh3⟩ := bnd_ex eh2
  refine tw_put C fl_RX4_18 (fun q hq => by cases hq; rfl) rfl (wcells_mem (f := 4) (j := t0) (by decide) h0) rfl rfl rfl dX4_begin_12 ?_
  rw [es3]
  refine tw_aload_n (i := 0) (z := 0) (r := (4, t0)) C dX4_begin_15 rfl rfl ?_
  refine tw_iconst (v := 0) C dX4_begin_16 (by decide) ?_
  obtain ⟨σ4, es4, eh4⟩ := bnd_ex eh3
  refine tw_put C fl_RX4_21 (fun q hq => by cases hq; rfl) rfl (wcells_mem (f := 4) (j := t0) (by decide) h0) rfl rfl rfl dX4_begin_17 ?_
  rw [es4]
  refine tw_aload_n (i := 0) (z := 0) (r := (4, t0)) C dX4_begin_20 rfl rfl ?_
  refine tw_iconst (v := 0) C dX4_begin_21 (by decide) ?_
  obtain ⟨σ5, es5, eh5⟩ := bnd_ex eh4
  refine tw_put C fl_RX4_24 (fun q hq => by cases hq; rfl) rfl (wcells_mem (f := 4) (j := t0) (by decide) h0) rfl rfl rfl dX4_begin_22 ?_
  rw [es5]
  refine tw_aload_n (i := 0) (z := 0) (r := (4, t0)) C dX4_begin_25 rfl rfl ?_
  refine tw_iconst (v := 0) C dX4_begin_26 (by decide) ?_
  obtain ⟨σ6, es6, eh6⟩ := bnd_ex eh5
  refine tw_put C fl_RX4_27 (fun q hq => by cases hq; rfl) rfl (wcells_mem (f := 4) (j := t0) (by decide) h0) rfl rfl rfl dX4_begin_27 ?_
  rw [es6]
  refine tw_aload_n (i := 0) (z := 0) (r := (4, t0)) C dX4_begin_30 rfl rfl ?_
  refine tw_iconst (v := 0) C dX4_begin_31 (by decide) ?_
  obtain ⟨σ7, es7, eh7⟩ := bnd_ex eh6
  refine tw_put C fl_RX4_30 (fun q hq => by cases hq; rfl) rfl (wcells_mem (f := 4) (j := t0) (by decide) h0) rfl rfl rfl dX4_begin_32 ?_
  rw [es7]
  refine tw_aload_n (i := 0) (z := 0) (r := (4, t0)) C dX4_begin_35 rfl rfl ?_
  refine tw_iconst (v := 0) C dX4_begin_36 (by decide) ?_
  obtain ⟨σ8, es8, eh8⟩ := bnd_ex eh7
  refine tw_put C fl_RX4_33 (fun q hq => by cases hq; rfl) rfl (wcells_mem (f := 4) (j := t0) (by decide) h0) rfl rfl rfl dX4_begin_37 ?_
  rw [es8]
  refine tw_aload_n (i := 0) (z := 0) (r := (4, t0)) C dX4_begin_40 rfl rfl ?_
  refine tw_iconst (v := 0) C dX4_begin_41 (by decide) ?_
  obtain ⟨σ9, es9, eh9⟩ := bnd_ex eh8
  refine tw_put C fl_RX4_36 (fun q hq => by cases hq; rfl) rfl (wcells_mem (f := 4) (j := t0) (by decide) h0) rfl rfl rfl dX4_begin_42 ?_
  rw [es9]
  refine tw_aload_n (i := 0) (z := 0) (r := (4, t0)) C dX4_begin_45 rfl rfl ?_
  refine tw_iconst (v := 0) C dX4_begin_46 (by decide) ?_
  obtain ⟨σ10, es10, eh10⟩ := bnd_ex eh9
  refine tw_put C fl_RX4_39 (fun q hq => by cases hq; rfl) rfl (wcells_mem (f := 4) (j := t0) (by decide) h0) rfl rfl rfl dX4_begin_47 ?_
  rw [es10]
  obtain rfl := eh10
  exact tw_vret C hK rfl rfl dX4_begin_50

set_option maxRecDepth 20000 in
def fX4_isEnded (σ : St) (t0 : Nat) (r1 : Rf) : Option (Bool) :=
  grd (isIA r1 && inb (15 : Int32) (alen r1.1)) (
  bnd (σ r1 (tn (15 : Int32))) (fun x1 =>
  grd (isIA r1 && inb (16 : Int32) (alen r1.1)) (
  if (σ r1 (tn (16 : Int32))) ≤ (σ (4, t0) 9) then
    some true
  else
    if x1 ≤ 0 then
      some false
    else
      if x1 ≤ (σ (4, t0) 4) then
        some true
      else
        if (σ (4, t0) 5) < x1 then
          some false
        else
          some true)))
set_option maxRecDepth 20000 in
set_option maxHeartbeats 4000000 in
theorem kX4_isEnded (G : Gx) (d : Nat) (hdp : 1 ≤ d) (σ : St) (t0 : Nat) (r1 : Rf) (h0 : t0 < 3) {v0 : Bool} (h : fX4_isEnded σ t0 r1 = some v0) : MS G d yX4_isEnded cX4_isEnded 3 (some .boolean) [.ref (G.2.1 (4, t0)), .ref (G.2.1 r1)] σ (some (.int (b2i v0))) σ := by
  refine MS_of (by decide) (Nat.le_of_ble_eq_true rfl) rfl (fun K hG hnL C hR hK => ?_) (by omega)
  subst hG
  show TW K 0 [(0, rv K (4, t0)), (1, rv K r1)] [] σ
  unfold fX4_isEnded at h
  refine tw_aload_n (i := 1) (z := 1) (r := r1) C dX4_isEnded_0 rfl rfl ?_
  refine tw_bipush (v := 15) C dX4_isEnded_1 (by decide) ?_
  obtain ⟨hb1, eh1⟩ := grd_some h
  refine tw_iald (r := r1) C (and_t hb1).1 (and_t hb1).2 dX4_isEnded_3 ?_
  obtain ⟨x1, ex2, eh2⟩ := bnd_ex eh1
  refine tw_topi ex2.symm ?_
  refine tw_istore_n (lv' := [(0, rv K (4, t0)), (1, rv K r1), (2, .int x1)]) C [1, 2, 0] dX4_isEnded_4 rfl (by rw [hnL]; decide) rfl ?_
  refine tw_aload_n (i := 0) (z := 0) (r := (4, t0)) C dX4_isEnded_5 rfl rfl ?_
  refine tw_getI C fl_RX4_39 rfl (wcells_mem (f := 4) (j := t0) (by decide) h0) rfl dX4_isEnded_6 ?_
  refine tw_aload_n (i := 1) (z := 1) (r := r1) C dX4_isEnded_9 rfl rfl ?_
  refine tw_bipush (v := 16) C dX4_isEnded_10 (by decide) ?_
  obtain ⟨hb3, eh3⟩ := grd_some eh2
  refine tw_iald (r := r1) C (and_t hb3).1 (and_t hb3).2 dX4_isEnded_12 ?_
  refine tw_ic_ge (tgt := 36) C dX4_isEnded_13 (by decide) (fun hc4 => ?_) (fun hc4 => ?_)
  · have ht4 := ite_t hc4 eh3
    refine tw_iconst (v := 1) C dX4_isEnded_36 (by decide) ?_
    refine tw_goto (tgt := 41) C dX4_isEnded_37 (by decide) ?_
    obtain rfl := (Option.some.inj ht4)
    exact tw_zret C hK rfl rfl rfl dX4_isEnded_41
  · have hf4 := ite_f hc4 eh3
    refine tw_iload_n (i := 2) (z := 2) C dX4_isEnded_16 rfl rfl ?_
    refine tw_if_le (tgt := 40) C dX4_isEnded_17 (by decide) (fun hc5 => ?_) (fun hc5 => ?_)
    · have ht5 := ite_t hc5 hf4
      refine tw_iconst (v := 0) C dX4_isEnded_40 (by decide) ?_
      obtain rfl := (Option.some.inj ht5)
      exact tw_zret C hK rfl rfl rfl dX4_isEnded_41
    · have hf5 := ite_f hc5 hf4
      refine tw_aload_n (i := 0) (z := 0) (r := (4, t0)) C dX4_isEnded_20 rfl rfl ?_
      refine tw_getI C fl_RX4_24 rfl (wcells_mem (f := 4) (j := t0) (by decide) h0) rfl dX4_isEnded_21 ?_
      refine tw_iload_n (i := 2) (z := 2) C dX4_isEnded_24 rfl rfl ?_
      refine tw_ic_ge (tgt := 36) C dX4_isEnded_25 (by decide) (fun hc6 => ?_) (fun hc6 => ?_)
      · have ht6 := ite_t hc6 hf5
        refine tw_iconst (v := 1) C dX4_isEnded_36 (by decide) ?_
        refine tw_goto (tgt := 41) C dX4_isEnded_37 (by decide) ?_
        obtain rfl := (Option.some.inj ht6)
        exact tw_zret C hK rfl rfl rfl dX4_isEnded_41
      · have hf6 := ite_f hc6 hf5
        refine tw_aload_n (i := 0) (z := 0) (r := (4, t0)) C dX4_isEnded_28 rfl rfl ?_
        refine tw_getI C fl_RX4_27 rfl (wcells_mem (f := 4) (j := t0) (by decide) h0) rfl dX4_isEnded_29 ?_
        refine tw_iload_n (i := 2) (z := 2) C dX4_isEnded_32 rfl rfl ?_
        refine tw_ic_lt (tgt := 40) C dX4_isEnded_33 (by decide) (fun hc7 => ?_) (fun hc7 => ?_)
        · have ht7 := ite_t hc7 hf6
          refine tw_iconst (v := 0) C dX4_isEnded_40 (by decide) ?_
          obtain rfl := (Option.some.inj ht7)
          exact tw_zret C hK rfl rfl rfl dX4_isEnded_41
        · have hf7 := ite_f hc7 hf6
          refine tw_iconst (v := 1) C dX4_isEnded_36 (by decide) ?_
          refine tw_goto (tgt := 41) C dX4_isEnded_37 (by decide) ?_
          obtain rfl := (Option.some.inj hf7)
          exact tw_zret C hK rfl rfl rfl dX4_isEnded_41

set_option maxRecDepth 20000 in
def fX8_isSeen (a0 : Int32) : Bool :=
  if a0 < 0 then
    false
  else
    if (40 : Int32) ≤ a0 then
      false
    else
      true
set_option maxRecDepth 20000 in
set_option maxHeartbeats 4000000 in
theorem kX8_isSeen (G : Gx) (d : Nat) (hdp : 1 ≤ d) (σ : St) (a0 : Int32)  {v0 : Bool} (h : fX8_isSeen a0 = v0) : MS G d yX8_isSeen cX8_isSeen 1 (some .boolean) [.int a0] σ (some (.int (b2i v0))) σ := by
  refine MS_of (by decide) (Nat.le_of_ble_eq_true rfl) rfl (fun K hG hnL C hR hK => ?_) (by omega)
  subst hG
  show TW K 0 [(0, .int a0)] [] σ
  unfold fX8_isSeen at h
  refine tw_iload_n (i := 0) (z := 0) C dX8_isSeen_0 rfl rfl ?_
  refine tw_if_lt (tgt := 14) C dX8_isSeen_1 (by decide) (fun hc1 => ?_) (fun hc1 => ?_)
  · have ht1 := ite_t hc1 h
    refine tw_iconst (v := 0) C dX8_isSeen_14 (by decide) ?_
    obtain rfl := ht1
    exact tw_zret C hK rfl rfl rfl dX8_isSeen_15
  · have hf1 := ite_f hc1 h
    refine tw_iload_n (i := 0) (z := 0) C dX8_isSeen_4 rfl rfl ?_
    refine tw_bipush (v := 40) C dX8_isSeen_5 (by decide) ?_
    refine tw_ic_ge (tgt := 14) C dX8_isSeen_7 (by decide) (fun hc2 => ?_) (fun hc2 => ?_)
    · have ht2 := ite_t hc2 hf1
      refine tw_iconst (v := 0) C dX8_isSeen_14 (by decide) ?_
      obtain rfl := ht2
      exact tw_zret C hK rfl rfl rfl dX8_isSeen_15
    · have hf2 := ite_f hc2 hf1
      refine tw_iconst (v := 1) C dX8_isSeen_10 (by decide) ?_
      refine tw_goto (tgt := 15) C dX8_isSeen_11 (by decide) ?_
      obtain rfl := hf2
      exact tw_zret C hK rfl rfl rfl dX8_isSeen_15

set_option maxRecDepth 20000 in
def fX8_sideOf (a0 : Int32) : Int32 :=
  irm (a0 / (10 : Int32)) (2 : Int32)
set_option maxRecDepth 20000 in
set_option maxHeartbeats 4000000 in
theorem kX8_sideOf (G : Gx) (d : Nat) (hdp : 1 ≤ d) (σ : St) (a0 : Int32)  {v0 : Int32} (h : fX8_sideOf a0 = v0) : MS G d yX8_sideOf cX8_sideOf 1 (some .int) [.int a0] σ (some (.int v0)) σ := by
  refine MS_of (by decide) (Nat.le_of_ble_eq_true rfl) rfl (fun K hG hnL C hR hK => ?_) (by omega)
  subst hG
  show TW K 0 [(0, .int a0)] [] σ
  unfold fX8_sideOf at h
  refine tw_iload_n (i := 0) (z := 0) C dX8_sideOf_0 rfl rfl ?_
  refine tw_bipush (v := 10) C dX8_sideOf_1 (by decide) ?_
  refine tw_idiv C dX8_sideOf_3 (by decide) ?_
  refine tw_iconst (v := 2) C dX8_sideOf_4 (by decide) ?_
  refine tw_irem C dX8_sideOf_5 (by decide) ?_
  obtain rfl := h
  exact tw_iret C hK rfl rfl dX8_sideOf_6

set_option maxRecDepth 20000 in
def fX8_actOf (a0 : Int32) : Int32 :=
  irm a0 (10 : Int32)
set_option maxRecDepth 20000 in
set_option maxHeartbeats 4000000 in
theorem kX8_actOf (G : Gx) (d : Nat) (hdp : 1 ≤ d) (σ : St) (a0 : Int32)  {v0 : Int32} (h : fX8_actOf a0 = v0) : MS G d yX8_actOf cX8_actOf 1 (some .int) [.int a0] σ (some (.int v0)) σ := by
  refine MS_of (by decide) (Nat.le_of_ble_eq_true rfl) rfl (fun K hG hnL C hR hK => ?_) (by omega)
  subst hG
  show TW K 0 [(0, .int a0)] [] σ
  unfold fX8_actOf at h
  refine tw_iload_n (i := 0) (z := 0) C dX8_actOf_0 rfl rfl ?_
  refine tw_bipush (v := 10) C dX8_actOf_1 (by decide) ?_
  refine tw_irem C dX8_actOf_3 (by decide) ?_
  obtain rfl := h
  exact tw_iret C hK rfl rfl dX8_actOf_4

set_option maxRecDepth 20000 in
def fX8_fromOwnEnd (a0 : Int32) (a1 : Int32) : Int32 :=
  if a0 = 0 then
    a1
  else
    (6 : Int32) - a1
set_option maxRecDepth 20000 in
set_option maxHeartbeats 4000000 in
theorem kX8_fromOwnEnd (G : Gx) (d : Nat) (hdp : 1 ≤ d) (σ : St) (a0 : Int32) (a1 : Int32)  {v0 : Int32} (h : fX8_fromOwnEnd a0 a1 = v0) : MS G d yX8_fromOwnEnd cX8_fromOwnEnd 2 (some .int) [.int a0, .int a1] σ (some (.int v0)) σ := by
  refine MS_of (by decide) (Nat.le_of_ble_eq_true rfl) rfl (fun K hG hnL C hR hK => ?_) (by omega)
  subst hG
  show TW K 0 [(0, .int a0), (1, .int a1)] [] σ
  unfold fX8_fromOwnEnd at h
  refine tw_iload_n (i := 0) (z := 0) C dX8_fromOwnEnd_0 rfl rfl ?_
  refine tw_if_ne (tgt := 8) C dX8_fromOwnEnd_1 (by decide) (fun hc1 => ?_) (fun hc1 => ?_)
  · have ht1 := ite_f hc1 h
    refine tw_bipush (v := 6) C dX8_fromOwnEnd_8 (by decide) ?_
    refine tw_iload_n (i := 1) (z := 1) C dX8_fromOwnEnd_10 rfl rfl ?_
    refine tw_isub C dX8_fromOwnEnd_11 ?_
    obtain rfl := ht1
    exact tw_iret C hK rfl rfl dX8_fromOwnEnd_12
  · have hf1 := ite_t hc1 h
    refine tw_iload_n (i := 1) (z := 1) C dX8_fromOwnEnd_4 rfl rfl ?_
    refine tw_goto (tgt := 12) C dX8_fromOwnEnd_5 (by decide) ?_
    obtain rfl := hf1
    exact tw_iret C hK rfl rfl dX8_fromOwnEnd_12

set_option maxRecDepth 20000 in
def fX4_canBe (σ : St) (t0 : Nat) (a1 : Int32) (a2 : Int32) : Bool :=
  bnd (if (σ (4, t0) 1) = a1 then
    (1 : Int32)
  else
    (0 : Int32)) (fun x1 =>
  bnd (fX8_fromOwnEnd a1 (σ (4, t0) 0)) (fun x2 =>
  if a2 = 0 ∨ a2 = 2 then
    if x1 = 0 then
      false
    else
      if (σ (4, t0) 2) = 0 then
        true
      else
        false
  else
    if a2 = 1 then
      if x1 = 0 then
        if (σ (4, t0) 2) = (1 : Int32) then
          false
        else
          true
      else
        false
    else
      if a2 = 3 then
        if (σ (4, t0) 2) = (2 : Int32) then
          true
        else
          false
      else
        if a2 = 4 then
          if x1 = 0 then
            false
          else
            if (6 : Int32) ≤ x2 then
              false
            else
              true
        else
          if a2 = 5 ∨ a2 = 6 then
            if x1 = 0 then
              false
            else
              if (σ (4, t0) 2) = (1 : Int32) then
                true
              else
                false
          else
            if a2 = 7 then
              if (σ (4, t0) 1) = ((1 : Int32) - a1) then
                true
              else
                false
            else
              if a2 = 8 then
                if x1 = 0 then
                  false
                else
                  if x2 < (4 : Int32) then
                    false
                  else
                    true
              else
                if a2 = 9 then
                  if x1 = 0 then
                    false
                  else
                    if (σ (4, t0) 2) = 0 then
                      if x2 < (5 : Int32) then
                        false
                      else
                        true
                    else
                      false
                else
                  false))
set_option maxRecDepth 20000 in
set_option maxHeartbeats 4000000 in
theorem kX4_canBe (G : Gx) (d : Nat) (hdp : 2 ≤ d) (σ : St) (t0 : Nat) (a1 : Int32) (a2 : Int32) (h0 : t0 < 3) {v0 : Bool} (h : fX4_canBe σ t0 a1 a2 = v0) : MS G d yX4_canBe cX4_canBe 5 (some .boolean) [.ref (G.2.1 (4, t0)), .int a1, .int a2] σ (some (.int (b2i v0))) σ := by
  refine MS_of (by decide) (Nat.le_of_ble_eq_true rfl) rfl (fun K hG hnL C hR hK => ?_) (by omega)
  subst hG
  show TW K 0 [(0, rv K (4, t0)), (1, .int a1), (2, .int a2)] [] σ
  unfold fX4_canBe at h
  refine tw_aload_n (i := 0) (z := 0) (r := (4, t0)) C dX4_canBe_0 rfl rfl ?_
  refine tw_getI C fl_RX4_15 rfl (wcells_mem (f := 4) (j := t0) (by decide) h0) rfl dX4_canBe_1 ?_
  refine tw_iload_n (i := 1) (z := 1) C dX4_canBe_4 rfl rfl ?_
  obtain ⟨x1, hx1, hq1⟩ := bnd_ex h
  have hJ1 : TW K 13 [(0, rv K (4, t0)), (1, .int a1), (2, .int a2)] [.int x1] σ := by
    refine tw_istore_n (lv' := [(0, rv K (4, t0)), (1, .int a1), (2, .int a2), (3, .int x1)]) C [1, 2, 3, 0] dX4_canBe_13 rfl (by rw [hnL]; decide) rfl ?_
    refine tw_iload_n (i := 1) (z := 1) C dX4_canBe_14 rfl rfl ?_
    refine tw_aload_n (i := 0) (z := 0) (r := (4, t0)) C dX4_canBe_15 rfl rfl ?_
    refine tw_getI C fl_RX4_9 rfl (wcells_mem (f := 4) (j := t0) (by decide) h0) rfl dX4_canBe_16 ?_
    refine tw_callSN (As := [.int a1, .int (σ (4, t0) 0)]) (rest := []) C hR (kX8_fromOwnEnd K.1 _ (by omega) σ a1 (σ (4, t0) 0)  rfl) mi_X8_fromOwnEnd st_X8_fromOwnEnd ml_RX4_69 rfl rfl (Nat.le_of_ble_eq_true rfl) dX4_canBe_19 ?_
    show TW K 22 [(0, rv K (4, t0)), (1, .int a1), (2, .int a2), (3, .int x1)] [.int (fX8_fromOwnEnd a1 (σ (4, t0) 0))] σ
    obtain ⟨x2, ex3, eh3⟩ := bnd_ex hq1
    refine tw_topi ex3.symm ?_
    refine tw_istore (lv' := [(0, rv K (4, t0)), (1, .int a1), (2, .int a2), (3, .int x1), (4, .int x2)]) C [1, 2, 3, 4, 0] dX4_canBe_22 (by rw [hnL]; decide) rfl ?_
    refine tw_iload_n (i := 2) (z := 2) C dX4_canBe_24 rfl rfl ?_
    by_cases hc4_0 : a2 = 0 ∨ a2 = 2
    · have ht4_0 := ite_t hc4_0 eh3
      have hT4_0 : TW K 80 [(0, rv K (4, t0)), (1, .int a1), (2, .int a2), (3, .int x1), (4, .int x2)] [] σ := by
        refine tw_iload_n (i := 3) (z := 3) C dX4_canBe_80 rfl rfl ?_
        refine tw_if_eq (tgt := 95) C dX4_canBe_81 (by decide) (fun hc5 => ?_) (fun hc5 => ?_)
        · have ht5 := ite_t hc5 ht4_0
          refine tw_iconst (v := 0) C dX4_canBe_95 (by decide) ?_
          obtain rfl := ht5
          exact tw_zret C hK rfl rfl rfl dX4_canBe_96
        · have hf5 := ite_f hc5 ht4_0
          refine tw_aload_n (i := 0) (z := 0) (r := (4, t0)) C dX4_canBe_84 rfl rfl ?_
          refine tw_getI C fl_RX4_18 rfl (wcells_mem (f := 4) (j := t0) (by decide) h0) rfl dX4_canBe_85 ?_
          refine tw_if_ne (tgt := 95) C dX4_canBe_88 (by decide) (fun hc6 => ?_) (fun hc6 => ?_)
          · have ht6 := ite_f hc6 hf5
            refine tw_iconst (v := 0) C dX4_canBe_95 (by decide) ?_
            obtain rfl := ht6
            exact tw_zret C hK rfl rfl rfl dX4_canBe_96
          · have hf6 := ite_t hc6 hf5
            refine tw_iconst (v := 1) C dX4_canBe_91 (by decide) ?_
            refine tw_goto (tgt := 96) C dX4_canBe_92 (by decide) ?_
            obtain rfl := hf6
            exact tw_zret C hK rfl rfl rfl dX4_canBe_96
      rcases hc4_0 with hz | hz
      · exact tw_tabZ (tgt := 80) C dX4_canBe_25 (0) (by rw [hz]; decide) (by decide) (by decide) rfl (by decide) hT4_0
      · exact tw_tabZ (tgt := 80) C dX4_canBe_25 (2) (by rw [hz]; decide) (by decide) (by decide) rfl (by decide) hT4_0
    have hf4_0 := ite_f hc4_0 eh3
    by_cases hc4_1 : a2 = 1
    · have ht4_1 := ite_t hc4_1 hf4_0
      refine tw_tabZ (tgt := 97) C dX4_canBe_25 (1) (by rw [hc4_1]; decide) (by decide) (by decide) rfl (by decide) ?_
      refine tw_iload_n (i := 3) (z := 3) C dX4_canBe_97 rfl rfl ?_
      refine tw_if_ne (tgt := 113) C dX4_canBe_98 (by decide) (fun hc7 => ?_) (fun hc7 => ?_)
      · have ht7 := ite_f hc7 ht4_1
        refine tw_iconst (v := 0) C dX4_canBe_113 (by decide) ?_
        obtain rfl := ht7
        exact tw_zret C hK rfl rfl rfl dX4_canBe_114
      · have hf7 := ite_t hc7 ht4_1
        refine tw_aload_n (i := 0) (z := 0) (r := (4, t0)) C dX4_canBe_101 rfl rfl ?_
        refine tw_getI C fl_RX4_18 rfl (wcells_mem (f := 4) (j := t0) (by decide) h0) rfl dX4_canBe_102 ?_
        refine tw_iconst (v := 1) C dX4_canBe_105 (by decide) ?_
        refine tw_ic_eq (tgt := 113) C dX4_canBe_106 (by decide) (fun hc8 => ?_) (fun hc8 => ?_)
        · have ht8 := ite_t hc8 hf7
          refine tw_iconst (v := 0) C dX4_canBe_113 (by decide) ?_
          obtain rfl := ht8
          exact tw_zret C hK rfl rfl rfl dX4_canBe_114
        · have hf8 := ite_f hc8 hf7
          refine tw_iconst (v := 1) C dX4_canBe_109 (by decide) ?_
          refine tw_goto (tgt := 114) C dX4_canBe_110 (by decide) ?_
          obtain rfl := hf8
          exact tw_zret C hK rfl rfl rfl dX4_canBe_114
    have hf4_1 := ite_f hc4_1 hf4_0
    by_cases hc4_2 : a2 = 3
    · have ht4_2 := ite_t hc4_2 hf4_1
      refine tw_tabZ (tgt := 115) C dX4_canBe_25 (3) (by rw [hc4_2]; decide) (by decide) (by decide) rfl (by decide) ?_
      refine tw_aload_n (i := 0) (z := 0) (r := (4, t0)) C dX4_canBe_115 rfl rfl ?_
      refine tw_getI C fl_RX4_18 rfl (wcells_mem (f := 4) (j := t0) (by decide) h0) rfl dX4_canBe_116 ?_
      refine tw_iconst (v := 2) C dX4_canBe_119 (by decide) ?_
      refine tw_ic_ne (tgt := 127) C dX4_canBe_120 (by decide) (fun hc9 => ?_) (fun hc9 => ?_)
      · have ht9 := ite_f hc9 ht4_2
        refine tw_iconst (v := 0) C dX4_canBe_127 (by decide) ?_
        obtain rfl := ht9
        exact tw_zret C hK rfl rfl rfl dX4_canBe_128
      · have hf9 := ite_t hc9 ht4_2
        refine tw_iconst (v := 1) C dX4_canBe_123 (by decide) ?_
        refine tw_goto (tgt := 128) C dX4_canBe_124 (by decide) ?_
        obtain rfl := hf9
        exact tw_zret C hK rfl rfl rfl dX4_canBe_128
    have hf4_2 := ite_f hc4_2 hf4_1
    by_cases hc4_3 : a2 = 4
    · have ht4_3 := ite_t hc4_3 hf4_2
      refine tw_tabZ (tgt := 129) C dX4_canBe_25 (4) (by rw [hc4_3]; decide) (by decide) (by decide) rfl (by decide) ?_
      refine tw_iload_n (i := 3) (z := 3) C dX4_canBe_129 rfl rfl ?_
      refine tw_if_eq (tgt := 144) C dX4_canBe_130 (by decide) (fun hc10 => ?_) (fun hc10 => ?_)
      · have ht10 := ite_t hc10 ht4_3
        refine tw_iconst (v := 0) C dX4_canBe_144 (by decide) ?_
        obtain rfl := ht10
        exact tw_zret C hK rfl rfl rfl dX4_canBe_145
      · have hf10 := ite_f hc10 ht4_3
        refine tw_iload (i := 4) (z := 4) C dX4_canBe_133 rfl ?_
        refine tw_bipush (v := 6) C dX4_canBe_135 (by decide) ?_
        refine tw_ic_ge (tgt := 144) C dX4_canBe_137 (by decide) (fun hc11 => ?_) (fun hc11 => ?_)
        · have ht11 := ite_t hc11 hf10
          refine tw_iconst (v := 0) C dX4_canBe_144 (by decide) ?_
          obtain rfl := ht11
          exact tw_zret C hK rfl rfl rfl dX4_canBe_145
        · have hf11 := ite_f hc11 hf10
          refine tw_iconst (v := 1) C dX4_canBe_140 (by decide) ?_
          refine tw_goto (tgt := 145) C dX4_canBe_141 (by decide) ?_
          obtain rfl := hf11
          exact tw_zret C hK rfl rfl rfl dX4_canBe_145
    have hf4_3 := ite_f hc4_3 hf4_2
    by_cases hc4_4 : a2 = 5 ∨ a2 = 6
    · have ht4_4 := ite_t hc4_4 hf4_3
      have hT4_4 : TW K 146 [(0, rv K (4, t0)), (1, .int a1), (2, .int a2), (3, .int x1), (4, .int x2)] [] σ := by
        refine tw_iload_n (i := 3) (z := 3) C dX4_canBe_146 rfl rfl ?_
        refine tw_if_eq (tgt := 162) C dX4_canBe_147 (by decide) (fun hc12 => ?_) (fun hc12 => ?_)
        · have ht12 := ite_t hc12 ht4_4
          refine tw_iconst (v := 0) C dX4_canBe_162 (by decide) ?_
          obtain rfl := ht12
          exact tw_zret C hK rfl rfl rfl dX4_canBe_163
        · have hf12 := ite_f hc12 ht4_4
          refine tw_aload_n (i := 0) (z := 0) (r := (4, t0)) C dX4_canBe_150 rfl rfl ?_
          refine tw_getI C fl_RX4_18 rfl (wcells_mem (f := 4) (j := t0) (by decide) h0) rfl dX4_canBe_151 ?_
          refine tw_iconst (v := 1) C dX4_canBe_154 (by decide) ?_
          refine tw_ic_ne (tgt := 162) C dX4_canBe_155 (by decide) (fun hc13 => ?_) (fun hc13 => ?_)
          · have ht13 := ite_f hc13 hf12
            refine tw_iconst (v := 0) C dX4_canBe_162 (by decide) ?_
            obtain rfl := ht13
            exact tw_zret C hK rfl rfl rfl dX4_canBe_163
          · have hf13 := ite_t hc13 hf12
            refine tw_iconst (v := 1) C dX4_canBe_158 (by decide) ?_
            refine tw_goto (tgt := 163) C dX4_canBe_159 (by decide) ?_
            obtain rfl := hf13
            exact tw_zret C hK rfl rfl rfl dX4_canBe_163
      rcases hc4_4 with hz | hz
      · exact tw_tabZ (tgt := 146) C dX4_canBe_25 (5) (by rw [hz]; decide) (by decide) (by decide) rfl (by decide) hT4_4
      · exact tw_tabZ (tgt := 146) C dX4_canBe_25 (6) (by rw [hz]; decide) (by decide) (by decide) rfl (by decide) hT4_4
    have hf4_4 := ite_f hc4_4 hf4_3
    by_cases hc4_5 : a2 = 7
    · have ht4_5 := ite_t hc4_5 hf4_4
      refine tw_tabZ (tgt := 164) C dX4_canBe_25 (7) (by rw [hc4_5]; decide) (by decide) (by decide) rfl (by decide) ?_
      refine tw_aload_n (i := 0) (z := 0) (r := (4, t0)) C dX4_canBe_164 rfl rfl ?_
      refine tw_getI C fl_RX4_15 rfl (wcells_mem (f := 4) (j := t0) (by decide) h0) rfl dX4_canBe_165 ?_
      refine tw_iconst (v := 1) C dX4_canBe_168 (by decide) ?_
      refine tw_iload_n (i := 1) (z := 1) C dX4_canBe_169 rfl rfl ?_
      refine tw_isub C dX4_canBe_170 ?_
      refine tw_ic_ne (tgt := 178) C dX4_canBe_171 (by decide) (fun hc14 => ?_) (fun hc14 => ?_)
      · have ht14 := ite_f hc14 ht4_5
        refine tw_iconst (v := 0) C dX4_canBe_178 (by decide) ?_
        obtain rfl := ht14
        exact tw_zret C hK rfl rfl rfl dX4_canBe_179
      · have hf14 := ite_t hc14 ht4_5
        refine tw_iconst (v := 1) C dX4_canBe_174 (by decide) ?_
        refine tw_goto (tgt := 179) C dX4_canBe_175 (by decide) ?_
        obtain rfl := hf14
        exact tw_zret C hK rfl rfl rfl dX4_canBe_179
    have hf4_5 := ite_f hc4_5 hf4_4
    by_cases hc4_6 : a2 = 8
    · have ht4_6 := ite_t hc4_6 hf4_5
      refine tw_tabZ (tgt := 180) C dX4_canBe_25 (8) (by rw [hc4_6]; decide) (by decide) (by decide) rfl (by decide) ?_
      refine tw_iload_n (i := 3) (z := 3) C dX4_canBe_180 rfl rfl ?_
      refine tw_if_eq (tgt := 194) C dX4_canBe_181 (by decide) (fun hc15 => ?_) (fun hc15 => ?_)
      · have ht15 := ite_t hc15 ht4_6
        refine tw_iconst (v := 0) C dX4_canBe_194 (by decide) ?_
        obtain rfl := ht15
        exact tw_zret C hK rfl rfl rfl dX4_canBe_195
      · have hf15 := ite_f hc15 ht4_6
        refine tw_iload (i := 4) (z := 4) C dX4_canBe_184 rfl ?_
        refine tw_iconst (v := 4) C dX4_canBe_186 (by decide) ?_
        refine tw_ic_lt (tgt := 194) C dX4_canBe_187 (by decide) (fun hc16 => ?_) (fun hc16 => ?_)
        · have ht16 := ite_t hc16 hf15
          refine tw_iconst (v := 0) C dX4_canBe_194 (by decide) ?_
          obtain rfl := ht16
          exact tw_zret C hK rfl rfl rfl dX4_canBe_195
        · have hf16 := ite_f hc16 hf15
          refine tw_iconst (v := 1) C dX4_canBe_190 (by decide) ?_
          refine tw_goto (tgt := 195) C dX4_canBe_191 (by decide) ?_
          obtain rfl := hf16
          exact tw_zret C hK rfl rfl rfl dX4_canBe_195
    have hf4_6 := ite_f hc4_6 hf4_5
    by_cases hc4_7 : a2 = 9
    · have ht4_7 := ite_t hc4_7 hf4_6
      refine tw_tabZ (tgt := 196) C dX4_canBe_25 (9) (by rw [hc4_7]; decide) (by decide) (by decide) rfl (by decide) ?_
      refine tw_iload_n (i := 3) (z := 3) C dX4_canBe_196 rfl rfl ?_
      refine tw_if_eq (tgt := 217) C dX4_canBe_197 (by decide) (fun hc17 => ?_) (fun hc17 => ?_)
      · have ht17 := ite_t hc17 ht4_7
        refine tw_iconst (v := 0) C dX4_canBe_217 (by decide) ?_
        obtain rfl := ht17
        exact tw_zret C hK rfl rfl rfl dX4_canBe_218
      · have hf17 := ite_f hc17 ht4_7
        refine tw_aload_n (i := 0) (z := 0) (r := (4, t0)) C dX4_canBe_200 rfl rfl ?_
        refine tw_getI C fl_RX4_18 rfl (wcells_mem (f := 4) (j := t0) (by decide) h0) rfl dX4_canBe_201 ?_
        refine tw_if_ne (tgt := 217) C dX4_canBe_204 (by decide) (fun hc18 => ?_) (fun hc18 => ?_)
        · have ht18 := ite_f hc18 hf17
          refine tw_iconst (v := 0) C dX4_canBe_217 (by decide) ?_
          obtain rfl := ht18
          exact tw_zret C hK rfl rfl rfl dX4_canBe_218
        · have hf18 := ite_t hc18 hf17
          refine tw_iload (i := 4) (z := 4) C dX4_canBe_207 rfl ?_
          refine tw_iconst (v := 5) C dX4_canBe_209 (by decide) ?_
          refine tw_ic_lt (tgt := 217) C dX4_canBe_210 (by decide) (fun hc19 => ?_) (fun hc19 => ?_)
          · have ht19 := ite_t hc19 hf18
            refine tw_iconst (v := 0) C dX4_canBe_217 (by decide) ?_
            obtain rfl := ht19
            exact tw_zret C hK rfl rfl rfl dX4_canBe_218
          · have hf19 := ite_f hc19 hf18
            refine tw_iconst (v := 1) C dX4_canBe_213 (by decide) ?_
            refine tw_goto (tgt := 218) C dX4_canBe_214 (by decide) ?_
            obtain rfl := hf19
            exact tw_zret C hK rfl rfl rfl dX4_canBe_218
    have hf4_7 := ite_f hc4_7 hf4_6
    have hT4 : TW K 219 [(0, rv K (4, t0)), (1, .int a1), (2, .int a2), (3, .int x1), (4, .int x2)] [] σ := by
      refine tw_iconst (v := 0) C dX4_canBe_219 (by decide) ?_
      obtain rfl := hf4_7
      exact tw_zret C hK rfl rfl rfl dX4_canBe_220
    have hn4_0 : ¬ (a2).toInt = 0 := lv_neT (k := 0) (fun q => hc4_0 (Or.inl q)) (by decide)
    have hn4_2 : ¬ (a2).toInt = 2 := lv_neT (k := 2) (fun q => hc4_0 (Or.inr q)) (by decide)
    have hn4_1 : ¬ (a2).toInt = 1 := lv_neT (k := 1) hc4_1 (by decide)
    have hn4_3 : ¬ (a2).toInt = 3 := lv_neT (k := 3) hc4_2 (by decide)
    have hn4_4 : ¬ (a2).toInt = 4 := lv_neT (k := 4) hc4_3 (by decide)
    have hn4_5 : ¬ (a2).toInt = 5 := lv_neT (k := 5) (fun q => hc4_4 (Or.inl q)) (by decide)
    have hn4_6 : ¬ (a2).toInt = 6 := lv_neT (k := 6) (fun q => hc4_4 (Or.inr q)) (by decide)
    have hn4_7 : ¬ (a2).toInt = 7 := lv_neT (k := 7) hc4_5 (by decide)
    have hn4_8 : ¬ (a2).toInt = 8 := lv_neT (k := 8) hc4_6 (by decide)
    have hn4_9 : ¬ (a2).toInt = 9 := lv_neT (k := 9) hc4_7 (by decide)
    rcases (show (a2).toInt < 0 ∨ 9 < (a2).toInt by omega) with hz | hz
    · exact tw_tabOut (tgt := 219) C dX4_canBe_25 (Or.inl hz) (by decide) hT4
    · exact tw_tabOut (tgt := 219) C dX4_canBe_25 (Or.inr hz) (by decide) hT4
  refine tw_ic_ne (tgt := 12) C dX4_canBe_5 (by decide) (fun hc2 => ?_) (fun hc2 => ?_)
  · have ht2 := ite_f hc2 hx1
    refine tw_iconst (v := 0) C dX4_canBe_12 (by decide) ?_
    obtain rfl := ht2
    exact hJ1
  · have hf2 := ite_t hc2 hx1
    refine tw_iconst (v := 1) C dX4_canBe_8 (by decide) ?_
    refine tw_goto (tgt := 13) C dX4_canBe_9 (by decide) ?_
    obtain rfl := hf2
    exact hJ1

set_option maxRecDepth 20000 in
def fX4_isLet (σ : St) (t0 : Nat) (r1 : Rf) (a2 : Int32) : Option (Bool) :=
  bnd (fX8_actOf a2) (fun x1 =>
  bj (if a2 < (20 : Int32) then
    some (.inr ())
  else
    grd (isIA r1 && inb (13 : Int32) (alen r1.1)) (
    bnd (σ r1 (tn (13 : Int32))) (fun x2 =>
    if x2 = (2 : Int32) then
      some (.inl false)
    else
      if x2 = (1 : Int32) then
        if x1 = (1 : Int32) then
          some (.inl false)
        else
          if x1 = (3 : Int32) then
            some (.inl false)
          else
            some (.inr ())
      else
        some (.inr ())))) (fun _ =>
  grd (isIA r1 && inb x1 (alen r1.1)) (
  if (((σ r1 (tn x1)) >>> ((fX8_fromOwnEnd (fX8_sideOf a2) (σ (4, t0) 0)) &&& 31)) &&& (1 : Int32)) = (1 : Int32) then
    some true
  else
    some false)))
set_option maxRecDepth 20000 in
set_option maxHeartbeats 4000000 in
theorem kX4_isLet (G : Gx) (d : Nat) (hdp : 2 ≤ d) (σ : St) (t0 : Nat) (r1 : Rf) (a2 : Int32) (h0 : t0 < 3) {v0 : Bool} (h : fX4_isLet σ t0 r1 a2 = some v0) : MS G d yX4_isLet cX4_isLet 5 (some .boolean) [.ref (G.2.1 (4, t0)), .ref (G.2.1 r1), .int a2] σ (some (.int (b2i v0))) σ := by
  refine MS_of (by decide) (Nat.le_of_ble_eq_true rfl) rfl (fun K hG hnL C hR hK => ?_) (by omega)
  subst hG
  show TW K 0 [(0, rv K (4, t0)), (1, rv K r1), (2, .int a2)] [] σ
  unfold fX4_isLet at h
  refine tw_iload_n (i := 2) (z := 2) C dX4_isLet_0 rfl rfl ?_
  refine tw_callSN (As := [.int a2]) (rest := []) C hR (kX8_actOf K.1 _ (by omega) σ a2  rfl) mi_X8_actOf st_X8_actOf ml_RX4_50 rfl rfl (Nat.le_of_ble_eq_true rfl) dX4_isLet_1 ?_
  show TW K 4 [(0, rv K (4, t0)), (1, rv K r1), (2, .int a2)] [.int (fX8_actOf a2)] σ
  obtain ⟨x1, ex1, eh1⟩ := bnd_ex h
  refine tw_topi ex1.symm ?_
  refine tw_istore_n (lv' := [(0, rv K (4, t0)), (1, rv K r1), (2, .int a2), (3, .int x1)]) C [1, 2, 3, 0] dX4_isLet_4 rfl (by rw [hnL]; decide) rfl ?_
  refine tw_iload_n (i := 2) (z := 2) C dX4_isLet_5 rfl rfl ?_
  refine tw_bipush (v := 20) C dX4_isLet_6 (by decide) ?_
  obtain ⟨y2, hx2, hy2⟩ := bj_some eh1
  have hJ2 : y2 = .inr () → TW K 41 [(0, rv K (4, t0)), (1, rv K r1), (2, .int a2), (3, .int x1)] [] σ := by
    intro  ey2
    have hq2 := bj_r ey2 hy2
    refine tw_aload_n (i := 1) (z := 1) (r := r1) C dX4_isLet_41 rfl rfl ?_
    refine tw_iload_n (i := 3) (z := 3) C dX4_isLet_42 rfl rfl ?_
    obtain ⟨hb13, eh13⟩ := grd_some hq2
    refine tw_iald (r := r1) C (and_t hb13).1 (and_t hb13).2 dX4_isLet_43 ?_
    refine tw_iload_n (i := 2) (z := 2) C dX4_isLet_44 rfl rfl ?_
    refine tw_callSN (As := [.int a2]) (rest := [.int (σ r1 (tn x1))]) C hR (kX8_sideOf K.1 _ (by omega) σ a2  rfl) mi_X8_sideOf st_X8_sideOf ml_RX4_46 rfl rfl (Nat.le_of_ble_eq_true rfl) dX4_isLet_45 ?_
    show TW K 48 [(0, rv K (4, t0)), (1, rv K r1), (2, .int a2), (3, .int x1)] [.int (fX8_sideOf a2), .int (σ r1 (tn x1))] σ
    refine tw_aload_n (i := 0) (z := 0) (r := (4, t0)) C dX4_isLet_48 rfl rfl ?_
    refine tw_getI C fl_RX4_9 rfl (wcells_mem (f := 4) (j := t0) (by decide) h0) rfl dX4_isLet_49 ?_
    refine tw_callSN (As := [.int (fX8_sideOf a2), .int (σ (4, t0) 0)]) (rest := [.int (σ r1 (tn x1))]) C hR (kX8_fromOwnEnd K.1 _ (by omega) σ (fX8_sideOf a2) (σ (4, t0) 0)  rfl) mi_X8_fromOwnEnd st_X8_fromOwnEnd ml_RX4_69 rfl rfl (Nat.le_of_ble_eq_true rfl) dX4_isLet_52 ?_
    show TW K 55 [(0, rv K (4, t0)), (1, rv K r1), (2, .int a2), (3, .int x1)] [.int (fX8_fromOwnEnd (fX8_sideOf a2) (σ (4, t0) 0)), .int (σ r1 (tn x1))] σ
    refine tw_ishr C dX4_isLet_55 ?_
    refine tw_iconst (v := 1) C dX4_isLet_56 (by decide) ?_
    refine tw_iand C dX4_isLet_57 ?_
    refine tw_iconst (v := 1) C dX4_isLet_58 (by decide) ?_
    refine tw_ic_ne (tgt := 66) C dX4_isLet_59 (by decide) (fun hc14 => ?_) (fun hc14 => ?_)
    · have ht14 := ite_f hc14 eh13
      refine tw_iconst (v := 0) C dX4_isLet_66 (by decide) ?_
      obtain rfl := (Option.some.inj ht14)
      exact tw_zret C hK rfl rfl rfl dX4_isLet_67
    · have hf14 := ite_t hc14 eh13
      refine tw_iconst (v := 1) C dX4_isLet_62 (by decide) ?_
      refine tw_goto (tgt := 67) C dX4_isLet_63 (by decide) ?_
      obtain rfl := (Option.some.inj hf14)
      exact tw_zret C hK rfl rfl rfl dX4_isLet_67
  refine tw_ic_lt (tgt := 41) C dX4_isLet_8 (by decide) (fun hc3 => ?_) (fun hc3 => ?_)
  · have ht3 := ite_t hc3 hx2
    exact hJ2 (Option.some.inj ht3).symm
  · have hf3 := ite_f hc3 hx2
    refine tw_aload_n (i := 1) (z := 1) (r := r1) C dX4_isLet_11 rfl rfl ?_
    refine tw_bipush (v := 13) C dX4_isLet_12 (by decide) ?_
    obtain ⟨hb4, eh4⟩ := grd_some hf3
    refine tw_iald (r := r1) C (and_t hb4).1 (and_t hb4).2 dX4_isLet_14 ?_
    obtain ⟨x2, ex5, eh5⟩ := bnd_ex eh4
    refine tw_topi ex5.symm ?_
    refine tw_istore (lv' := [(0, rv K (4, t0)), (1, rv K r1), (2, .int a2), (3, .int x1), (4, .int x2)]) C [1, 2, 3, 4, 0] dX4_isLet_15 (by rw [hnL]; decide) rfl ?_
    refine tw_iload (i := 4) (z := 4) C dX4_isLet_17 rfl ?_
    refine tw_iconst (v := 2) C dX4_isLet_19 (by decide) ?_
    refine tw_ic_eq (tgt := 39) C dX4_isLet_20 (by decide) (fun hc6 => ?_) (fun hc6 => ?_)
    · have ht6 := ite_t hc6 eh5
      refine tw_iconst (v := 0) C dX4_isLet_39 (by decide) ?_
      have e7 := bj_l ht6 hy2
      obtain rfl := (Option.some.inj e7)
      exact tw_zret C hK rfl rfl rfl dX4_isLet_40
    · have hf6 := ite_f hc6 eh5
      refine tw_iload (i := 4) (z := 4) C dX4_isLet_23 rfl ?_
      refine tw_iconst (v := 1) C dX4_isLet_25 (by decide) ?_
      refine tw_ic_ne (tgt := 41) C dX4_isLet_26 (by decide) (fun hc8 => ?_) (fun hc8 => ?_)
      · have ht8 := ite_f hc8 hf6
        refine tw_sub [0, 1, 2, 3] rfl ?_
        exact hJ2 (Option.some.inj ht8).symm
      · have hf8 := ite_t hc8 hf6
        refine tw_iload_n (i := 3) (z := 3) C dX4_isLet_29 rfl rfl ?_
        refine tw_iconst (v := 1) C dX4_isLet_30 (by decide) ?_
        refine tw_ic_eq (tgt := 39) C dX4_isLet_31 (by decide) (fun hc9 => ?_) (fun hc9 => ?_)
        · have ht9 := ite_t hc9 hf8
          refine tw_iconst (v := 0) C dX4_isLet_39 (by decide) ?_
          have e10 := bj_l ht9 hy2
          obtain rfl := (Option.some.inj e10)
          exact tw_zret C hK rfl rfl rfl dX4_isLet_40
        · have hf9 := ite_f hc9 hf8
          refine tw_iload_n (i := 3) (z := 3) C dX4_isLet_34 rfl rfl ?_
          refine tw_iconst (v := 3) C dX4_isLet_35 (by decide) ?_
          refine tw_ic_ne (tgt := 41) C dX4_isLet_36 (by decide) (fun hc11 => ?_) (fun hc11 => ?_)
          · have ht11 := ite_f hc11 hf9
            refine tw_sub [0, 1, 2, 3] rfl ?_
            exact hJ2 (Option.some.inj ht11).symm
          · have hf11 := ite_t hc11 hf9
            refine tw_iconst (v := 0) C dX4_isLet_39 (by decide) ?_
            have e12 := bj_l hf11 hy2
            obtain rfl := (Option.some.inj e12)
            exact tw_zret C hK rfl rfl rfl dX4_isLet_40

set_option maxRecDepth 20000 in
def fX4_score (σ : St) (t0 : Nat) (a1 : Int32) (a2 : Int32) (a3 : Int32) : St :=
  bnd (su σ (4, t0) 3 a2) (fun σ1 =>
  bnd (if a1 = 0 then
    bnd (su σ1 (4, t0) 4 ((σ1 (4, t0) 4) + a2)) (fun σ4 =>
    σ4)
  else
    bnd (su σ1 (4, t0) 5 ((σ1 (4, t0) 5) + a2)) (fun σ3 =>
    σ3)) (fun σ2 =>
  bnd (su σ2 (4, t0) 0 (3 : Int32)) (fun σ5 =>
  bnd (su σ5 (4, t0) 2 (0 : Int32)) (fun σ6 =>
  bnd (su σ6 (4, t0) 1 (2 : Int32)) (fun σ7 =>
  if a3 = 0 then
    σ7
  else
    bnd (if a3 = (1 : Int32) then
      (1 : Int32) - a1
    else
      a1) (fun x1 =>
    bnd (su σ7 (4, t0) 1 x1) (fun σ8 =>
    σ8)))))))
set_option maxRecDepth 20000 in
set_option maxHeartbeats 4000000 in
theorem kX4_score (G : Gx) (d : Nat) (hdp : 1 ≤ d) (σ : St) (t0 : Nat) (a1 : Int32) (a2 : Int32) (a3 : Int32) (h0 : t0 < 3) {σ' : St} (h : fX4_score σ t0 a1 a2 a3 = σ') : MS G d yX4_score cX4_score 4 none [.ref (G.2.1 (4, t0)), .int a1, .int a2, .int a3] σ none σ' := by
  refine MS_of (by decide) (Nat.le_of_ble_eq_true rfl) rfl (fun K hG hnL C hR hK => ?_) (by omega)
  subst hG
  show TW K 0 [(0, rv K (4, t0)), (1, .int a1), (2, .int a2), (3, .int a3)] [] σ
  unfold fX4_score at h
  refine tw_aload_n (i := 0) (z := 0) (r := (4, t0)) C dX4_score_0 rfl rfl ?_
  refine tw_iload_n (i := 2) (z := 2) C dX4_score_1 rfl rfl ?_
  obtain ⟨σ1, es1, eh1⟩ := bnd_ex h
  refine tw_put C fl_RX4_21 (fun q hq => by cases hq; rfl) rfl (wcells_mem (f := 4) (j := t0) (by decide) h0) rfl rfl rfl dX4_score_2 ?_
  rw [es1]
  refine tw_iload_n (i := 1) (z := 1) C dX4_score_5 rfl rfl ?_
  obtain ⟨σ2, hx2, hq2⟩ := bnd_ex eh1
  have hJ2 : TW K 32 [(0, rv K (4, t0)), (1, .int a1), (3, .int a3)] [] σ2 := by
    refine tw_aload_n (i := 0) (z := 0) (r := (4, t0)) C dX4_score_32 rfl rfl ?_
    refine tw_iconst (v := 3) C dX4_score_33 (by decide) ?_
    obtain ⟨σ5, es6, eh6⟩ := bnd_ex hq2
    refine tw_put C fl_RX4_9 (fun q hq => by cases hq; rfl) rfl (wcells_mem (f := 4) (j := t0) (by decide) h0) rfl rfl rfl dX4_score_34 ?_
    rw [es6]
    refine tw_aload_n (i := 0) (z := 0) (r := (4, t0)) C dX4_score_37 rfl rfl ?_
    refine tw_iconst (v := 0) C dX4_score_38 (by decide) ?_
    obtain ⟨σ6, es7, eh7⟩ := bnd_ex eh6
    refine tw_put C fl_RX4_18 (fun q hq => by cases hq; rfl) rfl (wcells_mem (f := 4) (j := t0) (by decide) h0) rfl rfl rfl dX4_score_39 ?_
    rw [es7]
    refine tw_aload_n (i := 0) (z := 0) (r := (4, t0)) C dX4_score_42 rfl rfl ?_
    refine tw_iconst (v := 2) C dX4_score_43 (by decide) ?_
    obtain ⟨σ7, es8, eh8⟩ := bnd_ex eh7
    refine tw_put C fl_RX4_15 (fun q hq => by cases hq; rfl) rfl (wcells_mem (f := 4) (j := t0) (by decide) h0) rfl rfl rfl dX4_score_44 ?_
    rw [es8]
    refine tw_iload_n (i := 3) (z := 2) C dX4_score_47 rfl rfl ?_
    refine tw_if_eq (tgt := 67) C dX4_score_48 (by decide) (fun hc9 => ?_) (fun hc9 => ?_)
    · have ht9 := ite_t hc9 eh8
      obtain rfl := ht9
      exact tw_vret C hK rfl rfl dX4_score_67
    · have hf9 := ite_f hc9 eh8
      refine tw_aload_n (i := 0) (z := 0) (r := (4, t0)) C dX4_score_51 rfl rfl ?_
      refine tw_iload_n (i := 3) (z := 2) C dX4_score_52 rfl rfl ?_
      refine tw_iconst (v := 1) C dX4_score_53 (by decide) ?_
      obtain ⟨x1, hx10, hq10⟩ := bnd_ex hf9
      have hJ10 : TW K 64 [] [.int x1, rv K (4, t0)] σ7 := by
        obtain ⟨σ8, es12, eh12⟩ := bnd_ex hq10
        refine tw_put C fl_RX4_15 (fun q hq => by cases hq; rfl) rfl (wcells_mem (f := 4) (j := t0) (by decide) h0) rfl rfl rfl dX4_score_64 ?_
        rw [es12]
        obtain rfl := eh12
        exact tw_vret C hK rfl rfl dX4_score_67
      refine tw_ic_ne (tgt := 63) C dX4_score_54 (by decide) (fun hc11 => ?_) (fun hc11 => ?_)
      · have ht11 := ite_f hc11 hx10
        refine tw_iload_n (i := 1) (z := 1) C dX4_score_63 rfl rfl ?_
        refine tw_sub [] rfl ?_
        obtain rfl := ht11
        exact hJ10
      · have hf11 := ite_t hc11 hx10
        refine tw_iconst (v := 1) C dX4_score_57 (by decide) ?_
        refine tw_iload_n (i := 1) (z := 1) C dX4_score_58 rfl rfl ?_
        refine tw_isub C dX4_score_59 ?_
        refine tw_goto (tgt := 64) C dX4_score_60 (by decide) ?_
        refine tw_sub [] rfl ?_
        obtain rfl := hf11
        exact hJ10
  refine tw_if_ne (tgt := 22) C dX4_score_6 (by decide) (fun hc3 => ?_) (fun hc3 => ?_)
  · have ht3 := ite_f hc3 hx2
    refine tw_aload_n (i := 0) (z := 0) (r := (4, t0)) C dX4_score_22 rfl rfl ?_
    refine tw_dup C dX4_score_23 rfl ?_
    refine tw_getI C fl_RX4_27 rfl (wcells_mem (f := 4) (j := t0) (by decide) h0) rfl dX4_score_24 ?_
    refine tw_iload_n (i := 2) (z := 2) C dX4_score_27 rfl rfl ?_
    refine tw_iadd C dX4_score_28 ?_
    obtain ⟨σ3, es4, eh4⟩ := bnd_ex ht3
    refine tw_put C fl_RX4_27 (fun q hq => by cases hq; rfl) rfl (wcells_mem (f := 4) (j := t0) (by decide) h0) rfl rfl rfl dX4_score_29 ?_
    rw [es4]
    refine tw_sub [0, 1, 3] rfl ?_
    obtain rfl := eh4
    exact hJ2
  · have hf3 := ite_t hc3 hx2
    refine tw_aload_n (i := 0) (z := 0) (r := (4, t0)) C dX4_score_9 rfl rfl ?_
    refine tw_dup C dX4_score_10 rfl ?_
    refine tw_getI C fl_RX4_24 rfl (wcells_mem (f := 4) (j := t0) (by decide) h0) rfl dX4_score_11 ?_
    refine tw_iload_n (i := 2) (z := 2) C dX4_score_14 rfl rfl ?_
    refine tw_iadd C dX4_score_15 ?_
    obtain ⟨σ4, es5, eh5⟩ := bnd_ex hf3
    refine tw_put C fl_RX4_24 (fun q hq => by cases hq; rfl) rfl (wcells_mem (f := 4) (j := t0) (by decide) h0) rfl rfl rfl dX4_score_16 ?_
    rw [es5]
    refine tw_goto (tgt := 32) C dX4_score_19 (by decide) ?_
    refine tw_sub [0, 1, 3] rfl ?_
    obtain rfl := eh5
    exact hJ2

set_option maxRecDepth 20000 in
def fX4_becomes (σ : St) (t0 : Nat) (a1 : Int32) (a2 : Int32) (a3 : Int32) : St :=
  bnd (su σ (4, t0) 0 a1) (fun σ1 =>
  bnd (su σ1 (4, t0) 1 a2) (fun σ2 =>
  bnd (su σ2 (4, t0) 2 a3) (fun σ3 =>
  σ3)))
set_option maxRecDepth 20000 in
set_option maxHeartbeats 4000000 in
theorem kX4_becomes (G : Gx) (d : Nat) (hdp : 1 ≤ d) (σ : St) (t0 : Nat) (a1 : Int32) (a2 : Int32) (a3 : Int32) (h0 : t0 < 3) {σ' : St} (h : fX4_becomes σ t0 a1 a2 a3 = σ') : MS G d yX4_becomes cX4_becomes 4 none [.ref (G.2.1 (4, t0)), .int a1, .int a2, .int a3] σ none σ' := by
  refine MS_of (by decide) (Nat.le_of_ble_eq_true rfl) rfl (fun K hG hnL C hR hK => ?_) (by omega)
  subst hG
  show TW K 0 [(0, rv K (4, t0)), (1, .int a1), (2, .int a2), (3, .int a3)] [] σ
  unfold fX4_becomes at h
  refine tw_aload_n (i := 0) (z := 0) (r := (4, t0)) C dX4_becomes_0 rfl rfl ?_
  refine tw_iload_n (i := 1) (z := 1) C dX4_becomes_1 rfl rfl ?_
  obtain ⟨σ1, es1, eh1⟩ := bnd_ex h
  refine tw_put C fl_RX4_9 (fun q hq => by cases hq; rfl) rfl (wcells_mem (f := 4) (j := t0) (by decide) h0) rfl rfl rfl dX4_becomes_2 ?_
  rw [es1]
  refine tw_aload_n (i := 0) (z := 0) (r := (4, t0)) C dX4_becomes_5 rfl rfl ?_
  refine tw_iload_n (i := 2) (z := 2) C dX4_becomes_6 rfl rfl ?_
  obtain ⟨σ2, es2, eh2⟩ := bnd_ex eh1
  refine tw_put C fl_RX4_15 (fun q hq => by cases hq; rfl) rfl (wcells_mem (f := 4) (j := t0) (by decide) h0) rfl rfl rfl dX4_becomes_7 ?_
  rw [es2]
  refine tw_aload_n (i := 0) (z := 0) (r := (4, t0)) C dX4_becomes_10 rfl rfl ?_
  refine tw_iload_n (i := 3) (z := 3) C dX4_becomes_11 rfl rfl ?_
  obtain ⟨σ3, es3, eh3⟩ := bnd_ex eh2
  refine tw_put C fl_RX4_18 (fun q hq => by cases hq; rfl) rfl (wcells_mem (f := 4) (j := t0) (by decide) h0) rfl rfl rfl dX4_becomes_12 ?_
  rw [es3]
  obtain rfl := eh3
  exact tw_vret C hK rfl rfl dX4_becomes_15

set_option maxRecDepth 20000 in
def fX4_goOn (σ : St) (t0 : Nat) (r1 : Rf) (a2 : Int32) (a3 : Int32) : Option (St) :=
  bnd (fX8_fromOwnEnd a2 (σ (4, t0) 0)) (fun x1 =>
  bnd (su σ (4, t0) 6 ((σ (4, t0) 6) + (1 : Int32))) (fun σ1 =>
  if a3 = 0 ∨ a3 = 6 then
    bnd (fX4_becomes σ1 t0 (fX8_fromOwnEnd a2 (mmin (6 : Int32) (x1 + (2 : Int32)))) (2 : Int32) (2 : Int32)) (fun σ2 =>
    some σ2)
  else
    if a3 = 1 then
      bnd (fX4_becomes σ1 t0 (σ1 (4, t0) 0) a2 (0 : Int32)) (fun σ3 =>
      some σ3)
    else
      if a3 = 2 ∨ a3 = 3 then
        bnd (fX4_becomes σ1 t0 (σ1 (4, t0) 0) a2 (1 : Int32)) (fun σ4 =>
        some σ4)
      else
        if a3 = 4 then
          bnd (su σ1 (4, t0) 0 (fX8_fromOwnEnd a2 (x1 + (1 : Int32)))) (fun σ5 =>
          if (σ5 (4, t0) 2) = (1 : Int32) then
            if (x1 + (1 : Int32)) = (6 : Int32) then
              grd (isIA r1 && inb (10 : Int32) (alen r1.1)) (
              if (σ5 r1 (tn (10 : Int32))) ≤ 0 then
                some σ5
              else
                grd (isIA r1 && inb (10 : Int32) (alen r1.1)) (
                grd (isIA r1 && inb (14 : Int32) (alen r1.1)) (
                bnd (fX4_score σ5 t0 a2 (σ5 r1 (tn (10 : Int32))) (σ5 r1 (tn (14 : Int32)))) (fun σ6 =>
                some σ6))))
            else
              some σ5
          else
            some σ5)
        else
          if a3 = 5 then
            bnd (fX4_becomes σ1 t0 (fX8_fromOwnEnd a2 (mmax (0 : Int32) (x1 - (1 : Int32)))) (2 : Int32) (2 : Int32)) (fun σ7 =>
            some σ7)
          else
            if a3 = 7 then
              bnd (su σ1 (4, t0) 8 ((σ1 (4, t0) 8) + (1 : Int32))) (fun σ8 =>
              bnd (fX4_becomes σ8 t0 (σ8 (4, t0) 0) (2 : Int32) (0 : Int32)) (fun σ9 =>
              some σ9))
            else
              obi (if a3 = (8 : Int32) then
                grd (isIA r1 && inb (11 : Int32) (alen r1.1)) (
                some (σ1 r1 (tn (11 : Int32))))
              else
                grd (isIA r1 && inb (12 : Int32) (alen r1.1)) (
                some (σ1 r1 (tn (12 : Int32))))) (fun x2 =>
              if x2 ≤ 0 then
                bnd (fX4_becomes σ1 t0 (fX8_fromOwnEnd a2 (6 : Int32)) (2 : Int32) (0 : Int32)) (fun σ10 =>
                some σ10)
              else
                grd (isIA r1 && inb (14 : Int32) (alen r1.1)) (
                bnd (fX4_score σ1 t0 a2 x2 (σ1 r1 (tn (14 : Int32)))) (fun σ11 =>
                some σ11)))))
set_option maxRecDepth 20000 in
set_option maxHeartbeats 4000000 in
theorem kX4_goOn (G : Gx) (d : Nat) (hdp : 2 ≤ d) (σ : St) (t0 : Nat) (r1 : Rf) (a2 : Int32) (a3 : Int32) (h0 : t0 < 3) {σ' : St} (h : fX4_goOn σ t0 r1 a2 a3 = some σ') : MS G d yX4_goOn cX4_goOn 6 none [.ref (G.2.1 (4, t0)), .ref (G.2.1 r1), .int a2, .int a3] σ none σ' := by
  refine MS_of (by decide) (Nat.le_of_ble_eq_true rfl) rfl (fun K hG hnL C hR hK => ?_) (by omega)
  subst hG
  show TW K 0 [(0, rv K (4, t0)), (1, rv K r1), (2, .int a2), (3, .int a3)] [] σ
  unfold fX4_goOn at h
  refine tw_iload_n (i := 2) (z := 2) C dX4_goOn_0 rfl rfl ?_
  refine tw_aload_n (i := 0) (z := 0) (r := (4, t0)) C dX4_goOn_1 rfl rfl ?_
  refine tw_getI C fl_RX4_9 rfl (wcells_mem (f := 4) (j := t0) (by decide) h0) rfl dX4_goOn_2 ?_
  refine tw_callSN (As := [.int a2, .int (σ (4, t0) 0)]) (rest := []) C hR (kX8_fromOwnEnd K.1 _ (by omega) σ a2 (σ (4, t0) 0)  rfl) mi_X8_fromOwnEnd st_X8_fromOwnEnd ml_RX4_69 rfl rfl (Nat.le_of_ble_eq_true rfl) dX4_goOn_5 ?_
  show TW K 8 [(0, rv K (4, t0)), (1, rv K r1), (2, .int a2), (3, .int a3)] [.int (fX8_fromOwnEnd a2 (σ (4, t0) 0))] σ
  obtain ⟨x1, ex1, eh1⟩ := bnd_ex h
  refine tw_topi ex1.symm ?_
  refine tw_istore (lv' := [(0, rv K (4, t0)), (1, rv K r1), (2, .int a2), (3, .int a3), (4, .int x1)]) C [1, 2, 3, 4, 0] dX4_goOn_8 (by rw [hnL]; decide) rfl ?_
  refine tw_aload_n (i := 0) (z := 0) (r := (4, t0)) C dX4_goOn_10 rfl rfl ?_
  refine tw_dup C dX4_goOn_11 rfl ?_
  refine tw_getI C fl_RX4_30 rfl (wcells_mem (f := 4) (j := t0) (by decide) h0) rfl dX4_goOn_12 ?_
  refine tw_iconst (v := 1) C dX4_goOn_15 (by decide) ?_
  refine tw_iadd C dX4_goOn_16 ?_
  obtain ⟨σ1, es2, eh2⟩ := bnd_ex eh1
  refine tw_put C fl_RX4_30 (fun q hq => by cases hq; rfl) rfl (wcells_mem (f := 4) (j := t0) (by decide) h0) rfl rfl rfl dX4_goOn_17 ?_
  rw [es2]
  refine tw_iload_n (i := 3) (z := 3) C dX4_goOn_20 rfl rfl ?_
  by_cases hc3_0 : a3 = 0 ∨ a3 = 6
  · have ht3_0 := ite_t hc3_0 eh2
    have hT3_0 : TW K 68 [(0, rv K (4, t0)), (1, rv K r1), (2, .int a2), (3, .int a3), (4, .int x1)] [] σ1 := by
      refine tw_aload_n (i := 0) (z := 0) (r := (4, t0)) C dX4_goOn_68 rfl rfl ?_
      refine tw_iload_n (i := 2) (z := 2) C dX4_goOn_69 rfl rfl ?_
      refine tw_bipush (v := 6) C dX4_goOn_70 (by decide) ?_
      refine tw_iload (i := 4) (z := 4) C dX4_goOn_72 rfl ?_
      refine tw_iconst (v := 2) C dX4_goOn_74 (by decide) ?_
      refine tw_iadd C dX4_goOn_75 ?_
      refine tw_mmin C hR ml_RX4_73 st_mmin in_Math cw_mmin (Nat.le_of_ble_eq_true rfl) dX4_goOn_76 ?_
      refine tw_callSN (As := [.int a2, .int (mmin (6 : Int32) (x1 + (2 : Int32)))]) (rest := [rv K (4, t0)]) C hR (kX8_fromOwnEnd K.1 _ (by omega) σ1 a2 (mmin (6 : Int32) (x1 + (2 : Int32)))  rfl) mi_X8_fromOwnEnd st_X8_fromOwnEnd ml_RX4_69 rfl rfl (Nat.le_of_ble_eq_true rfl) dX4_goOn_79 ?_
      show TW K 82 [(0, rv K (4, t0)), (1, rv K r1), (2, .int a2), (3, .int a3), (4, .int x1)] [.int (fX8_fromOwnEnd a2 (mmin (6 : Int32) (x1 + (2 : Int32)))), rv K (4, t0)] σ1
      refine tw_iconst (v := 2) C dX4_goOn_82 (by decide) ?_
      refine tw_iconst (v := 2) C dX4_goOn_83 (by decide) ?_
      obtain ⟨σ2, hv4, eh4⟩ := bnd_ex ht3_0
      refine tw_callV (As := [.int (fX8_fromOwnEnd a2 (mmin (6 : Int32) (x1 + (2 : Int32)))), .int (2 : Int32), .int (2 : Int32)]) (rest := []) (r := (4, t0)) C hR (kX4_becomes K.1 _ (by omega) _ t0 (fX8_fromOwnEnd a2 (mmin (6 : Int32) (x1 + (2 : Int32)))) (2 : Int32) (2 : Int32) h0 hv4) mi_X4_becomes is_X4_becomes se_X4_becomes ml_RX4_78 (wcells_mem (f := 4) (j := t0) (by decide) h0) rfl rfl rfl rfl (Nat.le_of_ble_eq_true rfl) dX4_goOn_84 ?_
      show TW K 87 [(0, rv K (4, t0)), (1, rv K r1), (2, .int a2), (3, .int a3), (4, .int x1)] [] σ2
      refine tw_goto (tgt := 262) C dX4_goOn_87 (by decide) ?_
      obtain rfl := (Option.some.inj eh4)
      exact tw_vret C hK rfl rfl dX4_goOn_262
    rcases hc3_0 with hz | hz
    · exact tw_tabZ (tgt := 68) C dX4_goOn_21 (0) (by rw [hz]; decide) (by decide) (by decide) rfl (by decide) hT3_0
    · exact tw_tabZ (tgt := 68) C dX4_goOn_21 (6) (by rw [hz]; decide) (by decide) (by decide) rfl (by decide) hT3_0
  have hf3_0 := ite_f hc3_0 eh2
  by_cases hc3_1 : a3 = 1
  · have ht3_1 := ite_t hc3_1 hf3_0
    refine tw_tabZ (tgt := 90) C dX4_goOn_21 (1) (by rw [hc3_1]; decide) (by decide) (by decide) rfl (by decide) ?_
    refine tw_aload_n (i := 0) (z := 0) (r := (4, t0)) C dX4_goOn_90 rfl rfl ?_
    refine tw_aload_n (i := 0) (z := 0) (r := (4, t0)) C dX4_goOn_91 rfl rfl ?_
    refine tw_getI C fl_RX4_9 rfl (wcells_mem (f := 4) (j := t0) (by decide) h0) rfl dX4_goOn_92 ?_
    refine tw_iload_n (i := 2) (z := 2) C dX4_goOn_95 rfl rfl ?_
    refine tw_iconst (v := 0) C dX4_goOn_96 (by decide) ?_
    obtain ⟨σ3, hv5, eh5⟩ := bnd_ex ht3_1
    refine tw_callV (As := [.int (σ1 (4, t0) 0), .int a2, .int (0 : Int32)]) (rest := []) (r := (4, t0)) C hR (kX4_becomes K.1 _ (by omega) _ t0 (σ1 (4, t0) 0) a2 (0 : Int32) h0 hv5) mi_X4_becomes is_X4_becomes se_X4_becomes ml_RX4_78 (wcells_mem (f := 4) (j := t0) (by decide) h0) rfl rfl rfl rfl (Nat.le_of_ble_eq_true rfl) dX4_goOn_97 ?_
    show TW K 100 [(0, rv K (4, t0)), (1, rv K r1), (2, .int a2), (3, .int a3), (4, .int x1)] [] σ3
    refine tw_goto (tgt := 262) C dX4_goOn_100 (by decide) ?_
    obtain rfl := (Option.some.inj eh5)
    exact tw_vret C hK rfl rfl dX4_goOn_262
  have hf3_1 := ite_f hc3_1 hf3_0
  by_cases hc3_2 : a3 = 2 ∨ a3 = 3
  · have ht3_2 := ite_t hc3_2 hf3_1
    have hT3_2 : TW K 103 [(0, rv K (4, t0)), (1, rv K r1), (2, .int a2), (3, .int a3), (4, .int x1)] [] σ1 := by
      refine tw_aload_n (i := 0) (z := 0) (r := (4, t0)) C dX4_goOn_103 rfl rfl ?_
      refine tw_aload_n (i := 0) (z := 0) (r := (4, t0)) C dX4_goOn_104 rfl rfl ?_
      refine tw_getI C fl_RX4_9 rfl (wcells_mem (f := 4) (j := t0) (by decide) h0) rfl dX4_goOn_105 ?_
      refine tw_iload_n (i := 2) (z := 2) C dX4_goOn_108 rfl rfl ?_
      refine tw_iconst (v := 1) C dX4_goOn_109 (by decide) ?_
      obtain ⟨σ4, hv6, eh6⟩ := bnd_ex ht3_2
      refine tw_callV (As := [.int (σ1 (4, t0) 0), .int a2, .int (1 : Int32)]) (rest := []) (r := (4, t0)) C hR (kX4_becomes K.1 _ (by omega) _ t0 (σ1 (4, t0) 0) a2 (1 : Int32) h0 hv6) mi_X4_becomes is_X4_becomes se_X4_becomes ml_RX4_78 (wcells_mem (f := 4) (j := t0) (by decide) h0) rfl rfl rfl rfl (Nat.le_of_ble_eq_true rfl) dX4_goOn_110 ?_
      show TW K 113 [(0, rv K (4, t0)), (1, rv K r1), (2, .int a2), (3, .int a3), (4, .int x1)] [] σ4
      refine tw_goto (tgt := 262) C dX4_goOn_113 (by decide) ?_
      obtain rfl := (Option.some.inj eh6)
      exact tw_vret C hK rfl rfl dX4_goOn_262
    rcases hc3_2 with hz | hz
    · exact tw_tabZ (tgt := 103) C dX4_goOn_21 (2) (by rw [hz]; decide) (by decide) (by decide) rfl (by decide) hT3_2
    · exact tw_tabZ (tgt := 103) C dX4_goOn_21 (3) (by rw [hz]; decide) (by decide) (by decide) rfl (by decide) hT3_2
  have hf3_2 := ite_f hc3_2 hf3_1
  by_cases hc3_3 : a3 = 4
  · have ht3_3 := ite_t hc3_3 hf3_2
    refine tw_tabZ (tgt := 116) C dX4_goOn_21 (4) (by rw [hc3_3]; decide) (by decide) (by decide) rfl (by decide) ?_
    refine tw_aload_n (i := 0) (z := 0) (r := (4, t0)) C dX4_goOn_116 rfl rfl ?_
    refine tw_iload_n (i := 2) (z := 2) C dX4_goOn_117 rfl rfl ?_
    refine tw_iload (i := 4) (z := 4) C dX4_goOn_118 rfl ?_
    refine tw_iconst (v := 1) C dX4_goOn_120 (by decide) ?_
    refine tw_iadd C dX4_goOn_121 ?_
    refine tw_callSN (As := [.int a2, .int (x1 + (1 : Int32))]) (rest := [rv K (4, t0)]) C hR (kX8_fromOwnEnd K.1 _ (by omega) σ1 a2 (x1 + (1 : Int32))  rfl) mi_X8_fromOwnEnd st_X8_fromOwnEnd ml_RX4_69 rfl rfl (Nat.le_of_ble_eq_true rfl) dX4_goOn_122 ?_
    show TW K 125 [(0, rv K (4, t0)), (1, rv K r1), (2, .int a2), (3, .int a3), (4, .int x1)] [.int (fX8_fromOwnEnd a2 (x1 + (1 : Int32))), rv K (4, t0)] σ1
    obtain ⟨σ5, es7, eh7⟩ := bnd_ex ht3_3
    refine tw_put C fl_RX4_9 (fun q hq => by cases hq; rfl) rfl (wcells_mem (f := 4) (j := t0) (by decide) h0) rfl rfl rfl dX4_goOn_125 ?_
    rw [es7]
    refine tw_aload_n (i := 0) (z := 0) (r := (4, t0)) C dX4_goOn_128 rfl rfl ?_
    refine tw_getI C fl_RX4_18 rfl (wcells_mem (f := 4) (j := t0) (by decide) h0) rfl dX4_goOn_129 ?_
    refine tw_iconst (v := 1) C dX4_goOn_132 (by decide) ?_
    refine tw_ic_ne (tgt := 262) C dX4_goOn_133 (by decide) (fun hc8 => ?_) (fun hc8 => ?_)
    · have ht8 := ite_f hc8 eh7
      obtain rfl := (Option.some.inj ht8)
      exact tw_vret C hK rfl rfl dX4_goOn_262
    · have hf8 := ite_t hc8 eh7
      refine tw_iload (i := 4) (z := 4) C dX4_goOn_136 rfl ?_
      refine tw_iconst (v := 1) C dX4_goOn_138 (by decide) ?_
      refine tw_iadd C dX4_goOn_139 ?_
      refine tw_bipush (v := 6) C dX4_goOn_140 (by decide) ?_
      refine tw_ic_ne (tgt := 262) C dX4_goOn_142 (by decide) (fun hc9 => ?_) (fun hc9 => ?_)
      · have ht9 := ite_f hc9 hf8
        obtain rfl := (Option.some.inj ht9)
        exact tw_vret C hK rfl rfl dX4_goOn_262
      · have hf9 := ite_t hc9 hf8
        refine tw_aload_n (i := 1) (z := 1) (r := r1) C dX4_goOn_145 rfl rfl ?_
        refine tw_bipush (v := 10) C dX4_goOn_146 (by decide) ?_
        obtain ⟨hb10, eh10⟩ := grd_some hf9
        refine tw_iald (r := r1) C (and_t hb10).1 (and_t hb10).2 dX4_goOn_148 ?_
        refine tw_if_le (tgt := 262) C dX4_goOn_149 (by decide) (fun hc11 => ?_) (fun hc11 => ?_)
        · have ht11 := ite_t hc11 eh10
          obtain rfl := (Option.some.inj ht11)
          exact tw_vret C hK rfl rfl dX4_goOn_262
        · have hf11 := ite_f hc11 eh10
          refine tw_aload_n (i := 0) (z := 0) (r := (4, t0)) C dX4_goOn_152 rfl rfl ?_
          refine tw_iload_n (i := 2) (z := 2) C dX4_goOn_153 rfl rfl ?_
          refine tw_aload_n (i := 1) (z := 1) (r := r1) C dX4_goOn_154 rfl rfl ?_
          refine tw_bipush (v := 10) C dX4_goOn_155 (by decide) ?_
          obtain ⟨hb12, eh12⟩ := grd_some hf11
          refine tw_iald (r := r1) C (and_t hb12).1 (and_t hb12).2 dX4_goOn_157 ?_
          refine tw_aload_n (i := 1) (z := 1) (r := r1) C dX4_goOn_158 rfl rfl ?_
          refine tw_bipush (v := 14) C dX4_goOn_159 (by decide) ?_
          obtain ⟨hb13, eh13⟩ := grd_some eh12
          refine tw_iald (r := r1) C (and_t hb13).1 (and_t hb13).2 dX4_goOn_161 ?_
          obtain ⟨σ6, hv14, eh14⟩ := bnd_ex eh13
          refine tw_callV (As := [.int a2, .int (σ5 r1 (tn (10 : Int32))), .int (σ5 r1 (tn (14 : Int32)))]) (rest := []) (r := (4, t0)) C hR (kX4_score K.1 _ (by omega) _ t0 a2 (σ5 r1 (tn (10 : Int32))) (σ5 r1 (tn (14 : Int32))) h0 hv14) mi_X4_score is_X4_score se_X4_score ml_RX4_82 (wcells_mem (f := 4) (j := t0) (by decide) h0) rfl rfl rfl rfl (Nat.le_of_ble_eq_true rfl) dX4_goOn_162 ?_
          show TW K 165 [(0, rv K (4, t0)), (1, rv K r1), (2, .int a2), (3, .int a3), (4, .int x1)] [] σ6
          refine tw_goto (tgt := 262) C dX4_goOn_165 (by decide) ?_
          obtain rfl := (Option.some.inj eh14)
          exact tw_vret C hK rfl rfl dX4_goOn_262
  have hf3_3 := ite_f hc3_3 hf3_2
  by_cases hc3_4 : a3 = 5
  · have ht3_4 := ite_t hc3_4 hf3_3
    refine tw_tabZ (tgt := 168) C dX4_goOn_21 (5) (by rw [hc3_4]; decide) (by decide) (by decide) rfl (by decide) ?_
    refine tw_aload_n (i := 0) (z := 0) (r := (4, t0)) C dX4_goOn_168 rfl rfl ?_
    refine tw_iload_n (i := 2) (z := 2) C dX4_goOn_169 rfl rfl ?_
    refine tw_iconst (v := 0) C dX4_goOn_170 (by decide) ?_
    refine tw_iload (i := 4) (z := 4) C dX4_goOn_171 rfl ?_
    refine tw_iconst (v := 1) C dX4_goOn_173 (by decide) ?_
    refine tw_isub C dX4_goOn_174 ?_
    refine tw_mmax C hR ml_RX4_85 st_mmax in_Math cw_mmax (Nat.le_of_ble_eq_true rfl) dX4_goOn_175 ?_
    refine tw_callSN (As := [.int a2, .int (mmax (0 : Int32) (x1 - (1 : Int32)))]) (rest := [rv K (4, t0)]) C hR (kX8_fromOwnEnd K.1 _ (by omega) σ1 a2 (mmax (0 : Int32) (x1 - (1 : Int32)))  rfl) mi_X8_fromOwnEnd st_X8_fromOwnEnd ml_RX4_69 rfl rfl (Nat.le_of_ble_eq_true rfl) dX4_goOn_178 ?_
    show TW K 181 [(0, rv K (4, t0)), (1, rv K r1), (2, .int a2), (3, .int a3), (4, .int x1)] [.int (fX8_fromOwnEnd a2 (mmax (0 : Int32) (x1 - (1 : Int32)))), rv K (4, t0)] σ1
    refine tw_iconst (v := 2) C dX4_goOn_181 (by decide) ?_
    refine tw_iconst (v := 2) C dX4_goOn_182 (by decide) ?_
    obtain ⟨σ7, hv15, eh15⟩ := bnd_ex ht3_4
    refine tw_callV (As := [.int (fX8_fromOwnEnd a2 (mmax (0 : Int32) (x1 - (1 : Int32)))), .int (2 : Int32), .int (2 : Int32)]) (rest := []) (r := (4, t0)) C hR (kX4_becomes K.1 _ (by omega) _ t0 (fX8_fromOwnEnd a2 (mmax (0 : Int32) (x1 - (1 : Int32)))) (2 : Int32) (2 : Int32) h0 hv15) mi_X4_becomes is_X4_becomes se_X4_becomes ml_RX4_78 (wcells_mem (f := 4) (j := t0) (by decide) h0) rfl rfl rfl rfl (Nat.le_of_ble_eq_true rfl) dX4_goOn_183 ?_
    show TW K 186 [(0, rv K (4, t0)), (1, rv K r1), (2, .int a2), (3, .int a3), (4, .int x1)] [] σ7
    refine tw_goto (tgt := 262) C dX4_goOn_186 (by decide) ?_
    obtain rfl := (Option.some.inj eh15)
    exact tw_vret C hK rfl rfl dX4_goOn_262
  have hf3_4 := ite_f hc3_4 hf3_3
  by_cases hc3_5 : a3 = 7
  · have ht3_5 := ite_t hc3_5 hf3_4
    refine tw_tabZ (tgt := 189) C dX4_goOn_21 (7) (by rw [hc3_5]; decide) (by decide) (by decide) rfl (by decide) ?_
    refine tw_aload_n (i := 0) (z := 0) (r := (4, t0)) C dX4_goOn_189 rfl rfl ?_
    refine tw_dup C dX4_goOn_190 rfl ?_
    refine tw_getI C fl_RX4_36 rfl (wcells_mem (f := 4) (j := t0) (by decide) h0) rfl dX4_goOn_191 ?_
    refine tw_iconst (v := 1) C dX4_goOn_194 (by decide) ?_
    refine tw_iadd C dX4_goOn_195 ?_
    obtain ⟨σ8, es16, eh16⟩ := bnd_ex ht3_5
    refine tw_put C fl_RX4_36 (fun q hq => by cases hq; rfl) rfl (wcells_mem (f := 4) (j := t0) (by decide) h0) rfl rfl rfl dX4_goOn_196 ?_
    rw [es16]
    refine tw_aload_n (i := 0) (z := 0) (r := (4, t0)) C dX4_goOn_199 rfl rfl ?_
    refine tw_aload_n (i := 0) (z := 0) (r := (4, t0)) C dX4_goOn_200 rfl rfl ?_
    refine tw_getI C fl_RX4_9 rfl (wcells_mem (f := 4) (j := t0) (by decide) h0) rfl dX4_goOn_201 ?_
    refine tw_iconst (v := 2) C dX4_goOn_204 (by decide) ?_
    refine tw_iconst (v := 0) C dX4_goOn_205 (by decide) ?_
    obtain ⟨σ9, hv17, eh17⟩ := bnd_ex eh16
    refine tw_callV (As := [.int (σ8 (4, t0) 0), .int (2 : Int32), .int (0 : Int32)]) (rest := []) (r := (4, t0)) C hR (kX4_becomes K.1 _ (by omega) _ t0 (σ8 (4, t0) 0) (2 : Int32) (0 : Int32) h0 hv17) mi_X4_becomes is_X4_becomes se_X4_becomes ml_RX4_78 (wcells_mem (f := 4) (j := t0) (by decide) h0) rfl rfl rfl rfl (Nat.le_of_ble_eq_true rfl) dX4_goOn_206 ?_
    show TW K 209 [(0, rv K (4, t0)), (1, rv K r1), (2, .int a2), (3, .int a3), (4, .int x1)] [] σ9
    refine tw_goto (tgt := 262) C dX4_goOn_209 (by decide) ?_
    obtain rfl := (Option.some.inj eh17)
    exact tw_vret C hK rfl rfl dX4_goOn_262
  have hf3_5 := ite_f hc3_5 hf3_4
  have hT3 : TW K 212 [(0, rv K (4, t0)), (1, rv K r1), (2, .int a2), (3, .int a3), (4, .int x1)] [] σ1 := by
    refine tw_iload_n (i := 3) (z := 3) C dX4_goOn_212 rfl rfl ?_
    refine tw_bipush (v := 8) C dX4_goOn_213 (by decide) ?_
    obtain ⟨x2, hx18, hq18⟩ := obi_some hf3_5
    have hJ18 : TW K 229 [(0, rv K (4, t0)), (1, rv K r1), (2, .int a2)] [.int x2] σ1 := by
      refine tw_istore (lv' := [(0, rv K (4, t0)), (1, rv K r1), (2, .int a2), (5, .int x2)]) C [1, 2, 3, 0] dX4_goOn_229 (by rw [hnL]; decide) rfl ?_
      refine tw_iload (i := 5) (z := 3) C dX4_goOn_231 rfl ?_
      refine tw_if_le (tgt := 250) C dX4_goOn_233 (by decide) (fun hc22 => ?_) (fun hc22 => ?_)
      · have ht22 := ite_t hc22 hq18
        refine tw_aload_n (i := 0) (z := 0) (r := (4, t0)) C dX4_goOn_250 rfl rfl ?_
        refine tw_iload_n (i := 2) (z := 2) C dX4_goOn_251 rfl rfl ?_
        refine tw_bipush (v := 6) C dX4_goOn_252 (by decide) ?_
        refine tw_callSN (As := [.int a2, .int (6 : Int32)]) (rest := [rv K (4, t0)]) C hR (kX8_fromOwnEnd K.1 _ (by omega) σ1 a2 (6 : Int32)  rfl) mi_X8_fromOwnEnd st_X8_fromOwnEnd ml_RX4_69 rfl rfl (Nat.le_of_ble_eq_true rfl) dX4_goOn_254 ?_
        show TW K 257 [(0, rv K (4, t0)), (1, rv K r1), (2, .int a2), (5, .int x2)] [.int (fX8_fromOwnEnd a2 (6 : Int32)), rv K (4, t0)] σ1
        refine tw_iconst (v := 2) C dX4_goOn_257 (by decide) ?_
        refine tw_iconst (v := 0) C dX4_goOn_258 (by decide) ?_
        obtain ⟨σ10, hv23, eh23⟩ := bnd_ex ht22
        refine tw_callV (As := [.int (fX8_fromOwnEnd a2 (6 : Int32)), .int (2 : Int32), .int (0 : Int32)]) (rest := []) (r := (4, t0)) C hR (kX4_becomes K.1 _ (by omega) _ t0 (fX8_fromOwnEnd a2 (6 : Int32)) (2 : Int32) (0 : Int32) h0 hv23) mi_X4_becomes is_X4_becomes se_X4_becomes ml_RX4_78 (wcells_mem (f := 4) (j := t0) (by decide) h0) rfl rfl rfl rfl (Nat.le_of_ble_eq_true rfl) dX4_goOn_259 ?_
        show TW K 262 [(0, rv K (4, t0)), (1, rv K r1), (2, .int a2), (5, .int x2)] [] σ10
        obtain rfl := (Option.some.inj eh23)
        exact tw_vret C hK rfl rfl dX4_goOn_262
      · have hf22 := ite_f hc22 hq18
        refine tw_aload_n (i := 0) (z := 0) (r := (4, t0)) C dX4_goOn_236 rfl rfl ?_
        refine tw_iload_n (i := 2) (z := 2) C dX4_goOn_237 rfl rfl ?_
        refine tw_iload (i := 5) (z := 3) C dX4_goOn_238 rfl ?_
        refine tw_aload_n (i := 1) (z := 1) (r := r1) C dX4_goOn_240 rfl rfl ?_
        refine tw_bipush (v := 14) C dX4_goOn_241 (by decide) ?_
        obtain ⟨hb24, eh24⟩ := grd_some hf22
        refine tw_iald (r := r1) C (and_t hb24).1 (and_t hb24).2 dX4_goOn_243 ?_
        obtain ⟨σ11, hv25, eh25⟩ := bnd_ex eh24
        refine tw_callV (As := [.int a2, .int x2, .int (σ1 r1 (tn (14 : Int32)))]) (rest := []) (r := (4, t0)) C hR (kX4_score K.1 _ (by omega) _ t0 a2 x2 (σ1 r1 (tn (14 : Int32))) h0 hv25) mi_X4_score is_X4_score se_X4_score ml_RX4_82 (wcells_mem (f := 4) (j := t0) (by decide) h0) rfl rfl rfl rfl (Nat.le_of_ble_eq_true rfl) dX4_goOn_244 ?_
        show TW K 247 [(0, rv K (4, t0)), (1, rv K r1), (2, .int a2), (5, .int x2)] [] σ11
        refine tw_goto (tgt := 262) C dX4_goOn_247 (by decide) ?_
        obtain rfl := (Option.some.inj eh25)
        exact tw_vret C hK rfl rfl dX4_goOn_262
    refine tw_ic_ne (tgt := 225) C dX4_goOn_215 (by decide) (fun hc19 => ?_) (fun hc19 => ?_)
    · have ht19 := ite_f hc19 hx18
      refine tw_aload_n (i := 1) (z := 1) (r := r1) C dX4_goOn_225 rfl rfl ?_
      refine tw_bipush (v := 12) C dX4_goOn_226 (by decide) ?_
      obtain ⟨hb20, eh20⟩ := grd_some ht19
      refine tw_iald (r := r1) C (and_t hb20).1 (and_t hb20).2 dX4_goOn_228 ?_
      refine tw_sub [0, 1, 2] rfl ?_
      obtain rfl := (Option.some.inj eh20)
      exact hJ18
    · have hf19 := ite_t hc19 hx18
      refine tw_aload_n (i := 1) (z := 1) (r := r1) C dX4_goOn_218 rfl rfl ?_
      refine tw_bipush (v := 11) C dX4_goOn_219 (by decide) ?_
      obtain ⟨hb21, eh21⟩ := grd_some hf19
      refine tw_iald (r := r1) C (and_t hb21).1 (and_t hb21).2 dX4_goOn_221 ?_
      refine tw_goto (tgt := 229) C dX4_goOn_222 (by decide) ?_
      refine tw_sub [0, 1, 2] rfl ?_
      obtain rfl := (Option.some.inj eh21)
      exact hJ18
  have hn3_0 : ¬ (a3).toInt = 0 := lv_neT (k := 0) (fun q => hc3_0 (Or.inl q)) (by decide)
  have hn3_6 : ¬ (a3).toInt = 6 := lv_neT (k := 6) (fun q => hc3_0 (Or.inr q)) (by decide)
  have hn3_1 : ¬ (a3).toInt = 1 := lv_neT (k := 1) hc3_1 (by decide)
  have hn3_2 : ¬ (a3).toInt = 2 := lv_neT (k := 2) (fun q => hc3_2 (Or.inl q)) (by decide)
  have hn3_3 : ¬ (a3).toInt = 3 := lv_neT (k := 3) (fun q => hc3_2 (Or.inr q)) (by decide)
  have hn3_4 : ¬ (a3).toInt = 4 := lv_neT (k := 4) hc3_3 (by decide)
  have hn3_5 : ¬ (a3).toInt = 5 := lv_neT (k := 5) hc3_4 (by decide)
  have hn3_7 : ¬ (a3).toInt = 7 := lv_neT (k := 7) hc3_5 (by decide)
  rcases (show (a3).toInt < 0 ∨ 7 < (a3).toInt by omega) with hz | hz
  · exact tw_tabOut (tgt := 212) C dX4_goOn_21 (Or.inl hz) (by decide) hT3
  · exact tw_tabOut (tgt := 212) C dX4_goOn_21 (Or.inr hz) (by decide) hT3

set_option maxRecDepth 20000 in
def fX4_stop (σ : St) (t0 : Nat) (a1 : Int32) : St :=
  bnd (su σ (4, t0) 7 ((σ (4, t0) 7) + (1 : Int32))) (fun σ1 =>
  bnd (su σ1 (4, t0) 1 ((1 : Int32) - a1)) (fun σ2 =>
  bnd (su σ2 (4, t0) 2 (0 : Int32)) (fun σ3 =>
  σ3)))
set_option maxRecDepth 20000 in
set_option maxHeartbeats 4000000 in
theorem kX4_stop (G : Gx) (d : Nat) (hdp : 1 ≤ d) (σ : St) (t0 : Nat) (a1 : Int32) (h0 : t0 < 3) {σ' : St} (h : fX4_stop σ t0 a1 = σ') : MS G d yX4_stop cX4_stop 2 none [.ref (G.2.1 (4, t0)), .int a1] σ none σ' := by
  refine MS_of (by decide) (Nat.le_of_ble_eq_true rfl) rfl (fun K hG hnL C hR hK => ?_) (by omega)
  subst hG
  show TW K 0 [(0, rv K (4, t0)), (1, .int a1)] [] σ
  unfold fX4_stop at h
  refine tw_aload_n (i := 0) (z := 0) (r := (4, t0)) C dX4_stop_0 rfl rfl ?_
  refine tw_dup C dX4_stop_1 rfl ?_
  refine tw_getI C fl_RX4_33 rfl (wcells_mem (f := 4) (j := t0) (by decide) h0) rfl dX4_stop_2 ?_
  refine tw_iconst (v := 1) C dX4_stop_5 (by decide) ?_
  refine tw_iadd C dX4_stop_6 ?_
  obtain ⟨σ1, es1, eh1⟩ := bnd_ex h
  refine tw_put C fl_RX4_33 (fun q hq => by cases hq; rfl) rfl (wcells_mem (f := 4) (j := t0) (by decide) h0) rfl rfl rfl dX4_stop_7 ?_
  rw [es1]
  refine tw_aload_n (i := 0) (z := 0) (r := (4, t0)) C dX4_stop_10 rfl rfl ?_
  refine tw_iconst (v := 1) C dX4_stop_11 (by decide) ?_
  refine tw_iload_n (i := 1) (z := 1) C dX4_stop_12 rfl rfl ?_
  refine tw_isub C dX4_stop_13 ?_
  obtain ⟨σ2, es2, eh2⟩ := bnd_ex eh1
  refine tw_put C fl_RX4_15 (fun q hq => by cases hq; rfl) rfl (wcells_mem (f := 4) (j := t0) (by decide) h0) rfl rfl rfl dX4_stop_14 ?_
  rw [es2]
  refine tw_aload_n (i := 0) (z := 0) (r := (4, t0)) C dX4_stop_17 rfl rfl ?_
  refine tw_iconst (v := 0) C dX4_stop_18 (by decide) ?_
  obtain ⟨σ3, es3, eh3⟩ := bnd_ex eh2
  refine tw_put C fl_RX4_18 (fun q hq => by cases hq; rfl) rfl (wcells_mem (f := 4) (j := t0) (by decide) h0) rfl rfl rfl dX4_stop_19 ?_
  rw [es3]
  obtain rfl := eh3
  exact tw_vret C hK rfl rfl dX4_stop_22

set_option maxRecDepth 20000 in
def fX4_step (σ : St) (t0 : Nat) (r1 : Rf) (a2 : Int32) : Option (Int32 × St) :=
  bnd (su σ (4, t0) 9 ((σ (4, t0) 9) + (1 : Int32))) (fun σ1 =>
  bnd (su σ1 (4, t0) 3 (0 : Int32)) (fun σ2 =>
  if (fX8_isSeen a2) = true then
    bnd (fX8_sideOf a2) (fun x1 =>
    bnd (fX8_actOf a2) (fun x2 =>
    if (fX4_canBe σ2 t0 x1 x2) = true then
      obi (fX4_isLet σ2 t0 r1 a2) (fun x3 =>
      if x3 = true then
        obi (fX4_goOn σ2 t0 r1 x1 x2) (fun σ4 =>
        some ((1 : Int32), σ4))
      else
        bnd (fX4_stop σ2 t0 x1) (fun σ3 =>
        some ((2 : Int32), σ3)))
    else
      some ((0 : Int32), σ2)))
  else
    some ((3 : Int32), σ2)))
set_option maxRecDepth 20000 in
set_option maxHeartbeats 4000000 in
theorem kX4_step (G : Gx) (d : Nat) (hdp : 3 ≤ d) (σ : St) (t0 : Nat) (r1 : Rf) (a2 : Int32) (h0 : t0 < 3) {v0 : Int32} {σ' : St} (h : fX4_step σ t0 r1 a2 = some (v0, σ')) : MS G d yX4_step cX4_step 5 (some .int) [.ref (G.2.1 (4, t0)), .ref (G.2.1 r1), .int a2] σ (some (.int v0)) σ' := by
  refine MS_of (by decide) (Nat.le_of_ble_eq_true rfl) rfl (fun K hG hnL C hR hK => ?_) (by omega)
  subst hG
  show TW K 0 [(0, rv K (4, t0)), (1, rv K r1), (2, .int a2)] [] σ
  unfold fX4_step at h
  refine tw_aload_n (i := 0) (z := 0) (r := (4, t0)) C dX4_step_0 rfl rfl ?_
  refine tw_dup C dX4_step_1 rfl ?_
  refine tw_getI C fl_RX4_39 rfl (wcells_mem (f := 4) (j := t0) (by decide) h0) rfl dX4_step_2 ?_
  refine tw_iconst (v := 1) C dX4_step_5 (by decide) ?_
  refine tw_iadd C dX4_step_6 ?_
  obtain ⟨σ1, es1, eh1⟩ := bnd_ex h
  refine tw_put C fl_RX4_39 (fun q hq => by cases hq; rfl) rfl (wcells_mem (f := 4) (j := t0) (by decide) h0) rfl rfl rfl dX4_step_7 ?_
  rw [es1]
  refine tw_aload_n (i := 0) (z := 0) (r := (4, t0)) C dX4_step_10 rfl rfl ?_
  refine tw_iconst (v := 0) C dX4_step_11 (by decide) ?_
  obtain ⟨σ2, es2, eh2⟩ := bnd_ex eh1
  refine tw_put C fl_RX4_21 (fun q hq => by cases hq; rfl) rfl (wcells_mem (f := 4) (j := t0) (by decide) h0) rfl rfl rfl dX4_step_12 ?_
  rw [es2]
  refine tw_iload_n (i := 2) (z := 2) C dX4_step_15 rfl rfl ?_
  refine tw_callSN (As := [.int a2]) (rest := []) C hR (kX8_isSeen K.1 _ (by omega) σ2 a2  rfl) mi_X8_isSeen st_X8_isSeen ml_RX4_42 rfl rfl (Nat.le_of_ble_eq_true rfl) dX4_step_16 ?_
  show TW K 19 [(0, rv K (4, t0)), (1, rv K r1), (2, .int a2)] [.int (b2i (fX8_isSeen a2))] σ2
  refine tw_if_ne (tgt := 24) C dX4_step_19 (by decide) (fun hc3 => ?_) (fun hc3 => ?_)
  · have ht3 := ite_t (b2i_nz hc3) eh2
    refine tw_iload_n (i := 2) (z := 2) C dX4_step_24 rfl rfl ?_
    refine tw_callSN (As := [.int a2]) (rest := []) C hR (kX8_sideOf K.1 _ (by omega) σ2 a2  rfl) mi_X8_sideOf st_X8_sideOf ml_RX4_46 rfl rfl (Nat.le_of_ble_eq_true rfl) dX4_step_25 ?_
    show TW K 28 [(0, rv K (4, t0)), (1, rv K r1), (2, .int a2)] [.int (fX8_sideOf a2)] σ2
    obtain ⟨x1, ex4, eh4⟩ := bnd_ex ht3
    refine tw_topi ex4.symm ?_
    refine tw_istore_n (lv' := [(0, rv K (4, t0)), (1, rv K r1), (2, .int a2), (3, .int x1)]) C [1, 2, 3, 0] dX4_step_28 rfl (by rw [hnL]; decide) rfl ?_
    refine tw_iload_n (i := 2) (z := 2) C dX4_step_29 rfl rfl ?_
    refine tw_callSN (As := [.int a2]) (rest := []) C hR (kX8_actOf K.1 _ (by omega) σ2 a2  rfl) mi_X8_actOf st_X8_actOf ml_RX4_50 rfl rfl (Nat.le_of_ble_eq_true rfl) dX4_step_30 ?_
    show TW K 33 [(0, rv K (4, t0)), (1, rv K r1), (2, .int a2), (3, .int x1)] [.int (fX8_actOf a2)] σ2
    obtain ⟨x2, ex5, eh5⟩ := bnd_ex eh4
    refine tw_topi ex5.symm ?_
    refine tw_istore (lv' := [(0, rv K (4, t0)), (1, rv K r1), (2, .int a2), (3, .int x1), (4, .int x2)]) C [1, 2, 3, 4, 0] dX4_step_33 (by rw [hnL]; decide) rfl ?_
    refine tw_aload_n (i := 0) (z := 0) (r := (4, t0)) C dX4_step_35 rfl rfl ?_
    refine tw_iload_n (i := 3) (z := 3) C dX4_step_36 rfl rfl ?_
    refine tw_iload (i := 4) (z := 4) C dX4_step_37 rfl ?_
    refine tw_callV (As := [.int x1, .int x2]) (rest := []) (r := (4, t0)) C hR (kX4_canBe K.1 _ (by omega) σ2 t0 x1 x2 h0 rfl) mi_X4_canBe is_X4_canBe se_X4_canBe ml_RX4_53 (wcells_mem (f := 4) (j := t0) (by decide) h0) rfl rfl rfl rfl (Nat.le_of_ble_eq_true rfl) dX4_step_39 ?_
    show TW K 42 [(0, rv K (4, t0)), (1, rv K r1), (2, .int a2), (3, .int x1), (4, .int x2)] [.int (b2i (fX4_canBe σ2 t0 x1 x2))] σ2
    refine tw_if_ne (tgt := 47) C dX4_step_42 (by decide) (fun hc6 => ?_) (fun hc6 => ?_)
    · have ht6 := ite_t (b2i_nz hc6) eh5
      refine tw_aload_n (i := 0) (z := 0) (r := (4, t0)) C dX4_step_47 rfl rfl ?_
      refine tw_aload_n (i := 1) (z := 1) (r := r1) C dX4_step_48 rfl rfl ?_
      refine tw_iload_n (i := 2) (z := 2) C dX4_step_49 rfl rfl ?_
      obtain ⟨x3, hv7, eh7⟩ := obi_some ht6
      refine tw_callV (As := [rv K r1, .int a2]) (rest := []) (r := (4, t0)) C hR (kX4_isLet K.1 _ (by omega) σ2 t0 r1 a2 h0 hv7) mi_X4_isLet is_X4_isLet se_X4_isLet ml_RX4_57 (wcells_mem (f := 4) (j := t0) (by decide) h0) rfl rfl rfl rfl (Nat.le_of_ble_eq_true rfl) dX4_step_50 ?_
      show TW K 53 [(0, rv K (4, t0)), (1, rv K r1), (2, .int a2), (3, .int x1), (4, .int x2)] [.int (b2i x3)] σ2
      refine tw_if_eq (tgt := 66) C dX4_step_53 (by decide) (fun hc8 => ?_) (fun hc8 => ?_)
      · have ht8 := ite_f (b2i_z hc8) eh7
        refine tw_aload_n (i := 0) (z := 0) (r := (4, t0)) C dX4_step_66 rfl rfl ?_
        refine tw_iload_n (i := 3) (z := 3) C dX4_step_67 rfl rfl ?_
        obtain ⟨σ3, hv9, eh9⟩ := bnd_ex ht8
        refine tw_callV (As := [.int x1]) (rest := []) (r := (4, t0)) C hR (kX4_stop K.1 _ (by omega) _ t0 x1 h0 hv9) mi_X4_stop is_X4_stop se_X4_stop ml_RX4_65 (wcells_mem (f := 4) (j := t0) (by decide) h0) rfl rfl rfl rfl (Nat.le_of_ble_eq_true rfl) dX4_step_68 ?_
        show TW K 71 [(0, rv K (4, t0)), (1, rv K r1), (2, .int a2), (3, .int x1), (4, .int x2)] [] σ3
        refine tw_iconst (v := 2) C dX4_step_71 (by decide) ?_
        obtain ⟨rfl, rfl⟩ := pj2 (Option.some.inj eh9)
        exact tw_iret C hK rfl rfl dX4_step_72
      · have hf8 := ite_t (b2i_nz hc8) eh7
        refine tw_aload_n (i := 0) (z := 0) (r := (4, t0)) C dX4_step_56 rfl rfl ?_
        refine tw_aload_n (i := 1) (z := 1) (r := r1) C dX4_step_57 rfl rfl ?_
        refine tw_iload_n (i := 3) (z := 3) C dX4_step_58 rfl rfl ?_
        refine tw_iload (i := 4) (z := 4) C dX4_step_59 rfl ?_
        obtain ⟨σ4, hv10, eh10⟩ := obi_some hf8
        refine tw_callV (As := [rv K r1, .int x1, .int x2]) (rest := []) (r := (4, t0)) C hR (kX4_goOn K.1 _ (by omega) _ t0 r1 x1 x2 h0 hv10) mi_X4_goOn is_X4_goOn se_X4_goOn ml_RX4_61 (wcells_mem (f := 4) (j := t0) (by decide) h0) rfl rfl rfl rfl (Nat.le_of_ble_eq_true rfl) dX4_step_61 ?_
        show TW K 64 [(0, rv K (4, t0)), (1, rv K r1), (2, .int a2), (3, .int x1), (4, .int x2)] [] σ4
        refine tw_iconst (v := 1) C dX4_step_64 (by decide) ?_
        obtain ⟨rfl, rfl⟩ := pj2 (Option.some.inj eh10)
        exact tw_iret C hK rfl rfl dX4_step_65
    · have hf6 := ite_f (b2i_z hc6) eh5
      refine tw_iconst (v := 0) C dX4_step_45 (by decide) ?_
      obtain ⟨rfl, rfl⟩ := pj2 (Option.some.inj hf6)
      exact tw_iret C hK rfl rfl dX4_step_46
  · have hf3 := ite_f (b2i_z hc3) eh2
    refine tw_iconst (v := 3) C dX4_step_22 (by decide) ?_
    obtain ⟨rfl, rfl⟩ := pj2 (Option.some.inj hf3)
    exact tw_iret C hK rfl rfl dX4_step_23

set_option maxRecDepth 20000 in
def fX3_playUnder (σ : St) (t0 : Nat) (r1 : Rf) (t2 : Nat) : Option (St) :=
  bnd (fX4_begin σ t2) (fun σ1 =>
  lpF (fun (q2 : Int32 × St) => match q2 with
  | (x1, σ2) =>
  if (σ2 (3, t0) 2) ≤ x1 then
    some (.inr σ2)
  else
    obi (fX4_isEnded σ2 t2 r1) (fun x2 =>
    if x2 = true then
      some (.inr σ2)
    else
      grd (inb x1 40) (
      obi (fX4_step σ2 t2 r1 (σ2 (13, t0) (tn x1))) (fun (x3, σ3) =>
      bnd (x1 + 1) (fun x4 =>
      some (.inl (x4, σ3))))))) ((0 : Int32), σ1))
set_option maxRecDepth 20000 in
set_option maxHeartbeats 4000000 in
theorem kX3_playUnder (G : Gx) (d : Nat) (hdp : 4 ≤ d) (σ : St) (t0 : Nat) (r1 : Rf) (t2 : Nat) (h0 : t0 < 12) (h2 : t2 < 3) {σ' : St} (h : fX3_playUnder σ t0 r1 t2 = some σ') : MS G d yX3_playUnder cX3_playUnder 4 none [.ref (G.2.1 (3, t0)), .ref (G.2.1 r1), .ref (G.2.1 (4, t2))] σ none σ' := by
  refine MS_of (by decide) (Nat.le_of_ble_eq_true rfl) rfl (fun K hG hnL C hR hK => ?_) (by omega)
  subst hG
  show TW K 0 [(0, rv K (3, t0)), (1, rv K r1), (2, rv K (4, t2))] [] σ
  unfold fX3_playUnder at h
  refine tw_aload_n (i := 2) (z := 2) (r := (4, t2)) C dX3_playUnder_0 rfl rfl ?_
  obtain ⟨σ1, hv1, eh1⟩ := bnd_ex h
  refine tw_callV (As := []) (rest := []) (r := (4, t2)) C hR (kX4_begin K.1 _ (by omega) _ t2 h2 hv1) mi_X4_begin is_X4_begin se_X4_begin ml_RX3_56 (wcells_mem (f := 4) (j := t2) (by decide) h2) rfl rfl rfl rfl (Nat.le_of_ble_eq_true rfl) dX3_playUnder_1 ?_
  show TW K 4 [(0, rv K (3, t0)), (1, rv K r1), (2, rv K (4, t2))] [] σ1
  refine tw_iconst (v := 0) C dX3_playUnder_4 (by decide) ?_
  refine tw_istore_n (lv' := [(0, rv K (3, t0)), (1, rv K r1), (2, rv K (4, t2)), (3, .int (0 : Int32))]) C [1, 2, 3, 0] dX3_playUnder_5 rfl (by rw [hnL]; decide) rfl ?_
  refine lpF_ct (G := fun (q : Int32 × St) => match q with | (x1, σ2) => TW K 6 [(0, rv K (3, t0)), (1, rv K r1), (2, rv K (4, t2)), (3, .int x1)] [] σ2) ?_ eh1
  rintro ⟨x1, σ2⟩ w2 hx2 hk2
  show TW K 6 [(0, rv K (3, t0)), (1, rv K r1), (2, rv K (4, t2)), (3, .int x1)] [] σ2
  refine tw_iload_n (i := 3) (z := 3) C dX3_playUnder_6 rfl rfl ?_
  refine tw_aload_n (i := 0) (z := 0) (r := (3, t0)) C dX3_playUnder_7 rfl rfl ?_
  refine tw_getI C fl_RX3_33 rfl (wcells_mem (f := 3) (j := t0) (by decide) h0) rfl dX3_playUnder_8 ?_
  refine tw_ic_ge (tgt := 40) C dX3_playUnder_11 (by decide) (fun hc3 => ?_) (fun hc3 => ?_)
  · have ht3 := ite_t hc3 hx2
    have e4 := lp_x ht3 hk2
    obtain rfl := (Option.some.inj e4)
    exact tw_vret C hK rfl rfl dX3_playUnder_40
  · have hf3 := ite_f hc3 hx2
    refine tw_aload_n (i := 2) (z := 2) (r := (4, t2)) C dX3_playUnder_14 rfl rfl ?_
    refine tw_aload_n (i := 1) (z := 1) (r := r1) C dX3_playUnder_15 rfl rfl ?_
    obtain ⟨x2, hv5, eh5⟩ := obi_some hf3
    refine tw_callV (As := [rv K r1]) (rest := []) (r := (4, t2)) C hR (kX4_isEnded K.1 _ (by omega) σ2 t2 r1 h2 hv5) mi_X4_isEnded is_X4_isEnded se_X4_isEnded ml_RX3_61 (wcells_mem (f := 4) (j := t2) (by decide) h2) rfl rfl rfl rfl (Nat.le_of_ble_eq_true rfl) dX3_playUnder_16 ?_
    show TW K 19 [(0, rv K (3, t0)), (1, rv K r1), (2, rv K (4, t2)), (3, .int x1)] [.int (b2i x2)] σ2
    refine tw_if_ne (tgt := 40) C dX3_playUnder_19 (by decide) (fun hc6 => ?_) (fun hc6 => ?_)
    · have ht6 := ite_t (b2i_nz hc6) eh5
      have e7 := lp_x ht6 hk2
      obtain rfl := (Option.some.inj e7)
      exact tw_vret C hK rfl rfl dX3_playUnder_40
    · have hf6 := ite_f (b2i_z hc6) eh5
      refine tw_aload_n (i := 2) (z := 2) (r := (4, t2)) C dX3_playUnder_22 rfl rfl ?_
      refine tw_aload_n (i := 1) (z := 1) (r := r1) C dX3_playUnder_23 rfl rfl ?_
      refine tw_aload_n (i := 0) (z := 0) (r := (3, t0)) C dX3_playUnder_24 rfl rfl ?_
      refine tw_getR (g := 13) (z := 0) (j' := t0) C fl_RX3_9 rfl (wcells_mem (f := 3) (j := t0) (by decide) h0) rfl rfl dX3_playUnder_25 ?_
      refine tw_iload_n (i := 3) (z := 3) C dX3_playUnder_28 rfl rfl ?_
      obtain ⟨hb8, eh8⟩ := grd_some hf6
      refine tw_iald (r := (13, t0)) C (ia_of rfl h0) hb8 dX3_playUnder_29 ?_
      obtain ⟨⟨x3, σ3⟩, hv9, eh9⟩ := obi_some eh8
      refine tw_callV (As := [rv K r1, .int (σ2 (13, t0) (tn x1))]) (rest := []) (r := (4, t2)) C hR (kX4_step K.1 _ (by omega) _ t2 r1 (σ2 (13, t0) (tn x1)) h2 hv9) mi_X4_step is_X4_step se_X4_step ml_RX3_65 (wcells_mem (f := 4) (j := t2) (by decide) h2) rfl rfl rfl rfl (Nat.le_of_ble_eq_true rfl) dX3_playUnder_30 ?_
      show TW K 33 [(0, rv K (3, t0)), (1, rv K r1), (2, rv K (4, t2)), (3, .int x1)] [.int x3] σ3
      refine tw_pop C dX3_playUnder_33 rfl ?_
      obtain ⟨x4, ex10, eh10⟩ := bnd_ex eh9
      refine tw_iinc (z := 3) (v := x4) (lv' := [(0, rv K (3, t0)), (1, rv K r1), (2, rv K (4, t2)), (3, .int x4)]) C [1, 2, 3, 0] dX3_playUnder_34 rfl ex10 (by rw [hnL]; decide) rfl ?_
      refine tw_goto (tgt := 6) C dX3_playUnder_37 (by decide) ?_
      have hz := lp_c eh10 hk2
      exact hz

set_option maxRecDepth 20000 in
def fX3_playByHalves (σ : St) (t0 : Nat) (r1 : Rf) (r2 : Rf) (t3 : Nat) : Option (St) :=
  bnd (fX4_begin σ t3) (fun σ1 =>
  lpF (fun (q2 : Int32 × St) => match q2 with
  | (x1, σ2) =>
  if (σ2 (3, t0) 2) ≤ x1 then
    some (.inr σ2)
  else
    bnd (if ((σ2 (3, t0) 2) / (2 : Int32)) ≤ x1 then
      r2
    else
      r1) (fun x2 =>
    grd (inb x1 40) (
    obi (fX4_step σ2 t3 x2 (σ2 (13, t0) (tn x1))) (fun (x3, σ3) =>
    bnd (x1 + 1) (fun x4 =>
    some (.inl (x4, σ3))))))) ((0 : Int32), σ1))
set_option maxRecDepth 20000 in
set_option maxHeartbeats 4000000 in
theorem kX3_playByHalves (G : Gx) (d : Nat) (hdp : 4 ≤ d) (σ : St) (t0 : Nat) (r1 : Rf) (r2 : Rf) (t3 : Nat) (h0 : t0 < 12) (h3 : t3 < 3) {σ' : St} (h : fX3_playByHalves σ t0 r1 r2 t3 = some σ') : MS G d yX3_playByHalves cX3_playByHalves 5 none [.ref (G.2.1 (3, t0)), .ref (G.2.1 r1), .ref (G.2.1 r2), .ref (G.2.1 (4, t3))] σ none σ' := by
  refine MS_of (by decide) (Nat.le_of_ble_eq_true rfl) rfl (fun K hG hnL C hR hK => ?_) (by omega)
  subst hG
  show TW K 0 [(0, rv K (3, t0)), (1, rv K r1), (2, rv K r2), (3, rv K (4, t3))] [] σ
  unfold fX3_playByHalves at h
  refine tw_aload_n (i := 3) (z := 3) (r := (4, t3)) C dX3_playByHalves_0 rfl rfl ?_
  obtain ⟨σ1, hv1, eh1⟩ := bnd_ex h
  refine tw_callV (As := []) (rest := []) (r := (4, t3)) C hR (kX4_begin K.1 _ (by omega) _ t3 h3 hv1) mi_X4_begin is_X4_begin se_X4_begin ml_RX3_56 (wcells_mem (f := 4) (j := t3) (by decide) h3) rfl rfl rfl rfl (Nat.le_of_ble_eq_true rfl) dX3_playByHalves_1 ?_
  show TW K 4 [(0, rv K (3, t0)), (1, rv K r1), (2, rv K r2), (3, rv K (4, t3))] [] σ1
  refine tw_iconst (v := 0) C dX3_playByHalves_4 (by decide) ?_
  refine tw_istore (lv' := [(0, rv K (3, t0)), (1, rv K r1), (2, rv K r2), (3, rv K (4, t3)), (4, .int (0 : Int32))]) C [1, 2, 3, 4, 0] dX3_playByHalves_5 (by rw [hnL]; decide) rfl ?_
  refine lpF_ct (G := fun (q : Int32 × St) => match q with | (x1, σ2) => TW K 7 [(0, rv K (3, t0)), (1, rv K r1), (2, rv K r2), (3, rv K (4, t3)), (4, .int x1)] [] σ2) ?_ eh1
  rintro ⟨x1, σ2⟩ w2 hx2 hk2
  show TW K 7 [(0, rv K (3, t0)), (1, rv K r1), (2, rv K r2), (3, rv K (4, t3)), (4, .int x1)] [] σ2
  refine tw_iload (i := 4) (z := 4) C dX3_playByHalves_7 rfl ?_
  refine tw_aload_n (i := 0) (z := 0) (r := (3, t0)) C dX3_playByHalves_9 rfl rfl ?_
  refine tw_getI C fl_RX3_33 rfl (wcells_mem (f := 3) (j := t0) (by decide) h0) rfl dX3_playByHalves_10 ?_
  refine tw_ic_ge (tgt := 50) C dX3_playByHalves_13 (by decide) (fun hc3 => ?_) (fun hc3 => ?_)
  · have ht3 := ite_t hc3 hx2
    have e4 := lp_x ht3 hk2
    obtain rfl := (Option.some.inj e4)
    exact tw_vret C hK rfl rfl dX3_playByHalves_50
  · have hf3 := ite_f hc3 hx2
    refine tw_aload_n (i := 3) (z := 3) (r := (4, t3)) C dX3_playByHalves_16 rfl rfl ?_
    refine tw_iload (i := 4) (z := 4) C dX3_playByHalves_17 rfl ?_
    refine tw_aload_n (i := 0) (z := 0) (r := (3, t0)) C dX3_playByHalves_19 rfl rfl ?_
    refine tw_getI C fl_RX3_33 rfl (wcells_mem (f := 3) (j := t0) (by decide) h0) rfl dX3_playByHalves_20 ?_
    refine tw_iconst (v := 2) C dX3_playByHalves_23 (by decide) ?_
    refine tw_idiv C dX3_playByHalves_24 (by decide) ?_
    obtain ⟨x2, hx5, hq5⟩ := bnd_ex hf3
    have hJ5 : TW K 33 [(0, rv K (3, t0)), (1, rv K r1), (2, rv K r2), (3, rv K (4, t3)), (4, .int x1)] [rv K x2, rv K (4, t3)] σ2 := by
      refine tw_aload_n (i := 0) (z := 0) (r := (3, t0)) C dX3_playByHalves_33 rfl rfl ?_
      refine tw_getR (g := 13) (z := 0) (j' := t0) C fl_RX3_9 rfl (wcells_mem (f := 3) (j := t0) (by decide) h0) rfl rfl dX3_playByHalves_34 ?_
      refine tw_iload (i := 4) (z := 4) C dX3_playByHalves_37 rfl ?_
      obtain ⟨hb7, eh7⟩ := grd_some hq5
      refine tw_iald (r := (13, t0)) C (ia_of rfl h0) hb7 dX3_playByHalves_39 ?_
      obtain ⟨⟨x3, σ3⟩, hv8, eh8⟩ := obi_some eh7
      refine tw_callV (As := [rv K x2, .int (σ2 (13, t0) (tn x1))]) (rest := []) (r := (4, t3)) C hR (kX4_step K.1 _ (by omega) _ t3 x2 (σ2 (13, t0) (tn x1)) h3 hv8) mi_X4_step is_X4_step se_X4_step ml_RX3_65 (wcells_mem (f := 4) (j := t3) (by decide) h3) rfl rfl rfl rfl (Nat.le_of_ble_eq_true rfl) dX3_playByHalves_40 ?_
      show TW K 43 [(0, rv K (3, t0)), (1, rv K r1), (2, rv K r2), (3, rv K (4, t3)), (4, .int x1)] [.int x3] σ3
      refine tw_pop C dX3_playByHalves_43 rfl ?_
      obtain ⟨x4, ex9, eh9⟩ := bnd_ex eh8
      refine tw_iinc (z := 4) (v := x4) (lv' := [(0, rv K (3, t0)), (1, rv K r1), (2, rv K r2), (3, rv K (4, t3)), (4, .int x4)]) C [1, 2, 3, 4, 0] dX3_playByHalves_44 rfl ex9 (by rw [hnL]; decide) rfl ?_
      refine tw_goto (tgt := 7) C dX3_playByHalves_47 (by decide) ?_
      have hz := lp_c eh9 hk2
      exact hz
    refine tw_ic_ge (tgt := 32) C dX3_playByHalves_25 (by decide) (fun hc6 => ?_) (fun hc6 => ?_)
    · have ht6 := ite_t hc6 hx5
      refine tw_aload_n (i := 2) (z := 2) (r := r2) C dX3_playByHalves_32 rfl rfl ?_
      obtain rfl := ht6
      exact hJ5
    · have hf6 := ite_f hc6 hx5
      refine tw_aload_n (i := 1) (z := 1) (r := r1) C dX3_playByHalves_28 rfl rfl ?_
      refine tw_goto (tgt := 33) C dX3_playByHalves_29 (by decide) ?_
      obtain rfl := hf6
      exact hJ5

