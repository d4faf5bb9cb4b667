set_option maxRecDepth 20000 in
def fX3_wayOf (σ : St) (t0 : Nat) (a1 : Int32) (r2 : Rf) (t3 : Nat) : Option (Int32 × St) :=
  bnd (fX4_begin σ t3) (fun σ1 =>
  lpF (fun (q2 : Int32 × Int32 × St) => match q2 with
  | (x1, x2, σ2) =>
  if a1 < x2 then
    some (.inr ((x1, σ2)))
  else
    if (σ2 (3, t0) 2) ≤ x2 then
      some (.inr ((x1, σ2)))
    else
      obi (fX4_isEnded σ2 t3 r2) (fun x3 =>
      if x3 = true then
        some (.inr (((4 : Int32), σ2)))
      else
        grd (inb x2 40) (
        obi (fX4_step σ2 t3 r2 (σ2 (13, t0) (tn x2))) (fun (x4, σ3) =>
        bnd (x2 + 1) (fun x5 =>
        some (.inl (x4, x5, σ3))))))) ((4 : Int32), (0 : Int32), σ1))
set_option maxRecDepth 20000 in
set_option maxHeartbeats 4000000 in
theorem kX3_wayOf (G : Gx) (d : Nat) (hdp : 4 ≤ d) (σ : St) (t0 : Nat) (a1 : Int32) (r2 : Rf) (t3 : Nat) (h0 : t0 < 12) (h3 : t3 < 3) {v0 : Int32} {σ' : St} (h : fX3_wayOf σ t0 a1 r2 t3 = some (v0, σ')) : MS G d yX3_wayOf cX3_wayOf 6 (some .int) [.ref (G.2.1 (3, t0)), .int a1, .ref (G.2.1 r2), .ref (G.2.1 (4, t3))] σ (some (.int v0)) σ' := by
  refine MS_of (by decide) (Nat.le_of_ble_eq_true rfl) rfl (fun K hG hnL C hR hK => ?_) (by omega)
  subst hG
  show TW K 0 [(0, rv K (3, t0)), (1, .int a1), (2, rv K r2), (3, rv K (4, t3))] [] σ
  unfold fX3_wayOf at h
  refine tw_iconst (v := 4) C dX3_wayOf_0 (by decide) ?_
  refine tw_istore (lv' := [(0, rv K (3, t0)), (1, .int a1), (2, rv K r2), (3, rv K (4, t3)), (4, .int (4 : Int32))]) C [1, 2, 3, 4, 0] dX3_wayOf_1 (by rw [hnL]; decide) rfl ?_
  refine tw_aload_n (i := 3) (z := 3) (r := (4, t3)) C dX3_wayOf_3 rfl rfl ?_
  obtain ⟨σ1, hv1, eh1⟩ := bnd_ex h
  refine tw_callV (As := []) (rest := []) (r := (4, t3)) C hR (kX4_begin K.1 _ (by omega) _ t3 h3 hv1) mi_X4_begin is_X4_begin se_X4_begin ml_RX3_56 (wcells_mem (f := 4) (j := t3) (by decide) h3) rfl rfl rfl rfl (Nat.le_of_ble_eq_true rfl) dX3_wayOf_4 ?_
  show TW K 7 [(0, rv K (3, t0)), (1, .int a1), (2, rv K r2), (3, rv K (4, t3)), (4, .int (4 : Int32))] [] σ1
  refine tw_iconst (v := 0) C dX3_wayOf_7 (by decide) ?_
  refine tw_istore (lv' := [(0, rv K (3, t0)), (1, .int a1), (2, rv K r2), (3, rv K (4, t3)), (4, .int (4 : Int32)), (5, .int (0 : Int32))]) C [1, 2, 3, 4, 5, 0] dX3_wayOf_8 (by rw [hnL]; decide) rfl ?_
  refine lpF_ct (G := fun (q : Int32 × Int32 × St) => match q with | (x1, x2, σ2) => TW K 10 [(0, rv K (3, t0)), (1, .int a1), (2, rv K r2), (3, rv K (4, t3)), (4, .int x1), (5, .int x2)] [] σ2) ?_ eh1
  rintro ⟨x1, x2, σ2⟩ w2 hx2 hk2
  show TW K 10 [(0, rv K (3, t0)), (1, .int a1), (2, rv K r2), (3, rv K (4, t3)), (4, .int x1), (5, .int x2)] [] σ2
  refine tw_iload (i := 5) (z := 5) C dX3_wayOf_10 rfl ?_
  refine tw_iload_n (i := 1) (z := 1) C dX3_wayOf_12 rfl rfl ?_
  refine tw_ic_gt (tgt := 55) C dX3_wayOf_13 (by decide) (fun hc3 => ?_) (fun hc3 => ?_)
  · have ht3 := ite_t hc3 hx2
    refine tw_iload (i := 4) (z := 4) C dX3_wayOf_55 rfl ?_
    have e4 := lp_x ht3 hk2
    obtain ⟨rfl, rfl⟩ := pj2 (Option.some.inj e4)
    exact tw_iret C hK rfl rfl dX3_wayOf_57
  · have hf3 := ite_f hc3 hx2
    refine tw_iload (i := 5) (z := 5) C dX3_wayOf_16 rfl ?_
    refine tw_aload_n (i := 0) (z := 0) (r := (3, t0)) C dX3_wayOf_18 rfl rfl ?_
    refine tw_getI C fl_RX3_33 rfl (wcells_mem (f := 3) (j := t0) (by decide) h0) rfl dX3_wayOf_19 ?_
    refine tw_ic_ge (tgt := 55) C dX3_wayOf_22 (by decide) (fun hc5 => ?_) (fun hc5 => ?_)
    · have ht5 := ite_t hc5 hf3
      refine tw_iload (i := 4) (z := 4) C dX3_wayOf_55 rfl ?_
      have e6 := lp_x ht5 hk2
      obtain ⟨rfl, rfl⟩ := pj2 (Option.some.inj e6)
      exact tw_iret C hK rfl rfl dX3_wayOf_57
    · have hf5 := ite_f hc5 hf3
      refine tw_aload_n (i := 3) (z := 3) (r := (4, t3)) C dX3_wayOf_25 rfl rfl ?_
      refine tw_aload_n (i := 2) (z := 2) (r := r2) C dX3_wayOf_26 rfl rfl ?_
      obtain ⟨x3, hv7, eh7⟩ := obi_some hf5
      refine tw_callV (As := [rv K r2]) (rest := []) (r := (4, t3)) C hR (kX4_isEnded K.1 _ (by omega) σ2 t3 r2 h3 hv7) mi_X4_isEnded is_X4_isEnded se_X4_isEnded ml_RX3_61 (wcells_mem (f := 4) (j := t3) (by decide) h3) rfl rfl rfl rfl (Nat.le_of_ble_eq_true rfl) dX3_wayOf_27 ?_
      show TW K 30 [(0, rv K (3, t0)), (1, .int a1), (2, rv K r2), (3, rv K (4, t3)), (4, .int x1), (5, .int x2)] [.int (b2i x3)] σ2
      refine tw_if_eq (tgt := 35) C dX3_wayOf_30 (by decide) (fun hc8 => ?_) (fun hc8 => ?_)
      · have ht8 := ite_f (b2i_z hc8) eh7
        refine tw_aload_n (i := 3) (z := 3) (r := (4, t3)) C dX3_wayOf_35 rfl rfl ?_
        refine tw_aload_n (i := 2) (z := 2) (r := r2) C dX3_wayOf_36 rfl rfl ?_
        refine tw_aload_n (i := 0) (z := 0) (r := (3, t0)) C dX3_wayOf_37 rfl rfl ?_
        refine tw_getR (g := 13) (z := 0) (j' := t0) C fl_RX3_9 rfl (wcells_mem (f := 3) (j := t0) (by decide) h0) rfl rfl dX3_wayOf_38 ?_
        refine tw_iload (i := 5) (z := 5) C dX3_wayOf_41 rfl ?_
        obtain ⟨hb9, eh9⟩ := grd_some ht8
        refine tw_iald (r := (13, t0)) C (ia_of rfl h0) hb9 dX3_wayOf_43 ?_
        obtain ⟨⟨x4, σ3⟩, hv10, eh10⟩ := obi_some eh9
        refine tw_callV (As := [rv K r2, .int (σ2 (13, t0) (tn x2))]) (rest := []) (r := (4, t3)) C hR (kX4_step K.1 _ (by omega) _ t3 r2 (σ2 (13, t0) (tn x2)) h3 hv10) mi_X4_step is_X4_step se_X4_step ml_RX3_65 (wcells_mem (f := 4) (j := t3) (by decide) h3) rfl rfl rfl rfl (Nat.le_of_ble_eq_true rfl) dX3_wayOf_44 ?_
        show TW K 47 [(0, rv K (3, t0)), (1, .int a1), (2, rv K r2), (3, rv K (4, t3)), (4, .int x1), (5, .int x2)] [.int x4] σ3
        refine tw_istore (lv' := [(0, rv K (3, t0)), (1, .int a1), (2, rv K r2), (3, rv K (4, t3)), (4, .int x4), (5, .int x2)]) C [1, 2, 3, 4, 0, 5] dX3_wayOf_47 (by rw [hnL]; decide) rfl ?_
        obtain ⟨x5, ex11, eh11⟩ := bnd_ex eh10
        refine tw_iinc (z := 5) (v := x5) (lv' := [(0, rv K (3, t0)), (1, .int a1), (2, rv K r2), (3, rv K (4, t3)), (4, .int x4), (5, .int x5)]) C [1, 2, 3, 4, 5, 0] dX3_wayOf_49 rfl ex11 (by rw [hnL]; decide) rfl ?_
        refine tw_goto (tgt := 10) C dX3_wayOf_52 (by decide) ?_
        have hz := lp_c eh11 hk2
        exact hz
      · have hf8 := ite_t (b2i_nz hc8) eh7
        refine tw_iconst (v := 4) C dX3_wayOf_33 (by decide) ?_
        have e12 := lp_x hf8 hk2
        obtain ⟨rfl, rfl⟩ := pj2 (Option.some.inj e12)
        exact tw_iret C hK rfl rfl dX3_wayOf_34

set_option maxRecDepth 20000 in
def fX3_agreesWith (σ : St) (t0 : Nat) (r1 : Rf) (t2 : Nat) : Option (Bool × St) :=
  bnd (fX4_begin σ t2) (fun σ1 =>
  lpF (fun (q2 : Int32 × St) => match q2 with
  | (x1, σ2) =>
  if (σ2 (3, t0) 2) ≤ x1 then
    some (.inr ((true, σ2)))
  else
    obi (fX4_isEnded σ2 t2 r1) (fun x2 =>
    if x2 = true then
      some (.inr ((true, σ2)))
    else
      grd (inb x1 40) (
      obi (fX4_step σ2 t2 r1 (σ2 (13, t0) (tn x1))) (fun (x3, σ3) =>
      bj (if x3 = (1 : Int32) then
        grd (inb x1 40) (
        if (σ3 (14, t0) (tn x1)) = 0 then
          some (.inl (.inr ((false, σ3))))
        else
          some (.inr ()))
      else
        some (.inr ())) (fun _ =>
      bj (if x3 = (2 : Int32) then
        grd (inb x1 40) (
        if (σ3 (14, t0) (tn x1)) = (1 : Int32) then
          some (.inl (.inr ((false, σ3))))
        else
          some (.inr ()))
      else
        some (.inr ())) (fun _ =>
      bnd (x1 + 1) (fun x4 =>
      some (.inl (x4, σ3))))))))) ((0 : Int32), σ1))
set_option maxRecDepth 20000 in
set_option maxHeartbeats 4000000 in
theorem kX3_agreesWith (G : Gx) (d : Nat) (hdp : 4 ≤ d) (σ : St) (t0 : Nat) (r1 : Rf) (t2 : Nat) (h0 : t0 < 12) (h2 : t2 < 3) {v0 : Bool} {σ' : St} (h : fX3_agreesWith σ t0 r1 t2 = some (v0, σ')) : MS G d yX3_agreesWith cX3_agreesWith 5 (some .boolean) [.ref (G.2.1 (3, t0)), .ref (G.2.1 r1), .ref (G.2.1 (4, t2))] σ (some (.int (b2i v0))) σ' := by
  refine MS_of (by decide) (Nat.le_of_ble_eq_true rfl) rfl (fun K hG hnL C hR hK => ?_) (by omega)
  subst hG
  show TW K 0 [(0, rv K (3, t0)), (1, rv K r1), (2, rv K (4, t2))] [] σ
  unfold fX3_agreesWith at h
  refine tw_aload_n (i := 2) (z := 2) (r := (4, t2)) C dX3_agreesWith_0 rfl rfl ?_
  obtain ⟨σ1, hv1, eh1⟩ := bnd_ex h
  refine tw_callV (As := []) (rest := []) (r := (4, t2)) C hR (kX4_begin K.1 _ (by omega) _ t2 h2 hv1) mi_X4_begin is_X4_begin se_X4_begin ml_RX3_56 (wcells_mem (f := 4) (j := t2) (by decide) h2) rfl rfl rfl rfl (Nat.le_of_ble_eq_true rfl) dX3_agreesWith_1 ?_
  show TW K 4 [(0, rv K (3, t0)), (1, rv K r1), (2, rv K (4, t2))] [] σ1
  refine tw_iconst (v := 0) C dX3_agreesWith_4 (by decide) ?_
  refine tw_istore_n (lv' := [(0, rv K (3, t0)), (1, rv K r1), (2, rv K (4, t2)), (3, .int (0 : Int32))]) C [1, 2, 3, 0] dX3_agreesWith_5 rfl (by rw [hnL]; decide) rfl ?_
  refine lpF_ct (G := fun (q : Int32 × St) => match q with | (x1, σ2) => TW K 6 [(0, rv K (3, t0)), (1, rv K r1), (2, rv K (4, t2)), (3, .int x1)] [] σ2) ?_ eh1
  rintro ⟨x1, σ2⟩ w2 hx2 hk2
  show TW K 6 [(0, rv K (3, t0)), (1, rv K r1), (2, rv K (4, t2)), (3, .int x1)] [] σ2
  refine tw_iload_n (i := 3) (z := 3) C dX3_agreesWith_6 rfl rfl ?_
  refine tw_aload_n (i := 0) (z := 0) (r := (3, t0)) C dX3_agreesWith_7 rfl rfl ?_
  refine tw_getI C fl_RX3_33 rfl (wcells_mem (f := 3) (j := t0) (by decide) h0) rfl dX3_agreesWith_8 ?_
  refine tw_ic_ge (tgt := 74) C dX3_agreesWith_11 (by decide) (fun hc3 => ?_) (fun hc3 => ?_)
  · have ht3 := ite_t hc3 hx2
    refine tw_iconst (v := 1) C dX3_agreesWith_74 (by decide) ?_
    have e4 := lp_x ht3 hk2
    obtain ⟨rfl, rfl⟩ := pj2 (Option.some.inj e4)
    exact tw_zret C hK rfl rfl rfl dX3_agreesWith_75
  · have hf3 := ite_f hc3 hx2
    refine tw_aload_n (i := 2) (z := 2) (r := (4, t2)) C dX3_agreesWith_14 rfl rfl ?_
    refine tw_aload_n (i := 1) (z := 1) (r := r1) C dX3_agreesWith_15 rfl rfl ?_
    obtain ⟨x2, hv5, eh5⟩ := obi_some hf3
    refine tw_callV (As := [rv K r1]) (rest := []) (r := (4, t2)) C hR (kX4_isEnded K.1 _ (by omega) σ2 t2 r1 h2 hv5) mi_X4_isEnded is_X4_isEnded se_X4_isEnded ml_RX3_61 (wcells_mem (f := 4) (j := t2) (by decide) h2) rfl rfl rfl rfl (Nat.le_of_ble_eq_true rfl) dX3_agreesWith_16 ?_
    show TW K 19 [(0, rv K (3, t0)), (1, rv K r1), (2, rv K (4, t2)), (3, .int x1)] [.int (b2i x2)] σ2
    refine tw_if_ne (tgt := 74) C dX3_agreesWith_19 (by decide) (fun hc6 => ?_) (fun hc6 => ?_)
    · have ht6 := ite_t (b2i_nz hc6) eh5
      refine tw_iconst (v := 1) C dX3_agreesWith_74 (by decide) ?_
      have e7 := lp_x ht6 hk2
      obtain ⟨rfl, rfl⟩ := pj2 (Option.some.inj e7)
      exact tw_zret C hK rfl rfl rfl dX3_agreesWith_75
    · have hf6 := ite_f (b2i_z hc6) eh5
      refine tw_aload_n (i := 2) (z := 2) (r := (4, t2)) C dX3_agreesWith_22 rfl rfl ?_
      refine tw_aload_n (i := 1) (z := 1) (r := r1) C dX3_agreesWith_23 rfl rfl ?_
      refine tw_aload_n (i := 0) (z := 0) (r := (3, t0)) C dX3_agreesWith_24 rfl rfl ?_
      refine tw_getR (g := 13) (z := 0) (j' := t0) C fl_RX3_9 rfl (wcells_mem (f := 3) (j := t0) (by decide) h0) rfl rfl dX3_agreesWith_25 ?_
      refine tw_iload_n (i := 3) (z := 3) C dX3_agreesWith_28 rfl rfl ?_
      obtain ⟨hb8, eh8⟩ := grd_some hf6
      refine tw_iald (r := (13, t0)) C (ia_of rfl h0) hb8 dX3_agreesWith_29 ?_
      obtain ⟨⟨x3, σ3⟩, hv9, eh9⟩ := obi_some eh8
      refine tw_callV (As := [rv K r1, .int (σ2 (13, t0) (tn x1))]) (rest := []) (r := (4, t2)) C hR (kX4_step K.1 _ (by omega) _ t2 r1 (σ2 (13, t0) (tn x1)) h2 hv9) mi_X4_step is_X4_step se_X4_step ml_RX3_65 (wcells_mem (f := 4) (j := t2) (by decide) h2) rfl rfl rfl rfl (Nat.le_of_ble_eq_true rfl) dX3_agreesWith_30 ?_
      show TW K 33 [(0, rv K (3, t0)), (1, rv K r1), (2, rv K (4, t2)), (3, .int x1)] [.int x3] σ3
      refine tw_istore (lv' := [(0, rv K (3, t0)), (1, rv K r1), (2, rv K (4, t2)), (3, .int x1), (4, .int x3)]) C [1, 2, 3, 4, 0] dX3_agreesWith_33 (by rw [hnL]; decide) rfl ?_
      refine tw_iload (i := 4) (z := 4) C dX3_agreesWith_35 rfl ?_
      refine tw_iconst (v := 1) C dX3_agreesWith_37 (by decide) ?_
      obtain ⟨y10, hx10, hy10⟩ := bj_some eh9
      have hJ10 : y10 = .inr () → TW K 50 [(0, rv K (3, t0)), (1, rv K r1), (2, rv K (4, t2)), (3, .int x1), (4, .int x3)] [] σ3 := by
        intro  ey10
        have hq10 := bj_r ey10 hy10
        refine tw_iload (i := 4) (z := 4) C dX3_agreesWith_50 rfl ?_
        refine tw_iconst (v := 2) C dX3_agreesWith_52 (by decide) ?_
        obtain ⟨y16, hx16, hy16⟩ := bj_some hq10
        have hJ16 : y16 = .inr () → TW K 68 [(0, rv K (3, t0)), (1, rv K r1), (2, rv K (4, t2)), (3, .int x1)] [] σ3 := by
          intro  ey16
          have hq16 := bj_r ey16 hy16
          obtain ⟨x4, ex22, eh22⟩ := bnd_ex hq16
          refine tw_iinc (z := 3) (v := x4) (lv' := [(0, rv K (3, t0)), (1, rv K r1), (2, rv K (4, t2)), (3, .int x4)]) C [1, 2, 3, 0] dX3_agreesWith_68 rfl ex22 (by rw [hnL]; decide) rfl ?_
          refine tw_goto (tgt := 6) C dX3_agreesWith_71 (by decide) ?_
          have hz := lp_c eh22 hk2
          exact hz
        refine tw_ic_ne (tgt := 68) C dX3_agreesWith_53 (by decide) (fun hc17 => ?_) (fun hc17 => ?_)
        · have ht17 := ite_f hc17 hx16
          refine tw_sub [0, 1, 2, 3] rfl ?_
          exact hJ16 (Option.some.inj ht17).symm
        · have hf17 := ite_t hc17 hx16
          refine tw_aload_n (i := 0) (z := 0) (r := (3, t0)) C dX3_agreesWith_56 rfl rfl ?_
          refine tw_getR (g := 14) (z := 0) (j' := t0) C fl_RX3_15 rfl (wcells_mem (f := 3) (j := t0) (by decide) h0) rfl rfl dX3_agreesWith_57 ?_
          refine tw_iload_n (i := 3) (z := 3) C dX3_agreesWith_60 rfl rfl ?_
          obtain ⟨hb18, eh18⟩ := grd_some hf17
          refine tw_iald (r := (14, t0)) C (ia_of rfl h0) hb18 dX3_agreesWith_61 ?_
          refine tw_iconst (v := 1) C dX3_agreesWith_62 (by decide) ?_
          refine tw_ic_ne (tgt := 68) C dX3_agreesWith_63 (by decide) (fun hc19 => ?_) (fun hc19 => ?_)
          · have ht19 := ite_f hc19 eh18
            refine tw_sub [0, 1, 2, 3] rfl ?_
            exact hJ16 (Option.some.inj ht19).symm
          · have hf19 := ite_t hc19 eh18
            refine tw_iconst (v := 0) C dX3_agreesWith_66 (by decide) ?_
            have e20 := bj_l hf19 hy16
            have e21 := lp_x e20 hk2
            obtain ⟨rfl, rfl⟩ := pj2 (Option.some.inj e21)
            exact tw_zret C hK rfl rfl rfl dX3_agreesWith_67
      refine tw_ic_ne (tgt := 50) C dX3_agreesWith_38 (by decide) (fun hc11 => ?_) (fun hc11 => ?_)
      · have ht11 := ite_f hc11 hx10
        exact hJ10 (Option.some.inj ht11).symm
      · have hf11 := ite_t hc11 hx10
        refine tw_aload_n (i := 0) (z := 0) (r := (3, t0)) C dX3_agreesWith_41 rfl rfl ?_
        refine tw_getR (g := 14) (z := 0) (j' := t0) C fl_RX3_15 rfl (wcells_mem (f := 3) (j := t0) (by decide) h0) rfl rfl dX3_agreesWith_42 ?_
        refine tw_iload_n (i := 3) (z := 3) C dX3_agreesWith_45 rfl rfl ?_
        obtain ⟨hb12, eh12⟩ := grd_some hf11
        refine tw_iald (r := (14, t0)) C (ia_of rfl h0) hb12 dX3_agreesWith_46 ?_
        refine tw_if_eq (tgt := 66) C dX3_agreesWith_47 (by decide) (fun hc13 => ?_) (fun hc13 => ?_)
        · have ht13 := ite_t hc13 eh12
          refine tw_iconst (v := 0) C dX3_agreesWith_66 (by decide) ?_
          have e14 := bj_l ht13 hy10
          have e15 := lp_x e14 hk2
          obtain ⟨rfl, rfl⟩ := pj2 (Option.some.inj e15)
          exact tw_zret C hK rfl rfl rfl dX3_agreesWith_67
        · have hf13 := ite_f hc13 eh12
          exact hJ10 (Option.some.inj hf13).symm

set_option maxRecDepth 20000 in
def fX3_customOf (σ : St) (t0 : Nat) (a1 : Int32) (a2 : Int32) (t3 : Nat) : Option (Int32 × St) :=
  bnd (fX4_begin σ t3) (fun σ1 =>
  lpF (fun (q2 : Int32 × Int32 × St) => match q2 with
  | (x1, x2, σ2) =>
  if (σ2 (3, t0) 2) ≤ x2 then
    some (.inr ((x1, σ2)))
  else
    grd (inb x2 40) (
    if (fX8_isSeen (σ2 (13, t0) (tn x2))) = true then
      grd (inb x2 40) (
      bnd (fX8_sideOf (σ2 (13, t0) (tn x2))) (fun x3 =>
      grd (inb x2 40) (
      bnd (fX8_actOf (σ2 (13, t0) (tn x2))) (fun x4 =>
      bj (if (fX4_canBe σ2 t3 x3 x4) = true then
        grd (inb x2 40) (
        if (σ2 (14, t0) (tn x2)) = (-1 : Int32) then
          some (.inl (.inr ((x1, σ2))))
        else
          grd (inb x2 40) (
          obi (if (20 : Int32) ≤ (σ2 (13, t0) (tn x2)) then
            some x1
          else
            if x4 = a1 then
              if (fX8_fromOwnEnd x3 (σ2 (4, t3) 0)) = a2 then
                grd (inb x2 40) (
                bnd (if (σ2 (14, t0) (tn x2)) = (1 : Int32) then
                  (1 : Int32)
                else
                  (2 : Int32)) (fun x7 =>
                bnd (x1 ||| x7) (fun x8 =>
                some x8)))
              else
                some x1
            else
              some x1) (fun x6 =>
          grd (inb x2 40) (
          if (σ2 (14, t0) (tn x2)) = (1 : Int32) then
            obi (fX4_goOn σ2 t3 wpr x3 x4) (fun σ5 =>
            some (.inr (x6, σ5)))
          else
            bnd (fX4_stop σ2 t3 x3) (fun σ4 =>
            some (.inr (x6, σ4)))))))
      else
        some (.inr (x1, σ2))) (fun (x5, σ3) =>
      bnd (x2 + 1) (fun x9 =>
      some (.inl (x5, x9, σ3))))))))
    else
      some (.inr ((x1, σ2))))) ((0 : Int32), (0 : Int32), σ1))
set_option maxRecDepth 20000 in
set_option maxHeartbeats 4000000 in
theorem kX3_customOf (G : Gx) (d : Nat) (hdp : 3 ≤ d) (σ : St) (t0 : Nat) (a1 : Int32) (a2 : Int32) (t3 : Nat) (h0 : t0 < 12) (h3 : t3 < 3) {v0 : Int32} {σ' : St} (h : fX3_customOf σ t0 a1 a2 t3 = some (v0, σ')) : MS G d yX3_customOf cX3_customOf 8 (some .int) [.ref (G.2.1 (3, t0)), .int a1, .int a2, .ref (G.2.1 (4, t3))] σ (some (.int v0)) σ' := by
  refine MS_of (by decide) (Nat.le_of_ble_eq_true rfl) rfl (fun K hG hnL C hR hK => ?_) (by omega)
  subst hG
  show TW K 0 [(0, rv K (3, t0)), (1, .int a1), (2, .int a2), (3, rv K (4, t3))] [] σ
  unfold fX3_customOf at h
  refine tw_iconst (v := 0) C dX3_customOf_0 (by decide) ?_
  refine tw_istore (lv' := [(0, rv K (3, t0)), (1, .int a1), (2, .int a2), (3, rv K (4, t3)), (4, .int (0 : Int32))]) C [1, 2, 3, 4, 0] dX3_customOf_1 (by rw [hnL]; decide) rfl ?_
  refine tw_aload_n (i := 3) (z := 3) (r := (4, t3)) C dX3_customOf_3 rfl rfl ?_
  obtain ⟨σ1, hv1, eh1⟩ := bnd_ex h
  refine tw_callV (As := []) (rest := []) (r := (4, t3)) C hR (kX4_begin K.1 _ (by omega) _ t3 h3 hv1) mi_X4_begin is_X4_begin se_X4_begin ml_RX3_56 (wcells_mem (f := 4) (j := t3) (by decide) h3) rfl rfl rfl rfl (Nat.le_of_ble_eq_true rfl) dX3_customOf_4 ?_
  show TW K 7 [(0, rv K (3, t0)), (1, .int a1), (2, .int a2), (3, rv K (4, t3)), (4, .int (0 : Int32))] [] σ1
  refine tw_iconst (v := 0) C dX3_customOf_7 (by decide) ?_
  refine tw_istore (lv' := [(0, rv K (3, t0)), (1, .int a1), (2, .int a2), (3, rv K (4, t3)), (4, .int (0 : Int32)), (5, .int (0 : Int32))]) C [1, 2, 3, 4, 5, 0] dX3_customOf_8 (by rw [hnL]; decide) rfl ?_
  refine lpF_ct (G := fun (q : Int32 × Int32 × St) => match q with | (x1, x2, σ2) => TW K 10 [(0, rv K (3, t0)), (1, .int a1), (2, .int a2), (3, rv K (4, t3)), (4, .int x1), (5, .int x2)] [] σ2) ?_ eh1
  rintro ⟨x1, x2, σ2⟩ w2 hx2 hk2
  show TW K 10 [(0, rv K (3, t0)), (1, .int a1), (2, .int a2), (3, rv K (4, t3)), (4, .int x1), (5, .int x2)] [] σ2
  refine tw_iload (i := 5) (z := 5) C dX3_customOf_10 rfl ?_
  refine tw_aload_n (i := 0) (z := 0) (r := (3, t0)) C dX3_customOf_12 rfl rfl ?_
  refine tw_getI C fl_RX3_33 rfl (wcells_mem (f := 3) (j := t0) (by decide) h0) rfl dX3_customOf_13 ?_
  refine tw_ic_ge (tgt := 173) C dX3_customOf_16 (by decide) (fun hc3 => ?_) (fun hc3 => ?_)
  · have ht3 := ite_t hc3 hx2
    refine tw_iload (i := 4) (z := 4) C dX3_customOf_173 rfl ?_
    have e4 := lp_x ht3 hk2
    obtain ⟨rfl, rfl⟩ := pj2 (Option.some.inj e4)
    exact tw_iret C hK rfl rfl dX3_customOf_175
  · have hf3 := ite_f hc3 hx2
    refine tw_aload_n (i := 0) (z := 0) (r := (3, t0)) C dX3_customOf_19 rfl rfl ?_
    refine tw_getR (g := 13) (z := 0) (j' := t0) C fl_RX3_9 rfl (wcells_mem (f := 3) (j := t0) (by decide) h0) rfl rfl dX3_customOf_20 ?_
    refine tw_iload (i := 5) (z := 5) C dX3_customOf_23 rfl ?_
    obtain ⟨hb5, eh5⟩ := grd_some hf3
    refine tw_iald (r := (13, t0)) C (ia_of rfl h0) hb5 dX3_customOf_25 ?_
    refine tw_callSN (As := [.int (σ2 (13, t0) (tn x2))]) (rest := []) C hR (kX8_isSeen K.1 _ (by omega) σ2 (σ2 (13, t0) (tn x2))  rfl) mi_X8_isSeen st_X8_isSeen ml_RX3_69 rfl rfl (Nat.le_of_ble_eq_true rfl) dX3_customOf_26 ?_
    show TW K 29 [(0, rv K (3, t0)), (1, .int a1), (2, .int a2), (3, rv K (4, t3)), (4, .int x1), (5, .int x2)] [.int (b2i (fX8_isSeen (σ2 (13, t0) (tn x2))))] σ2
    refine tw_if_eq (tgt := 173) C dX3_customOf_29 (by decide) (fun hc6 => ?_) (fun hc6 => ?_)
    · have ht6 := ite_f (b2i_z hc6) eh5
      refine tw_iload (i := 4) (z := 4) C dX3_customOf_173 rfl ?_
      have e7 := lp_x ht6 hk2
      obtain ⟨rfl, rfl⟩ := pj2 (Option.some.inj e7)
      exact tw_iret C hK rfl rfl dX3_customOf_175
    · have hf6 := ite_t (b2i_nz hc6) eh5
      refine tw_aload_n (i := 0) (z := 0) (r := (3, t0)) C dX3_customOf_32 rfl rfl ?_
      refine tw_getR (g := 13) (z := 0) (j' := t0) C fl_RX3_9 rfl (wcells_mem (f := 3) (j := t0) (by decide) h0) rfl rfl dX3_customOf_33 ?_
      refine tw_iload (i := 5) (z := 5) C dX3_customOf_36 rfl ?_
      obtain ⟨hb8, eh8⟩ := grd_some hf6
      refine tw_iald (r := (13, t0)) C (ia_of rfl h0) hb8 dX3_customOf_38 ?_
      refine tw_callSN (As := [.int (σ2 (13, t0) (tn x2))]) (rest := []) C hR (kX8_sideOf K.1 _ (by omega) σ2 (σ2 (13, t0) (tn x2))  rfl) mi_X8_sideOf st_X8_sideOf ml_RX3_72 rfl rfl (Nat.le_of_ble_eq_true rfl) dX3_customOf_39 ?_
      show TW K 42 [(0, rv K (3, t0)), (1, .int a1), (2, .int a2), (3, rv K (4, t3)), (4, .int x1), (5, .int x2)] [.int (fX8_sideOf (σ2 (13, t0) (tn x2)))] σ2
      obtain ⟨x3, ex9, eh9⟩ := bnd_ex eh8
      refine tw_topi ex9.symm ?_
      refine tw_istore (lv' := [(0, rv K (3, t0)), (1, .int a1), (2, .int a2), (3, rv K (4, t3)), (4, .int x1), (5, .int x2), (6, .int x3)]) C [1, 2, 3, 4, 5, 6, 0] dX3_customOf_42 (by rw [hnL]; decide) rfl ?_
      refine tw_aload_n (i := 0) (z := 0) (r := (3, t0)) C dX3_customOf_44 rfl rfl ?_
      refine tw_getR (g := 13) (z := 0) (j' := t0) C fl_RX3_9 rfl (wcells_mem (f := 3) (j := t0) (by decide) h0) rfl rfl dX3_customOf_45 ?_
      refine tw_iload (i := 5) (z := 5) C dX3_customOf_48 rfl ?_
      obtain ⟨hb10, eh10⟩ := grd_some eh9
      refine tw_iald (r := (13, t0)) C (ia_of rfl h0) hb10 dX3_customOf_50 ?_
      refine tw_callSN (As := [.int (σ2 (13, t0) (tn x2))]) (rest := []) C hR (kX8_actOf K.1 _ (by omega) σ2 (σ2 (13, t0) (tn x2))  rfl) mi_X8_actOf st_X8_actOf ml_RX3_76 rfl rfl (Nat.le_of_ble_eq_true rfl) dX3_customOf_51 ?_
      show TW K 54 [(0, rv K (3, t0)), (1, .int a1), (2, .int a2), (3, rv K (4, t3)), (4, .int x1), (5, .int x2), (6, .int x3)] [.int (fX8_actOf (σ2 (13, t0) (tn x2)))] σ2
      obtain ⟨x4, ex11, eh11⟩ := bnd_ex eh10
      refine tw_topi ex11.symm ?_
      refine tw_istore (lv' := [(0, rv K (3, t0)), (1, .int a1), (2, .int a2), (3, rv K (4, t3)), (4, .int x1), (5, .int x2), (6, .int x3), (7, .int x4)]) C [1, 2, 3, 4, 5, 6, 7, 0] dX3_customOf_54 (by rw [hnL]; decide) rfl ?_
      refine tw_aload_n (i := 3) (z := 3) (r := (4, t3)) C dX3_customOf_56 rfl rfl ?_
      refine tw_iload (i := 6) (z := 6) C dX3_customOf_57 rfl ?_
      refine tw_iload (i := 7) (z := 7) C dX3_customOf_59 rfl ?_
      refine tw_callV (As := [.int x3, .int x4]) (rest := []) (r := (4, t3)) C hR (kX4_canBe K.1 _ (by omega) σ2 t3 x3 x4 h3 rfl) mi_X4_canBe is_X4_canBe se_X4_canBe ml_RX3_79 (wcells_mem (f := 4) (j := t3) (by decide) h3) rfl rfl rfl rfl (Nat.le_of_ble_eq_true rfl) dX3_customOf_61 ?_
      show TW K 64 [(0, rv K (3, t0)), (1, .int a1), (2, .int a2), (3, rv K (4, t3)), (4, .int x1), (5, .int x2), (6, .int x3), (7, .int x4)] [.int (b2i (fX4_canBe σ2 t3 x3 x4))] σ2
      obtain ⟨y12, hx12, hy12⟩ := bj_some eh11
      have hJ12 : ∀ (x5 : Int32) (σ3 : St), y12 = .inr (x5, σ3) → TW K 167 [(0, rv K (3, t0)), (1, .int a1), (2, .int a2), (3, rv K (4, t3)), (4, .int x5), (5, .int x2)] [] σ3 := by
        intro x5 σ3 ey12
        have hq12 := bj_r ey12 hy12
        obtain ⟨x9, ex31, eh31⟩ := bnd_ex hq12
        refine tw_iinc (z := 5) (v := x9) (lv' := [(0, rv K (3, t0)), (1, .int a1), (2, .int a2), (3, rv K (4, t3)), (4, .int x5), (5, .int x9)]) C [1, 2, 3, 4, 5, 0] dX3_customOf_167 rfl ex31 (by rw [hnL]; decide) rfl ?_
        refine tw_goto (tgt := 10) C dX3_customOf_170 (by decide) ?_
        have hz := lp_c eh31 hk2
        exact hz
      refine tw_if_ne (tgt := 70) C dX3_customOf_64 (by decide) (fun hc13 => ?_) (fun hc13 => ?_)
      · have ht13 := ite_t (b2i_nz hc13) hx12
        refine tw_aload_n (i := 0) (z := 0) (r := (3, t0)) C dX3_customOf_70 rfl rfl ?_
        refine tw_getR (g := 14) (z := 0) (j' := t0) C fl_RX3_15 rfl (wcells_mem (f := 3) (j := t0) (by decide) h0) rfl rfl dX3_customOf_71 ?_
        refine tw_iload (i := 5) (z := 5) C dX3_customOf_74 rfl ?_
        obtain ⟨hb14, eh14⟩ := grd_some ht13
        refine tw_iald (r := (14, t0)) C (ia_of rfl h0) hb14 dX3_customOf_76 ?_
        refine tw_iconst (v := (-1)) C dX3_customOf_77 (by decide) ?_
        refine tw_ic_ne (tgt := 84) C dX3_customOf_78 (by decide) (fun hc15 => ?_) (fun hc15 => ?_)
        · have ht15 := ite_f hc15 eh14
          refine tw_aload_n (i := 0) (z := 0) (r := (3, t0)) C dX3_customOf_84 rfl rfl ?_
          refine tw_getR (g := 13) (z := 0) (j' := t0) C fl_RX3_9 rfl (wcells_mem (f := 3) (j := t0) (by decide) h0) rfl rfl dX3_customOf_85 ?_
          refine tw_iload (i := 5) (z := 5) C dX3_customOf_88 rfl ?_
          obtain ⟨hb16, eh16⟩ := grd_some ht15
          refine tw_iald (r := (13, t0)) C (ia_of rfl h0) hb16 dX3_customOf_90 ?_
          refine tw_bipush (v := 20) C dX3_customOf_91 (by decide) ?_
          obtain ⟨x6, hx17, hq17⟩ := obi_some eh16
          have hJ17 : TW K 136 [(0, rv K (3, t0)), (1, .int a1), (2, .int a2), (3, rv K (4, t3)), (4, .int x6), (5, .int x2), (6, .int x3), (7, .int x4)] [] σ2 := by
            refine tw_aload_n (i := 0) (z := 0) (r := (3, t0)) C dX3_customOf_136 rfl rfl ?_
            refine tw_getR (g := 14) (z := 0) (j' := t0) C fl_RX3_15 rfl (wcells_mem (f := 3) (j := t0) (by decide) h0) rfl rfl dX3_customOf_137 ?_
            refine tw_iload (i := 5) (z := 5) C dX3_customOf_140 rfl ?_
            obtain ⟨hb25, eh25⟩ := grd_some hq17
            refine tw_iald (r := (14, t0)) C (ia_of rfl h0) hb25 dX3_customOf_142 ?_
            refine tw_iconst (v := 1) C dX3_customOf_143 (by decide) ?_
            refine tw_ic_ne (tgt := 161) C dX3_customOf_144 (by decide) (fun hc26 => ?_) (fun hc26 => ?_)
            · have ht26 := ite_f hc26 eh25
              refine tw_aload_n (i := 3) (z := 3) (r := (4, t3)) C dX3_customOf_161 rfl rfl ?_
              refine tw_iload (i := 6) (z := 6) C dX3_customOf_162 rfl ?_
              obtain ⟨σ4, hv27, eh27⟩ := bnd_ex ht26
              refine tw_callV (As := [.int x3]) (rest := []) (r := (4, t3)) C hR (kX4_stop K.1 _ (by omega) _ t3 x3 h3 hv27) mi_X4_stop is_X4_stop se_X4_stop ml_RX3_96 (wcells_mem (f := 4) (j := t3) (by decide) h3) rfl rfl rfl rfl (Nat.le_of_ble_eq_true rfl) dX3_customOf_164 ?_
              show TW K 167 [(0, rv K (3, t0)), (1, .int a1), (2, .int a2), (3, rv K (4, t3)), (4, .int x6), (5, .int x2), (6, .int x3), (7, .int x4)] [] σ4
              refine tw_sub [0, 1, 2, 3, 4, 5] rfl ?_
              exact hJ12 _ _ (Option.some.inj eh27).symm
            · have hf26 := ite_t hc26 eh25
              refine tw_aload_n (i := 3) (z := 3) (r := (4, t3)) C dX3_customOf_147 rfl rfl ?_
              refine tw_getsN C gs_RX3_89 dX3_customOf_148 ?_
              refine tw_iload (i := 6) (z := 6) C dX3_customOf_151 rfl ?_
              refine tw_iload (i := 7) (z := 7) C dX3_customOf_153 rfl ?_
              obtain ⟨σ5, hv28, eh28⟩ := obi_some hf26
              refine tw_callV (As := [rv K wpr, .int x3, .int x4]) (rest := []) (r := (4, t3)) C hR (kX4_goOn K.1 _ (by omega) _ t3 wpr x3 x4 h3 hv28) mi_X4_goOn is_X4_goOn se_X4_goOn ml_RX3_92 (wcells_mem (f := 4) (j := t3) (by decide) h3) rfl rfl rfl rfl (Nat.le_of_ble_eq_true rfl) dX3_customOf_155 ?_
              show TW K 158 [(0, rv K (3, t0)), (1, .int a1), (2, .int a2), (3, rv K (4, t3)), (4, .int x6), (5, .int x2), (6, .int x3), (7, .int x4)] [] σ5
              refine tw_goto (tgt := 167) C dX3_customOf_158 (by decide) ?_
              refine tw_sub [0, 1, 2, 3, 4, 5] rfl ?_
              exact hJ12 _ _ (Option.some.inj eh28).symm
          refine tw_ic_ge (tgt := 136) C dX3_customOf_93 (by decide) (fun hc18 => ?_) (fun hc18 => ?_)
          · have ht18 := ite_t hc18 hx17
            obtain rfl := (Option.some.inj ht18)
            exact hJ17
          · have hf18 := ite_f hc18 hx17
            refine tw_iload (i := 7) (z := 7) C dX3_customOf_96 rfl ?_
            refine tw_iload_n (i := 1) (z := 1) C dX3_customOf_98 rfl rfl ?_
            refine tw_ic_ne (tgt := 136) C dX3_customOf_99 (by decide) (fun hc19 => ?_) (fun hc19 => ?_)
            · have ht19 := ite_f hc19 hf18
              obtain rfl := (Option.some.inj ht19)
              exact hJ17
            · have hf19 := ite_t hc19 hf18
              refine tw_iload (i := 6) (z := 6) C dX3_customOf_102 rfl ?_
              refine tw_aload_n (i := 3) (z := 3) (r := (4, t3)) C dX3_customOf_104 rfl rfl ?_
              refine tw_getI C fl_RX3_83 rfl (wcells_mem (f := 4) (j := t3) (by decide) h3) rfl dX3_customOf_105 ?_
              refine tw_callSN (As := [.int x3, .int (σ2 (4, t3) 0)]) (rest := []) C hR (kX8_fromOwnEnd K.1 _ (by omega) σ2 x3 (σ2 (4, t3) 0)  rfl) mi_X8_fromOwnEnd st_X8_fromOwnEnd ml_RX3_86 rfl rfl (Nat.le_of_ble_eq_true rfl) dX3_customOf_108 ?_
              show TW K 111 [(0, rv K (3, t0)), (1, .int a1), (2, .int a2), (3, rv K (4, t3)), (4, .int x1), (5, .int x2), (6, .int x3), (7, .int x4)] [.int (fX8_fromOwnEnd x3 (σ2 (4, t3) 0))] σ2
              refine tw_iload_n (i := 2) (z := 2) C dX3_customOf_111 rfl rfl ?_
              refine tw_ic_ne (tgt := 136) C dX3_customOf_112 (by decide) (fun hc20 => ?_) (fun hc20 => ?_)
              · have ht20 := ite_f hc20 hf19
                obtain rfl := (Option.some.inj ht20)
                exact hJ17
              · have hf20 := ite_t hc20 hf19
                refine tw_iload (i := 4) (z := 4) C dX3_customOf_115 rfl ?_
                refine tw_aload_n (i := 0) (z := 0) (r := (3, t0)) C dX3_customOf_117 rfl rfl ?_
                refine tw_getR (g := 14) (z := 0) (j' := t0) C fl_RX3_15 rfl (wcells_mem (f := 3) (j := t0) (by decide) h0) rfl rfl dX3_customOf_118 ?_
                refine tw_iload (i := 5) (z := 5) C dX3_customOf_121 rfl ?_
                obtain ⟨hb21, eh21⟩ := grd_some hf20
                refine tw_iald (r := (14, t0)) C (ia_of rfl h0) hb21 dX3_customOf_123 ?_
                refine tw_iconst (v := 1) C dX3_customOf_124 (by decide) ?_
                obtain ⟨x7, hx22, hq22⟩ := bnd_ex eh21
                have hJ22 : TW K 133 [(0, rv K (3, t0)), (1, .int a1), (2, .int a2), (3, rv K (4, t3)), (5, .int x2), (6, .int x3), (7, .int x4)] [.int x7, .int x1] σ2 := by
                  refine tw_ior C dX3_customOf_133 ?_
                  obtain ⟨x8, ex24, eh24⟩ := bnd_ex hq22
                  refine tw_topi ex24.symm ?_
                  refine tw_istore (lv' := [(0, rv K (3, t0)), (1, .int a1), (2, .int a2), (3, rv K (4, t3)), (4, .int x8), (5, .int x2), (6, .int x3), (7, .int x4)]) C [1, 2, 3, 4, 0, 5, 6, 7] dX3_customOf_134 (by rw [hnL]; decide) rfl ?_
                  obtain rfl := (Option.some.inj eh24)
                  exact hJ17
                refine tw_ic_ne (tgt := 132) C dX3_customOf_125 (by decide) (fun hc23 => ?_) (fun hc23 => ?_)
                · have ht23 := ite_f hc23 hx22
                  refine tw_iconst (v := 2) C dX3_customOf_132 (by decide) ?_
                  refine tw_sub [0, 1, 2, 3, 5, 6, 7] rfl ?_
                  obtain rfl := ht23
                  exact hJ22
                · have hf23 := ite_t hc23 hx22
                  refine tw_iconst (v := 1) C dX3_customOf_128 (by decide) ?_
                  refine tw_goto (tgt := 133) C dX3_customOf_129 (by decide) ?_
                  refine tw_sub [0, 1, 2, 3, 5, 6, 7] rfl ?_
                  obtain rfl := hf23
                  exact hJ22
        · have hf15 := ite_t hc15 eh14
          refine tw_goto (tgt := 173) C dX3_customOf_81 (by decide) ?_
          refine tw_iload (i := 4) (z := 4) C dX3_customOf_173 rfl ?_
          have e29 := bj_l hf15 hy12
          have e30 := lp_x e29 hk2
          obtain ⟨rfl, rfl⟩ := pj2 (Option.some.inj e30)
          exact tw_iret C hK rfl rfl dX3_customOf_175
      · have hf13 := ite_f (b2i_z hc13) hx12
        refine tw_goto (tgt := 167) C dX3_customOf_67 (by decide) ?_
        refine tw_sub [0, 1, 2, 3, 4, 5] rfl ?_
        exact hJ12 _ _ (Option.some.inj hf13).symm

set_option maxRecDepth 20000 in
def fX4_ball (σ : St) (t0 : Nat) : Int32 :=
  ((((σ (4, t0) 0) * (3 : Int32)) + (σ (4, t0) 1)) * (3 : Int32)) + (σ (4, t0) 2)
set_option maxRecDepth 20000 in
set_option maxHeartbeats 4000000 in
theorem kX4_ball (G : Gx) (d : Nat) (hdp : 1 ≤ d) (σ : St) (t0 : Nat) (h0 : t0 < 3) {v0 : Int32} (h : fX4_ball σ t0 = v0) : MS G d yX4_ball cX4_ball 1 (some .int) [.ref (G.2.1 (4, t0))] σ (some (.int v0)) σ := by
  refine MS_of (by decide) (Nat.le_of_ble_eq_true rfl) rfl (fun K hG hnL C hR hK => ?_) (by omega)
  subst hG
  show TW K 0 [(0, rv K (4, t0))] [] σ
  unfold fX4_ball at h
  refine tw_aload_n (i := 0) (z := 0) (r := (4, t0)) C dX4_ball_0 rfl rfl ?_
  refine tw_getI C fl_RX4_9 rfl (wcells_mem (f := 4) (j := t0) (by decide) h0) rfl dX4_ball_1 ?_
  refine tw_iconst (v := 3) C dX4_ball_4 (by decide) ?_
  refine tw_imul C dX4_ball_5 ?_
  refine tw_aload_n (i := 0) (z := 0) (r := (4, t0)) C dX4_ball_6 rfl rfl ?_
  refine tw_getI C fl_RX4_15 rfl (wcells_mem (f := 4) (j := t0) (by decide) h0) rfl dX4_ball_7 ?_
  refine tw_iadd C dX4_ball_10 ?_
  refine tw_iconst (v := 3) C dX4_ball_11 (by decide) ?_
  refine tw_imul C dX4_ball_12 ?_
  refine tw_aload_n (i := 0) (z := 0) (r := (4, t0)) C dX4_ball_13 rfl rfl ?_
  refine tw_getI C fl_RX4_18 rfl (wcells_mem (f := 4) (j := t0) (by decide) h0) rfl dX4_ball_14 ?_
  refine tw_iadd C dX4_ball_17 ?_
  obtain rfl := h
  exact tw_iret C hK rfl rfl dX4_ball_18

set_option maxRecDepth 20000 in
def fX4_setBall (σ : St) (t0 : Nat) (a1 : Int32) : St :=
  bnd (su σ (4, t0) 0 (a1 / (9 : Int32))) (fun σ1 =>
  bnd (su σ1 (4, t0) 1 (irm (a1 / (3 : Int32)) (3 : Int32))) (fun σ2 =>
  bnd (su σ2 (4, t0) 2 (irm a1 (3 : Int32))) (fun σ3 =>
  σ3)))
set_option maxRecDepth 20000 in
set_option maxHeartbeats 4000000 in
theorem kX4_setBall (G : Gx) (d : Nat) (hdp : 1 ≤ d) (σ : St) (t0 : Nat) (a1 : Int32) (h0 : t0 < 3) {σ' : St} (h : fX4_setBall σ t0 a1 = σ') : MS G d yX4_setBall cX4_setBall 2 none [.ref (G.2.1 (4, t0)), .int a1] σ none σ' := by
  refine MS_of (by decide) (Nat.le_of_ble_eq_true rfl) rfl (fun K hG hnL C hR hK => ?_) (by omega)
  subst hG
  show TW K 0 [(0, rv K (4, t0)), (1, .int a1)] [] σ
  unfold fX4_setBall at h
  refine tw_aload_n (i := 0) (z := 0) (r := (4, t0)) C dX4_setBall_0 rfl rfl ?_
  refine tw_iload_n (i := 1) (z := 1) C dX4_setBall_1 rfl rfl ?_
  refine tw_bipush (v := 9) C dX4_setBall_2 (by decide) ?_
  refine tw_idiv C dX4_setBall_4 (by decide) ?_
  obtain ⟨σ1, es1, eh1⟩ := bnd_ex h
  refine tw_put C fl_RX4_9 (fun q hq => by cases hq; rfl) rfl (wcells_mem (f := 4) (j := t0) (by decide) h0) rfl rfl rfl dX4_setBall_5 ?_
  rw [es1]
  refine tw_aload_n (i := 0) (z := 0) (r := (4, t0)) C dX4_setBall_8 rfl rfl ?_
  refine tw_iload_n (i := 1) (z := 1) C dX4_setBall_9 rfl rfl ?_
  refine tw_iconst (v := 3) C dX4_setBall_10 (by decide) ?_
  refine tw_idiv C dX4_setBall_11 (by decide) ?_
  refine tw_iconst (v := 3) C dX4_setBall_12 (by decide) ?_
  refine tw_irem C dX4_setBall_13 (by decide) ?_
  obtain ⟨σ2, es2, eh2⟩ := bnd_ex eh1
  refine tw_put C fl_RX4_15 (fun q hq => by cases hq; rfl) rfl (wcells_mem (f := 4) (j := t0) (by decide) h0) rfl rfl rfl dX4_setBall_14 ?_
  rw [es2]
  refine tw_aload_n (i := 0) (z := 0) (r := (4, t0)) C dX4_setBall_17 rfl rfl ?_
  refine tw_iload_n (i := 1) (z := 1) C dX4_setBall_18 rfl rfl ?_
  refine tw_iconst (v := 3) C dX4_setBall_19 (by decide) ?_
  refine tw_irem C dX4_setBall_20 (by decide) ?_
  obtain ⟨σ3, es3, eh3⟩ := bnd_ex eh2
  refine tw_put C fl_RX4_18 (fun q hq => by cases hq; rfl) rfl (wcells_mem (f := 4) (j := t0) (by decide) h0) rfl rfl rfl dX4_setBall_21 ?_
  rw [es3]
  obtain rfl := eh3
  exact tw_vret C hK rfl rfl dX4_setBall_24

set_option maxRecDepth 20000 in
def fX4_winner (σ : St) (t0 : Nat) : Int32 :=
  if (σ (4, t0) 4) = (σ (4, t0) 5) then
    (-1 : Int32)
  else
    if (σ (4, t0) 4) ≤ (σ (4, t0) 5) then
      (1 : Int32)
    else
      (0 : Int32)
set_option maxRecDepth 20000 in
set_option maxHeartbeats 4000000 in
theorem kX4_winner (G : Gx) (d : Nat) (hdp : 1 ≤ d) (σ : St) (t0 : Nat) (h0 : t0 < 3) {v0 : Int32} (h : fX4_winner σ t0 = v0) : MS G d yX4_winner cX4_winner 1 (some .int) [.ref (G.2.1 (4, t0))] σ (some (.int v0)) σ := by
  refine MS_of (by decide) (Nat.le_of_ble_eq_true rfl) rfl (fun K hG hnL C hR hK => ?_) (by omega)
  subst hG
  show TW K 0 [(0, rv K (4, t0))] [] σ
  unfold fX4_winner at h
  refine tw_aload_n (i := 0) (z := 0) (r := (4, t0)) C dX4_winner_0 rfl rfl ?_
  refine tw_getI C fl_RX4_24 rfl (wcells_mem (f := 4) (j := t0) (by decide) h0) rfl dX4_winner_1 ?_
  refine tw_aload_n (i := 0) (z := 0) (r := (4, t0)) C dX4_winner_4 rfl rfl ?_
  refine tw_getI C fl_RX4_27 rfl (wcells_mem (f := 4) (j := t0) (by decide) h0) rfl dX4_winner_5 ?_
  refine tw_ic_ne (tgt := 13) C dX4_winner_8 (by decide) (fun hc1 => ?_) (fun hc1 => ?_)
  · have ht1 := ite_f hc1 h
    refine tw_aload_n (i := 0) (z := 0) (r := (4, t0)) C dX4_winner_13 rfl rfl ?_
    refine tw_getI C fl_RX4_24 rfl (wcells_mem (f := 4) (j := t0) (by decide) h0) rfl dX4_winner_14 ?_
    refine tw_aload_n (i := 0) (z := 0) (r := (4, t0)) C dX4_winner_17 rfl rfl ?_
    refine tw_getI C fl_RX4_27 rfl (wcells_mem (f := 4) (j := t0) (by decide) h0) rfl dX4_winner_18 ?_
    refine tw_ic_le (tgt := 28) C dX4_winner_21 (by decide) (fun hc2 => ?_) (fun hc2 => ?_)
    · have ht2 := ite_t hc2 ht1
      refine tw_iconst (v := 1) C dX4_winner_28 (by decide) ?_
      obtain rfl := ht2
      exact tw_iret C hK rfl rfl dX4_winner_29
    · have hf2 := ite_f hc2 ht1
      refine tw_iconst (v := 0) C dX4_winner_24 (by decide) ?_
      refine tw_goto (tgt := 29) C dX4_winner_25 (by decide) ?_
      obtain rfl := hf2
      exact tw_iret C hK rfl rfl dX4_winner_29
  · have hf1 := ite_t hc1 h
    refine tw_iconst (v := (-1)) C dX4_winner_11 (by decide) ?_
    obtain rfl := hf1
    exact tw_iret C hK rfl rfl dX4_winner_12

set_option maxRecDepth 20000 in
def fX4_answer (σ : St) (t0 : Nat) (a1 : Int32) : Int32 :=
  if a1 = 0 then
    σ (4, t0) 4
  else
    if a1 = 1 then
      σ (4, t0) 5
    else
      if a1 = 2 then
        σ (4, t0) 6
      else
        if a1 = 3 then
          σ (4, t0) 7
        else
          if a1 = 4 then
            σ (4, t0) 8
          else
            if a1 = 5 then
              σ (4, t0) 9
            else
              if a1 = 6 then
                fX4_winner σ t0
              else
                if a1 = 7 then
                  σ (4, t0) 0
                else
                  if a1 = 8 then
                    σ (4, t0) 1
                  else
                    (-2 : Int32)
set_option maxRecDepth 20000 in
set_option maxHeartbeats 4000000 in
theorem kX4_answer (G : Gx) (d : Nat) (hdp : 2 ≤ d) (σ : St) (t0 : Nat) (a1 : Int32) (h0 : t0 < 3) {v0 : Int32} (h : fX4_answer σ t0 a1 = v0) : MS G d yX4_answer cX4_answer 2 (some .int) [.ref (G.2.1 (4, t0)), .int a1] σ (some (.int v0)) σ := by
  refine MS_of (by decide) (Nat.le_of_ble_eq_true rfl) rfl (fun K hG hnL C hR hK => ?_) (by omega)
  subst hG
  show TW K 0 [(0, rv K (4, t0)), (1, .int a1)] [] σ
  unfold fX4_answer at h
  refine tw_iload_n (i := 1) (z := 1) C dX4_answer_0 rfl rfl ?_
  by_cases hc1_0 : a1 = 0
  · have ht1_0 := ite_t hc1_0 h
    refine tw_tabZ (tgt := 52) C dX4_answer_1 (0) (by rw [hc1_0]; decide) (by decide) (by decide) rfl (by decide) ?_
    refine tw_aload_n (i := 0) (z := 0) (r := (4, t0)) C dX4_answer_52 rfl rfl ?_
    refine tw_getI C fl_RX4_24 rfl (wcells_mem (f := 4) (j := t0) (by decide) h0) rfl dX4_answer_53 ?_
    obtain rfl := ht1_0
    exact tw_iret C hK rfl rfl dX4_answer_56
  have hf1_0 := ite_f hc1_0 h
  by_cases hc1_1 : a1 = 1
  · have ht1_1 := ite_t hc1_1 hf1_0
    refine tw_tabZ (tgt := 57) C dX4_answer_1 (1) (by rw [hc1_1]; decide) (by decide) (by decide) rfl (by decide) ?_
    refine tw_aload_n (i := 0) (z := 0) (r := (4, t0)) C dX4_answer_57 rfl rfl ?_
    refine tw_getI C fl_RX4_27 rfl (wcells_mem (f := 4) (j := t0) (by decide) h0) rfl dX4_answer_58 ?_
    obtain rfl := ht1_1
    exact tw_iret C hK rfl rfl dX4_answer_61
  have hf1_1 := ite_f hc1_1 hf1_0
  by_cases hc1_2 : a1 = 2
  · have ht1_2 := ite_t hc1_2 hf1_1
    refine tw_tabZ (tgt := 62) C dX4_answer_1 (2) (by rw [hc1_2]; decide) (by decide) (by decide) rfl (by decide) ?_
    refine tw_aload_n (i := 0) (z := 0) (r := (4, t0)) C dX4_answer_62 rfl rfl ?_
    refine tw_getI C fl_RX4_30 rfl (wcells_mem (f := 4) (j := t0) (by decide) h0) rfl dX4_answer_63 ?_
    obtain rfl := ht1_2
    exact tw_iret C hK rfl rfl dX4_answer_66
  have hf1_2 := ite_f hc1_2 hf1_1
  by_cases hc1_3 : a1 = 3
  · have ht1_3 := ite_t hc1_3 hf1_2
    refine tw_tabZ (tgt := 67) C dX4_answer_1 (3) (by rw [hc1_3]; decide) (by decide) (by decide) rfl (by decide) ?_
    refine tw_aload_n (i := 0) (z := 0) (r := (4, t0)) C dX4_answer_67 rfl rfl ?_
    refine tw_getI C fl_RX4_33 rfl (wcells_mem (f := 4) (j := t0) (by decide) h0) rfl dX4_answer_68 ?_
    obtain rfl := ht1_3
    exact tw_iret C hK rfl rfl dX4_answer_71
  have hf1_3 := ite_f hc1_3 hf1_2
  by_cases hc1_4 : a1 = 4
  · have ht1_4 := ite_t hc1_4 hf1_3
    refine tw_tabZ (tgt := 72) C dX4_answer_1 (4) (by rw [hc1_4]; decide) (by decide) (by decide) rfl (by decide) ?_
    refine tw_aload_n (i := 0) (z := 0) (r := (4, t0)) C dX4_answer_72 rfl rfl ?_
    refine tw_getI C fl_RX4_36 rfl (wcells_mem (f := 4) (j := t0) (by decide) h0) rfl dX4_answer_73 ?_
    obtain rfl := ht1_4
    exact tw_iret C hK rfl rfl dX4_answer_76
  have hf1_4 := ite_f hc1_4 hf1_3
  by_cases hc1_5 : a1 = 5
  · have ht1_5 := ite_t hc1_5 hf1_4
    refine tw_tabZ (tgt := 77) C dX4_answer_1 (5) (by rw [hc1_5]; decide) (by decide) (by decide) rfl (by decide) ?_
    refine tw_aload_n (i := 0) (z := 0) (r := (4, t0)) C dX4_answer_77 rfl rfl ?_
    refine tw_getI C fl_RX4_39 rfl (wcells_mem (f := 4) (j := t0) (by decide) h0) rfl dX4_answer_78 ?_
    obtain rfl := ht1_5
    exact tw_iret C hK rfl rfl dX4_answer_81
  have hf1_5 := ite_f hc1_5 hf1_4
  by_cases hc1_6 : a1 = 6
  · have ht1_6 := ite_t hc1_6 hf1_5
    refine tw_tabZ (tgt := 82) C dX4_answer_1 (6) (by rw [hc1_6]; decide) (by decide) (by decide) rfl (by decide) ?_
    refine tw_aload_n (i := 0) (z := 0) (r := (4, t0)) C dX4_answer_82 rfl rfl ?_
    refine tw_callV (As := []) (rest := []) (r := (4, t0)) C hR (kX4_winner K.1 _ (by omega) σ t0 h0 rfl) mi_X4_winner is_X4_winner se_X4_winner ml_RX4_88 (wcells_mem (f := 4) (j := t0) (by decide) h0) rfl rfl rfl rfl (Nat.le_of_ble_eq_true rfl) dX4_answer_83 ?_
    show TW K 86 [(0, rv K (4, t0)), (1, .int a1)] [.int (fX4_winner σ t0)] σ
    obtain rfl := ht1_6
    exact tw_iret C hK rfl rfl dX4_answer_86
  have hf1_6 := ite_f hc1_6 hf1_5
  by_cases hc1_7 : a1 = 7
  · have ht1_7 := ite_t hc1_7 hf1_6
    refine tw_tabZ (tgt := 87) C dX4_answer_1 (7) (by rw [hc1_7]; decide) (by decide) (by decide) rfl (by decide) ?_
    refine tw_aload_n (i := 0) (z := 0) (r := (4, t0)) C dX4_answer_87 rfl rfl ?_
    refine tw_getI C fl_RX4_9 rfl (wcells_mem (f := 4) (j := t0) (by decide) h0) rfl dX4_answer_88 ?_
    obtain rfl := ht1_7
    exact tw_iret C hK rfl rfl dX4_answer_91
  have hf1_7 := ite_f hc1_7 hf1_6
  by_cases hc1_8 : a1 = 8
  · have ht1_8 := ite_t hc1_8 hf1_7
    refine tw_tabZ (tgt := 92) C dX4_answer_1 (8) (by rw [hc1_8]; decide) (by decide) (by decide) rfl (by decide) ?_
    refine tw_aload_n (i := 0) (z := 0) (r := (4, t0)) C dX4_answer_92 rfl rfl ?_
    refine tw_getI C fl_RX4_15 rfl (wcells_mem (f := 4) (j := t0) (by decide) h0) rfl dX4_answer_93 ?_
    obtain rfl := ht1_8
    exact tw_iret C hK rfl rfl dX4_answer_96
  have hf1_8 := ite_f hc1_8 hf1_7
  have hT1 : TW K 97 [(0, rv K (4, t0)), (1, .int a1)] [] σ := by
    refine tw_bipush (v := (-2)) C dX4_answer_97 (by decide) ?_
    obtain rfl := hf1_8
    exact tw_iret C hK rfl rfl dX4_answer_99
  have hn1_0 : ¬ (a1).toInt = 0 := lv_neT (k := 0) hc1_0 (by decide)
  have hn1_1 : ¬ (a1).toInt = 1 := lv_neT (k := 1) hc1_1 (by decide)
  have hn1_2 : ¬ (a1).toInt = 2 := lv_neT (k := 2) hc1_2 (by decide)
  have hn1_3 : ¬ (a1).toInt = 3 := lv_neT (k := 3) hc1_3 (by decide)
  have hn1_4 : ¬ (a1).toInt = 4 := lv_neT (k := 4) hc1_4 (by decide)
  have hn1_5 : ¬ (a1).toInt = 5 := lv_neT (k := 5) hc1_5 (by decide)
  have hn1_6 : ¬ (a1).toInt = 6 := lv_neT (k := 6) hc1_6 (by decide)
  have hn1_7 : ¬ (a1).toInt = 7 := lv_neT (k := 7) hc1_7 (by decide)
  have hn1_8 : ¬ (a1).toInt = 8 := lv_neT (k := 8) hc1_8 (by decide)
  rcases (show (a1).toInt < 0 ∨ 8 < (a1).toInt by omega) with hz | hz
  · exact tw_tabOut (tgt := 97) C dX4_answer_1 (Or.inl hz) (by decide) hT1
  · exact tw_tabOut (tgt := 97) C dX4_answer_1 (Or.inr hz) (by decide) hT1

set_option maxRecDepth 20000 in
def fX5_start (σ : St)  : Option (St) :=
  obi (fJ7_fill_53178 σ (16, 0) (-1 : Int32)) (fun σ1 =>
  bnd (fX4_begin σ1 1) (fun σ2 =>
  bnd (fX4_begin σ2 2) (fun σ3 =>
  bnd (fX4_ball σ3 1) (fun x1 =>
  grd (inb x1 63) (bnd (su σ3 (16, 0) (tn x1) (0 : Int32)) (fun σ4 =>
  bnd (su σ4 (15, 0) (tn (0 : Int32)) x1) (fun σ5 =>
  bnd (su σ5 (5, 0) 8 (1 : Int32)) (fun σ6 =>
  some σ6))))))))
set_option maxRecDepth 20000 in
set_option maxHeartbeats 4000000 in
theorem kX5_start (G : Gx) (d : Nat) (hdp : 2 ≤ d) (σ : St)   {σ' : St} (h : fX5_start σ  = some σ') : MS G d yX5_start cX5_start 2 none [.ref (G.2.1 (5, 0))] σ none σ' := by
  refine MS_of (by decide) (Nat.le_of_ble_eq_true rfl) rfl (fun K hG hnL C hR hK => ?_) (by omega)
  subst hG
  show TW K 0 [(0, rv K (5, 0))] [] σ
  unfold fX5_start at h
  refine tw_aload_n (i := 0) (z := 0) (r := (5, 0)) C dX5_start_0 rfl rfl ?_
  refine tw_getR (g := 16) (z := 0) (j' := 0) C fl_RX5_15 rfl (wcells_mem (f := 5) (j := 0) (by decide) (by decide)) rfl rfl dX5_start_1 ?_
  refine tw_iconst (v := (-1)) C dX5_start_4 (by decide) ?_
  obtain ⟨σ1, hv1, eh1⟩ := obi_some h
  refine tw_callS (As := [rv K (16, 0), .int (-1 : Int32)]) (rest := []) C hR (kJ7_fill_53178 K.1 _ (by omega) _ (16, 0) (-1 : Int32)  hv1) mi_J7_fill_53178 st_J7_fill_53178 ml_RX5_74 rfl rfl (Nat.le_of_ble_eq_true rfl) dX5_start_5 ?_
  show TW K 8 [(0, rv K (5, 0))] [] σ1
  refine tw_aload_n (i := 0) (z := 0) (r := (5, 0)) C dX5_start_8 rfl rfl ?_
  refine tw_getR (g := 4) (z := 1) (j' := 1) C fl_RX5_30 rfl (wcells_mem (f := 5) (j := 0) (by decide) (by decide)) rfl rfl dX5_start_9 ?_
  obtain ⟨σ2, hv2, eh2⟩ := bnd_ex eh1
  refine tw_callV (As := []) (rest := []) (r := (4, 1)) C hR (kX4_begin K.1 _ (by omega) _ 1 (by decide) hv2) mi_X4_begin is_X4_begin se_X4_begin ml_RX5_80 (wcells_mem (f := 4) (j := 1) (by decide) (by decide)) rfl rfl rfl rfl (Nat.le_of_ble_eq_true rfl) dX5_start_12 ?_
  show TW K 15 [(0, rv K (5, 0))] [] σ2
  refine tw_aload_n (i := 0) (z := 0) (r := (5, 0)) C dX5_start_15 rfl rfl ?_
  refine tw_getR (g := 4) (z := 2) (j' := 2) C fl_RX5_34 rfl (wcells_mem (f := 5) (j := 0) (by decide) (by decide)) rfl rfl dX5_start_16 ?_
  obtain ⟨σ3, hv3, eh3⟩ := bnd_ex eh2
  refine tw_callV (As := []) (rest := []) (r := (4, 2)) C hR (kX4_begin K.1 _ (by omega) _ 2 (by decide) hv3) mi_X4_begin is_X4_begin se_X4_begin ml_RX5_80 (wcells_mem (f := 4) (j := 2) (by decide) (by decide)) rfl rfl rfl rfl (Nat.le_of_ble_eq_true rfl) dX5_start_19 ?_
  show TW K 22 [(0, rv K (5, 0))] [] σ3
  refine tw_aload_n (i := 0) (z := 0) (r := (5, 0)) C dX5_start_22 rfl rfl ?_
  refine tw_getR (g := 4) (z := 1) (j' := 1) C fl_RX5_30 rfl (wcells_mem (f := 5) (j := 0) (by decide) (by decide)) rfl rfl dX5_start_23 ?_
  refine tw_callV (As := []) (rest := []) (r := (4, 1)) C hR (kX4_ball K.1 _ (by omega) σ3 1 (by decide) rfl) mi_X4_ball is_X4_ball se_X4_ball ml_RX5_58 (wcells_mem (f := 4) (j := 1) (by decide) (by decide)) rfl rfl rfl rfl (Nat.le_of_ble_eq_true rfl) dX5_start_26 ?_
  show TW K 29 [(0, rv K (5, 0))] [.int (fX4_ball σ3 1)] σ3
  obtain ⟨x1, ex4, eh4⟩ := bnd_ex eh3
  refine tw_topi ex4.symm ?_
  refine tw_istore_n (lv' := [(0, rv K (5, 0)), (1, .int x1)]) C [1, 0] dX5_start_29 rfl (by rw [hnL]; decide) rfl ?_
  refine tw_aload_n (i := 0) (z := 0) (r := (5, 0)) C dX5_start_30 rfl rfl ?_
  refine tw_getR (g := 16) (z := 0) (j' := 0) C fl_RX5_15 rfl (wcells_mem (f := 5) (j := 0) (by decide) (by decide)) rfl rfl dX5_start_31 ?_
  refine tw_iload_n (i := 1) (z := 1) C dX5_start_34 rfl rfl ?_
  refine tw_iconst (v := 0) C dX5_start_35 (by decide) ?_
  obtain ⟨hb5, eh5⟩ := grd_some eh4
  obtain ⟨σ4, es6, eg6⟩ := bnd_ex eh5
  refine tw_iast (r := (16, 0)) C (wa_of rfl (by decide) (by decide)) hb5 dX5_start_36 ?_
  rw [es6]
  refine tw_aload_n (i := 0) (z := 0) (r := (5, 0)) C dX5_start_37 rfl rfl ?_
  refine tw_getR (g := 15) (z := 0) (j' := 0) C fl_RX5_9 rfl (wcells_mem (f := 5) (j := 0) (by decide) (by decide)) rfl rfl dX5_start_38 ?_
  refine tw_iconst (v := 0) C dX5_start_41 (by decide) ?_
  refine tw_iload_n (i := 1) (z := 1) C dX5_start_42 rfl rfl ?_
  obtain ⟨σ5, es8, eg8⟩ := bnd_ex eg6
  refine tw_iast (r := (15, 0)) C (wa_of rfl (by decide) (by decide)) (by decide) dX5_start_43 ?_
  rw [es8]
  refine tw_aload_n (i := 0) (z := 0) (r := (5, 0)) C dX5_start_44 rfl rfl ?_
  refine tw_iconst (v := 1) C dX5_start_45 (by decide) ?_
  obtain ⟨σ6, es9, eh9⟩ := bnd_ex eg8
  refine tw_put C fl_RX5_44 (fun q hq => by cases hq; rfl) rfl (wcells_mem (f := 5) (j := 0) (by decide) (by decide)) rfl rfl rfl dX5_start_46 ?_
  rw [es9]
  obtain rfl := (Option.some.inj eh9)
  exact tw_vret C hK rfl rfl dX5_start_49

set_option maxRecDepth 20000 in
def fX5_reach (σ : St) (a1 : Int32) (a2 : Int32) (a3 : Int32) : Option (St) :=
  grd (inb a1 63) (
  if (σ (16, 0) (tn a1)) = (-1 : Int32) then
    if (σ (5, 0) 8) < (63 : Int32) then
      grd (inb a2 63) (
      grd (inb a1 63) (bnd (su σ (16, 0) (tn a1) ((σ (16, 0) (tn a2)) + (1 : Int32))) (fun σ1 =>
      grd (inb a1 63) (bnd (su σ1 (17, 0) (tn a1) a2) (fun σ2 =>
      grd (inb a1 63) (bnd (su σ2 (18, 0) (tn a1) a3) (fun σ3 =>
      grd (inb (σ3 (5, 0) 8) 63) (bnd (su σ3 (15, 0) (tn (σ3 (5, 0) 8)) a1) (fun σ4 =>
      bnd (su σ4 (5, 0) 8 ((σ4 (5, 0) 8) + (1 : Int32))) (fun σ5 =>
      some σ5))))))))))
    else
      some σ
  else
    some σ)
set_option maxRecDepth 20000 in
set_option maxHeartbeats 4000000 in
theorem kX5_reach (G : Gx) (d : Nat) (hdp : 1 ≤ d) (σ : St) (a1 : Int32) (a2 : Int32) (a3 : Int32)  {σ' : St} (h : fX5_reach σ a1 a2 a3 = some σ') : MS G d yX5_reach cX5_reach 4 none [.ref (G.2.1 (5, 0)), .int a1, .int a2, .int a3] σ none σ' := by
  refine MS_of (by decide) (Nat.le_of_ble_eq_true rfl) rfl (fun K hG hnL C hR hK => ?_) (by omega)
  subst hG
  show TW K 0 [(0, rv K (5, 0)), (1, .int a1), (2, .int a2), (3, .int a3)] [] σ
  unfold fX5_reach at h
  refine tw_aload_n (i := 0) (z := 0) (r := (5, 0)) C dX5_reach_0 rfl rfl ?_
  refine tw_getR (g := 16) (z := 0) (j' := 0) C fl_RX5_15 rfl (wcells_mem (f := 5) (j := 0) (by decide) (by decide)) rfl rfl dX5_reach_1 ?_
  refine tw_iload_n (i := 1) (z := 1) C dX5_reach_4 rfl rfl ?_
  obtain ⟨hb1, eh1⟩ := grd_some h
  refine tw_iald (r := (16, 0)) C (ia_of rfl (by decide)) hb1 dX5_reach_5 ?_
  refine tw_iconst (v := (-1)) C dX5_reach_6 (by decide) ?_
  refine tw_ic_ne (tgt := 19) C dX5_reach_7 (by decide) (fun hc2 => ?_) (fun hc2 => ?_)
  · have ht2 := ite_f hc2 eh1
    obtain rfl := (Option.some.inj ht2)
    exact tw_vret C hK rfl rfl dX5_reach_19
  · have hf2 := ite_t hc2 eh1
    refine tw_aload_n (i := 0) (z := 0) (r := (5, 0)) C dX5_reach_10 rfl rfl ?_
    refine tw_getI C fl_RX5_44 rfl (wcells_mem (f := 5) (j := 0) (by decide) (by decide)) rfl dX5_reach_11 ?_
    refine tw_bipush (v := 63) C dX5_reach_14 (by decide) ?_
    refine tw_ic_lt (tgt := 20) C dX5_reach_16 (by decide) (fun hc3 => ?_) (fun hc3 => ?_)
    · have ht3 := ite_t hc3 hf2
      refine tw_aload_n (i := 0) (z := 0) (r := (5, 0)) C dX5_reach_20 rfl rfl ?_
      refine tw_getR (g := 16) (z := 0) (j' := 0) C fl_RX5_15 rfl (wcells_mem (f := 5) (j := 0) (by decide) (by decide)) rfl rfl dX5_reach_21 ?_
      refine tw_iload_n (i := 1) (z := 1) C dX5_reach_24 rfl rfl ?_
      refine tw_aload_n (i := 0) (z := 0) (r := (5, 0)) C dX5_reach_25 rfl rfl ?_
      refine tw_getR (g := 16) (z := 0) (j' := 0) C fl_RX5_15 rfl (wcells_mem (f := 5) (j := 0) (by decide) (by decide)) rfl rfl dX5_reach_26 ?_
      refine tw_iload_n (i := 2) (z := 2) C dX5_reach_29 rfl rfl ?_
      obtain ⟨hb4, eh4⟩ := grd_some ht3
      refine tw_iald (r := (16, 0)) C (ia_of rfl (by decide)) hb4 dX5_reach_30 ?_
      refine tw_iconst (v := 1) C dX5_reach_31 (by decide) ?_
      refine tw_iadd C dX5_reach_32 ?_
      obtain ⟨hb5, eh5⟩ := grd_some eh4
      obtain ⟨σ1, es6, eg6⟩ := bnd_ex eh5
      refine tw_iast (r := (16, 0)) C (wa_of rfl (by decide) (by decide)) hb5 dX5_reach_33 ?_
      rw [es6]
      refine tw_aload_n (i := 0) (z := 0) (r := (5, 0)) C dX5_reach_34 rfl rfl ?_
      refine tw_getR (g := 17) (z := 0) (j' := 0) C fl_RX5_18 rfl (wcells_mem (f := 5) (j := 0) (by decide) (by decide)) rfl rfl dX5_reach_35 ?_
      refine tw_iload_n (i := 1) (z := 1) C dX5_reach_38 rfl rfl ?_
      refine tw_iload_n (i := 2) (z := 2) C dX5_reach_39 rfl rfl ?_
      obtain ⟨hb7, eh7⟩ := grd_some eg6
      obtain ⟨σ2, es8, eg8⟩ := bnd_ex eh7
      refine tw_iast (r := (17, 0)) C (wa_of rfl (by decide) (by decide)) hb7 dX5_reach_40 ?_
      rw [es8]
      refine tw_aload_n (i := 0) (z := 0) (r := (5, 0)) C dX5_reach_41 rfl rfl ?_
      refine tw_getR (g := 18) (z := 0) (j' := 0) C fl_RX5_21 rfl (wcells_mem (f := 5) (j := 0) (by decide) (by decide)) rfl rfl dX5_reach_42 ?_
      refine tw_iload_n (i := 1) (z := 1) C dX5_reach_45 rfl rfl ?_
      refine tw_iload_n (i := 3) (z := 3) C dX5_reach_46 rfl rfl ?_
      obtain ⟨hb9, eh9⟩ := grd_some eg8
      obtain ⟨σ3, es10, eg10⟩ := bnd_ex eh9
      refine tw_iast (r := (18, 0)) C (wa_of rfl (by decide) (by decide)) hb9 dX5_reach_47 ?_
      rw [es10]
      refine tw_aload_n (i := 0) (z := 0) (r := (5, 0)) C dX5_reach_48 rfl rfl ?_
      refine tw_getR (g := 15) (z := 0) (j' := 0) C fl_RX5_9 rfl (wcells_mem (f := 5) (j := 0) (by decide) (by decide)) rfl rfl dX5_reach_49 ?_
      refine tw_aload_n (i := 0) (z := 0) (r := (5, 0)) C dX5_reach_52 rfl rfl ?_
      refine tw_getI C fl_RX5_44 rfl (wcells_mem (f := 5) (j := 0) (by decide) (by decide)) rfl dX5_reach_53 ?_
      refine tw_iload_n (i := 1) (z := 1) C dX5_reach_56 rfl rfl ?_
      obtain ⟨hb11, eh11⟩ := grd_some eg10
      obtain ⟨σ4, es12, eg12⟩ := bnd_ex eh11
      refine tw_iast (r := (15, 0)) C (wa_of rfl (by decide) (by decide)) hb11 dX5_reach_57 ?_
      rw [es12]
      refine tw_aload_n (i := 0) (z := 0) (r := (5, 0)) C dX5_reach_58 rfl rfl ?_
      refine tw_dup C dX5_reach_59 rfl ?_
      refine tw_getI C fl_RX5_44 rfl (wcells_mem (f := 5) (j := 0) (by decide) (by decide)) rfl dX5_reach_60 ?_
      refine tw_iconst (v := 1) C dX5_reach_63 (by decide) ?_
      refine tw_iadd C dX5_reach_64 ?_
      obtain ⟨σ5, es13, eh13⟩ := bnd_ex eg12
      refine tw_put C fl_RX5_44 (fun q hq => by cases hq; rfl) rfl (wcells_mem (f := 5) (j := 0) (by decide) (by decide)) rfl rfl rfl dX5_reach_65 ?_
      rw [es13]
      obtain rfl := (Option.some.inj eh13)
      exact tw_vret C hK rfl rfl dX5_reach_68
    · have hf3 := ite_f hc3 hf2
      obtain rfl := (Option.some.inj hf3)
      exact tw_vret C hK rfl rfl dX5_reach_19

set_option maxRecDepth 20000 in
def fX5_traceRow (σ : St) (a1 : Int32) (a2 : Int32) : Option (St) :=
  grd (inb a1 63) (bnd (su σ (5, 0) 7 ((σ (16, 0) (tn a1)) + (1 : Int32))) (fun σ1 =>
  grd (inb ((σ1 (5, 0) 7) - (1 : Int32)) 6) (bnd (su σ1 (19, 0) (tn ((σ1 (5, 0) 7) - (1 : Int32))) a2) (fun σ2 =>
  bnd ((σ2 (5, 0) 7) - (2 : Int32)) (fun x1 =>
  lpF (fun (q6 : Int32 × Int32 × St) => match q6 with
  | (x2, x3, σ3) =>
  if x3 < 0 then
    some (.inr σ3)
  else
    grd (inb x2 63) (
    grd (inb x3 6) (bnd (su σ3 (19, 0) (tn x3) (σ3 (18, 0) (tn x2))) (fun σ4 =>
    grd (inb x2 63) (
    bnd (σ4 (17, 0) (tn x2)) (fun x4 =>
    bnd (x3 + (-1)) (fun x5 =>
    some (.inl (x4, x5, σ4))))))))) (a1, x1, σ2))))))
set_option maxRecDepth 20000 in
set_option maxHeartbeats 4000000 in
theorem kX5_traceRow (G : Gx) (d : Nat) (hdp : 1 ≤ d) (σ : St) (a1 : Int32) (a2 : Int32)  {σ' : St} (h : fX5_traceRow σ a1 a2 = some σ') : MS G d yX5_traceRow cX5_traceRow 5 none [.ref (G.2.1 (5, 0)), .int a1, .int a2] σ none σ' := by
  refine MS_of (by decide) (Nat.le_of_ble_eq_true rfl) rfl (fun K hG hnL C hR hK => ?_) (by omega)
  subst hG
  show TW K 0 [(0, rv K (5, 0)), (1, .int a1), (2, .int a2)] [] σ
  unfold fX5_traceRow at h
  refine tw_iload_n (i := 1) (z := 1) C dX5_traceRow_0 rfl rfl ?_
  refine tw_istore_n (lv' := [(0, rv K (5, 0)), (1, .int a1), (2, .int a2), (3, .int a1)]) C [1, 2, 3, 0] dX5_traceRow_1 rfl (by rw [hnL]; decide) rfl ?_
  refine tw_aload_n (i := 0) (z := 0) (r := (5, 0)) C dX5_traceRow_2 rfl rfl ?_
  refine tw_aload_n (i := 0) (z := 0) (r := (5, 0)) C dX5_traceRow_3 rfl rfl ?_
  refine tw_getR (g := 16) (z := 0) (j' := 0) C fl_RX5_15 rfl (wcells_mem (f := 5) (j := 0) (by decide) (by decide)) rfl rfl dX5_traceRow_4 ?_
  refine tw_iload_n (i := 1) (z := 1) C dX5_traceRow_7 rfl rfl ?_
  obtain ⟨hb1, eh1⟩ := grd_some h
  refine tw_iald (r := (16, 0)) C (ia_of rfl (by decide)) hb1 dX5_traceRow_8 ?_
  refine tw_iconst (v := 1) C dX5_traceRow_9 (by decide) ?_
  refine tw_iadd C dX5_traceRow_10 ?_
  obtain ⟨σ1, es2, eh2⟩ := bnd_ex eh1
  refine tw_put C fl_RX5_37 (fun q hq => by cases hq; rfl) rfl (wcells_mem (f := 5) (j := 0) (by decide) (by decide)) rfl rfl rfl dX5_traceRow_11 ?_
  rw [es2]
  refine tw_aload_n (i := 0) (z := 0) (r := (5, 0)) C dX5_traceRow_14 rfl rfl ?_
  refine tw_getR (g := 19) (z := 0) (j' := 0) C fl_RX5_24 rfl (wcells_mem (f := 5) (j := 0) (by decide) (by decide)) rfl rfl dX5_traceRow_15 ?_
  refine tw_aload_n (i := 0) (z := 0) (r := (5, 0)) C dX5_traceRow_18 rfl rfl ?_
  refine tw_getI C fl_RX5_37 rfl (wcells_mem (f := 5) (j := 0) (by decide) (by decide)) rfl dX5_traceRow_19 ?_
  refine tw_iconst (v := 1) C dX5_traceRow_22 (by decide) ?_
  refine tw_isub C dX5_traceRow_23 ?_
  refine tw_iload_n (i := 2) (z := 2) C dX5_traceRow_24 rfl rfl ?_
  obtain ⟨hb3, eh3⟩ := grd_some eh2
  obtain ⟨σ2, es4, eg4⟩ := bnd_ex eh3
  refine tw_iast (r := (19, 0)) C (wa_of rfl (by decide) (by decide)) hb3 dX5_traceRow_25 ?_
  rw [es4]
  refine tw_aload_n (i := 0) (z := 0) (r := (5, 0)) C dX5_traceRow_26 rfl rfl ?_
  refine tw_getI C fl_RX5_37 rfl (wcells_mem (f := 5) (j := 0) (by decide) (by decide)) rfl dX5_traceRow_27 ?_
  refine tw_iconst (v := 2) C dX5_traceRow_30 (by decide) ?_
  refine tw_isub C dX5_traceRow_31 ?_
  obtain ⟨x1, ex5, eh5⟩ := bnd_ex eg4
  refine tw_topi ex5.symm ?_
  refine tw_istore (lv' := [(0, rv K (5, 0)), (1, .int a1), (2, .int a2), (3, .int a1), (4, .int x1)]) C [1, 2, 3, 4, 0] dX5_traceRow_32 (by rw [hnL]; decide) rfl ?_
  refine tw_sub [0, 3, 4] rfl ?_
  refine lpF_ct (G := fun (q : Int32 × Int32 × St) => match q with | (x2, x3, σ3) => TW K 34 [(0, rv K (5, 0)), (3, .int x2), (4, .int x3)] [] σ3) ?_ eh5
  rintro ⟨x2, x3, σ3⟩ w6 hx6 hk6
  show TW K 34 [(0, rv K (5, 0)), (3, .int x2), (4, .int x3)] [] σ3
  refine tw_iload (i := 4) (z := 2) C dX5_traceRow_34 rfl ?_
  refine tw_if_lt (tgt := 65) C dX5_traceRow_36 (by decide) (fun hc7 => ?_) (fun hc7 => ?_)
  · have ht7 := ite_t hc7 hx6
    have e8 := lp_x ht7 hk6
    obtain rfl := (Option.some.inj e8)
    exact tw_vret C hK rfl rfl dX5_traceRow_65
  · have hf7 := ite_f hc7 hx6
    refine tw_aload_n (i := 0) (z := 0) (r := (5, 0)) C dX5_traceRow_39 rfl rfl ?_
    refine tw_getR (g := 19) (z := 0) (j' := 0) C fl_RX5_24 rfl (wcells_mem (f := 5) (j := 0) (by decide) (by decide)) rfl rfl dX5_traceRow_40 ?_
    refine tw_iload (i := 4) (z := 2) C dX5_traceRow_43 rfl ?_
    refine tw_aload_n (i := 0) (z := 0) (r := (5, 0)) C dX5_traceRow_45 rfl rfl ?_
    refine tw_getR (g := 18) (z := 0) (j' := 0) C fl_RX5_21 rfl (wcells_mem (f := 5) (j := 0) (by decide) (by decide)) rfl rfl dX5_traceRow_46 ?_
    refine tw_iload_n (i := 3) (z := 1) C dX5_traceRow_49 rfl rfl ?_
    obtain ⟨hb9, eh9⟩ := grd_some hf7
    refine tw_iald (r := (18, 0)) C (ia_of rfl (by decide)) hb9 dX5_traceRow_50 ?_
    obtain ⟨hb10, eh10⟩ := grd_some eh9
    obtain ⟨σ4, es11, eg11⟩ := bnd_ex eh10
    refine tw_iast (r := (19, 0)) C (wa_of rfl (by decide) (by decide)) hb10 dX5_traceRow_51 ?_
    rw [es11]
    refine tw_aload_n (i := 0) (z := 0) (r := (5, 0)) C dX5_traceRow_52 rfl rfl ?_
    refine tw_getR (g := 17) (z := 0) (j' := 0) C fl_RX5_18 rfl (wcells_mem (f := 5) (j := 0) (by decide) (by decide)) rfl rfl dX5_traceRow_53 ?_
    refine tw_iload_n (i := 3) (z := 1) C dX5_traceRow_56 rfl rfl ?_
    obtain ⟨hb12, eh12⟩ := grd_some eg11
    refine tw_iald (r := (17, 0)) C (ia_of rfl (by decide)) hb12 dX5_traceRow_57 ?_
    obtain ⟨x4, ex13, eh13⟩ := bnd_ex eh12
    refine tw_topi ex13.symm ?_
    refine tw_istore_n (lv' := [(0, rv K (5, 0)), (3, .int x4), (4, .int x3)]) C [1, 0, 2] dX5_traceRow_58 rfl (by rw [hnL]; decide) rfl ?_
    obtain ⟨x5, ex14, eh14⟩ := bnd_ex eh13
    refine tw_iinc (z := 2) (v := x5) (lv' := [(0, rv K (5, 0)), (3, .int x4), (4, .int x5)]) C [1, 2, 0] dX5_traceRow_59 rfl ex14 (by rw [hnL]; decide) rfl ?_
    refine tw_goto (tgt := 34) C dX5_traceRow_62 (by decide) ?_
    have hz := lp_c eh14 hk6
    exact hz

set_option maxRecDepth 20000 in
def fX5_part (σ : St) (r1 : Rf) (r2 : Rf) : Option (St) :=
  bnd (su σ (5, 0) 7 (0 : Int32)) (fun σ1 =>
  obi (fX5_start σ1) (fun σ2 =>
  bj (lpF (fun (q4 : Int32 × St) => match q4 with
  | (x3, σ4) =>
  if (63 : Int32) ≤ x3 then
    some (.inr (.inl σ4))
  else
    if (σ4 (5, 0) 8) ≤ x3 then
      some (.inr (.inl σ4))
    else
      grd (inb x3 63) (
      bnd (σ4 (15, 0) (tn x3)) (fun x4 =>
      grd (inb x4 63) (
      if (σ4 (16, 0) (tn x4)) < (6 : Int32) then
        bj (lpF (fun (q16 : Int32 × St) => match q16 with
        | (x5, σ6) =>
        if (40 : Int32) ≤ x5 then
          some (.inr (.inr σ6))
        else
          bnd (fX4_setBall σ6 1 x4) (fun σ7 =>
          bnd (fX4_setBall σ7 2 x4) (fun σ8 =>
          obi (fX4_step σ8 1 r1 x5) (fun (x6, σ9) =>
          obi (fX4_step σ9 2 r2 x5) (fun (x7, σ10) =>
          if x6 = x7 then
            if (σ10 (4, 1) 3) = (σ10 (4, 2) 3) then
              if (fX4_ball σ10 1) = (fX4_ball σ10 2) then
                obi (fX5_reach σ10 (fX4_ball σ10 1) x4 x5) (fun σ11 =>
                bnd (x5 + 1) (fun x8 =>
                some (.inl (x8, σ11))))
              else
                some (.inr (.inl (.inr (.inr (x4, x5, σ10)))))
            else
              some (.inr (.inl (.inr (.inr (x4, x5, σ10)))))
          else
            some (.inr (.inl (.inr (.inr (x4, x5, σ10)))))))))) ((0 : Int32), σ4)) (fun σ5 =>
        bnd (x3 + 1) (fun x9 =>
        some (.inl (x9, σ5))))
      else
        some (.inr (.inl σ4)))))) ((0 : Int32), σ2)) (fun (x1, x2, σ3) =>
  obi (fX5_traceRow σ3 x1 x2) (fun σ12 =>
  some σ12))))
set_option maxRecDepth 20000 in
set_option maxHeartbeats 4000000 in
theorem kX5_part (G : Gx) (d : Nat) (hdp : 4 ≤ d) (σ : St) (r1 : Rf) (r2 : Rf)  {σ' : St} (h : fX5_part σ r1 r2 = some σ') : MS G d yX5_part cX5_part 7 none [.ref (G.2.1 (5, 0)), .ref (G.2.1 r1), .ref (G.2.1 r2)] σ none σ' := by
  refine MS_of (by decide) (Nat.le_of_ble_eq_true rfl) rfl (fun K hG hnL C hR hK => ?_) (by omega)
  subst hG
  show TW K 0 [(0, rv K (5, 0)), (1, rv K r1), (2, rv K r2)] [] σ
  unfold fX5_part at h
  refine tw_aload_n (i := 0) (z := 0) (r := (5, 0)) C dX5_part_0 rfl rfl ?_
  refine tw_iconst (v := 0) C dX5_part_1 (by decide) ?_
  obtain ⟨σ1, es1, eh1⟩ := bnd_ex h
  refine tw_put C fl_RX5_37 (fun q hq => by cases hq; rfl) rfl (wcells_mem (f := 5) (j := 0) (by decide) (by decide)) rfl rfl rfl dX5_part_2 ?_
  rw [es1]
  refine tw_aload_n (i := 0) (z := 0) (r := (5, 0)) C dX5_part_5 rfl rfl ?_
  obtain ⟨σ2, hv2, eh2⟩ := obi_some eh1
  refine tw_callV (As := []) (rest := []) (r := (5, 0)) C hR (kX5_start K.1 _ (by omega) _   hv2) mi_X5_start is_X5_start se_X5_start ml_RX5_41 (wcells_mem (f := 5) (j := 0) (by decide) (by decide)) rfl rfl rfl rfl (Nat.le_of_ble_eq_true rfl) dX5_part_6 ?_
  show TW K 9 [(0, rv K (5, 0)), (1, rv K r1), (2, rv K r2)] [] σ2
  refine tw_iconst (v := 0) C dX5_part_9 (by decide) ?_
  refine tw_istore_n (lv' := [(0, rv K (5, 0)), (1, rv K r1), (2, rv K r2), (3, .int (0 : Int32))]) C [1, 2, 3, 0] dX5_part_10 rfl (by rw [hnL]; decide) rfl ?_
  obtain ⟨y3, hx3, hy3⟩ := bj_some eh2
  have hJ3 : ∀ (x1 : Int32) (x2 : Int32) (σ3 : St), y3 = .inr (x1, x2, σ3) → TW K 135 [(0, rv K (5, 0)), (4, .int x1), (5, .int x2)] [] σ3 := by
    intro x1 x2 σ3 ey3
    have hq3 := bj_r ey3 hy3
    refine tw_aload_n (i := 0) (z := 0) (r := (5, 0)) C dX5_part_135 rfl rfl ?_
    refine tw_iload (i := 4) (z := 1) C dX5_part_136 rfl ?_
    refine tw_iload (i := 5) (z := 2) C dX5_part_138 rfl ?_
    obtain ⟨σ12, hv40, eh40⟩ := obi_some hq3
    refine tw_callV (As := [.int x1, .int x2]) (rest := []) (r := (5, 0)) C hR (kX5_traceRow K.1 _ (by omega) _ x1 x2  hv40) mi_X5_traceRow is_X5_traceRow se_X5_traceRow ml_RX5_62 (wcells_mem (f := 5) (j := 0) (by decide) (by decide)) rfl rfl rfl rfl (Nat.le_of_ble_eq_true rfl) dX5_part_140 ?_
    show TW K 143 [(0, rv K (5, 0)), (4, .int x1), (5, .int x2)] [] σ12
    obtain rfl := (Option.some.inj eh40)
    exact tw_vret C hK rfl rfl dX5_part_143
  refine lpF_ct (G := fun (q : Int32 × St) => match q with | (x3, σ4) => TW K 11 [(0, rv K (5, 0)), (1, rv K r1), (2, rv K r2), (3, .int x3)] [] σ4) ?_ hx3
  rintro ⟨x3, σ4⟩ w4 hx4 hk4
  show TW K 11 [(0, rv K (5, 0)), (1, rv K r1), (2, rv K r2), (3, .int x3)] [] σ4
  refine tw_iload_n (i := 3) (z := 3) C dX5_part_11 rfl rfl ?_
  refine tw_bipush (v := 63) C dX5_part_12 (by decide) ?_
  refine tw_ic_ge (tgt := 171) C dX5_part_14 (by decide) (fun hc5 => ?_) (fun hc5 => ?_)
  · have ht5 := ite_t hc5 hx4
    have e6 := lp_x ht5 hk4
    have e7 := bj_l e6 hy3
    obtain rfl := (Option.some.inj e7)
    exact tw_vret C hK rfl rfl dX5_part_171
  · have hf5 := ite_f hc5 hx4
    refine tw_iload_n (i := 3) (z := 3) C dX5_part_17 rfl rfl ?_
    refine tw_aload_n (i := 0) (z := 0) (r := (5, 0)) C dX5_part_18 rfl rfl ?_
    refine tw_getI C fl_RX5_44 rfl (wcells_mem (f := 5) (j := 0) (by decide) (by decide)) rfl dX5_part_19 ?_
    refine tw_ic_ge (tgt := 171) C dX5_part_22 (by decide) (fun hc8 => ?_) (fun hc8 => ?_)
    · have ht8 := ite_t hc8 hf5
      have e9 := lp_x ht8 hk4
      have e10 := bj_l e9 hy3
      obtain rfl := (Option.some.inj e10)
      exact tw_vret C hK rfl rfl dX5_part_171
    · have hf8 := ite_f hc8 hf5
      refine tw_aload_n (i := 0) (z := 0) (r := (5, 0)) C dX5_part_25 rfl rfl ?_
      refine tw_getR (g := 15) (z := 0) (j' := 0) C fl_RX5_9 rfl (wcells_mem (f := 5) (j := 0) (by decide) (by decide)) rfl rfl dX5_part_26 ?_
      refine tw_iload_n (i := 3) (z := 3) C dX5_part_29 rfl rfl ?_
      obtain ⟨hb11, eh11⟩ := grd_some hf8
      refine tw_iald (r := (15, 0)) C (ia_of rfl (by decide)) hb11 dX5_part_30 ?_
      obtain ⟨x4, ex12, eh12⟩ := bnd_ex eh11
      refine tw_topi ex12.symm ?_
      refine tw_istore (lv' := [(0, rv K (5, 0)), (1, rv K r1), (2, rv K r2), (3, .int x3), (4, .int x4)]) C [1, 2, 3, 4, 0] dX5_part_31 (by rw [hnL]; decide) rfl ?_
      refine tw_aload_n (i := 0) (z := 0) (r := (5, 0)) C dX5_part_33 rfl rfl ?_
      refine tw_getR (g := 16) (z := 0) (j' := 0) C fl_RX5_15 rfl (wcells_mem (f := 5) (j := 0) (by decide) (by decide)) rfl rfl dX5_part_34 ?_
      refine tw_iload (i := 4) (z := 4) C dX5_part_37 rfl ?_
      obtain ⟨hb13, eh13⟩ := grd_some eh12
      refine tw_iald (r := (16, 0)) C (ia_of rfl (by decide)) hb13 dX5_part_39 ?_
      refine tw_bipush (v := 6) C dX5_part_40 (by decide) ?_
      refine tw_ic_lt (tgt := 46) C dX5_part_42 (by decide) (fun hc14 => ?_) (fun hc14 => ?_)
      · have ht14 := ite_t hc14 eh13
        refine tw_iconst (v := 0) C dX5_part_46 (by decide) ?_
        refine tw_istore (lv' := [(0, rv K (5, 0)), (1, rv K r1), (2, rv K r2), (3, .int x3), (4, .int x4), (5, .int (0 : Int32))]) C [1, 2, 3, 4, 5, 0] dX5_part_47 (by rw [hnL]; decide) rfl ?_
        obtain ⟨y15, hx15, hy15⟩ := bj_some ht14
        have hJ15 : ∀ (σ5 : St), y15 = .inr σ5 → TW K 165 [(0, rv K (5, 0)), (1, rv K r1), (2, rv K r2), (3, .int x3)] [] σ5 := by
          intro σ5 ey15
          have hq15 := bj_r ey15 hy15
          obtain ⟨x9, ex37, eh37⟩ := bnd_ex hq15
          refine tw_iinc (z := 3) (v := x9) (lv' := [(0, rv K (5, 0)), (1, rv K r1), (2, rv K r2), (3, .int x9)]) C [1, 2, 3, 0] dX5_part_165 rfl ex37 (by rw [hnL]; decide) rfl ?_
          refine tw_goto (tgt := 11) C dX5_part_168 (by decide) ?_
          have hz := lp_c eh37 hk4
          exact hz
        refine lpF_ct (G := fun (q : Int32 × St) => match q with | (x5, σ6) => TW K 49 [(0, rv K (5, 0)), (1, rv K r1), (2, rv K r2), (3, .int x3), (4, .int x4), (5, .int x5)] [] σ6) ?_ hx15
        rintro ⟨x5, σ6⟩ w16 hx16 hk16
        show TW K 49 [(0, rv K (5, 0)), (1, rv K r1), (2, rv K r2), (3, .int x3), (4, .int x4), (5, .int x5)] [] σ6
        refine tw_iload (i := 5) (z := 5) C dX5_part_49 rfl ?_
        refine tw_bipush (v := 40) C dX5_part_51 (by decide) ?_
        refine tw_ic_ge (tgt := 165) C dX5_part_53 (by decide) (fun hc17 => ?_) (fun hc17 => ?_)
        · have ht17 := ite_t hc17 hx16
          refine tw_sub [0, 1, 2, 3] rfl ?_
          have e18 := lp_x ht17 hk16
          exact hJ15 _ (Option.some.inj e18).symm
        · have hf17 := ite_f hc17 hx16
          refine tw_aload_n (i := 0) (z := 0) (r := (5, 0)) C dX5_part_56 rfl rfl ?_
          refine tw_getR (g := 4) (z := 1) (j' := 1) C fl_RX5_30 rfl (wcells_mem (f := 5) (j := 0) (by decide) (by decide)) rfl rfl dX5_part_57 ?_
          refine tw_iload (i := 4) (z := 4) C dX5_part_60 rfl ?_
          obtain ⟨σ7, hv19, eh19⟩ := bnd_ex hf17
          refine tw_callV (As := [.int x4]) (rest := []) (r := (4, 1)) C hR (kX4_setBall K.1 _ (by omega) _ 1 x4 (by decide) hv19) mi_X4_setBall is_X4_setBall se_X4_setBall ml_RX5_47 (wcells_mem (f := 4) (j := 1) (by decide) (by decide)) rfl rfl rfl rfl (Nat.le_of_ble_eq_true rfl) dX5_part_62 ?_
          show TW K 65 [(0, rv K (5, 0)), (1, rv K r1), (2, rv K r2), (3, .int x3), (4, .int x4), (5, .int x5)] [] σ7
          refine tw_aload_n (i := 0) (z := 0) (r := (5, 0)) C dX5_part_65 rfl rfl ?_
          refine tw_getR (g := 4) (z := 2) (j' := 2) C fl_RX5_34 rfl (wcells_mem (f := 5) (j := 0) (by decide) (by decide)) rfl rfl dX5_part_66 ?_
          refine tw_iload (i := 4) (z := 4) C dX5_part_69 rfl ?_
          obtain ⟨σ8, hv20, eh20⟩ := bnd_ex eh19
          refine tw_callV (As := [.int x4]) (rest := []) (r := (4, 2)) C hR (kX4_setBall K.1 _ (by omega) _ 2 x4 (by decide) hv20) mi_X4_setBall is_X4_setBall se_X4_setBall ml_RX5_47 (wcells_mem (f := 4) (j := 2) (by decide) (by decide)) rfl rfl rfl rfl (Nat.le_of_ble_eq_true rfl) dX5_part_71 ?_
          show TW K 74 [(0, rv K (5, 0)), (1, rv K r1), (2, rv K r2), (3, .int x3), (4, .int x4), (5, .int x5)] [] σ8
          refine tw_aload_n (i := 0) (z := 0) (r := (5, 0)) C dX5_part_74 rfl rfl ?_
          refine tw_getR (g := 4) (z := 1) (j' := 1) C fl_RX5_30 rfl (wcells_mem (f := 5) (j := 0) (by decide) (by decide)) rfl rfl dX5_part_75 ?_
          refine tw_aload_n (i := 1) (z := 1) (r := r1) C dX5_part_78 rfl rfl ?_
          refine tw_iload (i := 5) (z := 5) C dX5_part_79 rfl ?_
          obtain ⟨⟨x6, σ9⟩, hv21, eh21⟩ := obi_some eh20
          refine tw_callV (As := [rv K r1, .int x5]) (rest := []) (r := (4, 1)) C hR (kX4_step K.1 _ (by omega) _ 1 r1 x5 (by decide) hv21) mi_X4_step is_X4_step se_X4_step ml_RX5_51 (wcells_mem (f := 4) (j := 1) (by decide) (by decide)) rfl rfl rfl rfl (Nat.le_of_ble_eq_true rfl) dX5_part_81 ?_
          show TW K 84 [(0, rv K (5, 0)), (1, rv K r1), (2, rv K r2), (3, .int x3), (4, .int x4), (5, .int x5)] [.int x6] σ9
          refine tw_istore (lv' := [(0, rv K (5, 0)), (1, rv K r1), (2, rv K r2), (3, .int x3), (4, .int x4), (5, .int x5), (6, .int x6)]) C [1, 2, 3, 4, 5, 6, 0] dX5_part_84 (by rw [hnL]; decide) rfl ?_
          refine tw_iload (i := 6) (z := 6) C dX5_part_86 rfl ?_
          refine tw_aload_n (i := 0) (z := 0) (r := (5, 0)) C dX5_part_88 rfl rfl ?_
          refine tw_getR (g := 4) (z := 2) (j' := 2) C fl_RX5_34 rfl (wcells_mem (f := 5) (j := 0) (by decide) (by decide)) rfl rfl dX5_part_89 ?_
          refine tw_aload_n (i := 2) (z := 2) (r := r2) C dX5_part_92 rfl rfl ?_
          refine tw_iload (i := 5) (z := 5) C dX5_part_93 rfl ?_
          obtain ⟨⟨x7, σ10⟩, hv22, eh22⟩ := obi_some eh21
          refine tw_callV (As := [rv K r2, .int x5]) (rest := [.int x6]) (r := (4, 2)) C hR (kX4_step K.1 _ (by omega) _ 2 r2 x5 (by decide) hv22) mi_X4_step is_X4_step se_X4_step ml_RX5_51 (wcells_mem (f := 4) (j := 2) (by decide) (by decide)) rfl rfl rfl rfl (Nat.le_of_ble_eq_true rfl) dX5_part_95 ?_
          show TW K 98 [(0, rv K (5, 0)), (1, rv K r1), (2, rv K r2), (3, .int x3), (4, .int x4), (5, .int x5), (6, .int x6)] [.int x7, .int x6] σ10
          refine tw_ic_ne (tgt := 135) C dX5_part_98 (by decide) (fun hc23 => ?_) (fun hc23 => ?_)
          · have ht23 := ite_f hc23 eh22
            refine tw_sub [0, 4, 5] rfl ?_
            have e24 := lp_x ht23 hk16
            have e25 := bj_l e24 hy15
            have e26 := lp_x e25 hk4
            exact hJ3 _ _ _ (Option.some.inj e26).symm
          · have hf23 := ite_t hc23 eh22
            refine tw_aload_n (i := 0) (z := 0) (r := (5, 0)) C dX5_part_101 rfl rfl ?_
            refine tw_getR (g := 4) (z := 1) (j' := 1) C fl_RX5_30 rfl (wcells_mem (f := 5) (j := 0) (by decide) (by decide)) rfl rfl dX5_part_102 ?_
            refine tw_getI C fl_RX5_55 rfl (wcells_mem (f := 4) (j := 1) (by decide) (by decide)) rfl dX5_part_105 ?_
            refine tw_aload_n (i := 0) (z := 0) (r := (5, 0)) C dX5_part_108 rfl rfl ?_
            refine tw_getR (g := 4) (z := 2) (j' := 2) C fl_RX5_34 rfl (wcells_mem (f := 5) (j := 0) (by decide) (by decide)) rfl rfl dX5_part_109 ?_
            refine tw_getI C fl_RX5_55 rfl (wcells_mem (f := 4) (j := 2) (by decide) (by decide)) rfl dX5_part_112 ?_
            refine tw_ic_ne (tgt := 135) C dX5_part_115 (by decide) (fun hc27 => ?_) (fun hc27 => ?_)
            · have ht27 := ite_f hc27 hf23
              refine tw_sub [0, 4, 5] rfl ?_
              have e28 := lp_x ht27 hk16
              have e29 := bj_l e28 hy15
              have e30 := lp_x e29 hk4
              exact hJ3 _ _ _ (Option.some.inj e30).symm
            · have hf27 := ite_t hc27 hf23
              refine tw_aload_n (i := 0) (z := 0) (r := (5, 0)) C dX5_part_118 rfl rfl ?_
              refine tw_getR (g := 4) (z := 1) (j' := 1) C fl_RX5_30 rfl (wcells_mem (f := 5) (j := 0) (by decide) (by decide)) rfl rfl dX5_part_119 ?_
              refine tw_callV (As := []) (rest := []) (r := (4, 1)) C hR (kX4_ball K.1 _ (by omega) σ10 1 (by decide) rfl) mi_X4_ball is_X4_ball se_X4_ball ml_RX5_58 (wcells_mem (f := 4) (j := 1) (by decide) (by decide)) rfl rfl rfl rfl (Nat.le_of_ble_eq_true rfl) dX5_part_122 ?_
              show TW K 125 [(0, rv K (5, 0)), (1, rv K r1), (2, rv K r2), (3, .int x3), (4, .int x4), (5, .int x5), (6, .int x6)] [.int (fX4_ball σ10 1)] σ10
              refine tw_aload_n (i := 0) (z := 0) (r := (5, 0)) C dX5_part_125 rfl rfl ?_
              refine tw_getR (g := 4) (z := 2) (j' := 2) C fl_RX5_34 rfl (wcells_mem (f := 5) (j := 0) (by decide) (by decide)) rfl rfl dX5_part_126 ?_
              refine tw_callV (As := []) (rest := [.int (fX4_ball σ10 1)]) (r := (4, 2)) C hR (kX4_ball K.1 _ (by omega) σ10 2 (by decide) rfl) mi_X4_ball is_X4_ball se_X4_ball ml_RX5_58 (wcells_mem (f := 4) (j := 2) (by decide) (by decide)) rfl rfl rfl rfl (Nat.le_of_ble_eq_true rfl) dX5_part_129 ?_
              show TW K 132 [(0, rv K (5, 0)), (1, rv K r1), (2, rv K r2), (3, .int x3), (4, .int x4), (5, .int x5), (6, .int x6)] [.int (fX4_ball σ10 2), .int (fX4_ball σ10 1)] σ10
              refine tw_ic_eq (tgt := 144) C dX5_part_132 (by decide) (fun hc31 => ?_) (fun hc31 => ?_)
              · have ht31 := ite_t hc31 hf27
                refine tw_aload_n (i := 0) (z := 0) (r := (5, 0)) C dX5_part_144 rfl rfl ?_
                refine tw_aload_n (i := 0) (z := 0) (r := (5, 0)) C dX5_part_145 rfl rfl ?_
                refine tw_getR (g := 4) (z := 1) (j' := 1) C fl_RX5_30 rfl (wcells_mem (f := 5) (j := 0) (by decide) (by decide)) rfl rfl dX5_part_146 ?_
                refine tw_callV (As := []) (rest := [rv K (5, 0)]) (r := (4, 1)) C hR (kX4_ball K.1 _ (by omega) σ10 1 (by decide) rfl) mi_X4_ball is_X4_ball se_X4_ball ml_RX5_58 (wcells_mem (f := 4) (j := 1) (by decide) (by decide)) rfl rfl rfl rfl (Nat.le_of_ble_eq_true rfl) dX5_part_149 ?_
                show TW K 152 [(0, rv K (5, 0)), (1, rv K r1), (2, rv K r2), (3, .int x3), (4, .int x4), (5, .int x5), (6, .int x6)] [.int (fX4_ball σ10 1), rv K (5, 0)] σ10
                refine tw_iload (i := 4) (z := 4) C dX5_part_152 rfl ?_
                refine tw_iload (i := 5) (z := 5) C dX5_part_154 rfl ?_
                obtain ⟨σ11, hv32, eh32⟩ := obi_some ht31
                refine tw_callV (As := [.int (fX4_ball σ10 1), .int x4, .int x5]) (rest := []) (r := (5, 0)) C hR (kX5_reach K.1 _ (by omega) _ (fX4_ball σ10 1) x4 x5  hv32) mi_X5_reach is_X5_reach se_X5_reach ml_RX5_66 (wcells_mem (f := 5) (j := 0) (by decide) (by decide)) rfl rfl rfl rfl (Nat.le_of_ble_eq_true rfl) dX5_part_156 ?_
                show TW K 159 [(0, rv K (5, 0)), (1, rv K r1), (2, rv K r2), (3, .int x3), (4, .int x4), (5, .int x5), (6, .int x6)] [] σ11
                obtain ⟨x8, ex33, eh33⟩ := bnd_ex eh32
                refine tw_iinc (z := 5) (v := x8) (lv' := [(0, rv K (5, 0)), (1, rv K r1), (2, rv K r2), (3, .int x3), (4, .int x4), (5, .int x8), (6, .int x6)]) C [1, 2, 3, 4, 5, 0, 6] dX5_part_159 rfl ex33 (by rw [hnL]; decide) rfl ?_
                refine tw_goto (tgt := 49) C dX5_part_162 (by decide) ?_
                refine tw_sub [0, 1, 2, 3, 4, 5] rfl ?_
                have hz := lp_c eh33 hk16
                exact hz
              · have hf31 := ite_f hc31 hf27
                refine tw_sub [0, 4, 5] rfl ?_
                have e34 := lp_x hf31 hk16
                have e35 := bj_l e34 hy15
                have e36 := lp_x e35 hk4
                exact hJ3 _ _ _ (Option.some.inj e36).symm
      · have hf14 := ite_f hc14 eh13
        have e38 := lp_x hf14 hk4
        have e39 := bj_l e38 hy3
        obtain rfl := (Option.some.inj e39)
        exact tw_vret C hK rfl rfl dX5_part_45

set_option maxRecDepth 20000 in
def fX5_momentsToScore (σ : St) (r1 : Rf) (a2 : Int32) : Option (Int32 × St) :=
  obi (fX5_start σ) (fun σ1 =>
  bj (lpF (fun (q3 : Int32 × St) => match q3 with
  | (x2, σ3) =>
  if (63 : Int32) ≤ x2 then
    some (.inr (.inl ((-1 : Int32), σ3)))
  else
    if (σ3 (5, 0) 8) ≤ x2 then
      some (.inr (.inl ((-1 : Int32), σ3)))
    else
      grd (inb x2 63) (
      bnd (σ3 (15, 0) (tn x2)) (fun x3 =>
      grd (inb x3 63) (
      if (σ3 (16, 0) (tn x3)) < (20 : Int32) then
        bj (lpF (fun (q15 : Int32 × St) => match q15 with
        | (x4, σ5) =>
        if (40 : Int32) ≤ x4 then
          some (.inr (.inr σ5))
        else
          bnd (fX4_setBall σ5 1 x3) (fun σ6 =>
          obi (fX4_step σ6 1 r1 x4) (fun (x5, σ7) =>
          bj (if (σ7 (4, 1) 3) ≤ 0 then
            some (.inr ())
          else
            if (fX8_sideOf x4) = a2 then
              some (.inl (.inr (.inl (.inr (.inr (x3, σ7))))))
            else
              some (.inr ())) (fun _ =>
          obi (fX5_reach σ7 (fX4_ball σ7 1) x3 x4) (fun σ8 =>
          bnd (x4 + 1) (fun x6 =>
          some (.inl (x6, σ8)))))))) ((0 : Int32), σ3)) (fun σ4 =>
        bnd (x2 + 1) (fun x7 =>
        some (.inl (x7, σ4))))
      else
        some (.inr (.inl ((-1 : Int32), σ3))))))) ((0 : Int32), σ1)) (fun (x1, σ2) =>
  grd (inb x1 63) (
  some ((σ2 (16, 0) (tn x1)) + (1 : Int32), σ2))))
set_option maxRecDepth 20000 in
set_option maxHeartbeats 4000000 in
theorem kX5_momentsToScore (G : Gx) (d : Nat) (hdp : 4 ≤ d) (σ : St) (r1 : Rf) (a2 : Int32)  {v0 : Int32} {σ' : St} (h : fX5_momentsToScore σ r1 a2 = some (v0, σ')) : MS G d yX5_momentsToScore cX5_momentsToScore 6 (some .int) [.ref (G.2.1 (5, 0)), .ref (G.2.1 r1), .int a2] σ (some (.int v0)) σ' := by
  refine MS_of (by decide) (Nat.le_of_ble_eq_true rfl) rfl (fun K hG hnL C hR hK => ?_) (by omega)
  subst hG
  show TW K 0 [(0, rv K (5, 0)), (1, rv K r1), (2, .int a2)] [] σ
  unfold fX5_momentsToScore at h
  refine tw_aload_n (i := 0) (z := 0) (r := (5, 0)) C dX5_momentsToScore_0 rfl rfl ?_
  obtain ⟨σ1, hv1, eh1⟩ := obi_some h
  refine tw_callV (As := []) (rest := []) (r := (5, 0)) C hR (kX5_start K.1 _ (by omega) _   hv1) mi_X5_start is_X5_start se_X5_start ml_RX5_41 (wcells_mem (f := 5) (j := 0) (by decide) (by decide)) rfl rfl rfl rfl (Nat.le_of_ble_eq_true rfl) dX5_momentsToScore_1 ?_
  show TW K 4 [(0, rv K (5, 0)), (1, rv K r1), (2, .int a2)] [] σ1
  refine tw_iconst (v := 0) C dX5_momentsToScore_4 (by decide) ?_
  refine tw_istore_n (lv' := [(0, rv K (5, 0)), (1, rv K r1), (2, .int a2), (3, .int (0 : Int32))]) C [1, 2, 3, 0] dX5_momentsToScore_5 rfl (by rw [hnL]; decide) rfl ?_
  obtain ⟨y2, hx2, hy2⟩ := bj_some eh1
  have hJ2 : ∀ (x1 : Int32) (σ2 : St), y2 = .inr (x1, σ2) → TW K 91 [(0, rv K (5, 0)), (4, .int x1)] [] σ2 := by
    intro x1 σ2 ey2
    have hq2 := bj_r ey2 hy2
    refine tw_aload_n (i := 0) (z := 0) (r := (5, 0)) C dX5_momentsToScore_91 rfl rfl ?_
    refine tw_getR (g := 16) (z := 0) (j' := 0) C fl_RX5_15 rfl (wcells_mem (f := 5) (j := 0) (by decide) (by decide)) rfl rfl dX5_momentsToScore_92 ?_
    refine tw_iload (i := 4) (z := 1) C dX5_momentsToScore_95 rfl ?_
    obtain ⟨hb32, eh32⟩ := grd_some hq2
    refine tw_iald (r := (16, 0)) C (ia_of rfl (by decide)) hb32 dX5_momentsToScore_97 ?_
    refine tw_iconst (v := 1) C dX5_momentsToScore_98 (by decide) ?_
    refine tw_iadd C dX5_momentsToScore_99 ?_
    obtain ⟨rfl, rfl⟩ := pj2 (Option.some.inj eh32)
    exact tw_iret C hK rfl rfl dX5_momentsToScore_100
  refine lpF_ct (G := fun (q : Int32 × St) => match q with | (x2, σ3) => TW K 6 [(0, rv K (5, 0)), (1, rv K r1), (2, .int a2), (3, .int x2)] [] σ3) ?_ hx2
  rintro ⟨x2, σ3⟩ w3 hx3 hk3
  show TW K 6 [(0, rv K (5, 0)), (1, rv K r1), (2, .int a2), (3, .int x2)] [] σ3
  refine tw_iload_n (i := 3) (z := 3) C dX5_momentsToScore_6 rfl rfl ?_
  refine tw_bipush (v := 63) C dX5_momentsToScore_7 (by decide) ?_
  refine tw_ic_ge (tgt := 128) C dX5_momentsToScore_9 (by decide) (fun hc4 => ?_) (fun hc4 => ?_)
  · have ht4 := ite_t hc4 hx3
    refine tw_iconst (v := (-1)) C dX5_momentsToScore_128 (by decide) ?_
    have e5 := lp_x ht4 hk3
    have e6 := bj_l e5 hy2
    obtain ⟨rfl, rfl⟩ := pj2 (Option.some.inj e6)
    exact tw_iret C hK rfl rfl dX5_momentsToScore_129
  · have hf4 := ite_f hc4 hx3
    refine tw_iload_n (i := 3) (z := 3) C dX5_momentsToScore_12 rfl rfl ?_
    refine tw_aload_n (i := 0) (z := 0) (r := (5, 0)) C dX5_momentsToScore_13 rfl rfl ?_
    refine tw_getI C fl_RX5_44 rfl (wcells_mem (f := 5) (j := 0) (by decide) (by decide)) rfl dX5_momentsToScore_14 ?_
    refine tw_ic_ge (tgt := 128) C dX5_momentsToScore_17 (by decide) (fun hc7 => ?_) (fun hc7 => ?_)
    · have ht7 := ite_t hc7 hf4
      refine tw_iconst (v := (-1)) C dX5_momentsToScore_128 (by decide) ?_
      have e8 := lp_x ht7 hk3
      have e9 := bj_l e8 hy2
      obtain ⟨rfl, rfl⟩ := pj2 (Option.some.inj e9)
      exact tw_iret C hK rfl rfl dX5_momentsToScore_129
    · have hf7 := ite_f hc7 hf4
      refine tw_aload_n (i := 0) (z := 0) (r := (5, 0)) C dX5_momentsToScore_20 rfl rfl ?_
      refine tw_getR (g := 15) (z := 0) (j' := 0) C fl_RX5_9 rfl (wcells_mem (f := 5) (j := 0) (by decide) (by decide)) rfl rfl dX5_momentsToScore_21 ?_
      refine tw_iload_n (i := 3) (z := 3) C dX5_momentsToScore_24 rfl rfl ?_
      obtain ⟨hb10, eh10⟩ := grd_some hf7
      refine tw_iald (r := (15, 0)) C (ia_of rfl (by decide)) hb10 dX5_momentsToScore_25 ?_
      obtain ⟨x3, ex11, eh11⟩ := bnd_ex eh10
      refine tw_topi ex11.symm ?_
      refine tw_istore (lv' := [(0, rv K (5, 0)), (1, rv K r1), (2, .int a2), (3, .int x2), (4, .int x3)]) C [1, 2, 3, 4, 0] dX5_momentsToScore_26 (by rw [hnL]; decide) rfl ?_
      refine tw_aload_n (i := 0) (z := 0) (r := (5, 0)) C dX5_momentsToScore_28 rfl rfl ?_
      refine tw_getR (g := 16) (z := 0) (j' := 0) C fl_RX5_15 rfl (wcells_mem (f := 5) (j := 0) (by decide) (by decide)) rfl rfl dX5_momentsToScore_29 ?_
      refine tw_iload (i := 4) (z := 4) C dX5_momentsToScore_32 rfl ?_
      obtain ⟨hb12, eh12⟩ := grd_some eh11
      refine tw_iald (r := (16, 0)) C (ia_of rfl (by decide)) hb12 dX5_momentsToScore_34 ?_
      refine tw_bipush (v := 20) C dX5_momentsToScore_35 (by decide) ?_
      refine tw_ic_lt (tgt := 42) C dX5_momentsToScore_37 (by decide) (fun hc13 => ?_) (fun hc13 => ?_)
      · have ht13 := ite_t hc13 eh12
        refine tw_iconst (v := 0) C dX5_momentsToScore_42 (by decide) ?_
        refine tw_istore (lv' := [(0, rv K (5, 0)), (1, rv K r1), (2, .int a2), (3, .int x2), (4, .int x3), (5, .int (0 : Int32))]) C [1, 2, 3, 4, 5, 0] dX5_momentsToScore_43 (by rw [hnL]; decide) rfl ?_
        obtain ⟨y14, hx14, hy14⟩ := bj_some ht13
        have hJ14 : ∀ (σ4 : St), y14 = .inr σ4 → TW K 122 [(0, rv K (5, 0)), (1, rv K r1), (2, .int a2), (3, .int x2)] [] σ4 := by
          intro σ4 ey14
          have hq14 := bj_r ey14 hy14
          obtain ⟨x7, ex29, eh29⟩ := bnd_ex hq14
          refine tw_iinc (z := 3) (v := x7) (lv' := [(0, rv K (5, 0)), (1, rv K r1), (2, .int a2), (3, .int x7)]) C [1, 2, 3, 0] dX5_momentsToScore_122 rfl ex29 (by rw [hnL]; decide) rfl ?_
          refine tw_goto (tgt := 6) C dX5_momentsToScore_125 (by decide) ?_
          have hz := lp_c eh29 hk3
          exact hz
        refine lpF_ct (G := fun (q : Int32 × St) => match q with | (x4, σ5) => TW K 45 [(0, rv K (5, 0)), (1, rv K r1), (2, .int a2), (3, .int x2), (4, .int x3), (5, .int x4)] [] σ5) ?_ hx14
        rintro ⟨x4, σ5⟩ w15 hx15 hk15
        show TW K 45 [(0, rv K (5, 0)), (1, rv K r1), (2, .int a2), (3, .int x2), (4, .int x3), (5, .int x4)] [] σ5
        refine tw_iload (i := 5) (z := 5) C dX5_momentsToScore_45 rfl ?_
        refine tw_bipush (v := 40) C dX5_momentsToScore_47 (by decide) ?_
        refine tw_ic_ge (tgt := 122) C dX5_momentsToScore_49 (by decide) (fun hc16 => ?_) (fun hc16 => ?_)
        · have ht16 := ite_t hc16 hx15
          refine tw_sub [0, 1, 2, 3] rfl ?_
          have e17 := lp_x ht16 hk15
          exact hJ14 _ (Option.some.inj e17).symm
        · have hf16 := ite_f hc16 hx15
          refine tw_aload_n (i := 0) (z := 0) (r := (5, 0)) C dX5_momentsToScore_52 rfl rfl ?_
          refine tw_getR (g := 4) (z := 1) (j' := 1) C fl_RX5_30 rfl (wcells_mem (f := 5) (j := 0) (by decide) (by decide)) rfl rfl dX5_momentsToScore_53 ?_
          refine tw_iload (i := 4) (z := 4) C dX5_momentsToScore_56 rfl ?_
          obtain ⟨σ6, hv18, eh18⟩ := bnd_ex hf16
          refine tw_callV (As := [.int x3]) (rest := []) (r := (4, 1)) C hR (kX4_setBall K.1 _ (by omega) _ 1 x3 (by decide) hv18) mi_X4_setBall is_X4_setBall se_X4_setBall ml_RX5_47 (wcells_mem (f := 4) (j := 1) (by decide) (by decide)) rfl rfl rfl rfl (Nat.le_of_ble_eq_true rfl) dX5_momentsToScore_58 ?_
          show TW K 61 [(0, rv K (5, 0)), (1, rv K r1), (2, .int a2), (3, .int x2), (4, .int x3), (5, .int x4)] [] σ6
          refine tw_aload_n (i := 0) (z := 0) (r := (5, 0)) C dX5_momentsToScore_61 rfl rfl ?_
          refine tw_getR (g := 4) (z := 1) (j' := 1) C fl_RX5_30 rfl (wcells_mem (f := 5) (j := 0) (by decide) (by decide)) rfl rfl dX5_momentsToScore_62 ?_
          refine tw_aload_n (i := 1) (z := 1) (r := r1) C dX5_momentsToScore_65 rfl rfl ?_
          refine tw_iload (i := 5) (z := 5) C dX5_momentsToScore_66 rfl ?_
          obtain ⟨⟨x5, σ7⟩, hv19, eh19⟩ := obi_some eh18
          refine tw_callV (As := [rv K r1, .int x4]) (rest := []) (r := (4, 1)) C hR (kX4_step K.1 _ (by omega) _ 1 r1 x4 (by decide) hv19) mi_X4_step is_X4_step se_X4_step ml_RX5_51 (wcells_mem (f := 4) (j := 1) (by decide) (by decide)) rfl rfl rfl rfl (Nat.le_of_ble_eq_true rfl) dX5_momentsToScore_68 ?_
          show TW K 71 [(0, rv K (5, 0)), (1, rv K r1), (2, .int a2), (3, .int x2), (4, .int x3), (5, .int x4)] [.int x5] σ7
          refine tw_pop C dX5_momentsToScore_71 rfl ?_
          refine tw_aload_n (i := 0) (z := 0) (r := (5, 0)) C dX5_momentsToScore_72 rfl rfl ?_
          refine tw_getR (g := 4) (z := 1) (j' := 1) C fl_RX5_30 rfl (wcells_mem (f := 5) (j := 0) (by decide) (by decide)) rfl rfl dX5_momentsToScore_73 ?_
          refine tw_getI C fl_RX5_55 rfl (wcells_mem (f := 4) (j := 1) (by decide) (by decide)) rfl dX5_momentsToScore_76 ?_
          obtain ⟨y20, hx20, hy20⟩ := bj_some eh19
          have hJ20 : y20 = .inr () → TW K 101 [(0, rv K (5, 0)), (1, rv K r1), (2, .int a2), (3, .int x2), (4, .int x3), (5, .int x4)] [] σ7 := by
            intro  ey20
            have hq20 := bj_r ey20 hy20
            refine tw_aload_n (i := 0) (z := 0) (r := (5, 0)) C dX5_momentsToScore_101 rfl rfl ?_
            refine tw_aload_n (i := 0) (z := 0) (r := (5, 0)) C dX5_momentsToScore_102 rfl rfl ?_
            refine tw_getR (g := 4) (z := 1) (j' := 1) C fl_RX5_30 rfl (wcells_mem (f := 5) (j := 0) (by decide) (by decide)) rfl rfl dX5_momentsToScore_103 ?_
            refine tw_callV (As := []) (rest := [rv K (5, 0)]) (r := (4, 1)) C hR (kX4_ball K.1 _ (by omega) σ7 1 (by decide) rfl) mi_X4_ball is_X4_ball se_X4_ball ml_RX5_58 (wcells_mem (f := 4) (j := 1) (by decide) (by decide)) rfl rfl rfl rfl (Nat.le_of_ble_eq_true rfl) dX5_momentsToScore_106 ?_
            show TW K 109 [(0, rv K (5, 0)), (1, rv K r1), (2, .int a2), (3, .int x2), (4, .int x3), (5, .int x4)] [.int (fX4_ball σ7 1), rv K (5, 0)] σ7
            refine tw_iload (i := 4) (z := 4) C dX5_momentsToScore_109 rfl ?_
            refine tw_iload (i := 5) (z := 5) C dX5_momentsToScore_111 rfl ?_
            obtain ⟨σ8, hv27, eh27⟩ := obi_some hq20
            refine tw_callV (As := [.int (fX4_ball σ7 1), .int x3, .int x4]) (rest := []) (r := (5, 0)) C hR (kX5_reach K.1 _ (by omega) _ (fX4_ball σ7 1) x3 x4  hv27) mi_X5_reach is_X5_reach se_X5_reach ml_RX5_66 (wcells_mem (f := 5) (j := 0) (by decide) (by decide)) rfl rfl rfl rfl (Nat.le_of_ble_eq_true rfl) dX5_momentsToScore_113 ?_
            show TW K 116 [(0, rv K (5, 0)), (1, rv K r1), (2, .int a2), (3, .int x2), (4, .int x3), (5, .int x4)] [] σ8
            obtain ⟨x6, ex28, eh28⟩ := bnd_ex eh27
            refine tw_iinc (z := 5) (v := x6) (lv' := [(0, rv K (5, 0)), (1, rv K r1), (2, .int a2), (3, .int x2), (4, .int x3), (5, .int x6)]) C [1, 2, 3, 4, 5, 0] dX5_momentsToScore_116 rfl ex28 (by rw [hnL]; decide) rfl ?_
            refine tw_goto (tgt := 45) C dX5_momentsToScore_119 (by decide) ?_
            have hz := lp_c eh28 hk15
            exact hz
          refine tw_if_le (tgt := 101) C dX5_momentsToScore_79 (by decide) (fun hc21 => ?_) (fun hc21 => ?_)
          · have ht21 := ite_t hc21 hx20
            exact hJ20 (Option.some.inj ht21).symm
          · have hf21 := ite_f hc21 hx20
            refine tw_iload (i := 5) (z := 5) C dX5_momentsToScore_82 rfl ?_
            refine tw_callSN (As := [.int x4]) (rest := []) C hR (kX8_sideOf K.1 _ (by omega) σ7 x4  rfl) mi_X8_sideOf st_X8_sideOf ml_RX5_70 rfl rfl (Nat.le_of_ble_eq_true rfl) dX5_momentsToScore_84 ?_
            show TW K 87 [(0, rv K (5, 0)), (1, rv K r1), (2, .int a2), (3, .int x2), (4, .int x3), (5, .int x4)] [.int (fX8_sideOf x4)] σ7
            refine tw_iload_n (i := 2) (z := 2) C dX5_momentsToScore_87 rfl rfl ?_
            refine tw_ic_ne (tgt := 101) C dX5_momentsToScore_88 (by decide) (fun hc22 => ?_) (fun hc22 => ?_)
            · have ht22 := ite_f hc22 hf21
              exact hJ20 (Option.some.inj ht22).symm
            · have hf22 := ite_t hc22 hf21
              refine tw_sub [0, 4] rfl ?_
              have e23 := bj_l hf22 hy20
              have e24 := lp_x e23 hk15
              have e25 := bj_l e24 hy14
              have e26 := lp_x e25 hk3
              exact hJ2 _ _ (Option.some.inj e26).symm
      · have hf13 := ite_f hc13 eh12
        refine tw_iconst (v := (-1)) C dX5_momentsToScore_40 (by decide) ?_
        have e30 := lp_x hf13 hk3
        have e31 := bj_l e30 hy2
        obtain ⟨rfl, rfl⟩ := pj2 (Option.some.inj e31)
        exact tw_iret C hK rfl rfl dX5_momentsToScore_41

set_option maxRecDepth 20000 in
def fX6_renew (σ : St) (t0 : Nat) (a1 : Int32) (a2 : Int32) : Option (St) :=
  obi (fJ7_fill_53178 σ (20, t0) (0 : Int32)) (fun σ1 =>
  bnd (su σ1 (6, t0) 1 (0 : Int32)) (fun σ2 =>
  bnd (su σ2 (6, t0) 2 a1) (fun σ3 =>
  bnd (su σ3 (6, t0) 3 a2) (fun σ4 =>
  some σ4))))
set_option maxRecDepth 20000 in
set_option maxHeartbeats 4000000 in
theorem kX6_renew (G : Gx) (d : Nat) (hdp : 2 ≤ d) (σ : St) (t0 : Nat) (a1 : Int32) (a2 : Int32) (h0 : t0 < 4) {σ' : St} (h : fX6_renew σ t0 a1 a2 = some σ') : MS G d yX6_renew cX6_renew 3 none [.ref (G.2.1 (6, t0)), .int a1, .int a2] σ none σ' := by
  refine MS_of (by decide) (Nat.le_of_ble_eq_true rfl) rfl (fun K hG hnL C hR hK => ?_) (by omega)
  subst hG
  show TW K 0 [(0, rv K (6, t0)), (1, .int a1), (2, .int a2)] [] σ
  unfold fX6_renew at h
  refine tw_aload_n (i := 0) (z := 0) (r := (6, t0)) C dX6_renew_0 rfl rfl ?_
  refine tw_getR (g := 20) (z := 0) (j' := t0) C fl_RX6_9 rfl (wcells_mem (f := 6) (j := t0) (by decide) h0) rfl rfl dX6_renew_1 ?_
  refine tw_iconst (v := 0) C dX6_renew_4 (by decide) ?_
  obtain ⟨σ1, hv1, eh1⟩ := obi_some h
  refine tw_callS (As := [rv K (20, t0), .int (0 : Int32)]) (rest := []) C hR (kJ7_fill_53178 K.1 _ (by omega) _ (20, t0) (0 : Int32)  hv1) mi_J7_fill_53178 st_J7_fill_53178 ml_RX6_19 rfl rfl (Nat.le_of_ble_eq_true rfl) dX6_renew_5 ?_
  show TW K 8 [(0, rv K (6, t0)), (1, .int a1), (2, .int a2)] [] σ1
  refine tw_aload_n (i := 0) (z := 0) (r := (6, t0)) C dX6_renew_8 rfl rfl ?_
  refine tw_iconst (v := 0) C dX6_renew_9 (by decide) ?_
  obtain ⟨σ2, es2, eh2⟩ := bnd_ex eh1
  refine tw_put C fl_RX6_15 (fun q hq => by cases hq; rfl) rfl (wcells_mem (f := 6) (j := t0) (by decide) h0) rfl rfl rfl dX6_renew_10 ?_
  rw [es2]
  refine tw_aload_n (i := 0) (z := 0) (r := (6, t0)) C dX6_renew_13 rfl rfl ?_
  refine tw_iload_n (i := 1) (z := 1) C dX6_renew_14 rfl rfl ?_
  obtain ⟨σ3, es3, eh3⟩ := bnd_ex eh2
  refine tw_put C fl_RX6_25 (fun q hq => by cases hq; rfl) rfl (wcells_mem (f := 6) (j := t0) (by decide) h0) rfl rfl rfl dX6_renew_15 ?_
  rw [es3]
  refine tw_aload_n (i := 0) (z := 0) (r := (6, t0)) C dX6_renew_18 rfl rfl ?_
  refine tw_iload_n (i := 2) (z := 2) C dX6_renew_19 rfl rfl ?_
  obtain ⟨σ4, es4, eh4⟩ := bnd_ex eh3
  refine tw_put C fl_RX6_29 (fun q hq => by cases hq; rfl) rfl (wcells_mem (f := 6) (j := t0) (by decide) h0) rfl rfl rfl dX6_renew_20 ?_
  rw [es4]
  obtain rfl := (Option.some.inj eh4)
  exact tw_vret C hK rfl rfl dX6_renew_23

set_option maxRecDepth 20000 in
def fX6_hasRow (σ : St) (t0 : Nat) (a1 : Int32) (a2 : Int32) : Bool :=
  if a1 < 0 then
    false
  else
    if a2 < 0 then
      false
    else
      if (σ (6, t0) 3) < a2 then
        false
      else
        if ((σ (6, t0) 3) - a2) < a1 then
          false
        else
          true
set_option maxRecDepth 20000 in
set_option maxHeartbeats 4000000 in
theorem kX6_hasRow (G : Gx) (d : Nat) (hdp : 1 ≤ d) (σ : St) (t0 : Nat) (a1 : Int32) (a2 : Int32) (h0 : t0 < 4) {v0 : Bool} (h : fX6_hasRow σ t0 a1 a2 = v0) : MS G d yX6_hasRow cX6_hasRow 3 (some .boolean) [.ref (G.2.1 (6, t0)), .int a1, .int a2] σ (some (.int (b2i v0))) σ := by
  refine MS_of (by decide) (Nat.le_of_ble_eq_true rfl) rfl (fun K hG hnL C hR hK => ?_) (by omega)
  subst hG
  show TW K 0 [(0, rv K (6, t0)), (1, .int a1), (2, .int a2)] [] σ
  unfold fX6_hasRow at h
  refine tw_iload_n (i := 1) (z := 1) C dX6_hasRow_0 rfl rfl ?_
  refine tw_if_lt (tgt := 30) C dX6_hasRow_1 (by decide) (fun hc1 => ?_) (fun hc1 => ?_)
  · have ht1 := ite_t hc1 h
    refine tw_iconst (v := 0) C dX6_hasRow_30 (by decide) ?_
    obtain rfl := ht1
    exact tw_zret C hK rfl rfl rfl dX6_hasRow_31
  · have hf1 := ite_f hc1 h
    refine tw_iload_n (i := 2) (z := 2) C dX6_hasRow_4 rfl rfl ?_
    refine tw_if_lt (tgt := 30) C dX6_hasRow_5 (by decide) (fun hc2 => ?_) (fun hc2 => ?_)
    · have ht2 := ite_t hc2 hf1
      refine tw_iconst (v := 0) C dX6_hasRow_30 (by decide) ?_
      obtain rfl := ht2
      exact tw_zret C hK rfl rfl rfl dX6_hasRow_31
    · have hf2 := ite_f hc2 hf1
      refine tw_iload_n (i := 2) (z := 2) C dX6_hasRow_8 rfl rfl ?_
      refine tw_aload_n (i := 0) (z := 0) (r := (6, t0)) C dX6_hasRow_9 rfl rfl ?_
      refine tw_getI C fl_RX6_29 rfl (wcells_mem (f := 6) (j := t0) (by decide) h0) rfl dX6_hasRow_10 ?_
      refine tw_ic_gt (tgt := 30) C dX6_hasRow_13 (by decide) (fun hc3 => ?_) (fun hc3 => ?_)
      · have ht3 := ite_t hc3 hf2
        refine tw_iconst (v := 0) C dX6_hasRow_30 (by decide) ?_
        obtain rfl := ht3
        exact tw_zret C hK rfl rfl rfl dX6_hasRow_31
      · have hf3 := ite_f hc3 hf2
        refine tw_iload_n (i := 1) (z := 1) C dX6_hasRow_16 rfl rfl ?_
        refine tw_aload_n (i := 0) (z := 0) (r := (6, t0)) C dX6_hasRow_17 rfl rfl ?_
        refine tw_getI C fl_RX6_29 rfl (wcells_mem (f := 6) (j := t0) (by decide) h0) rfl dX6_hasRow_18 ?_
        refine tw_iload_n (i := 2) (z := 2) C dX6_hasRow_21 rfl rfl ?_
        refine tw_isub C dX6_hasRow_22 ?_
        refine tw_ic_gt (tgt := 30) C dX6_hasRow_23 (by decide) (fun hc4 => ?_) (fun hc4 => ?_)
        · have ht4 := ite_t hc4 hf3
          refine tw_iconst (v := 0) C dX6_hasRow_30 (by decide) ?_
          obtain rfl := ht4
          exact tw_zret C hK rfl rfl rfl dX6_hasRow_31
        · have hf4 := ite_f hc4 hf3
          refine tw_iconst (v := 1) C dX6_hasRow_26 (by decide) ?_
          refine tw_goto (tgt := 31) C dX6_hasRow_27 (by decide) ?_
          obtain rfl := hf4
          exact tw_zret C hK rfl rfl rfl dX6_hasRow_31

set_option maxRecDepth 20000 in
def fX6_setItem (σ : St) (t0 : Nat) (a1 : Int32) (a2 : Int32) : Option (St) :=
  if (fX6_has σ t0 a1) = true then
    if (σ (6, t0) 2) = 0 then
      grd (inb a1 60) (bnd (su σ (20, t0) (tn a1) (i2bb a2)) (fun σ2 =>
      some σ2))
    else
      bnd (if (σ (6, t0) 2) = (1 : Int32) then
        i2ss a2
      else
        a2) (fun x1 =>
      grd (inb a1 60) (bnd (su σ (20, t0) (tn a1) x1) (fun σ1 =>
      some σ1)))
  else
    some σ
set_option maxRecDepth 20000 in
set_option maxHeartbeats 4000000 in
theorem kX6_setItem (G : Gx) (d : Nat) (hdp : 2 ≤ d) (σ : St) (t0 : Nat) (a1 : Int32) (a2 : Int32) (h0 : t0 < 4) {σ' : St} (h : fX6_setItem σ t0 a1 a2 = some σ') : MS G d yX6_setItem cX6_setItem 3 none [.ref (G.2.1 (6, t0)), .int a1, .int a2] σ none σ' := by
  refine MS_of (by decide) (Nat.le_of_ble_eq_true rfl) rfl (fun K hG hnL C hR hK => ?_) (by omega)
  subst hG
  show TW K 0 [(0, rv K (6, t0)), (1, .int a1), (2, .int a2)] [] σ
  unfold fX6_setItem at h
  refine tw_aload_n (i := 0) (z := 0) (r := (6, t0)) C dX6_setItem_0 rfl rfl ?_
  refine tw_iload_n (i := 1) (z := 1) C dX6_setItem_1 rfl rfl ?_
  refine tw_callV (As := [.int a1]) (rest := []) (r := (6, t0)) C hR (kX6_has K.1 _ (by omega) σ t0 a1 h0 rfl) mi_X6_has is_X6_has se_X6_has ml_RX6_32 (wcells_mem (f := 6) (j := t0) (by decide) h0) rfl rfl rfl rfl (Nat.le_of_ble_eq_true rfl) dX6_setItem_2 ?_
  show TW K 5 [(0, rv K (6, t0)), (1, .int a1), (2, .int a2)] [.int (b2i (fX6_has σ t0 a1))] σ
  refine tw_if_ne (tgt := 9) C dX6_setItem_5 (by decide) (fun hc1 => ?_) (fun hc1 => ?_)
  · have ht1 := ite_t (b2i_nz hc1) h
    refine tw_aload_n (i := 0) (z := 0) (r := (6, t0)) C dX6_setItem_9 rfl rfl ?_
    refine tw_getI C fl_RX6_25 rfl (wcells_mem (f := 6) (j := t0) (by decide) h0) rfl dX6_setItem_10 ?_
    refine tw_if_ne (tgt := 27) C dX6_setItem_13 (by decide) (fun hc2 => ?_) (fun hc2 => ?_)
    · have ht2 := ite_f hc2 ht1
      refine tw_aload_n (i := 0) (z := 0) (r := (6, t0)) C dX6_setItem_27 rfl rfl ?_
      refine tw_getR (g := 20) (z := 0) (j' := t0) C fl_RX6_9 rfl (wcells_mem (f := 6) (j := t0) (by decide) h0) rfl rfl dX6_setItem_28 ?_
      refine tw_iload_n (i := 1) (z := 1) C dX6_setItem_31 rfl rfl ?_
      refine tw_aload_n (i := 0) (z := 0) (r := (6, t0)) C dX6_setItem_32 rfl rfl ?_
      refine tw_getI C fl_RX6_25 rfl (wcells_mem (f := 6) (j := t0) (by decide) h0) rfl dX6_setItem_33 ?_
      refine tw_iconst (v := 1) C dX6_setItem_36 (by decide) ?_
      obtain ⟨x1, hx3, hq3⟩ := bnd_ex ht2
      have hJ3 : TW K 46 [] [.int x1, .int a1, rv K (20, t0)] σ := by
        obtain ⟨hb5, eh5⟩ := grd_some hq3
        obtain ⟨σ1, es6, eg6⟩ := bnd_ex eh5
        refine tw_iast (r := (20, t0)) C (wa_of rfl h0 (by decide)) hb5 dX6_setItem_46 ?_
        rw [es6]
        obtain rfl := (Option.some.inj eg6)
        exact tw_vret C hK rfl rfl dX6_setItem_47
      refine tw_ic_ne (tgt := 45) C dX6_setItem_37 (by decide) (fun hc4 => ?_) (fun hc4 => ?_)
      · have ht4 := ite_f hc4 hx3
        refine tw_iload_n (i := 2) (z := 2) C dX6_setItem_45 rfl rfl ?_
        refine tw_sub [] rfl ?_
        obtain rfl := ht4
        exact hJ3
      · have hf4 := ite_t hc4 hx3
        refine tw_iload_n (i := 2) (z := 2) C dX6_setItem_40 rfl rfl ?_
        refine tw_i2s C dX6_setItem_41 ?_
        refine tw_goto (tgt := 46) C dX6_setItem_42 (by decide) ?_
        refine tw_sub [] rfl ?_
        obtain rfl := hf4
        exact hJ3
    · have hf2 := ite_t hc2 ht1
      refine tw_aload_n (i := 0) (z := 0) (r := (6, t0)) C dX6_setItem_16 rfl rfl ?_
      refine tw_getR (g := 20) (z := 0) (j' := t0) C fl_RX6_9 rfl (wcells_mem (f := 6) (j := t0) (by decide) h0) rfl rfl dX6_setItem_17 ?_
      refine tw_iload_n (i := 1) (z := 1) C dX6_setItem_20 rfl rfl ?_
      refine tw_iload_n (i := 2) (z := 2) C dX6_setItem_21 rfl rfl ?_
      refine tw_i2b C dX6_setItem_22 ?_
      obtain ⟨hb7, eh7⟩ := grd_some hf2
      obtain ⟨σ2, es8, eg8⟩ := bnd_ex eh7
      refine tw_iast (r := (20, t0)) C (wa_of rfl h0 (by decide)) hb7 dX6_setItem_23 ?_
      rw [es8]
      refine tw_goto (tgt := 47) C dX6_setItem_24 (by decide) ?_
      obtain rfl := (Option.some.inj eg8)
      exact tw_vret C hK rfl rfl dX6_setItem_47
  · have hf1 := ite_f (b2i_z hc1) h
    obtain rfl := (Option.some.inj hf1)
    exact tw_vret C hK rfl rfl dX6_setItem_8

set_option maxRecDepth 20000 in
def fX7_setBetween (σ : St) (a1 : Int32) (a2 : Int32) (a3 : Int32) : Option (Int32 × St) :=
  grd (inb ((a1 * (12 : Int32)) + a2) 144) (
  bnd (σ (21, 0) (tn ((a1 * (12 : Int32)) + a2))) (fun x1 =>
  grd (inb ((a1 * (12 : Int32)) + a2) 144) (bnd (su σ (21, 0) (tn ((a1 * (12 : Int32)) + a2)) a3) (fun σ1 =>
  grd (inb ((a2 * (12 : Int32)) + a1) 144) (bnd (su σ1 (21, 0) (tn ((a2 * (12 : Int32)) + a1)) a3) (fun σ2 =>
  some (x1, σ2)))))))
set_option maxRecDepth 20000 in
set_option maxHeartbeats 4000000 in
theorem kX7_setBetween (G : Gx) (d : Nat) (hdp : 1 ≤ d) (σ : St) (a1 : Int32) (a2 : Int32) (a3 : Int32)  {v0 : Int32} {σ' : St} (h : fX7_setBetween σ a1 a2 a3 = some (v0, σ')) : MS G d yX7_setBetween cX7_setBetween 5 (some .int) [.ref (G.2.1 (7, 0)), .int a1, .int a2, .int a3] σ (some (.int v0)) σ' := by
  refine MS_of (by decide) (Nat.le_of_ble_eq_true rfl) rfl (fun K hG hnL C hR hK => ?_) (by omega)
  subst hG
  show TW K 0 [(0, rv K (7, 0)), (1, .int a1), (2, .int a2), (3, .int a3)] [] σ
  unfold fX7_setBetween at h
  refine tw_aload_n (i := 0) (z := 0) (r := (7, 0)) C dX7_setBetween_0 rfl rfl ?_
  refine tw_getR (g := 21) (z := 0) (j' := 0) C fl_RX7_9 rfl (wcells_mem (f := 7) (j := 0) (by decide) (by decide)) rfl rfl dX7_setBetween_1 ?_
  refine tw_iload_n (i := 1) (z := 1) C dX7_setBetween_4 rfl rfl ?_
  refine tw_bipush (v := 12) C dX7_setBetween_5 (by decide) ?_
  refine tw_imul C dX7_setBetween_7 ?_
  refine tw_iload_n (i := 2) (z := 2) C dX7_setBetween_8 rfl rfl ?_
  refine tw_iadd C dX7_setBetween_9 ?_
  obtain ⟨hb1, eh1⟩ := grd_some h
  refine tw_iald (r := (21, 0)) C (ia_of rfl (by decide)) hb1 dX7_setBetween_10 ?_
  obtain ⟨x1, ex2, eh2⟩ := bnd_ex eh1
  refine tw_topi ex2.symm ?_
  refine tw_istore (lv' := [(0, rv K (7, 0)), (1, .int a1), (2, .int a2), (3, .int a3), (4, .int x1)]) C [1, 2, 3, 4, 0] dX7_setBetween_11 (by rw [hnL]; decide) rfl ?_
  refine tw_aload_n (i := 0) (z := 0) (r := (7, 0)) C dX7_setBetween_13 rfl rfl ?_
  refine tw_getR (g := 21) (z := 0) (j' := 0) C fl_RX7_9 rfl (wcells_mem (f := 7) (j := 0) (by decide) (by decide)) rfl rfl dX7_setBetween_14 ?_
  refine tw_iload_n (i := 1) (z := 1) C dX7_setBetween_17 rfl rfl ?_
  refine tw_bipush (v := 12) C dX7_setBetween_18 (by decide) ?_
  refine tw_imul C dX7_setBetween_20 ?_
  refine tw_iload_n (i := 2) (z := 2) C dX7_setBetween_21 rfl rfl ?_
  refine tw_iadd C dX7_setBetween_22 ?_
  refine tw_iload_n (i := 3) (z := 3) C dX7_setBetween_23 rfl rfl ?_
  obtain ⟨hb3, eh3⟩ := grd_some eh2
  obtain ⟨σ1, es4, eg4⟩ := bnd_ex eh3
  refine tw_iast (r := (21, 0)) C (wa_of rfl (by decide) (by decide)) hb3 dX7_setBetween_24 ?_
  rw [es4]
  refine tw_aload_n (i := 0) (z := 0) (r := (7, 0)) C dX7_setBetween_25 rfl rfl ?_
  refine tw_getR (g := 21) (z := 0) (j' := 0) C fl_RX7_9 rfl (wcells_mem (f := 7) (j := 0) (by decide) (by decide)) rfl rfl dX7_setBetween_26 ?_
  refine tw_iload_n (i := 2) (z := 2) C dX7_setBetween_29 rfl rfl ?_
  refine tw_bipush (v := 12) C dX7_setBetween_30 (by decide) ?_
  refine tw_imul C dX7_setBetween_32 ?_
  refine tw_iload_n (i := 1) (z := 1) C dX7_setBetween_33 rfl rfl ?_
  refine tw_iadd C dX7_setBetween_34 ?_
  refine tw_iload_n (i := 3) (z := 3) C dX7_setBetween_35 rfl rfl ?_
  obtain ⟨hb5, eh5⟩ := grd_some eg4
  obtain ⟨σ2, es6, eg6⟩ := bnd_ex eh5
  refine tw_iast (r := (21, 0)) C (wa_of rfl (by decide) (by decide)) hb5 dX7_setBetween_36 ?_
  rw [es6]
  refine tw_iload (i := 4) (z := 4) C dX7_setBetween_37 rfl ?_
  obtain ⟨rfl, rfl⟩ := pj2 (Option.some.inj eg6)
  exact tw_iret C hK rfl rfl dX7_setBetween_39

