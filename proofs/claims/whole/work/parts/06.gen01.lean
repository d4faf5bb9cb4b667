set_option maxRecDepth 20000 in
def fJ7_fill_53178 (σ : St) (r0 : Rf) (a1 : Int32) : Option (St) :=
  grd (isWA r0) (
  bnd (Int32.ofNat (alen r0.1)) (fun x1 =>
  lpF (fun (q3 : Int32 × St) => match q3 with
  | (x2, σ1) =>
  if x1 ≤ x2 then
    some (.inr σ1)
  else
    grd (isWA r0 && inb x2 (alen r0.1)) (bnd (su σ1 r0 (tn x2) a1) (fun σ2 =>
    bnd (x2 + 1) (fun x3 =>
    some (.inl (x3, σ2)))))) ((0 : Int32), σ)))
set_option maxRecDepth 20000 in
set_option maxHeartbeats 4000000 in
theorem kJ7_fill_53178 (G : Gx) (d : Nat) (hdp : 1 ≤ d) (σ : St) (r0 : Rf) (a1 : Int32)  {σ' : St} (h : fJ7_fill_53178 σ r0 a1 = some σ') : MS G d yJ7_fill_53178 cJ7_fill_53178 4 none [.ref (G.2.1 r0), .int a1] σ none σ' := by
  refine MS_of (by decide) (Nat.le_of_ble_eq_true rfl) rfl (fun K hG hnL C hR hK => ?_) (by omega)
  subst hG
  show TW K 0 [(0, rv K r0), (1, .int a1)] [] σ
  unfold fJ7_fill_53178 at h
  refine tw_iconst (v := 0) C dJ7_fill_53178_0 (by decide) ?_
  refine tw_istore_n (lv' := [(0, rv K r0), (1, .int a1), (2, .int (0 : Int32))]) C [1, 2, 0] dJ7_fill_53178_1 rfl (by rw [hnL]; decide) rfl ?_
  refine tw_aload_n (i := 0) (z := 0) (r := r0) C dJ7_fill_53178_2 rfl rfl ?_
  obtain ⟨hb1, eh1⟩ := grd_some h
  refine tw_alen (r := r0) C hb1 dJ7_fill_53178_3 ?_
  obtain ⟨x1, ex2, eh2⟩ := bnd_ex eh1
  refine tw_topi ex2.symm ?_
  refine tw_istore_n (lv' := [(0, rv K r0), (1, .int a1), (2, .int (0 : Int32)), (3, .int x1)]) C [1, 2, 3, 0] dJ7_fill_53178_4 rfl (by rw [hnL]; decide) rfl ?_
  refine lpF_ct (G := fun (q : Int32 × St) => match q with | (x2, σ1) => TW K 5 [(0, rv K r0), (1, .int a1), (2, .int x2), (3, .int x1)] [] σ1) ?_ eh2
  rintro ⟨x2, σ1⟩ w3 hx3 hk3
  show TW K 5 [(0, rv K r0), (1, .int a1), (2, .int x2), (3, .int x1)] [] σ1
  refine tw_iload_n (i := 2) (z := 2) C dJ7_fill_53178_5 rfl rfl ?_
  refine tw_iload_n (i := 3) (z := 3) C dJ7_fill_53178_6 rfl rfl ?_
  refine tw_ic_ge (tgt := 20) C dJ7_fill_53178_7 (by decide) (fun hc4 => ?_) (fun hc4 => ?_)
  · have ht4 := ite_t hc4 hx3
    have e5 := lp_x ht4 hk3
    obtain rfl := (Option.some.inj e5)
    exact tw_vret C hK rfl rfl dJ7_fill_53178_20
  · have hf4 := ite_f hc4 hx3
    refine tw_aload_n (i := 0) (z := 0) (r := r0) C dJ7_fill_53178_10 rfl rfl ?_
    refine tw_iload_n (i := 2) (z := 2) C dJ7_fill_53178_11 rfl rfl ?_
    refine tw_iload_n (i := 1) (z := 1) C dJ7_fill_53178_12 rfl rfl ?_
    obtain ⟨hb6, eh6⟩ := grd_some hf4
    obtain ⟨σ2, es7, eg7⟩ := bnd_ex eh6
    refine tw_iast (r := r0) C (and_t hb6).1 (and_t hb6).2 dJ7_fill_53178_13 ?_
    rw [es7]
    obtain ⟨x3, ex8, eh8⟩ := bnd_ex eg7
    refine tw_iinc (z := 2) (v := x3) (lv' := [(0, rv K r0), (1, .int a1), (2, .int x3), (3, .int x1)]) C [1, 2, 0, 3] dJ7_fill_53178_14 rfl ex8 (by rw [hnL]; decide) rfl ?_
    refine tw_goto (tgt := 5) C dJ7_fill_53178_17 (by decide) ?_
    have hz := lp_c eh8 hk3
    exact hz

set_option maxRecDepth 20000 in
def fX1_forgetParts (σ : St) (t0 : Nat) : Option (St) :=
  grd (acpOk wpr (0 : Int32) (11, t0) (0 : Int32) (17 : Int32)) (bnd (acp σ wpr (0 : Int32) (11, t0) (0 : Int32) (17 : Int32)) (fun σ1 =>
  obi (fJ7_fill_53178 σ1 (12, t0) (-1 : Int32)) (fun σ2 =>
  some σ2)))
set_option maxRecDepth 20000 in
set_option maxHeartbeats 4000000 in
theorem kX1_forgetParts (G : Gx) (d : Nat) (hdp : 2 ≤ d) (σ : St) (t0 : Nat) (h0 : t0 < 11) {σ' : St} (h : fX1_forgetParts σ t0 = some σ') : MS G d yX1_forgetParts cX1_forgetParts 1 none [.ref (G.2.1 (1, t0))] σ none σ' := by
  refine MS_of (by decide) (Nat.le_of_ble_eq_true rfl) rfl (fun K hG hnL C hR hK => ?_) (by omega)
  subst hG
  show TW K 0 [(0, rv K (1, t0))] [] σ
  unfold fX1_forgetParts at h
  refine tw_getsN C gs_RX1_15 dX1_forgetParts_0 ?_
  refine tw_iconst (v := 0) C dX1_forgetParts_3 (by decide) ?_
  refine tw_aload_n (i := 0) (z := 0) (r := (1, t0)) C dX1_forgetParts_4 rfl rfl ?_
  refine tw_getR (g := 11) (z := 0) (j' := t0) C fl_RX1_24 rfl (wcells_mem (f := 1) (j := t0) (by decide) h0) rfl rfl dX1_forgetParts_5 ?_
  refine tw_iconst (v := 0) C dX1_forgetParts_8 (by decide) ?_
  refine tw_bipush (v := 17) C dX1_forgetParts_9 (by decide) ?_
  obtain ⟨hb1, eh1⟩ := grd_some h
  obtain ⟨σ1, es2, eg2⟩ := bnd_ex eh1
  refine tw_acp (r := wpr) (q := (11, t0)) C hR hb1 ml_RX1_53 nt_acp st_acp in_System (Nat.le_of_ble_eq_true rfl) dX1_forgetParts_11 ?_
  rw [es2]
  refine tw_aload_n (i := 0) (z := 0) (r := (1, t0)) C dX1_forgetParts_14 rfl rfl ?_
  refine tw_getR (g := 12) (z := 0) (j' := t0) C fl_RX1_27 rfl (wcells_mem (f := 1) (j := t0) (by decide) h0) rfl rfl dX1_forgetParts_15 ?_
  refine tw_iconst (v := (-1)) C dX1_forgetParts_18 (by decide) ?_
  obtain ⟨σ2, hv3, eh3⟩ := obi_some eg2
  refine tw_callS (As := [rv K (12, t0), .int (-1 : Int32)]) (rest := []) C hR (kJ7_fill_53178 K.1 _ (by omega) _ (12, t0) (-1 : Int32)  hv3) mi_J7_fill_53178 st_J7_fill_53178 ml_RX1_34 rfl rfl (Nat.le_of_ble_eq_true rfl) dX1_forgetParts_19 ?_
  show TW K 22 [(0, rv K (1, t0))] [] σ2
  obtain rfl := (Option.some.inj eh3)
  exact tw_vret C hK rfl rfl dX1_forgetParts_22

set_option maxRecDepth 20000 in
def fX1_figureAt (σ : St) (t0 : Nat) (a1 : Int32) : Option (Int32) :=
  if a1 < 0 then
    some (-1 : Int32)
  else
    if (σ (1, t0) 3) ≤ a1 then
      some (-1 : Int32)
    else
      grd (inb a1 80) (
      if (σ (10, t0) (tn a1)) < (48 : Int32) then
        some (-1 : Int32)
      else
        grd (inb a1 80) (
        if (σ (10, t0) (tn a1)) ≤ (57 : Int32) then
          grd (inb a1 80) (
          some ((σ (10, t0) (tn a1)) - (48 : Int32)))
        else
          some (-1 : Int32)))
set_option maxRecDepth 20000 in
set_option maxHeartbeats 4000000 in
theorem kX1_figureAt (G : Gx) (d : Nat) (hdp : 1 ≤ d) (σ : St) (t0 : Nat) (a1 : Int32) (h0 : t0 < 11) {v0 : Int32} (h : fX1_figureAt σ t0 a1 = some v0) : MS G d yX1_figureAt cX1_figureAt 2 (some .int) [.ref (G.2.1 (1, t0)), .int a1] σ (some (.int v0)) σ := by
  refine MS_of (by decide) (Nat.le_of_ble_eq_true rfl) rfl (fun K hG hnL C hR hK => ?_) (by omega)
  subst hG
  show TW K 0 [(0, rv K (1, t0)), (1, .int a1)] [] σ
  unfold fX1_figureAt at h
  refine tw_iload_n (i := 1) (z := 1) C dX1_figureAt_0 rfl rfl ?_
  refine tw_if_lt (tgt := 34) C dX1_figureAt_1 (by decide) (fun hc1 => ?_) (fun hc1 => ?_)
  · have ht1 := ite_t hc1 h
    refine tw_iconst (v := (-1)) C dX1_figureAt_34 (by decide) ?_
    obtain rfl := (Option.some.inj ht1)
    exact tw_iret C hK rfl rfl dX1_figureAt_35
  · have hf1 := ite_f hc1 h
    refine tw_iload_n (i := 1) (z := 1) C dX1_figureAt_4 rfl rfl ?_
    refine tw_aload_n (i := 0) (z := 0) (r := (1, t0)) C dX1_figureAt_5 rfl rfl ?_
    refine tw_getI C fl_RX1_40 rfl (wcells_mem (f := 1) (j := t0) (by decide) h0) rfl dX1_figureAt_6 ?_
    refine tw_ic_ge (tgt := 34) C dX1_figureAt_9 (by decide) (fun hc2 => ?_) (fun hc2 => ?_)
    · have ht2 := ite_t hc2 hf1
      refine tw_iconst (v := (-1)) C dX1_figureAt_34 (by decide) ?_
      obtain rfl := (Option.some.inj ht2)
      exact tw_iret C hK rfl rfl dX1_figureAt_35
    · have hf2 := ite_f hc2 hf1
      refine tw_aload_n (i := 0) (z := 0) (r := (1, t0)) C dX1_figureAt_12 rfl rfl ?_
      refine tw_getR (g := 10) (z := 0) (j' := t0) C fl_RX1_9 rfl (wcells_mem (f := 1) (j := t0) (by decide) h0) rfl rfl dX1_figureAt_13 ?_
      refine tw_iload_n (i := 1) (z := 1) C dX1_figureAt_16 rfl rfl ?_
      obtain ⟨hb3, eh3⟩ := grd_some hf2
      refine tw_cald (r := (10, t0)) C rfl (wcells_mem (f := 10) (j := t0) (by decide) h0) hb3 dX1_figureAt_17 ?_
      refine tw_bipush (v := 48) C dX1_figureAt_18 (by decide) ?_
      refine tw_ic_lt (tgt := 34) C dX1_figureAt_20 (by decide) (fun hc4 => ?_) (fun hc4 => ?_)
      · have ht4 := ite_t hc4 eh3
        refine tw_iconst (v := (-1)) C dX1_figureAt_34 (by decide) ?_
        obtain rfl := (Option.some.inj ht4)
        exact tw_iret C hK rfl rfl dX1_figureAt_35
      · have hf4 := ite_f hc4 eh3
        refine tw_aload_n (i := 0) (z := 0) (r := (1, t0)) C dX1_figureAt_23 rfl rfl ?_
        refine tw_getR (g := 10) (z := 0) (j' := t0) C fl_RX1_9 rfl (wcells_mem (f := 1) (j := t0) (by decide) h0) rfl rfl dX1_figureAt_24 ?_
        refine tw_iload_n (i := 1) (z := 1) C dX1_figureAt_27 rfl rfl ?_
        obtain ⟨hb5, eh5⟩ := grd_some hf4
        refine tw_cald (r := (10, t0)) C rfl (wcells_mem (f := 10) (j := t0) (by decide) h0) hb5 dX1_figureAt_28 ?_
        refine tw_bipush (v := 57) C dX1_figureAt_29 (by decide) ?_
        refine tw_ic_le (tgt := 36) C dX1_figureAt_31 (by decide) (fun hc6 => ?_) (fun hc6 => ?_)
        · have ht6 := ite_t hc6 eh5
          refine tw_aload_n (i := 0) (z := 0) (r := (1, t0)) C dX1_figureAt_36 rfl rfl ?_
          refine tw_getR (g := 10) (z := 0) (j' := t0) C fl_RX1_9 rfl (wcells_mem (f := 1) (j := t0) (by decide) h0) rfl rfl dX1_figureAt_37 ?_
          refine tw_iload_n (i := 1) (z := 1) C dX1_figureAt_40 rfl rfl ?_
          obtain ⟨hb7, eh7⟩ := grd_some ht6
          refine tw_cald (r := (10, t0)) C rfl (wcells_mem (f := 10) (j := t0) (by decide) h0) hb7 dX1_figureAt_41 ?_
          refine tw_bipush (v := 48) C dX1_figureAt_42 (by decide) ?_
          refine tw_isub C dX1_figureAt_44 ?_
          obtain rfl := (Option.some.inj eh7)
          exact tw_iret C hK rfl rfl dX1_figureAt_45
        · have hf6 := ite_f hc6 eh5
          refine tw_iconst (v := (-1)) C dX1_figureAt_34 (by decide) ?_
          obtain rfl := (Option.some.inj hf6)
          exact tw_iret C hK rfl rfl dX1_figureAt_35

set_option maxRecDepth 20000 in
def fX1_say (σ : St) (t0 : Nat) (a1 : Int32) (a2 : Int32) (a3 : Int32) (a4 : Int32) (a5 : Bool) : Option (St) :=
  lpF (fun (q1 : Int32 × St) => match q1 with
  | (x1, σ1) =>
  if a4 < x1 then
    some (.inr σ1)
  else
    obi (if a5 = true then
      grd (inb a2 17) (
      some ((σ1 (11, t0) (tn a2)) ||| ((1 : Int32) <<< (x1 &&& 31))))
    else
      grd (inb a2 17) (
      some ((σ1 (11, t0) (tn a2)) &&& (((1 : Int32) <<< (x1 &&& 31)) ^^^ (-1 : Int32))))) (fun x2 =>
    grd (inb a2 17) (bnd (su σ1 (11, t0) (tn a2) x2) (fun σ2 =>
    grd (inb ((a2 * (7 : Int32)) + x1) 70) (bnd (su σ2 (12, t0) (tn ((a2 * (7 : Int32)) + x1)) a1) (fun σ3 =>
    bnd (x1 + 1) (fun x3 =>
    some (.inl (x3, σ3))))))))) (a3, σ)
set_option maxRecDepth 20000 in
set_option maxHeartbeats 4000000 in
theorem kX1_say (G : Gx) (d : Nat) (hdp : 1 ≤ d) (σ : St) (t0 : Nat) (a1 : Int32) (a2 : Int32) (a3 : Int32) (a4 : Int32) (a5 : Bool) (h0 : t0 < 11) {σ' : St} (h : fX1_say σ t0 a1 a2 a3 a4 a5 = some σ') : MS G d yX1_say cX1_say 7 none [.ref (G.2.1 (1, t0)), .int a1, .int a2, .int a3, .int a4, .int (b2i a5)] σ none σ' := by
  refine MS_of (by decide) (Nat.le_of_ble_eq_true rfl) rfl (fun K hG hnL C hR hK => ?_) (by omega)
  subst hG
  show TW K 0 [(0, rv K (1, t0)), (1, .int a1), (2, .int a2), (3, .int a3), (4, .int a4), (5, .int (b2i a5))] [] σ
  unfold fX1_say at h
  refine tw_iload_n (i := 3) (z := 3) C dX1_say_0 rfl rfl ?_
  refine tw_istore (lv' := [(0, rv K (1, t0)), (1, .int a1), (2, .int a2), (3, .int a3), (4, .int a4), (5, .int (b2i a5)), (6, .int a3)]) C [1, 2, 3, 4, 5, 6, 0] dX1_say_1 (by rw [hnL]; decide) rfl ?_
  refine tw_sub [0, 1, 2, 4, 5, 6] rfl ?_
  refine lpF_ct (G := fun (q : Int32 × St) => match q with | (x1, σ1) => TW K 3 [(0, rv K (1, t0)), (1, .int a1), (2, .int a2), (4, .int a4), (5, .int (b2i a5)), (6, .int x1)] [] σ1) ?_ h
  rintro ⟨x1, σ1⟩ w1 hx1 hk1
  show TW K 3 [(0, rv K (1, t0)), (1, .int a1), (2, .int a2), (4, .int a4), (5, .int (b2i a5)), (6, .int x1)] [] σ1
  refine tw_iload (i := 6) (z := 5) C dX1_say_3 rfl ?_
  refine tw_iload (i := 4) (z := 3) C dX1_say_5 rfl ?_
  refine tw_ic_gt (tgt := 67) C dX1_say_7 (by decide) (fun hc2 => ?_) (fun hc2 => ?_)
  · have ht2 := ite_t hc2 hx1
    have e3 := lp_x ht2 hk1
    obtain rfl := (Option.some.inj e3)
    exact tw_vret C hK rfl rfl dX1_say_67
  · have hf2 := ite_f hc2 hx1
    refine tw_aload_n (i := 0) (z := 0) (r := (1, t0)) C dX1_say_10 rfl rfl ?_
    refine tw_getR (g := 11) (z := 0) (j' := t0) C fl_RX1_24 rfl (wcells_mem (f := 1) (j := t0) (by decide) h0) rfl rfl dX1_say_11 ?_
    refine tw_iload_n (i := 2) (z := 2) C dX1_say_14 rfl rfl ?_
    refine tw_iload (i := 5) (z := 4) C dX1_say_15 rfl ?_
    obtain ⟨x2, hx4, hq4⟩ := obi_some hf2
    have hJ4 : TW K 47 [(0, rv K (1, t0)), (1, .int a1), (2, .int a2), (4, .int a4), (5, .int (b2i a5)), (6, .int x1)] [.int x2, .int a2, rv K (11, t0)] σ1 := by
      obtain ⟨hb8, eh8⟩ := grd_some hq4
      obtain ⟨σ2, es9, eg9⟩ := bnd_ex eh8
      refine tw_iast (r := (11, t0)) C (wa_of rfl h0 (by decide)) hb8 dX1_say_47 ?_
      rw [es9]
      refine tw_aload_n (i := 0) (z := 0) (r := (1, t0)) C dX1_say_48 rfl rfl ?_
      refine tw_getR (g := 12) (z := 0) (j' := t0) C fl_RX1_27 rfl (wcells_mem (f := 1) (j := t0) (by decide) h0) rfl rfl dX1_say_49 ?_
      refine tw_iload_n (i := 2) (z := 2) C dX1_say_52 rfl rfl ?_
      refine tw_bipush (v := 7) C dX1_say_53 (by decide) ?_
      refine tw_imul C dX1_say_55 ?_
      refine tw_iload (i := 6) (z := 5) C dX1_say_56 rfl ?_
      refine tw_iadd C dX1_say_58 ?_
      refine tw_iload_n (i := 1) (z := 1) C dX1_say_59 rfl rfl ?_
      obtain ⟨hb10, eh10⟩ := grd_some eg9
      obtain ⟨σ3, es11, eg11⟩ := bnd_ex eh10
      refine tw_iast (r := (12, t0)) C (wa_of rfl h0 (by decide)) hb10 dX1_say_60 ?_
      rw [es11]
      obtain ⟨x3, ex12, eh12⟩ := bnd_ex eg11
      refine tw_iinc (z := 5) (v := x3) (lv' := [(0, rv K (1, t0)), (1, .int a1), (2, .int a2), (4, .int a4), (5, .int (b2i a5)), (6, .int x3)]) C [1, 2, 3, 4, 5, 0] dX1_say_61 rfl ex12 (by rw [hnL]; decide) rfl ?_
      refine tw_goto (tgt := 3) C dX1_say_64 (by decide) ?_
      have hz := lp_c eh12 hk1
      exact hz
    refine tw_if_eq (tgt := 34) C dX1_say_17 (by decide) (fun hc5 => ?_) (fun hc5 => ?_)
    · have ht5 := ite_f (b2i_z hc5) hx4
      refine tw_aload_n (i := 0) (z := 0) (r := (1, t0)) C dX1_say_34 rfl rfl ?_
      refine tw_getR (g := 11) (z := 0) (j' := t0) C fl_RX1_24 rfl (wcells_mem (f := 1) (j := t0) (by decide) h0) rfl rfl dX1_say_35 ?_
      refine tw_iload_n (i := 2) (z := 2) C dX1_say_38 rfl rfl ?_
      obtain ⟨hb6, eh6⟩ := grd_some ht5
      refine tw_iald (r := (11, t0)) C (ia_of rfl h0) hb6 dX1_say_39 ?_
      refine tw_iconst (v := 1) C dX1_say_40 (by decide) ?_
      refine tw_iload (i := 6) (z := 5) C dX1_say_41 rfl ?_
      refine tw_ishl C dX1_say_43 ?_
      refine tw_iconst (v := (-1)) C dX1_say_44 (by decide) ?_
      refine tw_ixor C dX1_say_45 ?_
      refine tw_iand C dX1_say_46 ?_
      obtain rfl := (Option.some.inj eh6)
      exact hJ4
    · have hf5 := ite_t (b2i_nz hc5) hx4
      refine tw_aload_n (i := 0) (z := 0) (r := (1, t0)) C dX1_say_20 rfl rfl ?_
      refine tw_getR (g := 11) (z := 0) (j' := t0) C fl_RX1_24 rfl (wcells_mem (f := 1) (j := t0) (by decide) h0) rfl rfl dX1_say_21 ?_
      refine tw_iload_n (i := 2) (z := 2) C dX1_say_24 rfl rfl ?_
      obtain ⟨hb7, eh7⟩ := grd_some hf5
      refine tw_iald (r := (11, t0)) C (ia_of rfl h0) hb7 dX1_say_25 ?_
      refine tw_iconst (v := 1) C dX1_say_26 (by decide) ?_
      refine tw_iload (i := 6) (z := 5) C dX1_say_27 rfl ?_
      refine tw_ishl C dX1_say_29 ?_
      refine tw_ior C dX1_say_30 ?_
      refine tw_goto (tgt := 47) C dX1_say_31 (by decide) ?_
      obtain rfl := (Option.some.inj eh7)
      exact hJ4

set_option maxRecDepth 20000 in
def fX1_readCells (σ : St) (t0 : Nat) (a1 : Int32) (a2 : Bool) : Option (Int32 × St) :=
  obi (fX1_figureAt σ t0 (σ (1, t0) 5)) (fun x1 =>
  if x1 = (-1 : Int32) then
    some (σ (1, t0) 5, σ)
  else
    bnd (su σ (1, t0) 5 ((σ (1, t0) 5) + (1 : Int32))) (fun σ1 =>
    obi (fX1_figureAt σ1 t0 (σ1 (1, t0) 5)) (fun x2 =>
    bj (if x2 = (-1 : Int32) then
      some (.inr ((0 : Int32), (6 : Int32), σ1))
    else
      obi (fX1_figureAt σ1 t0 (σ1 (1, t0) 5)) (fun x5 =>
      if x5 ≤ (6 : Int32) then
        bnd (su σ1 (1, t0) 5 ((σ1 (1, t0) 5) + (1 : Int32))) (fun σ3 =>
        if (σ3 (1, t0) 3) ≤ (σ3 (1, t0) 5) then
          some (.inl (σ3 (1, t0) 5, σ3))
        else
          grd (inb (σ3 (1, t0) 5) 80) (
          if (σ3 (10, t0) (tn (σ3 (1, t0) 5))) = (45 : Int32) then
            bnd (su σ3 (1, t0) 5 ((σ3 (1, t0) 5) + (1 : Int32))) (fun σ4 =>
            obi (fX1_figureAt σ4 t0 (σ4 (1, t0) 5)) (fun x6 =>
            if x6 < x5 then
              some (.inl (σ4 (1, t0) 5, σ4))
            else
              if x6 ≤ (6 : Int32) then
                bnd (su σ4 (1, t0) 5 ((σ4 (1, t0) 5) + (1 : Int32))) (fun σ5 =>
                some (.inr (x5, x6, σ5)))
              else
                some (.inl (σ4 (1, t0) 5, σ4))))
          else
            some (.inl (σ3 (1, t0) 5, σ3))))
      else
        some (.inl (σ1 (1, t0) 5, σ1)))) (fun (x3, x4, σ2) =>
    obi (fX1_say σ2 t0 a1 x1 x3 x4 a2) (fun σ6 =>
    some ((-1 : Int32), σ6))))))
set_option maxRecDepth 20000 in
set_option maxHeartbeats 4000000 in
theorem kX1_readCells (G : Gx) (d : Nat) (hdp : 2 ≤ d) (σ : St) (t0 : Nat) (a1 : Int32) (a2 : Bool) (h0 : t0 < 11) {v0 : Int32} {σ' : St} (h : fX1_readCells σ t0 a1 a2 = some (v0, σ')) : MS G d yX1_readCells cX1_readCells 6 (some .int) [.ref (G.2.1 (1, t0)), .int a1, .int (b2i a2)] σ (some (.int v0)) σ' := by
  refine MS_of (by decide) (Nat.le_of_ble_eq_true rfl) rfl (fun K hG hnL C hR hK => ?_) (by omega)
  subst hG
  show TW K 0 [(0, rv K (1, t0)), (1, .int a1), (2, .int (b2i a2))] [] σ
  unfold fX1_readCells at h
  refine tw_aload_n (i := 0) (z := 0) (r := (1, t0)) C dX1_readCells_0 rfl rfl ?_
  refine tw_aload_n (i := 0) (z := 0) (r := (1, t0)) C dX1_readCells_1 rfl rfl ?_
  refine tw_getI C fl_RX1_59 rfl (wcells_mem (f := 1) (j := t0) (by decide) h0) rfl dX1_readCells_2 ?_
  obtain ⟨x1, hv1, eh1⟩ := obi_some h
  refine tw_callV (As := [.int (σ (1, t0) 5)]) (rest := []) (r := (1, t0)) C hR (kX1_figureAt K.1 _ (by omega) σ t0 (σ (1, t0) 5) h0 hv1) mi_X1_figureAt is_X1_figureAt se_X1_figureAt ml_RX1_80 (wcells_mem (f := 1) (j := t0) (by decide) h0) rfl rfl rfl rfl (Nat.le_of_ble_eq_true rfl) dX1_readCells_5 ?_
  show TW K 8 [(0, rv K (1, t0)), (1, .int a1), (2, .int (b2i a2))] [.int x1] σ
  refine tw_istore_n (lv' := [(0, rv K (1, t0)), (1, .int a1), (2, .int (b2i a2)), (3, .int x1)]) C [1, 2, 3, 0] dX1_readCells_8 rfl (by rw [hnL]; decide) rfl ?_
  refine tw_iload_n (i := 3) (z := 3) C dX1_readCells_9 rfl rfl ?_
  refine tw_iconst (v := (-1)) C dX1_readCells_10 (by decide) ?_
  refine tw_ic_ne (tgt := 19) C dX1_readCells_11 (by decide) (fun hc2 => ?_) (fun hc2 => ?_)
  · have ht2 := ite_f hc2 eh1
    refine tw_aload_n (i := 0) (z := 0) (r := (1, t0)) C dX1_readCells_19 rfl rfl ?_
    refine tw_dup C dX1_readCells_20 rfl ?_
    refine tw_getI C fl_RX1_59 rfl (wcells_mem (f := 1) (j := t0) (by decide) h0) rfl dX1_readCells_21 ?_
    refine tw_iconst (v := 1) C dX1_readCells_24 (by decide) ?_
    refine tw_iadd C dX1_readCells_25 ?_
    obtain ⟨σ1, es3, eh3⟩ := bnd_ex ht2
    refine tw_put C fl_RX1_59 (fun q hq => by cases hq; rfl) rfl (wcells_mem (f := 1) (j := t0) (by decide) h0) rfl rfl rfl dX1_readCells_26 ?_
    rw [es3]
    refine tw_iconst (v := 0) C dX1_readCells_29 (by decide) ?_
    refine tw_istore (lv' := [(0, rv K (1, t0)), (1, .int a1), (2, .int (b2i a2)), (3, .int x1), (4, .int (0 : Int32))]) C [1, 2, 3, 4, 0] dX1_readCells_30 (by rw [hnL]; decide) rfl ?_
    refine tw_bipush (v := 6) C dX1_readCells_32 (by decide) ?_
    refine tw_istore (lv' := [(0, rv K (1, t0)), (1, .int a1), (2, .int (b2i a2)), (3, .int x1), (4, .int (0 : Int32)), (5, .int (6 : Int32))]) C [1, 2, 3, 4, 5, 0] dX1_readCells_34 (by rw [hnL]; decide) rfl ?_
    refine tw_aload_n (i := 0) (z := 0) (r := (1, t0)) C dX1_readCells_36 rfl rfl ?_
    refine tw_aload_n (i := 0) (z := 0) (r := (1, t0)) C dX1_readCells_37 rfl rfl ?_
    refine tw_getI C fl_RX1_59 rfl (wcells_mem (f := 1) (j := t0) (by decide) h0) rfl dX1_readCells_38 ?_
    obtain ⟨x2, hv4, eh4⟩ := obi_some eh3
    refine tw_callV (As := [.int (σ1 (1, t0) 5)]) (rest := []) (r := (1, t0)) C hR (kX1_figureAt K.1 _ (by omega) σ1 t0 (σ1 (1, t0) 5) h0 hv4) mi_X1_figureAt is_X1_figureAt se_X1_figureAt ml_RX1_80 (wcells_mem (f := 1) (j := t0) (by decide) h0) rfl rfl rfl rfl (Nat.le_of_ble_eq_true rfl) dX1_readCells_41 ?_
    show TW K 44 [(0, rv K (1, t0)), (1, .int a1), (2, .int (b2i a2)), (3, .int x1), (4, .int (0 : Int32)), (5, .int (6 : Int32))] [.int x2] σ1
    refine tw_iconst (v := (-1)) C dX1_readCells_44 (by decide) ?_
    obtain ⟨y5, hx5, hy5⟩ := bj_some eh4
    have hJ5 : ∀ (x3 : Int32) (x4 : Int32) (σ2 : St), y5 = .inr (x3, x4, σ2) → TW K 159 [(0, rv K (1, t0)), (1, .int a1), (2, .int (b2i a2)), (3, .int x1), (4, .int x3), (5, .int x4)] [] σ2 := by
      intro x3 x4 σ2 ey5
      have hq5 := bj_r ey5 hy5
      refine tw_aload_n (i := 0) (z := 0) (r := (1, t0)) C dX1_readCells_159 rfl rfl ?_
      refine tw_iload_n (i := 1) (z := 1) C dX1_readCells_160 rfl rfl ?_
      refine tw_iload_n (i := 3) (z := 3) C dX1_readCells_161 rfl rfl ?_
      refine tw_iload (i := 4) (z := 4) C dX1_readCells_162 rfl ?_
      refine tw_iload (i := 5) (z := 5) C dX1_readCells_164 rfl ?_
      refine tw_iload_n (i := 2) (z := 2) C dX1_readCells_166 rfl rfl ?_
      obtain ⟨σ6, hv23, eh23⟩ := obi_some hq5
      refine tw_callV (As := [.int a1, .int x1, .int x3, .int x4, .int (b2i a2)]) (rest := []) (r := (1, t0)) C hR (kX1_say K.1 _ (by omega) _ t0 a1 x1 x3 x4 a2 h0 hv23) mi_X1_say is_X1_say se_X1_say ml_RX1_83 (wcells_mem (f := 1) (j := t0) (by decide) h0) rfl rfl rfl rfl (Nat.le_of_ble_eq_true rfl) dX1_readCells_167 ?_
      show TW K 170 [(0, rv K (1, t0)), (1, .int a1), (2, .int (b2i a2)), (3, .int x1), (4, .int x3), (5, .int x4)] [] σ6
      refine tw_iconst (v := (-1)) C dX1_readCells_170 (by decide) ?_
      obtain ⟨rfl, rfl⟩ := pj2 (Option.some.inj eh23)
      exact tw_iret C hK rfl rfl dX1_readCells_171
    refine tw_ic_eq (tgt := 159) C dX1_readCells_45 (by decide) (fun hc6 => ?_) (fun hc6 => ?_)
    · have ht6 := ite_t hc6 hx5
      exact hJ5 _ _ _ (Option.some.inj ht6).symm
    · have hf6 := ite_f hc6 hx5
      refine tw_aload_n (i := 0) (z := 0) (r := (1, t0)) C dX1_readCells_48 rfl rfl ?_
      refine tw_aload_n (i := 0) (z := 0) (r := (1, t0)) C dX1_readCells_49 rfl rfl ?_
      refine tw_getI C fl_RX1_59 rfl (wcells_mem (f := 1) (j := t0) (by decide) h0) rfl dX1_readCells_50 ?_
      obtain ⟨x5, hv7, eh7⟩ := obi_some hf6
      refine tw_callV (As := [.int (σ1 (1, t0) 5)]) (rest := []) (r := (1, t0)) C hR (kX1_figureAt K.1 _ (by omega) σ1 t0 (σ1 (1, t0) 5) h0 hv7) mi_X1_figureAt is_X1_figureAt se_X1_figureAt ml_RX1_80 (wcells_mem (f := 1) (j := t0) (by decide) h0) rfl rfl rfl rfl (Nat.le_of_ble_eq_true rfl) dX1_readCells_53 ?_
      show TW K 56 [(0, rv K (1, t0)), (1, .int a1), (2, .int (b2i a2)), (3, .int x1), (4, .int (0 : Int32)), (5, .int (6 : Int32))] [.int x5] σ1
      refine tw_istore (lv' := [(0, rv K (1, t0)), (1, .int a1), (2, .int (b2i a2)), (3, .int x1), (4, .int x5), (5, .int (6 : Int32))]) C [1, 2, 3, 4, 0, 5] dX1_readCells_56 (by rw [hnL]; decide) rfl ?_
      refine tw_iload (i := 4) (z := 4) C dX1_readCells_58 rfl ?_
      refine tw_bipush (v := 6) C dX1_readCells_60 (by decide) ?_
      refine tw_ic_le (tgt := 70) C dX1_readCells_62 (by decide) (fun hc8 => ?_) (fun hc8 => ?_)
      · have ht8 := ite_t hc8 eh7
        refine tw_aload_n (i := 0) (z := 0) (r := (1, t0)) C dX1_readCells_70 rfl rfl ?_
        refine tw_dup C dX1_readCells_71 rfl ?_
        refine tw_getI C fl_RX1_59 rfl (wcells_mem (f := 1) (j := t0) (by decide) h0) rfl dX1_readCells_72 ?_
        refine tw_iconst (v := 1) C dX1_readCells_75 (by decide) ?_
        refine tw_iadd C dX1_readCells_76 ?_
        obtain ⟨σ3, es9, eh9⟩ := bnd_ex ht8
        refine tw_put C fl_RX1_59 (fun q hq => by cases hq; rfl) rfl (wcells_mem (f := 1) (j := t0) (by decide) h0) rfl rfl rfl dX1_readCells_77 ?_
        rw [es9]
        refine tw_aload_n (i := 0) (z := 0) (r := (1, t0)) C dX1_readCells_80 rfl rfl ?_
        refine tw_getI C fl_RX1_59 rfl (wcells_mem (f := 1) (j := t0) (by decide) h0) rfl dX1_readCells_81 ?_
        refine tw_aload_n (i := 0) (z := 0) (r := (1, t0)) C dX1_readCells_84 rfl rfl ?_
        refine tw_getI C fl_RX1_40 rfl (wcells_mem (f := 1) (j := t0) (by decide) h0) rfl dX1_readCells_85 ?_
        refine tw_ic_ge (tgt := 105) C dX1_readCells_88 (by decide) (fun hc10 => ?_) (fun hc10 => ?_)
        · have ht10 := ite_t hc10 eh9
          refine tw_aload_n (i := 0) (z := 0) (r := (1, t0)) C dX1_readCells_105 rfl rfl ?_
          refine tw_getI C fl_RX1_59 rfl (wcells_mem (f := 1) (j := t0) (by decide) h0) rfl dX1_readCells_106 ?_
          have e11 := bj_l ht10 hy5
          obtain ⟨rfl, rfl⟩ := pj2 (Option.some.inj e11)
          exact tw_iret C hK rfl rfl dX1_readCells_109
        · have hf10 := ite_f hc10 eh9
          refine tw_aload_n (i := 0) (z := 0) (r := (1, t0)) C dX1_readCells_91 rfl rfl ?_
          refine tw_getR (g := 10) (z := 0) (j' := t0) C fl_RX1_9 rfl (wcells_mem (f := 1) (j := t0) (by decide) h0) rfl rfl dX1_readCells_92 ?_
          refine tw_aload_n (i := 0) (z := 0) (r := (1, t0)) C dX1_readCells_95 rfl rfl ?_
          refine tw_getI C fl_RX1_59 rfl (wcells_mem (f := 1) (j := t0) (by decide) h0) rfl dX1_readCells_96 ?_
          obtain ⟨hb12, eh12⟩ := grd_some hf10
          refine tw_cald (r := (10, t0)) C rfl (wcells_mem (f := 10) (j := t0) (by decide) h0) hb12 dX1_readCells_99 ?_
          refine tw_bipush (v := 45) C dX1_readCells_100 (by decide) ?_
          refine tw_ic_eq (tgt := 110) C dX1_readCells_102 (by decide) (fun hc13 => ?_) (fun hc13 => ?_)
          · have ht13 := ite_t hc13 eh12
            refine tw_aload_n (i := 0) (z := 0) (r := (1, t0)) C dX1_readCells_110 rfl rfl ?_
            refine tw_dup C dX1_readCells_111 rfl ?_
            refine tw_getI C fl_RX1_59 rfl (wcells_mem (f := 1) (j := t0) (by decide) h0) rfl dX1_readCells_112 ?_
            refine tw_iconst (v := 1) C dX1_readCells_115 (by decide) ?_
            refine tw_iadd C dX1_readCells_116 ?_
            obtain ⟨σ4, es14, eh14⟩ := bnd_ex ht13
            refine tw_put C fl_RX1_59 (fun q hq => by cases hq; rfl) rfl (wcells_mem (f := 1) (j := t0) (by decide) h0) rfl rfl rfl dX1_readCells_117 ?_
            rw [es14]
            refine tw_aload_n (i := 0) (z := 0) (r := (1, t0)) C dX1_readCells_120 rfl rfl ?_
            refine tw_aload_n (i := 0) (z := 0) (r := (1, t0)) C dX1_readCells_121 rfl rfl ?_
            refine tw_getI C fl_RX1_59 rfl (wcells_mem (f := 1) (j := t0) (by decide) h0) rfl dX1_readCells_122 ?_
            obtain ⟨x6, hv15, eh15⟩ := obi_some eh14
            refine tw_callV (As := [.int (σ4 (1, t0) 5)]) (rest := []) (r := (1, t0)) C hR (kX1_figureAt K.1 _ (by omega) σ4 t0 (σ4 (1, t0) 5) h0 hv15) mi_X1_figureAt is_X1_figureAt se_X1_figureAt ml_RX1_80 (wcells_mem (f := 1) (j := t0) (by decide) h0) rfl rfl rfl rfl (Nat.le_of_ble_eq_true rfl) dX1_readCells_125 ?_
            show TW K 128 [(0, rv K (1, t0)), (1, .int a1), (2, .int (b2i a2)), (3, .int x1), (4, .int x5), (5, .int (6 : Int32))] [.int x6] σ4
            refine tw_istore (lv' := [(0, rv K (1, t0)), (1, .int a1), (2, .int (b2i a2)), (3, .int x1), (4, .int x5), (5, .int x6)]) C [1, 2, 3, 4, 5, 0] dX1_readCells_128 (by rw [hnL]; decide) rfl ?_
            refine tw_iload (i := 5) (z := 5) C dX1_readCells_130 rfl ?_
            refine tw_iload (i := 4) (z := 4) C dX1_readCells_132 rfl ?_
            refine tw_ic_lt (tgt := 144) C dX1_readCells_134 (by decide) (fun hc16 => ?_) (fun hc16 => ?_)
            · have ht16 := ite_t hc16 eh15
              refine tw_aload_n (i := 0) (z := 0) (r := (1, t0)) C dX1_readCells_144 rfl rfl ?_
              refine tw_getI C fl_RX1_59 rfl (wcells_mem (f := 1) (j := t0) (by decide) h0) rfl dX1_readCells_145 ?_
              have e17 := bj_l ht16 hy5
              obtain ⟨rfl, rfl⟩ := pj2 (Option.some.inj e17)
              exact tw_iret C hK rfl rfl dX1_readCells_148
            · have hf16 := ite_f hc16 eh15
              refine tw_iload (i := 5) (z := 5) C dX1_readCells_137 rfl ?_
              refine tw_bipush (v := 6) C dX1_readCells_139 (by decide) ?_
              refine tw_ic_le (tgt := 149) C dX1_readCells_141 (by decide) (fun hc18 => ?_) (fun hc18 => ?_)
              · have ht18 := ite_t hc18 hf16
                refine tw_aload_n (i := 0) (z := 0) (r := (1, t0)) C dX1_readCells_149 rfl rfl ?_
                refine tw_dup C dX1_readCells_150 rfl ?_
                refine tw_getI C fl_RX1_59 rfl (wcells_mem (f := 1) (j := t0) (by decide) h0) rfl dX1_readCells_151 ?_
                refine tw_iconst (v := 1) C dX1_readCells_154 (by decide) ?_
                refine tw_iadd C dX1_readCells_155 ?_
                obtain ⟨σ5, es19, eh19⟩ := bnd_ex ht18
                refine tw_put C fl_RX1_59 (fun q hq => by cases hq; rfl) rfl (wcells_mem (f := 1) (j := t0) (by decide) h0) rfl rfl rfl dX1_readCells_156 ?_
                rw [es19]
                exact hJ5 _ _ _ (Option.some.inj eh19).symm
              · have hf18 := ite_f hc18 hf16
                refine tw_aload_n (i := 0) (z := 0) (r := (1, t0)) C dX1_readCells_144 rfl rfl ?_
                refine tw_getI C fl_RX1_59 rfl (wcells_mem (f := 1) (j := t0) (by decide) h0) rfl dX1_readCells_145 ?_
                have e20 := bj_l hf18 hy5
                obtain ⟨rfl, rfl⟩ := pj2 (Option.some.inj e20)
                exact tw_iret C hK rfl rfl dX1_readCells_148
          · have hf13 := ite_f hc13 eh12
            refine tw_aload_n (i := 0) (z := 0) (r := (1, t0)) C dX1_readCells_105 rfl rfl ?_
            refine tw_getI C fl_RX1_59 rfl (wcells_mem (f := 1) (j := t0) (by decide) h0) rfl dX1_readCells_106 ?_
            have e21 := bj_l hf13 hy5
            obtain ⟨rfl, rfl⟩ := pj2 (Option.some.inj e21)
            exact tw_iret C hK rfl rfl dX1_readCells_109
      · have hf8 := ite_f hc8 eh7
        refine tw_aload_n (i := 0) (z := 0) (r := (1, t0)) C dX1_readCells_65 rfl rfl ?_
        refine tw_getI C fl_RX1_59 rfl (wcells_mem (f := 1) (j := t0) (by decide) h0) rfl dX1_readCells_66 ?_
        have e22 := bj_l hf8 hy5
        obtain ⟨rfl, rfl⟩ := pj2 (Option.some.inj e22)
        exact tw_iret C hK rfl rfl dX1_readCells_69
  · have hf2 := ite_t hc2 eh1
    refine tw_aload_n (i := 0) (z := 0) (r := (1, t0)) C dX1_readCells_14 rfl rfl ?_
    refine tw_getI C fl_RX1_59 rfl (wcells_mem (f := 1) (j := t0) (by decide) h0) rfl dX1_readCells_15 ?_
    obtain ⟨rfl, rfl⟩ := pj2 (Option.some.inj hf2)
    exact tw_iret C hK rfl rfl dX1_readCells_18

set_option maxRecDepth 20000 in
def fX1_readNumber (σ : St) (t0 : Nat) (a1 : Int32) (a2 : Int32) : Option (Int32 × St) :=
  bnd (σ (1, t0) 5) (fun x1 =>
  obi (fX1_figureAt σ t0 (σ (1, t0) 5)) (fun x2 =>
  if x2 = (-1 : Int32) then
    some (σ (1, t0) 5, σ)
  else
    bnd (su σ (1, t0) 5 ((σ (1, t0) 5) + (1 : Int32))) (fun σ1 =>
    obi (fX1_figureAt σ1 t0 (σ1 (1, t0) 5)) (fun x3 =>
    bnd (if x3 = (-1 : Int32) then
      (x2, σ1)
    else
      bnd (((10 : Int32) * x2) + x3) (fun x5 =>
      bnd (su σ1 (1, t0) 5 ((σ1 (1, t0) 5) + (1 : Int32))) (fun σ3 =>
      (x5, σ3)))) (fun (x4, σ2) =>
    if a2 ≤ x4 then
      grd (inb a1 17) (bnd (su σ2 (11, t0) (tn a1) x4) (fun σ4 =>
      some ((-1 : Int32), σ4)))
    else
      some (x1, σ2))))))
set_option maxRecDepth 20000 in
set_option maxHeartbeats 4000000 in
theorem kX1_readNumber (G : Gx) (d : Nat) (hdp : 2 ≤ d) (σ : St) (t0 : Nat) (a1 : Int32) (a2 : Int32) (h0 : t0 < 11) {v0 : Int32} {σ' : St} (h : fX1_readNumber σ t0 a1 a2 = some (v0, σ')) : MS G d yX1_readNumber cX1_readNumber 6 (some .int) [.ref (G.2.1 (1, t0)), .int a1, .int a2] σ (some (.int v0)) σ' := by
  refine MS_of (by decide) (Nat.le_of_ble_eq_true rfl) rfl (fun K hG hnL C hR hK => ?_) (by omega)
  subst hG
  show TW K 0 [(0, rv K (1, t0)), (1, .int a1), (2, .int a2)] [] σ
  unfold fX1_readNumber at h
  refine tw_aload_n (i := 0) (z := 0) (r := (1, t0)) C dX1_readNumber_0 rfl rfl ?_
  refine tw_getI C fl_RX1_59 rfl (wcells_mem (f := 1) (j := t0) (by decide) h0) rfl dX1_readNumber_1 ?_
  obtain ⟨x1, ex1, eh1⟩ := bnd_ex h
  refine tw_topi ex1.symm ?_
  refine tw_istore_n (lv' := [(0, rv K (1, t0)), (1, .int a1), (2, .int a2), (3, .int x1)]) C [1, 2, 3, 0] dX1_readNumber_4 rfl (by rw [hnL]; decide) rfl ?_
  refine tw_aload_n (i := 0) (z := 0) (r := (1, t0)) C dX1_readNumber_5 rfl rfl ?_
  refine tw_aload_n (i := 0) (z := 0) (r := (1, t0)) C dX1_readNumber_6 rfl rfl ?_
  refine tw_getI C fl_RX1_59 rfl (wcells_mem (f := 1) (j := t0) (by decide) h0) rfl dX1_readNumber_7 ?_
  obtain ⟨x2, hv2, eh2⟩ := obi_some eh1
  refine tw_callV (As := [.int (σ (1, t0) 5)]) (rest := []) (r := (1, t0)) C hR (kX1_figureAt K.1 _ (by omega) σ t0 (σ (1, t0) 5) h0 hv2) mi_X1_figureAt is_X1_figureAt se_X1_figureAt ml_RX1_80 (wcells_mem (f := 1) (j := t0) (by decide) h0) rfl rfl rfl rfl (Nat.le_of_ble_eq_true rfl) dX1_readNumber_10 ?_
  show TW K 13 [(0, rv K (1, t0)), (1, .int a1), (2, .int a2), (3, .int x1)] [.int x2] σ
  refine tw_istore (lv' := [(0, rv K (1, t0)), (1, .int a1), (2, .int a2), (3, .int x1), (4, .int x2)]) C [1, 2, 3, 4, 0] dX1_readNumber_13 (by rw [hnL]; decide) rfl ?_
  refine tw_iload (i := 4) (z := 4) C dX1_readNumber_15 rfl ?_
  refine tw_iconst (v := (-1)) C dX1_readNumber_17 (by decide) ?_
  refine tw_ic_ne (tgt := 26) C dX1_readNumber_18 (by decide) (fun hc3 => ?_) (fun hc3 => ?_)
  · have ht3 := ite_f hc3 eh2
    refine tw_aload_n (i := 0) (z := 0) (r := (1, t0)) C dX1_readNumber_26 rfl rfl ?_
    refine tw_dup C dX1_readNumber_27 rfl ?_
    refine tw_getI C fl_RX1_59 rfl (wcells_mem (f := 1) (j := t0) (by decide) h0) rfl dX1_readNumber_28 ?_
    refine tw_iconst (v := 1) C dX1_readNumber_31 (by decide) ?_
    refine tw_iadd C dX1_readNumber_32 ?_
    obtain ⟨σ1, es4, eh4⟩ := bnd_ex ht3
    refine tw_put C fl_RX1_59 (fun q hq => by cases hq; rfl) rfl (wcells_mem (f := 1) (j := t0) (by decide) h0) rfl rfl rfl dX1_readNumber_33 ?_
    rw [es4]
    refine tw_aload_n (i := 0) (z := 0) (r := (1, t0)) C dX1_readNumber_36 rfl rfl ?_
    refine tw_aload_n (i := 0) (z := 0) (r := (1, t0)) C dX1_readNumber_37 rfl rfl ?_
    refine tw_getI C fl_RX1_59 rfl (wcells_mem (f := 1) (j := t0) (by decide) h0) rfl dX1_readNumber_38 ?_
    obtain ⟨x3, hv5, eh5⟩ := obi_some eh4
    refine tw_callV (As := [.int (σ1 (1, t0) 5)]) (rest := []) (r := (1, t0)) C hR (kX1_figureAt K.1 _ (by omega) σ1 t0 (σ1 (1, t0) 5) h0 hv5) mi_X1_figureAt is_X1_figureAt se_X1_figureAt ml_RX1_80 (wcells_mem (f := 1) (j := t0) (by decide) h0) rfl rfl rfl rfl (Nat.le_of_ble_eq_true rfl) dX1_readNumber_41 ?_
    show TW K 44 [(0, rv K (1, t0)), (1, .int a1), (2, .int a2), (3, .int x1), (4, .int x2)] [.int x3] σ1
    refine tw_istore (lv' := [(0, rv K (1, t0)), (1, .int a1), (2, .int a2), (3, .int x1), (4, .int x2), (5, .int x3)]) C [1, 2, 3, 4, 5, 0] dX1_readNumber_44 (by rw [hnL]; decide) rfl ?_
    refine tw_iload (i := 5) (z := 5) C dX1_readNumber_46 rfl ?_
    refine tw_iconst (v := (-1)) C dX1_readNumber_48 (by decide) ?_
    obtain ⟨⟨x4, σ2⟩, hx6, hq6⟩ := bnd_ex eh5
    have hJ6 : TW K 72 [(0, rv K (1, t0)), (1, .int a1), (2, .int a2), (3, .int x1), (4, .int x4)] [] σ2 := by
      refine tw_iload (i := 4) (z := 4) C dX1_readNumber_72 rfl ?_
      refine tw_iload_n (i := 2) (z := 2) C dX1_readNumber_74 rfl rfl ?_
      refine tw_ic_ge (tgt := 80) C dX1_readNumber_75 (by decide) (fun hc10 => ?_) (fun hc10 => ?_)
      · have ht10 := ite_t hc10 hq6
        refine tw_aload_n (i := 0) (z := 0) (r := (1, t0)) C dX1_readNumber_80 rfl rfl ?_
        refine tw_getR (g := 11) (z := 0) (j' := t0) C fl_RX1_24 rfl (wcells_mem (f := 1) (j := t0) (by decide) h0) rfl rfl dX1_readNumber_81 ?_
        refine tw_iload_n (i := 1) (z := 1) C dX1_readNumber_84 rfl rfl ?_
        refine tw_iload (i := 4) (z := 4) C dX1_readNumber_85 rfl ?_
        obtain ⟨hb11, eh11⟩ := grd_some ht10
        obtain ⟨σ4, es12, eg12⟩ := bnd_ex eh11
        refine tw_iast (r := (11, t0)) C (wa_of rfl h0 (by decide)) hb11 dX1_readNumber_87 ?_
        rw [es12]
        refine tw_iconst (v := (-1)) C dX1_readNumber_88 (by decide) ?_
        obtain ⟨rfl, rfl⟩ := pj2 (Option.some.inj eg12)
        exact tw_iret C hK rfl rfl dX1_readNumber_89
      · have hf10 := ite_f hc10 hq6
        refine tw_iload_n (i := 3) (z := 3) C dX1_readNumber_78 rfl rfl ?_
        obtain ⟨rfl, rfl⟩ := pj2 (Option.some.inj hf10)
        exact tw_iret C hK rfl rfl dX1_readNumber_79
    refine tw_ic_eq (tgt := 72) C dX1_readNumber_49 (by decide) (fun hc7 => ?_) (fun hc7 => ?_)
    · have ht7 := ite_t hc7 hx6
      refine tw_sub [0, 1, 2, 3, 4] rfl ?_
      obtain ⟨rfl, rfl⟩ := pj2 ht7
      exact hJ6
    · have hf7 := ite_f hc7 hx6
      refine tw_bipush (v := 10) C dX1_readNumber_52 (by decide) ?_
      refine tw_iload (i := 4) (z := 4) C dX1_readNumber_54 rfl ?_
      refine tw_imul C dX1_readNumber_56 ?_
      refine tw_iload (i := 5) (z := 5) C dX1_readNumber_57 rfl ?_
      refine tw_iadd C dX1_readNumber_59 ?_
      obtain ⟨x5, ex8, eh8⟩ := bnd_ex hf7
      refine tw_topi ex8.symm ?_
      refine tw_istore (lv' := [(0, rv K (1, t0)), (1, .int a1), (2, .int a2), (3, .int x1), (4, .int x5), (5, .int x3)]) C [1, 2, 3, 4, 0, 5] dX1_readNumber_60 (by rw [hnL]; decide) rfl ?_
      refine tw_aload_n (i := 0) (z := 0) (r := (1, t0)) C dX1_readNumber_62 rfl rfl ?_
      refine tw_dup C dX1_readNumber_63 rfl ?_
      refine tw_getI C fl_RX1_59 rfl (wcells_mem (f := 1) (j := t0) (by decide) h0) rfl dX1_readNumber_64 ?_
      refine tw_iconst (v := 1) C dX1_readNumber_67 (by decide) ?_
      refine tw_iadd C dX1_readNumber_68 ?_
      obtain ⟨σ3, es9, eh9⟩ := bnd_ex eh8
      refine tw_put C fl_RX1_59 (fun q hq => by cases hq; rfl) rfl (wcells_mem (f := 1) (j := t0) (by decide) h0) rfl rfl rfl dX1_readNumber_69 ?_
      rw [es9]
      refine tw_sub [0, 1, 2, 3, 4] rfl ?_
      obtain ⟨rfl, rfl⟩ := pj2 eh9
      exact hJ6
  · have hf3 := ite_t hc3 eh2
    refine tw_aload_n (i := 0) (z := 0) (r := (1, t0)) C dX1_readNumber_21 rfl rfl ?_
    refine tw_getI C fl_RX1_59 rfl (wcells_mem (f := 1) (j := t0) (by decide) h0) rfl dX1_readNumber_22 ?_
    obtain ⟨rfl, rfl⟩ := pj2 (Option.some.inj hf3)
    exact tw_iret C hK rfl rfl dX1_readNumber_25

set_option maxRecDepth 20000 in
def fX1_readFigure (σ : St) (t0 : Nat) (a1 : Int32) (a2 : Int32) : Option (Int32 × St) :=
  obi (fX1_figureAt σ t0 (σ (1, t0) 5)) (fun x1 =>
  if x1 = (-1 : Int32) then
    some (σ (1, t0) 5, σ)
  else
    if x1 ≤ a2 then
      grd (inb a1 17) (bnd (su σ (11, t0) (tn a1) x1) (fun σ1 =>
      bnd (su σ1 (1, t0) 5 ((σ1 (1, t0) 5) + (1 : Int32))) (fun σ2 =>
      some ((-1 : Int32), σ2))))
    else
      some (σ (1, t0) 5, σ))
set_option maxRecDepth 20000 in
set_option maxHeartbeats 4000000 in
theorem kX1_readFigure (G : Gx) (d : Nat) (hdp : 2 ≤ d) (σ : St) (t0 : Nat) (a1 : Int32) (a2 : Int32) (h0 : t0 < 11) {v0 : Int32} {σ' : St} (h : fX1_readFigure σ t0 a1 a2 = some (v0, σ')) : MS G d yX1_readFigure cX1_readFigure 4 (some .int) [.ref (G.2.1 (1, t0)), .int a1, .int a2] σ (some (.int v0)) σ' := by
  refine MS_of (by decide) (Nat.le_of_ble_eq_true rfl) rfl (fun K hG hnL C hR hK => ?_) (by omega)
  subst hG
  show TW K 0 [(0, rv K (1, t0)), (1, .int a1), (2, .int a2)] [] σ
  unfold fX1_readFigure at h
  refine tw_aload_n (i := 0) (z := 0) (r := (1, t0)) C dX1_readFigure_0 rfl rfl ?_
  refine tw_aload_n (i := 0) (z := 0) (r := (1, t0)) C dX1_readFigure_1 rfl rfl ?_
  refine tw_getI C fl_RX1_59 rfl (wcells_mem (f := 1) (j := t0) (by decide) h0) rfl dX1_readFigure_2 ?_
  obtain ⟨x1, hv1, eh1⟩ := obi_some h
  refine tw_callV (As := [.int (σ (1, t0) 5)]) (rest := []) (r := (1, t0)) C hR (kX1_figureAt K.1 _ (by omega) σ t0 (σ (1, t0) 5) h0 hv1) mi_X1_figureAt is_X1_figureAt se_X1_figureAt ml_RX1_80 (wcells_mem (f := 1) (j := t0) (by decide) h0) rfl rfl rfl rfl (Nat.le_of_ble_eq_true rfl) dX1_readFigure_5 ?_
  show TW K 8 [(0, rv K (1, t0)), (1, .int a1), (2, .int a2)] [.int x1] σ
  refine tw_istore_n (lv' := [(0, rv K (1, t0)), (1, .int a1), (2, .int a2), (3, .int x1)]) C [1, 2, 3, 0] dX1_readFigure_8 rfl (by rw [hnL]; decide) rfl ?_
  refine tw_iload_n (i := 3) (z := 3) C dX1_readFigure_9 rfl rfl ?_
  refine tw_iconst (v := (-1)) C dX1_readFigure_10 (by decide) ?_
  refine tw_ic_eq (tgt := 19) C dX1_readFigure_11 (by decide) (fun hc2 => ?_) (fun hc2 => ?_)
  · have ht2 := ite_t hc2 eh1
    refine tw_aload_n (i := 0) (z := 0) (r := (1, t0)) C dX1_readFigure_19 rfl rfl ?_
    refine tw_getI C fl_RX1_59 rfl (wcells_mem (f := 1) (j := t0) (by decide) h0) rfl dX1_readFigure_20 ?_
    obtain ⟨rfl, rfl⟩ := pj2 (Option.some.inj ht2)
    exact tw_iret C hK rfl rfl dX1_readFigure_23
  · have hf2 := ite_f hc2 eh1
    refine tw_iload_n (i := 3) (z := 3) C dX1_readFigure_14 rfl rfl ?_
    refine tw_iload_n (i := 2) (z := 2) C dX1_readFigure_15 rfl rfl ?_
    refine tw_ic_le (tgt := 24) C dX1_readFigure_16 (by decide) (fun hc3 => ?_) (fun hc3 => ?_)
    · have ht3 := ite_t hc3 hf2
      refine tw_aload_n (i := 0) (z := 0) (r := (1, t0)) C dX1_readFigure_24 rfl rfl ?_
      refine tw_getR (g := 11) (z := 0) (j' := t0) C fl_RX1_24 rfl (wcells_mem (f := 1) (j := t0) (by decide) h0) rfl rfl dX1_readFigure_25 ?_
      refine tw_iload_n (i := 1) (z := 1) C dX1_readFigure_28 rfl rfl ?_
      refine tw_iload_n (i := 3) (z := 3) C dX1_readFigure_29 rfl rfl ?_
      obtain ⟨hb4, eh4⟩ := grd_some ht3
      obtain ⟨σ1, es5, eg5⟩ := bnd_ex eh4
      refine tw_iast (r := (11, t0)) C (wa_of rfl h0 (by decide)) hb4 dX1_readFigure_30 ?_
      rw [es5]
      refine tw_aload_n (i := 0) (z := 0) (r := (1, t0)) C dX1_readFigure_31 rfl rfl ?_
      refine tw_dup C dX1_readFigure_32 rfl ?_
      refine tw_getI C fl_RX1_59 rfl (wcells_mem (f := 1) (j := t0) (by decide) h0) rfl dX1_readFigure_33 ?_
      refine tw_iconst (v := 1) C dX1_readFigure_36 (by decide) ?_
      refine tw_iadd C dX1_readFigure_37 ?_
      obtain ⟨σ2, es6, eh6⟩ := bnd_ex eg5
      refine tw_put C fl_RX1_59 (fun q hq => by cases hq; rfl) rfl (wcells_mem (f := 1) (j := t0) (by decide) h0) rfl rfl rfl dX1_readFigure_38 ?_
      rw [es6]
      refine tw_iconst (v := (-1)) C dX1_readFigure_41 (by decide) ?_
      obtain ⟨rfl, rfl⟩ := pj2 (Option.some.inj eh6)
      exact tw_iret C hK rfl rfl dX1_readFigure_42
    · have hf3 := ite_f hc3 hf2
      refine tw_aload_n (i := 0) (z := 0) (r := (1, t0)) C dX1_readFigure_19 rfl rfl ?_
      refine tw_getI C fl_RX1_59 rfl (wcells_mem (f := 1) (j := t0) (by decide) h0) rfl dX1_readFigure_20 ?_
      obtain ⟨rfl, rfl⟩ := pj2 (Option.some.inj hf3)
      exact tw_iret C hK rfl rfl dX1_readFigure_23

set_option maxRecDepth 20000 in
def fX1_readPoints (σ : St) (t0 : Nat) : Option (Int32 × St) :=
  obi (fX1_figureAt σ t0 (σ (1, t0) 5)) (fun x1 =>
  bj (if x1 = (4 : Int32) then
    some (.inr (10 : Int32))
  else
    if x1 = (8 : Int32) then
      some (.inr (11 : Int32))
    else
      if x1 = (9 : Int32) then
        some (.inr (12 : Int32))
      else
        some (.inl (σ (1, t0) 5, σ))) (fun x2 =>
  bnd (su σ (1, t0) 5 ((σ (1, t0) 5) + (1 : Int32))) (fun σ1 =>
  if (σ1 (1, t0) 3) ≤ (σ1 (1, t0) 5) then
    some (σ1 (1, t0) 5, σ1)
  else
    grd (inb (σ1 (1, t0) 5) 80) (
    if (σ1 (10, t0) (tn (σ1 (1, t0) 5))) = (61 : Int32) then
      bnd (su σ1 (1, t0) 5 ((σ1 (1, t0) 5) + (1 : Int32))) (fun σ2 =>
      obi (fX1_readFigure σ2 t0 x2 (9 : Int32)) (fun (x3, σ3) =>
      some (x3, σ3)))
    else
      some (σ1 (1, t0) 5, σ1)))))
set_option maxRecDepth 20000 in
set_option maxHeartbeats 4000000 in
theorem kX1_readPoints (G : Gx) (d : Nat) (hdp : 3 ≤ d) (σ : St) (t0 : Nat) (h0 : t0 < 11) {v0 : Int32} {σ' : St} (h : fX1_readPoints σ t0 = some (v0, σ')) : MS G d yX1_readPoints cX1_readPoints 3 (some .int) [.ref (G.2.1 (1, t0))] σ (some (.int v0)) σ' := by
  refine MS_of (by decide) (Nat.le_of_ble_eq_true rfl) rfl (fun K hG hnL C hR hK => ?_) (by omega)
  subst hG
  show TW K 0 [(0, rv K (1, t0))] [] σ
  unfold fX1_readPoints at h
  refine tw_aload_n (i := 0) (z := 0) (r := (1, t0)) C dX1_readPoints_0 rfl rfl ?_
  refine tw_aload_n (i := 0) (z := 0) (r := (1, t0)) C dX1_readPoints_1 rfl rfl ?_
  refine tw_getI C fl_RX1_59 rfl (wcells_mem (f := 1) (j := t0) (by decide) h0) rfl dX1_readPoints_2 ?_
  obtain ⟨x1, hv1, eh1⟩ := obi_some h
  refine tw_callV (As := [.int (σ (1, t0) 5)]) (rest := []) (r := (1, t0)) C hR (kX1_figureAt K.1 _ (by omega) σ t0 (σ (1, t0) 5) h0 hv1) mi_X1_figureAt is_X1_figureAt se_X1_figureAt ml_RX1_80 (wcells_mem (f := 1) (j := t0) (by decide) h0) rfl rfl rfl rfl (Nat.le_of_ble_eq_true rfl) dX1_readPoints_5 ?_
  show TW K 8 [(0, rv K (1, t0))] [.int x1] σ
  refine tw_istore_n (lv' := [(0, rv K (1, t0)), (1, .int x1)]) C [1, 0] dX1_readPoints_8 rfl (by rw [hnL]; decide) rfl ?_
  refine tw_iload_n (i := 1) (z := 1) C dX1_readPoints_9 rfl rfl ?_
  refine tw_iconst (v := 4) C dX1_readPoints_10 (by decide) ?_
  obtain ⟨y2, hx2, hy2⟩ := bj_some eh1
  have hJ2 : ∀ (x2 : Int32), y2 = .inr x2 → TW K 49 [(0, rv K (1, t0)), (2, .int x2)] [] σ := by
    intro x2 ey2
    have hq2 := bj_r ey2 hy2
    refine tw_aload_n (i := 0) (z := 0) (r := (1, t0)) C dX1_readPoints_49 rfl rfl ?_
    refine tw_dup C dX1_readPoints_50 rfl ?_
    refine tw_getI C fl_RX1_59 rfl (wcells_mem (f := 1) (j := t0) (by decide) h0) rfl dX1_readPoints_51 ?_
    refine tw_iconst (v := 1) C dX1_readPoints_54 (by decide) ?_
    refine tw_iadd C dX1_readPoints_55 ?_
    obtain ⟨σ1, es7, eh7⟩ := bnd_ex hq2
    refine tw_put C fl_RX1_59 (fun q hq => by cases hq; rfl) rfl (wcells_mem (f := 1) (j := t0) (by decide) h0) rfl rfl rfl dX1_readPoints_56 ?_
    rw [es7]
    refine tw_aload_n (i := 0) (z := 0) (r := (1, t0)) C dX1_readPoints_59 rfl rfl ?_
    refine tw_getI C fl_RX1_59 rfl (wcells_mem (f := 1) (j := t0) (by decide) h0) rfl dX1_readPoints_60 ?_
    refine tw_aload_n (i := 0) (z := 0) (r := (1, t0)) C dX1_readPoints_63 rfl rfl ?_
    refine tw_getI C fl_RX1_40 rfl (wcells_mem (f := 1) (j := t0) (by decide) h0) rfl dX1_readPoints_64 ?_
    refine tw_ic_ge (tgt := 84) C dX1_readPoints_67 (by decide) (fun hc8 => ?_) (fun hc8 => ?_)
    · have ht8 := ite_t hc8 eh7
      refine tw_aload_n (i := 0) (z := 0) (r := (1, t0)) C dX1_readPoints_84 rfl rfl ?_
      refine tw_getI C fl_RX1_59 rfl (wcells_mem (f := 1) (j := t0) (by decide) h0) rfl dX1_readPoints_85 ?_
      obtain ⟨rfl, rfl⟩ := pj2 (Option.some.inj ht8)
      exact tw_iret C hK rfl rfl dX1_readPoints_88
    · have hf8 := ite_f hc8 eh7
      refine tw_aload_n (i := 0) (z := 0) (r := (1, t0)) C dX1_readPoints_70 rfl rfl ?_
      refine tw_getR (g := 10) (z := 0) (j' := t0) C fl_RX1_9 rfl (wcells_mem (f := 1) (j := t0) (by decide) h0) rfl rfl dX1_readPoints_71 ?_
      refine tw_aload_n (i := 0) (z := 0) (r := (1, t0)) C dX1_readPoints_74 rfl rfl ?_
      refine tw_getI C fl_RX1_59 rfl (wcells_mem (f := 1) (j := t0) (by decide) h0) rfl dX1_readPoints_75 ?_
      obtain ⟨hb9, eh9⟩ := grd_some hf8
      refine tw_cald (r := (10, t0)) C rfl (wcells_mem (f := 10) (j := t0) (by decide) h0) hb9 dX1_readPoints_78 ?_
      refine tw_bipush (v := 61) C dX1_readPoints_79 (by decide) ?_
      refine tw_ic_eq (tgt := 89) C dX1_readPoints_81 (by decide) (fun hc10 => ?_) (fun hc10 => ?_)
      · have ht10 := ite_t hc10 eh9
        refine tw_aload_n (i := 0) (z := 0) (r := (1, t0)) C dX1_readPoints_89 rfl rfl ?_
        refine tw_dup C dX1_readPoints_90 rfl ?_
        refine tw_getI C fl_RX1_59 rfl (wcells_mem (f := 1) (j := t0) (by decide) h0) rfl dX1_readPoints_91 ?_
        refine tw_iconst (v := 1) C dX1_readPoints_94 (by decide) ?_
        refine tw_iadd C dX1_readPoints_95 ?_
        obtain ⟨σ2, es11, eh11⟩ := bnd_ex ht10
        refine tw_put C fl_RX1_59 (fun q hq => by cases hq; rfl) rfl (wcells_mem (f := 1) (j := t0) (by decide) h0) rfl rfl rfl dX1_readPoints_96 ?_
        rw [es11]
        refine tw_aload_n (i := 0) (z := 0) (r := (1, t0)) C dX1_readPoints_99 rfl rfl ?_
        refine tw_iload_n (i := 2) (z := 1) C dX1_readPoints_100 rfl rfl ?_
        refine tw_bipush (v := 9) C dX1_readPoints_101 (by decide) ?_
        obtain ⟨⟨x3, σ3⟩, hv12, eh12⟩ := obi_some eh11
        refine tw_callV (As := [.int x2, .int (9 : Int32)]) (rest := []) (r := (1, t0)) C hR (kX1_readFigure K.1 _ (by omega) _ t0 x2 (9 : Int32) h0 hv12) mi_X1_readFigure is_X1_readFigure se_X1_readFigure ml_RX1_73 (wcells_mem (f := 1) (j := t0) (by decide) h0) rfl rfl rfl rfl (Nat.le_of_ble_eq_true rfl) dX1_readPoints_103 ?_
        show TW K 106 [(0, rv K (1, t0)), (2, .int x2)] [.int x3] σ3
        obtain ⟨rfl, rfl⟩ := pj2 (Option.some.inj eh12)
        exact tw_iret C hK rfl rfl dX1_readPoints_106
      · have hf10 := ite_f hc10 eh9
        refine tw_aload_n (i := 0) (z := 0) (r := (1, t0)) C dX1_readPoints_84 rfl rfl ?_
        refine tw_getI C fl_RX1_59 rfl (wcells_mem (f := 1) (j := t0) (by decide) h0) rfl dX1_readPoints_85 ?_
        obtain ⟨rfl, rfl⟩ := pj2 (Option.some.inj hf10)
        exact tw_iret C hK rfl rfl dX1_readPoints_88
  refine tw_ic_ne (tgt := 20) C dX1_readPoints_11 (by decide) (fun hc3 => ?_) (fun hc3 => ?_)
  · have ht3 := ite_f hc3 hx2
    refine tw_iload_n (i := 1) (z := 1) C dX1_readPoints_20 rfl rfl ?_
    refine tw_bipush (v := 8) C dX1_readPoints_21 (by decide) ?_
    refine tw_ic_ne (tgt := 32) C dX1_readPoints_23 (by decide) (fun hc4 => ?_) (fun hc4 => ?_)
    · have ht4 := ite_f hc4 ht3
      refine tw_iload_n (i := 1) (z := 1) C dX1_readPoints_32 rfl rfl ?_
      refine tw_bipush (v := 9) C dX1_readPoints_33 (by decide) ?_
      refine tw_ic_ne (tgt := 44) C dX1_readPoints_35 (by decide) (fun hc5 => ?_) (fun hc5 => ?_)
      · have ht5 := ite_f hc5 ht4
        refine tw_aload_n (i := 0) (z := 0) (r := (1, t0)) C dX1_readPoints_44 rfl rfl ?_
        refine tw_getI C fl_RX1_59 rfl (wcells_mem (f := 1) (j := t0) (by decide) h0) rfl dX1_readPoints_45 ?_
        have e6 := bj_l ht5 hy2
        obtain ⟨rfl, rfl⟩ := pj2 (Option.some.inj e6)
        exact tw_iret C hK rfl rfl dX1_readPoints_48
      · have hf5 := ite_t hc5 ht4
        refine tw_bipush (v := 12) C dX1_readPoints_38 (by decide) ?_
        refine tw_istore_n (lv' := [(0, rv K (1, t0)), (1, .int x1), (2, .int (12 : Int32))]) C [1, 2, 0] dX1_readPoints_40 rfl (by rw [hnL]; decide) rfl ?_
        refine tw_goto (tgt := 49) C dX1_readPoints_41 (by decide) ?_
        refine tw_sub [0, 2] rfl ?_
        exact hJ2 _ (Option.some.inj hf5).symm
    · have hf4 := ite_t hc4 ht3
      refine tw_bipush (v := 11) C dX1_readPoints_26 (by decide) ?_
      refine tw_istore_n (lv' := [(0, rv K (1, t0)), (1, .int x1), (2, .int (11 : Int32))]) C [1, 2, 0] dX1_readPoints_28 rfl (by rw [hnL]; decide) rfl ?_
      refine tw_goto (tgt := 49) C dX1_readPoints_29 (by decide) ?_
      refine tw_sub [0, 2] rfl ?_
      exact hJ2 _ (Option.some.inj hf4).symm
  · have hf3 := ite_t hc3 hx2
    refine tw_bipush (v := 10) C dX1_readPoints_14 (by decide) ?_
    refine tw_istore_n (lv' := [(0, rv K (1, t0)), (1, .int x1), (2, .int (10 : Int32))]) C [1, 2, 0] dX1_readPoints_16 rfl (by rw [hnL]; decide) rfl ?_
    refine tw_goto (tgt := 49) C dX1_readPoints_17 (by decide) ?_
    refine tw_sub [0, 2] rfl ?_
    exact hJ2 _ (Option.some.inj hf3).symm

set_option maxRecDepth 20000 in
def fX1_readPart (σ : St) (t0 : Nat) (a1 : Int32) : Option (Int32 × St) :=
  if (σ (1, t0) 5) < (σ (1, t0) 3) then
    grd (inb (σ (1, t0) 5) 80) (
    bnd (σ (10, t0) (tn (σ (1, t0) 5))) (fun x1 =>
    bnd (su σ (1, t0) 5 ((σ (1, t0) 5) + (1 : Int32))) (fun σ1 =>
    if x1 = 97 then
      obi (fX1_readFigure σ1 t0 (13 : Int32) (2 : Int32)) (fun (x2, σ2) =>
      some (x2, σ2))
    else
      if x1 = 101 then
        obi (fX1_readNumber σ1 t0 (15 : Int32) (0 : Int32)) (fun (x3, σ3) =>
        some (x3, σ3))
      else
        if x1 = 103 then
          obi (fX1_readPoints σ1 t0) (fun (x4, σ4) =>
          some (x4, σ4))
        else
          if x1 = 107 then
            obi (fX1_readFigure σ1 t0 (14 : Int32) (2 : Int32)) (fun (x5, σ5) =>
            some (x5, σ5))
          else
            if x1 = 110 then
              obi (fX1_readCells σ1 t0 a1 false) (fun (x6, σ6) =>
              some (x6, σ6))
            else
              if x1 = 116 then
                obi (fX1_readNumber σ1 t0 (16 : Int32) (1 : Int32)) (fun (x7, σ7) =>
                some (x7, σ7))
              else
                if x1 = 121 then
                  obi (fX1_readCells σ1 t0 a1 true) (fun (x8, σ8) =>
                  some (x8, σ8))
                else
                  some ((σ1 (1, t0) 5) - (1 : Int32), σ1))))
  else
    some (σ (1, t0) 5, σ)
set_option maxRecDepth 20000 in
set_option maxHeartbeats 4000000 in
theorem kX1_readPart (G : Gx) (d : Nat) (hdp : 4 ≤ d) (σ : St) (t0 : Nat) (a1 : Int32) (h0 : t0 < 11) {v0 : Int32} {σ' : St} (h : fX1_readPart σ t0 a1 = some (v0, σ')) : MS G d yX1_readPart cX1_readPart 3 (some .int) [.ref (G.2.1 (1, t0)), .int a1] σ (some (.int v0)) σ' := by
  refine MS_of (by decide) (Nat.le_of_ble_eq_true rfl) rfl (fun K hG hnL C hR hK => ?_) (by omega)
  subst hG
  show TW K 0 [(0, rv K (1, t0)), (1, .int a1)] [] σ
  unfold fX1_readPart at h
  refine tw_aload_n (i := 0) (z := 0) (r := (1, t0)) C dX1_readPart_0 rfl rfl ?_
  refine tw_getI C fl_RX1_59 rfl (wcells_mem (f := 1) (j := t0) (by decide) h0) rfl dX1_readPart_1 ?_
  refine tw_aload_n (i := 0) (z := 0) (r := (1, t0)) C dX1_readPart_4 rfl rfl ?_
  refine tw_getI C fl_RX1_40 rfl (wcells_mem (f := 1) (j := t0) (by decide) h0) rfl dX1_readPart_5 ?_
  refine tw_ic_lt (tgt := 16) C dX1_readPart_8 (by decide) (fun hc1 => ?_) (fun hc1 => ?_)
  · have ht1 := ite_t hc1 h
    refine tw_aload_n (i := 0) (z := 0) (r := (1, t0)) C dX1_readPart_16 rfl rfl ?_
    refine tw_getR (g := 10) (z := 0) (j' := t0) C fl_RX1_9 rfl (wcells_mem (f := 1) (j := t0) (by decide) h0) rfl rfl dX1_readPart_17 ?_
    refine tw_aload_n (i := 0) (z := 0) (r := (1, t0)) C dX1_readPart_20 rfl rfl ?_
    refine tw_getI C fl_RX1_59 rfl (wcells_mem (f := 1) (j := t0) (by decide) h0) rfl dX1_readPart_21 ?_
    obtain ⟨hb2, eh2⟩ := grd_some ht1
    refine tw_cald (r := (10, t0)) C rfl (wcells_mem (f := 10) (j := t0) (by decide) h0) hb2 dX1_readPart_24 ?_
    obtain ⟨x1, ex3, eh3⟩ := bnd_ex eh2
    refine tw_topi ex3.symm ?_
    refine tw_istore_n (lv' := [(0, rv K (1, t0)), (1, .int a1), (2, .int x1)]) C [1, 2, 0] dX1_readPart_25 rfl (by rw [hnL]; decide) rfl ?_
    refine tw_aload_n (i := 0) (z := 0) (r := (1, t0)) C dX1_readPart_26 rfl rfl ?_
    refine tw_dup C dX1_readPart_27 rfl ?_
    refine tw_getI C fl_RX1_59 rfl (wcells_mem (f := 1) (j := t0) (by decide) h0) rfl dX1_readPart_28 ?_
    refine tw_iconst (v := 1) C dX1_readPart_31 (by decide) ?_
    refine tw_iadd C dX1_readPart_32 ?_
    obtain ⟨σ1, es4, eh4⟩ := bnd_ex eh3
    refine tw_put C fl_RX1_59 (fun q hq => by cases hq; rfl) rfl (wcells_mem (f := 1) (j := t0) (by decide) h0) rfl rfl rfl dX1_readPart_33 ?_
    rw [es4]
    refine tw_iload_n (i := 2) (z := 2) C dX1_readPart_36 rfl rfl ?_
    by_cases hc5_0 : x1 = 97
    · have ht5_0 := ite_t hc5_0 eh4
      refine tw_tabZ (tgt := 171) C dX1_readPart_37 (97) (by rw [hc5_0]; decide) (by decide) (by decide) rfl (by decide) ?_
      refine tw_aload_n (i := 0) (z := 0) (r := (1, t0)) C dX1_readPart_171 rfl rfl ?_
      refine tw_bipush (v := 13) C dX1_readPart_172 (by decide) ?_
      refine tw_iconst (v := 2) C dX1_readPart_174 (by decide) ?_
      obtain ⟨⟨x2, σ2⟩, hv6, eh6⟩ := obi_some ht5_0
      refine tw_callV (As := [.int (13 : Int32), .int (2 : Int32)]) (rest := []) (r := (1, t0)) C hR (kX1_readFigure K.1 _ (by omega) _ t0 (13 : Int32) (2 : Int32) h0 hv6) mi_X1_readFigure is_X1_readFigure se_X1_readFigure ml_RX1_73 (wcells_mem (f := 1) (j := t0) (by decide) h0) rfl rfl rfl rfl (Nat.le_of_ble_eq_true rfl) dX1_readPart_175 ?_
      show TW K 178 [(0, rv K (1, t0)), (1, .int a1), (2, .int x1)] [.int x2] σ2
      obtain ⟨rfl, rfl⟩ := pj2 (Option.some.inj eh6)
      exact tw_iret C hK rfl rfl dX1_readPart_178
    have hf5_0 := ite_f hc5_0 eh4
    by_cases hc5_1 : x1 = 101
    · have ht5_1 := ite_t hc5_1 hf5_0
      refine tw_tabZ (tgt := 187) C dX1_readPart_37 (101) (by rw [hc5_1]; decide) (by decide) (by decide) rfl (by decide) ?_
      refine tw_aload_n (i := 0) (z := 0) (r := (1, t0)) C dX1_readPart_187 rfl rfl ?_
      refine tw_bipush (v := 15) C dX1_readPart_188 (by decide) ?_
      refine tw_iconst (v := 0) C dX1_readPart_190 (by decide) ?_
      obtain ⟨⟨x3, σ3⟩, hv7, eh7⟩ := obi_some ht5_1
      refine tw_callV (As := [.int (15 : Int32), .int (0 : Int32)]) (rest := []) (r := (1, t0)) C hR (kX1_readNumber K.1 _ (by omega) _ t0 (15 : Int32) (0 : Int32) h0 hv7) mi_X1_readNumber is_X1_readNumber se_X1_readNumber ml_RX1_77 (wcells_mem (f := 1) (j := t0) (by decide) h0) rfl rfl rfl rfl (Nat.le_of_ble_eq_true rfl) dX1_readPart_191 ?_
      show TW K 194 [(0, rv K (1, t0)), (1, .int a1), (2, .int x1)] [.int x3] σ3
      obtain ⟨rfl, rfl⟩ := pj2 (Option.some.inj eh7)
      exact tw_iret C hK rfl rfl dX1_readPart_194
    have hf5_1 := ite_f hc5_1 hf5_0
    by_cases hc5_2 : x1 = 103
    · have ht5_2 := ite_t hc5_2 hf5_1
      refine tw_tabZ (tgt := 166) C dX1_readPart_37 (103) (by rw [hc5_2]; decide) (by decide) (by decide) rfl (by decide) ?_
      refine tw_aload_n (i := 0) (z := 0) (r := (1, t0)) C dX1_readPart_166 rfl rfl ?_
      obtain ⟨⟨x4, σ4⟩, hv8, eh8⟩ := obi_some ht5_2
      refine tw_callV (As := []) (rest := []) (r := (1, t0)) C hR (kX1_readPoints K.1 _ (by omega) _ t0 h0 hv8) mi_X1_readPoints is_X1_readPoints se_X1_readPoints ml_RX1_70 (wcells_mem (f := 1) (j := t0) (by decide) h0) rfl rfl rfl rfl (Nat.le_of_ble_eq_true rfl) dX1_readPart_167 ?_
      show TW K 170 [(0, rv K (1, t0)), (1, .int a1), (2, .int x1)] [.int x4] σ4
      obtain ⟨rfl, rfl⟩ := pj2 (Option.some.inj eh8)
      exact tw_iret C hK rfl rfl dX1_readPart_170
    have hf5_2 := ite_f hc5_2 hf5_1
    by_cases hc5_3 : x1 = 107
    · have ht5_3 := ite_t hc5_3 hf5_2
      refine tw_tabZ (tgt := 179) C dX1_readPart_37 (107) (by rw [hc5_3]; decide) (by decide) (by decide) rfl (by decide) ?_
      refine tw_aload_n (i := 0) (z := 0) (r := (1, t0)) C dX1_readPart_179 rfl rfl ?_
      refine tw_bipush (v := 14) C dX1_readPart_180 (by decide) ?_
      refine tw_iconst (v := 2) C dX1_readPart_182 (by decide) ?_
      obtain ⟨⟨x5, σ5⟩, hv9, eh9⟩ := obi_some ht5_3
      refine tw_callV (As := [.int (14 : Int32), .int (2 : Int32)]) (rest := []) (r := (1, t0)) C hR (kX1_readFigure K.1 _ (by omega) _ t0 (14 : Int32) (2 : Int32) h0 hv9) mi_X1_readFigure is_X1_readFigure se_X1_readFigure ml_RX1_73 (wcells_mem (f := 1) (j := t0) (by decide) h0) rfl rfl rfl rfl (Nat.le_of_ble_eq_true rfl) dX1_readPart_183 ?_
      show TW K 186 [(0, rv K (1, t0)), (1, .int a1), (2, .int x1)] [.int x5] σ5
      obtain ⟨rfl, rfl⟩ := pj2 (Option.some.inj eh9)
      exact tw_iret C hK rfl rfl dX1_readPart_186
    have hf5_3 := ite_f hc5_3 hf5_2
    by_cases hc5_4 : x1 = 110
    · have ht5_4 := ite_t hc5_4 hf5_3
      refine tw_tabZ (tgt := 159) C dX1_readPart_37 (110) (by rw [hc5_4]; decide) (by decide) (by decide) rfl (by decide) ?_
      refine tw_aload_n (i := 0) (z := 0) (r := (1, t0)) C dX1_readPart_159 rfl rfl ?_
      refine tw_iload_n (i := 1) (z := 1) C dX1_readPart_160 rfl rfl ?_
      refine tw_iconst (v := 0) C dX1_readPart_161 (by decide) ?_
      obtain ⟨⟨x6, σ6⟩, hv10, eh10⟩ := obi_some ht5_4
      refine tw_callV (As := [.int a1, .int (b2i false)]) (rest := []) (r := (1, t0)) C hR (kX1_readCells K.1 _ (by omega) _ t0 a1 false h0 hv10) mi_X1_readCells is_X1_readCells se_X1_readCells ml_RX1_66 (wcells_mem (f := 1) (j := t0) (by decide) h0) rfl rfl rfl rfl (Nat.le_of_ble_eq_true rfl) dX1_readPart_162 ?_
      show TW K 165 [(0, rv K (1, t0)), (1, .int a1), (2, .int x1)] [.int x6] σ6
      obtain ⟨rfl, rfl⟩ := pj2 (Option.some.inj eh10)
      exact tw_iret C hK rfl rfl dX1_readPart_165
    have hf5_4 := ite_f hc5_4 hf5_3
    by_cases hc5_5 : x1 = 116
    · have ht5_5 := ite_t hc5_5 hf5_4
      refine tw_tabZ (tgt := 195) C dX1_readPart_37 (116) (by rw [hc5_5]; decide) (by decide) (by decide) rfl (by decide) ?_
      refine tw_aload_n (i := 0) (z := 0) (r := (1, t0)) C dX1_readPart_195 rfl rfl ?_
      refine tw_bipush (v := 16) C dX1_readPart_196 (by decide) ?_
      refine tw_iconst (v := 1) C dX1_readPart_198 (by decide) ?_
      obtain ⟨⟨x7, σ7⟩, hv11, eh11⟩ := obi_some ht5_5
      refine tw_callV (As := [.int (16 : Int32), .int (1 : Int32)]) (rest := []) (r := (1, t0)) C hR (kX1_readNumber K.1 _ (by omega) _ t0 (16 : Int32) (1 : Int32) h0 hv11) mi_X1_readNumber is_X1_readNumber se_X1_readNumber ml_RX1_77 (wcells_mem (f := 1) (j := t0) (by decide) h0) rfl rfl rfl rfl (Nat.le_of_ble_eq_true rfl) dX1_readPart_199 ?_
      show TW K 202 [(0, rv K (1, t0)), (1, .int a1), (2, .int x1)] [.int x7] σ7
      obtain ⟨rfl, rfl⟩ := pj2 (Option.some.inj eh11)
      exact tw_iret C hK rfl rfl dX1_readPart_202
    have hf5_5 := ite_f hc5_5 hf5_4
    by_cases hc5_6 : x1 = 121
    · have ht5_6 := ite_t hc5_6 hf5_5
      refine tw_tabZ (tgt := 152) C dX1_readPart_37 (121) (by rw [hc5_6]; decide) (by decide) (by decide) rfl (by decide) ?_
      refine tw_aload_n (i := 0) (z := 0) (r := (1, t0)) C dX1_readPart_152 rfl rfl ?_
      refine tw_iload_n (i := 1) (z := 1) C dX1_readPart_153 rfl rfl ?_
      refine tw_iconst (v := 1) C dX1_readPart_154 (by decide) ?_
      obtain ⟨⟨x8, σ8⟩, hv12, eh12⟩ := obi_some ht5_6
      refine tw_callV (As := [.int a1, .int (b2i true)]) (rest := []) (r := (1, t0)) C hR (kX1_readCells K.1 _ (by omega) _ t0 a1 true h0 hv12) mi_X1_readCells is_X1_readCells se_X1_readCells ml_RX1_66 (wcells_mem (f := 1) (j := t0) (by decide) h0) rfl rfl rfl rfl (Nat.le_of_ble_eq_true rfl) dX1_readPart_155 ?_
      show TW K 158 [(0, rv K (1, t0)), (1, .int a1), (2, .int x1)] [.int x8] σ8
      obtain ⟨rfl, rfl⟩ := pj2 (Option.some.inj eh12)
      exact tw_iret C hK rfl rfl dX1_readPart_158
    have hf5_6 := ite_f hc5_6 hf5_5
    have hT5 : TW K 203 [(0, rv K (1, t0)), (1, .int a1), (2, .int x1)] [] σ1 := by
      refine tw_aload_n (i := 0) (z := 0) (r := (1, t0)) C dX1_readPart_203 rfl rfl ?_
      refine tw_getI C fl_RX1_59 rfl (wcells_mem (f := 1) (j := t0) (by decide) h0) rfl dX1_readPart_204 ?_
      refine tw_iconst (v := 1) C dX1_readPart_207 (by decide) ?_
      refine tw_isub C dX1_readPart_208 ?_
      obtain ⟨rfl, rfl⟩ := pj2 (Option.some.inj hf5_6)
      exact tw_iret C hK rfl rfl dX1_readPart_209
    have hn5_97 : ¬ (x1).toInt = 97 := lv_neT (k := 97) hc5_0 (by decide)
    have hn5_101 : ¬ (x1).toInt = 101 := lv_neT (k := 101) hc5_1 (by decide)
    have hn5_103 : ¬ (x1).toInt = 103 := lv_neT (k := 103) hc5_2 (by decide)
    have hn5_107 : ¬ (x1).toInt = 107 := lv_neT (k := 107) hc5_3 (by decide)
    have hn5_110 : ¬ (x1).toInt = 110 := lv_neT (k := 110) hc5_4 (by decide)
    have hn5_116 : ¬ (x1).toInt = 116 := lv_neT (k := 116) hc5_5 (by decide)
    have hn5_121 : ¬ (x1).toInt = 121 := lv_neT (k := 121) hc5_6 (by decide)
    rcases (show (x1).toInt < 97 ∨ 121 < (x1).toInt ∨ (x1).toInt = 98 ∨ (x1).toInt = 99 ∨ (x1).toInt = 100 ∨ (x1).toInt = 102 ∨ (x1).toInt = 104 ∨ (x1).toInt = 105 ∨ (x1).toInt = 106 ∨ (x1).toInt = 108 ∨ (x1).toInt = 109 ∨ (x1).toInt = 111 ∨ (x1).toInt = 112 ∨ (x1).toInt = 113 ∨ (x1).toInt = 114 ∨ (x1).toInt = 115 ∨ (x1).toInt = 117 ∨ (x1).toInt = 118 ∨ (x1).toInt = 119 ∨ (x1).toInt = 120 by omega) with hz | hz | hz | hz | hz | hz | hz | hz | hz | hz | hz | hz | hz | hz | hz | hz | hz | hz | hz | hz
    · exact tw_tabOut (tgt := 203) C dX1_readPart_37 (Or.inl hz) (by decide) hT5
    · exact tw_tabOut (tgt := 203) C dX1_readPart_37 (Or.inr hz) (by decide) hT5
    · exact tw_tabZ (tgt := 203) C dX1_readPart_37 (98) hz (by decide) (by decide) rfl (by decide) hT5
    · exact tw_tabZ (tgt := 203) C dX1_readPart_37 (99) hz (by decide) (by decide) rfl (by decide) hT5
    · exact tw_tabZ (tgt := 203) C dX1_readPart_37 (100) hz (by decide) (by decide) rfl (by decide) hT5
    · exact tw_tabZ (tgt := 203) C dX1_readPart_37 (102) hz (by decide) (by decide) rfl (by decide) hT5
    · exact tw_tabZ (tgt := 203) C dX1_readPart_37 (104) hz (by decide) (by decide) rfl (by decide) hT5
    · exact tw_tabZ (tgt := 203) C dX1_readPart_37 (105) hz (by decide) (by decide) rfl (by decide) hT5
    · exact tw_tabZ (tgt := 203) C dX1_readPart_37 (106) hz (by decide) (by decide) rfl (by decide) hT5
    · exact tw_tabZ (tgt := 203) C dX1_readPart_37 (108) hz (by decide) (by decide) rfl (by decide) hT5
    · exact tw_tabZ (tgt := 203) C dX1_readPart_37 (109) hz (by decide) (by decide) rfl (by decide) hT5
    · exact tw_tabZ (tgt := 203) C dX1_readPart_37 (111) hz (by decide) (by decide) rfl (by decide) hT5
    · exact tw_tabZ (tgt := 203) C dX1_readPart_37 (112) hz (by decide) (by decide) rfl (by decide) hT5
    · exact tw_tabZ (tgt := 203) C dX1_readPart_37 (113) hz (by decide) (by decide) rfl (by decide) hT5
    · exact tw_tabZ (tgt := 203) C dX1_readPart_37 (114) hz (by decide) (by decide) rfl (by decide) hT5
    · exact tw_tabZ (tgt := 203) C dX1_readPart_37 (115) hz (by decide) (by decide) rfl (by decide) hT5
    · exact tw_tabZ (tgt := 203) C dX1_readPart_37 (117) hz (by decide) (by decide) rfl (by decide) hT5
    · exact tw_tabZ (tgt := 203) C dX1_readPart_37 (118) hz (by decide) (by decide) rfl (by decide) hT5
    · exact tw_tabZ (tgt := 203) C dX1_readPart_37 (119) hz (by decide) (by decide) rfl (by decide) hT5
    · exact tw_tabZ (tgt := 203) C dX1_readPart_37 (120) hz (by decide) (by decide) rfl (by decide) hT5
  · have hf1 := ite_f hc1 h
    refine tw_aload_n (i := 0) (z := 0) (r := (1, t0)) C dX1_readPart_11 rfl rfl ?_
    refine tw_getI C fl_RX1_59 rfl (wcells_mem (f := 1) (j := t0) (by decide) h0) rfl dX1_readPart_12 ?_
    obtain ⟨rfl, rfl⟩ := pj2 (Option.some.inj hf1)
    exact tw_iret C hK rfl rfl dX1_readPart_15

set_option maxRecDepth 20000 in
def fX1_readParts (σ : St) (t0 : Nat) : Option (Int32 × St) :=
  bnd (su σ (1, t0) 5 (0 : Int32)) (fun σ1 =>
  lpF (fun (q2 : Int32 × St) => match q2 with
  | (x1, σ2) =>
  if (80 : Int32) ≤ x1 then
    some (.inr ((σ2 (1, t0) 5, σ2)))
  else
    obi (fX1_readPart σ2 t0 x1) (fun (x2, σ3) =>
    if x2 = (-1 : Int32) then
      if (σ3 (1, t0) 5) < (σ3 (1, t0) 3) then
        grd (inb (σ3 (1, t0) 5) 80) (
        if (σ3 (10, t0) (tn (σ3 (1, t0) 5))) = (59 : Int32) then
          bnd (su σ3 (1, t0) 5 ((σ3 (1, t0) 5) + (1 : Int32))) (fun σ4 =>
          bnd (x1 + 1) (fun x3 =>
          some (.inl (x3, σ4))))
        else
          some (.inr ((σ3 (1, t0) 5, σ3))))
      else
        some (.inr (((-1 : Int32), σ3)))
    else
      some (.inr ((x2, σ3))))) ((0 : Int32), σ1))
set_option maxRecDepth 20000 in
set_option maxHeartbeats 4000000 in
theorem kX1_readParts (G : Gx) (d : Nat) (hdp : 5 ≤ d) (σ : St) (t0 : Nat) (h0 : t0 < 11) {v0 : Int32} {σ' : St} (h : fX1_readParts σ t0 = some (v0, σ')) : MS G d yX1_readParts cX1_readParts 3 (some .int) [.ref (G.2.1 (1, t0))] σ (some (.int v0)) σ' := by
  refine MS_of (by decide) (Nat.le_of_ble_eq_true rfl) rfl (fun K hG hnL C hR hK => ?_) (by omega)
  subst hG
  show TW K 0 [(0, rv K (1, t0))] [] σ
  unfold fX1_readParts at h
  refine tw_aload_n (i := 0) (z := 0) (r := (1, t0)) C dX1_readParts_0 rfl rfl ?_
  refine tw_iconst (v := 0) C dX1_readParts_1 (by decide) ?_
  obtain ⟨σ1, es1, eh1⟩ := bnd_ex h
  refine tw_put C fl_RX1_59 (fun q hq => by cases hq; rfl) rfl (wcells_mem (f := 1) (j := t0) (by decide) h0) rfl rfl rfl dX1_readParts_2 ?_
  rw [es1]
  refine tw_iconst (v := 0) C dX1_readParts_5 (by decide) ?_
  refine tw_istore_n (lv' := [(0, rv K (1, t0)), (1, .int (0 : Int32))]) C [1, 0] dX1_readParts_6 rfl (by rw [hnL]; decide) rfl ?_
  refine lpF_ct (G := fun (q : Int32 × St) => match q with | (x1, σ2) => TW K 7 [(0, rv K (1, t0)), (1, .int x1)] [] σ2) ?_ eh1
  rintro ⟨x1, σ2⟩ w2 hx2 hk2
  show TW K 7 [(0, rv K (1, t0)), (1, .int x1)] [] σ2
  refine tw_iload_n (i := 1) (z := 1) C dX1_readParts_7 rfl rfl ?_
  refine tw_bipush (v := 80) C dX1_readParts_8 (by decide) ?_
  refine tw_ic_ge (tgt := 74) C dX1_readParts_10 (by decide) (fun hc3 => ?_) (fun hc3 => ?_)
  · have ht3 := ite_t hc3 hx2
    refine tw_aload_n (i := 0) (z := 0) (r := (1, t0)) C dX1_readParts_74 rfl rfl ?_
    refine tw_getI C fl_RX1_59 rfl (wcells_mem (f := 1) (j := t0) (by decide) h0) rfl dX1_readParts_75 ?_
    have e4 := lp_x ht3 hk2
    obtain ⟨rfl, rfl⟩ := pj2 (Option.some.inj e4)
    exact tw_iret C hK rfl rfl dX1_readParts_78
  · have hf3 := ite_f hc3 hx2
    refine tw_aload_n (i := 0) (z := 0) (r := (1, t0)) C dX1_readParts_13 rfl rfl ?_
    refine tw_iload_n (i := 1) (z := 1) C dX1_readParts_14 rfl rfl ?_
    obtain ⟨⟨x2, σ3⟩, hv5, eh5⟩ := obi_some hf3
    refine tw_callV (As := [.int x1]) (rest := []) (r := (1, t0)) C hR (kX1_readPart K.1 _ (by omega) _ t0 x1 h0 hv5) mi_X1_readPart is_X1_readPart se_X1_readPart ml_RX1_62 (wcells_mem (f := 1) (j := t0) (by decide) h0) rfl rfl rfl rfl (Nat.le_of_ble_eq_true rfl) dX1_readParts_15 ?_
    show TW K 18 [(0, rv K (1, t0)), (1, .int x1)] [.int x2] σ3
    refine tw_istore_n (lv' := [(0, rv K (1, t0)), (1, .int x1), (2, .int x2)]) C [1, 2, 0] dX1_readParts_18 rfl (by rw [hnL]; decide) rfl ?_
    refine tw_iload_n (i := 2) (z := 2) C dX1_readParts_19 rfl rfl ?_
    refine tw_iconst (v := (-1)) C dX1_readParts_20 (by decide) ?_
    refine tw_ic_eq (tgt := 26) C dX1_readParts_21 (by decide) (fun hc6 => ?_) (fun hc6 => ?_)
    · have ht6 := ite_t hc6 eh5
      refine tw_aload_n (i := 0) (z := 0) (r := (1, t0)) C dX1_readParts_26 rfl rfl ?_
      refine tw_getI C fl_RX1_59 rfl (wcells_mem (f := 1) (j := t0) (by decide) h0) rfl dX1_readParts_27 ?_
      refine tw_aload_n (i := 0) (z := 0) (r := (1, t0)) C dX1_readParts_30 rfl rfl ?_
      refine tw_getI C fl_RX1_40 rfl (wcells_mem (f := 1) (j := t0) (by decide) h0) rfl dX1_readParts_31 ?_
      refine tw_ic_lt (tgt := 39) C dX1_readParts_34 (by decide) (fun hc7 => ?_) (fun hc7 => ?_)
      · have ht7 := ite_t hc7 ht6
        refine tw_aload_n (i := 0) (z := 0) (r := (1, t0)) C dX1_readParts_39 rfl rfl ?_
        refine tw_getR (g := 10) (z := 0) (j' := t0) C fl_RX1_9 rfl (wcells_mem (f := 1) (j := t0) (by decide) h0) rfl rfl dX1_readParts_40 ?_
        refine tw_aload_n (i := 0) (z := 0) (r := (1, t0)) C dX1_readParts_43 rfl rfl ?_
        refine tw_getI C fl_RX1_59 rfl (wcells_mem (f := 1) (j := t0) (by decide) h0) rfl dX1_readParts_44 ?_
        obtain ⟨hb8, eh8⟩ := grd_some ht7
        refine tw_cald (r := (10, t0)) C rfl (wcells_mem (f := 10) (j := t0) (by decide) h0) hb8 dX1_readParts_47 ?_
        refine tw_bipush (v := 59) C dX1_readParts_48 (by decide) ?_
        refine tw_ic_eq (tgt := 58) C dX1_readParts_50 (by decide) (fun hc9 => ?_) (fun hc9 => ?_)
        · have ht9 := ite_t hc9 eh8
          refine tw_aload_n (i := 0) (z := 0) (r := (1, t0)) C dX1_readParts_58 rfl rfl ?_
          refine tw_dup C dX1_readParts_59 rfl ?_
          refine tw_getI C fl_RX1_59 rfl (wcells_mem (f := 1) (j := t0) (by decide) h0) rfl dX1_readParts_60 ?_
          refine tw_iconst (v := 1) C dX1_readParts_63 (by decide) ?_
          refine tw_iadd C dX1_readParts_64 ?_
          obtain ⟨σ4, es10, eh10⟩ := bnd_ex ht9
          refine tw_put C fl_RX1_59 (fun q hq => by cases hq; rfl) rfl (wcells_mem (f := 1) (j := t0) (by decide) h0) rfl rfl rfl dX1_readParts_65 ?_
          rw [es10]
          obtain ⟨x3, ex11, eh11⟩ := bnd_ex eh10
          refine tw_iinc (z := 1) (v := x3) (lv' := [(0, rv K (1, t0)), (1, .int x3), (2, .int x2)]) C [1, 0, 2] dX1_readParts_68 rfl ex11 (by rw [hnL]; decide) rfl ?_
          refine tw_goto (tgt := 7) C dX1_readParts_71 (by decide) ?_
          refine tw_sub [0, 1] rfl ?_
          have hz := lp_c eh11 hk2
          exact hz
        · have hf9 := ite_f hc9 eh8
          refine tw_aload_n (i := 0) (z := 0) (r := (1, t0)) C dX1_readParts_53 rfl rfl ?_
          refine tw_getI C fl_RX1_59 rfl (wcells_mem (f := 1) (j := t0) (by decide) h0) rfl dX1_readParts_54 ?_
          have e12 := lp_x hf9 hk2
          obtain ⟨rfl, rfl⟩ := pj2 (Option.some.inj e12)
          exact tw_iret C hK rfl rfl dX1_readParts_57
      · have hf7 := ite_f hc7 ht6
        refine tw_iconst (v := (-1)) C dX1_readParts_37 (by decide) ?_
        have e13 := lp_x hf7 hk2
        obtain ⟨rfl, rfl⟩ := pj2 (Option.some.inj e13)
        exact tw_iret C hK rfl rfl dX1_readParts_38
    · have hf6 := ite_f hc6 eh5
      refine tw_iload_n (i := 2) (z := 2) C dX1_readParts_24 rfl rfl ?_
      have e14 := lp_x hf6 hk2
      obtain ⟨rfl, rfl⟩ := pj2 (Option.some.inj e14)
      exact tw_iret C hK rfl rfl dX1_readParts_25

set_option maxRecDepth 20000 in
def fX1_read (σ : St) (t0 : Nat) : Option (St) :=
  obi (fX1_forgetParts σ t0) (fun σ1 =>
  obi (if (σ1 (1, t0) 3) = 0 then
    some ((-1 : Int32), σ1)
  else
    obi (fX1_readParts σ1 t0) (fun (x2, σ3) =>
    some (x2, σ3))) (fun (x1, σ2) =>
  bnd (su σ2 (1, t0) 4 x1) (fun σ4 =>
  if (σ4 (1, t0) 4) = (-1 : Int32) then
    some σ4
  else
    obi (fX1_forgetParts σ4 t0) (fun σ5 =>
    some σ5))))
set_option maxRecDepth 20000 in
set_option maxHeartbeats 4000000 in
theorem kX1_read (G : Gx) (d : Nat) (hdp : 6 ≤ d) (σ : St) (t0 : Nat) (h0 : t0 < 11) {σ' : St} (h : fX1_read σ t0 = some σ') : MS G d yX1_read cX1_read 1 none [.ref (G.2.1 (1, t0))] σ none σ' := by
  refine MS_of (by decide) (Nat.le_of_ble_eq_true rfl) rfl (fun K hG hnL C hR hK => ?_) (by omega)
  subst hG
  show TW K 0 [(0, rv K (1, t0))] [] σ
  unfold fX1_read at h
  refine tw_aload_n (i := 0) (z := 0) (r := (1, t0)) C dX1_read_0 rfl rfl ?_
  obtain ⟨σ1, hv1, eh1⟩ := obi_some h
  refine tw_callV (As := []) (rest := []) (r := (1, t0)) C hR (kX1_forgetParts K.1 _ (by omega) _ t0 h0 hv1) mi_X1_forgetParts is_X1_forgetParts se_X1_forgetParts ml_RX1_46 (wcells_mem (f := 1) (j := t0) (by decide) h0) rfl rfl rfl rfl (Nat.le_of_ble_eq_true rfl) dX1_read_1 ?_
  show TW K 4 [(0, rv K (1, t0))] [] σ1
  refine tw_aload_n (i := 0) (z := 0) (r := (1, t0)) C dX1_read_4 rfl rfl ?_
  refine tw_aload_n (i := 0) (z := 0) (r := (1, t0)) C dX1_read_5 rfl rfl ?_
  refine tw_getI C fl_RX1_40 rfl (wcells_mem (f := 1) (j := t0) (by decide) h0) rfl dX1_read_6 ?_
  obtain ⟨⟨x1, σ2⟩, hx2, hq2⟩ := obi_some eh1
  have hJ2 : TW K 20 [(0, rv K (1, t0))] [.int x1, rv K (1, t0)] σ2 := by
    obtain ⟨σ4, es5, eh5⟩ := bnd_ex hq2
    refine tw_put C fl_RX1_30 (fun q hq => by cases hq; rfl) rfl (wcells_mem (f := 1) (j := t0) (by decide) h0) rfl rfl rfl dX1_read_20 ?_
    rw [es5]
    refine tw_aload_n (i := 0) (z := 0) (r := (1, t0)) C dX1_read_23 rfl rfl ?_
    refine tw_getI C fl_RX1_30 rfl (wcells_mem (f := 1) (j := t0) (by decide) h0) rfl dX1_read_24 ?_
    refine tw_iconst (v := (-1)) C dX1_read_27 (by decide) ?_
    refine tw_ic_eq (tgt := 35) C dX1_read_28 (by decide) (fun hc6 => ?_) (fun hc6 => ?_)
    · have ht6 := ite_t hc6 eh5
      obtain rfl := (Option.some.inj ht6)
      exact tw_vret C hK rfl rfl dX1_read_35
    · have hf6 := ite_f hc6 eh5
      refine tw_aload_n (i := 0) (z := 0) (r := (1, t0)) C dX1_read_31 rfl rfl ?_
      obtain ⟨σ5, hv7, eh7⟩ := obi_some hf6
      refine tw_callV (As := []) (rest := []) (r := (1, t0)) C hR (kX1_forgetParts K.1 _ (by omega) _ t0 h0 hv7) mi_X1_forgetParts is_X1_forgetParts se_X1_forgetParts ml_RX1_46 (wcells_mem (f := 1) (j := t0) (by decide) h0) rfl rfl rfl rfl (Nat.le_of_ble_eq_true rfl) dX1_read_32 ?_
      show TW K 35 [(0, rv K (1, t0))] [] σ5
      obtain rfl := (Option.some.inj eh7)
      exact tw_vret C hK rfl rfl dX1_read_35
  refine tw_if_ne (tgt := 16) C dX1_read_9 (by decide) (fun hc3 => ?_) (fun hc3 => ?_)
  · have ht3 := ite_f hc3 hx2
    refine tw_aload_n (i := 0) (z := 0) (r := (1, t0)) C dX1_read_16 rfl rfl ?_
    obtain ⟨⟨x2, σ3⟩, hv4, eh4⟩ := obi_some ht3
    refine tw_callV (As := []) (rest := [rv K (1, t0)]) (r := (1, t0)) C hR (kX1_readParts K.1 _ (by omega) _ t0 h0 hv4) mi_X1_readParts is_X1_readParts se_X1_readParts ml_RX1_49 (wcells_mem (f := 1) (j := t0) (by decide) h0) rfl rfl rfl rfl (Nat.le_of_ble_eq_true rfl) dX1_read_17 ?_
    show TW K 20 [(0, rv K (1, t0))] [.int x2, rv K (1, t0)] σ3
    obtain ⟨rfl, rfl⟩ := pj2 (Option.some.inj eh4)
    exact hJ2
  · have hf3 := ite_t hc3 hx2
    refine tw_iconst (v := (-1)) C dX1_read_12 (by decide) ?_
    refine tw_goto (tgt := 20) C dX1_read_13 (by decide) ?_
    obtain ⟨rfl, rfl⟩ := pj2 (Option.some.inj hf3)
    exact hJ2

set_option maxRecDepth 20000 in
def fX1_addByte (σ : St) (t0 : Nat) (a1 : Int32) : Option (Int32 × St) :=
  if (σ (1, t0) 3) < (80 : Int32) then
    grd (inb (σ (1, t0) 3) 80) (bnd (su σ (10, t0) (tn (σ (1, t0) 3)) (nch (i2cc a1))) (fun σ1 =>
    bnd (su σ1 (1, t0) 3 ((σ1 (1, t0) 3) + (1 : Int32))) (fun σ2 =>
    obi (fX1_read σ2 t0) (fun σ3 =>
    some (σ3 (1, t0) 3, σ3)))))
  else
    some ((-4 : Int32), σ)
set_option maxRecDepth 20000 in
set_option maxHeartbeats 4000000 in
theorem kX1_addByte (G : Gx) (d : Nat) (hdp : 7 ≤ d) (σ : St) (t0 : Nat) (a1 : Int32) (h0 : t0 < 11) {v0 : Int32} {σ' : St} (h : fX1_addByte σ t0 a1 = some (v0, σ')) : MS G d yX1_addByte cX1_addByte 2 (some .int) [.ref (G.2.1 (1, t0)), .int a1] σ (some (.int v0)) σ' := by
  refine MS_of (by decide) (Nat.le_of_ble_eq_true rfl) rfl (fun K hG hnL C hR hK => ?_) (by omega)
  subst hG
  show TW K 0 [(0, rv K (1, t0)), (1, .int a1)] [] σ
  unfold fX1_addByte at h
  refine tw_aload_n (i := 0) (z := 0) (r := (1, t0)) C dX1_addByte_0 rfl rfl ?_
  refine tw_getI C fl_RX1_40 rfl (wcells_mem (f := 1) (j := t0) (by decide) h0) rfl dX1_addByte_1 ?_
  refine tw_bipush (v := 80) C dX1_addByte_4 (by decide) ?_
  refine tw_ic_lt (tgt := 12) C dX1_addByte_6 (by decide) (fun hc1 => ?_) (fun hc1 => ?_)
  · have ht1 := ite_t hc1 h
    refine tw_aload_n (i := 0) (z := 0) (r := (1, t0)) C dX1_addByte_12 rfl rfl ?_
    refine tw_getR (g := 10) (z := 0) (j' := t0) C fl_RX1_9 rfl (wcells_mem (f := 1) (j := t0) (by decide) h0) rfl rfl dX1_addByte_13 ?_
    refine tw_aload_n (i := 0) (z := 0) (r := (1, t0)) C dX1_addByte_16 rfl rfl ?_
    refine tw_getI C fl_RX1_40 rfl (wcells_mem (f := 1) (j := t0) (by decide) h0) rfl dX1_addByte_17 ?_
    refine tw_iload_n (i := 1) (z := 1) C dX1_addByte_20 rfl rfl ?_
    refine tw_i2c C dX1_addByte_21 ?_
    obtain ⟨hb2, eh2⟩ := grd_some ht1
    obtain ⟨σ1, es3, eg3⟩ := bnd_ex eh2
    refine tw_cast (r := (10, t0)) C rfl (wcells_mem (f := 10) (j := t0) (by decide) h0) hb2 dX1_addByte_22 ?_
    rw [es3]
    refine tw_aload_n (i := 0) (z := 0) (r := (1, t0)) C dX1_addByte_23 rfl rfl ?_
    refine tw_dup C dX1_addByte_24 rfl ?_
    refine tw_getI C fl_RX1_40 rfl (wcells_mem (f := 1) (j := t0) (by decide) h0) rfl dX1_addByte_25 ?_
    refine tw_iconst (v := 1) C dX1_addByte_28 (by decide) ?_
    refine tw_iadd C dX1_addByte_29 ?_
    obtain ⟨σ2, es4, eh4⟩ := bnd_ex eg3
    refine tw_put C fl_RX1_40 (fun q hq => by cases hq; rfl) rfl (wcells_mem (f := 1) (j := t0) (by decide) h0) rfl rfl rfl dX1_addByte_30 ?_
    rw [es4]
    refine tw_aload_n (i := 0) (z := 0) (r := (1, t0)) C dX1_addByte_33 rfl rfl ?_
    obtain ⟨σ3, hv5, eh5⟩ := obi_some eh4
    refine tw_callV (As := []) (rest := []) (r := (1, t0)) C hR (kX1_read K.1 _ (by omega) _ t0 h0 hv5) mi_X1_read is_X1_read se_X1_read ml_RX1_43 (wcells_mem (f := 1) (j := t0) (by decide) h0) rfl rfl rfl rfl (Nat.le_of_ble_eq_true rfl) dX1_addByte_34 ?_
    show TW K 37 [(0, rv K (1, t0)), (1, .int a1)] [] σ3
    refine tw_aload_n (i := 0) (z := 0) (r := (1, t0)) C dX1_addByte_37 rfl rfl ?_
    refine tw_getI C fl_RX1_40 rfl (wcells_mem (f := 1) (j := t0) (by decide) h0) rfl dX1_addByte_38 ?_
    obtain ⟨rfl, rfl⟩ := pj2 (Option.some.inj eh5)
    exact tw_iret C hK rfl rfl dX1_addByte_41
  · have hf1 := ite_f hc1 h
    refine tw_bipush (v := (-4)) C dX1_addByte_9 (by decide) ?_
    obtain ⟨rfl, rfl⟩ := pj2 (Option.some.inj hf1)
    exact tw_iret C hK rfl rfl dX1_addByte_11

set_option maxRecDepth 20000 in
def fX1_empty (σ : St) (t0 : Nat) : Option (Int32 × St) :=
  bnd (σ (1, t0) 3) (fun x1 =>
  bnd (su σ (1, t0) 3 (0 : Int32)) (fun σ1 =>
  obi (fX1_read σ1 t0) (fun σ2 =>
  some (x1, σ2))))
set_option maxRecDepth 20000 in
set_option maxHeartbeats 4000000 in
theorem kX1_empty (G : Gx) (d : Nat) (hdp : 7 ≤ d) (σ : St) (t0 : Nat) (h0 : t0 < 11) {v0 : Int32} {σ' : St} (h : fX1_empty σ t0 = some (v0, σ')) : MS G d yX1_empty cX1_empty 2 (some .int) [.ref (G.2.1 (1, t0))] σ (some (.int v0)) σ' := by
  refine MS_of (by decide) (Nat.le_of_ble_eq_true rfl) rfl (fun K hG hnL C hR hK => ?_) (by omega)
  subst hG
  show TW K 0 [(0, rv K (1, t0))] [] σ
  unfold fX1_empty at h
  refine tw_aload_n (i := 0) (z := 0) (r := (1, t0)) C dX1_empty_0 rfl rfl ?_
  refine tw_getI C fl_RX1_40 rfl (wcells_mem (f := 1) (j := t0) (by decide) h0) rfl dX1_empty_1 ?_
  obtain ⟨x1, ex1, eh1⟩ := bnd_ex h
  refine tw_topi ex1.symm ?_
  refine tw_istore_n (lv' := [(0, rv K (1, t0)), (1, .int x1)]) C [1, 0] dX1_empty_4 rfl (by rw [hnL]; decide) rfl ?_
  refine tw_aload_n (i := 0) (z := 0) (r := (1, t0)) C dX1_empty_5 rfl rfl ?_
  refine tw_iconst (v := 0) C dX1_empty_6 (by decide) ?_
  obtain ⟨σ1, es2, eh2⟩ := bnd_ex eh1
  refine tw_put C fl_RX1_40 (fun q hq => by cases hq; rfl) rfl (wcells_mem (f := 1) (j := t0) (by decide) h0) rfl rfl rfl dX1_empty_7 ?_
  rw [es2]
  refine tw_aload_n (i := 0) (z := 0) (r := (1, t0)) C dX1_empty_10 rfl rfl ?_
  obtain ⟨σ2, hv3, eh3⟩ := obi_some eh2
  refine tw_callV (As := []) (rest := []) (r := (1, t0)) C hR (kX1_read K.1 _ (by omega) _ t0 h0 hv3) mi_X1_read is_X1_read se_X1_read ml_RX1_43 (wcells_mem (f := 1) (j := t0) (by decide) h0) rfl rfl rfl rfl (Nat.le_of_ble_eq_true rfl) dX1_empty_11 ?_
  show TW K 14 [(0, rv K (1, t0)), (1, .int x1)] [] σ2
  refine tw_iload_n (i := 1) (z := 1) C dX1_empty_14 rfl rfl ?_
  obtain ⟨rfl, rfl⟩ := pj2 (Option.some.inj eh3)
  exact tw_iret C hK rfl rfl dX1_empty_15

set_option maxRecDepth 20000 in
def fX2_clear (σ : St)  : St :=
  bnd (su σ (2, 0) 0 (0 : Int32)) (fun σ1 =>
  bnd (su σ1 (2, 0) 1 (-1 : Int32)) (fun σ2 =>
  bnd (su σ2 (2, 0) 2 (0 : Int32)) (fun σ3 =>
  σ3)))
set_option maxRecDepth 20000 in
set_option maxHeartbeats 4000000 in
theorem kX2_clear (G : Gx) (d : Nat) (hdp : 1 ≤ d) (σ : St)   {σ' : St} (h : fX2_clear σ  = σ') : MS G d yX2_clear cX2_clear 1 none [.ref (G.2.1 (2, 0))] σ none σ' := by
  refine MS_of (by decide) (Nat.le_of_ble_eq_true rfl) rfl (fun K hG hnL C hR hK => ?_) (by omega)
  subst hG
  show TW K 0 [(0, rv K (2, 0))] [] σ
  unfold fX2_clear at h
  refine tw_aload_n (i := 0) (z := 0) (r := (2, 0)) C dX2_clear_0 rfl rfl ?_
  refine tw_iconst (v := 0) C dX2_clear_1 (by decide) ?_
  obtain ⟨σ1, es1, eh1⟩ := bnd_ex h
  refine tw_put C fl_RX2_9 (fun q hq => by cases hq; rfl) rfl (wcells_mem (f := 2) (j := 0) (by decide) (by decide)) rfl rfl rfl dX2_clear_2 ?_
  rw [es1]
  refine tw_aload_n (i := 0) (z := 0) (r := (2, 0)) C dX2_clear_5 rfl rfl ?_
  refine tw_iconst (v := (-1)) C dX2_clear_6 (by decide) ?_
  obtain ⟨σ2, es2, eh2⟩ := bnd_ex eh1
  refine tw_put C fl_RX2_15 (fun q hq => by cases hq; rfl) rfl (wcells_mem (f := 2) (j := 0) (by decide) (by decide)) rfl rfl rfl dX2_clear_7 ?_
  rw [es2]
  refine tw_aload_n (i := 0) (z := 0) (r := (2, 0)) C dX2_clear_10 rfl rfl ?_
  refine tw_iconst (v := 0) C dX2_clear_11 (by decide) ?_
  obtain ⟨σ3, es3, eh3⟩ := bnd_ex eh2
  refine tw_put C fl_RX2_18 (fun q hq => by cases hq; rfl) rfl (wcells_mem (f := 2) (j := 0) (by decide) (by decide)) rfl rfl rfl dX2_clear_12 ?_
  rw [es3]
  obtain rfl := eh3
  exact tw_vret C hK rfl rfl dX2_clear_15

set_option maxRecDepth 20000 in
def fJ6_bitCount_0f7a4 (a0 : Int32) : Int32 :=
  bnd (a0 - ((ius a0 (1 : Int32)) &&& (1431655765 : Int32))) (fun x1 =>
  bnd ((x1 &&& (858993459 : Int32)) + ((ius x1 (2 : Int32)) &&& (858993459 : Int32))) (fun x2 =>
  bnd ((x2 + (ius x2 (4 : Int32))) &&& (252645135 : Int32)) (fun x3 =>
  bnd (x3 + (ius x3 (8 : Int32))) (fun x4 =>
  bnd (x4 + (ius x4 (16 : Int32))) (fun x5 =>
  x5 &&& (63 : Int32))))))
set_option maxRecDepth 20000 in
set_option maxHeartbeats 4000000 in
theorem kJ6_bitCount_0f7a4 (G : Gx) (d : Nat) (hdp : 1 ≤ d) (σ : St) (a0 : Int32)  {v0 : Int32} (h : fJ6_bitCount_0f7a4 a0 = v0) : MS G d yJ6_bitCount_0f7a4 cJ6_bitCount_0f7a4 1 (some .int) [.int a0] σ (some (.int v0)) σ := by
  refine MS_of (by decide) (Nat.le_of_ble_eq_true rfl) rfl (fun K hG hnL C hR hK => ?_) (by omega)
  subst hG
  show TW K 0 [(0, .int a0)] [] σ
  unfold fJ6_bitCount_0f7a4 at h
  refine tw_iload_n (i := 0) (z := 0) C dJ6_bitCount_0f7a4_0 rfl rfl ?_
  refine tw_iload_n (i := 0) (z := 0) C dJ6_bitCount_0f7a4_1 rfl rfl ?_
  refine tw_iconst (v := 1) C dJ6_bitCount_0f7a4_2 (by decide) ?_
  refine tw_iushr C dJ6_bitCount_0f7a4_3 ?_
  refine tw_ldcw C cn_RJ6_265 dJ6_bitCount_0f7a4_4 ?_
  refine tw_iand C dJ6_bitCount_0f7a4_7 ?_
  refine tw_isub C dJ6_bitCount_0f7a4_8 ?_
  obtain ⟨x1, ex1, eh1⟩ := bnd_ex h
  refine tw_topi ex1.symm ?_
  refine tw_istore_n (lv' := [(0, .int x1)]) C [0] dJ6_bitCount_0f7a4_9 rfl (by rw [hnL]; decide) rfl ?_
  refine tw_iload_n (i := 0) (z := 0) C dJ6_bitCount_0f7a4_10 rfl rfl ?_
  refine tw_ldcw C cn_RJ6_266 dJ6_bitCount_0f7a4_11 ?_
  refine tw_iand C dJ6_bitCount_0f7a4_14 ?_
  refine tw_iload_n (i := 0) (z := 0) C dJ6_bitCount_0f7a4_15 rfl rfl ?_
  refine tw_iconst (v := 2) C dJ6_bitCount_0f7a4_16 (by decide) ?_
  refine tw_iushr C dJ6_bitCount_0f7a4_17 ?_
  refine tw_ldcw C cn_RJ6_266 dJ6_bitCount_0f7a4_18 ?_
  refine tw_iand C dJ6_bitCount_0f7a4_21 ?_
  refine tw_iadd C dJ6_bitCount_0f7a4_22 ?_
  obtain ⟨x2, ex2, eh2⟩ := bnd_ex eh1
  refine tw_topi ex2.symm ?_
  refine tw_istore_n (lv' := [(0, .int x2)]) C [0] dJ6_bitCount_0f7a4_23 rfl (by rw [hnL]; decide) rfl ?_
  refine tw_iload_n (i := 0) (z := 0) C dJ6_bitCount_0f7a4_24 rfl rfl ?_
  refine tw_iload_n (i := 0) (z := 0) C dJ6_bitCount_0f7a4_25 rfl rfl ?_
  refine tw_iconst (v := 4) C dJ6_bitCount_0f7a4_26 (by decide) ?_
  refine tw_iushr C dJ6_bitCount_0f7a4_27 ?_
  refine tw_iadd C dJ6_bitCount_0f7a4_28 ?_
  refine tw_ldcw C cn_RJ6_267 dJ6_bitCount_0f7a4_29 ?_
  refine tw_iand C dJ6_bitCount_0f7a4_32 ?_
  obtain ⟨x3, ex3, eh3⟩ := bnd_ex eh2
  refine tw_topi ex3.symm ?_
  refine tw_istore_n (lv' := [(0, .int x3)]) C [0] dJ6_bitCount_0f7a4_33 rfl (by rw [hnL]; decide) rfl ?_
  refine tw_iload_n (i := 0) (z := 0) C dJ6_bitCount_0f7a4_34 rfl rfl ?_
  refine tw_iload_n (i := 0) (z := 0) C dJ6_bitCount_0f7a4_35 rfl rfl ?_
  refine tw_bipush (v := 8) C dJ6_bitCount_0f7a4_36 (by decide) ?_
  refine tw_iushr C dJ6_bitCount_0f7a4_38 ?_
  refine tw_iadd C dJ6_bitCount_0f7a4_39 ?_
  obtain ⟨x4, ex4, eh4⟩ := bnd_ex eh3
  refine tw_topi ex4.symm ?_
  refine tw_istore_n (lv' := [(0, .int x4)]) C [0] dJ6_bitCount_0f7a4_40 rfl (by rw [hnL]; decide) rfl ?_
  refine tw_iload_n (i := 0) (z := 0) C dJ6_bitCount_0f7a4_41 rfl rfl ?_
  refine tw_iload_n (i := 0) (z := 0) C dJ6_bitCount_0f7a4_42 rfl rfl ?_
  refine tw_bipush (v := 16) C dJ6_bitCount_0f7a4_43 (by decide) ?_
  refine tw_iushr C dJ6_bitCount_0f7a4_45 ?_
  refine tw_iadd C dJ6_bitCount_0f7a4_46 ?_
  obtain ⟨x5, ex5, eh5⟩ := bnd_ex eh4
  refine tw_topi ex5.symm ?_
  refine tw_istore_n (lv' := [(0, .int x5)]) C [0] dJ6_bitCount_0f7a4_47 rfl (by rw [hnL]; decide) rfl ?_
  refine tw_iload_n (i := 0) (z := 0) C dJ6_bitCount_0f7a4_48 rfl rfl ?_
  refine tw_bipush (v := 63) C dJ6_bitCount_0f7a4_49 (by decide) ?_
  refine tw_iand C dJ6_bitCount_0f7a4_51 ?_
  obtain rfl := eh5
  exact tw_iret C hK rfl rfl dJ6_bitCount_0f7a4_52

set_option maxRecDepth 20000 in
def fX2_offer (σ : St) (a1 : Int32) (a2 : Int32) (a3 : Int32) : St :=
  bnd (if a2 ≤ (σ (2, 0) 1) then
    (0 : Int32)
  else
    (1 : Int32)) (fun x1 =>
  bnd (if a2 = (σ (2, 0) 1) then
    bnd (if a3 < (σ (2, 0) 2) then
      (1 : Int32)
    else
      if a3 = (σ (2, 0) 2) then
        if (fJ6_bitCount_0f7a4 (σ (2, 0) 0)) ≤ (fJ6_bitCount_0f7a4 a1) then
          (0 : Int32)
        else
          (1 : Int32)
      else
        (0 : Int32)) (fun x3 =>
    x3)
  else
    x1) (fun x2 =>
  if x2 = 0 then
    σ
  else
    bnd (su σ (2, 0) 0 a1) (fun σ1 =>
    bnd (su σ1 (2, 0) 1 a2) (fun σ2 =>
    bnd (su σ2 (2, 0) 2 a3) (fun σ3 =>
    σ3)))))
set_option maxRecDepth 20000 in
set_option maxHeartbeats 4000000 in
theorem kX2_offer (G : Gx) (d : Nat) (hdp : 2 ≤ d) (σ : St) (a1 : Int32) (a2 : Int32) (a3 : Int32)  {σ' : St} (h : fX2_offer σ a1 a2 a3 = σ') : MS G d yX2_offer cX2_offer 5 none [.ref (G.2.1 (2, 0)), .int a1, .int a2, .int a3] σ none σ' := by
  refine MS_of (by decide) (Nat.le_of_ble_eq_true rfl) rfl (fun K hG hnL C hR hK => ?_) (by omega)
  subst hG
  show TW K 0 [(0, rv K (2, 0)), (1, .int a1), (2, .int a2), (3, .int a3)] [] σ
  unfold fX2_offer at h
  refine tw_iload_n (i := 2) (z := 2) C dX2_offer_0 rfl rfl ?_
  refine tw_aload_n (i := 0) (z := 0) (r := (2, 0)) C dX2_offer_1 rfl rfl ?_
  refine tw_getI C fl_RX2_15 rfl (wcells_mem (f := 2) (j := 0) (by decide) (by decide)) rfl dX2_offer_2 ?_
  obtain ⟨x1, hx1, hq1⟩ := bnd_ex h
  have hJ1 : TW K 13 [(0, rv K (2, 0)), (1, .int a1), (2, .int a2), (3, .int a3)] [.int x1] σ := by
    refine tw_istore (lv' := [(0, rv K (2, 0)), (1, .int a1), (2, .int a2), (3, .int a3), (4, .int x1)]) C [1, 2, 3, 4, 0] dX2_offer_13 (by rw [hnL]; decide) rfl ?_
    refine tw_iload_n (i := 2) (z := 2) C dX2_offer_15 rfl rfl ?_
    refine tw_aload_n (i := 0) (z := 0) (r := (2, 0)) C dX2_offer_16 rfl rfl ?_
    refine tw_getI C fl_RX2_15 rfl (wcells_mem (f := 2) (j := 0) (by decide) (by decide)) rfl dX2_offer_17 ?_
    obtain ⟨x2, hx3, hq3⟩ := bnd_ex hq1
    have hJ3 : TW K 60 [(0, rv K (2, 0)), (1, .int a1), (2, .int a2), (3, .int a3), (4, .int x2)] [] σ := by
      refine tw_iload (i := 4) (z := 4) C dX2_offer_60 rfl ?_
      refine tw_if_eq (tgt := 80) C dX2_offer_62 (by decide) (fun hc9 => ?_) (fun hc9 => ?_)
      · have ht9 := ite_t hc9 hq3
        obtain rfl := ht9
        exact tw_vret C hK rfl rfl dX2_offer_80
      · have hf9 := ite_f hc9 hq3
        refine tw_aload_n (i := 0) (z := 0) (r := (2, 0)) C dX2_offer_65 rfl rfl ?_
        refine tw_iload_n (i := 1) (z := 1) C dX2_offer_66 rfl rfl ?_
        obtain ⟨σ1, es10, eh10⟩ := bnd_ex hf9
        refine tw_put C fl_RX2_9 (fun q hq => by cases hq; rfl) rfl (wcells_mem (f := 2) (j := 0) (by decide) (by decide)) rfl rfl rfl dX2_offer_67 ?_
        rw [es10]
        refine tw_aload_n (i := 0) (z := 0) (r := (2, 0)) C dX2_offer_70 rfl rfl ?_
        refine tw_iload_n (i := 2) (z := 2) C dX2_offer_71 rfl rfl ?_
        obtain ⟨σ2, es11, eh11⟩ := bnd_ex eh10
        refine tw_put C fl_RX2_15 (fun q hq => by cases hq; rfl) rfl (wcells_mem (f := 2) (j := 0) (by decide) (by decide)) rfl rfl rfl dX2_offer_72 ?_
        rw [es11]
        refine tw_aload_n (i := 0) (z := 0) (r := (2, 0)) C dX2_offer_75 rfl rfl ?_
        refine tw_iload_n (i := 3) (z := 3) C dX2_offer_76 rfl rfl ?_
        obtain ⟨σ3, es12, eh12⟩ := bnd_ex eh11
        refine tw_put C fl_RX2_18 (fun q hq => by cases hq; rfl) rfl (wcells_mem (f := 2) (j := 0) (by decide) (by decide)) rfl rfl rfl dX2_offer_77 ?_
        rw [es12]
        obtain rfl := eh12
        exact tw_vret C hK rfl rfl dX2_offer_80
    refine tw_ic_ne (tgt := 60) C dX2_offer_20 (by decide) (fun hc4 => ?_) (fun hc4 => ?_)
    · have ht4 := ite_f hc4 hx3
      obtain rfl := ht4
      exact hJ3
    · have hf4 := ite_t hc4 hx3
      refine tw_iload_n (i := 3) (z := 3) C dX2_offer_23 rfl rfl ?_
      refine tw_aload_n (i := 0) (z := 0) (r := (2, 0)) C dX2_offer_24 rfl rfl ?_
      refine tw_getI C fl_RX2_18 rfl (wcells_mem (f := 2) (j := 0) (by decide) (by decide)) rfl dX2_offer_25 ?_
      obtain ⟨x3, hx5, hq5⟩ := bnd_ex hf4
      have hJ5 : TW K 58 [(0, rv K (2, 0)), (1, .int a1), (2, .int a2), (3, .int a3)] [.int x3] σ := by
        refine tw_istore (lv' := [(0, rv K (2, 0)), (1, .int a1), (2, .int a2), (3, .int a3), (4, .int x3)]) C [1, 2, 3, 4, 0] dX2_offer_58 (by rw [hnL]; decide) rfl ?_
        obtain rfl := hq5
        exact hJ3
      refine tw_ic_lt (tgt := 53) C dX2_offer_28 (by decide) (fun hc6 => ?_) (fun hc6 => ?_)
      · have ht6 := ite_t hc6 hx5
        refine tw_iconst (v := 1) C dX2_offer_53 (by decide) ?_
        refine tw_goto (tgt := 58) C dX2_offer_54 (by decide) ?_
        refine tw_sub [0, 1, 2, 3] rfl ?_
        obtain rfl := ht6
        exact hJ5
      · have hf6 := ite_f hc6 hx5
        refine tw_iload_n (i := 3) (z := 3) C dX2_offer_31 rfl rfl ?_
        refine tw_aload_n (i := 0) (z := 0) (r := (2, 0)) C dX2_offer_32 rfl rfl ?_
        refine tw_getI C fl_RX2_18 rfl (wcells_mem (f := 2) (j := 0) (by decide) (by decide)) rfl dX2_offer_33 ?_
        refine tw_ic_ne (tgt := 57) C dX2_offer_36 (by decide) (fun hc7 => ?_) (fun hc7 => ?_)
        · have ht7 := ite_f hc7 hf6
          refine tw_iconst (v := 0) C dX2_offer_57 (by decide) ?_
          refine tw_sub [0, 1, 2, 3] rfl ?_
          obtain rfl := ht7
          exact hJ5
        · have hf7 := ite_t hc7 hf6
          refine tw_iload_n (i := 1) (z := 1) C dX2_offer_39 rfl rfl ?_
          refine tw_callS (As := [.int a1]) (rest := []) C hR (kJ6_bitCount_0f7a4 K.1 _ (by omega) σ a1  rfl) mi_J6_bitCount_0f7a4 st_J6_bitCount_0f7a4 ml_RX2_21 rfl rfl (Nat.le_of_ble_eq_true rfl) dX2_offer_40 ?_
          show TW K 43 [(0, rv K (2, 0)), (1, .int a1), (2, .int a2), (3, .int a3), (4, .int x1)] [.int (fJ6_bitCount_0f7a4 a1)] σ
          refine tw_aload_n (i := 0) (z := 0) (r := (2, 0)) C dX2_offer_43 rfl rfl ?_
          refine tw_getI C fl_RX2_9 rfl (wcells_mem (f := 2) (j := 0) (by decide) (by decide)) rfl dX2_offer_44 ?_
          refine tw_callS (As := [.int (σ (2, 0) 0)]) (rest := [.int (fJ6_bitCount_0f7a4 a1)]) C hR (kJ6_bitCount_0f7a4 K.1 _ (by omega) σ (σ (2, 0) 0)  rfl) mi_J6_bitCount_0f7a4 st_J6_bitCount_0f7a4 ml_RX2_21 rfl rfl (Nat.le_of_ble_eq_true rfl) dX2_offer_47 ?_
          show TW K 50 [(0, rv K (2, 0)), (1, .int a1), (2, .int a2), (3, .int a3), (4, .int x1)] [.int (fJ6_bitCount_0f7a4 (σ (2, 0) 0)), .int (fJ6_bitCount_0f7a4 a1)] σ
          refine tw_ic_ge (tgt := 57) C dX2_offer_50 (by decide) (fun hc8 => ?_) (fun hc8 => ?_)
          · have ht8 := ite_t hc8 hf7
            refine tw_iconst (v := 0) C dX2_offer_57 (by decide) ?_
            refine tw_sub [0, 1, 2, 3] rfl ?_
            obtain rfl := ht8
            exact hJ5
          · have hf8 := ite_f hc8 hf7
            refine tw_iconst (v := 1) C dX2_offer_53 (by decide) ?_
            refine tw_goto (tgt := 58) C dX2_offer_54 (by decide) ?_
            refine tw_sub [0, 1, 2, 3] rfl ?_
            obtain rfl := hf8
            exact hJ5
  refine tw_ic_le (tgt := 12) C dX2_offer_5 (by decide) (fun hc2 => ?_) (fun hc2 => ?_)
  · have ht2 := ite_t hc2 hx1
    refine tw_iconst (v := 0) C dX2_offer_12 (by decide) ?_
    obtain rfl := ht2
    exact hJ1
  · have hf2 := ite_f hc2 hx1
    refine tw_iconst (v := 1) C dX2_offer_8 (by decide) ?_
    refine tw_goto (tgt := 13) C dX2_offer_9 (by decide) ?_
    obtain rfl := hf2
    exact hJ1

set_option maxRecDepth 20000 in
def fX3_setMoments (σ : St) (t0 : Nat) (t1 : Nat) (a2 : Int32) : Option (St) :=
  bnd (su σ (3, t0) 2 (mmax (0 : Int32) (mmin a2 (40 : Int32)))) (fun σ1 =>
  grd (acpOk (20, t1) (0 : Int32) (13, t0) (0 : Int32) (σ1 (3, t0) 2)) (bnd (acp σ1 (20, t1) (0 : Int32) (13, t0) (0 : Int32) (σ1 (3, t0) 2)) (fun σ2 =>
  some σ2)))
set_option maxRecDepth 20000 in
set_option maxHeartbeats 4000000 in
theorem kX3_setMoments (G : Gx) (d : Nat) (hdp : 2 ≤ d) (σ : St) (t0 : Nat) (t1 : Nat) (a2 : Int32) (h0 : t0 < 12) (h1 : t1 < 4) {σ' : St} (h : fX3_setMoments σ t0 t1 a2 = some σ') : MS G d yX3_setMoments cX3_setMoments 3 none [.ref (G.2.1 (3, t0)), .ref (G.2.1 (6, t1)), .int a2] σ none σ' := by
  refine MS_of (by decide) (Nat.le_of_ble_eq_true rfl) rfl (fun K hG hnL C hR hK => ?_) (by omega)
  subst hG
  show TW K 0 [(0, rv K (3, t0)), (1, rv K (6, t1)), (2, .int a2)] [] σ
  unfold fX3_setMoments at h
  refine tw_aload_n (i := 0) (z := 0) (r := (3, t0)) C dX3_setMoments_0 rfl rfl ?_
  refine tw_iconst (v := 0) C dX3_setMoments_1 (by decide) ?_
  refine tw_iload_n (i := 2) (z := 2) C dX3_setMoments_2 rfl rfl ?_
  refine tw_bipush (v := 40) C dX3_setMoments_3 (by decide) ?_
  refine tw_mmin C hR ml_RX3_24 st_mmin in_Math cw_mmin (Nat.le_of_ble_eq_true rfl) dX3_setMoments_5 ?_
  refine tw_mmax C hR ml_RX3_30 st_mmax in_Math cw_mmax (Nat.le_of_ble_eq_true rfl) dX3_setMoments_8 ?_
  obtain ⟨σ1, es1, eh1⟩ := bnd_ex h
  refine tw_put C fl_RX3_33 (fun q hq => by cases hq; rfl) rfl (wcells_mem (f := 3) (j := t0) (by decide) h0) rfl rfl rfl dX3_setMoments_11 ?_
  rw [es1]
  refine tw_aload_n (i := 1) (z := 1) (r := (6, t1)) C dX3_setMoments_14 rfl rfl ?_
  refine tw_getR (g := 20) (z := 0) (j' := t1) C fl_RX3_37 rfl (wcells_mem (f := 6) (j := t1) (by decide) h1) rfl rfl dX3_setMoments_15 ?_
  refine tw_iconst (v := 0) C dX3_setMoments_18 (by decide) ?_
  refine tw_aload_n (i := 0) (z := 0) (r := (3, t0)) C dX3_setMoments_19 rfl rfl ?_
  refine tw_getR (g := 13) (z := 0) (j' := t0) C fl_RX3_9 rfl (wcells_mem (f := 3) (j := t0) (by decide) h0) rfl rfl dX3_setMoments_20 ?_
  refine tw_iconst (v := 0) C dX3_setMoments_23 (by decide) ?_
  refine tw_aload_n (i := 0) (z := 0) (r := (3, t0)) C dX3_setMoments_24 rfl rfl ?_
  refine tw_getI C fl_RX3_33 rfl (wcells_mem (f := 3) (j := t0) (by decide) h0) rfl dX3_setMoments_25 ?_
  obtain ⟨hb2, eh2⟩ := grd_some eh1
  obtain ⟨σ2, es3, eg3⟩ := bnd_ex eh2
  refine tw_acp (r := (20, t1)) (q := (13, t0)) C hR hb2 ml_RX3_42 nt_acp st_acp in_System (Nat.le_of_ble_eq_true rfl) dX3_setMoments_28 ?_
  rw [es3]
  obtain rfl := (Option.some.inj eg3)
  exact tw_vret C hK rfl rfl dX3_setMoments_31

set_option maxRecDepth 20000 in
def fX6_has (σ : St) (t0 : Nat) (a1 : Int32) : Bool :=
  if a1 < 0 then
    false
  else
    if (σ (6, t0) 3) ≤ a1 then
      false
    else
      true
set_option maxRecDepth 20000 in
set_option maxHeartbeats 4000000 in
theorem kX6_has (G : Gx) (d : Nat) (hdp : 1 ≤ d) (σ : St) (t0 : Nat) (a1 : Int32) (h0 : t0 < 4) {v0 : Bool} (h : fX6_has σ t0 a1 = v0) : MS G d yX6_has cX6_has 2 (some .boolean) [.ref (G.2.1 (6, t0)), .int a1] σ (some (.int (b2i v0))) σ := by
  refine MS_of (by decide) (Nat.le_of_ble_eq_true rfl) rfl (fun K hG hnL C hR hK => ?_) (by omega)
  subst hG
  show TW K 0 [(0, rv K (6, t0)), (1, .int a1)] [] σ
  unfold fX6_has at h
  refine tw_iload_n (i := 1) (z := 1) C dX6_has_0 rfl rfl ?_
  refine tw_if_lt (tgt := 16) C dX6_has_1 (by decide) (fun hc1 => ?_) (fun hc1 => ?_)
  · have ht1 := ite_t hc1 h
    refine tw_iconst (v := 0) C dX6_has_16 (by decide) ?_
    obtain rfl := ht1
    exact tw_zret C hK rfl rfl rfl dX6_has_17
  · have hf1 := ite_f hc1 h
    refine tw_iload_n (i := 1) (z := 1) C dX6_has_4 rfl rfl ?_
    refine tw_aload_n (i := 0) (z := 0) (r := (6, t0)) C dX6_has_5 rfl rfl ?_
    refine tw_getI C fl_RX6_29 rfl (wcells_mem (f := 6) (j := t0) (by decide) h0) rfl dX6_has_6 ?_
    refine tw_ic_ge (tgt := 16) C dX6_has_9 (by decide) (fun hc2 => ?_) (fun hc2 => ?_)
    · have ht2 := ite_t hc2 hf1
      refine tw_iconst (v := 0) C dX6_has_16 (by decide) ?_
      obtain rfl := ht2
      exact tw_zret C hK rfl rfl rfl dX6_has_17
    · have hf2 := ite_f hc2 hf1
      refine tw_iconst (v := 1) C dX6_has_12 (by decide) ?_
      refine tw_goto (tgt := 17) C dX6_has_13 (by decide) ?_
      obtain rfl := hf2
      exact tw_zret C hK rfl rfl rfl dX6_has_17

