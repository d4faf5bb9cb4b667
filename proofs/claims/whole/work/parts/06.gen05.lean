set_option maxRecDepth 20000 in
def fX8_verdicts (σ : St) (a1 : Int32) (a2 : Int32) : Option (Int32 × St) :=
  if (fX8_isMatch σ a1) = true then
    if (fX8_isSheet a2) = true then
      grd (inb a2 4) (
      if (σ (6, (tn a2)) 1) = 0 then
        grd (inb a1 12) (
        grd (inb a2 4) (
        obi (fX3_setVerdicts σ (tn a1) (tn a2)) (fun σ1 =>
        some ((1 : Int32), σ1))))
      else
        bnd (fX8_refuse σ (1 : Int32)) (fun (x1, σ2) =>
        some (x1, σ2)))
    else
      some ((-2 : Int32), σ)
  else
    some ((-2 : Int32), σ)
set_option maxRecDepth 20000 in
set_option maxHeartbeats 4000000 in
theorem kX8_verdicts (G : Gx) (d : Nat) (hdp : 3 ≤ d) (σ : St) (a1 : Int32) (a2 : Int32)  {v0 : Int32} {σ' : St} (h : fX8_verdicts σ a1 a2 = some (v0, σ')) : MS G d yX8_verdicts cX8_verdicts 3 (some .int) [.ref (G.2.1 (8, 0)), .int a1, .int a2] σ (some (.int v0)) σ' := by
  refine MS_of (by decide) (Nat.le_of_ble_eq_true rfl) rfl (fun K hG hnL C hR hK => ?_) (by omega)
  subst hG
  show TW K 0 [(0, rv K (8, 0)), (1, .int a1), (2, .int a2)] [] σ
  unfold fX8_verdicts at h
  refine tw_aload_n (i := 0) (z := 0) (r := (8, 0)) C dX8_verdicts_0 rfl rfl ?_
  refine tw_iload_n (i := 1) (z := 1) C dX8_verdicts_1 rfl rfl ?_
  refine tw_callV (As := [.int a1]) (rest := []) (r := (8, 0)) C hR (kX8_isMatch K.1 _ (by omega) σ a1  rfl) mi_X8_isMatch is_X8_isMatch se_X8_isMatch ml_RX8_144 (wcells_mem (f := 8) (j := 0) (by decide) (by decide)) rfl rfl rfl rfl (Nat.le_of_ble_eq_true rfl) dX8_verdicts_2 ?_
  show TW K 5 [(0, rv K (8, 0)), (1, .int a1), (2, .int a2)] [.int (b2i (fX8_isMatch σ a1))] σ
  refine tw_if_eq (tgt := 15) C dX8_verdicts_5 (by decide) (fun hc1 => ?_) (fun hc1 => ?_)
  · have ht1 := ite_f (b2i_z hc1) h
    refine tw_bipush (v := (-2)) C dX8_verdicts_15 (by decide) ?_
    obtain ⟨rfl, rfl⟩ := pj2 (Option.some.inj ht1)
    exact tw_iret C hK rfl rfl dX8_verdicts_17
  · have hf1 := ite_t (b2i_nz hc1) h
    refine tw_iload_n (i := 2) (z := 2) C dX8_verdicts_8 rfl rfl ?_
    refine tw_callS (As := [.int a2]) (rest := []) C hR (kX8_isSheet K.1 _ (by omega) σ a2  rfl) mi_X8_isSheet st_X8_isSheet ml_RX8_124 rfl rfl (Nat.le_of_ble_eq_true rfl) dX8_verdicts_9 ?_
    show TW K 12 [(0, rv K (8, 0)), (1, .int a1), (2, .int a2)] [.int (b2i (fX8_isSheet a2))] σ
    refine tw_if_ne (tgt := 18) C dX8_verdicts_12 (by decide) (fun hc2 => ?_) (fun hc2 => ?_)
    · have ht2 := ite_t (b2i_nz hc2) hf1
      refine tw_aload_n (i := 0) (z := 0) (r := (8, 0)) C dX8_verdicts_18 rfl rfl ?_
      refine tw_getR (g := 26) (z := 0) (j' := 0) C fl_RX8_29 rfl (wcells_mem (f := 8) (j := 0) (by decide) (by decide)) rfl rfl dX8_verdicts_19 ?_
      refine tw_iload_n (i := 2) (z := 2) C dX8_verdicts_22 rfl rfl ?_
      obtain ⟨hb3, eh3⟩ := grd_some ht2
      refine tw_aald (g := 6) C rfl 6 "ElevenCodes$Sheet" (fun _ => rfl) (by decide) (by decide) (wcells_mem (f := 26) (j := 0) (by decide) (by decide)) hb3 dX8_verdicts_23 ?_
      refine tw_getI C fl_RX8_127 rfl (wcells_mem (f := 6) (j := (tn a2)) (by decide) (inb_lt hb3)) rfl dX8_verdicts_24 ?_
      refine tw_if_eq (tgt := 36) C dX8_verdicts_27 (by decide) (fun hc4 => ?_) (fun hc4 => ?_)
      · have ht4 := ite_t hc4 eh3
        refine tw_aload_n (i := 0) (z := 0) (r := (8, 0)) C dX8_verdicts_36 rfl rfl ?_
        refine tw_getR (g := 24) (z := 0) (j' := 0) C fl_RX8_17 rfl (wcells_mem (f := 8) (j := 0) (by decide) (by decide)) rfl rfl dX8_verdicts_37 ?_
        refine tw_iload_n (i := 1) (z := 1) C dX8_verdicts_40 rfl rfl ?_
        obtain ⟨hb5, eh5⟩ := grd_some ht4
        refine tw_aald (g := 3) C rfl 4 "ElevenCodes$Match" (fun _ => rfl) (by decide) (by decide) (wcells_mem (f := 24) (j := 0) (by decide) (by decide)) hb5 dX8_verdicts_41 ?_
        refine tw_aload_n (i := 0) (z := 0) (r := (8, 0)) C dX8_verdicts_42 rfl rfl ?_
        refine tw_getR (g := 26) (z := 0) (j' := 0) C fl_RX8_29 rfl (wcells_mem (f := 8) (j := 0) (by decide) (by decide)) rfl rfl dX8_verdicts_43 ?_
        refine tw_iload_n (i := 2) (z := 2) C dX8_verdicts_46 rfl rfl ?_
        obtain ⟨hb6, eh6⟩ := grd_some eh5
        refine tw_aald (g := 6) C rfl 6 "ElevenCodes$Sheet" (fun _ => rfl) (by decide) (by decide) (wcells_mem (f := 26) (j := 0) (by decide) (by decide)) hb6 dX8_verdicts_47 ?_
        obtain ⟨σ1, hv7, eh7⟩ := obi_some eh6
        refine tw_callV (As := [rv K (6, (tn a2))]) (rest := []) (r := (3, (tn a1))) C hR (kX3_setVerdicts K.1 _ (by omega) _ (tn a1) (tn a2) (inb_lt hb5) (inb_lt hb6) hv7) mi_X3_setVerdicts is_X3_setVerdicts se_X3_setVerdicts ml_RX8_147 (wcells_mem (f := 3) (j := (tn a1)) (by decide) (inb_lt hb5)) rfl rfl rfl rfl (Nat.le_of_ble_eq_true rfl) dX8_verdicts_48 ?_
        show TW K 51 [(0, rv K (8, 0)), (1, .int a1), (2, .int a2)] [] σ1
        refine tw_iconst (v := 1) C dX8_verdicts_51 (by decide) ?_
        obtain ⟨rfl, rfl⟩ := pj2 (Option.some.inj eh7)
        exact tw_iret C hK rfl rfl dX8_verdicts_52
      · have hf4 := ite_f hc4 eh3
        refine tw_aload_n (i := 0) (z := 0) (r := (8, 0)) C dX8_verdicts_30 rfl rfl ?_
        refine tw_iconst (v := 1) C dX8_verdicts_31 (by decide) ?_
        obtain ⟨⟨x1, σ2⟩, hv8, eh8⟩ := bnd_ex hf4
        refine tw_callV (As := [.int (1 : Int32)]) (rest := []) (r := (8, 0)) C hR (kX8_refuse K.1 _ (by omega) _ (1 : Int32)  hv8) mi_X8_refuse is_X8_refuse se_X8_refuse ml_RX8_131 (wcells_mem (f := 8) (j := 0) (by decide) (by decide)) rfl rfl rfl rfl (Nat.le_of_ble_eq_true rfl) dX8_verdicts_32 ?_
        show TW K 35 [(0, rv K (8, 0)), (1, .int a1), (2, .int a2)] [.int x1] σ2
        obtain ⟨rfl, rfl⟩ := pj2 (Option.some.inj eh8)
        exact tw_iret C hK rfl rfl dX8_verdicts_35
    · have hf2 := ite_f (b2i_z hc2) hf1
      refine tw_bipush (v := (-2)) C dX8_verdicts_15 (by decide) ?_
      obtain ⟨rfl, rfl⟩ := pj2 (Option.some.inj hf2)
      exact tw_iret C hK rfl rfl dX8_verdicts_17

set_option maxRecDepth 20000 in
def fX8_isItemSet (a0 : Int32) : Bool :=
  if a0 < 0 then
    false
  else
    if (131072 : Int32) ≤ a0 then
      false
    else
      true
set_option maxRecDepth 20000 in
set_option maxHeartbeats 4000000 in
theorem kX8_isItemSet (G : Gx) (d : Nat) (hdp : 1 ≤ d) (σ : St) (a0 : Int32)  {v0 : Bool} (h : fX8_isItemSet a0 = v0) : MS G d yX8_isItemSet cX8_isItemSet 1 (some .boolean) [.int a0] σ (some (.int (b2i v0))) σ := by
  refine MS_of (by decide) (Nat.le_of_ble_eq_true rfl) rfl (fun K hG hnL C hR hK => ?_) (by omega)
  subst hG
  show TW K 0 [(0, .int a0)] [] σ
  unfold fX8_isItemSet at h
  refine tw_iload_n (i := 0) (z := 0) C dX8_isItemSet_0 rfl rfl ?_
  refine tw_if_lt (tgt := 15) C dX8_isItemSet_1 (by decide) (fun hc1 => ?_) (fun hc1 => ?_)
  · have ht1 := ite_t hc1 h
    refine tw_iconst (v := 0) C dX8_isItemSet_15 (by decide) ?_
    obtain rfl := ht1
    exact tw_zret C hK rfl rfl rfl dX8_isItemSet_16
  · have hf1 := ite_f hc1 h
    refine tw_iload_n (i := 0) (z := 0) C dX8_isItemSet_4 rfl rfl ?_
    refine tw_ldcw C cn_RX8_349 dX8_isItemSet_5 ?_
    refine tw_ic_ge (tgt := 15) C dX8_isItemSet_8 (by decide) (fun hc2 => ?_) (fun hc2 => ?_)
    · have ht2 := ite_t hc2 hf1
      refine tw_iconst (v := 0) C dX8_isItemSet_15 (by decide) ?_
      obtain rfl := ht2
      exact tw_zret C hK rfl rfl rfl dX8_isItemSet_16
    · have hf2 := ite_f hc2 hf1
      refine tw_iconst (v := 1) C dX8_isItemSet_11 (by decide) ?_
      refine tw_goto (tgt := 16) C dX8_isItemSet_12 (by decide) ?_
      obtain rfl := hf2
      exact tw_zret C hK rfl rfl rfl dX8_isItemSet_16

set_option maxRecDepth 20000 in
def fX8_isPlayedWhat (a0 : Int32) : Bool :=
  if a0 < 0 then
    false
  else
    if (9 : Int32) ≤ a0 then
      false
    else
      true
set_option maxRecDepth 20000 in
set_option maxHeartbeats 4000000 in
theorem kX8_isPlayedWhat (G : Gx) (d : Nat) (hdp : 1 ≤ d) (σ : St) (a0 : Int32)  {v0 : Bool} (h : fX8_isPlayedWhat a0 = v0) : MS G d yX8_isPlayedWhat cX8_isPlayedWhat 1 (some .boolean) [.int a0] σ (some (.int (b2i v0))) σ := by
  refine MS_of (by decide) (Nat.le_of_ble_eq_true rfl) rfl (fun K hG hnL C hR hK => ?_) (by omega)
  subst hG
  show TW K 0 [(0, .int a0)] [] σ
  unfold fX8_isPlayedWhat at h
  refine tw_iload_n (i := 0) (z := 0) C dX8_isPlayedWhat_0 rfl rfl ?_
  refine tw_if_lt (tgt := 14) C dX8_isPlayedWhat_1 (by decide) (fun hc1 => ?_) (fun hc1 => ?_)
  · have ht1 := ite_t hc1 h
    refine tw_iconst (v := 0) C dX8_isPlayedWhat_14 (by decide) ?_
    obtain rfl := ht1
    exact tw_zret C hK rfl rfl rfl dX8_isPlayedWhat_15
  · have hf1 := ite_f hc1 h
    refine tw_iload_n (i := 0) (z := 0) C dX8_isPlayedWhat_4 rfl rfl ?_
    refine tw_bipush (v := 9) C dX8_isPlayedWhat_5 (by decide) ?_
    refine tw_ic_ge (tgt := 14) C dX8_isPlayedWhat_7 (by decide) (fun hc2 => ?_) (fun hc2 => ?_)
    · have ht2 := ite_t hc2 hf1
      refine tw_iconst (v := 0) C dX8_isPlayedWhat_14 (by decide) ?_
      obtain rfl := ht2
      exact tw_zret C hK rfl rfl rfl dX8_isPlayedWhat_15
    · have hf2 := ite_f hc2 hf1
      refine tw_iconst (v := 1) C dX8_isPlayedWhat_10 (by decide) ?_
      refine tw_goto (tgt := 15) C dX8_isPlayedWhat_11 (by decide) ?_
      obtain rfl := hf2
      exact tw_zret C hK rfl rfl rfl dX8_isPlayedWhat_15

set_option maxRecDepth 20000 in
def fX8_mix (σ : St) (r1 : Rf) (r2 : Rf) (a3 : Int32) : Option (St) :=
  lpF (fun (q1 : Int32 × St) => match q1 with
  | (x1, σ1) =>
  if (17 : Int32) ≤ x1 then
    some (.inr σ1)
  else
    obi (if ((a3 >>> (x1 &&& 31)) &&& (1 : Int32)) = (1 : Int32) then
      grd (isIA r2 && inb x1 (alen r2.1)) (
      some (σ1 r2 (tn x1)))
    else
      grd (isIA r1 && inb x1 (alen r1.1)) (
      some (σ1 r1 (tn x1)))) (fun x2 =>
    grd (inb x1 17) (bnd (su σ1 (28, 0) (tn x1) x2) (fun σ2 =>
    bnd (x1 + 1) (fun x3 =>
    some (.inl (x3, σ2))))))) ((0 : Int32), σ)
set_option maxRecDepth 20000 in
set_option maxHeartbeats 4000000 in
theorem kX8_mix (G : Gx) (d : Nat) (hdp : 1 ≤ d) (σ : St) (r1 : Rf) (r2 : Rf) (a3 : Int32)  {σ' : St} (h : fX8_mix σ r1 r2 a3 = some σ') : MS G d yX8_mix cX8_mix 5 none [.ref (G.2.1 (8, 0)), .ref (G.2.1 r1), .ref (G.2.1 r2), .int a3] σ none σ' := by
  refine MS_of (by decide) (Nat.le_of_ble_eq_true rfl) rfl (fun K hG hnL C hR hK => ?_) (by omega)
  subst hG
  show TW K 0 [(0, rv K (8, 0)), (1, rv K r1), (2, rv K r2), (3, .int a3)] [] σ
  unfold fX8_mix at h
  refine tw_iconst (v := 0) C dX8_mix_0 (by decide) ?_
  refine tw_istore (lv' := [(0, rv K (8, 0)), (1, rv K r1), (2, rv K r2), (3, .int a3), (4, .int (0 : Int32))]) C [1, 2, 3, 4, 0] dX8_mix_1 (by rw [hnL]; decide) rfl ?_
  refine lpF_ct (G := fun (q : Int32 × St) => match q with | (x1, σ1) => TW K 3 [(0, rv K (8, 0)), (1, rv K r1), (2, rv K r2), (3, .int a3), (4, .int x1)] [] σ1) ?_ h
  rintro ⟨x1, σ1⟩ w1 hx1 hk1
  show TW K 3 [(0, rv K (8, 0)), (1, rv K r1), (2, rv K r2), (3, .int a3), (4, .int x1)] [] σ1
  refine tw_iload (i := 4) (z := 4) C dX8_mix_3 rfl ?_
  refine tw_bipush (v := 17) C dX8_mix_5 (by decide) ?_
  refine tw_ic_ge (tgt := 44) C dX8_mix_7 (by decide) (fun hc2 => ?_) (fun hc2 => ?_)
  · have ht2 := ite_t hc2 hx1
    have e3 := lp_x ht2 hk1
    obtain rfl := (Option.some.inj e3)
    exact tw_vret C hK rfl rfl dX8_mix_44
  · have hf2 := ite_f hc2 hx1
    refine tw_aload_n (i := 0) (z := 0) (r := (8, 0)) C dX8_mix_10 rfl rfl ?_
    refine tw_getR (g := 28) (z := 0) (j' := 0) C fl_RX8_45 rfl (wcells_mem (f := 8) (j := 0) (by decide) (by decide)) rfl rfl dX8_mix_11 ?_
    refine tw_iload (i := 4) (z := 4) C dX8_mix_14 rfl ?_
    refine tw_iload_n (i := 3) (z := 3) C dX8_mix_16 rfl rfl ?_
    refine tw_iload (i := 4) (z := 4) C dX8_mix_17 rfl ?_
    refine tw_ishr C dX8_mix_19 ?_
    refine tw_iconst (v := 1) C dX8_mix_20 (by decide) ?_
    refine tw_iand C dX8_mix_21 ?_
    refine tw_iconst (v := 1) C dX8_mix_22 (by decide) ?_
    obtain ⟨x2, hx4, hq4⟩ := obi_some hf2
    have hJ4 : TW K 37 [(0, rv K (8, 0)), (1, rv K r1), (2, rv K r2), (3, .int a3), (4, .int x1)] [.int x2, .int x1, rv K (28, 0)] σ1 := by
      obtain ⟨hb8, eh8⟩ := grd_some hq4
      obtain ⟨σ2, es9, eg9⟩ := bnd_ex eh8
      refine tw_iast (r := (28, 0)) C (wa_of rfl (by decide) (by decide)) hb8 dX8_mix_37 ?_
      rw [es9]
      obtain ⟨x3, ex10, eh10⟩ := bnd_ex eg9
      refine tw_iinc (z := 4) (v := x3) (lv' := [(0, rv K (8, 0)), (1, rv K r1), (2, rv K r2), (3, .int a3), (4, .int x3)]) C [1, 2, 3, 4, 0] dX8_mix_38 rfl ex10 (by rw [hnL]; decide) rfl ?_
      refine tw_goto (tgt := 3) C dX8_mix_41 (by decide) ?_
      have hz := lp_c eh10 hk1
      exact hz
    refine tw_ic_ne (tgt := 33) C dX8_mix_23 (by decide) (fun hc5 => ?_) (fun hc5 => ?_)
    · have ht5 := ite_f hc5 hx4
      refine tw_aload_n (i := 1) (z := 1) (r := r1) C dX8_mix_33 rfl rfl ?_
      refine tw_iload (i := 4) (z := 4) C dX8_mix_34 rfl ?_
      obtain ⟨hb6, eh6⟩ := grd_some ht5
      refine tw_iald (r := r1) C (and_t hb6).1 (and_t hb6).2 dX8_mix_36 ?_
      obtain rfl := (Option.some.inj eh6)
      exact hJ4
    · have hf5 := ite_t hc5 hx4
      refine tw_aload_n (i := 2) (z := 2) (r := r2) C dX8_mix_26 rfl rfl ?_
      refine tw_iload (i := 4) (z := 4) C dX8_mix_27 rfl ?_
      obtain ⟨hb7, eh7⟩ := grd_some hf5
      refine tw_iald (r := r2) C (and_t hb7).1 (and_t hb7).2 dX8_mix_29 ?_
      refine tw_goto (tgt := 37) C dX8_mix_30 (by decide) ?_
      obtain rfl := (Option.some.inj eh7)
      exact hJ4

set_option maxRecDepth 20000 in
def fX8_played (σ : St) (a1 : Int32) (a2 : Int32) (a3 : Int32) (a4 : Int32) (a5 : Int32) : Option (Int32 × St) :=
  if (fX8_isMatch σ a1) = true then
    if (fX8_isCode a2) = true then
      if (fX8_isCode a3) = true then
        if (fX8_isItemSet a4) = true then
          if (fX8_isPlayedWhat a5) = true then
            grd (inb a2 11) (
            grd (inb a3 11) (
            obi (fX8_mix σ (11, (tn a2)) (11, (tn a3)) a4) (fun σ1 =>
            grd (inb a1 12) (
            obi (fX3_playUnder σ1 (tn a1) (28, 0) 0) (fun σ2 =>
            some (fX4_answer σ2 0 a5, σ2))))))
          else
            some ((-2 : Int32), σ)
        else
          some ((-2 : Int32), σ)
      else
        some ((-2 : Int32), σ)
    else
      some ((-2 : Int32), σ)
  else
    some ((-2 : Int32), σ)
set_option maxRecDepth 20000 in
set_option maxHeartbeats 4000000 in
theorem kX8_played (G : Gx) (d : Nat) (hdp : 5 ≤ d) (σ : St) (a1 : Int32) (a2 : Int32) (a3 : Int32) (a4 : Int32) (a5 : Int32)  {v0 : Int32} {σ' : St} (h : fX8_played σ a1 a2 a3 a4 a5 = some (v0, σ')) : MS G d yX8_played cX8_played 6 (some .int) [.ref (G.2.1 (8, 0)), .int a1, .int a2, .int a3, .int a4, .int a5] σ (some (.int v0)) σ' := by
  refine MS_of (by decide) (Nat.le_of_ble_eq_true rfl) rfl (fun K hG hnL C hR hK => ?_) (by omega)
  subst hG
  show TW K 0 [(0, rv K (8, 0)), (1, .int a1), (2, .int a2), (3, .int a3), (4, .int a4), (5, .int a5)] [] σ
  unfold fX8_played at h
  refine tw_aload_n (i := 0) (z := 0) (r := (8, 0)) C dX8_played_0 rfl rfl ?_
  refine tw_iload_n (i := 1) (z := 1) C dX8_played_1 rfl rfl ?_
  refine tw_callV (As := [.int a1]) (rest := []) (r := (8, 0)) C hR (kX8_isMatch K.1 _ (by omega) σ a1  rfl) mi_X8_isMatch is_X8_isMatch se_X8_isMatch ml_RX8_144 (wcells_mem (f := 8) (j := 0) (by decide) (by decide)) rfl rfl rfl rfl (Nat.le_of_ble_eq_true rfl) dX8_played_2 ?_
  show TW K 5 [(0, rv K (8, 0)), (1, .int a1), (2, .int a2), (3, .int a3), (4, .int a4), (5, .int a5)] [.int (b2i (fX8_isMatch σ a1))] σ
  refine tw_if_eq (tgt := 38) C dX8_played_5 (by decide) (fun hc1 => ?_) (fun hc1 => ?_)
  · have ht1 := ite_f (b2i_z hc1) h
    refine tw_bipush (v := (-2)) C dX8_played_38 (by decide) ?_
    obtain ⟨rfl, rfl⟩ := pj2 (Option.some.inj ht1)
    exact tw_iret C hK rfl rfl dX8_played_40
  · have hf1 := ite_t (b2i_nz hc1) h
    refine tw_iload_n (i := 2) (z := 2) C dX8_played_8 rfl rfl ?_
    refine tw_callS (As := [.int a2]) (rest := []) C hR (kX8_isCode K.1 _ (by omega) σ a2  rfl) mi_X8_isCode st_X8_isCode ml_RX8_90 rfl rfl (Nat.le_of_ble_eq_true rfl) dX8_played_9 ?_
    show TW K 12 [(0, rv K (8, 0)), (1, .int a1), (2, .int a2), (3, .int a3), (4, .int a4), (5, .int a5)] [.int (b2i (fX8_isCode a2))] σ
    refine tw_if_eq (tgt := 38) C dX8_played_12 (by decide) (fun hc2 => ?_) (fun hc2 => ?_)
    · have ht2 := ite_f (b2i_z hc2) hf1
      refine tw_bipush (v := (-2)) C dX8_played_38 (by decide) ?_
      obtain ⟨rfl, rfl⟩ := pj2 (Option.some.inj ht2)
      exact tw_iret C hK rfl rfl dX8_played_40
    · have hf2 := ite_t (b2i_nz hc2) hf1
      refine tw_iload_n (i := 3) (z := 3) C dX8_played_15 rfl rfl ?_
      refine tw_callS (As := [.int a3]) (rest := []) C hR (kX8_isCode K.1 _ (by omega) σ a3  rfl) mi_X8_isCode st_X8_isCode ml_RX8_90 rfl rfl (Nat.le_of_ble_eq_true rfl) dX8_played_16 ?_
      show TW K 19 [(0, rv K (8, 0)), (1, .int a1), (2, .int a2), (3, .int a3), (4, .int a4), (5, .int a5)] [.int (b2i (fX8_isCode a3))] σ
      refine tw_if_eq (tgt := 38) C dX8_played_19 (by decide) (fun hc3 => ?_) (fun hc3 => ?_)
      · have ht3 := ite_f (b2i_z hc3) hf2
        refine tw_bipush (v := (-2)) C dX8_played_38 (by decide) ?_
        obtain ⟨rfl, rfl⟩ := pj2 (Option.some.inj ht3)
        exact tw_iret C hK rfl rfl dX8_played_40
      · have hf3 := ite_t (b2i_nz hc3) hf2
        refine tw_iload (i := 4) (z := 4) C dX8_played_22 rfl ?_
        refine tw_callS (As := [.int a4]) (rest := []) C hR (kX8_isItemSet K.1 _ (by omega) σ a4  rfl) mi_X8_isItemSet st_X8_isItemSet ml_RX8_151 rfl rfl (Nat.le_of_ble_eq_true rfl) dX8_played_24 ?_
        show TW K 27 [(0, rv K (8, 0)), (1, .int a1), (2, .int a2), (3, .int a3), (4, .int a4), (5, .int a5)] [.int (b2i (fX8_isItemSet a4))] σ
        refine tw_if_eq (tgt := 38) C dX8_played_27 (by decide) (fun hc4 => ?_) (fun hc4 => ?_)
        · have ht4 := ite_f (b2i_z hc4) hf3
          refine tw_bipush (v := (-2)) C dX8_played_38 (by decide) ?_
          obtain ⟨rfl, rfl⟩ := pj2 (Option.some.inj ht4)
          exact tw_iret C hK rfl rfl dX8_played_40
        · have hf4 := ite_t (b2i_nz hc4) hf3
          refine tw_iload (i := 5) (z := 5) C dX8_played_30 rfl ?_
          refine tw_callS (As := [.int a5]) (rest := []) C hR (kX8_isPlayedWhat K.1 _ (by omega) σ a5  rfl) mi_X8_isPlayedWhat st_X8_isPlayedWhat ml_RX8_154 rfl rfl (Nat.le_of_ble_eq_true rfl) dX8_played_32 ?_
          show TW K 35 [(0, rv K (8, 0)), (1, .int a1), (2, .int a2), (3, .int a3), (4, .int a4), (5, .int a5)] [.int (b2i (fX8_isPlayedWhat a5))] σ
          refine tw_if_ne (tgt := 41) C dX8_played_35 (by decide) (fun hc5 => ?_) (fun hc5 => ?_)
          · have ht5 := ite_t (b2i_nz hc5) hf4
            refine tw_aload_n (i := 0) (z := 0) (r := (8, 0)) C dX8_played_41 rfl rfl ?_
            refine tw_aload_n (i := 0) (z := 0) (r := (8, 0)) C dX8_played_42 rfl rfl ?_
            refine tw_getR (g := 23) (z := 0) (j' := 0) C fl_RX8_11 rfl (wcells_mem (f := 8) (j := 0) (by decide) (by decide)) rfl rfl dX8_played_43 ?_
            refine tw_iload_n (i := 2) (z := 2) C dX8_played_46 rfl rfl ?_
            obtain ⟨hb6, eh6⟩ := grd_some ht5
            refine tw_aald (g := 1) C rfl 3 "ElevenCodes$Code" (fun _ => rfl) (by decide) (by decide) (wcells_mem (f := 23) (j := 0) (by decide) (by decide)) hb6 dX8_played_47 ?_
            refine tw_getR (g := 11) (z := 0) (j' := (tn a2)) C fl_RX8_108 rfl (wcells_mem (f := 1) (j := (tn a2)) (by decide) (inb_lt hb6)) rfl rfl dX8_played_48 ?_
            refine tw_aload_n (i := 0) (z := 0) (r := (8, 0)) C dX8_played_51 rfl rfl ?_
            refine tw_getR (g := 23) (z := 0) (j' := 0) C fl_RX8_11 rfl (wcells_mem (f := 8) (j := 0) (by decide) (by decide)) rfl rfl dX8_played_52 ?_
            refine tw_iload_n (i := 3) (z := 3) C dX8_played_55 rfl rfl ?_
            obtain ⟨hb7, eh7⟩ := grd_some eh6
            refine tw_aald (g := 1) C rfl 3 "ElevenCodes$Code" (fun _ => rfl) (by decide) (by decide) (wcells_mem (f := 23) (j := 0) (by decide) (by decide)) hb7 dX8_played_56 ?_
            refine tw_getR (g := 11) (z := 0) (j' := (tn a3)) C fl_RX8_108 rfl (wcells_mem (f := 1) (j := (tn a3)) (by decide) (inb_lt hb7)) rfl rfl dX8_played_57 ?_
            refine tw_iload (i := 4) (z := 4) C dX8_played_60 rfl ?_
            obtain ⟨σ1, hv8, eh8⟩ := obi_some eh7
            refine tw_callV (As := [rv K (11, (tn a2)), rv K (11, (tn a3)), .int a4]) (rest := []) (r := (8, 0)) C hR (kX8_mix K.1 _ (by omega) _ (11, (tn a2)) (11, (tn a3)) a4  hv8) mi_X8_mix is_X8_mix se_X8_mix ml_RX8_157 (wcells_mem (f := 8) (j := 0) (by decide) (by decide)) rfl rfl rfl rfl (Nat.le_of_ble_eq_true rfl) dX8_played_62 ?_
            show TW K 65 [(0, rv K (8, 0)), (1, .int a1), (2, .int a2), (3, .int a3), (4, .int a4), (5, .int a5)] [] σ1
            refine tw_aload_n (i := 0) (z := 0) (r := (8, 0)) C dX8_played_65 rfl rfl ?_
            refine tw_getR (g := 24) (z := 0) (j' := 0) C fl_RX8_17 rfl (wcells_mem (f := 8) (j := 0) (by decide) (by decide)) rfl rfl dX8_played_66 ?_
            refine tw_iload_n (i := 1) (z := 1) C dX8_played_69 rfl rfl ?_
            obtain ⟨hb9, eh9⟩ := grd_some eh8
            refine tw_aald (g := 3) C rfl 4 "ElevenCodes$Match" (fun _ => rfl) (by decide) (by decide) (wcells_mem (f := 24) (j := 0) (by decide) (by decide)) hb9 dX8_played_70 ?_
            refine tw_aload_n (i := 0) (z := 0) (r := (8, 0)) C dX8_played_71 rfl rfl ?_
            refine tw_getR (g := 28) (z := 0) (j' := 0) C fl_RX8_45 rfl (wcells_mem (f := 8) (j := 0) (by decide) (by decide)) rfl rfl dX8_played_72 ?_
            refine tw_aload_n (i := 0) (z := 0) (r := (8, 0)) C dX8_played_75 rfl rfl ?_
            refine tw_getR (g := 4) (z := 0) (j' := 0) C fl_RX8_51 rfl (wcells_mem (f := 8) (j := 0) (by decide) (by decide)) rfl rfl dX8_played_76 ?_
            obtain ⟨σ2, hv10, eh10⟩ := obi_some eh9
            refine tw_callV (As := [rv K (28, 0), rv K (4, 0)]) (rest := []) (r := (3, (tn a1))) C hR (kX3_playUnder K.1 _ (by omega) _ (tn a1) (28, 0) 0 (inb_lt hb9) (by decide) hv10) mi_X3_playUnder is_X3_playUnder se_X3_playUnder ml_RX8_161 (wcells_mem (f := 3) (j := (tn a1)) (by decide) (inb_lt hb9)) rfl rfl rfl rfl (Nat.le_of_ble_eq_true rfl) dX8_played_79 ?_
            show TW K 82 [(0, rv K (8, 0)), (1, .int a1), (2, .int a2), (3, .int a3), (4, .int a4), (5, .int a5)] [] σ2
            refine tw_aload_n (i := 0) (z := 0) (r := (8, 0)) C dX8_played_82 rfl rfl ?_
            refine tw_getR (g := 4) (z := 0) (j' := 0) C fl_RX8_51 rfl (wcells_mem (f := 8) (j := 0) (by decide) (by decide)) rfl rfl dX8_played_83 ?_
            refine tw_iload (i := 5) (z := 5) C dX8_played_86 rfl ?_
            refine tw_callV (As := [.int a5]) (rest := []) (r := (4, 0)) C hR (kX4_answer K.1 _ (by omega) σ2 0 a5 (by decide) rfl) mi_X4_answer is_X4_answer se_X4_answer ml_RX8_165 (wcells_mem (f := 4) (j := 0) (by decide) (by decide)) rfl rfl rfl rfl (Nat.le_of_ble_eq_true rfl) dX8_played_88 ?_
            show TW K 91 [(0, rv K (8, 0)), (1, .int a1), (2, .int a2), (3, .int a3), (4, .int a4), (5, .int a5)] [.int (fX4_answer σ2 0 a5)] σ2
            obtain ⟨rfl, rfl⟩ := pj2 (Option.some.inj eh10)
            exact tw_iret C hK rfl rfl dX8_played_91
          · have hf5 := ite_f (b2i_z hc5) hf4
            refine tw_bipush (v := (-2)) C dX8_played_38 (by decide) ?_
            obtain ⟨rfl, rfl⟩ := pj2 (Option.some.inj hf5)
            exact tw_iret C hK rfl rfl dX8_played_40

set_option maxRecDepth 20000 in
def fX8_goes (σ : St) (a1 : Int32) (a2 : Int32) (a3 : Int32) : Option (Int32 × St) :=
  if (fX8_isMatch σ a1) = true then
    if (fX8_isCode a2) = true then
      if a3 < 0 then
        some ((-2 : Int32), σ)
      else
        grd (inb a1 12) (
        if a3 < (σ (3, (tn a1)) 2) then
          grd (inb a1 12) (
          grd (inb a2 11) (
          obi (fX3_wayOf σ (tn a1) a3 (11, (tn a2)) 0) (fun (x1, σ1) =>
          some (x1, σ1))))
        else
          some ((-2 : Int32), σ))
    else
      some ((-2 : Int32), σ)
  else
    some ((-2 : Int32), σ)
set_option maxRecDepth 20000 in
set_option maxHeartbeats 4000000 in
theorem kX8_goes (G : Gx) (d : Nat) (hdp : 5 ≤ d) (σ : St) (a1 : Int32) (a2 : Int32) (a3 : Int32)  {v0 : Int32} {σ' : St} (h : fX8_goes σ a1 a2 a3 = some (v0, σ')) : MS G d yX8_goes cX8_goes 4 (some .int) [.ref (G.2.1 (8, 0)), .int a1, .int a2, .int a3] σ (some (.int v0)) σ' := by
  refine MS_of (by decide) (Nat.le_of_ble_eq_true rfl) rfl (fun K hG hnL C hR hK => ?_) (by omega)
  subst hG
  show TW K 0 [(0, rv K (8, 0)), (1, .int a1), (2, .int a2), (3, .int a3)] [] σ
  unfold fX8_goes at h
  refine tw_aload_n (i := 0) (z := 0) (r := (8, 0)) C dX8_goes_0 rfl rfl ?_
  refine tw_iload_n (i := 1) (z := 1) C dX8_goes_1 rfl rfl ?_
  refine tw_callV (As := [.int a1]) (rest := []) (r := (8, 0)) C hR (kX8_isMatch K.1 _ (by omega) σ a1  rfl) mi_X8_isMatch is_X8_isMatch se_X8_isMatch ml_RX8_144 (wcells_mem (f := 8) (j := 0) (by decide) (by decide)) rfl rfl rfl rfl (Nat.le_of_ble_eq_true rfl) dX8_goes_2 ?_
  show TW K 5 [(0, rv K (8, 0)), (1, .int a1), (2, .int a2), (3, .int a3)] [.int (b2i (fX8_isMatch σ a1))] σ
  refine tw_if_eq (tgt := 32) C dX8_goes_5 (by decide) (fun hc1 => ?_) (fun hc1 => ?_)
  · have ht1 := ite_f (b2i_z hc1) h
    refine tw_bipush (v := (-2)) C dX8_goes_32 (by decide) ?_
    obtain ⟨rfl, rfl⟩ := pj2 (Option.some.inj ht1)
    exact tw_iret C hK rfl rfl dX8_goes_34
  · have hf1 := ite_t (b2i_nz hc1) h
    refine tw_iload_n (i := 2) (z := 2) C dX8_goes_8 rfl rfl ?_
    refine tw_callS (As := [.int a2]) (rest := []) C hR (kX8_isCode K.1 _ (by omega) σ a2  rfl) mi_X8_isCode st_X8_isCode ml_RX8_90 rfl rfl (Nat.le_of_ble_eq_true rfl) dX8_goes_9 ?_
    show TW K 12 [(0, rv K (8, 0)), (1, .int a1), (2, .int a2), (3, .int a3)] [.int (b2i (fX8_isCode a2))] σ
    refine tw_if_eq (tgt := 32) C dX8_goes_12 (by decide) (fun hc2 => ?_) (fun hc2 => ?_)
    · have ht2 := ite_f (b2i_z hc2) hf1
      refine tw_bipush (v := (-2)) C dX8_goes_32 (by decide) ?_
      obtain ⟨rfl, rfl⟩ := pj2 (Option.some.inj ht2)
      exact tw_iret C hK rfl rfl dX8_goes_34
    · have hf2 := ite_t (b2i_nz hc2) hf1
      refine tw_iload_n (i := 3) (z := 3) C dX8_goes_15 rfl rfl ?_
      refine tw_if_lt (tgt := 32) C dX8_goes_16 (by decide) (fun hc3 => ?_) (fun hc3 => ?_)
      · have ht3 := ite_t hc3 hf2
        refine tw_bipush (v := (-2)) C dX8_goes_32 (by decide) ?_
        obtain ⟨rfl, rfl⟩ := pj2 (Option.some.inj ht3)
        exact tw_iret C hK rfl rfl dX8_goes_34
      · have hf3 := ite_f hc3 hf2
        refine tw_iload_n (i := 3) (z := 3) C dX8_goes_19 rfl rfl ?_
        refine tw_aload_n (i := 0) (z := 0) (r := (8, 0)) C dX8_goes_20 rfl rfl ?_
        refine tw_getR (g := 24) (z := 0) (j' := 0) C fl_RX8_17 rfl (wcells_mem (f := 8) (j := 0) (by decide) (by decide)) rfl rfl dX8_goes_21 ?_
        refine tw_iload_n (i := 1) (z := 1) C dX8_goes_24 rfl rfl ?_
        obtain ⟨hb4, eh4⟩ := grd_some hf3
        refine tw_aald (g := 3) C rfl 4 "ElevenCodes$Match" (fun _ => rfl) (by decide) (by decide) (wcells_mem (f := 24) (j := 0) (by decide) (by decide)) hb4 dX8_goes_25 ?_
        refine tw_getI C fl_RX8_168 rfl (wcells_mem (f := 3) (j := (tn a1)) (by decide) (inb_lt hb4)) rfl dX8_goes_26 ?_
        refine tw_ic_lt (tgt := 35) C dX8_goes_29 (by decide) (fun hc5 => ?_) (fun hc5 => ?_)
        · have ht5 := ite_t hc5 eh4
          refine tw_aload_n (i := 0) (z := 0) (r := (8, 0)) C dX8_goes_35 rfl rfl ?_
          refine tw_getR (g := 24) (z := 0) (j' := 0) C fl_RX8_17 rfl (wcells_mem (f := 8) (j := 0) (by decide) (by decide)) rfl rfl dX8_goes_36 ?_
          refine tw_iload_n (i := 1) (z := 1) C dX8_goes_39 rfl rfl ?_
          obtain ⟨hb6, eh6⟩ := grd_some ht5
          refine tw_aald (g := 3) C rfl 4 "ElevenCodes$Match" (fun _ => rfl) (by decide) (by decide) (wcells_mem (f := 24) (j := 0) (by decide) (by decide)) hb6 dX8_goes_40 ?_
          refine tw_iload_n (i := 3) (z := 3) C dX8_goes_41 rfl rfl ?_
          refine tw_aload_n (i := 0) (z := 0) (r := (8, 0)) C dX8_goes_42 rfl rfl ?_
          refine tw_getR (g := 23) (z := 0) (j' := 0) C fl_RX8_11 rfl (wcells_mem (f := 8) (j := 0) (by decide) (by decide)) rfl rfl dX8_goes_43 ?_
          refine tw_iload_n (i := 2) (z := 2) C dX8_goes_46 rfl rfl ?_
          obtain ⟨hb7, eh7⟩ := grd_some eh6
          refine tw_aald (g := 1) C rfl 3 "ElevenCodes$Code" (fun _ => rfl) (by decide) (by decide) (wcells_mem (f := 23) (j := 0) (by decide) (by decide)) hb7 dX8_goes_47 ?_
          refine tw_getR (g := 11) (z := 0) (j' := (tn a2)) C fl_RX8_108 rfl (wcells_mem (f := 1) (j := (tn a2)) (by decide) (inb_lt hb7)) rfl rfl dX8_goes_48 ?_
          refine tw_aload_n (i := 0) (z := 0) (r := (8, 0)) C dX8_goes_51 rfl rfl ?_
          refine tw_getR (g := 4) (z := 0) (j' := 0) C fl_RX8_51 rfl (wcells_mem (f := 8) (j := 0) (by decide) (by decide)) rfl rfl dX8_goes_52 ?_
          obtain ⟨⟨x1, σ1⟩, hv8, eh8⟩ := obi_some eh7
          refine tw_callV (As := [.int a3, rv K (11, (tn a2)), rv K (4, 0)]) (rest := []) (r := (3, (tn a1))) C hR (kX3_wayOf K.1 _ (by omega) _ (tn a1) a3 (11, (tn a2)) 0 (inb_lt hb6) (by decide) hv8) mi_X3_wayOf is_X3_wayOf se_X3_wayOf ml_RX8_169 (wcells_mem (f := 3) (j := (tn a1)) (by decide) (inb_lt hb6)) rfl rfl rfl rfl (Nat.le_of_ble_eq_true rfl) dX8_goes_55 ?_
          show TW K 58 [(0, rv K (8, 0)), (1, .int a1), (2, .int a2), (3, .int a3)] [.int x1] σ1
          obtain ⟨rfl, rfl⟩ := pj2 (Option.some.inj eh8)
          exact tw_iret C hK rfl rfl dX8_goes_58
        · have hf5 := ite_f hc5 eh4
          refine tw_bipush (v := (-2)) C dX8_goes_32 (by decide) ?_
          obtain ⟨rfl, rfl⟩ := pj2 (Option.some.inj hf5)
          exact tw_iret C hK rfl rfl dX8_goes_34

set_option maxRecDepth 20000 in
def fX8_turned (σ : St) (a1 : Int32) (a2 : Int32) : Option (Int32 × St) :=
  if (fX8_isCode a1) = true then
    if (fX8_isCode a2) = true then
      lpF (fun (q3 : Int32 × Int32 × St) => match q3 with
      | (x1, x2, σ1) =>
      if (σ1 (8, 0) 10) ≤ x2 then
        some (.inr ((x1, σ1)))
      else
        grd (inb x2 12) (
        grd (inb a1 11) (
        obi (fX3_playUnder σ1 (tn x2) (11, (tn a1)) 0) (fun σ2 =>
        bnd (fX4_winner σ2 0) (fun x3 =>
        grd (inb x2 12) (
        grd (inb a2 11) (
        obi (fX3_playUnder σ2 (tn x2) (11, (tn a2)) 0) (fun σ3 =>
        bnd (if (fX4_winner σ3 0) = x3 then
          x1
        else
          bnd (x1 + 1) (fun x5 =>
          x5)) (fun x4 =>
        bnd (x2 + 1) (fun x6 =>
        some (.inl (x4, x6, σ3)))))))))))) ((0 : Int32), (0 : Int32), σ)
    else
      some ((-2 : Int32), σ)
  else
    some ((-2 : Int32), σ)
set_option maxRecDepth 20000 in
set_option maxHeartbeats 4000000 in
theorem kX8_turned (G : Gx) (d : Nat) (hdp : 5 ≤ d) (σ : St) (a1 : Int32) (a2 : Int32)  {v0 : Int32} {σ' : St} (h : fX8_turned σ a1 a2 = some (v0, σ')) : MS G d yX8_turned cX8_turned 6 (some .int) [.ref (G.2.1 (8, 0)), .int a1, .int a2] σ (some (.int v0)) σ' := by
  refine MS_of (by decide) (Nat.le_of_ble_eq_true rfl) rfl (fun K hG hnL C hR hK => ?_) (by omega)
  subst hG
  show TW K 0 [(0, rv K (8, 0)), (1, .int a1), (2, .int a2)] [] σ
  unfold fX8_turned at h
  refine tw_iload_n (i := 1) (z := 1) C dX8_turned_0 rfl rfl ?_
  refine tw_callS (As := [.int a1]) (rest := []) C hR (kX8_isCode K.1 _ (by omega) σ a1  rfl) mi_X8_isCode st_X8_isCode ml_RX8_90 rfl rfl (Nat.le_of_ble_eq_true rfl) dX8_turned_1 ?_
  show TW K 4 [(0, rv K (8, 0)), (1, .int a1), (2, .int a2)] [.int (b2i (fX8_isCode a1))] σ
  refine tw_if_eq (tgt := 14) C dX8_turned_4 (by decide) (fun hc1 => ?_) (fun hc1 => ?_)
  · have ht1 := ite_f (b2i_z hc1) h
    refine tw_bipush (v := (-2)) C dX8_turned_14 (by decide) ?_
    obtain ⟨rfl, rfl⟩ := pj2 (Option.some.inj ht1)
    exact tw_iret C hK rfl rfl dX8_turned_16
  · have hf1 := ite_t (b2i_nz hc1) h
    refine tw_iload_n (i := 2) (z := 2) C dX8_turned_7 rfl rfl ?_
    refine tw_callS (As := [.int a2]) (rest := []) C hR (kX8_isCode K.1 _ (by omega) σ a2  rfl) mi_X8_isCode st_X8_isCode ml_RX8_90 rfl rfl (Nat.le_of_ble_eq_true rfl) dX8_turned_8 ?_
    show TW K 11 [(0, rv K (8, 0)), (1, .int a1), (2, .int a2)] [.int (b2i (fX8_isCode a2))] σ
    refine tw_if_ne (tgt := 17) C dX8_turned_11 (by decide) (fun hc2 => ?_) (fun hc2 => ?_)
    · have ht2 := ite_t (b2i_nz hc2) hf1
      refine tw_iconst (v := 0) C dX8_turned_17 (by decide) ?_
      refine tw_istore_n (lv' := [(0, rv K (8, 0)), (1, .int a1), (2, .int a2), (3, .int (0 : Int32))]) C [1, 2, 3, 0] dX8_turned_18 rfl (by rw [hnL]; decide) rfl ?_
      refine tw_iconst (v := 0) C dX8_turned_19 (by decide) ?_
      refine tw_istore (lv' := [(0, rv K (8, 0)), (1, .int a1), (2, .int a2), (3, .int (0 : Int32)), (4, .int (0 : Int32))]) C [1, 2, 3, 4, 0] dX8_turned_20 (by rw [hnL]; decide) rfl ?_
      refine lpF_ct (G := fun (q : Int32 × Int32 × St) => match q with | (x1, x2, σ1) => TW K 22 [(0, rv K (8, 0)), (1, .int a1), (2, .int a2), (3, .int x1), (4, .int x2)] [] σ1) ?_ ht2
      rintro ⟨x1, x2, σ1⟩ w3 hx3 hk3
      show TW K 22 [(0, rv K (8, 0)), (1, .int a1), (2, .int a2), (3, .int x1), (4, .int x2)] [] σ1
      refine tw_iload (i := 4) (z := 4) C dX8_turned_22 rfl ?_
      refine tw_aload_n (i := 0) (z := 0) (r := (8, 0)) C dX8_turned_24 rfl rfl ?_
      refine tw_getI C fl_RX8_137 rfl (wcells_mem (f := 8) (j := 0) (by decide) (by decide)) rfl dX8_turned_25 ?_
      refine tw_ic_ge (tgt := 107) C dX8_turned_28 (by decide) (fun hc4 => ?_) (fun hc4 => ?_)
      · have ht4 := ite_t hc4 hx3
        refine tw_iload_n (i := 3) (z := 3) C dX8_turned_107 rfl rfl ?_
        have e5 := lp_x ht4 hk3
        obtain ⟨rfl, rfl⟩ := pj2 (Option.some.inj e5)
        exact tw_iret C hK rfl rfl dX8_turned_108
      · have hf4 := ite_f hc4 hx3
        refine tw_aload_n (i := 0) (z := 0) (r := (8, 0)) C dX8_turned_31 rfl rfl ?_
        refine tw_getR (g := 24) (z := 0) (j' := 0) C fl_RX8_17 rfl (wcells_mem (f := 8) (j := 0) (by decide) (by decide)) rfl rfl dX8_turned_32 ?_
        refine tw_iload (i := 4) (z := 4) C dX8_turned_35 rfl ?_
        obtain ⟨hb6, eh6⟩ := grd_some hf4
        refine tw_aald (g := 3) C rfl 4 "ElevenCodes$Match" (fun _ => rfl) (by decide) (by decide) (wcells_mem (f := 24) (j := 0) (by decide) (by decide)) hb6 dX8_turned_37 ?_
        refine tw_aload_n (i := 0) (z := 0) (r := (8, 0)) C dX8_turned_38 rfl rfl ?_
        refine tw_getR (g := 23) (z := 0) (j' := 0) C fl_RX8_11 rfl (wcells_mem (f := 8) (j := 0) (by decide) (by decide)) rfl rfl dX8_turned_39 ?_
        refine tw_iload_n (i := 1) (z := 1) C dX8_turned_42 rfl rfl ?_
        obtain ⟨hb7, eh7⟩ := grd_some eh6
        refine tw_aald (g := 1) C rfl 3 "ElevenCodes$Code" (fun _ => rfl) (by decide) (by decide) (wcells_mem (f := 23) (j := 0) (by decide) (by decide)) hb7 dX8_turned_43 ?_
        refine tw_getR (g := 11) (z := 0) (j' := (tn a1)) C fl_RX8_108 rfl (wcells_mem (f := 1) (j := (tn a1)) (by decide) (inb_lt hb7)) rfl rfl dX8_turned_44 ?_
        refine tw_aload_n (i := 0) (z := 0) (r := (8, 0)) C dX8_turned_47 rfl rfl ?_
        refine tw_getR (g := 4) (z := 0) (j' := 0) C fl_RX8_51 rfl (wcells_mem (f := 8) (j := 0) (by decide) (by decide)) rfl rfl dX8_turned_48 ?_
        obtain ⟨σ2, hv8, eh8⟩ := obi_some eh7
        refine tw_callV (As := [rv K (11, (tn a1)), rv K (4, 0)]) (rest := []) (r := (3, (tn x2))) C hR (kX3_playUnder K.1 _ (by omega) _ (tn x2) (11, (tn a1)) 0 (inb_lt hb6) (by decide) hv8) mi_X3_playUnder is_X3_playUnder se_X3_playUnder ml_RX8_161 (wcells_mem (f := 3) (j := (tn x2)) (by decide) (inb_lt hb6)) rfl rfl rfl rfl (Nat.le_of_ble_eq_true rfl) dX8_turned_51 ?_
        show TW K 54 [(0, rv K (8, 0)), (1, .int a1), (2, .int a2), (3, .int x1), (4, .int x2)] [] σ2
        refine tw_aload_n (i := 0) (z := 0) (r := (8, 0)) C dX8_turned_54 rfl rfl ?_
        refine tw_getR (g := 4) (z := 0) (j' := 0) C fl_RX8_51 rfl (wcells_mem (f := 8) (j := 0) (by decide) (by decide)) rfl rfl dX8_turned_55 ?_
        refine tw_callV (As := []) (rest := []) (r := (4, 0)) C hR (kX4_winner K.1 _ (by omega) σ2 0 (by decide) rfl) mi_X4_winner is_X4_winner se_X4_winner ml_RX8_173 (wcells_mem (f := 4) (j := 0) (by decide) (by decide)) rfl rfl rfl rfl (Nat.le_of_ble_eq_true rfl) dX8_turned_58 ?_
        show TW K 61 [(0, rv K (8, 0)), (1, .int a1), (2, .int a2), (3, .int x1), (4, .int x2)] [.int (fX4_winner σ2 0)] σ2
        obtain ⟨x3, ex9, eh9⟩ := bnd_ex eh8
        refine tw_topi ex9.symm ?_
        refine tw_istore (lv' := [(0, rv K (8, 0)), (1, .int a1), (2, .int a2), (3, .int x1), (4, .int x2), (5, .int x3)]) C [1, 2, 3, 4, 5, 0] dX8_turned_61 (by rw [hnL]; decide) rfl ?_
        refine tw_aload_n (i := 0) (z := 0) (r := (8, 0)) C dX8_turned_63 rfl rfl ?_
        refine tw_getR (g := 24) (z := 0) (j' := 0) C fl_RX8_17 rfl (wcells_mem (f := 8) (j := 0) (by decide) (by decide)) rfl rfl dX8_turned_64 ?_
        refine tw_iload (i := 4) (z := 4) C dX8_turned_67 rfl ?_
        obtain ⟨hb10, eh10⟩ := grd_some eh9
        refine tw_aald (g := 3) C rfl 4 "ElevenCodes$Match" (fun _ => rfl) (by decide) (by decide) (wcells_mem (f := 24) (j := 0) (by decide) (by decide)) hb10 dX8_turned_69 ?_
        refine tw_aload_n (i := 0) (z := 0) (r := (8, 0)) C dX8_turned_70 rfl rfl ?_
        refine tw_getR (g := 23) (z := 0) (j' := 0) C fl_RX8_11 rfl (wcells_mem (f := 8) (j := 0) (by decide) (by decide)) rfl rfl dX8_turned_71 ?_
        refine tw_iload_n (i := 2) (z := 2) C dX8_turned_74 rfl rfl ?_
        obtain ⟨hb11, eh11⟩ := grd_some eh10
        refine tw_aald (g := 1) C rfl 3 "ElevenCodes$Code" (fun _ => rfl) (by decide) (by decide) (wcells_mem (f := 23) (j := 0) (by decide) (by decide)) hb11 dX8_turned_75 ?_
        refine tw_getR (g := 11) (z := 0) (j' := (tn a2)) C fl_RX8_108 rfl (wcells_mem (f := 1) (j := (tn a2)) (by decide) (inb_lt hb11)) rfl rfl dX8_turned_76 ?_
        refine tw_aload_n (i := 0) (z := 0) (r := (8, 0)) C dX8_turned_79 rfl rfl ?_
        refine tw_getR (g := 4) (z := 0) (j' := 0) C fl_RX8_51 rfl (wcells_mem (f := 8) (j := 0) (by decide) (by decide)) rfl rfl dX8_turned_80 ?_
        obtain ⟨σ3, hv12, eh12⟩ := obi_some eh11
        refine tw_callV (As := [rv K (11, (tn a2)), rv K (4, 0)]) (rest := []) (r := (3, (tn x2))) C hR (kX3_playUnder K.1 _ (by omega) _ (tn x2) (11, (tn a2)) 0 (inb_lt hb10) (by decide) hv12) mi_X3_playUnder is_X3_playUnder se_X3_playUnder ml_RX8_161 (wcells_mem (f := 3) (j := (tn x2)) (by decide) (inb_lt hb10)) rfl rfl rfl rfl (Nat.le_of_ble_eq_true rfl) dX8_turned_83 ?_
        show TW K 86 [(0, rv K (8, 0)), (1, .int a1), (2, .int a2), (3, .int x1), (4, .int x2), (5, .int x3)] [] σ3
        refine tw_aload_n (i := 0) (z := 0) (r := (8, 0)) C dX8_turned_86 rfl rfl ?_
        refine tw_getR (g := 4) (z := 0) (j' := 0) C fl_RX8_51 rfl (wcells_mem (f := 8) (j := 0) (by decide) (by decide)) rfl rfl dX8_turned_87 ?_
        refine tw_callV (As := []) (rest := []) (r := (4, 0)) C hR (kX4_winner K.1 _ (by omega) σ3 0 (by decide) rfl) mi_X4_winner is_X4_winner se_X4_winner ml_RX8_173 (wcells_mem (f := 4) (j := 0) (by decide) (by decide)) rfl rfl rfl rfl (Nat.le_of_ble_eq_true rfl) dX8_turned_90 ?_
        show TW K 93 [(0, rv K (8, 0)), (1, .int a1), (2, .int a2), (3, .int x1), (4, .int x2), (5, .int x3)] [.int (fX4_winner σ3 0)] σ3
        refine tw_iload (i := 5) (z := 5) C dX8_turned_93 rfl ?_
        obtain ⟨x4, hx13, hq13⟩ := bnd_ex eh12
        have hJ13 : TW K 101 [(0, rv K (8, 0)), (1, .int a1), (2, .int a2), (3, .int x4), (4, .int x2)] [] σ3 := by
          obtain ⟨x6, ex16, eh16⟩ := bnd_ex hq13
          refine tw_iinc (z := 4) (v := x6) (lv' := [(0, rv K (8, 0)), (1, .int a1), (2, .int a2), (3, .int x4), (4, .int x6)]) C [1, 2, 3, 4, 0] dX8_turned_101 rfl ex16 (by rw [hnL]; decide) rfl ?_
          refine tw_goto (tgt := 22) C dX8_turned_104 (by decide) ?_
          have hz := lp_c eh16 hk3
          exact hz
        refine tw_ic_eq (tgt := 101) C dX8_turned_95 (by decide) (fun hc14 => ?_) (fun hc14 => ?_)
        · have ht14 := ite_t hc14 hx13
          refine tw_sub [0, 1, 2, 3, 4] rfl ?_
          obtain rfl := ht14
          exact hJ13
        · have hf14 := ite_f hc14 hx13
          obtain ⟨x5, ex15, eh15⟩ := bnd_ex hf14
          refine tw_iinc (z := 3) (v := x5) (lv' := [(0, rv K (8, 0)), (1, .int a1), (2, .int a2), (3, .int x5), (4, .int x2), (5, .int x3)]) C [1, 2, 3, 0, 4, 5] dX8_turned_98 rfl ex15 (by rw [hnL]; decide) rfl ?_
          refine tw_sub [0, 1, 2, 3, 4] rfl ?_
          obtain rfl := eh15
          exact hJ13
    · have hf2 := ite_f (b2i_z hc2) hf1
      refine tw_bipush (v := (-2)) C dX8_turned_14 (by decide) ?_
      obtain ⟨rfl, rfl⟩ := pj2 (Option.some.inj hf2)
      exact tw_iret C hK rfl rfl dX8_turned_16

set_option maxRecDepth 20000 in
def fX8_found (σ : St) (a1 : Int32) (a2 : Int32) : Option (Int32 × St) :=
  if (fX8_isAct a1) = true then
    if (fX8_isCell a2) = true then
      lpF (fun (q3 : Int32 × Int32 × St) => match q3 with
      | (x1, x2, σ1) =>
      if (σ1 (8, 0) 10) ≤ x2 then
        some (.inr ((x1, σ1)))
      else
        grd (inb x2 12) (
        obi (fX3_customOf σ1 (tn x2) a1 a2 0) (fun (x3, σ2) =>
        bnd (x1 ||| x3) (fun x4 =>
        bnd (x2 + 1) (fun x5 =>
        some (.inl (x4, x5, σ2))))))) ((0 : Int32), (0 : Int32), σ)
    else
      some ((-2 : Int32), σ)
  else
    some ((-2 : Int32), σ)
set_option maxRecDepth 20000 in
set_option maxHeartbeats 4000000 in
theorem kX8_found (G : Gx) (d : Nat) (hdp : 4 ≤ d) (σ : St) (a1 : Int32) (a2 : Int32)  {v0 : Int32} {σ' : St} (h : fX8_found σ a1 a2 = some (v0, σ')) : MS G d yX8_found cX8_found 5 (some .int) [.ref (G.2.1 (8, 0)), .int a1, .int a2] σ (some (.int v0)) σ' := by
  refine MS_of (by decide) (Nat.le_of_ble_eq_true rfl) rfl (fun K hG hnL C hR hK => ?_) (by omega)
  subst hG
  show TW K 0 [(0, rv K (8, 0)), (1, .int a1), (2, .int a2)] [] σ
  unfold fX8_found at h
  refine tw_iload_n (i := 1) (z := 1) C dX8_found_0 rfl rfl ?_
  refine tw_callS (As := [.int a1]) (rest := []) C hR (kX8_isAct K.1 _ (by omega) σ a1  rfl) mi_X8_isAct st_X8_isAct ml_RX8_111 rfl rfl (Nat.le_of_ble_eq_true rfl) dX8_found_1 ?_
  show TW K 4 [(0, rv K (8, 0)), (1, .int a1), (2, .int a2)] [.int (b2i (fX8_isAct a1))] σ
  refine tw_if_eq (tgt := 14) C dX8_found_4 (by decide) (fun hc1 => ?_) (fun hc1 => ?_)
  · have ht1 := ite_f (b2i_z hc1) h
    refine tw_bipush (v := (-2)) C dX8_found_14 (by decide) ?_
    obtain ⟨rfl, rfl⟩ := pj2 (Option.some.inj ht1)
    exact tw_iret C hK rfl rfl dX8_found_16
  · have hf1 := ite_t (b2i_nz hc1) h
    refine tw_iload_n (i := 2) (z := 2) C dX8_found_7 rfl rfl ?_
    refine tw_callS (As := [.int a2]) (rest := []) C hR (kX8_isCell K.1 _ (by omega) σ a2  rfl) mi_X8_isCell st_X8_isCell ml_RX8_114 rfl rfl (Nat.le_of_ble_eq_true rfl) dX8_found_8 ?_
    show TW K 11 [(0, rv K (8, 0)), (1, .int a1), (2, .int a2)] [.int (b2i (fX8_isCell a2))] σ
    refine tw_if_ne (tgt := 17) C dX8_found_11 (by decide) (fun hc2 => ?_) (fun hc2 => ?_)
    · have ht2 := ite_t (b2i_nz hc2) hf1
      refine tw_iconst (v := 0) C dX8_found_17 (by decide) ?_
      refine tw_istore_n (lv' := [(0, rv K (8, 0)), (1, .int a1), (2, .int a2), (3, .int (0 : Int32))]) C [1, 2, 3, 0] dX8_found_18 rfl (by rw [hnL]; decide) rfl ?_
      refine tw_iconst (v := 0) C dX8_found_19 (by decide) ?_
      refine tw_istore (lv' := [(0, rv K (8, 0)), (1, .int a1), (2, .int a2), (3, .int (0 : Int32)), (4, .int (0 : Int32))]) C [1, 2, 3, 4, 0] dX8_found_20 (by rw [hnL]; decide) rfl ?_
      refine lpF_ct (G := fun (q : Int32 × Int32 × St) => match q with | (x1, x2, σ1) => TW K 22 [(0, rv K (8, 0)), (1, .int a1), (2, .int a2), (3, .int x1), (4, .int x2)] [] σ1) ?_ ht2
      rintro ⟨x1, x2, σ1⟩ w3 hx3 hk3
      show TW K 22 [(0, rv K (8, 0)), (1, .int a1), (2, .int a2), (3, .int x1), (4, .int x2)] [] σ1
      refine tw_iload (i := 4) (z := 4) C dX8_found_22 rfl ?_
      refine tw_aload_n (i := 0) (z := 0) (r := (8, 0)) C dX8_found_24 rfl rfl ?_
      refine tw_getI C fl_RX8_137 rfl (wcells_mem (f := 8) (j := 0) (by decide) (by decide)) rfl dX8_found_25 ?_
      refine tw_ic_ge (tgt := 56) C dX8_found_28 (by decide) (fun hc4 => ?_) (fun hc4 => ?_)
      · have ht4 := ite_t hc4 hx3
        refine tw_iload_n (i := 3) (z := 3) C dX8_found_56 rfl rfl ?_
        have e5 := lp_x ht4 hk3
        obtain ⟨rfl, rfl⟩ := pj2 (Option.some.inj e5)
        exact tw_iret C hK rfl rfl dX8_found_57
      · have hf4 := ite_f hc4 hx3
        refine tw_iload_n (i := 3) (z := 3) C dX8_found_31 rfl rfl ?_
        refine tw_aload_n (i := 0) (z := 0) (r := (8, 0)) C dX8_found_32 rfl rfl ?_
        refine tw_getR (g := 24) (z := 0) (j' := 0) C fl_RX8_17 rfl (wcells_mem (f := 8) (j := 0) (by decide) (by decide)) rfl rfl dX8_found_33 ?_
        refine tw_iload (i := 4) (z := 4) C dX8_found_36 rfl ?_
        obtain ⟨hb6, eh6⟩ := grd_some hf4
        refine tw_aald (g := 3) C rfl 4 "ElevenCodes$Match" (fun _ => rfl) (by decide) (by decide) (wcells_mem (f := 24) (j := 0) (by decide) (by decide)) hb6 dX8_found_38 ?_
        refine tw_iload_n (i := 1) (z := 1) C dX8_found_39 rfl rfl ?_
        refine tw_iload_n (i := 2) (z := 2) C dX8_found_40 rfl rfl ?_
        refine tw_aload_n (i := 0) (z := 0) (r := (8, 0)) C dX8_found_41 rfl rfl ?_
        refine tw_getR (g := 4) (z := 0) (j' := 0) C fl_RX8_51 rfl (wcells_mem (f := 8) (j := 0) (by decide) (by decide)) rfl rfl dX8_found_42 ?_
        obtain ⟨⟨x3, σ2⟩, hv7, eh7⟩ := obi_some eh6
        refine tw_callV (As := [.int a1, .int a2, rv K (4, 0)]) (rest := [.int x1]) (r := (3, (tn x2))) C hR (kX3_customOf K.1 _ (by omega) _ (tn x2) a1 a2 0 (inb_lt hb6) (by decide) hv7) mi_X3_customOf is_X3_customOf se_X3_customOf ml_RX8_176 (wcells_mem (f := 3) (j := (tn x2)) (by decide) (inb_lt hb6)) rfl rfl rfl rfl (Nat.le_of_ble_eq_true rfl) dX8_found_45 ?_
        show TW K 48 [(0, rv K (8, 0)), (1, .int a1), (2, .int a2), (3, .int x1), (4, .int x2)] [.int x3, .int x1] σ2
        refine tw_ior C dX8_found_48 ?_
        obtain ⟨x4, ex8, eh8⟩ := bnd_ex eh7
        refine tw_topi ex8.symm ?_
        refine tw_istore_n (lv' := [(0, rv K (8, 0)), (1, .int a1), (2, .int a2), (3, .int x4), (4, .int x2)]) C [1, 2, 3, 0, 4] dX8_found_49 rfl (by rw [hnL]; decide) rfl ?_
        obtain ⟨x5, ex9, eh9⟩ := bnd_ex eh8
        refine tw_iinc (z := 4) (v := x5) (lv' := [(0, rv K (8, 0)), (1, .int a1), (2, .int a2), (3, .int x4), (4, .int x5)]) C [1, 2, 3, 4, 0] dX8_found_50 rfl ex9 (by rw [hnL]; decide) rfl ?_
        refine tw_goto (tgt := 22) C dX8_found_53 (by decide) ?_
        have hz := lp_c eh9 hk3
        exact hz
    · have hf2 := ite_f (b2i_z hc2) hf1
      refine tw_bipush (v := (-2)) C dX8_found_14 (by decide) ?_
      obtain ⟨rfl, rfl⟩ := pj2 (Option.some.inj hf2)
      exact tw_iret C hK rfl rfl dX8_found_16

set_option maxRecDepth 20000 in
def fX8_fits (σ : St) (a1 : Int32) (a2 : Int32) : Option (Int32 × St) :=
  if (fX8_isCode a1) = true then
    if (fX8_isMatch σ a2) = true then
      grd (inb a2 12) (
      if (σ (3, (tn a2)) 3) = 0 then
        some ((-3 : Int32), σ)
      else
        grd (inb a2 12) (
        grd (inb a1 11) (
        obi (fX3_agreesWith σ (tn a2) (11, (tn a1)) 0) (fun (x1, σ1) =>
        if x1 = true then
          some ((1 : Int32), σ1)
        else
          some ((0 : Int32), σ1)))))
    else
      some ((-2 : Int32), σ)
  else
    some ((-2 : Int32), σ)
set_option maxRecDepth 20000 in
set_option maxHeartbeats 4000000 in
theorem kX8_fits (G : Gx) (d : Nat) (hdp : 5 ≤ d) (σ : St) (a1 : Int32) (a2 : Int32)  {v0 : Int32} {σ' : St} (h : fX8_fits σ a1 a2 = some (v0, σ')) : MS G d yX8_fits cX8_fits 3 (some .int) [.ref (G.2.1 (8, 0)), .int a1, .int a2] σ (some (.int v0)) σ' := by
  refine MS_of (by decide) (Nat.le_of_ble_eq_true rfl) rfl (fun K hG hnL C hR hK => ?_) (by omega)
  subst hG
  show TW K 0 [(0, rv K (8, 0)), (1, .int a1), (2, .int a2)] [] σ
  unfold fX8_fits at h
  refine tw_iload_n (i := 1) (z := 1) C dX8_fits_0 rfl rfl ?_
  refine tw_callS (As := [.int a1]) (rest := []) C hR (kX8_isCode K.1 _ (by omega) σ a1  rfl) mi_X8_isCode st_X8_isCode ml_RX8_90 rfl rfl (Nat.le_of_ble_eq_true rfl) dX8_fits_1 ?_
  show TW K 4 [(0, rv K (8, 0)), (1, .int a1), (2, .int a2)] [.int (b2i (fX8_isCode a1))] σ
  refine tw_if_eq (tgt := 15) C dX8_fits_4 (by decide) (fun hc1 => ?_) (fun hc1 => ?_)
  · have ht1 := ite_f (b2i_z hc1) h
    refine tw_bipush (v := (-2)) C dX8_fits_15 (by decide) ?_
    obtain ⟨rfl, rfl⟩ := pj2 (Option.some.inj ht1)
    exact tw_iret C hK rfl rfl dX8_fits_17
  · have hf1 := ite_t (b2i_nz hc1) h
    refine tw_aload_n (i := 0) (z := 0) (r := (8, 0)) C dX8_fits_7 rfl rfl ?_
    refine tw_iload_n (i := 2) (z := 2) C dX8_fits_8 rfl rfl ?_
    refine tw_callV (As := [.int a2]) (rest := []) (r := (8, 0)) C hR (kX8_isMatch K.1 _ (by omega) σ a2  rfl) mi_X8_isMatch is_X8_isMatch se_X8_isMatch ml_RX8_144 (wcells_mem (f := 8) (j := 0) (by decide) (by decide)) rfl rfl rfl rfl (Nat.le_of_ble_eq_true rfl) dX8_fits_9 ?_
    show TW K 12 [(0, rv K (8, 0)), (1, .int a1), (2, .int a2)] [.int (b2i (fX8_isMatch σ a2))] σ
    refine tw_if_ne (tgt := 18) C dX8_fits_12 (by decide) (fun hc2 => ?_) (fun hc2 => ?_)
    · have ht2 := ite_t (b2i_nz hc2) hf1
      refine tw_aload_n (i := 0) (z := 0) (r := (8, 0)) C dX8_fits_18 rfl rfl ?_
      refine tw_getR (g := 24) (z := 0) (j' := 0) C fl_RX8_17 rfl (wcells_mem (f := 8) (j := 0) (by decide) (by decide)) rfl rfl dX8_fits_19 ?_
      refine tw_iload_n (i := 2) (z := 2) C dX8_fits_22 rfl rfl ?_
      obtain ⟨hb3, eh3⟩ := grd_some ht2
      refine tw_aald (g := 3) C rfl 4 "ElevenCodes$Match" (fun _ => rfl) (by decide) (by decide) (wcells_mem (f := 24) (j := 0) (by decide) (by decide)) hb3 dX8_fits_23 ?_
      refine tw_getI C fl_RX8_180 rfl (wcells_mem (f := 3) (j := (tn a2)) (by decide) (inb_lt hb3)) rfl dX8_fits_24 ?_
      refine tw_if_ne (tgt := 33) C dX8_fits_27 (by decide) (fun hc4 => ?_) (fun hc4 => ?_)
      · have ht4 := ite_f hc4 eh3
        refine tw_aload_n (i := 0) (z := 0) (r := (8, 0)) C dX8_fits_33 rfl rfl ?_
        refine tw_getR (g := 24) (z := 0) (j' := 0) C fl_RX8_17 rfl (wcells_mem (f := 8) (j := 0) (by decide) (by decide)) rfl rfl dX8_fits_34 ?_
        refine tw_iload_n (i := 2) (z := 2) C dX8_fits_37 rfl rfl ?_
        obtain ⟨hb5, eh5⟩ := grd_some ht4
        refine tw_aald (g := 3) C rfl 4 "ElevenCodes$Match" (fun _ => rfl) (by decide) (by decide) (wcells_mem (f := 24) (j := 0) (by decide) (by decide)) hb5 dX8_fits_38 ?_
        refine tw_aload_n (i := 0) (z := 0) (r := (8, 0)) C dX8_fits_39 rfl rfl ?_
        refine tw_getR (g := 23) (z := 0) (j' := 0) C fl_RX8_11 rfl (wcells_mem (f := 8) (j := 0) (by decide) (by decide)) rfl rfl dX8_fits_40 ?_
        refine tw_iload_n (i := 1) (z := 1) C dX8_fits_43 rfl rfl ?_
        obtain ⟨hb6, eh6⟩ := grd_some eh5
        refine tw_aald (g := 1) C rfl 3 "ElevenCodes$Code" (fun _ => rfl) (by decide) (by decide) (wcells_mem (f := 23) (j := 0) (by decide) (by decide)) hb6 dX8_fits_44 ?_
        refine tw_getR (g := 11) (z := 0) (j' := (tn a1)) C fl_RX8_108 rfl (wcells_mem (f := 1) (j := (tn a1)) (by decide) (inb_lt hb6)) rfl rfl dX8_fits_45 ?_
        refine tw_aload_n (i := 0) (z := 0) (r := (8, 0)) C dX8_fits_48 rfl rfl ?_
        refine tw_getR (g := 4) (z := 0) (j' := 0) C fl_RX8_51 rfl (wcells_mem (f := 8) (j := 0) (by decide) (by decide)) rfl rfl dX8_fits_49 ?_
        obtain ⟨⟨x1, σ1⟩, hv7, eh7⟩ := obi_some eh6
        refine tw_callV (As := [rv K (11, (tn a1)), rv K (4, 0)]) (rest := []) (r := (3, (tn a2))) C hR (kX3_agreesWith K.1 _ (by omega) _ (tn a2) (11, (tn a1)) 0 (inb_lt hb5) (by decide) hv7) mi_X3_agreesWith is_X3_agreesWith se_X3_agreesWith ml_RX8_183 (wcells_mem (f := 3) (j := (tn a2)) (by decide) (inb_lt hb5)) rfl rfl rfl rfl (Nat.le_of_ble_eq_true rfl) dX8_fits_52 ?_
        show TW K 55 [(0, rv K (8, 0)), (1, .int a1), (2, .int a2)] [.int (b2i x1)] σ1
        refine tw_if_eq (tgt := 62) C dX8_fits_55 (by decide) (fun hc8 => ?_) (fun hc8 => ?_)
        · have ht8 := ite_f (b2i_z hc8) eh7
          refine tw_iconst (v := 0) C dX8_fits_62 (by decide) ?_
          obtain ⟨rfl, rfl⟩ := pj2 (Option.some.inj ht8)
          exact tw_iret C hK rfl rfl dX8_fits_63
        · have hf8 := ite_t (b2i_nz hc8) eh7
          refine tw_iconst (v := 1) C dX8_fits_58 (by decide) ?_
          refine tw_goto (tgt := 63) C dX8_fits_59 (by decide) ?_
          obtain ⟨rfl, rfl⟩ := pj2 (Option.some.inj hf8)
          exact tw_iret C hK rfl rfl dX8_fits_63
      · have hf4 := ite_t hc4 eh3
        refine tw_bipush (v := (-3)) C dX8_fits_30 (by decide) ?_
        obtain ⟨rfl, rfl⟩ := pj2 (Option.some.inj hf4)
        exact tw_iret C hK rfl rfl dX8_fits_32
    · have hf2 := ite_f (b2i_z hc2) hf1
      refine tw_bipush (v := (-2)) C dX8_fits_15 (by decide) ?_
      obtain ⟨rfl, rfl⟩ := pj2 (Option.some.inj hf2)
      exact tw_iret C hK rfl rfl dX8_fits_17

set_option maxRecDepth 20000 in
def fX8_fitsAllTold (σ : St) (r1 : Rf) : Option (Bool × St) :=
  lpF (fun (q1 : Int32 × St) => match q1 with
  | (x1, σ1) =>
  if (σ1 (8, 0) 10) ≤ x1 then
    some (.inr ((true, σ1)))
  else
    grd (inb x1 12) (
    bj (if (σ1 (3, (tn x1)) 3) = 0 then
      some (.inr σ1)
    else
      grd (inb x1 12) (
      obi (fX3_agreesWith σ1 (tn x1) r1 0) (fun (x2, σ3) =>
      if x2 = true then
        some (.inr σ3)
      else
        some (.inl (.inr ((false, σ3))))))) (fun σ2 =>
    bnd (x1 + 1) (fun x3 =>
    some (.inl (x3, σ2)))))) ((0 : Int32), σ)
set_option maxRecDepth 20000 in
set_option maxHeartbeats 4000000 in
theorem kX8_fitsAllTold (G : Gx) (d : Nat) (hdp : 5 ≤ d) (σ : St) (r1 : Rf)  {v0 : Bool} {σ' : St} (h : fX8_fitsAllTold σ r1 = some (v0, σ')) : MS G d yX8_fitsAllTold cX8_fitsAllTold 3 (some .boolean) [.ref (G.2.1 (8, 0)), .ref (G.2.1 r1)] σ (some (.int (b2i v0))) σ' := by
  refine MS_of (by decide) (Nat.le_of_ble_eq_true rfl) rfl (fun K hG hnL C hR hK => ?_) (by omega)
  subst hG
  show TW K 0 [(0, rv K (8, 0)), (1, rv K r1)] [] σ
  unfold fX8_fitsAllTold at h
  refine tw_iconst (v := 0) C dX8_fitsAllTold_0 (by decide) ?_
  refine tw_istore_n (lv' := [(0, rv K (8, 0)), (1, rv K r1), (2, .int (0 : Int32))]) C [1, 2, 0] dX8_fitsAllTold_1 rfl (by rw [hnL]; decide) rfl ?_
  refine lpF_ct (G := fun (q : Int32 × St) => match q with | (x1, σ1) => TW K 2 [(0, rv K (8, 0)), (1, rv K r1), (2, .int x1)] [] σ1) ?_ h
  rintro ⟨x1, σ1⟩ w1 hx1 hk1
  show TW K 2 [(0, rv K (8, 0)), (1, rv K r1), (2, .int x1)] [] σ1
  refine tw_iload_n (i := 2) (z := 2) C dX8_fitsAllTold_2 rfl rfl ?_
  refine tw_aload_n (i := 0) (z := 0) (r := (8, 0)) C dX8_fitsAllTold_3 rfl rfl ?_
  refine tw_getI C fl_RX8_137 rfl (wcells_mem (f := 8) (j := 0) (by decide) (by decide)) rfl dX8_fitsAllTold_4 ?_
  refine tw_ic_ge (tgt := 47) C dX8_fitsAllTold_7 (by decide) (fun hc2 => ?_) (fun hc2 => ?_)
  · have ht2 := ite_t hc2 hx1
    refine tw_iconst (v := 1) C dX8_fitsAllTold_47 (by decide) ?_
    have e3 := lp_x ht2 hk1
    obtain ⟨rfl, rfl⟩ := pj2 (Option.some.inj e3)
    exact tw_zret C hK rfl rfl rfl dX8_fitsAllTold_48
  · have hf2 := ite_f hc2 hx1
    refine tw_aload_n (i := 0) (z := 0) (r := (8, 0)) C dX8_fitsAllTold_10 rfl rfl ?_
    refine tw_getR (g := 24) (z := 0) (j' := 0) C fl_RX8_17 rfl (wcells_mem (f := 8) (j := 0) (by decide) (by decide)) rfl rfl dX8_fitsAllTold_11 ?_
    refine tw_iload_n (i := 2) (z := 2) C dX8_fitsAllTold_14 rfl rfl ?_
    obtain ⟨hb4, eh4⟩ := grd_some hf2
    refine tw_aald (g := 3) C rfl 4 "ElevenCodes$Match" (fun _ => rfl) (by decide) (by decide) (wcells_mem (f := 24) (j := 0) (by decide) (by decide)) hb4 dX8_fitsAllTold_15 ?_
    refine tw_getI C fl_RX8_180 rfl (wcells_mem (f := 3) (j := (tn x1)) (by decide) (inb_lt hb4)) rfl dX8_fitsAllTold_16 ?_
    obtain ⟨y5, hx5, hy5⟩ := bj_some eh4
    have hJ5 : ∀ (σ2 : St), y5 = .inr σ2 → TW K 41 [(0, rv K (8, 0)), (1, rv K r1), (2, .int x1)] [] σ2 := by
      intro σ2 ey5
      have hq5 := bj_r ey5 hy5
      obtain ⟨x3, ex12, eh12⟩ := bnd_ex hq5
      refine tw_iinc (z := 2) (v := x3) (lv' := [(0, rv K (8, 0)), (1, rv K r1), (2, .int x3)]) C [1, 2, 0] dX8_fitsAllTold_41 rfl ex12 (by rw [hnL]; decide) rfl ?_
      refine tw_goto (tgt := 2) C dX8_fitsAllTold_44 (by decide) ?_
      have hz := lp_c eh12 hk1
      exact hz
    refine tw_if_eq (tgt := 41) C dX8_fitsAllTold_19 (by decide) (fun hc6 => ?_) (fun hc6 => ?_)
    · have ht6 := ite_t hc6 hx5
      exact hJ5 _ (Option.some.inj ht6).symm
    · have hf6 := ite_f hc6 hx5
      refine tw_aload_n (i := 0) (z := 0) (r := (8, 0)) C dX8_fitsAllTold_22 rfl rfl ?_
      refine tw_getR (g := 24) (z := 0) (j' := 0) C fl_RX8_17 rfl (wcells_mem (f := 8) (j := 0) (by decide) (by decide)) rfl rfl dX8_fitsAllTold_23 ?_
      refine tw_iload_n (i := 2) (z := 2) C dX8_fitsAllTold_26 rfl rfl ?_
      obtain ⟨hb7, eh7⟩ := grd_some hf6
      refine tw_aald (g := 3) C rfl 4 "ElevenCodes$Match" (fun _ => rfl) (by decide) (by decide) (wcells_mem (f := 24) (j := 0) (by decide) (by decide)) hb7 dX8_fitsAllTold_27 ?_
      refine tw_aload_n (i := 1) (z := 1) (r := r1) C dX8_fitsAllTold_28 rfl rfl ?_
      refine tw_aload_n (i := 0) (z := 0) (r := (8, 0)) C dX8_fitsAllTold_29 rfl rfl ?_
      refine tw_getR (g := 4) (z := 0) (j' := 0) C fl_RX8_51 rfl (wcells_mem (f := 8) (j := 0) (by decide) (by decide)) rfl rfl dX8_fitsAllTold_30 ?_
      obtain ⟨⟨x2, σ3⟩, hv8, eh8⟩ := obi_some eh7
      refine tw_callV (As := [rv K r1, rv K (4, 0)]) (rest := []) (r := (3, (tn x1))) C hR (kX3_agreesWith K.1 _ (by omega) _ (tn x1) r1 0 (inb_lt hb7) (by decide) hv8) mi_X3_agreesWith is_X3_agreesWith se_X3_agreesWith ml_RX8_183 (wcells_mem (f := 3) (j := (tn x1)) (by decide) (inb_lt hb7)) rfl rfl rfl rfl (Nat.le_of_ble_eq_true rfl) dX8_fitsAllTold_33 ?_
      show TW K 36 [(0, rv K (8, 0)), (1, rv K r1), (2, .int x1)] [.int (b2i x2)] σ3
      refine tw_if_ne (tgt := 41) C dX8_fitsAllTold_36 (by decide) (fun hc9 => ?_) (fun hc9 => ?_)
      · have ht9 := ite_t (b2i_nz hc9) eh8
        exact hJ5 _ (Option.some.inj ht9).symm
      · have hf9 := ite_f (b2i_z hc9) eh8
        refine tw_iconst (v := 0) C dX8_fitsAllTold_39 (by decide) ?_
        have e10 := bj_l hf9 hy5
        have e11 := lp_x e10 hk1
        obtain ⟨rfl, rfl⟩ := pj2 (Option.some.inj e11)
        exact tw_zret C hK rfl rfl rfl dX8_fitsAllTold_40

set_option maxRecDepth 20000 in
def fX8_fitting (σ : St)  : Option (Int32 × St) :=
  lpF (fun (q1 : Int32 × Int32 × St) => match q1 with
  | (x1, x2, σ1) =>
  if (11 : Int32) ≤ x2 then
    some (.inr ((x1, σ1)))
  else
    grd (inb x2 11) (
    obi (fX8_fitsAllTold σ1 (11, (tn x2))) (fun (x3, σ2) =>
    bnd (if x3 = true then
      bnd (x1 ||| ((1 : Int32) <<< (x2 &&& 31))) (fun x5 =>
      x5)
    else
      x1) (fun x4 =>
    bnd (x2 + 1) (fun x6 =>
    some (.inl (x4, x6, σ2))))))) ((0 : Int32), (0 : Int32), σ)
set_option maxRecDepth 20000 in
set_option maxHeartbeats 4000000 in
theorem kX8_fitting (G : Gx) (d : Nat) (hdp : 6 ≤ d) (σ : St)   {v0 : Int32} {σ' : St} (h : fX8_fitting σ  = some (v0, σ')) : MS G d yX8_fitting cX8_fitting 3 (some .int) [.ref (G.2.1 (8, 0))] σ (some (.int v0)) σ' := by
  refine MS_of (by decide) (Nat.le_of_ble_eq_true rfl) rfl (fun K hG hnL C hR hK => ?_) (by omega)
  subst hG
  show TW K 0 [(0, rv K (8, 0))] [] σ
  unfold fX8_fitting at h
  refine tw_iconst (v := 0) C dX8_fitting_0 (by decide) ?_
  refine tw_istore_n (lv' := [(0, rv K (8, 0)), (1, .int (0 : Int32))]) C [1, 0] dX8_fitting_1 rfl (by rw [hnL]; decide) rfl ?_
  refine tw_iconst (v := 0) C dX8_fitting_2 (by decide) ?_
  refine tw_istore_n (lv' := [(0, rv K (8, 0)), (1, .int (0 : Int32)), (2, .int (0 : Int32))]) C [1, 2, 0] dX8_fitting_3 rfl (by rw [hnL]; decide) rfl ?_
  refine lpF_ct (G := fun (q : Int32 × Int32 × St) => match q with | (x1, x2, σ1) => TW K 4 [(0, rv K (8, 0)), (1, .int x1), (2, .int x2)] [] σ1) ?_ h
  rintro ⟨x1, x2, σ1⟩ w1 hx1 hk1
  show TW K 4 [(0, rv K (8, 0)), (1, .int x1), (2, .int x2)] [] σ1
  refine tw_iload_n (i := 2) (z := 2) C dX8_fitting_4 rfl rfl ?_
  refine tw_bipush (v := 11) C dX8_fitting_5 (by decide) ?_
  refine tw_ic_ge (tgt := 38) C dX8_fitting_7 (by decide) (fun hc2 => ?_) (fun hc2 => ?_)
  · have ht2 := ite_t hc2 hx1
    refine tw_iload_n (i := 1) (z := 1) C dX8_fitting_38 rfl rfl ?_
    have e3 := lp_x ht2 hk1
    obtain ⟨rfl, rfl⟩ := pj2 (Option.some.inj e3)
    exact tw_iret C hK rfl rfl dX8_fitting_39
  · have hf2 := ite_f hc2 hx1
    refine tw_aload_n (i := 0) (z := 0) (r := (8, 0)) C dX8_fitting_10 rfl rfl ?_
    refine tw_aload_n (i := 0) (z := 0) (r := (8, 0)) C dX8_fitting_11 rfl rfl ?_
    refine tw_getR (g := 23) (z := 0) (j' := 0) C fl_RX8_11 rfl (wcells_mem (f := 8) (j := 0) (by decide) (by decide)) rfl rfl dX8_fitting_12 ?_
    refine tw_iload_n (i := 2) (z := 2) C dX8_fitting_15 rfl rfl ?_
    obtain ⟨hb4, eh4⟩ := grd_some hf2
    refine tw_aald (g := 1) C rfl 3 "ElevenCodes$Code" (fun _ => rfl) (by decide) (by decide) (wcells_mem (f := 23) (j := 0) (by decide) (by decide)) hb4 dX8_fitting_16 ?_
    refine tw_getR (g := 11) (z := 0) (j' := (tn x2)) C fl_RX8_108 rfl (wcells_mem (f := 1) (j := (tn x2)) (by decide) (inb_lt hb4)) rfl rfl dX8_fitting_17 ?_
    obtain ⟨⟨x3, σ2⟩, hv5, eh5⟩ := obi_some eh4
    refine tw_callV (As := [rv K (11, (tn x2))]) (rest := []) (r := (8, 0)) C hR (kX8_fitsAllTold K.1 _ (by omega) _ (11, (tn x2))  hv5) mi_X8_fitsAllTold is_X8_fitsAllTold se_X8_fitsAllTold ml_RX8_187 (wcells_mem (f := 8) (j := 0) (by decide) (by decide)) rfl rfl rfl rfl (Nat.le_of_ble_eq_true rfl) dX8_fitting_20 ?_
    show TW K 23 [(0, rv K (8, 0)), (1, .int x1), (2, .int x2)] [.int (b2i x3)] σ2
    obtain ⟨x4, hx6, hq6⟩ := bnd_ex eh5
    have hJ6 : TW K 32 [(0, rv K (8, 0)), (1, .int x4), (2, .int x2)] [] σ2 := by
      obtain ⟨x6, ex9, eh9⟩ := bnd_ex hq6
      refine tw_iinc (z := 2) (v := x6) (lv' := [(0, rv K (8, 0)), (1, .int x4), (2, .int x6)]) C [1, 2, 0] dX8_fitting_32 rfl ex9 (by rw [hnL]; decide) rfl ?_
      refine tw_goto (tgt := 4) C dX8_fitting_35 (by decide) ?_
      have hz := lp_c eh9 hk1
      exact hz
    refine tw_if_eq (tgt := 32) C dX8_fitting_23 (by decide) (fun hc7 => ?_) (fun hc7 => ?_)
    · have ht7 := ite_f (b2i_z hc7) hx6
      obtain rfl := ht7
      exact hJ6
    · have hf7 := ite_t (b2i_nz hc7) hx6
      refine tw_iload_n (i := 1) (z := 1) C dX8_fitting_26 rfl rfl ?_
      refine tw_iconst (v := 1) C dX8_fitting_27 (by decide) ?_
      refine tw_iload_n (i := 2) (z := 2) C dX8_fitting_28 rfl rfl ?_
      refine tw_ishl C dX8_fitting_29 ?_
      refine tw_ior C dX8_fitting_30 ?_
      obtain ⟨x5, ex8, eh8⟩ := bnd_ex hf7
      refine tw_topi ex8.symm ?_
      refine tw_istore_n (lv' := [(0, rv K (8, 0)), (1, .int x5), (2, .int x2)]) C [1, 0, 2] dX8_fitting_31 rfl (by rw [hnL]; decide) rfl ?_
      obtain rfl := eh8
      exact hJ6

set_option maxRecDepth 20000 in
def fX8_parts (σ : St) (a1 : Int32) (a2 : Int32) : Option (Int32 × St) :=
  if (fX8_isCode a1) = true then
    if (fX8_isCode a2) = true then
      grd (inb a1 11) (
      grd (inb a2 11) (
      obi (fX5_part σ (11, (tn a1)) (11, (tn a2))) (fun σ1 =>
      if (σ1 (5, 0) 7) = 0 then
        some ((-1 : Int32), σ1)
      else
        some (σ1 (5, 0) 7, σ1))))
    else
      some ((-2 : Int32), σ)
  else
    some ((-2 : Int32), σ)
set_option maxRecDepth 20000 in
set_option maxHeartbeats 4000000 in
theorem kX8_parts (G : Gx) (d : Nat) (hdp : 5 ≤ d) (σ : St) (a1 : Int32) (a2 : Int32)  {v0 : Int32} {σ' : St} (h : fX8_parts σ a1 a2 = some (v0, σ')) : MS G d yX8_parts cX8_parts 3 (some .int) [.ref (G.2.1 (8, 0)), .int a1, .int a2] σ (some (.int v0)) σ' := by
  refine MS_of (by decide) (Nat.le_of_ble_eq_true rfl) rfl (fun K hG hnL C hR hK => ?_) (by omega)
  subst hG
  show TW K 0 [(0, rv K (8, 0)), (1, .int a1), (2, .int a2)] [] σ
  unfold fX8_parts at h
  refine tw_iload_n (i := 1) (z := 1) C dX8_parts_0 rfl rfl ?_
  refine tw_callS (As := [.int a1]) (rest := []) C hR (kX8_isCode K.1 _ (by omega) σ a1  rfl) mi_X8_isCode st_X8_isCode ml_RX8_90 rfl rfl (Nat.le_of_ble_eq_true rfl) dX8_parts_1 ?_
  show TW K 4 [(0, rv K (8, 0)), (1, .int a1), (2, .int a2)] [.int (b2i (fX8_isCode a1))] σ
  refine tw_if_eq (tgt := 14) C dX8_parts_4 (by decide) (fun hc1 => ?_) (fun hc1 => ?_)
  · have ht1 := ite_f (b2i_z hc1) h
    refine tw_bipush (v := (-2)) C dX8_parts_14 (by decide) ?_
    obtain ⟨rfl, rfl⟩ := pj2 (Option.some.inj ht1)
    exact tw_iret C hK rfl rfl dX8_parts_16
  · have hf1 := ite_t (b2i_nz hc1) h
    refine tw_iload_n (i := 2) (z := 2) C dX8_parts_7 rfl rfl ?_
    refine tw_callS (As := [.int a2]) (rest := []) C hR (kX8_isCode K.1 _ (by omega) σ a2  rfl) mi_X8_isCode st_X8_isCode ml_RX8_90 rfl rfl (Nat.le_of_ble_eq_true rfl) dX8_parts_8 ?_
    show TW K 11 [(0, rv K (8, 0)), (1, .int a1), (2, .int a2)] [.int (b2i (fX8_isCode a2))] σ
    refine tw_if_ne (tgt := 17) C dX8_parts_11 (by decide) (fun hc2 => ?_) (fun hc2 => ?_)
    · have ht2 := ite_t (b2i_nz hc2) hf1
      refine tw_aload_n (i := 0) (z := 0) (r := (8, 0)) C dX8_parts_17 rfl rfl ?_
      refine tw_getR (g := 5) (z := 0) (j' := 0) C fl_RX8_58 rfl (wcells_mem (f := 8) (j := 0) (by decide) (by decide)) rfl rfl dX8_parts_18 ?_
      refine tw_aload_n (i := 0) (z := 0) (r := (8, 0)) C dX8_parts_21 rfl rfl ?_
      refine tw_getR (g := 23) (z := 0) (j' := 0) C fl_RX8_11 rfl (wcells_mem (f := 8) (j := 0) (by decide) (by decide)) rfl rfl dX8_parts_22 ?_
      refine tw_iload_n (i := 1) (z := 1) C dX8_parts_25 rfl rfl ?_
      obtain ⟨hb3, eh3⟩ := grd_some ht2
      refine tw_aald (g := 1) C rfl 3 "ElevenCodes$Code" (fun _ => rfl) (by decide) (by decide) (wcells_mem (f := 23) (j := 0) (by decide) (by decide)) hb3 dX8_parts_26 ?_
      refine tw_getR (g := 11) (z := 0) (j' := (tn a1)) C fl_RX8_108 rfl (wcells_mem (f := 1) (j := (tn a1)) (by decide) (inb_lt hb3)) rfl rfl dX8_parts_27 ?_
      refine tw_aload_n (i := 0) (z := 0) (r := (8, 0)) C dX8_parts_30 rfl rfl ?_
      refine tw_getR (g := 23) (z := 0) (j' := 0) C fl_RX8_11 rfl (wcells_mem (f := 8) (j := 0) (by decide) (by decide)) rfl rfl dX8_parts_31 ?_
      refine tw_iload_n (i := 2) (z := 2) C dX8_parts_34 rfl rfl ?_
      obtain ⟨hb4, eh4⟩ := grd_some eh3
      refine tw_aald (g := 1) C rfl 3 "ElevenCodes$Code" (fun _ => rfl) (by decide) (by decide) (wcells_mem (f := 23) (j := 0) (by decide) (by decide)) hb4 dX8_parts_35 ?_
      refine tw_getR (g := 11) (z := 0) (j' := (tn a2)) C fl_RX8_108 rfl (wcells_mem (f := 1) (j := (tn a2)) (by decide) (inb_lt hb4)) rfl rfl dX8_parts_36 ?_
      obtain ⟨σ1, hv5, eh5⟩ := obi_some eh4
      refine tw_callV (As := [rv K (11, (tn a1)), rv K (11, (tn a2))]) (rest := []) (r := (5, 0)) C hR (kX5_part K.1 _ (by omega) _ (11, (tn a1)) (11, (tn a2))  hv5) mi_X5_part is_X5_part se_X5_part ml_RX8_191 (wcells_mem (f := 5) (j := 0) (by decide) (by decide)) rfl rfl rfl rfl (Nat.le_of_ble_eq_true rfl) dX8_parts_39 ?_
      show TW K 42 [(0, rv K (8, 0)), (1, .int a1), (2, .int a2)] [] σ1
      refine tw_aload_n (i := 0) (z := 0) (r := (8, 0)) C dX8_parts_42 rfl rfl ?_
      refine tw_getR (g := 5) (z := 0) (j' := 0) C fl_RX8_58 rfl (wcells_mem (f := 8) (j := 0) (by decide) (by decide)) rfl rfl dX8_parts_43 ?_
      refine tw_getI C fl_RX8_195 rfl (wcells_mem (f := 5) (j := 0) (by decide) (by decide)) rfl dX8_parts_46 ?_
      refine tw_if_ne (tgt := 56) C dX8_parts_49 (by decide) (fun hc6 => ?_) (fun hc6 => ?_)
      · have ht6 := ite_f hc6 eh5
        refine tw_aload_n (i := 0) (z := 0) (r := (8, 0)) C dX8_parts_56 rfl rfl ?_
        refine tw_getR (g := 5) (z := 0) (j' := 0) C fl_RX8_58 rfl (wcells_mem (f := 8) (j := 0) (by decide) (by decide)) rfl rfl dX8_parts_57 ?_
        refine tw_getI C fl_RX8_195 rfl (wcells_mem (f := 5) (j := 0) (by decide) (by decide)) rfl dX8_parts_60 ?_
        obtain ⟨rfl, rfl⟩ := pj2 (Option.some.inj ht6)
        exact tw_iret C hK rfl rfl dX8_parts_63
      · have hf6 := ite_t hc6 eh5
        refine tw_iconst (v := (-1)) C dX8_parts_52 (by decide) ?_
        refine tw_goto (tgt := 63) C dX8_parts_53 (by decide) ?_
        obtain ⟨rfl, rfl⟩ := pj2 (Option.some.inj hf6)
        exact tw_iret C hK rfl rfl dX8_parts_63
    · have hf2 := ite_f (b2i_z hc2) hf1
      refine tw_bipush (v := (-2)) C dX8_parts_14 (by decide) ?_
      obtain ⟨rfl, rfl⟩ := pj2 (Option.some.inj hf2)
      exact tw_iret C hK rfl rfl dX8_parts_16

set_option maxRecDepth 20000 in
def fX8_parting (σ : St) (a1 : Int32) (a2 : Int32) (a3 : Int32) : Option (Int32 × St) :=
  if (fX8_isCode a1) = true then
    if (fX8_isCode a2) = true then
      if 0 ≤ a3 then
        grd (inb a1 11) (
        grd (inb a2 11) (
        obi (fX5_part σ (11, (tn a1)) (11, (tn a2))) (fun σ1 =>
        if (σ1 (5, 0) 7) ≤ a3 then
          some ((-1 : Int32), σ1)
        else
          grd (inb a3 6) (
          some (σ1 (19, 0) (tn a3), σ1)))))
      else
        some ((-2 : Int32), σ)
    else
      some ((-2 : Int32), σ)
  else
    some ((-2 : Int32), σ)
set_option maxRecDepth 20000 in
set_option maxHeartbeats 4000000 in
theorem kX8_parting (G : Gx) (d : Nat) (hdp : 5 ≤ d) (σ : St) (a1 : Int32) (a2 : Int32) (a3 : Int32)  {v0 : Int32} {σ' : St} (h : fX8_parting σ a1 a2 a3 = some (v0, σ')) : MS G d yX8_parting cX8_parting 4 (some .int) [.ref (G.2.1 (8, 0)), .int a1, .int a2, .int a3] σ (some (.int v0)) σ' := by
  refine MS_of (by decide) (Nat.le_of_ble_eq_true rfl) rfl (fun K hG hnL C hR hK => ?_) (by omega)
  subst hG
  show TW K 0 [(0, rv K (8, 0)), (1, .int a1), (2, .int a2), (3, .int a3)] [] σ
  unfold fX8_parting at h
  refine tw_iload_n (i := 1) (z := 1) C dX8_parting_0 rfl rfl ?_
  refine tw_callS (As := [.int a1]) (rest := []) C hR (kX8_isCode K.1 _ (by omega) σ a1  rfl) mi_X8_isCode st_X8_isCode ml_RX8_90 rfl rfl (Nat.le_of_ble_eq_true rfl) dX8_parting_1 ?_
  show TW K 4 [(0, rv K (8, 0)), (1, .int a1), (2, .int a2), (3, .int a3)] [.int (b2i (fX8_isCode a1))] σ
  refine tw_if_eq (tgt := 18) C dX8_parting_4 (by decide) (fun hc1 => ?_) (fun hc1 => ?_)
  · have ht1 := ite_f (b2i_z hc1) h
    refine tw_bipush (v := (-2)) C dX8_parting_18 (by decide) ?_
    obtain ⟨rfl, rfl⟩ := pj2 (Option.some.inj ht1)
    exact tw_iret C hK rfl rfl dX8_parting_20
  · have hf1 := ite_t (b2i_nz hc1) h
    refine tw_iload_n (i := 2) (z := 2) C dX8_parting_7 rfl rfl ?_
    refine tw_callS (As := [.int a2]) (rest := []) C hR (kX8_isCode K.1 _ (by omega) σ a2  rfl) mi_X8_isCode st_X8_isCode ml_RX8_90 rfl rfl (Nat.le_of_ble_eq_true rfl) dX8_parting_8 ?_
    show TW K 11 [(0, rv K (8, 0)), (1, .int a1), (2, .int a2), (3, .int a3)] [.int (b2i (fX8_isCode a2))] σ
    refine tw_if_eq (tgt := 18) C dX8_parting_11 (by decide) (fun hc2 => ?_) (fun hc2 => ?_)
    · have ht2 := ite_f (b2i_z hc2) hf1
      refine tw_bipush (v := (-2)) C dX8_parting_18 (by decide) ?_
      obtain ⟨rfl, rfl⟩ := pj2 (Option.some.inj ht2)
      exact tw_iret C hK rfl rfl dX8_parting_20
    · have hf2 := ite_t (b2i_nz hc2) hf1
      refine tw_iload_n (i := 3) (z := 3) C dX8_parting_14 rfl rfl ?_
      refine tw_if_ge (tgt := 21) C dX8_parting_15 (by decide) (fun hc3 => ?_) (fun hc3 => ?_)
      · have ht3 := ite_t hc3 hf2
        refine tw_aload_n (i := 0) (z := 0) (r := (8, 0)) C dX8_parting_21 rfl rfl ?_
        refine tw_getR (g := 5) (z := 0) (j' := 0) C fl_RX8_58 rfl (wcells_mem (f := 8) (j := 0) (by decide) (by decide)) rfl rfl dX8_parting_22 ?_
        refine tw_aload_n (i := 0) (z := 0) (r := (8, 0)) C dX8_parting_25 rfl rfl ?_
        refine tw_getR (g := 23) (z := 0) (j' := 0) C fl_RX8_11 rfl (wcells_mem (f := 8) (j := 0) (by decide) (by decide)) rfl rfl dX8_parting_26 ?_
        refine tw_iload_n (i := 1) (z := 1) C dX8_parting_29 rfl rfl ?_
        obtain ⟨hb4, eh4⟩ := grd_some ht3
        refine tw_aald (g := 1) C rfl 3 "ElevenCodes$Code" (fun _ => rfl) (by decide) (by decide) (wcells_mem (f := 23) (j := 0) (by decide) (by decide)) hb4 dX8_parting_30 ?_
        refine tw_getR (g := 11) (z := 0) (j' := (tn a1)) C fl_RX8_108 rfl (wcells_mem (f := 1) (j := (tn a1)) (by decide) (inb_lt hb4)) rfl rfl dX8_parting_31 ?_
        refine tw_aload_n (i := 0) (z := 0) (r := (8, 0)) C dX8_parting_34 rfl rfl ?_
        refine tw_getR (g := 23) (z := 0) (j' := 0) C fl_RX8_11 rfl (wcells_mem (f := 8) (j := 0) (by decide) (by decide)) rfl rfl dX8_parting_35 ?_
        refine tw_iload_n (i := 2) (z := 2) C dX8_parting_38 rfl rfl ?_
        obtain ⟨hb5, eh5⟩ := grd_some eh4
        refine tw_aald (g := 1) C rfl 3 "ElevenCodes$Code" (fun _ => rfl) (by decide) (by decide) (wcells_mem (f := 23) (j := 0) (by decide) (by decide)) hb5 dX8_parting_39 ?_
        refine tw_getR (g := 11) (z := 0) (j' := (tn a2)) C fl_RX8_108 rfl (wcells_mem (f := 1) (j := (tn a2)) (by decide) (inb_lt hb5)) rfl rfl dX8_parting_40 ?_
        obtain ⟨σ1, hv6, eh6⟩ := obi_some eh5
        refine tw_callV (As := [rv K (11, (tn a1)), rv K (11, (tn a2))]) (rest := []) (r := (5, 0)) C hR (kX5_part K.1 _ (by omega) _ (11, (tn a1)) (11, (tn a2))  hv6) mi_X5_part is_X5_part se_X5_part ml_RX8_191 (wcells_mem (f := 5) (j := 0) (by decide) (by decide)) rfl rfl rfl rfl (Nat.le_of_ble_eq_true rfl) dX8_parting_43 ?_
        show TW K 46 [(0, rv K (8, 0)), (1, .int a1), (2, .int a2), (3, .int a3)] [] σ1
        refine tw_iload_n (i := 3) (z := 3) C dX8_parting_46 rfl rfl ?_
        refine tw_aload_n (i := 0) (z := 0) (r := (8, 0)) C dX8_parting_47 rfl rfl ?_
        refine tw_getR (g := 5) (z := 0) (j' := 0) C fl_RX8_58 rfl (wcells_mem (f := 8) (j := 0) (by decide) (by decide)) rfl rfl dX8_parting_48 ?_
        refine tw_getI C fl_RX8_195 rfl (wcells_mem (f := 5) (j := 0) (by decide) (by decide)) rfl dX8_parting_51 ?_
        refine tw_ic_ge (tgt := 69) C dX8_parting_54 (by decide) (fun hc7 => ?_) (fun hc7 => ?_)
        · have ht7 := ite_t hc7 eh6
          refine tw_iconst (v := (-1)) C dX8_parting_69 (by decide) ?_
          obtain ⟨rfl, rfl⟩ := pj2 (Option.some.inj ht7)
          exact tw_iret C hK rfl rfl dX8_parting_70
        · have hf7 := ite_f hc7 eh6
          refine tw_aload_n (i := 0) (z := 0) (r := (8, 0)) C dX8_parting_57 rfl rfl ?_
          refine tw_getR (g := 5) (z := 0) (j' := 0) C fl_RX8_58 rfl (wcells_mem (f := 8) (j := 0) (by decide) (by decide)) rfl rfl dX8_parting_58 ?_
          refine tw_getR (g := 19) (z := 0) (j' := 0) C fl_RX8_198 rfl (wcells_mem (f := 5) (j := 0) (by decide) (by decide)) rfl rfl dX8_parting_61 ?_
          refine tw_iload_n (i := 3) (z := 3) C dX8_parting_64 rfl rfl ?_
          obtain ⟨hb8, eh8⟩ := grd_some hf7
          refine tw_iald (r := (19, 0)) C (ia_of rfl (by decide)) hb8 dX8_parting_65 ?_
          refine tw_goto (tgt := 70) C dX8_parting_66 (by decide) ?_
          obtain ⟨rfl, rfl⟩ := pj2 (Option.some.inj eh8)
          exact tw_iret C hK rfl rfl dX8_parting_70
      · have hf3 := ite_f hc3 hf2
        refine tw_bipush (v := (-2)) C dX8_parting_18 (by decide) ?_
        obtain ⟨rfl, rfl⟩ := pj2 (Option.some.inj hf3)
        exact tw_iret C hK rfl rfl dX8_parting_20

set_option maxRecDepth 20000 in
def fX8_fewest (σ : St) (a1 : Int32) (a2 : Int32) : Option (Int32 × St) :=
  if (fX8_isCode a1) = true then
    if a2 < 0 then
      some ((-2 : Int32), σ)
    else
      if a2 ≤ (1 : Int32) then
        grd (inb a1 11) (
        obi (fX5_momentsToScore σ (11, (tn a1)) a2) (fun (x1, σ1) =>
        some (x1, σ1)))
      else
        some ((-2 : Int32), σ)
  else
    some ((-2 : Int32), σ)
set_option maxRecDepth 20000 in
set_option maxHeartbeats 4000000 in
theorem kX8_fewest (G : Gx) (d : Nat) (hdp : 5 ≤ d) (σ : St) (a1 : Int32) (a2 : Int32)  {v0 : Int32} {σ' : St} (h : fX8_fewest σ a1 a2 = some (v0, σ')) : MS G d yX8_fewest cX8_fewest 3 (some .int) [.ref (G.2.1 (8, 0)), .int a1, .int a2] σ (some (.int v0)) σ' := by
  refine MS_of (by decide) (Nat.le_of_ble_eq_true rfl) rfl (fun K hG hnL C hR hK => ?_) (by omega)
  subst hG
  show TW K 0 [(0, rv K (8, 0)), (1, .int a1), (2, .int a2)] [] σ
  unfold fX8_fewest at h
  refine tw_iload_n (i := 1) (z := 1) C dX8_fewest_0 rfl rfl ?_
  refine tw_callS (As := [.int a1]) (rest := []) C hR (kX8_isCode K.1 _ (by omega) σ a1  rfl) mi_X8_isCode st_X8_isCode ml_RX8_90 rfl rfl (Nat.le_of_ble_eq_true rfl) dX8_fewest_1 ?_
  show TW K 4 [(0, rv K (8, 0)), (1, .int a1), (2, .int a2)] [.int (b2i (fX8_isCode a1))] σ
  refine tw_if_eq (tgt := 16) C dX8_fewest_4 (by decide) (fun hc1 => ?_) (fun hc1 => ?_)
  · have ht1 := ite_f (b2i_z hc1) h
    refine tw_bipush (v := (-2)) C dX8_fewest_16 (by decide) ?_
    obtain ⟨rfl, rfl⟩ := pj2 (Option.some.inj ht1)
    exact tw_iret C hK rfl rfl dX8_fewest_18
  · have hf1 := ite_t (b2i_nz hc1) h
    refine tw_iload_n (i := 2) (z := 2) C dX8_fewest_7 rfl rfl ?_
    refine tw_if_lt (tgt := 16) C dX8_fewest_8 (by decide) (fun hc2 => ?_) (fun hc2 => ?_)
    · have ht2 := ite_t hc2 hf1
      refine tw_bipush (v := (-2)) C dX8_fewest_16 (by decide) ?_
      obtain ⟨rfl, rfl⟩ := pj2 (Option.some.inj ht2)
      exact tw_iret C hK rfl rfl dX8_fewest_18
    · have hf2 := ite_f hc2 hf1
      refine tw_iload_n (i := 2) (z := 2) C dX8_fewest_11 rfl rfl ?_
      refine tw_iconst (v := 1) C dX8_fewest_12 (by decide) ?_
      refine tw_ic_le (tgt := 19) C dX8_fewest_13 (by decide) (fun hc3 => ?_) (fun hc3 => ?_)
      · have ht3 := ite_t hc3 hf2
        refine tw_aload_n (i := 0) (z := 0) (r := (8, 0)) C dX8_fewest_19 rfl rfl ?_
        refine tw_getR (g := 5) (z := 0) (j' := 0) C fl_RX8_58 rfl (wcells_mem (f := 8) (j := 0) (by decide) (by decide)) rfl rfl dX8_fewest_20 ?_
        refine tw_aload_n (i := 0) (z := 0) (r := (8, 0)) C dX8_fewest_23 rfl rfl ?_
        refine tw_getR (g := 23) (z := 0) (j' := 0) C fl_RX8_11 rfl (wcells_mem (f := 8) (j := 0) (by decide) (by decide)) rfl rfl dX8_fewest_24 ?_
        refine tw_iload_n (i := 1) (z := 1) C dX8_fewest_27 rfl rfl ?_
        obtain ⟨hb4, eh4⟩ := grd_some ht3
        refine tw_aald (g := 1) C rfl 3 "ElevenCodes$Code" (fun _ => rfl) (by decide) (by decide) (wcells_mem (f := 23) (j := 0) (by decide) (by decide)) hb4 dX8_fewest_28 ?_
        refine tw_getR (g := 11) (z := 0) (j' := (tn a1)) C fl_RX8_108 rfl (wcells_mem (f := 1) (j := (tn a1)) (by decide) (inb_lt hb4)) rfl rfl dX8_fewest_29 ?_
        refine tw_iload_n (i := 2) (z := 2) C dX8_fewest_32 rfl rfl ?_
        obtain ⟨⟨x1, σ1⟩, hv5, eh5⟩ := obi_some eh4
        refine tw_callV (As := [rv K (11, (tn a1)), .int a2]) (rest := []) (r := (5, 0)) C hR (kX5_momentsToScore K.1 _ (by omega) _ (11, (tn a1)) a2  hv5) mi_X5_momentsToScore is_X5_momentsToScore se_X5_momentsToScore ml_RX8_201 (wcells_mem (f := 5) (j := 0) (by decide) (by decide)) rfl rfl rfl rfl (Nat.le_of_ble_eq_true rfl) dX8_fewest_33 ?_
        show TW K 36 [(0, rv K (8, 0)), (1, .int a1), (2, .int a2)] [.int x1] σ1
        obtain ⟨rfl, rfl⟩ := pj2 (Option.some.inj eh5)
        exact tw_iret C hK rfl rfl dX8_fewest_36
      · have hf3 := ite_f hc3 hf2
        refine tw_bipush (v := (-2)) C dX8_fewest_16 (by decide) ?_
        obtain ⟨rfl, rfl⟩ := pj2 (Option.some.inj hf3)
        exact tw_iret C hK rfl rfl dX8_fewest_18

set_option maxRecDepth 20000 in
def fX8_club (σ : St) (a1 : Int32) (a2 : Int32) : Option (Int32 × St) :=
  if (fX8_isCode a1) = true then
    if (fX8_isItemSet a2) = true then
      if (σ (8, 0) 11) < (12 : Int32) then
        grd (inb (σ (8, 0) 11) 12) (bnd (su σ (0, (tn (σ (8, 0) 11))) 0 a1) (fun σ1 =>
        grd (inb (σ1 (8, 0) 11) 12) (bnd (su σ1 (0, (tn (σ1 (8, 0) 11))) 1 a2) (fun σ2 =>
        bnd (su σ2 (8, 0) 11 ((σ2 (8, 0) 11) + (1 : Int32))) (fun σ3 =>
        some ((σ3 (8, 0) 11) - (1 : Int32), σ3))))))
      else
        some ((-4 : Int32), σ)
    else
      some ((-2 : Int32), σ)
  else
    some ((-2 : Int32), σ)
set_option maxRecDepth 20000 in
set_option maxHeartbeats 4000000 in
theorem kX8_club (G : Gx) (d : Nat) (hdp : 2 ≤ d) (σ : St) (a1 : Int32) (a2 : Int32)  {v0 : Int32} {σ' : St} (h : fX8_club σ a1 a2 = some (v0, σ')) : MS G d yX8_club cX8_club 3 (some .int) [.ref (G.2.1 (8, 0)), .int a1, .int a2] σ (some (.int v0)) σ' := by
  refine MS_of (by decide) (Nat.le_of_ble_eq_true rfl) rfl (fun K hG hnL C hR hK => ?_) (by omega)
  subst hG
  show TW K 0 [(0, rv K (8, 0)), (1, .int a1), (2, .int a2)] [] σ
  unfold fX8_club at h
  refine tw_iload_n (i := 1) (z := 1) C dX8_club_0 rfl rfl ?_
  refine tw_callS (As := [.int a1]) (rest := []) C hR (kX8_isCode K.1 _ (by omega) σ a1  rfl) mi_X8_isCode st_X8_isCode ml_RX8_90 rfl rfl (Nat.le_of_ble_eq_true rfl) dX8_club_1 ?_
  show TW K 4 [(0, rv K (8, 0)), (1, .int a1), (2, .int a2)] [.int (b2i (fX8_isCode a1))] σ
  refine tw_if_eq (tgt := 14) C dX8_club_4 (by decide) (fun hc1 => ?_) (fun hc1 => ?_)
  · have ht1 := ite_f (b2i_z hc1) h
    refine tw_bipush (v := (-2)) C dX8_club_14 (by decide) ?_
    obtain ⟨rfl, rfl⟩ := pj2 (Option.some.inj ht1)
    exact tw_iret C hK rfl rfl dX8_club_16
  · have hf1 := ite_t (b2i_nz hc1) h
    refine tw_iload_n (i := 2) (z := 2) C dX8_club_7 rfl rfl ?_
    refine tw_callS (As := [.int a2]) (rest := []) C hR (kX8_isItemSet K.1 _ (by omega) σ a2  rfl) mi_X8_isItemSet st_X8_isItemSet ml_RX8_151 rfl rfl (Nat.le_of_ble_eq_true rfl) dX8_club_8 ?_
    show TW K 11 [(0, rv K (8, 0)), (1, .int a1), (2, .int a2)] [.int (b2i (fX8_isItemSet a2))] σ
    refine tw_if_ne (tgt := 17) C dX8_club_11 (by decide) (fun hc2 => ?_) (fun hc2 => ?_)
    · have ht2 := ite_t (b2i_nz hc2) hf1
      refine tw_aload_n (i := 0) (z := 0) (r := (8, 0)) C dX8_club_17 rfl rfl ?_
      refine tw_getI C fl_RX8_205 rfl (wcells_mem (f := 8) (j := 0) (by decide) (by decide)) rfl dX8_club_18 ?_
      refine tw_bipush (v := 12) C dX8_club_21 (by decide) ?_
      refine tw_ic_lt (tgt := 29) C dX8_club_23 (by decide) (fun hc3 => ?_) (fun hc3 => ?_)
      · have ht3 := ite_t hc3 ht2
        refine tw_aload_n (i := 0) (z := 0) (r := (8, 0)) C dX8_club_29 rfl rfl ?_
        refine tw_getR (g := 25) (z := 0) (j' := 0) C fl_RX8_23 rfl (wcells_mem (f := 8) (j := 0) (by decide) (by decide)) rfl rfl dX8_club_30 ?_
        refine tw_aload_n (i := 0) (z := 0) (r := (8, 0)) C dX8_club_33 rfl rfl ?_
        refine tw_getI C fl_RX8_205 rfl (wcells_mem (f := 8) (j := 0) (by decide) (by decide)) rfl dX8_club_34 ?_
        obtain ⟨hb4, eh4⟩ := grd_some ht3
        refine tw_aald (g := 0) C rfl 5 "ElevenCodes$Club" (fun _ => rfl) (by decide) (by decide) (wcells_mem (f := 25) (j := 0) (by decide) (by decide)) hb4 dX8_club_37 ?_
        refine tw_iload_n (i := 1) (z := 1) C dX8_club_38 rfl rfl ?_
        obtain ⟨σ1, es5, eh5⟩ := bnd_ex eh4
        refine tw_put C fl_RX8_208 (fun q hq => by cases hq; rfl) rfl (wcells_mem (f := 0) (j := (tn (σ (8, 0) 11))) (by decide) (inb_lt hb4)) rfl rfl rfl dX8_club_39 ?_
        rw [es5]
        refine tw_aload_n (i := 0) (z := 0) (r := (8, 0)) C dX8_club_42 rfl rfl ?_
        refine tw_getR (g := 25) (z := 0) (j' := 0) C fl_RX8_23 rfl (wcells_mem (f := 8) (j := 0) (by decide) (by decide)) rfl rfl dX8_club_43 ?_
        refine tw_aload_n (i := 0) (z := 0) (r := (8, 0)) C dX8_club_46 rfl rfl ?_
        refine tw_getI C fl_RX8_205 rfl (wcells_mem (f := 8) (j := 0) (by decide) (by decide)) rfl dX8_club_47 ?_
        obtain ⟨hb6, eh6⟩ := grd_some eh5
        refine tw_aald (g := 0) C rfl 5 "ElevenCodes$Club" (fun _ => rfl) (by decide) (by decide) (wcells_mem (f := 25) (j := 0) (by decide) (by decide)) hb6 dX8_club_50 ?_
        refine tw_iload_n (i := 2) (z := 2) C dX8_club_51 rfl rfl ?_
        obtain ⟨σ2, es7, eh7⟩ := bnd_ex eh6
        refine tw_put C fl_RX8_211 (fun q hq => by cases hq; rfl) rfl (wcells_mem (f := 0) (j := (tn (σ1 (8, 0) 11))) (by decide) (inb_lt hb6)) rfl rfl rfl dX8_club_52 ?_
        rw [es7]
        refine tw_aload_n (i := 0) (z := 0) (r := (8, 0)) C dX8_club_55 rfl rfl ?_
        refine tw_dup C dX8_club_56 rfl ?_
        refine tw_getI C fl_RX8_205 rfl (wcells_mem (f := 8) (j := 0) (by decide) (by decide)) rfl dX8_club_57 ?_
        refine tw_iconst (v := 1) C dX8_club_60 (by decide) ?_
        refine tw_iadd C dX8_club_61 ?_
        obtain ⟨σ3, es8, eh8⟩ := bnd_ex eh7
        refine tw_put C fl_RX8_205 (fun q hq => by cases hq; rfl) rfl (wcells_mem (f := 8) (j := 0) (by decide) (by decide)) rfl rfl rfl dX8_club_62 ?_
        rw [es8]
        refine tw_aload_n (i := 0) (z := 0) (r := (8, 0)) C dX8_club_65 rfl rfl ?_
        refine tw_getI C fl_RX8_205 rfl (wcells_mem (f := 8) (j := 0) (by decide) (by decide)) rfl dX8_club_66 ?_
        refine tw_iconst (v := 1) C dX8_club_69 (by decide) ?_
        refine tw_isub C dX8_club_70 ?_
        obtain ⟨rfl, rfl⟩ := pj2 (Option.some.inj eh8)
        exact tw_iret C hK rfl rfl dX8_club_71
      · have hf3 := ite_f hc3 ht2
        refine tw_bipush (v := (-4)) C dX8_club_26 (by decide) ?_
        obtain ⟨rfl, rfl⟩ := pj2 (Option.some.inj hf3)
        exact tw_iret C hK rfl rfl dX8_club_28
    · have hf2 := ite_f (b2i_z hc2) hf1
      refine tw_bipush (v := (-2)) C dX8_club_14 (by decide) ?_
      obtain ⟨rfl, rfl⟩ := pj2 (Option.some.inj hf2)
      exact tw_iret C hK rfl rfl dX8_club_16

set_option maxRecDepth 20000 in
def fX8_isClub (σ : St) (a1 : Int32) : Bool :=
  if a1 < 0 then
    false
  else
    if (σ (8, 0) 11) ≤ a1 then
      false
    else
      true
set_option maxRecDepth 20000 in
set_option maxHeartbeats 4000000 in
theorem kX8_isClub (G : Gx) (d : Nat) (hdp : 1 ≤ d) (σ : St) (a1 : Int32)  {v0 : Bool} (h : fX8_isClub σ a1 = v0) : MS G d yX8_isClub cX8_isClub 2 (some .boolean) [.ref (G.2.1 (8, 0)), .int a1] σ (some (.int (b2i v0))) σ := by
  refine MS_of (by decide) (Nat.le_of_ble_eq_true rfl) rfl (fun K hG hnL C hR hK => ?_) (by omega)
  subst hG
  show TW K 0 [(0, rv K (8, 0)), (1, .int a1)] [] σ
  unfold fX8_isClub at h
  refine tw_iload_n (i := 1) (z := 1) C dX8_isClub_0 rfl rfl ?_
  refine tw_if_lt (tgt := 16) C dX8_isClub_1 (by decide) (fun hc1 => ?_) (fun hc1 => ?_)
  · have ht1 := ite_t hc1 h
    refine tw_iconst (v := 0) C dX8_isClub_16 (by decide) ?_
    obtain rfl := ht1
    exact tw_zret C hK rfl rfl rfl dX8_isClub_17
  · have hf1 := ite_f hc1 h
    refine tw_iload_n (i := 1) (z := 1) C dX8_isClub_4 rfl rfl ?_
    refine tw_aload_n (i := 0) (z := 0) (r := (8, 0)) C dX8_isClub_5 rfl rfl ?_
    refine tw_getI C fl_RX8_205 rfl (wcells_mem (f := 8) (j := 0) (by decide) (by decide)) rfl dX8_isClub_6 ?_
    refine tw_ic_ge (tgt := 16) C dX8_isClub_9 (by decide) (fun hc2 => ?_) (fun hc2 => ?_)
    · have ht2 := ite_t hc2 hf1
      refine tw_iconst (v := 0) C dX8_isClub_16 (by decide) ?_
      obtain rfl := ht2
      exact tw_zret C hK rfl rfl rfl dX8_isClub_17
    · have hf2 := ite_f hc2 hf1
      refine tw_iconst (v := 1) C dX8_isClub_12 (by decide) ?_
      refine tw_goto (tgt := 17) C dX8_isClub_13 (by decide) ?_
      obtain rfl := hf2
      exact tw_zret C hK rfl rfl rfl dX8_isClub_17

set_option maxRecDepth 20000 in
def fX8_change (σ : St) (a1 : Int32) (a2 : Int32) (a3 : Int32) : Option (Int32 × St) :=
  if (fX8_isClub σ a1) = true then
    grd (inb a1 12) (
    bj (if a2 = 0 then
      if (fX8_isCode a3) = true then
        bnd (σ (0, (tn a1)) 0) (fun x1 =>
        bnd (su σ (0, (tn a1)) 0 a3) (fun σ2 =>
        some (.inl (x1, σ2))))
      else
        some (.inr σ)
    else
      some (.inr σ)) (fun σ1 =>
    bj (if a2 = (1 : Int32) then
      if (fX8_isItemSet a3) = true then
        bnd (σ1 (0, (tn a1)) 1) (fun x2 =>
        bnd (su σ1 (0, (tn a1)) 1 a3) (fun σ4 =>
        some (.inl (x2, σ4))))
      else
        some (.inr σ1)
    else
      some (.inr σ1)) (fun σ3 =>
    some ((-2 : Int32), σ3))))
  else
    some ((-2 : Int32), σ)
set_option maxRecDepth 20000 in
set_option maxHeartbeats 4000000 in
theorem kX8_change (G : Gx) (d : Nat) (hdp : 2 ≤ d) (σ : St) (a1 : Int32) (a2 : Int32) (a3 : Int32)  {v0 : Int32} {σ' : St} (h : fX8_change σ a1 a2 a3 = some (v0, σ')) : MS G d yX8_change cX8_change 6 (some .int) [.ref (G.2.1 (8, 0)), .int a1, .int a2, .int a3] σ (some (.int v0)) σ' := by
  refine MS_of (by decide) (Nat.le_of_ble_eq_true rfl) rfl (fun K hG hnL C hR hK => ?_) (by omega)
  subst hG
  show TW K 0 [(0, rv K (8, 0)), (1, .int a1), (2, .int a2), (3, .int a3)] [] σ
  unfold fX8_change at h
  refine tw_aload_n (i := 0) (z := 0) (r := (8, 0)) C dX8_change_0 rfl rfl ?_
  refine tw_iload_n (i := 1) (z := 1) C dX8_change_1 rfl rfl ?_
  refine tw_callV (As := [.int a1]) (rest := []) (r := (8, 0)) C hR (kX8_isClub K.1 _ (by omega) σ a1  rfl) mi_X8_isClub is_X8_isClub se_X8_isClub ml_RX8_214 (wcells_mem (f := 8) (j := 0) (by decide) (by decide)) rfl rfl rfl rfl (Nat.le_of_ble_eq_true rfl) dX8_change_2 ?_
  show TW K 5 [(0, rv K (8, 0)), (1, .int a1), (2, .int a2), (3, .int a3)] [.int (b2i (fX8_isClub σ a1))] σ
  refine tw_if_ne (tgt := 11) C dX8_change_5 (by decide) (fun hc1 => ?_) (fun hc1 => ?_)
  · have ht1 := ite_t (b2i_nz hc1) h
    refine tw_aload_n (i := 0) (z := 0) (r := (8, 0)) C dX8_change_11 rfl rfl ?_
    refine tw_getR (g := 25) (z := 0) (j' := 0) C fl_RX8_23 rfl (wcells_mem (f := 8) (j := 0) (by decide) (by decide)) rfl rfl dX8_change_12 ?_
    refine tw_iload_n (i := 1) (z := 1) C dX8_change_15 rfl rfl ?_
    obtain ⟨hb2, eh2⟩ := grd_some ht1
    refine tw_aald (g := 0) C rfl 5 "ElevenCodes$Club" (fun _ => rfl) (by decide) (by decide) (wcells_mem (f := 25) (j := 0) (by decide) (by decide)) hb2 dX8_change_16 ?_
    refine tw_astore (r := (0, (tn a1))) (lv' := [(0, rv K (8, 0)), (1, .int a1), (2, .int a2), (3, .int a3), (4, rv K (0, (tn a1)))]) C [1, 2, 3, 4, 0] dX8_change_17 (by rw [hnL]; decide) rfl ?_
    refine tw_iload_n (i := 2) (z := 2) C dX8_change_19 rfl rfl ?_
    obtain ⟨y3, hx3, hy3⟩ := bj_some eh2
    have hJ3 : ∀ (σ1 : St), y3 = .inr σ1 → TW K 46 [(2, .int a2), (3, .int a3), (4, rv K (0, (tn a1)))] [] σ1 := by
      intro σ1 ey3
      have hq3 := bj_r ey3 hy3
      refine tw_iload_n (i := 2) (z := 0) C dX8_change_46 rfl rfl ?_
      refine tw_iconst (v := 1) C dX8_change_47 (by decide) ?_
      obtain ⟨y9, hx9, hy9⟩ := bj_some hq3
      have hJ9 : ∀ (σ3 : St), y9 = .inr σ3 → TW K 74 [] [] σ3 := by
        intro σ3 ey9
        have hq9 := bj_r ey9 hy9
        refine tw_bipush (v := (-2)) C dX8_change_74 (by decide) ?_
        refine tw_istore (lv' := [(5, .int (-2 : Int32))]) C [0] dX8_change_76 (by rw [hnL]; decide) rfl ?_
        refine tw_iload (i := 5) (z := 0) C dX8_change_78 rfl ?_
        obtain ⟨rfl, rfl⟩ := pj2 (Option.some.inj hq9)
        exact tw_iret C hK rfl rfl dX8_change_80
      refine tw_ic_ne (tgt := 74) C dX8_change_48 (by decide) (fun hc10 => ?_) (fun hc10 => ?_)
      · have ht10 := ite_f hc10 hx9
        refine tw_sub [] rfl ?_
        exact hJ9 _ (Option.some.inj ht10).symm
      · have hf10 := ite_t hc10 hx9
        refine tw_iload_n (i := 3) (z := 1) C dX8_change_51 rfl rfl ?_
        refine tw_callS (As := [.int a3]) (rest := []) C hR (kX8_isItemSet K.1 _ (by omega) σ1 a3  rfl) mi_X8_isItemSet st_X8_isItemSet ml_RX8_151 rfl rfl (Nat.le_of_ble_eq_true rfl) dX8_change_52 ?_
        show TW K 55 [(2, .int a2), (3, .int a3), (4, rv K (0, (tn a1)))] [.int (b2i (fX8_isItemSet a3))] σ1
        refine tw_if_eq (tgt := 74) C dX8_change_55 (by decide) (fun hc11 => ?_) (fun hc11 => ?_)
        · have ht11 := ite_f (b2i_z hc11) hf10
          refine tw_sub [] rfl ?_
          exact hJ9 _ (Option.some.inj ht11).symm
        · have hf11 := ite_t (b2i_nz hc11) hf10
          refine tw_aload (i := 4) (z := 2) (r := (0, (tn a1))) C dX8_change_58 rfl ?_
          refine tw_getI C fl_RX8_211 rfl (wcells_mem (f := 0) (j := (tn a1)) (by decide) (inb_lt hb2)) rfl dX8_change_60 ?_
          obtain ⟨x2, ex12, eh12⟩ := bnd_ex hf11
          refine tw_topi ex12.symm ?_
          refine tw_istore (lv' := [(2, .int a2), (3, .int a3), (4, rv K (0, (tn a1))), (5, .int x2)]) C [1, 2, 3, 0] dX8_change_63 (by rw [hnL]; decide) rfl ?_
          refine tw_aload (i := 4) (z := 2) (r := (0, (tn a1))) C dX8_change_65 rfl ?_
          refine tw_iload_n (i := 3) (z := 1) C dX8_change_67 rfl rfl ?_
          obtain ⟨σ4, es13, eh13⟩ := bnd_ex eh12
          refine tw_put C fl_RX8_211 (fun q hq => by cases hq; rfl) rfl (wcells_mem (f := 0) (j := (tn a1)) (by decide) (inb_lt hb2)) rfl rfl rfl dX8_change_68 ?_
          rw [es13]
          refine tw_goto (tgt := 78) C dX8_change_71 (by decide) ?_
          refine tw_iload (i := 5) (z := 3) C dX8_change_78 rfl ?_
          have e14 := bj_l eh13 hy9
          obtain ⟨rfl, rfl⟩ := pj2 (Option.some.inj e14)
          exact tw_iret C hK rfl rfl dX8_change_80
    refine tw_if_ne (tgt := 46) C dX8_change_20 (by decide) (fun hc4 => ?_) (fun hc4 => ?_)
    · have ht4 := ite_f hc4 hx3
      refine tw_sub [2, 3, 4] rfl ?_
      exact hJ3 _ (Option.some.inj ht4).symm
    · have hf4 := ite_t hc4 hx3
      refine tw_iload_n (i := 3) (z := 3) C dX8_change_23 rfl rfl ?_
      refine tw_callS (As := [.int a3]) (rest := []) C hR (kX8_isCode K.1 _ (by omega) σ a3  rfl) mi_X8_isCode st_X8_isCode ml_RX8_90 rfl rfl (Nat.le_of_ble_eq_true rfl) dX8_change_24 ?_
      show TW K 27 [(0, rv K (8, 0)), (1, .int a1), (2, .int a2), (3, .int a3), (4, rv K (0, (tn a1)))] [.int (b2i (fX8_isCode a3))] σ
      refine tw_if_eq (tgt := 46) C dX8_change_27 (by decide) (fun hc5 => ?_) (fun hc5 => ?_)
      · have ht5 := ite_f (b2i_z hc5) hf4
        refine tw_sub [2, 3, 4] rfl ?_
        exact hJ3 _ (Option.some.inj ht5).symm
      · have hf5 := ite_t (b2i_nz hc5) hf4
        refine tw_aload (i := 4) (z := 4) (r := (0, (tn a1))) C dX8_change_30 rfl ?_
        refine tw_getI C fl_RX8_208 rfl (wcells_mem (f := 0) (j := (tn a1)) (by decide) (inb_lt hb2)) rfl dX8_change_32 ?_
        obtain ⟨x1, ex6, eh6⟩ := bnd_ex hf5
        refine tw_topi ex6.symm ?_
        refine tw_istore (lv' := [(0, rv K (8, 0)), (1, .int a1), (2, .int a2), (3, .int a3), (4, rv K (0, (tn a1))), (5, .int x1)]) C [1, 2, 3, 4, 5, 0] dX8_change_35 (by rw [hnL]; decide) rfl ?_
        refine tw_aload (i := 4) (z := 4) (r := (0, (tn a1))) C dX8_change_37 rfl ?_
        refine tw_iload_n (i := 3) (z := 3) C dX8_change_39 rfl rfl ?_
        obtain ⟨σ2, es7, eh7⟩ := bnd_ex eh6
        refine tw_put C fl_RX8_208 (fun q hq => by cases hq; rfl) rfl (wcells_mem (f := 0) (j := (tn a1)) (by decide) (inb_lt hb2)) rfl rfl rfl dX8_change_40 ?_
        rw [es7]
        refine tw_goto (tgt := 78) C dX8_change_43 (by decide) ?_
        refine tw_iload (i := 5) (z := 5) C dX8_change_78 rfl ?_
        have e8 := bj_l eh7 hy3
        obtain ⟨rfl, rfl⟩ := pj2 (Option.some.inj e8)
        exact tw_iret C hK rfl rfl dX8_change_80
  · have hf1 := ite_f (b2i_z hc1) h
    refine tw_bipush (v := (-2)) C dX8_change_8 (by decide) ?_
    obtain ⟨rfl, rfl⟩ := pj2 (Option.some.inj hf1)
    exact tw_iret C hK rfl rfl dX8_change_10

set_option maxRecDepth 20000 in
def fX8_areTwoClubs (σ : St) (a1 : Int32) (a2 : Int32) : Bool :=
  if (fX8_isClub σ a1) = true then
    if (fX8_isClub σ a2) = true then
      if a1 = a2 then
        false
      else
        true
    else
      false
  else
    false
set_option maxRecDepth 20000 in
set_option maxHeartbeats 4000000 in
theorem kX8_areTwoClubs (G : Gx) (d : Nat) (hdp : 2 ≤ d) (σ : St) (a1 : Int32) (a2 : Int32)  {v0 : Bool} (h : fX8_areTwoClubs σ a1 a2 = v0) : MS G d yX8_areTwoClubs cX8_areTwoClubs 3 (some .boolean) [.ref (G.2.1 (8, 0)), .int a1, .int a2] σ (some (.int (b2i v0))) σ := by
  refine MS_of (by decide) (Nat.le_of_ble_eq_true rfl) rfl (fun K hG hnL C hR hK => ?_) (by omega)
  subst hG
  show TW K 0 [(0, rv K (8, 0)), (1, .int a1), (2, .int a2)] [] σ
  unfold fX8_areTwoClubs at h
  refine tw_aload_n (i := 0) (z := 0) (r := (8, 0)) C dX8_areTwoClubs_0 rfl rfl ?_
  refine tw_iload_n (i := 1) (z := 1) C dX8_areTwoClubs_1 rfl rfl ?_
  refine tw_callV (As := [.int a1]) (rest := []) (r := (8, 0)) C hR (kX8_isClub K.1 _ (by omega) σ a1  rfl) mi_X8_isClub is_X8_isClub se_X8_isClub ml_RX8_214 (wcells_mem (f := 8) (j := 0) (by decide) (by decide)) rfl rfl rfl rfl (Nat.le_of_ble_eq_true rfl) dX8_areTwoClubs_2 ?_
  show TW K 5 [(0, rv K (8, 0)), (1, .int a1), (2, .int a2)] [.int (b2i (fX8_isClub σ a1))] σ
  refine tw_if_eq (tgt := 25) C dX8_areTwoClubs_5 (by decide) (fun hc1 => ?_) (fun hc1 => ?_)
  · have ht1 := ite_f (b2i_z hc1) h
    refine tw_iconst (v := 0) C dX8_areTwoClubs_25 (by decide) ?_
    obtain rfl := ht1
    exact tw_zret C hK rfl rfl rfl dX8_areTwoClubs_26
  · have hf1 := ite_t (b2i_nz hc1) h
    refine tw_aload_n (i := 0) (z := 0) (r := (8, 0)) C dX8_areTwoClubs_8 rfl rfl ?_
    refine tw_iload_n (i := 2) (z := 2) C dX8_areTwoClubs_9 rfl rfl ?_
    refine tw_callV (As := [.int a2]) (rest := []) (r := (8, 0)) C hR (kX8_isClub K.1 _ (by omega) σ a2  rfl) mi_X8_isClub is_X8_isClub se_X8_isClub ml_RX8_214 (wcells_mem (f := 8) (j := 0) (by decide) (by decide)) rfl rfl rfl rfl (Nat.le_of_ble_eq_true rfl) dX8_areTwoClubs_10 ?_
    show TW K 13 [(0, rv K (8, 0)), (1, .int a1), (2, .int a2)] [.int (b2i (fX8_isClub σ a2))] σ
    refine tw_if_eq (tgt := 25) C dX8_areTwoClubs_13 (by decide) (fun hc2 => ?_) (fun hc2 => ?_)
    · have ht2 := ite_f (b2i_z hc2) hf1
      refine tw_iconst (v := 0) C dX8_areTwoClubs_25 (by decide) ?_
      obtain rfl := ht2
      exact tw_zret C hK rfl rfl rfl dX8_areTwoClubs_26
    · have hf2 := ite_t (b2i_nz hc2) hf1
      refine tw_iload_n (i := 1) (z := 1) C dX8_areTwoClubs_16 rfl rfl ?_
      refine tw_iload_n (i := 2) (z := 2) C dX8_areTwoClubs_17 rfl rfl ?_
      refine tw_ic_eq (tgt := 25) C dX8_areTwoClubs_18 (by decide) (fun hc3 => ?_) (fun hc3 => ?_)
      · have ht3 := ite_t hc3 hf2
        refine tw_iconst (v := 0) C dX8_areTwoClubs_25 (by decide) ?_
        obtain rfl := ht3
        exact tw_zret C hK rfl rfl rfl dX8_areTwoClubs_26
      · have hf3 := ite_f hc3 hf2
        refine tw_iconst (v := 1) C dX8_areTwoClubs_21 (by decide) ?_
        refine tw_goto (tgt := 26) C dX8_areTwoClubs_22 (by decide) ?_
        obtain rfl := hf3
        exact tw_zret C hK rfl rfl rfl dX8_areTwoClubs_26

set_option maxRecDepth 20000 in
def fX8_itemsOf (σ : St) (a1 : Int32) : Option (Rf) :=
  grd (inb a1 12) (
  grd (inb (σ (0, (tn a1)) 0) 11) (
  some (11, (tn (σ (0, (tn a1)) 0)))))
set_option maxRecDepth 20000 in
set_option maxHeartbeats 4000000 in
theorem kX8_itemsOf (G : Gx) (d : Nat) (hdp : 1 ≤ d) (σ : St) (a1 : Int32)  {v0 : Rf} (h : fX8_itemsOf σ a1 = some v0) : MS G d yX8_itemsOf cX8_itemsOf 2 (some (.array .int)) [.ref (G.2.1 (8, 0)), .int a1] σ (some (.ref (G.2.1 v0))) σ := by
  refine MS_of (by decide) (Nat.le_of_ble_eq_true rfl) rfl (fun K hG hnL C hR hK => ?_) (by omega)
  subst hG
  show TW K 0 [(0, rv K (8, 0)), (1, .int a1)] [] σ
  unfold fX8_itemsOf at h
  refine tw_aload_n (i := 0) (z := 0) (r := (8, 0)) C dX8_itemsOf_0 rfl rfl ?_
  refine tw_getR (g := 23) (z := 0) (j' := 0) C fl_RX8_11 rfl (wcells_mem (f := 8) (j := 0) (by decide) (by decide)) rfl rfl dX8_itemsOf_1 ?_
  refine tw_aload_n (i := 0) (z := 0) (r := (8, 0)) C dX8_itemsOf_4 rfl rfl ?_
  refine tw_getR (g := 25) (z := 0) (j' := 0) C fl_RX8_23 rfl (wcells_mem (f := 8) (j := 0) (by decide) (by decide)) rfl rfl dX8_itemsOf_5 ?_
  refine tw_iload_n (i := 1) (z := 1) C dX8_itemsOf_8 rfl rfl ?_
  obtain ⟨hb1, eh1⟩ := grd_some h
  refine tw_aald (g := 0) C rfl 5 "ElevenCodes$Club" (fun _ => rfl) (by decide) (by decide) (wcells_mem (f := 25) (j := 0) (by decide) (by decide)) hb1 dX8_itemsOf_9 ?_
  refine tw_getI C fl_RX8_208 rfl (wcells_mem (f := 0) (j := (tn a1)) (by decide) (inb_lt hb1)) rfl dX8_itemsOf_10 ?_
  obtain ⟨hb2, eh2⟩ := grd_some eh1
  refine tw_aald (g := 1) C rfl 3 "ElevenCodes$Code" (fun _ => rfl) (by decide) (by decide) (wcells_mem (f := 23) (j := 0) (by decide) (by decide)) hb2 dX8_itemsOf_13 ?_
  refine tw_getR (g := 11) (z := 0) (j' := (tn (σ (0, (tn a1)) 0))) C fl_RX8_108 rfl (wcells_mem (f := 1) (j := (tn (σ (0, (tn a1)) 0))) (by decide) (inb_lt hb2)) rfl rfl dX8_itemsOf_14 ?_
  obtain rfl := (Option.some.inj eh2)
  exact tw_aret C hK rfl rfl dX8_itemsOf_17

set_option maxRecDepth 20000 in
def fX8_atOdds (σ : St) (a1 : Int32) (a2 : Int32) : Option (Int32) :=
  obi (fX8_itemsOf σ a1) (fun x1 =>
  obi (fX8_itemsOf σ a2) (fun x2 =>
  obi (fX8_unlike σ x1 x2) (fun x3 =>
  grd (inb a1 12) (
  grd (inb a2 12) (
  some ((x3 &&& (σ (0, (tn a1)) 1)) &&& (σ (0, (tn a2)) 1)))))))
set_option maxRecDepth 20000 in
set_option maxHeartbeats 4000000 in
theorem kX8_atOdds (G : Gx) (d : Nat) (hdp : 2 ≤ d) (σ : St) (a1 : Int32) (a2 : Int32)  {v0 : Int32} (h : fX8_atOdds σ a1 a2 = some v0) : MS G d yX8_atOdds cX8_atOdds 3 (some .int) [.ref (G.2.1 (8, 0)), .int a1, .int a2] σ (some (.int v0)) σ := by
  refine MS_of (by decide) (Nat.le_of_ble_eq_true rfl) rfl (fun K hG hnL C hR hK => ?_) (by omega)
  subst hG
  show TW K 0 [(0, rv K (8, 0)), (1, .int a1), (2, .int a2)] [] σ
  unfold fX8_atOdds at h
  refine tw_aload_n (i := 0) (z := 0) (r := (8, 0)) C dX8_atOdds_0 rfl rfl ?_
  refine tw_iload_n (i := 1) (z := 1) C dX8_atOdds_1 rfl rfl ?_
  obtain ⟨x1, hv1, eh1⟩ := obi_some h
  refine tw_callV (As := [.int a1]) (rest := []) (r := (8, 0)) C hR (kX8_itemsOf K.1 _ (by omega) σ a1  hv1) mi_X8_itemsOf is_X8_itemsOf se_X8_itemsOf ml_RX8_236 (wcells_mem (f := 8) (j := 0) (by decide) (by decide)) rfl rfl rfl rfl (Nat.le_of_ble_eq_true rfl) dX8_atOdds_2 ?_
  show TW K 5 [(0, rv K (8, 0)), (1, .int a1), (2, .int a2)] [rv K x1] σ
  refine tw_aload_n (i := 0) (z := 0) (r := (8, 0)) C dX8_atOdds_5 rfl rfl ?_
  refine tw_iload_n (i := 2) (z := 2) C dX8_atOdds_6 rfl rfl ?_
  obtain ⟨x2, hv2, eh2⟩ := obi_some eh1
  refine tw_callV (As := [.int a2]) (rest := [rv K x1]) (r := (8, 0)) C hR (kX8_itemsOf K.1 _ (by omega) σ a2  hv2) mi_X8_itemsOf is_X8_itemsOf se_X8_itemsOf ml_RX8_236 (wcells_mem (f := 8) (j := 0) (by decide) (by decide)) rfl rfl rfl rfl (Nat.le_of_ble_eq_true rfl) dX8_atOdds_7 ?_
  show TW K 10 [(0, rv K (8, 0)), (1, .int a1), (2, .int a2)] [rv K x2, rv K x1] σ
  obtain ⟨x3, hv3, eh3⟩ := obi_some eh2
  refine tw_callS (As := [rv K x1, rv K x2]) (rest := []) C hR (kX8_unlike K.1 _ (by omega) σ x1 x2  hv3) mi_X8_unlike st_X8_unlike ml_RX8_120 rfl rfl (Nat.le_of_ble_eq_true rfl) dX8_atOdds_10 ?_
  show TW K 13 [(0, rv K (8, 0)), (1, .int a1), (2, .int a2)] [.int x3] σ
  refine tw_aload_n (i := 0) (z := 0) (r := (8, 0)) C dX8_atOdds_13 rfl rfl ?_
  refine tw_getR (g := 25) (z := 0) (j' := 0) C fl_RX8_23 rfl (wcells_mem (f := 8) (j := 0) (by decide) (by decide)) rfl rfl dX8_atOdds_14 ?_
  refine tw_iload_n (i := 1) (z := 1) C dX8_atOdds_17 rfl rfl ?_
  obtain ⟨hb4, eh4⟩ := grd_some eh3
  refine tw_aald (g := 0) C rfl 5 "ElevenCodes$Club" (fun _ => rfl) (by decide) (by decide) (wcells_mem (f := 25) (j := 0) (by decide) (by decide)) hb4 dX8_atOdds_18 ?_
  refine tw_getI C fl_RX8_211 rfl (wcells_mem (f := 0) (j := (tn a1)) (by decide) (inb_lt hb4)) rfl dX8_atOdds_19 ?_
  refine tw_iand C dX8_atOdds_22 ?_
  refine tw_aload_n (i := 0) (z := 0) (r := (8, 0)) C dX8_atOdds_23 rfl rfl ?_
  refine tw_getR (g := 25) (z := 0) (j' := 0) C fl_RX8_23 rfl (wcells_mem (f := 8) (j := 0) (by decide) (by decide)) rfl rfl dX8_atOdds_24 ?_
  refine tw_iload_n (i := 2) (z := 2) C dX8_atOdds_27 rfl rfl ?_
  obtain ⟨hb5, eh5⟩ := grd_some eh4
  refine tw_aald (g := 0) C rfl 5 "ElevenCodes$Club" (fun _ => rfl) (by decide) (by decide) (wcells_mem (f := 25) (j := 0) (by decide) (by decide)) hb5 dX8_atOdds_28 ?_
  refine tw_getI C fl_RX8_211 rfl (wcells_mem (f := 0) (j := (tn a2)) (by decide) (inb_lt hb5)) rfl dX8_atOdds_29 ?_
  refine tw_iand C dX8_atOdds_32 ?_
  obtain rfl := (Option.some.inj eh5)
  exact tw_iret C hK rfl rfl dX8_atOdds_33

set_option maxRecDepth 20000 in
def fX8_agree (σ : St) (a1 : Int32) (a2 : Int32) : Option (Int32) :=
  if (fX8_areTwoClubs σ a1 a2) = true then
    obi (fX8_atOdds σ a1 a2) (fun x1 =>
    if x1 = 0 then
      some (1 : Int32)
    else
      some (0 : Int32))
  else
    some (-2 : Int32)
set_option maxRecDepth 20000 in
set_option maxHeartbeats 4000000 in
theorem kX8_agree (G : Gx) (d : Nat) (hdp : 3 ≤ d) (σ : St) (a1 : Int32) (a2 : Int32)  {v0 : Int32} (h : fX8_agree σ a1 a2 = some v0) : MS G d yX8_agree cX8_agree 3 (some .int) [.ref (G.2.1 (8, 0)), .int a1, .int a2] σ (some (.int v0)) σ := by
  refine MS_of (by decide) (Nat.le_of_ble_eq_true rfl) rfl (fun K hG hnL C hR hK => ?_) (by omega)
  subst hG
  show TW K 0 [(0, rv K (8, 0)), (1, .int a1), (2, .int a2)] [] σ
  unfold fX8_agree at h
  refine tw_aload_n (i := 0) (z := 0) (r := (8, 0)) C dX8_agree_0 rfl rfl ?_
  refine tw_iload_n (i := 1) (z := 1) C dX8_agree_1 rfl rfl ?_
  refine tw_iload_n (i := 2) (z := 2) C dX8_agree_2 rfl rfl ?_
  refine tw_callV (As := [.int a1, .int a2]) (rest := []) (r := (8, 0)) C hR (kX8_areTwoClubs K.1 _ (by omega) σ a1 a2  rfl) mi_X8_areTwoClubs is_X8_areTwoClubs se_X8_areTwoClubs ml_RX8_217 (wcells_mem (f := 8) (j := 0) (by decide) (by decide)) rfl rfl rfl rfl (Nat.le_of_ble_eq_true rfl) dX8_agree_3 ?_
  show TW K 6 [(0, rv K (8, 0)), (1, .int a1), (2, .int a2)] [.int (b2i (fX8_areTwoClubs σ a1 a2))] σ
  refine tw_if_ne (tgt := 12) C dX8_agree_6 (by decide) (fun hc1 => ?_) (fun hc1 => ?_)
  · have ht1 := ite_t (b2i_nz hc1) h
    refine tw_aload_n (i := 0) (z := 0) (r := (8, 0)) C dX8_agree_12 rfl rfl ?_
    refine tw_iload_n (i := 1) (z := 1) C dX8_agree_13 rfl rfl ?_
    refine tw_iload_n (i := 2) (z := 2) C dX8_agree_14 rfl rfl ?_
    obtain ⟨x1, hv2, eh2⟩ := obi_some ht1
    refine tw_callV (As := [.int a1, .int a2]) (rest := []) (r := (8, 0)) C hR (kX8_atOdds K.1 _ (by omega) σ a1 a2  hv2) mi_X8_atOdds is_X8_atOdds se_X8_atOdds ml_RX8_221 (wcells_mem (f := 8) (j := 0) (by decide) (by decide)) rfl rfl rfl rfl (Nat.le_of_ble_eq_true rfl) dX8_agree_15 ?_
    show TW K 18 [(0, rv K (8, 0)), (1, .int a1), (2, .int a2)] [.int x1] σ
    refine tw_if_ne (tgt := 25) C dX8_agree_18 (by decide) (fun hc3 => ?_) (fun hc3 => ?_)
    · have ht3 := ite_f hc3 eh2
      refine tw_iconst (v := 0) C dX8_agree_25 (by decide) ?_
      obtain rfl := (Option.some.inj ht3)
      exact tw_iret C hK rfl rfl dX8_agree_26
    · have hf3 := ite_t hc3 eh2
      refine tw_iconst (v := 1) C dX8_agree_21 (by decide) ?_
      refine tw_goto (tgt := 26) C dX8_agree_22 (by decide) ?_
      obtain rfl := (Option.some.inj hf3)
      exact tw_iret C hK rfl rfl dX8_agree_26
  · have hf1 := ite_f (b2i_z hc1) h
    refine tw_bipush (v := (-2)) C dX8_agree_9 (by decide) ?_
    obtain rfl := (Option.some.inj hf1)
    exact tw_iret C hK rfl rfl dX8_agree_11

set_option maxRecDepth 20000 in
def fX8_givenBy (σ : St) (a1 : Int32) (a2 : Int32) : Option (Int32) :=
  obi (fX8_itemsOf σ a1) (fun x1 =>
  obi (fX8_itemsOf σ a2) (fun x2 =>
  obi (fX8_unlike σ x1 x2) (fun x3 =>
  if a2 ≤ a1 then
    grd (inb a1 12) (
    some (x3 &&& ((σ (0, (tn a1)) 1) ^^^ (-1 : Int32))))
  else
    grd (inb a2 12) (
    some (x3 &&& (σ (0, (tn a2)) 1))))))
set_option maxRecDepth 20000 in
set_option maxHeartbeats 4000000 in
theorem kX8_givenBy (G : Gx) (d : Nat) (hdp : 2 ≤ d) (σ : St) (a1 : Int32) (a2 : Int32)  {v0 : Int32} (h : fX8_givenBy σ a1 a2 = some v0) : MS G d yX8_givenBy cX8_givenBy 4 (some .int) [.ref (G.2.1 (8, 0)), .int a1, .int a2] σ (some (.int v0)) σ := by
  refine MS_of (by decide) (Nat.le_of_ble_eq_true rfl) rfl (fun K hG hnL C hR hK => ?_) (by omega)
  subst hG
  show TW K 0 [(0, rv K (8, 0)), (1, .int a1), (2, .int a2)] [] σ
  unfold fX8_givenBy at h
  refine tw_aload_n (i := 0) (z := 0) (r := (8, 0)) C dX8_givenBy_0 rfl rfl ?_
  refine tw_iload_n (i := 1) (z := 1) C dX8_givenBy_1 rfl rfl ?_
  obtain ⟨x1, hv1, eh1⟩ := obi_some h
  refine tw_callV (As := [.int a1]) (rest := []) (r := (8, 0)) C hR (kX8_itemsOf K.1 _ (by omega) σ a1  hv1) mi_X8_itemsOf is_X8_itemsOf se_X8_itemsOf ml_RX8_236 (wcells_mem (f := 8) (j := 0) (by decide) (by decide)) rfl rfl rfl rfl (Nat.le_of_ble_eq_true rfl) dX8_givenBy_2 ?_
  show TW K 5 [(0, rv K (8, 0)), (1, .int a1), (2, .int a2)] [rv K x1] σ
  refine tw_aload_n (i := 0) (z := 0) (r := (8, 0)) C dX8_givenBy_5 rfl rfl ?_
  refine tw_iload_n (i := 2) (z := 2) C dX8_givenBy_6 rfl rfl ?_
  obtain ⟨x2, hv2, eh2⟩ := obi_some eh1
  refine tw_callV (As := [.int a2]) (rest := [rv K x1]) (r := (8, 0)) C hR (kX8_itemsOf K.1 _ (by omega) σ a2  hv2) mi_X8_itemsOf is_X8_itemsOf se_X8_itemsOf ml_RX8_236 (wcells_mem (f := 8) (j := 0) (by decide) (by decide)) rfl rfl rfl rfl (Nat.le_of_ble_eq_true rfl) dX8_givenBy_7 ?_
  show TW K 10 [(0, rv K (8, 0)), (1, .int a1), (2, .int a2)] [rv K x2, rv K x1] σ
  obtain ⟨x3, hv3, eh3⟩ := obi_some eh2
  refine tw_callS (As := [rv K x1, rv K x2]) (rest := []) C hR (kX8_unlike K.1 _ (by omega) σ x1 x2  hv3) mi_X8_unlike st_X8_unlike ml_RX8_120 rfl rfl (Nat.le_of_ble_eq_true rfl) dX8_givenBy_10 ?_
  show TW K 13 [(0, rv K (8, 0)), (1, .int a1), (2, .int a2)] [.int x3] σ
  refine tw_istore_n (lv' := [(0, rv K (8, 0)), (1, .int a1), (2, .int a2), (3, .int x3)]) C [1, 2, 3, 0] dX8_givenBy_13 rfl (by rw [hnL]; decide) rfl ?_
  refine tw_iload_n (i := 1) (z := 1) C dX8_givenBy_14 rfl rfl ?_
  refine tw_iload_n (i := 2) (z := 2) C dX8_givenBy_15 rfl rfl ?_
  refine tw_ic_ge (tgt := 33) C dX8_givenBy_16 (by decide) (fun hc4 => ?_) (fun hc4 => ?_)
  · have ht4 := ite_t hc4 eh3
    refine tw_iload_n (i := 3) (z := 3) C dX8_givenBy_33 rfl rfl ?_
    refine tw_aload_n (i := 0) (z := 0) (r := (8, 0)) C dX8_givenBy_34 rfl rfl ?_
    refine tw_getR (g := 25) (z := 0) (j' := 0) C fl_RX8_23 rfl (wcells_mem (f := 8) (j := 0) (by decide) (by decide)) rfl rfl dX8_givenBy_35 ?_
    refine tw_iload_n (i := 1) (z := 1) C dX8_givenBy_38 rfl rfl ?_
    obtain ⟨hb5, eh5⟩ := grd_some ht4
    refine tw_aald (g := 0) C rfl 5 "ElevenCodes$Club" (fun _ => rfl) (by decide) (by decide) (wcells_mem (f := 25) (j := 0) (by decide) (by decide)) hb5 dX8_givenBy_39 ?_
    refine tw_getI C fl_RX8_211 rfl (wcells_mem (f := 0) (j := (tn a1)) (by decide) (inb_lt hb5)) rfl dX8_givenBy_40 ?_
    refine tw_iconst (v := (-1)) C dX8_givenBy_43 (by decide) ?_
    refine tw_ixor C dX8_givenBy_44 ?_
    refine tw_iand C dX8_givenBy_45 ?_
    obtain rfl := (Option.some.inj eh5)
    exact tw_iret C hK rfl rfl dX8_givenBy_46
  · have hf4 := ite_f hc4 eh3
    refine tw_iload_n (i := 3) (z := 3) C dX8_givenBy_19 rfl rfl ?_
    refine tw_aload_n (i := 0) (z := 0) (r := (8, 0)) C dX8_givenBy_20 rfl rfl ?_
    refine tw_getR (g := 25) (z := 0) (j' := 0) C fl_RX8_23 rfl (wcells_mem (f := 8) (j := 0) (by decide) (by decide)) rfl rfl dX8_givenBy_21 ?_
    refine tw_iload_n (i := 2) (z := 2) C dX8_givenBy_24 rfl rfl ?_
    obtain ⟨hb6, eh6⟩ := grd_some hf4
    refine tw_aald (g := 0) C rfl 5 "ElevenCodes$Club" (fun _ => rfl) (by decide) (by decide) (wcells_mem (f := 25) (j := 0) (by decide) (by decide)) hb6 dX8_givenBy_25 ?_
    refine tw_getI C fl_RX8_211 rfl (wcells_mem (f := 0) (j := (tn a2)) (by decide) (inb_lt hb6)) rfl dX8_givenBy_26 ?_
    refine tw_iand C dX8_givenBy_29 ?_
    refine tw_goto (tgt := 46) C dX8_givenBy_30 (by decide) ?_
    obtain rfl := (Option.some.inj eh6)
    exact tw_iret C hK rfl rfl dX8_givenBy_46

