set_option maxRecDepth 20000 in
def fX7_isPart (a0 : Int32) (a1 : Int32) : Bool :=
  if (a0 &&& (a1 ^^^ (-1 : Int32))) = 0 then
    if (irm (fJ6_bitCount_0f7a4 a0) (2 : Int32)) = 0 then
      true
    else
      false
  else
    false
set_option maxRecDepth 20000 in
set_option maxHeartbeats 4000000 in
theorem kX7_isPart (G : Gx) (d : Nat) (hdp : 2 ≤ d) (σ : St) (a0 : Int32) (a1 : Int32)  {v0 : Bool} (h : fX7_isPart a0 a1 = v0) : MS G d yX7_isPart cX7_isPart 2 (some .boolean) [.int a0, .int a1] σ (some (.int (b2i v0))) σ := by
  refine MS_of (by decide) (Nat.le_of_ble_eq_true rfl) rfl (fun K hG hnL C hR hK => ?_) (by omega)
  subst hG
  show TW K 0 [(0, .int a0), (1, .int a1)] [] σ
  unfold fX7_isPart at h
  refine tw_iload_n (i := 0) (z := 0) C dX7_isPart_0 rfl rfl ?_
  refine tw_iload_n (i := 1) (z := 1) C dX7_isPart_1 rfl rfl ?_
  refine tw_iconst (v := (-1)) C dX7_isPart_2 (by decide) ?_
  refine tw_ixor C dX7_isPart_3 ?_
  refine tw_iand C dX7_isPart_4 ?_
  refine tw_if_ne (tgt := 21) C dX7_isPart_5 (by decide) (fun hc1 => ?_) (fun hc1 => ?_)
  · have ht1 := ite_f hc1 h
    refine tw_iconst (v := 0) C dX7_isPart_21 (by decide) ?_
    obtain rfl := ht1
    exact tw_zret C hK rfl rfl rfl dX7_isPart_22
  · have hf1 := ite_t hc1 h
    refine tw_iload_n (i := 0) (z := 0) C dX7_isPart_8 rfl rfl ?_
    refine tw_callS (As := [.int a0]) (rest := []) C hR (kJ6_bitCount_0f7a4 K.1 _ (by omega) σ a0  rfl) mi_J6_bitCount_0f7a4 st_J6_bitCount_0f7a4 ml_RX7_42 rfl rfl (Nat.le_of_ble_eq_true rfl) dX7_isPart_9 ?_
    show TW K 12 [(0, .int a0), (1, .int a1)] [.int (fJ6_bitCount_0f7a4 a0)] σ
    refine tw_iconst (v := 2) C dX7_isPart_12 (by decide) ?_
    refine tw_irem C dX7_isPart_13 (by decide) ?_
    refine tw_if_ne (tgt := 21) C dX7_isPart_14 (by decide) (fun hc2 => ?_) (fun hc2 => ?_)
    · have ht2 := ite_f hc2 hf1
      refine tw_iconst (v := 0) C dX7_isPart_21 (by decide) ?_
      obtain rfl := ht2
      exact tw_zret C hK rfl rfl rfl dX7_isPart_22
    · have hf2 := ite_t hc2 hf1
      refine tw_iconst (v := 1) C dX7_isPart_17 (by decide) ?_
      refine tw_goto (tgt := 22) C dX7_isPart_18 (by decide) ?_
      obtain rfl := hf2
      exact tw_zret C hK rfl rfl rfl dX7_isPart_22

set_option maxRecDepth 20000 in
def fJ6_numberOfTrailingZeros_0f7a4 (a0 : Int32) : Int32 :=
  bnd ((a0 ^^^ (-1 : Int32)) &&& (a0 - (1 : Int32))) (fun x1 =>
  if 0 < x1 then
    bnd (if x1 ≤ (65536 : Int32) then
      (x1, (1 : Int32))
    else
      bnd ((1 : Int32) + 16) (fun x4 =>
      bnd (ius x1 (16 : Int32)) (fun x5 =>
      (x5, x4)))) (fun (x2, x3) =>
    bnd (if x2 ≤ (256 : Int32) then
      (x2, x3)
    else
      bnd (x3 + 8) (fun x8 =>
      bnd (ius x2 (8 : Int32)) (fun x9 =>
      (x9, x8)))) (fun (x6, x7) =>
    bnd (if x6 ≤ (16 : Int32) then
      (x6, x7)
    else
      bnd (x7 + 4) (fun x12 =>
      bnd (ius x6 (4 : Int32)) (fun x13 =>
      (x13, x12)))) (fun (x10, x11) =>
    bnd (if x10 ≤ (4 : Int32) then
      (x10, x11)
    else
      bnd (x11 + 2) (fun x16 =>
      bnd (ius x10 (2 : Int32)) (fun x17 =>
      (x17, x16)))) (fun (x14, x15) =>
    x15 + (ius x14 (1 : Int32))))))
  else
    x1 &&& (32 : Int32))
set_option maxRecDepth 20000 in
set_option maxHeartbeats 4000000 in
theorem kJ6_numberOfTrailingZeros_0f7a4 (G : Gx) (d : Nat) (hdp : 1 ≤ d) (σ : St) (a0 : Int32)  {v0 : Int32} (h : fJ6_numberOfTrailingZeros_0f7a4 a0 = v0) : MS G d yJ6_numberOfTrailingZeros_0f7a4 cJ6_numberOfTrailingZeros_0f7a4 2 (some .int) [.int a0] σ (some (.int v0)) σ := by
  refine MS_of (by decide) (Nat.le_of_ble_eq_true rfl) rfl (fun K hG hnL C hR hK => ?_) (by omega)
  subst hG
  show TW K 0 [(0, .int a0)] [] σ
  unfold fJ6_numberOfTrailingZeros_0f7a4 at h
  refine tw_iload_n (i := 0) (z := 0) C dJ6_numberOfTrailingZeros_0f7a4_0 rfl rfl ?_
  refine tw_iconst (v := (-1)) C dJ6_numberOfTrailingZeros_0f7a4_1 (by decide) ?_
  refine tw_ixor C dJ6_numberOfTrailingZeros_0f7a4_2 ?_
  refine tw_iload_n (i := 0) (z := 0) C dJ6_numberOfTrailingZeros_0f7a4_3 rfl rfl ?_
  refine tw_iconst (v := 1) C dJ6_numberOfTrailingZeros_0f7a4_4 (by decide) ?_
  refine tw_isub C dJ6_numberOfTrailingZeros_0f7a4_5 ?_
  refine tw_iand C dJ6_numberOfTrailingZeros_0f7a4_6 ?_
  obtain ⟨x1, ex1, eh1⟩ := bnd_ex h
  refine tw_topi ex1.symm ?_
  refine tw_istore_n (lv' := [(0, .int x1)]) C [0] dJ6_numberOfTrailingZeros_0f7a4_7 rfl (by rw [hnL]; decide) rfl ?_
  refine tw_iload_n (i := 0) (z := 0) C dJ6_numberOfTrailingZeros_0f7a4_8 rfl rfl ?_
  refine tw_if_gt (tgt := 17) C dJ6_numberOfTrailingZeros_0f7a4_9 (by decide) (fun hc2 => ?_) (fun hc2 => ?_)
  · have ht2 := ite_t hc2 eh1
    refine tw_iconst (v := 1) C dJ6_numberOfTrailingZeros_0f7a4_17 (by decide) ?_
    refine tw_istore_n (lv' := [(0, .int x1), (1, .int (1 : Int32))]) C [1, 0] dJ6_numberOfTrailingZeros_0f7a4_18 rfl (by rw [hnL]; decide) rfl ?_
    refine tw_iload_n (i := 0) (z := 0) C dJ6_numberOfTrailingZeros_0f7a4_19 rfl rfl ?_
    refine tw_ldcw C cn_RJ6_264 dJ6_numberOfTrailingZeros_0f7a4_20 ?_
    obtain ⟨⟨x2, x3⟩, hx3, hq3⟩ := bnd_ex ht2
    have hJ3 : TW K 34 [(0, .int x2), (1, .int x3)] [] σ := by
      refine tw_iload_n (i := 0) (z := 0) C dJ6_numberOfTrailingZeros_0f7a4_34 rfl rfl ?_
      refine tw_sipush (v := 256) C dJ6_numberOfTrailingZeros_0f7a4_35 (by decide) ?_
      obtain ⟨⟨x6, x7⟩, hx7, hq7⟩ := bnd_ex hq3
      have hJ7 : TW K 49 [(0, .int x6), (1, .int x7)] [] σ := by
        refine tw_iload_n (i := 0) (z := 0) C dJ6_numberOfTrailingZeros_0f7a4_49 rfl rfl ?_
        refine tw_bipush (v := 16) C dJ6_numberOfTrailingZeros_0f7a4_50 (by decide) ?_
        obtain ⟨⟨x10, x11⟩, hx11, hq11⟩ := bnd_ex hq7
        have hJ11 : TW K 62 [(0, .int x10), (1, .int x11)] [] σ := by
          refine tw_iload_n (i := 0) (z := 0) C dJ6_numberOfTrailingZeros_0f7a4_62 rfl rfl ?_
          refine tw_iconst (v := 4) C dJ6_numberOfTrailingZeros_0f7a4_63 (by decide) ?_
          obtain ⟨⟨x14, x15⟩, hx15, hq15⟩ := bnd_ex hq11
          have hJ15 : TW K 74 [(0, .int x14), (1, .int x15)] [] σ := by
            refine tw_iload_n (i := 1) (z := 1) C dJ6_numberOfTrailingZeros_0f7a4_74 rfl rfl ?_
            refine tw_iload_n (i := 0) (z := 0) C dJ6_numberOfTrailingZeros_0f7a4_75 rfl rfl ?_
            refine tw_iconst (v := 1) C dJ6_numberOfTrailingZeros_0f7a4_76 (by decide) ?_
            refine tw_iushr C dJ6_numberOfTrailingZeros_0f7a4_77 ?_
            refine tw_iadd C dJ6_numberOfTrailingZeros_0f7a4_78 ?_
            obtain rfl := hq15
            exact tw_iret C hK rfl rfl dJ6_numberOfTrailingZeros_0f7a4_79
          refine tw_ic_le (tgt := 74) C dJ6_numberOfTrailingZeros_0f7a4_64 (by decide) (fun hc16 => ?_) (fun hc16 => ?_)
          · have ht16 := ite_t hc16 hx15
            obtain ⟨rfl, rfl⟩ := pj2 ht16
            exact hJ15
          · have hf16 := ite_f hc16 hx15
            obtain ⟨x16, ex17, eh17⟩ := bnd_ex hf16
            refine tw_iinc (z := 1) (v := x16) (lv' := [(0, .int x10), (1, .int x16)]) C [1, 0] dJ6_numberOfTrailingZeros_0f7a4_67 rfl ex17 (by rw [hnL]; decide) rfl ?_
            refine tw_iload_n (i := 0) (z := 0) C dJ6_numberOfTrailingZeros_0f7a4_70 rfl rfl ?_
            refine tw_iconst (v := 2) C dJ6_numberOfTrailingZeros_0f7a4_71 (by decide) ?_
            refine tw_iushr C dJ6_numberOfTrailingZeros_0f7a4_72 ?_
            obtain ⟨x17, ex18, eh18⟩ := bnd_ex eh17
            refine tw_topi ex18.symm ?_
            refine tw_istore_n (lv' := [(0, .int x17), (1, .int x16)]) C [0, 1] dJ6_numberOfTrailingZeros_0f7a4_73 rfl (by rw [hnL]; decide) rfl ?_
            obtain ⟨rfl, rfl⟩ := pj2 eh18
            exact hJ15
        refine tw_ic_le (tgt := 62) C dJ6_numberOfTrailingZeros_0f7a4_52 (by decide) (fun hc12 => ?_) (fun hc12 => ?_)
        · have ht12 := ite_t hc12 hx11
          obtain ⟨rfl, rfl⟩ := pj2 ht12
          exact hJ11
        · have hf12 := ite_f hc12 hx11
          obtain ⟨x12, ex13, eh13⟩ := bnd_ex hf12
          refine tw_iinc (z := 1) (v := x12) (lv' := [(0, .int x6), (1, .int x12)]) C [1, 0] dJ6_numberOfTrailingZeros_0f7a4_55 rfl ex13 (by rw [hnL]; decide) rfl ?_
          refine tw_iload_n (i := 0) (z := 0) C dJ6_numberOfTrailingZeros_0f7a4_58 rfl rfl ?_
          refine tw_iconst (v := 4) C dJ6_numberOfTrailingZeros_0f7a4_59 (by decide) ?_
          refine tw_iushr C dJ6_numberOfTrailingZeros_0f7a4_60 ?_
          obtain ⟨x13, ex14, eh14⟩ := bnd_ex eh13
          refine tw_topi ex14.symm ?_
          refine tw_istore_n (lv' := [(0, .int x13), (1, .int x12)]) C [0, 1] dJ6_numberOfTrailingZeros_0f7a4_61 rfl (by rw [hnL]; decide) rfl ?_
          obtain ⟨rfl, rfl⟩ := pj2 eh14
          exact hJ11
      refine tw_ic_le (tgt := 49) C dJ6_numberOfTrailingZeros_0f7a4_38 (by decide) (fun hc8 => ?_) (fun hc8 => ?_)
      · have ht8 := ite_t hc8 hx7
        obtain ⟨rfl, rfl⟩ := pj2 ht8
        exact hJ7
      · have hf8 := ite_f hc8 hx7
        obtain ⟨x8, ex9, eh9⟩ := bnd_ex hf8
        refine tw_iinc (z := 1) (v := x8) (lv' := [(0, .int x2), (1, .int x8)]) C [1, 0] dJ6_numberOfTrailingZeros_0f7a4_41 rfl ex9 (by rw [hnL]; decide) rfl ?_
        refine tw_iload_n (i := 0) (z := 0) C dJ6_numberOfTrailingZeros_0f7a4_44 rfl rfl ?_
        refine tw_bipush (v := 8) C dJ6_numberOfTrailingZeros_0f7a4_45 (by decide) ?_
        refine tw_iushr C dJ6_numberOfTrailingZeros_0f7a4_47 ?_
        obtain ⟨x9, ex10, eh10⟩ := bnd_ex eh9
        refine tw_topi ex10.symm ?_
        refine tw_istore_n (lv' := [(0, .int x9), (1, .int x8)]) C [0, 1] dJ6_numberOfTrailingZeros_0f7a4_48 rfl (by rw [hnL]; decide) rfl ?_
        obtain ⟨rfl, rfl⟩ := pj2 eh10
        exact hJ7
    refine tw_ic_le (tgt := 34) C dJ6_numberOfTrailingZeros_0f7a4_23 (by decide) (fun hc4 => ?_) (fun hc4 => ?_)
    · have ht4 := ite_t hc4 hx3
      obtain ⟨rfl, rfl⟩ := pj2 ht4
      exact hJ3
    · have hf4 := ite_f hc4 hx3
      obtain ⟨x4, ex5, eh5⟩ := bnd_ex hf4
      refine tw_iinc (z := 1) (v := x4) (lv' := [(0, .int x1), (1, .int x4)]) C [1, 0] dJ6_numberOfTrailingZeros_0f7a4_26 rfl ex5 (by rw [hnL]; decide) rfl ?_
      refine tw_iload_n (i := 0) (z := 0) C dJ6_numberOfTrailingZeros_0f7a4_29 rfl rfl ?_
      refine tw_bipush (v := 16) C dJ6_numberOfTrailingZeros_0f7a4_30 (by decide) ?_
      refine tw_iushr C dJ6_numberOfTrailingZeros_0f7a4_32 ?_
      obtain ⟨x5, ex6, eh6⟩ := bnd_ex eh5
      refine tw_topi ex6.symm ?_
      refine tw_istore_n (lv' := [(0, .int x5), (1, .int x4)]) C [0, 1] dJ6_numberOfTrailingZeros_0f7a4_33 rfl (by rw [hnL]; decide) rfl ?_
      obtain ⟨rfl, rfl⟩ := pj2 eh6
      exact hJ3
  · have hf2 := ite_f hc2 eh1
    refine tw_iload_n (i := 0) (z := 0) C dJ6_numberOfTrailingZeros_0f7a4_12 rfl rfl ?_
    refine tw_bipush (v := 32) C dJ6_numberOfTrailingZeros_0f7a4_13 (by decide) ?_
    refine tw_iand C dJ6_numberOfTrailingZeros_0f7a4_15 ?_
    obtain rfl := hf2
    exact tw_iret C hK rfl rfl dJ6_numberOfTrailingZeros_0f7a4_16

set_option maxRecDepth 20000 in
def fX7_canMeet (σ : St) (a1 : Int32) (a2 : Int32) (a3 : Int32) (a4 : Int32) : Option (Bool) :=
  if ((a1 >>> (a3 &&& 31)) &&& (1 : Int32)) = (1 : Int32) then
    grd (inb ((a2 * (12 : Int32)) + a3) 144) (
    if a4 < (σ (21, 0) (tn ((a2 * (12 : Int32)) + a3))) then
      some false
    else
      some true)
  else
    some false
set_option maxRecDepth 20000 in
set_option maxHeartbeats 4000000 in
theorem kX7_canMeet (G : Gx) (d : Nat) (hdp : 1 ≤ d) (σ : St) (a1 : Int32) (a2 : Int32) (a3 : Int32) (a4 : Int32)  {v0 : Bool} (h : fX7_canMeet σ a1 a2 a3 a4 = some v0) : MS G d yX7_canMeet cX7_canMeet 5 (some .boolean) [.ref (G.2.1 (7, 0)), .int a1, .int a2, .int a3, .int a4] σ (some (.int (b2i v0))) σ := by
  refine MS_of (by decide) (Nat.le_of_ble_eq_true rfl) rfl (fun K hG hnL C hR hK => ?_) (by omega)
  subst hG
  show TW K 0 [(0, rv K (7, 0)), (1, .int a1), (2, .int a2), (3, .int a3), (4, .int a4)] [] σ
  unfold fX7_canMeet at h
  refine tw_iload_n (i := 1) (z := 1) C dX7_canMeet_0 rfl rfl ?_
  refine tw_iload_n (i := 3) (z := 3) C dX7_canMeet_1 rfl rfl ?_
  refine tw_ishr C dX7_canMeet_2 ?_
  refine tw_iconst (v := 1) C dX7_canMeet_3 (by decide) ?_
  refine tw_iand C dX7_canMeet_4 ?_
  refine tw_iconst (v := 1) C dX7_canMeet_5 (by decide) ?_
  refine tw_ic_ne (tgt := 29) C dX7_canMeet_6 (by decide) (fun hc1 => ?_) (fun hc1 => ?_)
  · have ht1 := ite_f hc1 h
    refine tw_iconst (v := 0) C dX7_canMeet_29 (by decide) ?_
    obtain rfl := (Option.some.inj ht1)
    exact tw_zret C hK rfl rfl rfl dX7_canMeet_30
  · have hf1 := ite_t hc1 h
    refine tw_aload_n (i := 0) (z := 0) (r := (7, 0)) C dX7_canMeet_9 rfl rfl ?_
    refine tw_getR (g := 21) (z := 0) (j' := 0) C fl_RX7_9 rfl (wcells_mem (f := 7) (j := 0) (by decide) (by decide)) rfl rfl dX7_canMeet_10 ?_
    refine tw_iload_n (i := 2) (z := 2) C dX7_canMeet_13 rfl rfl ?_
    refine tw_bipush (v := 12) C dX7_canMeet_14 (by decide) ?_
    refine tw_imul C dX7_canMeet_16 ?_
    refine tw_iload_n (i := 3) (z := 3) C dX7_canMeet_17 rfl rfl ?_
    refine tw_iadd C dX7_canMeet_18 ?_
    obtain ⟨hb2, eh2⟩ := grd_some hf1
    refine tw_iald (r := (21, 0)) C (ia_of rfl (by decide)) hb2 dX7_canMeet_19 ?_
    refine tw_iload (i := 4) (z := 4) C dX7_canMeet_20 rfl ?_
    refine tw_ic_gt (tgt := 29) C dX7_canMeet_22 (by decide) (fun hc3 => ?_) (fun hc3 => ?_)
    · have ht3 := ite_t hc3 eh2
      refine tw_iconst (v := 0) C dX7_canMeet_29 (by decide) ?_
      obtain rfl := (Option.some.inj ht3)
      exact tw_zret C hK rfl rfl rfl dX7_canMeet_30
    · have hf3 := ite_f hc3 eh2
      refine tw_iconst (v := 1) C dX7_canMeet_25 (by decide) ?_
      refine tw_goto (tgt := 30) C dX7_canMeet_26 (by decide) ?_
      obtain rfl := (Option.some.inj hf3)
      exact tw_zret C hK rfl rfl rfl dX7_canMeet_30

set_option maxRecDepth 20000 in
def fX7_countDraws (σ : St) (a1 : Int32) (a2 : Int32) : Option (Int32 × St) :=
  bnd (su σ (22, 0) (tn (0 : Int32)) (1 : Int32)) (fun σ1 =>
  obi (lpF (fun (q4 : Int32 × St) => match q4 with
  | (x1, σ3) =>
  if a1 < x1 then
    some (.inr σ3)
  else
    obi (if (fX7_isPart x1 a1) = true then
      bnd (fJ6_numberOfTrailingZeros_0f7a4 x1) (fun x2 =>
      bnd (x2 + (1 : Int32)) (fun x3 =>
      obi (lpF (fun (q12 : Int32 × Int32) => match q12 with
      | (x5, x6) =>
      if (12 : Int32) ≤ x6 then
        some (.inr x5)
      else
        obi (fX7_canMeet σ3 x1 x2 x6 a2) (fun x7 =>
        obi (if x7 = true then
          grd (inb ((x1 ^^^ ((1 : Int32) <<< (x2 &&& 31))) ^^^ ((1 : Int32) <<< (x6 &&& 31))) 4096) (
          bnd (x5 + (σ3 (22, 0) (tn ((x1 ^^^ ((1 : Int32) <<< (x2 &&& 31))) ^^^ ((1 : Int32) <<< (x6 &&& 31)))))) (fun x9 =>
          some x9))
        else
          some x5) (fun x8 =>
        bnd (x6 + 1) (fun x10 =>
        some (.inl (x8, x10)))))) ((0 : Int32), x3)) (fun x4 =>
      grd (inb x1 4096) (bnd (su σ3 (22, 0) (tn x1) x4) (fun σ5 =>
      some σ5)))))
    else
      some σ3) (fun σ4 =>
    bnd (x1 + 1) (fun x11 =>
    some (.inl (x11, σ4))))) ((1 : Int32), σ1)) (fun σ2 =>
  grd (inb a1 4096) (
  some (σ2 (22, 0) (tn a1), σ2))))
set_option maxRecDepth 20000 in
set_option maxHeartbeats 4000000 in
theorem kX7_countDraws (G : Gx) (d : Nat) (hdp : 3 ≤ d) (σ : St) (a1 : Int32) (a2 : Int32)  {v0 : Int32} {σ' : St} (h : fX7_countDraws σ a1 a2 = some (v0, σ')) : MS G d yX7_countDraws cX7_countDraws 7 (some .int) [.ref (G.2.1 (7, 0)), .int a1, .int a2] σ (some (.int v0)) σ' := by
  refine MS_of (by decide) (Nat.le_of_ble_eq_true rfl) rfl (fun K hG hnL C hR hK => ?_) (by omega)
  subst hG
  show TW K 0 [(0, rv K (7, 0)), (1, .int a1), (2, .int a2)] [] σ
  unfold fX7_countDraws at h
  refine tw_aload_n (i := 0) (z := 0) (r := (7, 0)) C dX7_countDraws_0 rfl rfl ?_
  refine tw_getR (g := 22) (z := 0) (j' := 0) C fl_RX7_15 rfl (wcells_mem (f := 7) (j := 0) (by decide) (by decide)) rfl rfl dX7_countDraws_1 ?_
  refine tw_iconst (v := 0) C dX7_countDraws_4 (by decide) ?_
  refine tw_iconst (v := 1) C dX7_countDraws_5 (by decide) ?_
  obtain ⟨σ1, es2, eg2⟩ := bnd_ex h
  refine tw_iast (r := (22, 0)) C (wa_of rfl (by decide) (by decide)) (by decide) dX7_countDraws_6 ?_
  rw [es2]
  refine tw_iconst (v := 1) C dX7_countDraws_7 (by decide) ?_
  refine tw_istore_n (lv' := [(0, rv K (7, 0)), (1, .int a1), (2, .int a2), (3, .int (1 : Int32))]) C [1, 2, 3, 0] dX7_countDraws_8 rfl (by rw [hnL]; decide) rfl ?_
  obtain ⟨σ2, hx3, hq3⟩ := obi_some eg2
  have hJ3 : TW K 98 [(0, rv K (7, 0)), (1, .int a1)] [] σ2 := by
    refine tw_aload_n (i := 0) (z := 0) (r := (7, 0)) C dX7_countDraws_98 rfl rfl ?_
    refine tw_getR (g := 22) (z := 0) (j' := 0) C fl_RX7_15 rfl (wcells_mem (f := 7) (j := 0) (by decide) (by decide)) rfl rfl dX7_countDraws_99 ?_
    refine tw_iload_n (i := 1) (z := 1) C dX7_countDraws_102 rfl rfl ?_
    obtain ⟨hb24, eh24⟩ := grd_some hq3
    refine tw_iald (r := (22, 0)) C (ia_of rfl (by decide)) hb24 dX7_countDraws_103 ?_
    obtain ⟨rfl, rfl⟩ := pj2 (Option.some.inj eh24)
    exact tw_iret C hK rfl rfl dX7_countDraws_104
  refine lpF_ct (G := fun (q : Int32 × St) => match q with | (x1, σ3) => TW K 9 [(0, rv K (7, 0)), (1, .int a1), (2, .int a2), (3, .int x1)] [] σ3) ?_ hx3
  rintro ⟨x1, σ3⟩ w4 hx4 hk4
  show TW K 9 [(0, rv K (7, 0)), (1, .int a1), (2, .int a2), (3, .int x1)] [] σ3
  refine tw_iload_n (i := 3) (z := 3) C dX7_countDraws_9 rfl rfl ?_
  refine tw_iload_n (i := 1) (z := 1) C dX7_countDraws_10 rfl rfl ?_
  refine tw_ic_gt (tgt := 98) C dX7_countDraws_11 (by decide) (fun hc5 => ?_) (fun hc5 => ?_)
  · have ht5 := ite_t hc5 hx4
    refine tw_sub [0, 1] rfl ?_
    have e6 := lp_x ht5 hk4
    obtain rfl := (Option.some.inj e6)
    exact hJ3
  · have hf5 := ite_f hc5 hx4
    refine tw_iload_n (i := 3) (z := 3) C dX7_countDraws_14 rfl rfl ?_
    refine tw_iload_n (i := 1) (z := 1) C dX7_countDraws_15 rfl rfl ?_
    refine tw_callS (As := [.int x1, .int a1]) (rest := []) C hR (kX7_isPart K.1 _ (by omega) σ3 x1 a1  rfl) mi_X7_isPart st_X7_isPart ml_RX7_24 rfl rfl (Nat.le_of_ble_eq_true rfl) dX7_countDraws_16 ?_
    show TW K 19 [(0, rv K (7, 0)), (1, .int a1), (2, .int a2), (3, .int x1)] [.int (b2i (fX7_isPart x1 a1))] σ3
    obtain ⟨σ4, hx7, hq7⟩ := obi_some hf5
    have hJ7 : TW K 92 [(0, rv K (7, 0)), (1, .int a1), (2, .int a2), (3, .int x1)] [] σ4 := by
      obtain ⟨x11, ex23, eh23⟩ := bnd_ex hq7
      refine tw_iinc (z := 3) (v := x11) (lv' := [(0, rv K (7, 0)), (1, .int a1), (2, .int a2), (3, .int x11)]) C [1, 2, 3, 0] dX7_countDraws_92 rfl ex23 (by rw [hnL]; decide) rfl ?_
      refine tw_goto (tgt := 9) C dX7_countDraws_95 (by decide) ?_
      have hz := lp_c eh23 hk4
      exact hz
    refine tw_if_eq (tgt := 92) C dX7_countDraws_19 (by decide) (fun hc8 => ?_) (fun hc8 => ?_)
    · have ht8 := ite_f (b2i_z hc8) hx7
      obtain rfl := (Option.some.inj ht8)
      exact hJ7
    · have hf8 := ite_t (b2i_nz hc8) hx7
      refine tw_iload_n (i := 3) (z := 3) C dX7_countDraws_22 rfl rfl ?_
      refine tw_callS (As := [.int x1]) (rest := []) C hR (kJ6_numberOfTrailingZeros_0f7a4 K.1 _ (by omega) σ3 x1  rfl) mi_J6_numberOfTrailingZeros_0f7a4 st_J6_numberOfTrailingZeros_0f7a4 ml_RX7_28 rfl rfl (Nat.le_of_ble_eq_true rfl) dX7_countDraws_23 ?_
      show TW K 26 [(0, rv K (7, 0)), (1, .int a1), (2, .int a2), (3, .int x1)] [.int (fJ6_numberOfTrailingZeros_0f7a4 x1)] σ3
      obtain ⟨x2, ex9, eh9⟩ := bnd_ex hf8
      refine tw_topi ex9.symm ?_
      refine tw_istore (lv' := [(0, rv K (7, 0)), (1, .int a1), (2, .int a2), (3, .int x1), (4, .int x2)]) C [1, 2, 3, 4, 0] dX7_countDraws_26 (by rw [hnL]; decide) rfl ?_
      refine tw_iconst (v := 0) C dX7_countDraws_28 (by decide) ?_
      refine tw_istore (lv' := [(0, rv K (7, 0)), (1, .int a1), (2, .int a2), (3, .int x1), (4, .int x2), (5, .int (0 : Int32))]) C [1, 2, 3, 4, 5, 0] dX7_countDraws_29 (by rw [hnL]; decide) rfl ?_
      refine tw_iload (i := 4) (z := 4) C dX7_countDraws_31 rfl ?_
      refine tw_iconst (v := 1) C dX7_countDraws_33 (by decide) ?_
      refine tw_iadd C dX7_countDraws_34 ?_
      obtain ⟨x3, ex10, eh10⟩ := bnd_ex eh9
      refine tw_topi ex10.symm ?_
      refine tw_istore (lv' := [(0, rv K (7, 0)), (1, .int a1), (2, .int a2), (3, .int x1), (4, .int x2), (5, .int (0 : Int32)), (6, .int x3)]) C [1, 2, 3, 4, 5, 6, 0] dX7_countDraws_35 (by rw [hnL]; decide) rfl ?_
      obtain ⟨x4, hx11, hq11⟩ := obi_some eh10
      have hJ11 : TW K 84 [(0, rv K (7, 0)), (1, .int a1), (2, .int a2), (3, .int x1), (5, .int x4)] [] σ3 := by
        refine tw_aload_n (i := 0) (z := 0) (r := (7, 0)) C dX7_countDraws_84 rfl rfl ?_
        refine tw_getR (g := 22) (z := 0) (j' := 0) C fl_RX7_15 rfl (wcells_mem (f := 7) (j := 0) (by decide) (by decide)) rfl rfl dX7_countDraws_85 ?_
        refine tw_iload_n (i := 3) (z := 3) C dX7_countDraws_88 rfl rfl ?_
        refine tw_iload (i := 5) (z := 4) C dX7_countDraws_89 rfl ?_
        obtain ⟨hb21, eh21⟩ := grd_some hq11
        obtain ⟨σ5, es22, eg22⟩ := bnd_ex eh21
        refine tw_iast (r := (22, 0)) C (wa_of rfl (by decide) (by decide)) hb21 dX7_countDraws_91 ?_
        rw [es22]
        refine tw_sub [0, 1, 2, 3] rfl ?_
        obtain rfl := (Option.some.inj eg22)
        exact hJ7
      refine lpF_ct (G := fun (q : Int32 × Int32) => match q with | (x5, x6) => TW K 37 [(0, rv K (7, 0)), (1, .int a1), (2, .int a2), (3, .int x1), (4, .int x2), (5, .int x5), (6, .int x6)] [] σ3) ?_ hx11
      rintro ⟨x5, x6⟩ w12 hx12 hk12
      show TW K 37 [(0, rv K (7, 0)), (1, .int a1), (2, .int a2), (3, .int x1), (4, .int x2), (5, .int x5), (6, .int x6)] [] σ3
      refine tw_iload (i := 6) (z := 6) C dX7_countDraws_37 rfl ?_
      refine tw_bipush (v := 12) C dX7_countDraws_39 (by decide) ?_
      refine tw_ic_ge (tgt := 84) C dX7_countDraws_41 (by decide) (fun hc13 => ?_) (fun hc13 => ?_)
      · have ht13 := ite_t hc13 hx12
        refine tw_sub [0, 1, 2, 3, 5] rfl ?_
        have e14 := lp_x ht13 hk12
        obtain rfl := (Option.some.inj e14)
        exact hJ11
      · have hf13 := ite_f hc13 hx12
        refine tw_aload_n (i := 0) (z := 0) (r := (7, 0)) C dX7_countDraws_44 rfl rfl ?_
        refine tw_iload_n (i := 3) (z := 3) C dX7_countDraws_45 rfl rfl ?_
        refine tw_iload (i := 4) (z := 4) C dX7_countDraws_46 rfl ?_
        refine tw_iload (i := 6) (z := 6) C dX7_countDraws_48 rfl ?_
        refine tw_iload_n (i := 2) (z := 2) C dX7_countDraws_50 rfl rfl ?_
        obtain ⟨x7, hv15, eh15⟩ := obi_some hf13
        refine tw_callV (As := [.int x1, .int x2, .int x6, .int a2]) (rest := []) (r := (7, 0)) C hR (kX7_canMeet K.1 _ (by omega) σ3 x1 x2 x6 a2  hv15) mi_X7_canMeet is_X7_canMeet se_X7_canMeet ml_RX7_34 (wcells_mem (f := 7) (j := 0) (by decide) (by decide)) rfl rfl rfl rfl (Nat.le_of_ble_eq_true rfl) dX7_countDraws_51 ?_
        show TW K 54 [(0, rv K (7, 0)), (1, .int a1), (2, .int a2), (3, .int x1), (4, .int x2), (5, .int x5), (6, .int x6)] [.int (b2i x7)] σ3
        obtain ⟨x8, hx16, hq16⟩ := obi_some eh15
        have hJ16 : TW K 78 [(0, rv K (7, 0)), (1, .int a1), (2, .int a2), (3, .int x1), (4, .int x2), (5, .int x8), (6, .int x6)] [] σ3 := by
          obtain ⟨x10, ex20, eh20⟩ := bnd_ex hq16
          refine tw_iinc (z := 6) (v := x10) (lv' := [(0, rv K (7, 0)), (1, .int a1), (2, .int a2), (3, .int x1), (4, .int x2), (5, .int x8), (6, .int x10)]) C [1, 2, 3, 4, 5, 6, 0] dX7_countDraws_78 rfl ex20 (by rw [hnL]; decide) rfl ?_
          refine tw_goto (tgt := 37) C dX7_countDraws_81 (by decide) ?_
          have hz := lp_c eh20 hk12
          exact hz
        refine tw_if_eq (tgt := 78) C dX7_countDraws_54 (by decide) (fun hc17 => ?_) (fun hc17 => ?_)
        · have ht17 := ite_f (b2i_z hc17) hx16
          obtain rfl := (Option.some.inj ht17)
          exact hJ16
        · have hf17 := ite_t (b2i_nz hc17) hx16
          refine tw_iload (i := 5) (z := 5) C dX7_countDraws_57 rfl ?_
          refine tw_aload_n (i := 0) (z := 0) (r := (7, 0)) C dX7_countDraws_59 rfl rfl ?_
          refine tw_getR (g := 22) (z := 0) (j' := 0) C fl_RX7_15 rfl (wcells_mem (f := 7) (j := 0) (by decide) (by decide)) rfl rfl dX7_countDraws_60 ?_
          refine tw_iload_n (i := 3) (z := 3) C dX7_countDraws_63 rfl rfl ?_
          refine tw_iconst (v := 1) C dX7_countDraws_64 (by decide) ?_
          refine tw_iload (i := 4) (z := 4) C dX7_countDraws_65 rfl ?_
          refine tw_ishl C dX7_countDraws_67 ?_
          refine tw_ixor C dX7_countDraws_68 ?_
          refine tw_iconst (v := 1) C dX7_countDraws_69 (by decide) ?_
          refine tw_iload (i := 6) (z := 6) C dX7_countDraws_70 rfl ?_
          refine tw_ishl C dX7_countDraws_72 ?_
          refine tw_ixor C dX7_countDraws_73 ?_
          obtain ⟨hb18, eh18⟩ := grd_some hf17
          refine tw_iald (r := (22, 0)) C (ia_of rfl (by decide)) hb18 dX7_countDraws_74 ?_
          refine tw_iadd C dX7_countDraws_75 ?_
          obtain ⟨x9, ex19, eh19⟩ := bnd_ex eh18
          refine tw_topi ex19.symm ?_
          refine tw_istore (lv' := [(0, rv K (7, 0)), (1, .int a1), (2, .int a2), (3, .int x1), (4, .int x2), (5, .int x9), (6, .int x6)]) C [1, 2, 3, 4, 5, 0, 6] dX7_countDraws_76 (by rw [hnL]; decide) rfl ?_
          obtain rfl := (Option.some.inj eh19)
          exact hJ16

set_option maxRecDepth 20000 in
def fX7_togetherWith (σ : St) (a1 : Int32) (a2 : Int32) (a3 : Int32) (a4 : Int32) : Option (Int32) :=
  obi (fX7_canMeet σ a1 a2 a3 a4) (fun x1 =>
  if x1 = true then
    grd (inb ((a1 ^^^ ((1 : Int32) <<< (a2 &&& 31))) ^^^ ((1 : Int32) <<< (a3 &&& 31))) 4096) (
    bnd (σ (22, 0) (tn ((a1 ^^^ ((1 : Int32) <<< (a2 &&& 31))) ^^^ ((1 : Int32) <<< (a3 &&& 31))))) (fun x2 =>
    if x2 = (-1 : Int32) then
      some (-1 : Int32)
    else
      grd (inb ((a2 * (12 : Int32)) + a3) 144) (
      some (x2 + (σ (21, 0) (tn ((a2 * (12 : Int32)) + a3)))))))
  else
    some (-1 : Int32))
set_option maxRecDepth 20000 in
set_option maxHeartbeats 4000000 in
theorem kX7_togetherWith (G : Gx) (d : Nat) (hdp : 2 ≤ d) (σ : St) (a1 : Int32) (a2 : Int32) (a3 : Int32) (a4 : Int32)  {v0 : Int32} (h : fX7_togetherWith σ a1 a2 a3 a4 = some v0) : MS G d yX7_togetherWith cX7_togetherWith 6 (some .int) [.ref (G.2.1 (7, 0)), .int a1, .int a2, .int a3, .int a4] σ (some (.int v0)) σ := by
  refine MS_of (by decide) (Nat.le_of_ble_eq_true rfl) rfl (fun K hG hnL C hR hK => ?_) (by omega)
  subst hG
  show TW K 0 [(0, rv K (7, 0)), (1, .int a1), (2, .int a2), (3, .int a3), (4, .int a4)] [] σ
  unfold fX7_togetherWith at h
  refine tw_aload_n (i := 0) (z := 0) (r := (7, 0)) C dX7_togetherWith_0 rfl rfl ?_
  refine tw_iload_n (i := 1) (z := 1) C dX7_togetherWith_1 rfl rfl ?_
  refine tw_iload_n (i := 2) (z := 2) C dX7_togetherWith_2 rfl rfl ?_
  refine tw_iload_n (i := 3) (z := 3) C dX7_togetherWith_3 rfl rfl ?_
  refine tw_iload (i := 4) (z := 4) C dX7_togetherWith_4 rfl ?_
  obtain ⟨x1, hv1, eh1⟩ := obi_some h
  refine tw_callV (As := [.int a1, .int a2, .int a3, .int a4]) (rest := []) (r := (7, 0)) C hR (kX7_canMeet K.1 _ (by omega) σ a1 a2 a3 a4  hv1) mi_X7_canMeet is_X7_canMeet se_X7_canMeet ml_RX7_34 (wcells_mem (f := 7) (j := 0) (by decide) (by decide)) rfl rfl rfl rfl (Nat.le_of_ble_eq_true rfl) dX7_togetherWith_6 ?_
  show TW K 9 [(0, rv K (7, 0)), (1, .int a1), (2, .int a2), (3, .int a3), (4, .int a4)] [.int (b2i x1)] σ
  refine tw_if_ne (tgt := 14) C dX7_togetherWith_9 (by decide) (fun hc2 => ?_) (fun hc2 => ?_)
  · have ht2 := ite_t (b2i_nz hc2) eh1
    refine tw_aload_n (i := 0) (z := 0) (r := (7, 0)) C dX7_togetherWith_14 rfl rfl ?_
    refine tw_getR (g := 22) (z := 0) (j' := 0) C fl_RX7_15 rfl (wcells_mem (f := 7) (j := 0) (by decide) (by decide)) rfl rfl dX7_togetherWith_15 ?_
    refine tw_iload_n (i := 1) (z := 1) C dX7_togetherWith_18 rfl rfl ?_
    refine tw_iconst (v := 1) C dX7_togetherWith_19 (by decide) ?_
    refine tw_iload_n (i := 2) (z := 2) C dX7_togetherWith_20 rfl rfl ?_
    refine tw_ishl C dX7_togetherWith_21 ?_
    refine tw_ixor C dX7_togetherWith_22 ?_
    refine tw_iconst (v := 1) C dX7_togetherWith_23 (by decide) ?_
    refine tw_iload_n (i := 3) (z := 3) C dX7_togetherWith_24 rfl rfl ?_
    refine tw_ishl C dX7_togetherWith_25 ?_
    refine tw_ixor C dX7_togetherWith_26 ?_
    obtain ⟨hb3, eh3⟩ := grd_some ht2
    refine tw_iald (r := (22, 0)) C (ia_of rfl (by decide)) hb3 dX7_togetherWith_27 ?_
    obtain ⟨x2, ex4, eh4⟩ := bnd_ex eh3
    refine tw_topi ex4.symm ?_
    refine tw_istore (lv' := [(0, rv K (7, 0)), (1, .int a1), (2, .int a2), (3, .int a3), (4, .int a4), (5, .int x2)]) C [1, 2, 3, 4, 5, 0] dX7_togetherWith_28 (by rw [hnL]; decide) rfl ?_
    refine tw_iload (i := 5) (z := 5) C dX7_togetherWith_30 rfl ?_
    refine tw_iconst (v := (-1)) C dX7_togetherWith_32 (by decide) ?_
    refine tw_ic_ne (tgt := 40) C dX7_togetherWith_33 (by decide) (fun hc5 => ?_) (fun hc5 => ?_)
    · have ht5 := ite_f hc5 eh4
      refine tw_iload (i := 5) (z := 5) C dX7_togetherWith_40 rfl ?_
      refine tw_aload_n (i := 0) (z := 0) (r := (7, 0)) C dX7_togetherWith_42 rfl rfl ?_
      refine tw_getR (g := 21) (z := 0) (j' := 0) C fl_RX7_9 rfl (wcells_mem (f := 7) (j := 0) (by decide) (by decide)) rfl rfl dX7_togetherWith_43 ?_
      refine tw_iload_n (i := 2) (z := 2) C dX7_togetherWith_46 rfl rfl ?_
      refine tw_bipush (v := 12) C dX7_togetherWith_47 (by decide) ?_
      refine tw_imul C dX7_togetherWith_49 ?_
      refine tw_iload_n (i := 3) (z := 3) C dX7_togetherWith_50 rfl rfl ?_
      refine tw_iadd C dX7_togetherWith_51 ?_
      obtain ⟨hb6, eh6⟩ := grd_some ht5
      refine tw_iald (r := (21, 0)) C (ia_of rfl (by decide)) hb6 dX7_togetherWith_52 ?_
      refine tw_iadd C dX7_togetherWith_53 ?_
      obtain rfl := (Option.some.inj eh6)
      exact tw_iret C hK rfl rfl dX7_togetherWith_54
    · have hf5 := ite_t hc5 eh4
      refine tw_iconst (v := (-1)) C dX7_togetherWith_36 (by decide) ?_
      refine tw_goto (tgt := 54) C dX7_togetherWith_37 (by decide) ?_
      obtain rfl := (Option.some.inj hf5)
      exact tw_iret C hK rfl rfl dX7_togetherWith_54
  · have hf2 := ite_f (b2i_z hc2) eh1
    refine tw_iconst (v := (-1)) C dX7_togetherWith_12 (by decide) ?_
    obtain rfl := (Option.some.inj hf2)
    exact tw_iret C hK rfl rfl dX7_togetherWith_13

set_option maxRecDepth 20000 in
def fX7_leastTogether (σ : St) (a1 : Int32) (a2 : Int32) : Option (Int32 × St) :=
  bnd (su σ (22, 0) (tn (0 : Int32)) (0 : Int32)) (fun σ1 =>
  obi (lpF (fun (q4 : Int32 × St) => match q4 with
  | (x1, σ3) =>
  if a1 < x1 then
    some (.inr σ3)
  else
    obi (if (fX7_isPart x1 a1) = true then
      grd (inb x1 4096) (bnd (su σ3 (22, 0) (tn x1) (-1 : Int32)) (fun σ5 =>
      bnd (fJ6_numberOfTrailingZeros_0f7a4 x1) (fun x2 =>
      bnd (x2 + (1 : Int32)) (fun x3 =>
      lpF (fun (q13 : Int32 × St) => match q13 with
      | (x4, σ6) =>
      if (12 : Int32) ≤ x4 then
        some (.inr σ6)
      else
        obi (fX7_togetherWith σ6 x1 x2 x4 a2) (fun x5 =>
        obi (if x5 = (-1 : Int32) then
          some σ6
        else
          grd (inb x1 4096) (
          bj (if (σ6 (22, 0) (tn x1)) = (-1 : Int32) then
            some (.inr ())
          else
            grd (inb x1 4096) (
            if (σ6 (22, 0) (tn x1)) ≤ x5 then
              some (.inl σ6)
            else
              some (.inr ()))) (fun _ =>
          grd (inb x1 4096) (bnd (su σ6 (22, 0) (tn x1) x5) (fun σ8 =>
          some σ8))))) (fun σ7 =>
        bnd (x4 + 1) (fun x6 =>
        some (.inl (x6, σ7)))))) (x3, σ5)))))
    else
      some σ3) (fun σ4 =>
    bnd (x1 + 1) (fun x7 =>
    some (.inl (x7, σ4))))) ((1 : Int32), σ1)) (fun σ2 =>
  grd (inb a1 4096) (
  some (σ2 (22, 0) (tn a1), σ2))))
set_option maxRecDepth 20000 in
set_option maxHeartbeats 4000000 in
theorem kX7_leastTogether (G : Gx) (d : Nat) (hdp : 3 ≤ d) (σ : St) (a1 : Int32) (a2 : Int32)  {v0 : Int32} {σ' : St} (h : fX7_leastTogether σ a1 a2 = some (v0, σ')) : MS G d yX7_leastTogether cX7_leastTogether 7 (some .int) [.ref (G.2.1 (7, 0)), .int a1, .int a2] σ (some (.int v0)) σ' := by
  refine MS_of (by decide) (Nat.le_of_ble_eq_true rfl) rfl (fun K hG hnL C hR hK => ?_) (by omega)
  subst hG
  show TW K 0 [(0, rv K (7, 0)), (1, .int a1), (2, .int a2)] [] σ
  unfold fX7_leastTogether at h
  refine tw_aload_n (i := 0) (z := 0) (r := (7, 0)) C dX7_leastTogether_0 rfl rfl ?_
  refine tw_getR (g := 22) (z := 0) (j' := 0) C fl_RX7_15 rfl (wcells_mem (f := 7) (j := 0) (by decide) (by decide)) rfl rfl dX7_leastTogether_1 ?_
  refine tw_iconst (v := 0) C dX7_leastTogether_4 (by decide) ?_
  refine tw_iconst (v := 0) C dX7_leastTogether_5 (by decide) ?_
  obtain ⟨σ1, es2, eg2⟩ := bnd_ex h
  refine tw_iast (r := (22, 0)) C (wa_of rfl (by decide) (by decide)) (by decide) dX7_leastTogether_6 ?_
  rw [es2]
  refine tw_iconst (v := 1) C dX7_leastTogether_7 (by decide) ?_
  refine tw_istore_n (lv' := [(0, rv K (7, 0)), (1, .int a1), (2, .int a2), (3, .int (1 : Int32))]) C [1, 2, 3, 0] dX7_leastTogether_8 rfl (by rw [hnL]; decide) rfl ?_
  obtain ⟨σ2, hx3, hq3⟩ := obi_some eg2
  have hJ3 : TW K 107 [(0, rv K (7, 0)), (1, .int a1)] [] σ2 := by
    refine tw_aload_n (i := 0) (z := 0) (r := (7, 0)) C dX7_leastTogether_107 rfl rfl ?_
    refine tw_getR (g := 22) (z := 0) (j' := 0) C fl_RX7_15 rfl (wcells_mem (f := 7) (j := 0) (by decide) (by decide)) rfl rfl dX7_leastTogether_108 ?_
    refine tw_iload_n (i := 1) (z := 1) C dX7_leastTogether_111 rfl rfl ?_
    obtain ⟨hb29, eh29⟩ := grd_some hq3
    refine tw_iald (r := (22, 0)) C (ia_of rfl (by decide)) hb29 dX7_leastTogether_112 ?_
    obtain ⟨rfl, rfl⟩ := pj2 (Option.some.inj eh29)
    exact tw_iret C hK rfl rfl dX7_leastTogether_113
  refine lpF_ct (G := fun (q : Int32 × St) => match q with | (x1, σ3) => TW K 9 [(0, rv K (7, 0)), (1, .int a1), (2, .int a2), (3, .int x1)] [] σ3) ?_ hx3
  rintro ⟨x1, σ3⟩ w4 hx4 hk4
  show TW K 9 [(0, rv K (7, 0)), (1, .int a1), (2, .int a2), (3, .int x1)] [] σ3
  refine tw_iload_n (i := 3) (z := 3) C dX7_leastTogether_9 rfl rfl ?_
  refine tw_iload_n (i := 1) (z := 1) C dX7_leastTogether_10 rfl rfl ?_
  refine tw_ic_gt (tgt := 107) C dX7_leastTogether_11 (by decide) (fun hc5 => ?_) (fun hc5 => ?_)
  · have ht5 := ite_t hc5 hx4
    refine tw_sub [0, 1] rfl ?_
    have e6 := lp_x ht5 hk4
    obtain rfl := (Option.some.inj e6)
    exact hJ3
  · have hf5 := ite_f hc5 hx4
    refine tw_iload_n (i := 3) (z := 3) C dX7_leastTogether_14 rfl rfl ?_
    refine tw_iload_n (i := 1) (z := 1) C dX7_leastTogether_15 rfl rfl ?_
    refine tw_callS (As := [.int x1, .int a1]) (rest := []) C hR (kX7_isPart K.1 _ (by omega) σ3 x1 a1  rfl) mi_X7_isPart st_X7_isPart ml_RX7_24 rfl rfl (Nat.le_of_ble_eq_true rfl) dX7_leastTogether_16 ?_
    show TW K 19 [(0, rv K (7, 0)), (1, .int a1), (2, .int a2), (3, .int x1)] [.int (b2i (fX7_isPart x1 a1))] σ3
    obtain ⟨σ4, hx7, hq7⟩ := obi_some hf5
    have hJ7 : TW K 101 [(0, rv K (7, 0)), (1, .int a1), (2, .int a2), (3, .int x1)] [] σ4 := by
      obtain ⟨x7, ex28, eh28⟩ := bnd_ex hq7
      refine tw_iinc (z := 3) (v := x7) (lv' := [(0, rv K (7, 0)), (1, .int a1), (2, .int a2), (3, .int x7)]) C [1, 2, 3, 0] dX7_leastTogether_101 rfl ex28 (by rw [hnL]; decide) rfl ?_
      refine tw_goto (tgt := 9) C dX7_leastTogether_104 (by decide) ?_
      have hz := lp_c eh28 hk4
      exact hz
    refine tw_if_eq (tgt := 101) C dX7_leastTogether_19 (by decide) (fun hc8 => ?_) (fun hc8 => ?_)
    · have ht8 := ite_f (b2i_z hc8) hx7
      obtain rfl := (Option.some.inj ht8)
      exact hJ7
    · have hf8 := ite_t (b2i_nz hc8) hx7
      refine tw_aload_n (i := 0) (z := 0) (r := (7, 0)) C dX7_leastTogether_22 rfl rfl ?_
      refine tw_getR (g := 22) (z := 0) (j' := 0) C fl_RX7_15 rfl (wcells_mem (f := 7) (j := 0) (by decide) (by decide)) rfl rfl dX7_leastTogether_23 ?_
      refine tw_iload_n (i := 3) (z := 3) C dX7_leastTogether_26 rfl rfl ?_
      refine tw_iconst (v := (-1)) C dX7_leastTogether_27 (by decide) ?_
      obtain ⟨hb9, eh9⟩ := grd_some hf8
      obtain ⟨σ5, es10, eg10⟩ := bnd_ex eh9
      refine tw_iast (r := (22, 0)) C (wa_of rfl (by decide) (by decide)) hb9 dX7_leastTogether_28 ?_
      rw [es10]
      refine tw_iload_n (i := 3) (z := 3) C dX7_leastTogether_29 rfl rfl ?_
      refine tw_callS (As := [.int x1]) (rest := []) C hR (kJ6_numberOfTrailingZeros_0f7a4 K.1 _ (by omega) σ5 x1  rfl) mi_J6_numberOfTrailingZeros_0f7a4 st_J6_numberOfTrailingZeros_0f7a4 ml_RX7_28 rfl rfl (Nat.le_of_ble_eq_true rfl) dX7_leastTogether_30 ?_
      show TW K 33 [(0, rv K (7, 0)), (1, .int a1), (2, .int a2), (3, .int x1)] [.int (fJ6_numberOfTrailingZeros_0f7a4 x1)] σ5
      obtain ⟨x2, ex11, eh11⟩ := bnd_ex eg10
      refine tw_topi ex11.symm ?_
      refine tw_istore (lv' := [(0, rv K (7, 0)), (1, .int a1), (2, .int a2), (3, .int x1), (4, .int x2)]) C [1, 2, 3, 4, 0] dX7_leastTogether_33 (by rw [hnL]; decide) rfl ?_
      refine tw_iload (i := 4) (z := 4) C dX7_leastTogether_35 rfl ?_
      refine tw_iconst (v := 1) C dX7_leastTogether_37 (by decide) ?_
      refine tw_iadd C dX7_leastTogether_38 ?_
      obtain ⟨x3, ex12, eh12⟩ := bnd_ex eh11
      refine tw_topi ex12.symm ?_
      refine tw_istore (lv' := [(0, rv K (7, 0)), (1, .int a1), (2, .int a2), (3, .int x1), (4, .int x2), (5, .int x3)]) C [1, 2, 3, 4, 5, 0] dX7_leastTogether_39 (by rw [hnL]; decide) rfl ?_
      refine lpF_ct (G := fun (q : Int32 × St) => match q with | (x4, σ6) => TW K 41 [(0, rv K (7, 0)), (1, .int a1), (2, .int a2), (3, .int x1), (4, .int x2), (5, .int x4)] [] σ6) ?_ eh12
      rintro ⟨x4, σ6⟩ w13 hx13 hk13
      show TW K 41 [(0, rv K (7, 0)), (1, .int a1), (2, .int a2), (3, .int x1), (4, .int x2), (5, .int x4)] [] σ6
      refine tw_iload (i := 5) (z := 5) C dX7_leastTogether_41 rfl ?_
      refine tw_bipush (v := 12) C dX7_leastTogether_43 (by decide) ?_
      refine tw_ic_ge (tgt := 101) C dX7_leastTogether_45 (by decide) (fun hc14 => ?_) (fun hc14 => ?_)
      · have ht14 := ite_t hc14 hx13
        refine tw_sub [0, 1, 2, 3] rfl ?_
        have e15 := lp_x ht14 hk13
        obtain rfl := (Option.some.inj e15)
        exact hJ7
      · have hf14 := ite_f hc14 hx13
        refine tw_aload_n (i := 0) (z := 0) (r := (7, 0)) C dX7_leastTogether_48 rfl rfl ?_
        refine tw_iload_n (i := 3) (z := 3) C dX7_leastTogether_49 rfl rfl ?_
        refine tw_iload (i := 4) (z := 4) C dX7_leastTogether_50 rfl ?_
        refine tw_iload (i := 5) (z := 5) C dX7_leastTogether_52 rfl ?_
        refine tw_iload_n (i := 2) (z := 2) C dX7_leastTogether_54 rfl rfl ?_
        obtain ⟨x5, hv16, eh16⟩ := obi_some hf14
        refine tw_callV (As := [.int x1, .int x2, .int x4, .int a2]) (rest := []) (r := (7, 0)) C hR (kX7_togetherWith K.1 _ (by omega) σ6 x1 x2 x4 a2  hv16) mi_X7_togetherWith is_X7_togetherWith se_X7_togetherWith ml_RX7_38 (wcells_mem (f := 7) (j := 0) (by decide) (by decide)) rfl rfl rfl rfl (Nat.le_of_ble_eq_true rfl) dX7_leastTogether_55 ?_
        show TW K 58 [(0, rv K (7, 0)), (1, .int a1), (2, .int a2), (3, .int x1), (4, .int x2), (5, .int x4)] [.int x5] σ6
        refine tw_istore (lv' := [(0, rv K (7, 0)), (1, .int a1), (2, .int a2), (3, .int x1), (4, .int x2), (5, .int x4), (6, .int x5)]) C [1, 2, 3, 4, 5, 6, 0] dX7_leastTogether_58 (by rw [hnL]; decide) rfl ?_
        refine tw_iload (i := 6) (z := 6) C dX7_leastTogether_60 rfl ?_
        refine tw_iconst (v := (-1)) C dX7_leastTogether_62 (by decide) ?_
        obtain ⟨σ7, hx17, hq17⟩ := obi_some eh16
        have hJ17 : TW K 95 [(0, rv K (7, 0)), (1, .int a1), (2, .int a2), (3, .int x1), (4, .int x2), (5, .int x4)] [] σ7 := by
          obtain ⟨x6, ex27, eh27⟩ := bnd_ex hq17
          refine tw_iinc (z := 5) (v := x6) (lv' := [(0, rv K (7, 0)), (1, .int a1), (2, .int a2), (3, .int x1), (4, .int x2), (5, .int x6)]) C [1, 2, 3, 4, 5, 0] dX7_leastTogether_95 rfl ex27 (by rw [hnL]; decide) rfl ?_
          refine tw_goto (tgt := 41) C dX7_leastTogether_98 (by decide) ?_
          have hz := lp_c eh27 hk13
          exact hz
        refine tw_ic_eq (tgt := 95) C dX7_leastTogether_63 (by decide) (fun hc18 => ?_) (fun hc18 => ?_)
        · have ht18 := ite_t hc18 hx17
          refine tw_sub [0, 1, 2, 3, 4, 5] rfl ?_
          obtain rfl := (Option.some.inj ht18)
          exact hJ17
        · have hf18 := ite_f hc18 hx17
          refine tw_aload_n (i := 0) (z := 0) (r := (7, 0)) C dX7_leastTogether_66 rfl rfl ?_
          refine tw_getR (g := 22) (z := 0) (j' := 0) C fl_RX7_15 rfl (wcells_mem (f := 7) (j := 0) (by decide) (by decide)) rfl rfl dX7_leastTogether_67 ?_
          refine tw_iload_n (i := 3) (z := 3) C dX7_leastTogether_70 rfl rfl ?_
          obtain ⟨hb19, eh19⟩ := grd_some hf18
          refine tw_iald (r := (22, 0)) C (ia_of rfl (by decide)) hb19 dX7_leastTogether_71 ?_
          refine tw_iconst (v := (-1)) C dX7_leastTogether_72 (by decide) ?_
          obtain ⟨y20, hx20, hy20⟩ := bj_some eh19
          have hJ20 : y20 = .inr () → TW K 87 [(0, rv K (7, 0)), (1, .int a1), (2, .int a2), (3, .int x1), (4, .int x2), (5, .int x4), (6, .int x5)] [] σ6 := by
            intro  ey20
            have hq20 := bj_r ey20 hy20
            refine tw_aload_n (i := 0) (z := 0) (r := (7, 0)) C dX7_leastTogether_87 rfl rfl ?_
            refine tw_getR (g := 22) (z := 0) (j' := 0) C fl_RX7_15 rfl (wcells_mem (f := 7) (j := 0) (by decide) (by decide)) rfl rfl dX7_leastTogether_88 ?_
            refine tw_iload_n (i := 3) (z := 3) C dX7_leastTogether_91 rfl rfl ?_
            refine tw_iload (i := 6) (z := 6) C dX7_leastTogether_92 rfl ?_
            obtain ⟨hb25, eh25⟩ := grd_some hq20
            obtain ⟨σ8, es26, eg26⟩ := bnd_ex eh25
            refine tw_iast (r := (22, 0)) C (wa_of rfl (by decide) (by decide)) hb25 dX7_leastTogether_94 ?_
            rw [es26]
            refine tw_sub [0, 1, 2, 3, 4, 5] rfl ?_
            obtain rfl := (Option.some.inj eg26)
            exact hJ17
          refine tw_ic_eq (tgt := 87) C dX7_leastTogether_73 (by decide) (fun hc21 => ?_) (fun hc21 => ?_)
          · have ht21 := ite_t hc21 hx20
            exact hJ20 (Option.some.inj ht21).symm
          · have hf21 := ite_f hc21 hx20
            refine tw_iload (i := 6) (z := 6) C dX7_leastTogether_76 rfl ?_
            refine tw_aload_n (i := 0) (z := 0) (r := (7, 0)) C dX7_leastTogether_78 rfl rfl ?_
            refine tw_getR (g := 22) (z := 0) (j' := 0) C fl_RX7_15 rfl (wcells_mem (f := 7) (j := 0) (by decide) (by decide)) rfl rfl dX7_leastTogether_79 ?_
            refine tw_iload_n (i := 3) (z := 3) C dX7_leastTogether_82 rfl rfl ?_
            obtain ⟨hb22, eh22⟩ := grd_some hf21
            refine tw_iald (r := (22, 0)) C (ia_of rfl (by decide)) hb22 dX7_leastTogether_83 ?_
            refine tw_ic_ge (tgt := 95) C dX7_leastTogether_84 (by decide) (fun hc23 => ?_) (fun hc23 => ?_)
            · have ht23 := ite_t hc23 eh22
              refine tw_sub [0, 1, 2, 3, 4, 5] rfl ?_
              have e24 := bj_l ht23 hy20
              obtain rfl := (Option.some.inj e24)
              exact hJ17
            · have hf23 := ite_f hc23 eh22
              exact hJ20 (Option.some.inj hf23).symm

set_option maxRecDepth 20000 in
def fX7_mateOf (σ : St) (a1 : Int32) (a2 : Int32) (a3 : Int32) : Option (Int32) :=
  lpF (fun (q1 : Int32 × Int32) => match q1 with
  | (x1, x2) =>
  if (6 : Int32) ≤ x2 then
    some (.inr (-1 : Int32))
  else
    if x1 = 0 then
      some (.inr (-1 : Int32))
    else
      bnd (fJ6_numberOfTrailingZeros_0f7a4 x1) (fun x3 =>
      bnd (x3 + (1 : Int32)) (fun x4 =>
      obi (lpF (fun (q9 : Int32) => match q9 with
      | x6 =>
      if (11 : Int32) ≤ x6 then
        some (.inr x6)
      else
        obi (fX7_togetherWith σ x1 x3 x6 a3) (fun x7 =>
        grd (inb x1 4096) (
        if x7 = (σ (22, 0) (tn x1)) then
          some (.inr x6)
        else
          bnd (x6 + 1) (fun x8 =>
          some (.inl x8))))) x4) (fun x5 =>
      if a1 = x3 then
        some (.inr x5)
      else
        if a1 = x5 then
          some (.inr x3)
        else
          bnd (x1 &&& ((((1 : Int32) <<< (x3 &&& 31)) ||| ((1 : Int32) <<< (x5 &&& 31))) ^^^ (-1 : Int32))) (fun x9 =>
          bnd (x2 + 1) (fun x10 =>
          some (.inl (x9, x10)))))))) (a2, (0 : Int32))
set_option maxRecDepth 20000 in
set_option maxHeartbeats 4000000 in
theorem kX7_mateOf (G : Gx) (d : Nat) (hdp : 3 ≤ d) (σ : St) (a1 : Int32) (a2 : Int32) (a3 : Int32)  {v0 : Int32} (h : fX7_mateOf σ a1 a2 a3 = some v0) : MS G d yX7_mateOf cX7_mateOf 8 (some .int) [.ref (G.2.1 (7, 0)), .int a1, .int a2, .int a3] σ (some (.int v0)) σ := by
  refine MS_of (by decide) (Nat.le_of_ble_eq_true rfl) rfl (fun K hG hnL C hR hK => ?_) (by omega)
  subst hG
  show TW K 0 [(0, rv K (7, 0)), (1, .int a1), (2, .int a2), (3, .int a3)] [] σ
  unfold fX7_mateOf at h
  refine tw_iload_n (i := 2) (z := 2) C dX7_mateOf_0 rfl rfl ?_
  refine tw_istore (lv' := [(0, rv K (7, 0)), (1, .int a1), (2, .int a2), (3, .int a3), (4, .int a2)]) C [1, 2, 3, 4, 0] dX7_mateOf_1 (by rw [hnL]; decide) rfl ?_
  refine tw_iconst (v := 0) C dX7_mateOf_3 (by decide) ?_
  refine tw_istore (lv' := [(0, rv K (7, 0)), (1, .int a1), (2, .int a2), (3, .int a3), (4, .int a2), (5, .int (0 : Int32))]) C [1, 2, 3, 4, 5, 0] dX7_mateOf_4 (by rw [hnL]; decide) rfl ?_
  refine tw_sub [0, 1, 3, 4, 5] rfl ?_
  refine lpF_ct (G := fun (q : Int32 × Int32) => match q with | (x1, x2) => TW K 6 [(0, rv K (7, 0)), (1, .int a1), (3, .int a3), (4, .int x1), (5, .int x2)] [] σ) ?_ h
  rintro ⟨x1, x2⟩ w1 hx1 hk1
  show TW K 6 [(0, rv K (7, 0)), (1, .int a1), (3, .int a3), (4, .int x1), (5, .int x2)] [] σ
  refine tw_iload (i := 5) (z := 4) C dX7_mateOf_6 rfl ?_
  refine tw_bipush (v := 6) C dX7_mateOf_8 (by decide) ?_
  refine tw_ic_ge (tgt := 105) C dX7_mateOf_10 (by decide) (fun hc2 => ?_) (fun hc2 => ?_)
  · have ht2 := ite_t hc2 hx1
    refine tw_iconst (v := (-1)) C dX7_mateOf_105 (by decide) ?_
    have e3 := lp_x ht2 hk1
    obtain rfl := (Option.some.inj e3)
    exact tw_iret C hK rfl rfl dX7_mateOf_106
  · have hf2 := ite_f hc2 hx1
    refine tw_iload (i := 4) (z := 3) C dX7_mateOf_13 rfl ?_
    refine tw_if_eq (tgt := 105) C dX7_mateOf_15 (by decide) (fun hc4 => ?_) (fun hc4 => ?_)
    · have ht4 := ite_t hc4 hf2
      refine tw_iconst (v := (-1)) C dX7_mateOf_105 (by decide) ?_
      have e5 := lp_x ht4 hk1
      obtain rfl := (Option.some.inj e5)
      exact tw_iret C hK rfl rfl dX7_mateOf_106
    · have hf4 := ite_f hc4 hf2
      refine tw_iload (i := 4) (z := 3) C dX7_mateOf_18 rfl ?_
      refine tw_callS (As := [.int x1]) (rest := []) C hR (kJ6_numberOfTrailingZeros_0f7a4 K.1 _ (by omega) σ x1  rfl) mi_J6_numberOfTrailingZeros_0f7a4 st_J6_numberOfTrailingZeros_0f7a4 ml_RX7_28 rfl rfl (Nat.le_of_ble_eq_true rfl) dX7_mateOf_20 ?_
      show TW K 23 [(0, rv K (7, 0)), (1, .int a1), (3, .int a3), (4, .int x1), (5, .int x2)] [.int (fJ6_numberOfTrailingZeros_0f7a4 x1)] σ
      obtain ⟨x3, ex6, eh6⟩ := bnd_ex hf4
      refine tw_topi ex6.symm ?_
      refine tw_istore (lv' := [(0, rv K (7, 0)), (1, .int a1), (3, .int a3), (4, .int x1), (5, .int x2), (6, .int x3)]) C [1, 2, 3, 4, 5, 0] dX7_mateOf_23 (by rw [hnL]; decide) rfl ?_
      refine tw_iload (i := 6) (z := 5) C dX7_mateOf_25 rfl ?_
      refine tw_iconst (v := 1) C dX7_mateOf_27 (by decide) ?_
      refine tw_iadd C dX7_mateOf_28 ?_
      obtain ⟨x4, ex7, eh7⟩ := bnd_ex eh6
      refine tw_topi ex7.symm ?_
      refine tw_istore (lv' := [(0, rv K (7, 0)), (1, .int a1), (3, .int a3), (4, .int x1), (5, .int x2), (6, .int x3), (7, .int x4)]) C [1, 2, 3, 4, 5, 6, 0] dX7_mateOf_29 (by rw [hnL]; decide) rfl ?_
      obtain ⟨x5, hx8, hq8⟩ := obi_some eh7
      have hJ8 : TW K 65 [(0, rv K (7, 0)), (1, .int a1), (3, .int a3), (4, .int x1), (5, .int x2), (6, .int x3), (7, .int x5)] [] σ := by
        refine tw_iload_n (i := 1) (z := 1) C dX7_mateOf_65 rfl rfl ?_
        refine tw_iload (i := 6) (z := 5) C dX7_mateOf_66 rfl ?_
        refine tw_ic_ne (tgt := 74) C dX7_mateOf_68 (by decide) (fun hc17 => ?_) (fun hc17 => ?_)
        · have ht17 := ite_f hc17 hq8
          refine tw_iload_n (i := 1) (z := 1) C dX7_mateOf_74 rfl rfl ?_
          refine tw_iload (i := 7) (z := 6) C dX7_mateOf_75 rfl ?_
          refine tw_ic_ne (tgt := 83) C dX7_mateOf_77 (by decide) (fun hc18 => ?_) (fun hc18 => ?_)
          · have ht18 := ite_f hc18 ht17
            refine tw_iload (i := 4) (z := 3) C dX7_mateOf_83 rfl ?_
            refine tw_iconst (v := 1) C dX7_mateOf_85 (by decide) ?_
            refine tw_iload (i := 6) (z := 5) C dX7_mateOf_86 rfl ?_
            refine tw_ishl C dX7_mateOf_88 ?_
            refine tw_iconst (v := 1) C dX7_mateOf_89 (by decide) ?_
            refine tw_iload (i := 7) (z := 6) C dX7_mateOf_90 rfl ?_
            refine tw_ishl C dX7_mateOf_92 ?_
            refine tw_ior C dX7_mateOf_93 ?_
            refine tw_iconst (v := (-1)) C dX7_mateOf_94 (by decide) ?_
            refine tw_ixor C dX7_mateOf_95 ?_
            refine tw_iand C dX7_mateOf_96 ?_
            obtain ⟨x9, ex19, eh19⟩ := bnd_ex ht18
            refine tw_topi ex19.symm ?_
            refine tw_istore (lv' := [(0, rv K (7, 0)), (1, .int a1), (3, .int a3), (4, .int x9), (5, .int x2), (6, .int x3), (7, .int x5)]) C [1, 2, 3, 0, 4, 5, 6] dX7_mateOf_97 (by rw [hnL]; decide) rfl ?_
            obtain ⟨x10, ex20, eh20⟩ := bnd_ex eh19
            refine tw_iinc (z := 4) (v := x10) (lv' := [(0, rv K (7, 0)), (1, .int a1), (3, .int a3), (4, .int x9), (5, .int x10), (6, .int x3), (7, .int x5)]) C [1, 2, 3, 4, 0, 5, 6] dX7_mateOf_99 rfl ex20 (by rw [hnL]; decide) rfl ?_
            refine tw_goto (tgt := 6) C dX7_mateOf_102 (by decide) ?_
            refine tw_sub [0, 1, 2, 3, 4] rfl ?_
            have hz := lp_c eh20 hk1
            exact hz
          · have hf18 := ite_t hc18 ht17
            refine tw_iload (i := 6) (z := 5) C dX7_mateOf_80 rfl ?_
            have e21 := lp_x hf18 hk1
            obtain rfl := (Option.some.inj e21)
            exact tw_iret C hK rfl rfl dX7_mateOf_82
        · have hf17 := ite_t hc17 hq8
          refine tw_iload (i := 7) (z := 6) C dX7_mateOf_71 rfl ?_
          have e22 := lp_x hf17 hk1
          obtain rfl := (Option.some.inj e22)
          exact tw_iret C hK rfl rfl dX7_mateOf_73
      refine lpF_ct (G := fun (q : Int32) => match q with | x6 => TW K 31 [(0, rv K (7, 0)), (1, .int a1), (3, .int a3), (4, .int x1), (5, .int x2), (6, .int x3), (7, .int x6)] [] σ) ?_ hx8
      rintro x6 w9 hx9 hk9
      show TW K 31 [(0, rv K (7, 0)), (1, .int a1), (3, .int a3), (4, .int x1), (5, .int x2), (6, .int x3), (7, .int x6)] [] σ
      refine tw_iload (i := 7) (z := 6) C dX7_mateOf_31 rfl ?_
      refine tw_bipush (v := 11) C dX7_mateOf_33 (by decide) ?_
      refine tw_ic_ge (tgt := 65) C dX7_mateOf_35 (by decide) (fun hc10 => ?_) (fun hc10 => ?_)
      · have ht10 := ite_t hc10 hx9
        have e11 := lp_x ht10 hk9
        obtain rfl := (Option.some.inj e11)
        exact hJ8
      · have hf10 := ite_f hc10 hx9
        refine tw_aload_n (i := 0) (z := 0) (r := (7, 0)) C dX7_mateOf_38 rfl rfl ?_
        refine tw_iload (i := 4) (z := 3) C dX7_mateOf_39 rfl ?_
        refine tw_iload (i := 6) (z := 5) C dX7_mateOf_41 rfl ?_
        refine tw_iload (i := 7) (z := 6) C dX7_mateOf_43 rfl ?_
        refine tw_iload_n (i := 3) (z := 2) C dX7_mateOf_45 rfl rfl ?_
        obtain ⟨x7, hv12, eh12⟩ := obi_some hf10
        refine tw_callV (As := [.int x1, .int x3, .int x6, .int a3]) (rest := []) (r := (7, 0)) C hR (kX7_togetherWith K.1 _ (by omega) σ x1 x3 x6 a3  hv12) mi_X7_togetherWith is_X7_togetherWith se_X7_togetherWith ml_RX7_38 (wcells_mem (f := 7) (j := 0) (by decide) (by decide)) rfl rfl rfl rfl (Nat.le_of_ble_eq_true rfl) dX7_mateOf_46 ?_
        show TW K 49 [(0, rv K (7, 0)), (1, .int a1), (3, .int a3), (4, .int x1), (5, .int x2), (6, .int x3), (7, .int x6)] [.int x7] σ
        refine tw_aload_n (i := 0) (z := 0) (r := (7, 0)) C dX7_mateOf_49 rfl rfl ?_
        refine tw_getR (g := 22) (z := 0) (j' := 0) C fl_RX7_15 rfl (wcells_mem (f := 7) (j := 0) (by decide) (by decide)) rfl rfl dX7_mateOf_50 ?_
        refine tw_iload (i := 4) (z := 3) C dX7_mateOf_53 rfl ?_
        obtain ⟨hb13, eh13⟩ := grd_some eh12
        refine tw_iald (r := (22, 0)) C (ia_of rfl (by decide)) hb13 dX7_mateOf_55 ?_
        refine tw_ic_eq (tgt := 65) C dX7_mateOf_56 (by decide) (fun hc14 => ?_) (fun hc14 => ?_)
        · have ht14 := ite_t hc14 eh13
          have e15 := lp_x ht14 hk9
          obtain rfl := (Option.some.inj e15)
          exact hJ8
        · have hf14 := ite_f hc14 eh13
          obtain ⟨x8, ex16, eh16⟩ := bnd_ex hf14
          refine tw_iinc (z := 6) (v := x8) (lv' := [(0, rv K (7, 0)), (1, .int a1), (3, .int a3), (4, .int x1), (5, .int x2), (6, .int x3), (7, .int x8)]) C [1, 2, 3, 4, 5, 6, 0] dX7_mateOf_59 rfl ex16 (by rw [hnL]; decide) rfl ?_
          refine tw_goto (tgt := 31) C dX7_mateOf_62 (by decide) ?_
          have hz := lp_c eh16 hk9
          exact hz

set_option maxRecDepth 20000 in
def fX8_isCode (a0 : Int32) : Bool :=
  if a0 < 0 then
    false
  else
    if (11 : Int32) ≤ a0 then
      false
    else
      true
set_option maxRecDepth 20000 in
set_option maxHeartbeats 4000000 in
theorem kX8_isCode (G : Gx) (d : Nat) (hdp : 1 ≤ d) (σ : St) (a0 : Int32)  {v0 : Bool} (h : fX8_isCode a0 = v0) : MS G d yX8_isCode cX8_isCode 1 (some .boolean) [.int a0] σ (some (.int (b2i v0))) σ := by
  refine MS_of (by decide) (Nat.le_of_ble_eq_true rfl) rfl (fun K hG hnL C hR hK => ?_) (by omega)
  subst hG
  show TW K 0 [(0, .int a0)] [] σ
  unfold fX8_isCode at h
  refine tw_iload_n (i := 0) (z := 0) C dX8_isCode_0 rfl rfl ?_
  refine tw_if_lt (tgt := 14) C dX8_isCode_1 (by decide) (fun hc1 => ?_) (fun hc1 => ?_)
  · have ht1 := ite_t hc1 h
    refine tw_iconst (v := 0) C dX8_isCode_14 (by decide) ?_
    obtain rfl := ht1
    exact tw_zret C hK rfl rfl rfl dX8_isCode_15
  · have hf1 := ite_f hc1 h
    refine tw_iload_n (i := 0) (z := 0) C dX8_isCode_4 rfl rfl ?_
    refine tw_bipush (v := 11) C dX8_isCode_5 (by decide) ?_
    refine tw_ic_ge (tgt := 14) C dX8_isCode_7 (by decide) (fun hc2 => ?_) (fun hc2 => ?_)
    · have ht2 := ite_t hc2 hf1
      refine tw_iconst (v := 0) C dX8_isCode_14 (by decide) ?_
      obtain rfl := ht2
      exact tw_zret C hK rfl rfl rfl dX8_isCode_15
    · have hf2 := ite_f hc2 hf1
      refine tw_iconst (v := 1) C dX8_isCode_10 (by decide) ?_
      refine tw_goto (tgt := 15) C dX8_isCode_11 (by decide) ?_
      obtain rfl := hf2
      exact tw_zret C hK rfl rfl rfl dX8_isCode_15

set_option maxRecDepth 20000 in
def fX8_type (σ : St) (a1 : Int32) (a2 : Int32) : Option (Int32 × St) :=
  if (fX8_isCode a1) = true then
    if a2 < 0 then
      some ((-2 : Int32), σ)
    else
      if a2 ≤ (255 : Int32) then
        grd (inb a1 11) (
        obi (fX1_addByte σ (tn a1) a2) (fun (x1, σ1) =>
        some (x1, σ1)))
      else
        some ((-2 : Int32), σ)
  else
    some ((-2 : Int32), σ)
set_option maxRecDepth 20000 in
set_option maxHeartbeats 4000000 in
theorem kX8_type (G : Gx) (d : Nat) (hdp : 8 ≤ d) (σ : St) (a1 : Int32) (a2 : Int32)  {v0 : Int32} {σ' : St} (h : fX8_type σ a1 a2 = some (v0, σ')) : MS G d yX8_type cX8_type 3 (some .int) [.ref (G.2.1 (8, 0)), .int a1, .int a2] σ (some (.int v0)) σ' := by
  refine MS_of (by decide) (Nat.le_of_ble_eq_true rfl) rfl (fun K hG hnL C hR hK => ?_) (by omega)
  subst hG
  show TW K 0 [(0, rv K (8, 0)), (1, .int a1), (2, .int a2)] [] σ
  unfold fX8_type at h
  refine tw_iload_n (i := 1) (z := 1) C dX8_type_0 rfl rfl ?_
  refine tw_callS (As := [.int a1]) (rest := []) C hR (kX8_isCode K.1 _ (by omega) σ a1  rfl) mi_X8_isCode st_X8_isCode ml_RX8_90 rfl rfl (Nat.le_of_ble_eq_true rfl) dX8_type_1 ?_
  show TW K 4 [(0, rv K (8, 0)), (1, .int a1), (2, .int a2)] [.int (b2i (fX8_isCode a1))] σ
  refine tw_if_eq (tgt := 18) C dX8_type_4 (by decide) (fun hc1 => ?_) (fun hc1 => ?_)
  · have ht1 := ite_f (b2i_z hc1) h
    refine tw_bipush (v := (-2)) C dX8_type_18 (by decide) ?_
    obtain ⟨rfl, rfl⟩ := pj2 (Option.some.inj ht1)
    exact tw_iret C hK rfl rfl dX8_type_20
  · have hf1 := ite_t (b2i_nz hc1) h
    refine tw_iload_n (i := 2) (z := 2) C dX8_type_7 rfl rfl ?_
    refine tw_if_lt (tgt := 18) C dX8_type_8 (by decide) (fun hc2 => ?_) (fun hc2 => ?_)
    · have ht2 := ite_t hc2 hf1
      refine tw_bipush (v := (-2)) C dX8_type_18 (by decide) ?_
      obtain ⟨rfl, rfl⟩ := pj2 (Option.some.inj ht2)
      exact tw_iret C hK rfl rfl dX8_type_20
    · have hf2 := ite_f hc2 hf1
      refine tw_iload_n (i := 2) (z := 2) C dX8_type_11 rfl rfl ?_
      refine tw_sipush (v := 255) C dX8_type_12 (by decide) ?_
      refine tw_ic_le (tgt := 21) C dX8_type_15 (by decide) (fun hc3 => ?_) (fun hc3 => ?_)
      · have ht3 := ite_t hc3 hf2
        refine tw_aload_n (i := 0) (z := 0) (r := (8, 0)) C dX8_type_21 rfl rfl ?_
        refine tw_getR (g := 23) (z := 0) (j' := 0) C fl_RX8_11 rfl (wcells_mem (f := 8) (j := 0) (by decide) (by decide)) rfl rfl dX8_type_22 ?_
        refine tw_iload_n (i := 1) (z := 1) C dX8_type_25 rfl rfl ?_
        obtain ⟨hb4, eh4⟩ := grd_some ht3
        refine tw_aald (g := 1) C rfl 3 "ElevenCodes$Code" (fun _ => rfl) (by decide) (by decide) (wcells_mem (f := 23) (j := 0) (by decide) (by decide)) hb4 dX8_type_26 ?_
        refine tw_iload_n (i := 2) (z := 2) C dX8_type_27 rfl rfl ?_
        obtain ⟨⟨x1, σ1⟩, hv5, eh5⟩ := obi_some eh4
        refine tw_callV (As := [.int a2]) (rest := []) (r := (1, (tn a1))) C hR (kX1_addByte K.1 _ (by omega) _ (tn a1) a2 (inb_lt hb4) hv5) mi_X1_addByte is_X1_addByte se_X1_addByte ml_RX8_94 (wcells_mem (f := 1) (j := (tn a1)) (by decide) (inb_lt hb4)) rfl rfl rfl rfl (Nat.le_of_ble_eq_true rfl) dX8_type_28 ?_
        show TW K 31 [(0, rv K (8, 0)), (1, .int a1), (2, .int a2)] [.int x1] σ1
        obtain ⟨rfl, rfl⟩ := pj2 (Option.some.inj eh5)
        exact tw_iret C hK rfl rfl dX8_type_31
      · have hf3 := ite_f hc3 hf2
        refine tw_bipush (v := (-2)) C dX8_type_18 (by decide) ?_
        obtain ⟨rfl, rfl⟩ := pj2 (Option.some.inj hf3)
        exact tw_iret C hK rfl rfl dX8_type_20

set_option maxRecDepth 20000 in
def fX8_wipe (σ : St) (a1 : Int32) : Option (Int32 × St) :=
  if (fX8_isCode a1) = true then
    grd (inb a1 11) (
    obi (fX1_empty σ (tn a1)) (fun (x1, σ1) =>
    some (x1, σ1)))
  else
    some ((-2 : Int32), σ)
set_option maxRecDepth 20000 in
set_option maxHeartbeats 4000000 in
theorem kX8_wipe (G : Gx) (d : Nat) (hdp : 8 ≤ d) (σ : St) (a1 : Int32)  {v0 : Int32} {σ' : St} (h : fX8_wipe σ a1 = some (v0, σ')) : MS G d yX8_wipe cX8_wipe 2 (some .int) [.ref (G.2.1 (8, 0)), .int a1] σ (some (.int v0)) σ' := by
  refine MS_of (by decide) (Nat.le_of_ble_eq_true rfl) rfl (fun K hG hnL C hR hK => ?_) (by omega)
  subst hG
  show TW K 0 [(0, rv K (8, 0)), (1, .int a1)] [] σ
  unfold fX8_wipe at h
  refine tw_iload_n (i := 1) (z := 1) C dX8_wipe_0 rfl rfl ?_
  refine tw_callS (As := [.int a1]) (rest := []) C hR (kX8_isCode K.1 _ (by omega) σ a1  rfl) mi_X8_isCode st_X8_isCode ml_RX8_90 rfl rfl (Nat.le_of_ble_eq_true rfl) dX8_wipe_1 ?_
  show TW K 4 [(0, rv K (8, 0)), (1, .int a1)] [.int (b2i (fX8_isCode a1))] σ
  refine tw_if_ne (tgt := 10) C dX8_wipe_4 (by decide) (fun hc1 => ?_) (fun hc1 => ?_)
  · have ht1 := ite_t (b2i_nz hc1) h
    refine tw_aload_n (i := 0) (z := 0) (r := (8, 0)) C dX8_wipe_10 rfl rfl ?_
    refine tw_getR (g := 23) (z := 0) (j' := 0) C fl_RX8_11 rfl (wcells_mem (f := 8) (j := 0) (by decide) (by decide)) rfl rfl dX8_wipe_11 ?_
    refine tw_iload_n (i := 1) (z := 1) C dX8_wipe_14 rfl rfl ?_
    obtain ⟨hb2, eh2⟩ := grd_some ht1
    refine tw_aald (g := 1) C rfl 3 "ElevenCodes$Code" (fun _ => rfl) (by decide) (by decide) (wcells_mem (f := 23) (j := 0) (by decide) (by decide)) hb2 dX8_wipe_15 ?_
    obtain ⟨⟨x1, σ1⟩, hv3, eh3⟩ := obi_some eh2
    refine tw_callV (As := []) (rest := []) (r := (1, (tn a1))) C hR (kX1_empty K.1 _ (by omega) _ (tn a1) (inb_lt hb2) hv3) mi_X1_empty is_X1_empty se_X1_empty ml_RX8_98 (wcells_mem (f := 1) (j := (tn a1)) (by decide) (inb_lt hb2)) rfl rfl rfl rfl (Nat.le_of_ble_eq_true rfl) dX8_wipe_16 ?_
    show TW K 19 [(0, rv K (8, 0)), (1, .int a1)] [.int x1] σ1
    obtain ⟨rfl, rfl⟩ := pj2 (Option.some.inj eh3)
    exact tw_iret C hK rfl rfl dX8_wipe_19
  · have hf1 := ite_f (b2i_z hc1) h
    refine tw_bipush (v := (-2)) C dX8_wipe_7 (by decide) ?_
    obtain ⟨rfl, rfl⟩ := pj2 (Option.some.inj hf1)
    exact tw_iret C hK rfl rfl dX8_wipe_9

set_option maxRecDepth 20000 in
def fX8_fault (σ : St) (a1 : Int32) : Option (Int32) :=
  if (fX8_isCode a1) = true then
    grd (inb a1 11) (
    some (σ (1, (tn a1)) 4))
  else
    some (-2 : Int32)
set_option maxRecDepth 20000 in
set_option maxHeartbeats 4000000 in
theorem kX8_fault (G : Gx) (d : Nat) (hdp : 2 ≤ d) (σ : St) (a1 : Int32)  {v0 : Int32} (h : fX8_fault σ a1 = some v0) : MS G d yX8_fault cX8_fault 2 (some .int) [.ref (G.2.1 (8, 0)), .int a1] σ (some (.int v0)) σ := by
  refine MS_of (by decide) (Nat.le_of_ble_eq_true rfl) rfl (fun K hG hnL C hR hK => ?_) (by omega)
  subst hG
  show TW K 0 [(0, rv K (8, 0)), (1, .int a1)] [] σ
  unfold fX8_fault at h
  refine tw_iload_n (i := 1) (z := 1) C dX8_fault_0 rfl rfl ?_
  refine tw_callS (As := [.int a1]) (rest := []) C hR (kX8_isCode K.1 _ (by omega) σ a1  rfl) mi_X8_isCode st_X8_isCode ml_RX8_90 rfl rfl (Nat.le_of_ble_eq_true rfl) dX8_fault_1 ?_
  show TW K 4 [(0, rv K (8, 0)), (1, .int a1)] [.int (b2i (fX8_isCode a1))] σ
  refine tw_if_ne (tgt := 10) C dX8_fault_4 (by decide) (fun hc1 => ?_) (fun hc1 => ?_)
  · have ht1 := ite_t (b2i_nz hc1) h
    refine tw_aload_n (i := 0) (z := 0) (r := (8, 0)) C dX8_fault_10 rfl rfl ?_
    refine tw_getR (g := 23) (z := 0) (j' := 0) C fl_RX8_11 rfl (wcells_mem (f := 8) (j := 0) (by decide) (by decide)) rfl rfl dX8_fault_11 ?_
    refine tw_iload_n (i := 1) (z := 1) C dX8_fault_14 rfl rfl ?_
    obtain ⟨hb2, eh2⟩ := grd_some ht1
    refine tw_aald (g := 1) C rfl 3 "ElevenCodes$Code" (fun _ => rfl) (by decide) (by decide) (wcells_mem (f := 23) (j := 0) (by decide) (by decide)) hb2 dX8_fault_15 ?_
    refine tw_getI C fl_RX8_102 rfl (wcells_mem (f := 1) (j := (tn a1)) (by decide) (inb_lt hb2)) rfl dX8_fault_16 ?_
    obtain rfl := (Option.some.inj eh2)
    exact tw_iret C hK rfl rfl dX8_fault_19
  · have hf1 := ite_f (b2i_z hc1) h
    refine tw_bipush (v := (-2)) C dX8_fault_7 (by decide) ?_
    obtain rfl := (Option.some.inj hf1)
    exact tw_iret C hK rfl rfl dX8_fault_9

set_option maxRecDepth 20000 in
def fX8_isItem (a0 : Int32) : Bool :=
  if a0 < 0 then
    false
  else
    if (17 : Int32) ≤ a0 then
      false
    else
      true
set_option maxRecDepth 20000 in
set_option maxHeartbeats 4000000 in
theorem kX8_isItem (G : Gx) (d : Nat) (hdp : 1 ≤ d) (σ : St) (a0 : Int32)  {v0 : Bool} (h : fX8_isItem a0 = v0) : MS G d yX8_isItem cX8_isItem 1 (some .boolean) [.int a0] σ (some (.int (b2i v0))) σ := by
  refine MS_of (by decide) (Nat.le_of_ble_eq_true rfl) rfl (fun K hG hnL C hR hK => ?_) (by omega)
  subst hG
  show TW K 0 [(0, .int a0)] [] σ
  unfold fX8_isItem at h
  refine tw_iload_n (i := 0) (z := 0) C dX8_isItem_0 rfl rfl ?_
  refine tw_if_lt (tgt := 14) C dX8_isItem_1 (by decide) (fun hc1 => ?_) (fun hc1 => ?_)
  · have ht1 := ite_t hc1 h
    refine tw_iconst (v := 0) C dX8_isItem_14 (by decide) ?_
    obtain rfl := ht1
    exact tw_zret C hK rfl rfl rfl dX8_isItem_15
  · have hf1 := ite_f hc1 h
    refine tw_iload_n (i := 0) (z := 0) C dX8_isItem_4 rfl rfl ?_
    refine tw_bipush (v := 17) C dX8_isItem_5 (by decide) ?_
    refine tw_ic_ge (tgt := 14) C dX8_isItem_7 (by decide) (fun hc2 => ?_) (fun hc2 => ?_)
    · have ht2 := ite_t hc2 hf1
      refine tw_iconst (v := 0) C dX8_isItem_14 (by decide) ?_
      obtain rfl := ht2
      exact tw_zret C hK rfl rfl rfl dX8_isItem_15
    · have hf2 := ite_f hc2 hf1
      refine tw_iconst (v := 1) C dX8_isItem_10 (by decide) ?_
      refine tw_goto (tgt := 15) C dX8_isItem_11 (by decide) ?_
      obtain rfl := hf2
      exact tw_zret C hK rfl rfl rfl dX8_isItem_15

set_option maxRecDepth 20000 in
def fX8_item (σ : St) (a1 : Int32) (a2 : Int32) : Option (Int32) :=
  if (fX8_isCode a1) = true then
    if (fX8_isItem a2) = true then
      grd (inb a1 11) (
      grd (inb a2 17) (
      some (σ (11, (tn a1)) (tn a2))))
    else
      some (-2 : Int32)
  else
    some (-2 : Int32)
set_option maxRecDepth 20000 in
set_option maxHeartbeats 4000000 in
theorem kX8_item (G : Gx) (d : Nat) (hdp : 2 ≤ d) (σ : St) (a1 : Int32) (a2 : Int32)  {v0 : Int32} (h : fX8_item σ a1 a2 = some v0) : MS G d yX8_item cX8_item 3 (some .int) [.ref (G.2.1 (8, 0)), .int a1, .int a2] σ (some (.int v0)) σ := by
  refine MS_of (by decide) (Nat.le_of_ble_eq_true rfl) rfl (fun K hG hnL C hR hK => ?_) (by omega)
  subst hG
  show TW K 0 [(0, rv K (8, 0)), (1, .int a1), (2, .int a2)] [] σ
  unfold fX8_item at h
  refine tw_iload_n (i := 1) (z := 1) C dX8_item_0 rfl rfl ?_
  refine tw_callS (As := [.int a1]) (rest := []) C hR (kX8_isCode K.1 _ (by omega) σ a1  rfl) mi_X8_isCode st_X8_isCode ml_RX8_90 rfl rfl (Nat.le_of_ble_eq_true rfl) dX8_item_1 ?_
  show TW K 4 [(0, rv K (8, 0)), (1, .int a1), (2, .int a2)] [.int (b2i (fX8_isCode a1))] σ
  refine tw_if_eq (tgt := 14) C dX8_item_4 (by decide) (fun hc1 => ?_) (fun hc1 => ?_)
  · have ht1 := ite_f (b2i_z hc1) h
    refine tw_bipush (v := (-2)) C dX8_item_14 (by decide) ?_
    obtain rfl := (Option.some.inj ht1)
    exact tw_iret C hK rfl rfl dX8_item_16
  · have hf1 := ite_t (b2i_nz hc1) h
    refine tw_iload_n (i := 2) (z := 2) C dX8_item_7 rfl rfl ?_
    refine tw_callS (As := [.int a2]) (rest := []) C hR (kX8_isItem K.1 _ (by omega) σ a2  rfl) mi_X8_isItem st_X8_isItem ml_RX8_105 rfl rfl (Nat.le_of_ble_eq_true rfl) dX8_item_8 ?_
    show TW K 11 [(0, rv K (8, 0)), (1, .int a1), (2, .int a2)] [.int (b2i (fX8_isItem a2))] σ
    refine tw_if_ne (tgt := 17) C dX8_item_11 (by decide) (fun hc2 => ?_) (fun hc2 => ?_)
    · have ht2 := ite_t (b2i_nz hc2) hf1
      refine tw_aload_n (i := 0) (z := 0) (r := (8, 0)) C dX8_item_17 rfl rfl ?_
      refine tw_getR (g := 23) (z := 0) (j' := 0) C fl_RX8_11 rfl (wcells_mem (f := 8) (j := 0) (by decide) (by decide)) rfl rfl dX8_item_18 ?_
      refine tw_iload_n (i := 1) (z := 1) C dX8_item_21 rfl rfl ?_
      obtain ⟨hb3, eh3⟩ := grd_some ht2
      refine tw_aald (g := 1) C rfl 3 "ElevenCodes$Code" (fun _ => rfl) (by decide) (by decide) (wcells_mem (f := 23) (j := 0) (by decide) (by decide)) hb3 dX8_item_22 ?_
      refine tw_getR (g := 11) (z := 0) (j' := (tn a1)) C fl_RX8_108 rfl (wcells_mem (f := 1) (j := (tn a1)) (by decide) (inb_lt hb3)) rfl rfl dX8_item_23 ?_
      refine tw_iload_n (i := 2) (z := 2) C dX8_item_26 rfl rfl ?_
      obtain ⟨hb4, eh4⟩ := grd_some eh3
      refine tw_iald (r := (11, (tn a1))) C (ia_of rfl (inb_lt hb3)) hb4 dX8_item_27 ?_
      obtain rfl := (Option.some.inj eh4)
      exact tw_iret C hK rfl rfl dX8_item_28
    · have hf2 := ite_f (b2i_z hc2) hf1
      refine tw_bipush (v := (-2)) C dX8_item_14 (by decide) ?_
      obtain rfl := (Option.some.inj hf2)
      exact tw_iret C hK rfl rfl dX8_item_16

set_option maxRecDepth 20000 in
def fX8_isAct (a0 : Int32) : Bool :=
  if a0 < 0 then
    false
  else
    if (10 : Int32) ≤ a0 then
      false
    else
      true
set_option maxRecDepth 20000 in
set_option maxHeartbeats 4000000 in
theorem kX8_isAct (G : Gx) (d : Nat) (hdp : 1 ≤ d) (σ : St) (a0 : Int32)  {v0 : Bool} (h : fX8_isAct a0 = v0) : MS G d yX8_isAct cX8_isAct 1 (some .boolean) [.int a0] σ (some (.int (b2i v0))) σ := by
  refine MS_of (by decide) (Nat.le_of_ble_eq_true rfl) rfl (fun K hG hnL C hR hK => ?_) (by omega)
  subst hG
  show TW K 0 [(0, .int a0)] [] σ
  unfold fX8_isAct at h
  refine tw_iload_n (i := 0) (z := 0) C dX8_isAct_0 rfl rfl ?_
  refine tw_if_lt (tgt := 14) C dX8_isAct_1 (by decide) (fun hc1 => ?_) (fun hc1 => ?_)
  · have ht1 := ite_t hc1 h
    refine tw_iconst (v := 0) C dX8_isAct_14 (by decide) ?_
    obtain rfl := ht1
    exact tw_zret C hK rfl rfl rfl dX8_isAct_15
  · have hf1 := ite_f hc1 h
    refine tw_iload_n (i := 0) (z := 0) C dX8_isAct_4 rfl rfl ?_
    refine tw_bipush (v := 10) C dX8_isAct_5 (by decide) ?_
    refine tw_ic_ge (tgt := 14) C dX8_isAct_7 (by decide) (fun hc2 => ?_) (fun hc2 => ?_)
    · have ht2 := ite_t hc2 hf1
      refine tw_iconst (v := 0) C dX8_isAct_14 (by decide) ?_
      obtain rfl := ht2
      exact tw_zret C hK rfl rfl rfl dX8_isAct_15
    · have hf2 := ite_f hc2 hf1
      refine tw_iconst (v := 1) C dX8_isAct_10 (by decide) ?_
      refine tw_goto (tgt := 15) C dX8_isAct_11 (by decide) ?_
      obtain rfl := hf2
      exact tw_zret C hK rfl rfl rfl dX8_isAct_15

set_option maxRecDepth 20000 in
def fX8_isCell (a0 : Int32) : Bool :=
  if a0 < 0 then
    false
  else
    if (7 : Int32) ≤ a0 then
      false
    else
      true
set_option maxRecDepth 20000 in
set_option maxHeartbeats 4000000 in
theorem kX8_isCell (G : Gx) (d : Nat) (hdp : 1 ≤ d) (σ : St) (a0 : Int32)  {v0 : Bool} (h : fX8_isCell a0 = v0) : MS G d yX8_isCell cX8_isCell 1 (some .boolean) [.int a0] σ (some (.int (b2i v0))) σ := by
  refine MS_of (by decide) (Nat.le_of_ble_eq_true rfl) rfl (fun K hG hnL C hR hK => ?_) (by omega)
  subst hG
  show TW K 0 [(0, .int a0)] [] σ
  unfold fX8_isCell at h
  refine tw_iload_n (i := 0) (z := 0) C dX8_isCell_0 rfl rfl ?_
  refine tw_if_lt (tgt := 14) C dX8_isCell_1 (by decide) (fun hc1 => ?_) (fun hc1 => ?_)
  · have ht1 := ite_t hc1 h
    refine tw_iconst (v := 0) C dX8_isCell_14 (by decide) ?_
    obtain rfl := ht1
    exact tw_zret C hK rfl rfl rfl dX8_isCell_15
  · have hf1 := ite_f hc1 h
    refine tw_iload_n (i := 0) (z := 0) C dX8_isCell_4 rfl rfl ?_
    refine tw_bipush (v := 7) C dX8_isCell_5 (by decide) ?_
    refine tw_ic_ge (tgt := 14) C dX8_isCell_7 (by decide) (fun hc2 => ?_) (fun hc2 => ?_)
    · have ht2 := ite_t hc2 hf1
      refine tw_iconst (v := 0) C dX8_isCell_14 (by decide) ?_
      obtain rfl := ht2
      exact tw_zret C hK rfl rfl rfl dX8_isCell_15
    · have hf2 := ite_f hc2 hf1
      refine tw_iconst (v := 1) C dX8_isCell_10 (by decide) ?_
      refine tw_goto (tgt := 15) C dX8_isCell_11 (by decide) ?_
      obtain rfl := hf2
      exact tw_zret C hK rfl rfl rfl dX8_isCell_15

set_option maxRecDepth 20000 in
def fX8_why (σ : St) (a1 : Int32) (a2 : Int32) (a3 : Int32) : Option (Int32) :=
  if (fX8_isCode a1) = true then
    if (fX8_isAct a2) = true then
      if (fX8_isCell a3) = true then
        grd (inb a1 11) (
        grd (inb ((a2 * (7 : Int32)) + a3) 70) (
        some (σ (12, (tn a1)) (tn ((a2 * (7 : Int32)) + a3)))))
      else
        some (-2 : Int32)
    else
      some (-2 : Int32)
  else
    some (-2 : Int32)
set_option maxRecDepth 20000 in
set_option maxHeartbeats 4000000 in
theorem kX8_why (G : Gx) (d : Nat) (hdp : 2 ≤ d) (σ : St) (a1 : Int32) (a2 : Int32) (a3 : Int32)  {v0 : Int32} (h : fX8_why σ a1 a2 a3 = some v0) : MS G d yX8_why cX8_why 4 (some .int) [.ref (G.2.1 (8, 0)), .int a1, .int a2, .int a3] σ (some (.int v0)) σ := by
  refine MS_of (by decide) (Nat.le_of_ble_eq_true rfl) rfl (fun K hG hnL C hR hK => ?_) (by omega)
  subst hG
  show TW K 0 [(0, rv K (8, 0)), (1, .int a1), (2, .int a2), (3, .int a3)] [] σ
  unfold fX8_why at h
  refine tw_iload_n (i := 1) (z := 1) C dX8_why_0 rfl rfl ?_
  refine tw_callS (As := [.int a1]) (rest := []) C hR (kX8_isCode K.1 _ (by omega) σ a1  rfl) mi_X8_isCode st_X8_isCode ml_RX8_90 rfl rfl (Nat.le_of_ble_eq_true rfl) dX8_why_1 ?_
  show TW K 4 [(0, rv K (8, 0)), (1, .int a1), (2, .int a2), (3, .int a3)] [.int (b2i (fX8_isCode a1))] σ
  refine tw_if_eq (tgt := 21) C dX8_why_4 (by decide) (fun hc1 => ?_) (fun hc1 => ?_)
  · have ht1 := ite_f (b2i_z hc1) h
    refine tw_bipush (v := (-2)) C dX8_why_21 (by decide) ?_
    obtain rfl := (Option.some.inj ht1)
    exact tw_iret C hK rfl rfl dX8_why_23
  · have hf1 := ite_t (b2i_nz hc1) h
    refine tw_iload_n (i := 2) (z := 2) C dX8_why_7 rfl rfl ?_
    refine tw_callS (As := [.int a2]) (rest := []) C hR (kX8_isAct K.1 _ (by omega) σ a2  rfl) mi_X8_isAct st_X8_isAct ml_RX8_111 rfl rfl (Nat.le_of_ble_eq_true rfl) dX8_why_8 ?_
    show TW K 11 [(0, rv K (8, 0)), (1, .int a1), (2, .int a2), (3, .int a3)] [.int (b2i (fX8_isAct a2))] σ
    refine tw_if_eq (tgt := 21) C dX8_why_11 (by decide) (fun hc2 => ?_) (fun hc2 => ?_)
    · have ht2 := ite_f (b2i_z hc2) hf1
      refine tw_bipush (v := (-2)) C dX8_why_21 (by decide) ?_
      obtain rfl := (Option.some.inj ht2)
      exact tw_iret C hK rfl rfl dX8_why_23
    · have hf2 := ite_t (b2i_nz hc2) hf1
      refine tw_iload_n (i := 3) (z := 3) C dX8_why_14 rfl rfl ?_
      refine tw_callS (As := [.int a3]) (rest := []) C hR (kX8_isCell K.1 _ (by omega) σ a3  rfl) mi_X8_isCell st_X8_isCell ml_RX8_114 rfl rfl (Nat.le_of_ble_eq_true rfl) dX8_why_15 ?_
      show TW K 18 [(0, rv K (8, 0)), (1, .int a1), (2, .int a2), (3, .int a3)] [.int (b2i (fX8_isCell a3))] σ
      refine tw_if_ne (tgt := 24) C dX8_why_18 (by decide) (fun hc3 => ?_) (fun hc3 => ?_)
      · have ht3 := ite_t (b2i_nz hc3) hf2
        refine tw_aload_n (i := 0) (z := 0) (r := (8, 0)) C dX8_why_24 rfl rfl ?_
        refine tw_getR (g := 23) (z := 0) (j' := 0) C fl_RX8_11 rfl (wcells_mem (f := 8) (j := 0) (by decide) (by decide)) rfl rfl dX8_why_25 ?_
        refine tw_iload_n (i := 1) (z := 1) C dX8_why_28 rfl rfl ?_
        obtain ⟨hb4, eh4⟩ := grd_some ht3
        refine tw_aald (g := 1) C rfl 3 "ElevenCodes$Code" (fun _ => rfl) (by decide) (by decide) (wcells_mem (f := 23) (j := 0) (by decide) (by decide)) hb4 dX8_why_29 ?_
        refine tw_getR (g := 12) (z := 0) (j' := (tn a1)) C fl_RX8_117 rfl (wcells_mem (f := 1) (j := (tn a1)) (by decide) (inb_lt hb4)) rfl rfl dX8_why_30 ?_
        refine tw_iload_n (i := 2) (z := 2) C dX8_why_33 rfl rfl ?_
        refine tw_bipush (v := 7) C dX8_why_34 (by decide) ?_
        refine tw_imul C dX8_why_36 ?_
        refine tw_iload_n (i := 3) (z := 3) C dX8_why_37 rfl rfl ?_
        refine tw_iadd C dX8_why_38 ?_
        obtain ⟨hb5, eh5⟩ := grd_some eh4
        refine tw_iald (r := (12, (tn a1))) C (ia_of rfl (inb_lt hb4)) hb5 dX8_why_39 ?_
        obtain rfl := (Option.some.inj eh5)
        exact tw_iret C hK rfl rfl dX8_why_40
      · have hf3 := ite_f (b2i_z hc3) hf2
        refine tw_bipush (v := (-2)) C dX8_why_21 (by decide) ?_
        obtain rfl := (Option.some.inj hf3)
        exact tw_iret C hK rfl rfl dX8_why_23

set_option maxRecDepth 20000 in
def fX8_unlike (σ : St) (r0 : Rf) (r1 : Rf) : Option (Int32) :=
  lpF (fun (q1 : Int32 × Int32) => match q1 with
  | (x1, x2) =>
  if (17 : Int32) ≤ x2 then
    some (.inr x1)
  else
    grd (isIA r0 && inb x2 (alen r0.1)) (
    grd (isIA r1 && inb x2 (alen r1.1)) (
    bnd (if (σ r0 (tn x2)) = (σ r1 (tn x2)) then
      x1
    else
      bnd (x1 ||| ((1 : Int32) <<< (x2 &&& 31))) (fun x4 =>
      x4)) (fun x3 =>
    bnd (x2 + 1) (fun x5 =>
    some (.inl (x3, x5))))))) ((0 : Int32), (0 : Int32))
set_option maxRecDepth 20000 in
set_option maxHeartbeats 4000000 in
theorem kX8_unlike (G : Gx) (d : Nat) (hdp : 1 ≤ d) (σ : St) (r0 : Rf) (r1 : Rf)  {v0 : Int32} (h : fX8_unlike σ r0 r1 = some v0) : MS G d yX8_unlike cX8_unlike 4 (some .int) [.ref (G.2.1 r0), .ref (G.2.1 r1)] σ (some (.int v0)) σ := by
  refine MS_of (by decide) (Nat.le_of_ble_eq_true rfl) rfl (fun K hG hnL C hR hK => ?_) (by omega)
  subst hG
  show TW K 0 [(0, rv K r0), (1, rv K r1)] [] σ
  unfold fX8_unlike at h
  refine tw_iconst (v := 0) C dX8_unlike_0 (by decide) ?_
  refine tw_istore_n (lv' := [(0, rv K r0), (1, rv K r1), (2, .int (0 : Int32))]) C [1, 2, 0] dX8_unlike_1 rfl (by rw [hnL]; decide) rfl ?_
  refine tw_iconst (v := 0) C dX8_unlike_2 (by decide) ?_
  refine tw_istore_n (lv' := [(0, rv K r0), (1, rv K r1), (2, .int (0 : Int32)), (3, .int (0 : Int32))]) C [1, 2, 3, 0] dX8_unlike_3 rfl (by rw [hnL]; decide) rfl ?_
  refine lpF_ct (G := fun (q : Int32 × Int32) => match q with | (x1, x2) => TW K 4 [(0, rv K r0), (1, rv K r1), (2, .int x1), (3, .int x2)] [] σ) ?_ h
  rintro ⟨x1, x2⟩ w1 hx1 hk1
  show TW K 4 [(0, rv K r0), (1, rv K r1), (2, .int x1), (3, .int x2)] [] σ
  refine tw_iload_n (i := 3) (z := 3) C dX8_unlike_4 rfl rfl ?_
  refine tw_bipush (v := 17) C dX8_unlike_5 (by decide) ?_
  refine tw_ic_ge (tgt := 31) C dX8_unlike_7 (by decide) (fun hc2 => ?_) (fun hc2 => ?_)
  · have ht2 := ite_t hc2 hx1
    refine tw_iload_n (i := 2) (z := 2) C dX8_unlike_31 rfl rfl ?_
    have e3 := lp_x ht2 hk1
    obtain rfl := (Option.some.inj e3)
    exact tw_iret C hK rfl rfl dX8_unlike_32
  · have hf2 := ite_f hc2 hx1
    refine tw_aload_n (i := 0) (z := 0) (r := r0) C dX8_unlike_10 rfl rfl ?_
    refine tw_iload_n (i := 3) (z := 3) C dX8_unlike_11 rfl rfl ?_
    obtain ⟨hb4, eh4⟩ := grd_some hf2
    refine tw_iald (r := r0) C (and_t hb4).1 (and_t hb4).2 dX8_unlike_12 ?_
    refine tw_aload_n (i := 1) (z := 1) (r := r1) C dX8_unlike_13 rfl rfl ?_
    refine tw_iload_n (i := 3) (z := 3) C dX8_unlike_14 rfl rfl ?_
    obtain ⟨hb5, eh5⟩ := grd_some eh4
    refine tw_iald (r := r1) C (and_t hb5).1 (and_t hb5).2 dX8_unlike_15 ?_
    obtain ⟨x3, hx6, hq6⟩ := bnd_ex eh5
    have hJ6 : TW K 25 [(0, rv K r0), (1, rv K r1), (2, .int x3), (3, .int x2)] [] σ := by
      obtain ⟨x5, ex9, eh9⟩ := bnd_ex hq6
      refine tw_iinc (z := 3) (v := x5) (lv' := [(0, rv K r0), (1, rv K r1), (2, .int x3), (3, .int x5)]) C [1, 2, 3, 0] dX8_unlike_25 rfl ex9 (by rw [hnL]; decide) rfl ?_
      refine tw_goto (tgt := 4) C dX8_unlike_28 (by decide) ?_
      have hz := lp_c eh9 hk1
      exact hz
    refine tw_ic_eq (tgt := 25) C dX8_unlike_16 (by decide) (fun hc7 => ?_) (fun hc7 => ?_)
    · have ht7 := ite_t hc7 hx6
      obtain rfl := ht7
      exact hJ6
    · have hf7 := ite_f hc7 hx6
      refine tw_iload_n (i := 2) (z := 2) C dX8_unlike_19 rfl rfl ?_
      refine tw_iconst (v := 1) C dX8_unlike_20 (by decide) ?_
      refine tw_iload_n (i := 3) (z := 3) C dX8_unlike_21 rfl rfl ?_
      refine tw_ishl C dX8_unlike_22 ?_
      refine tw_ior C dX8_unlike_23 ?_
      obtain ⟨x4, ex8, eh8⟩ := bnd_ex hf7
      refine tw_topi ex8.symm ?_
      refine tw_istore_n (lv' := [(0, rv K r0), (1, rv K r1), (2, .int x4), (3, .int x2)]) C [1, 2, 0, 3] dX8_unlike_24 rfl (by rw [hnL]; decide) rfl ?_
      obtain rfl := eh8
      exact hJ6

set_option maxRecDepth 20000 in
def fX8_differ (σ : St) (a1 : Int32) (a2 : Int32) : Option (Int32) :=
  if (fX8_isCode a1) = true then
    if (fX8_isCode a2) = true then
      grd (inb a1 11) (
      grd (inb a2 11) (
      obi (fX8_unlike σ (11, (tn a1)) (11, (tn a2))) (fun x1 =>
      some x1)))
    else
      some (-2 : Int32)
  else
    some (-2 : Int32)
set_option maxRecDepth 20000 in
set_option maxHeartbeats 4000000 in
theorem kX8_differ (G : Gx) (d : Nat) (hdp : 2 ≤ d) (σ : St) (a1 : Int32) (a2 : Int32)  {v0 : Int32} (h : fX8_differ σ a1 a2 = some v0) : MS G d yX8_differ cX8_differ 3 (some .int) [.ref (G.2.1 (8, 0)), .int a1, .int a2] σ (some (.int v0)) σ := by
  refine MS_of (by decide) (Nat.le_of_ble_eq_true rfl) rfl (fun K hG hnL C hR hK => ?_) (by omega)
  subst hG
  show TW K 0 [(0, rv K (8, 0)), (1, .int a1), (2, .int a2)] [] σ
  unfold fX8_differ at h
  refine tw_iload_n (i := 1) (z := 1) C dX8_differ_0 rfl rfl ?_
  refine tw_callS (As := [.int a1]) (rest := []) C hR (kX8_isCode K.1 _ (by omega) σ a1  rfl) mi_X8_isCode st_X8_isCode ml_RX8_90 rfl rfl (Nat.le_of_ble_eq_true rfl) dX8_differ_1 ?_
  show TW K 4 [(0, rv K (8, 0)), (1, .int a1), (2, .int a2)] [.int (b2i (fX8_isCode a1))] σ
  refine tw_if_eq (tgt := 14) C dX8_differ_4 (by decide) (fun hc1 => ?_) (fun hc1 => ?_)
  · have ht1 := ite_f (b2i_z hc1) h
    refine tw_bipush (v := (-2)) C dX8_differ_14 (by decide) ?_
    obtain rfl := (Option.some.inj ht1)
    exact tw_iret C hK rfl rfl dX8_differ_16
  · have hf1 := ite_t (b2i_nz hc1) h
    refine tw_iload_n (i := 2) (z := 2) C dX8_differ_7 rfl rfl ?_
    refine tw_callS (As := [.int a2]) (rest := []) C hR (kX8_isCode K.1 _ (by omega) σ a2  rfl) mi_X8_isCode st_X8_isCode ml_RX8_90 rfl rfl (Nat.le_of_ble_eq_true rfl) dX8_differ_8 ?_
    show TW K 11 [(0, rv K (8, 0)), (1, .int a1), (2, .int a2)] [.int (b2i (fX8_isCode a2))] σ
    refine tw_if_ne (tgt := 17) C dX8_differ_11 (by decide) (fun hc2 => ?_) (fun hc2 => ?_)
    · have ht2 := ite_t (b2i_nz hc2) hf1
      refine tw_aload_n (i := 0) (z := 0) (r := (8, 0)) C dX8_differ_17 rfl rfl ?_
      refine tw_getR (g := 23) (z := 0) (j' := 0) C fl_RX8_11 rfl (wcells_mem (f := 8) (j := 0) (by decide) (by decide)) rfl rfl dX8_differ_18 ?_
      refine tw_iload_n (i := 1) (z := 1) C dX8_differ_21 rfl rfl ?_
      obtain ⟨hb3, eh3⟩ := grd_some ht2
      refine tw_aald (g := 1) C rfl 3 "ElevenCodes$Code" (fun _ => rfl) (by decide) (by decide) (wcells_mem (f := 23) (j := 0) (by decide) (by decide)) hb3 dX8_differ_22 ?_
      refine tw_getR (g := 11) (z := 0) (j' := (tn a1)) C fl_RX8_108 rfl (wcells_mem (f := 1) (j := (tn a1)) (by decide) (inb_lt hb3)) rfl rfl dX8_differ_23 ?_
      refine tw_aload_n (i := 0) (z := 0) (r := (8, 0)) C dX8_differ_26 rfl rfl ?_
      refine tw_getR (g := 23) (z := 0) (j' := 0) C fl_RX8_11 rfl (wcells_mem (f := 8) (j := 0) (by decide) (by decide)) rfl rfl dX8_differ_27 ?_
      refine tw_iload_n (i := 2) (z := 2) C dX8_differ_30 rfl rfl ?_
      obtain ⟨hb4, eh4⟩ := grd_some eh3
      refine tw_aald (g := 1) C rfl 3 "ElevenCodes$Code" (fun _ => rfl) (by decide) (by decide) (wcells_mem (f := 23) (j := 0) (by decide) (by decide)) hb4 dX8_differ_31 ?_
      refine tw_getR (g := 11) (z := 0) (j' := (tn a2)) C fl_RX8_108 rfl (wcells_mem (f := 1) (j := (tn a2)) (by decide) (inb_lt hb4)) rfl rfl dX8_differ_32 ?_
      obtain ⟨x1, hv5, eh5⟩ := obi_some eh4
      refine tw_callS (As := [rv K (11, (tn a1)), rv K (11, (tn a2))]) (rest := []) C hR (kX8_unlike K.1 _ (by omega) σ (11, (tn a1)) (11, (tn a2))  hv5) mi_X8_unlike st_X8_unlike ml_RX8_120 rfl rfl (Nat.le_of_ble_eq_true rfl) dX8_differ_35 ?_
      show TW K 38 [(0, rv K (8, 0)), (1, .int a1), (2, .int a2)] [.int x1] σ
      obtain rfl := (Option.some.inj eh5)
      exact tw_iret C hK rfl rfl dX8_differ_38
    · have hf2 := ite_f (b2i_z hc2) hf1
      refine tw_bipush (v := (-2)) C dX8_differ_14 (by decide) ?_
      obtain rfl := (Option.some.inj hf2)
      exact tw_iret C hK rfl rfl dX8_differ_16

set_option maxRecDepth 20000 in
def fX8_isSheet (a0 : Int32) : Bool :=
  if a0 < 0 then
    false
  else
    if (4 : Int32) ≤ a0 then
      false
    else
      true
set_option maxRecDepth 20000 in
set_option maxHeartbeats 4000000 in
theorem kX8_isSheet (G : Gx) (d : Nat) (hdp : 1 ≤ d) (σ : St) (a0 : Int32)  {v0 : Bool} (h : fX8_isSheet a0 = v0) : MS G d yX8_isSheet cX8_isSheet 1 (some .boolean) [.int a0] σ (some (.int (b2i v0))) σ := by
  refine MS_of (by decide) (Nat.le_of_ble_eq_true rfl) rfl (fun K hG hnL C hR hK => ?_) (by omega)
  subst hG
  show TW K 0 [(0, .int a0)] [] σ
  unfold fX8_isSheet at h
  refine tw_iload_n (i := 0) (z := 0) C dX8_isSheet_0 rfl rfl ?_
  refine tw_if_lt (tgt := 13) C dX8_isSheet_1 (by decide) (fun hc1 => ?_) (fun hc1 => ?_)
  · have ht1 := ite_t hc1 h
    refine tw_iconst (v := 0) C dX8_isSheet_13 (by decide) ?_
    obtain rfl := ht1
    exact tw_zret C hK rfl rfl rfl dX8_isSheet_14
  · have hf1 := ite_f hc1 h
    refine tw_iload_n (i := 0) (z := 0) C dX8_isSheet_4 rfl rfl ?_
    refine tw_iconst (v := 4) C dX8_isSheet_5 (by decide) ?_
    refine tw_ic_ge (tgt := 13) C dX8_isSheet_6 (by decide) (fun hc2 => ?_) (fun hc2 => ?_)
    · have ht2 := ite_t hc2 hf1
      refine tw_iconst (v := 0) C dX8_isSheet_13 (by decide) ?_
      obtain rfl := ht2
      exact tw_zret C hK rfl rfl rfl dX8_isSheet_14
    · have hf2 := ite_f hc2 hf1
      refine tw_iconst (v := 1) C dX8_isSheet_9 (by decide) ?_
      refine tw_goto (tgt := 14) C dX8_isSheet_10 (by decide) ?_
      obtain rfl := hf2
      exact tw_zret C hK rfl rfl rfl dX8_isSheet_14

set_option maxRecDepth 20000 in
def fX8_refuse (σ : St) (a1 : Int32) : Int32 × St :=
  bnd (su σ (8, 0) 15 a1) (fun σ1 =>
  ((-10 : Int32) - a1, σ1))
set_option maxRecDepth 20000 in
set_option maxHeartbeats 4000000 in
theorem kX8_refuse (G : Gx) (d : Nat) (hdp : 1 ≤ d) (σ : St) (a1 : Int32)  {v0 : Int32} {σ' : St} (h : fX8_refuse σ a1 = (v0, σ')) : MS G d yX8_refuse cX8_refuse 2 (some .int) [.ref (G.2.1 (8, 0)), .int a1] σ (some (.int v0)) σ' := by
  refine MS_of (by decide) (Nat.le_of_ble_eq_true rfl) rfl (fun K hG hnL C hR hK => ?_) (by omega)
  subst hG
  show TW K 0 [(0, rv K (8, 0)), (1, .int a1)] [] σ
  unfold fX8_refuse at h
  refine tw_aload_n (i := 0) (z := 0) (r := (8, 0)) C dX8_refuse_0 rfl rfl ?_
  refine tw_iload_n (i := 1) (z := 1) C dX8_refuse_1 rfl rfl ?_
  obtain ⟨σ1, es1, eh1⟩ := bnd_ex h
  refine tw_put C fl_RX8_317 (fun q hq => by cases hq; rfl) rfl (wcells_mem (f := 8) (j := 0) (by decide) (by decide)) rfl rfl rfl dX8_refuse_2 ?_
  rw [es1]
  refine tw_bipush (v := (-10)) C dX8_refuse_5 (by decide) ?_
  refine tw_iload_n (i := 1) (z := 1) C dX8_refuse_7 rfl rfl ?_
  refine tw_isub C dX8_refuse_8 ?_
  obtain ⟨rfl, rfl⟩ := pj2 eh1
  exact tw_iret C hK rfl rfl dX8_refuse_9

set_option maxRecDepth 20000 in
def fX8_match (σ : St) (a1 : Int32) (a2 : Int32) : Option (Int32 × St) :=
  if (fX8_isSheet a1) = true then
    if a2 < 0 then
      some ((-2 : Int32), σ)
    else
      if a2 ≤ (40 : Int32) then
        grd (inb a1 4) (
        if (σ (6, (tn a1)) 1) = 0 then
          grd (inb a1 4) (
          if a2 ≤ (σ (6, (tn a1)) 3) then
            if (σ (8, 0) 10) < (12 : Int32) then
              grd (inb (σ (8, 0) 10) 12) (
              grd (inb a1 4) (
              obi (fX3_setMoments σ (tn (σ (8, 0) 10)) (tn a1) a2) (fun σ1 =>
              bnd (su σ1 (8, 0) 10 ((σ1 (8, 0) 10) + (1 : Int32))) (fun σ2 =>
              some ((σ2 (8, 0) 10) - (1 : Int32), σ2)))))
            else
              some ((-4 : Int32), σ)
          else
            bnd (fX8_refuse σ (2 : Int32)) (fun (x1, σ3) =>
            some (x1, σ3)))
        else
          bnd (fX8_refuse σ (1 : Int32)) (fun (x2, σ4) =>
          some (x2, σ4)))
      else
        some ((-2 : Int32), σ)
  else
    some ((-2 : Int32), σ)
set_option maxRecDepth 20000 in
set_option maxHeartbeats 4000000 in
theorem kX8_match (G : Gx) (d : Nat) (hdp : 3 ≤ d) (σ : St) (a1 : Int32) (a2 : Int32)  {v0 : Int32} {σ' : St} (h : fX8_match σ a1 a2 = some (v0, σ')) : MS G d yX8_match cX8_match 3 (some .int) [.ref (G.2.1 (8, 0)), .int a1, .int a2] σ (some (.int v0)) σ' := by
  refine MS_of (by decide) (Nat.le_of_ble_eq_true rfl) rfl (fun K hG hnL C hR hK => ?_) (by omega)
  subst hG
  show TW K 0 [(0, rv K (8, 0)), (1, .int a1), (2, .int a2)] [] σ
  unfold fX8_match at h
  refine tw_iload_n (i := 1) (z := 1) C dX8_match_0 rfl rfl ?_
  refine tw_callS (As := [.int a1]) (rest := []) C hR (kX8_isSheet K.1 _ (by omega) σ a1  rfl) mi_X8_isSheet st_X8_isSheet ml_RX8_124 rfl rfl (Nat.le_of_ble_eq_true rfl) dX8_match_1 ?_
  show TW K 4 [(0, rv K (8, 0)), (1, .int a1), (2, .int a2)] [.int (b2i (fX8_isSheet a1))] σ
  refine tw_if_eq (tgt := 17) C dX8_match_4 (by decide) (fun hc1 => ?_) (fun hc1 => ?_)
  · have ht1 := ite_f (b2i_z hc1) h
    refine tw_bipush (v := (-2)) C dX8_match_17 (by decide) ?_
    obtain ⟨rfl, rfl⟩ := pj2 (Option.some.inj ht1)
    exact tw_iret C hK rfl rfl dX8_match_19
  · have hf1 := ite_t (b2i_nz hc1) h
    refine tw_iload_n (i := 2) (z := 2) C dX8_match_7 rfl rfl ?_
    refine tw_if_lt (tgt := 17) C dX8_match_8 (by decide) (fun hc2 => ?_) (fun hc2 => ?_)
    · have ht2 := ite_t hc2 hf1
      refine tw_bipush (v := (-2)) C dX8_match_17 (by decide) ?_
      obtain ⟨rfl, rfl⟩ := pj2 (Option.some.inj ht2)
      exact tw_iret C hK rfl rfl dX8_match_19
    · have hf2 := ite_f hc2 hf1
      refine tw_iload_n (i := 2) (z := 2) C dX8_match_11 rfl rfl ?_
      refine tw_bipush (v := 40) C dX8_match_12 (by decide) ?_
      refine tw_ic_le (tgt := 20) C dX8_match_14 (by decide) (fun hc3 => ?_) (fun hc3 => ?_)
      · have ht3 := ite_t hc3 hf2
        refine tw_aload_n (i := 0) (z := 0) (r := (8, 0)) C dX8_match_20 rfl rfl ?_
        refine tw_getR (g := 26) (z := 0) (j' := 0) C fl_RX8_29 rfl (wcells_mem (f := 8) (j := 0) (by decide) (by decide)) rfl rfl dX8_match_21 ?_
        refine tw_iload_n (i := 1) (z := 1) C dX8_match_24 rfl rfl ?_
        obtain ⟨hb4, eh4⟩ := grd_some ht3
        refine tw_aald (g := 6) C rfl 6 "ElevenCodes$Sheet" (fun _ => rfl) (by decide) (by decide) (wcells_mem (f := 26) (j := 0) (by decide) (by decide)) hb4 dX8_match_25 ?_
        refine tw_getI C fl_RX8_127 rfl (wcells_mem (f := 6) (j := (tn a1)) (by decide) (inb_lt hb4)) rfl dX8_match_26 ?_
        refine tw_if_eq (tgt := 38) C dX8_match_29 (by decide) (fun hc5 => ?_) (fun hc5 => ?_)
        · have ht5 := ite_t hc5 eh4
          refine tw_iload_n (i := 2) (z := 2) C dX8_match_38 rfl rfl ?_
          refine tw_aload_n (i := 0) (z := 0) (r := (8, 0)) C dX8_match_39 rfl rfl ?_
          refine tw_getR (g := 26) (z := 0) (j' := 0) C fl_RX8_29 rfl (wcells_mem (f := 8) (j := 0) (by decide) (by decide)) rfl rfl dX8_match_40 ?_
          refine tw_iload_n (i := 1) (z := 1) C dX8_match_43 rfl rfl ?_
          obtain ⟨hb6, eh6⟩ := grd_some ht5
          refine tw_aald (g := 6) C rfl 6 "ElevenCodes$Sheet" (fun _ => rfl) (by decide) (by decide) (wcells_mem (f := 26) (j := 0) (by decide) (by decide)) hb6 dX8_match_44 ?_
          refine tw_getI C fl_RX8_134 rfl (wcells_mem (f := 6) (j := (tn a1)) (by decide) (inb_lt hb6)) rfl dX8_match_45 ?_
          refine tw_ic_le (tgt := 57) C dX8_match_48 (by decide) (fun hc7 => ?_) (fun hc7 => ?_)
          · have ht7 := ite_t hc7 eh6
            refine tw_aload_n (i := 0) (z := 0) (r := (8, 0)) C dX8_match_57 rfl rfl ?_
            refine tw_getI C fl_RX8_137 rfl (wcells_mem (f := 8) (j := 0) (by decide) (by decide)) rfl dX8_match_58 ?_
            refine tw_bipush (v := 12) C dX8_match_61 (by decide) ?_
            refine tw_ic_lt (tgt := 69) C dX8_match_63 (by decide) (fun hc8 => ?_) (fun hc8 => ?_)
            · have ht8 := ite_t hc8 ht7
              refine tw_aload_n (i := 0) (z := 0) (r := (8, 0)) C dX8_match_69 rfl rfl ?_
              refine tw_getR (g := 24) (z := 0) (j' := 0) C fl_RX8_17 rfl (wcells_mem (f := 8) (j := 0) (by decide) (by decide)) rfl rfl dX8_match_70 ?_
              refine tw_aload_n (i := 0) (z := 0) (r := (8, 0)) C dX8_match_73 rfl rfl ?_
              refine tw_getI C fl_RX8_137 rfl (wcells_mem (f := 8) (j := 0) (by decide) (by decide)) rfl dX8_match_74 ?_
              obtain ⟨hb9, eh9⟩ := grd_some ht8
              refine tw_aald (g := 3) C rfl 4 "ElevenCodes$Match" (fun _ => rfl) (by decide) (by decide) (wcells_mem (f := 24) (j := 0) (by decide) (by decide)) hb9 dX8_match_77 ?_
              refine tw_aload_n (i := 0) (z := 0) (r := (8, 0)) C dX8_match_78 rfl rfl ?_
              refine tw_getR (g := 26) (z := 0) (j' := 0) C fl_RX8_29 rfl (wcells_mem (f := 8) (j := 0) (by decide) (by decide)) rfl rfl dX8_match_79 ?_
              refine tw_iload_n (i := 1) (z := 1) C dX8_match_82 rfl rfl ?_
              obtain ⟨hb10, eh10⟩ := grd_some eh9
              refine tw_aald (g := 6) C rfl 6 "ElevenCodes$Sheet" (fun _ => rfl) (by decide) (by decide) (wcells_mem (f := 26) (j := 0) (by decide) (by decide)) hb10 dX8_match_83 ?_
              refine tw_iload_n (i := 2) (z := 2) C dX8_match_84 rfl rfl ?_
              obtain ⟨σ1, hv11, eh11⟩ := obi_some eh10
              refine tw_callV (As := [rv K (6, (tn a1)), .int a2]) (rest := []) (r := (3, (tn (σ (8, 0) 10)))) C hR (kX3_setMoments K.1 _ (by omega) _ (tn (σ (8, 0) 10)) (tn a1) a2 (inb_lt hb9) (inb_lt hb10) hv11) mi_X3_setMoments is_X3_setMoments se_X3_setMoments ml_RX8_140 (wcells_mem (f := 3) (j := (tn (σ (8, 0) 10))) (by decide) (inb_lt hb9)) rfl rfl rfl rfl (Nat.le_of_ble_eq_true rfl) dX8_match_85 ?_
              show TW K 88 [(0, rv K (8, 0)), (1, .int a1), (2, .int a2)] [] σ1
              refine tw_aload_n (i := 0) (z := 0) (r := (8, 0)) C dX8_match_88 rfl rfl ?_
              refine tw_dup C dX8_match_89 rfl ?_
              refine tw_getI C fl_RX8_137 rfl (wcells_mem (f := 8) (j := 0) (by decide) (by decide)) rfl dX8_match_90 ?_
              refine tw_iconst (v := 1) C dX8_match_93 (by decide) ?_
              refine tw_iadd C dX8_match_94 ?_
              obtain ⟨σ2, es12, eh12⟩ := bnd_ex eh11
              refine tw_put C fl_RX8_137 (fun q hq => by cases hq; rfl) rfl (wcells_mem (f := 8) (j := 0) (by decide) (by decide)) rfl rfl rfl dX8_match_95 ?_
              rw [es12]
              refine tw_aload_n (i := 0) (z := 0) (r := (8, 0)) C dX8_match_98 rfl rfl ?_
              refine tw_getI C fl_RX8_137 rfl (wcells_mem (f := 8) (j := 0) (by decide) (by decide)) rfl dX8_match_99 ?_
              refine tw_iconst (v := 1) C dX8_match_102 (by decide) ?_
              refine tw_isub C dX8_match_103 ?_
              obtain ⟨rfl, rfl⟩ := pj2 (Option.some.inj eh12)
              exact tw_iret C hK rfl rfl dX8_match_104
            · have hf8 := ite_f hc8 ht7
              refine tw_bipush (v := (-4)) C dX8_match_66 (by decide) ?_
              obtain ⟨rfl, rfl⟩ := pj2 (Option.some.inj hf8)
              exact tw_iret C hK rfl rfl dX8_match_68
          · have hf7 := ite_f hc7 eh6
            refine tw_aload_n (i := 0) (z := 0) (r := (8, 0)) C dX8_match_51 rfl rfl ?_
            refine tw_iconst (v := 2) C dX8_match_52 (by decide) ?_
            obtain ⟨⟨x1, σ3⟩, hv13, eh13⟩ := bnd_ex hf7
            refine tw_callV (As := [.int (2 : Int32)]) (rest := []) (r := (8, 0)) C hR (kX8_refuse K.1 _ (by omega) _ (2 : Int32)  hv13) mi_X8_refuse is_X8_refuse se_X8_refuse ml_RX8_131 (wcells_mem (f := 8) (j := 0) (by decide) (by decide)) rfl rfl rfl rfl (Nat.le_of_ble_eq_true rfl) dX8_match_53 ?_
            show TW K 56 [(0, rv K (8, 0)), (1, .int a1), (2, .int a2)] [.int x1] σ3
            obtain ⟨rfl, rfl⟩ := pj2 (Option.some.inj eh13)
            exact tw_iret C hK rfl rfl dX8_match_56
        · have hf5 := ite_f hc5 eh4
          refine tw_aload_n (i := 0) (z := 0) (r := (8, 0)) C dX8_match_32 rfl rfl ?_
          refine tw_iconst (v := 1) C dX8_match_33 (by decide) ?_
          obtain ⟨⟨x2, σ4⟩, hv14, eh14⟩ := bnd_ex hf5
          refine tw_callV (As := [.int (1 : Int32)]) (rest := []) (r := (8, 0)) C hR (kX8_refuse K.1 _ (by omega) _ (1 : Int32)  hv14) mi_X8_refuse is_X8_refuse se_X8_refuse ml_RX8_131 (wcells_mem (f := 8) (j := 0) (by decide) (by decide)) rfl rfl rfl rfl (Nat.le_of_ble_eq_true rfl) dX8_match_34 ?_
          show TW K 37 [(0, rv K (8, 0)), (1, .int a1), (2, .int a2)] [.int x2] σ4
          obtain ⟨rfl, rfl⟩ := pj2 (Option.some.inj eh14)
          exact tw_iret C hK rfl rfl dX8_match_37
      · have hf3 := ite_f hc3 hf2
        refine tw_bipush (v := (-2)) C dX8_match_17 (by decide) ?_
        obtain ⟨rfl, rfl⟩ := pj2 (Option.some.inj hf3)
        exact tw_iret C hK rfl rfl dX8_match_19

set_option maxRecDepth 20000 in
def fX8_isMatch (σ : St) (a1 : Int32) : Bool :=
  if a1 < 0 then
    false
  else
    if (σ (8, 0) 10) ≤ a1 then
      false
    else
      true
set_option maxRecDepth 20000 in
set_option maxHeartbeats 4000000 in
theorem kX8_isMatch (G : Gx) (d : Nat) (hdp : 1 ≤ d) (σ : St) (a1 : Int32)  {v0 : Bool} (h : fX8_isMatch σ a1 = v0) : MS G d yX8_isMatch cX8_isMatch 2 (some .boolean) [.ref (G.2.1 (8, 0)), .int a1] σ (some (.int (b2i v0))) σ := by
  refine MS_of (by decide) (Nat.le_of_ble_eq_true rfl) rfl (fun K hG hnL C hR hK => ?_) (by omega)
  subst hG
  show TW K 0 [(0, rv K (8, 0)), (1, .int a1)] [] σ
  unfold fX8_isMatch at h
  refine tw_iload_n (i := 1) (z := 1) C dX8_isMatch_0 rfl rfl ?_
  refine tw_if_lt (tgt := 16) C dX8_isMatch_1 (by decide) (fun hc1 => ?_) (fun hc1 => ?_)
  · have ht1 := ite_t hc1 h
    refine tw_iconst (v := 0) C dX8_isMatch_16 (by decide) ?_
    obtain rfl := ht1
    exact tw_zret C hK rfl rfl rfl dX8_isMatch_17
  · have hf1 := ite_f hc1 h
    refine tw_iload_n (i := 1) (z := 1) C dX8_isMatch_4 rfl rfl ?_
    refine tw_aload_n (i := 0) (z := 0) (r := (8, 0)) C dX8_isMatch_5 rfl rfl ?_
    refine tw_getI C fl_RX8_137 rfl (wcells_mem (f := 8) (j := 0) (by decide) (by decide)) rfl dX8_isMatch_6 ?_
    refine tw_ic_ge (tgt := 16) C dX8_isMatch_9 (by decide) (fun hc2 => ?_) (fun hc2 => ?_)
    · have ht2 := ite_t hc2 hf1
      refine tw_iconst (v := 0) C dX8_isMatch_16 (by decide) ?_
      obtain rfl := ht2
      exact tw_zret C hK rfl rfl rfl dX8_isMatch_17
    · have hf2 := ite_f hc2 hf1
      refine tw_iconst (v := 1) C dX8_isMatch_12 (by decide) ?_
      refine tw_goto (tgt := 17) C dX8_isMatch_13 (by decide) ?_
      obtain rfl := hf2
      exact tw_zret C hK rfl rfl rfl dX8_isMatch_17

