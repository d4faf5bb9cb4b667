set_option maxRecDepth 20000 in
def fX9_motionOf (σ : St) (a1 : Int32) (a2 : Int32) (a3 : Int32) : Option (Int32 × St) :=
  obi (fX9_itemOf σ a2 a1) (fun (x1, σ1) =>
  obi (lpF (fun (q3 : Int32 × Int32 × Int32 × Int32 × St) => match q3 with
  | (x5, x6, x7, x8, σ3) =>
  if (σ3 (9, 0) 28) ≤ x8 then
    some (.inr ((x5, x6, x7, σ3)))
  else
    grd (inb x8 12) (
    obi (if (σ3 (46, 0) (tn x8)) = 0 then
      some (x5, x6, x7, σ3)
    else
      grd (inb x8 12) (
      obi (fX9_itemOf σ3 (σ3 (44, 0) (tn x8)) a1) (fun (x12, σ5) =>
      bnd (if x12 = x1 then
        (1 : Int32)
      else
        (0 : Int32)) (fun x13 =>
      bnd (x5 + x13) (fun x14 =>
      obi (if x12 = x1 then
        some (0 : Int32)
      else
        grd (inb a1 17) (
        if x12 = (σ5 (47, 0) (tn a1)) then
          some (1 : Int32)
        else
          some (0 : Int32))) (fun x15 =>
      bnd (x6 + x15) (fun x16 =>
      obi (if x12 = x1 then
        some (0 : Int32)
      else
        grd (inb x8 12) (
        if (((σ5 (45, 0) (tn x8)) >>> (a1 &&& 31)) &&& (1 : Int32)) = (1 : Int32) then
          some ((1 : Int32) <<< (x8 &&& 31))
        else
          some (0 : Int32))) (fun x17 =>
      bnd (x7 ||| x17) (fun x18 =>
      some (x14, x16, x18, σ5)))))))))) (fun (x9, x10, x11, σ4) =>
    bnd (x8 + 1) (fun x19 =>
    some (.inl (x9, x10, x11, x19, σ4)))))) ((0 : Int32), (0 : Int32), (0 : Int32), (0 : Int32), σ1)) (fun (x2, x3, x4, σ2) =>
  bnd (if (x2 * (σ2 (9, 0) 34)) < ((σ2 (9, 0) 33) * (x2 + x3)) then
    (0 : Int32)
  else
    if (x2 + x3) < (σ2 (9, 0) 35) then
      (0 : Int32)
    else
      (1 : Int32)) (fun x20 =>
  if a3 = 0 then
    some (x2, σ2)
  else
    if a3 = (1 : Int32) then
      some (x3, σ2)
    else
      if a3 = (2 : Int32) then
        if x20 = 0 then
          some ((0 : Int32), σ2)
        else
          some ((1 : Int32), σ2)
      else
        some (x4, σ2))))
set_option maxRecDepth 20000 in
set_option maxHeartbeats 4000000 in
theorem kX9_motionOf (G : Gx) (d : Nat) (hdp : 7 ≤ d) (σ : St) (a1 : Int32) (a2 : Int32) (a3 : Int32)  {v0 : Int32} {σ' : St} (h : fX9_motionOf σ a1 a2 a3 = some (v0, σ')) : MS G d yX9_motionOf cX9_motionOf 10 (some .int) [.ref (G.2.1 (9, 0)), .int a1, .int a2, .int a3] σ (some (.int v0)) σ' := by
  refine MS_of (by decide) (Nat.le_of_ble_eq_true rfl) rfl (fun K hG hnL C hR hK => ?_) (by omega)
  subst hG
  show TW K 0 [(0, rv K (9, 0)), (1, .int a1), (2, .int a2), (3, .int a3)] [] σ
  unfold fX9_motionOf at h
  refine tw_aload_n (i := 0) (z := 0) (r := (9, 0)) C dX9_motionOf_0 rfl rfl ?_
  refine tw_iload_n (i := 2) (z := 2) C dX9_motionOf_1 rfl rfl ?_
  refine tw_iload_n (i := 1) (z := 1) C dX9_motionOf_2 rfl rfl ?_
  obtain ⟨⟨x1, σ1⟩, hv1, eh1⟩ := obi_some h
  refine tw_callV (As := [.int a2, .int a1]) (rest := []) (r := (9, 0)) C hR (kX9_itemOf K.1 _ (by omega) _ a2 a1  hv1) mi_X9_itemOf is_X9_itemOf se_X9_itemOf ml_RX9_147 (wcells_mem (f := 9) (j := 0) (by decide) (by decide)) rfl rfl rfl rfl (Nat.le_of_ble_eq_true rfl) dX9_motionOf_3 ?_
  show TW K 6 [(0, rv K (9, 0)), (1, .int a1), (2, .int a2), (3, .int a3)] [.int x1] σ1
  refine tw_istore (lv' := [(0, rv K (9, 0)), (1, .int a1), (2, .int a2), (3, .int a3), (4, .int x1)]) C [1, 2, 3, 4, 0] dX9_motionOf_6 (by rw [hnL]; decide) rfl ?_
  refine tw_iconst (v := 0) C dX9_motionOf_8 (by decide) ?_
  refine tw_istore (lv' := [(0, rv K (9, 0)), (1, .int a1), (2, .int a2), (3, .int a3), (4, .int x1), (5, .int (0 : Int32))]) C [1, 2, 3, 4, 5, 0] dX9_motionOf_9 (by rw [hnL]; decide) rfl ?_
  refine tw_iconst (v := 0) C dX9_motionOf_11 (by decide) ?_
  refine tw_istore (lv' := [(0, rv K (9, 0)), (1, .int a1), (2, .int a2), (3, .int a3), (4, .int x1), (5, .int (0 : Int32)), (6, .int (0 : Int32))]) C [1, 2, 3, 4, 5, 6, 0] dX9_motionOf_12 (by rw [hnL]; decide) rfl ?_
  refine tw_iconst (v := 0) C dX9_motionOf_14 (by decide) ?_
  refine tw_istore (lv' := [(0, rv K (9, 0)), (1, .int a1), (2, .int a2), (3, .int a3), (4, .int x1), (5, .int (0 : Int32)), (6, .int (0 : Int32)), (7, .int (0 : Int32))]) C [1, 2, 3, 4, 5, 6, 7, 0] dX9_motionOf_15 (by rw [hnL]; decide) rfl ?_
  refine tw_iconst (v := 0) C dX9_motionOf_17 (by decide) ?_
  refine tw_istore (lv' := [(0, rv K (9, 0)), (1, .int a1), (2, .int a2), (3, .int a3), (4, .int x1), (5, .int (0 : Int32)), (6, .int (0 : Int32)), (7, .int (0 : Int32)), (8, .int (0 : Int32))]) C [1, 2, 3, 4, 5, 6, 7, 8, 0] dX9_motionOf_18 (by rw [hnL]; decide) rfl ?_
  obtain ⟨⟨x2, x3, x4, σ2⟩, hx2, hq2⟩ := obi_some eh1
  have hJ2 : TW K 139 [(0, rv K (9, 0)), (3, .int a3), (5, .int x2), (6, .int x3), (7, .int x4)] [] σ2 := by
    refine tw_iload (i := 5) (z := 2) C dX9_motionOf_139 rfl ?_
    refine tw_aload_n (i := 0) (z := 0) (r := (9, 0)) C dX9_motionOf_141 rfl rfl ?_
    refine tw_getI C fl_RX9_72 rfl (wcells_mem (f := 9) (j := 0) (by decide) (by decide)) rfl dX9_motionOf_142 ?_
    refine tw_imul C dX9_motionOf_145 ?_
    refine tw_aload_n (i := 0) (z := 0) (r := (9, 0)) C dX9_motionOf_146 rfl rfl ?_
    refine tw_getI C fl_RX9_68 rfl (wcells_mem (f := 9) (j := 0) (by decide) (by decide)) rfl dX9_motionOf_147 ?_
    refine tw_iload (i := 5) (z := 2) C dX9_motionOf_150 rfl ?_
    refine tw_iload (i := 6) (z := 3) C dX9_motionOf_152 rfl ?_
    refine tw_iadd C dX9_motionOf_154 ?_
    refine tw_imul C dX9_motionOf_155 ?_
    obtain ⟨x20, hx25, hq25⟩ := bnd_ex hq2
    have hJ25 : TW K 176 [(3, .int a3), (5, .int x2), (6, .int x3), (7, .int x4)] [.int x20] σ2 := by
      refine tw_istore (lv' := [(3, .int a3), (5, .int x2), (6, .int x3), (7, .int x4), (8, .int x20)]) C [1, 2, 3, 4, 0] dX9_motionOf_176 (by rw [hnL]; decide) rfl ?_
      refine tw_iload_n (i := 3) (z := 0) C dX9_motionOf_178 rfl rfl ?_
      refine tw_if_ne (tgt := 187) C dX9_motionOf_179 (by decide) (fun hc28 => ?_) (fun hc28 => ?_)
      · have ht28 := ite_f hc28 hq25
        refine tw_iload_n (i := 3) (z := 0) C dX9_motionOf_187 rfl rfl ?_
        refine tw_iconst (v := 1) C dX9_motionOf_188 (by decide) ?_
        refine tw_ic_ne (tgt := 197) C dX9_motionOf_189 (by decide) (fun hc29 => ?_) (fun hc29 => ?_)
        · have ht29 := ite_f hc29 ht28
          refine tw_iload_n (i := 3) (z := 0) C dX9_motionOf_197 rfl rfl ?_
          refine tw_iconst (v := 2) C dX9_motionOf_198 (by decide) ?_
          refine tw_ic_ne (tgt := 215) C dX9_motionOf_199 (by decide) (fun hc30 => ?_) (fun hc30 => ?_)
          · have ht30 := ite_f hc30 ht29
            refine tw_iload (i := 7) (z := 3) C dX9_motionOf_215 rfl ?_
            obtain ⟨rfl, rfl⟩ := pj2 (Option.some.inj ht30)
            exact tw_iret C hK rfl rfl dX9_motionOf_217
          · have hf30 := ite_t hc30 ht29
            refine tw_iload (i := 8) (z := 4) C dX9_motionOf_202 rfl ?_
            refine tw_if_eq (tgt := 211) C dX9_motionOf_204 (by decide) (fun hc31 => ?_) (fun hc31 => ?_)
            · have ht31 := ite_t hc31 hf30
              refine tw_iconst (v := 0) C dX9_motionOf_211 (by decide) ?_
              refine tw_goto (tgt := 217) C dX9_motionOf_212 (by decide) ?_
              obtain ⟨rfl, rfl⟩ := pj2 (Option.some.inj ht31)
              exact tw_iret C hK rfl rfl dX9_motionOf_217
            · have hf31 := ite_f hc31 hf30
              refine tw_iconst (v := 1) C dX9_motionOf_207 (by decide) ?_
              refine tw_goto (tgt := 217) C dX9_motionOf_208 (by decide) ?_
              obtain ⟨rfl, rfl⟩ := pj2 (Option.some.inj hf31)
              exact tw_iret C hK rfl rfl dX9_motionOf_217
        · have hf29 := ite_t hc29 ht28
          refine tw_iload (i := 6) (z := 2) C dX9_motionOf_192 rfl ?_
          refine tw_goto (tgt := 217) C dX9_motionOf_194 (by decide) ?_
          obtain ⟨rfl, rfl⟩ := pj2 (Option.some.inj hf29)
          exact tw_iret C hK rfl rfl dX9_motionOf_217
      · have hf28 := ite_t hc28 hq25
        refine tw_iload (i := 5) (z := 1) C dX9_motionOf_182 rfl ?_
        refine tw_goto (tgt := 217) C dX9_motionOf_184 (by decide) ?_
        obtain ⟨rfl, rfl⟩ := pj2 (Option.some.inj hf28)
        exact tw_iret C hK rfl rfl dX9_motionOf_217
    refine tw_ic_lt (tgt := 175) C dX9_motionOf_156 (by decide) (fun hc26 => ?_) (fun hc26 => ?_)
    · have ht26 := ite_t hc26 hx25
      refine tw_iconst (v := 0) C dX9_motionOf_175 (by decide) ?_
      refine tw_sub [1, 2, 3, 4] rfl ?_
      obtain rfl := ht26
      exact hJ25
    · have hf26 := ite_f hc26 hx25
      refine tw_iload (i := 5) (z := 2) C dX9_motionOf_159 rfl ?_
      refine tw_iload (i := 6) (z := 3) C dX9_motionOf_161 rfl ?_
      refine tw_iadd C dX9_motionOf_163 ?_
      refine tw_aload_n (i := 0) (z := 0) (r := (9, 0)) C dX9_motionOf_164 rfl rfl ?_
      refine tw_getI C fl_RX9_75 rfl (wcells_mem (f := 9) (j := 0) (by decide) (by decide)) rfl dX9_motionOf_165 ?_
      refine tw_ic_lt (tgt := 175) C dX9_motionOf_168 (by decide) (fun hc27 => ?_) (fun hc27 => ?_)
      · have ht27 := ite_t hc27 hf26
        refine tw_iconst (v := 0) C dX9_motionOf_175 (by decide) ?_
        refine tw_sub [1, 2, 3, 4] rfl ?_
        obtain rfl := ht27
        exact hJ25
      · have hf27 := ite_f hc27 hf26
        refine tw_iconst (v := 1) C dX9_motionOf_171 (by decide) ?_
        refine tw_goto (tgt := 176) C dX9_motionOf_172 (by decide) ?_
        refine tw_sub [1, 2, 3, 4] rfl ?_
        obtain rfl := hf27
        exact hJ25
  refine tw_sub [0, 1, 3, 4, 5, 6, 7, 8] rfl ?_
  refine lpF_ct (G := fun (q : Int32 × Int32 × Int32 × Int32 × St) => match q with | (x5, x6, x7, x8, σ3) => TW K 20 [(0, rv K (9, 0)), (1, .int a1), (3, .int a3), (4, .int x1), (5, .int x5), (6, .int x6), (7, .int x7), (8, .int x8)] [] σ3) ?_ hx2
  rintro ⟨x5, x6, x7, x8, σ3⟩ w3 hx3 hk3
  show TW K 20 [(0, rv K (9, 0)), (1, .int a1), (3, .int a3), (4, .int x1), (5, .int x5), (6, .int x6), (7, .int x7), (8, .int x8)] [] σ3
  refine tw_iload (i := 8) (z := 7) C dX9_motionOf_20 rfl ?_
  refine tw_aload_n (i := 0) (z := 0) (r := (9, 0)) C dX9_motionOf_22 rfl rfl ?_
  refine tw_getI C fl_RX9_278 rfl (wcells_mem (f := 9) (j := 0) (by decide) (by decide)) rfl dX9_motionOf_23 ?_
  refine tw_ic_ge (tgt := 139) C dX9_motionOf_26 (by decide) (fun hc4 => ?_) (fun hc4 => ?_)
  · have ht4 := ite_t hc4 hx3
    refine tw_sub [0, 2, 4, 5, 6] rfl ?_
    have e5 := lp_x ht4 hk3
    obtain ⟨rfl, rfl, rfl, rfl⟩ := pj4 (Option.some.inj e5)
    exact hJ2
  · have hf4 := ite_f hc4 hx3
    refine tw_aload_n (i := 0) (z := 0) (r := (9, 0)) C dX9_motionOf_29 rfl rfl ?_
    refine tw_getR (g := 46) (z := 0) (j' := 0) C fl_RX9_62 rfl (wcells_mem (f := 9) (j := 0) (by decide) (by decide)) rfl rfl dX9_motionOf_30 ?_
    refine tw_iload (i := 8) (z := 7) C dX9_motionOf_33 rfl ?_
    obtain ⟨hb6, eh6⟩ := grd_some hf4
    refine tw_zald (r := (46, 0)) C rfl (wcells_mem (f := 46) (j := 0) (by decide) (by decide)) hb6 dX9_motionOf_35 ?_
    obtain ⟨⟨x9, x10, x11, σ4⟩, hx7, hq7⟩ := obi_some eh6
    have hJ7 : TW K 133 [(0, rv K (9, 0)), (1, .int a1), (3, .int a3), (4, .int x1), (5, .int x9), (6, .int x10), (7, .int x11), (8, .int x8)] [] σ4 := by
      obtain ⟨x19, ex24, eh24⟩ := bnd_ex hq7
      refine tw_iinc (z := 7) (v := x19) (lv' := [(0, rv K (9, 0)), (1, .int a1), (3, .int a3), (4, .int x1), (5, .int x9), (6, .int x10), (7, .int x11), (8, .int x19)]) C [1, 2, 3, 4, 5, 6, 7, 0] dX9_motionOf_133 rfl ex24 (by rw [hnL]; decide) rfl ?_
      refine tw_goto (tgt := 20) C dX9_motionOf_136 (by decide) ?_
      have hz := lp_c eh24 hk3
      exact hz
    refine tw_if_eq (tgt := 133) C dX9_motionOf_36 (by decide) (fun hc8 => ?_) (fun hc8 => ?_)
    · have ht8 := ite_t hc8 hx7
      obtain ⟨rfl, rfl, rfl, rfl⟩ := pj4 (Option.some.inj ht8)
      exact hJ7
    · have hf8 := ite_f hc8 hx7
      refine tw_aload_n (i := 0) (z := 0) (r := (9, 0)) C dX9_motionOf_39 rfl rfl ?_
      refine tw_aload_n (i := 0) (z := 0) (r := (9, 0)) C dX9_motionOf_40 rfl rfl ?_
      refine tw_getR (g := 44) (z := 0) (j' := 0) C fl_RX9_56 rfl (wcells_mem (f := 9) (j := 0) (by decide) (by decide)) rfl rfl dX9_motionOf_41 ?_
      refine tw_iload (i := 8) (z := 7) C dX9_motionOf_44 rfl ?_
      obtain ⟨hb9, eh9⟩ := grd_some hf8
      refine tw_iald (r := (44, 0)) C (ia_of rfl (by decide)) hb9 dX9_motionOf_46 ?_
      refine tw_iload_n (i := 1) (z := 1) C dX9_motionOf_47 rfl rfl ?_
      obtain ⟨⟨x12, σ5⟩, hv10, eh10⟩ := obi_some eh9
      refine tw_callV (As := [.int (σ3 (44, 0) (tn x8)), .int a1]) (rest := []) (r := (9, 0)) C hR (kX9_itemOf K.1 _ (by omega) _ (σ3 (44, 0) (tn x8)) a1  hv10) mi_X9_itemOf is_X9_itemOf se_X9_itemOf ml_RX9_147 (wcells_mem (f := 9) (j := 0) (by decide) (by decide)) rfl rfl rfl rfl (Nat.le_of_ble_eq_true rfl) dX9_motionOf_48 ?_
      show TW K 51 [(0, rv K (9, 0)), (1, .int a1), (3, .int a3), (4, .int x1), (5, .int x5), (6, .int x6), (7, .int x7), (8, .int x8)] [.int x12] σ5
      refine tw_istore (lv' := [(0, rv K (9, 0)), (1, .int a1), (3, .int a3), (4, .int x1), (5, .int x5), (6, .int x6), (7, .int x7), (8, .int x8), (9, .int x12)]) C [1, 2, 3, 4, 5, 6, 7, 8, 0] dX9_motionOf_51 (by rw [hnL]; decide) rfl ?_
      refine tw_iload (i := 5) (z := 4) C dX9_motionOf_53 rfl ?_
      refine tw_iload (i := 9) (z := 8) C dX9_motionOf_55 rfl ?_
      refine tw_iload (i := 4) (z := 3) C dX9_motionOf_57 rfl ?_
      obtain ⟨x13, hx11, hq11⟩ := bnd_ex eh10
      have hJ11 : TW K 67 [(0, rv K (9, 0)), (1, .int a1), (3, .int a3), (4, .int x1), (6, .int x6), (7, .int x7), (8, .int x8), (9, .int x12)] [.int x13, .int x5] σ5 := by
        refine tw_iadd C dX9_motionOf_67 ?_
        obtain ⟨x14, ex13, eh13⟩ := bnd_ex hq11
        refine tw_topi ex13.symm ?_
        refine tw_istore (lv' := [(0, rv K (9, 0)), (1, .int a1), (3, .int a3), (4, .int x1), (5, .int x14), (6, .int x6), (7, .int x7), (8, .int x8), (9, .int x12)]) C [1, 2, 3, 4, 0, 5, 6, 7, 8] dX9_motionOf_68 (by rw [hnL]; decide) rfl ?_
        refine tw_iload (i := 6) (z := 5) C dX9_motionOf_70 rfl ?_
        refine tw_iload (i := 9) (z := 8) C dX9_motionOf_72 rfl ?_
        refine tw_iload (i := 4) (z := 3) C dX9_motionOf_74 rfl ?_
        obtain ⟨x15, hx14, hq14⟩ := obi_some eh13
        have hJ14 : TW K 95 [(0, rv K (9, 0)), (1, .int a1), (3, .int a3), (4, .int x1), (5, .int x14), (7, .int x7), (8, .int x8), (9, .int x12)] [.int x15, .int x6] σ5 := by
          refine tw_iadd C dX9_motionOf_95 ?_
          obtain ⟨x16, ex18, eh18⟩ := bnd_ex hq14
          refine tw_topi ex18.symm ?_
          refine tw_istore (lv' := [(0, rv K (9, 0)), (1, .int a1), (3, .int a3), (4, .int x1), (5, .int x14), (6, .int x16), (7, .int x7), (8, .int x8), (9, .int x12)]) C [1, 2, 3, 4, 5, 0, 6, 7, 8] dX9_motionOf_96 (by rw [hnL]; decide) rfl ?_
          refine tw_iload (i := 7) (z := 6) C dX9_motionOf_98 rfl ?_
          refine tw_iload (i := 9) (z := 8) C dX9_motionOf_100 rfl ?_
          refine tw_iload (i := 4) (z := 3) C dX9_motionOf_102 rfl ?_
          obtain ⟨x17, hx19, hq19⟩ := obi_some eh18
          have hJ19 : TW K 130 [(0, rv K (9, 0)), (1, .int a1), (3, .int a3), (4, .int x1), (5, .int x14), (6, .int x16), (8, .int x8)] [.int x17, .int x7] σ5 := by
            refine tw_ior C dX9_motionOf_130 ?_
            obtain ⟨x18, ex23, eh23⟩ := bnd_ex hq19
            refine tw_topi ex23.symm ?_
            refine tw_istore (lv' := [(0, rv K (9, 0)), (1, .int a1), (3, .int a3), (4, .int x1), (5, .int x14), (6, .int x16), (7, .int x18), (8, .int x8)]) C [1, 2, 3, 4, 5, 6, 0, 7] dX9_motionOf_131 (by rw [hnL]; decide) rfl ?_
            obtain ⟨rfl, rfl, rfl, rfl⟩ := pj4 (Option.some.inj eh23)
            exact hJ7
          refine tw_ic_eq (tgt := 129) C dX9_motionOf_104 (by decide) (fun hc20 => ?_) (fun hc20 => ?_)
          · have ht20 := ite_t hc20 hx19
            refine tw_iconst (v := 0) C dX9_motionOf_129 (by decide) ?_
            refine tw_sub [0, 1, 2, 3, 4, 5, 7] rfl ?_
            obtain rfl := (Option.some.inj ht20)
            exact hJ19
          · have hf20 := ite_f hc20 hx19
            refine tw_aload_n (i := 0) (z := 0) (r := (9, 0)) C dX9_motionOf_107 rfl rfl ?_
            refine tw_getR (g := 45) (z := 0) (j' := 0) C fl_RX9_59 rfl (wcells_mem (f := 9) (j := 0) (by decide) (by decide)) rfl rfl dX9_motionOf_108 ?_
            refine tw_iload (i := 8) (z := 7) C dX9_motionOf_111 rfl ?_
            obtain ⟨hb21, eh21⟩ := grd_some hf20
            refine tw_iald (r := (45, 0)) C (ia_of rfl (by decide)) hb21 dX9_motionOf_113 ?_
            refine tw_iload_n (i := 1) (z := 1) C dX9_motionOf_114 rfl rfl ?_
            refine tw_ishr C dX9_motionOf_115 ?_
            refine tw_iconst (v := 1) C dX9_motionOf_116 (by decide) ?_
            refine tw_iand C dX9_motionOf_117 ?_
            refine tw_iconst (v := 1) C dX9_motionOf_118 (by decide) ?_
            refine tw_ic_ne (tgt := 129) C dX9_motionOf_119 (by decide) (fun hc22 => ?_) (fun hc22 => ?_)
            · have ht22 := ite_f hc22 eh21
              refine tw_iconst (v := 0) C dX9_motionOf_129 (by decide) ?_
              refine tw_sub [0, 1, 2, 3, 4, 5, 7] rfl ?_
              obtain rfl := (Option.some.inj ht22)
              exact hJ19
            · have hf22 := ite_t hc22 eh21
              refine tw_iconst (v := 1) C dX9_motionOf_122 (by decide) ?_
              refine tw_iload (i := 8) (z := 7) C dX9_motionOf_123 rfl ?_
              refine tw_ishl C dX9_motionOf_125 ?_
              refine tw_goto (tgt := 130) C dX9_motionOf_126 (by decide) ?_
              refine tw_sub [0, 1, 2, 3, 4, 5, 7] rfl ?_
              obtain rfl := (Option.some.inj hf22)
              exact hJ19
        refine tw_ic_eq (tgt := 94) C dX9_motionOf_76 (by decide) (fun hc15 => ?_) (fun hc15 => ?_)
        · have ht15 := ite_t hc15 hx14
          refine tw_iconst (v := 0) C dX9_motionOf_94 (by decide) ?_
          refine tw_sub [0, 1, 2, 3, 4, 6, 7, 8] rfl ?_
          obtain rfl := (Option.some.inj ht15)
          exact hJ14
        · have hf15 := ite_f hc15 hx14
          refine tw_iload (i := 9) (z := 8) C dX9_motionOf_79 rfl ?_
          refine tw_aload_n (i := 0) (z := 0) (r := (9, 0)) C dX9_motionOf_81 rfl rfl ?_
          refine tw_getR (g := 47) (z := 0) (j' := 0) C fl_RX9_65 rfl (wcells_mem (f := 9) (j := 0) (by decide) (by decide)) rfl rfl dX9_motionOf_82 ?_
          refine tw_iload_n (i := 1) (z := 1) C dX9_motionOf_85 rfl rfl ?_
          obtain ⟨hb16, eh16⟩ := grd_some hf15
          refine tw_iald (r := (47, 0)) C (ia_of rfl (by decide)) hb16 dX9_motionOf_86 ?_
          refine tw_ic_ne (tgt := 94) C dX9_motionOf_87 (by decide) (fun hc17 => ?_) (fun hc17 => ?_)
          · have ht17 := ite_f hc17 eh16
            refine tw_iconst (v := 0) C dX9_motionOf_94 (by decide) ?_
            refine tw_sub [0, 1, 2, 3, 4, 6, 7, 8] rfl ?_
            obtain rfl := (Option.some.inj ht17)
            exact hJ14
          · have hf17 := ite_t hc17 eh16
            refine tw_iconst (v := 1) C dX9_motionOf_90 (by decide) ?_
            refine tw_goto (tgt := 95) C dX9_motionOf_91 (by decide) ?_
            refine tw_sub [0, 1, 2, 3, 4, 6, 7, 8] rfl ?_
            obtain rfl := (Option.some.inj hf17)
            exact hJ14
      refine tw_ic_ne (tgt := 66) C dX9_motionOf_59 (by decide) (fun hc12 => ?_) (fun hc12 => ?_)
      · have ht12 := ite_f hc12 hx11
        refine tw_iconst (v := 0) C dX9_motionOf_66 (by decide) ?_
        refine tw_sub [0, 1, 2, 3, 5, 6, 7, 8] rfl ?_
        obtain rfl := ht12
        exact hJ11
      · have hf12 := ite_t hc12 hx11
        refine tw_iconst (v := 1) C dX9_motionOf_62 (by decide) ?_
        refine tw_goto (tgt := 67) C dX9_motionOf_63 (by decide) ?_
        refine tw_sub [0, 1, 2, 3, 5, 6, 7, 8] rfl ?_
        obtain rfl := hf12
        exact hJ11

set_option maxRecDepth 20000 in
def fX9_motion (σ : St) (a1 : Int32) (a2 : Int32) (a3 : Int32) : Option (Int32 × St) :=
  if (fX9_in a1 (0 : Int32) (16 : Int32)) = true then
    if (fX9_isCode a2) = true then
      if (fX9_in a3 (0 : Int32) (3 : Int32)) = true then
        obi (fX9_motionOf σ a1 a2 a3) (fun (x1, σ1) =>
        some (x1, σ1))
      else
        some ((-2 : Int32), σ)
    else
      some ((-2 : Int32), σ)
  else
    some ((-2 : Int32), σ)
set_option maxRecDepth 20000 in
set_option maxHeartbeats 4000000 in
theorem kX9_motion (G : Gx) (d : Nat) (hdp : 8 ≤ d) (σ : St) (a1 : Int32) (a2 : Int32) (a3 : Int32)  {v0 : Int32} {σ' : St} (h : fX9_motion σ a1 a2 a3 = some (v0, σ')) : MS G d yX9_motion cX9_motion 4 (some .int) [.ref (G.2.1 (9, 0)), .int a1, .int a2, .int a3] σ (some (.int v0)) σ' := by
  refine MS_of (by decide) (Nat.le_of_ble_eq_true rfl) rfl (fun K hG hnL C hR hK => ?_) (by omega)
  subst hG
  show TW K 0 [(0, rv K (9, 0)), (1, .int a1), (2, .int a2), (3, .int a3)] [] σ
  unfold fX9_motion at h
  refine tw_iload_n (i := 1) (z := 1) C dX9_motion_0 rfl rfl ?_
  refine tw_iconst (v := 0) C dX9_motion_1 (by decide) ?_
  refine tw_bipush (v := 16) C dX9_motion_2 (by decide) ?_
  refine tw_callS (As := [.int a1, .int (0 : Int32), .int (16 : Int32)]) (rest := []) C hR (kX9_in K.1 _ (by omega) σ a1 (0 : Int32) (16 : Int32)  rfl) mi_X9_in st_X9_in ml_RX9_106 rfl rfl (Nat.le_of_ble_eq_true rfl) dX9_motion_4 ?_
  show TW K 7 [(0, rv K (9, 0)), (1, .int a1), (2, .int a2), (3, .int a3)] [.int (b2i (fX9_in a1 (0 : Int32) (16 : Int32)))] σ
  refine tw_if_eq (tgt := 36) C dX9_motion_7 (by decide) (fun hc1 => ?_) (fun hc1 => ?_)
  · have ht1 := ite_f (b2i_z hc1) h
    refine tw_bipush (v := (-2)) C dX9_motion_36 (by decide) ?_
    obtain ⟨rfl, rfl⟩ := pj2 (Option.some.inj ht1)
    exact tw_iret C hK rfl rfl dX9_motion_38
  · have hf1 := ite_t (b2i_nz hc1) h
    refine tw_iload_n (i := 2) (z := 2) C dX9_motion_10 rfl rfl ?_
    refine tw_callS (As := [.int a2]) (rest := []) C hR (kX9_isCode K.1 _ (by omega) σ a2  rfl) mi_X9_isCode st_X9_isCode ml_RX9_110 rfl rfl (Nat.le_of_ble_eq_true rfl) dX9_motion_11 ?_
    show TW K 14 [(0, rv K (9, 0)), (1, .int a1), (2, .int a2), (3, .int a3)] [.int (b2i (fX9_isCode a2))] σ
    refine tw_if_eq (tgt := 36) C dX9_motion_14 (by decide) (fun hc2 => ?_) (fun hc2 => ?_)
    · have ht2 := ite_f (b2i_z hc2) hf1
      refine tw_bipush (v := (-2)) C dX9_motion_36 (by decide) ?_
      obtain ⟨rfl, rfl⟩ := pj2 (Option.some.inj ht2)
      exact tw_iret C hK rfl rfl dX9_motion_38
    · have hf2 := ite_t (b2i_nz hc2) hf1
      refine tw_iload_n (i := 3) (z := 3) C dX9_motion_17 rfl rfl ?_
      refine tw_iconst (v := 0) C dX9_motion_18 (by decide) ?_
      refine tw_iconst (v := 3) C dX9_motion_19 (by decide) ?_
      refine tw_callS (As := [.int a3, .int (0 : Int32), .int (3 : Int32)]) (rest := []) C hR (kX9_in K.1 _ (by omega) σ a3 (0 : Int32) (3 : Int32)  rfl) mi_X9_in st_X9_in ml_RX9_106 rfl rfl (Nat.le_of_ble_eq_true rfl) dX9_motion_20 ?_
      show TW K 23 [(0, rv K (9, 0)), (1, .int a1), (2, .int a2), (3, .int a3)] [.int (b2i (fX9_in a3 (0 : Int32) (3 : Int32)))] σ
      refine tw_if_eq (tgt := 36) C dX9_motion_23 (by decide) (fun hc3 => ?_) (fun hc3 => ?_)
      · have ht3 := ite_f (b2i_z hc3) hf2
        refine tw_bipush (v := (-2)) C dX9_motion_36 (by decide) ?_
        obtain ⟨rfl, rfl⟩ := pj2 (Option.some.inj ht3)
        exact tw_iret C hK rfl rfl dX9_motion_38
      · have hf3 := ite_t (b2i_nz hc3) hf2
        refine tw_aload_n (i := 0) (z := 0) (r := (9, 0)) C dX9_motion_26 rfl rfl ?_
        refine tw_iload_n (i := 1) (z := 1) C dX9_motion_27 rfl rfl ?_
        refine tw_iload_n (i := 2) (z := 2) C dX9_motion_28 rfl rfl ?_
        refine tw_iload_n (i := 3) (z := 3) C dX9_motion_29 rfl rfl ?_
        obtain ⟨⟨x1, σ1⟩, hv4, eh4⟩ := obi_some hf3
        refine tw_callV (As := [.int a1, .int a2, .int a3]) (rest := []) (r := (9, 0)) C hR (kX9_motionOf K.1 _ (by omega) _ a1 a2 a3  hv4) mi_X9_motionOf is_X9_motionOf se_X9_motionOf ml_RX9_293 (wcells_mem (f := 9) (j := 0) (by decide) (by decide)) rfl rfl rfl rfl (Nat.le_of_ble_eq_true rfl) dX9_motion_30 ?_
        show TW K 33 [(0, rv K (9, 0)), (1, .int a1), (2, .int a2), (3, .int a3)] [.int x1] σ1
        refine tw_goto (tgt := 38) C dX9_motion_33 (by decide) ?_
        obtain ⟨rfl, rfl⟩ := pj2 (Option.some.inj eh4)
        exact tw_iret C hK rfl rfl dX9_motion_38

set_option maxRecDepth 20000 in
def fX9_put (σ : St) (a1 : Int32) (a2 : Int32) : Option (Int32 × St) :=
  if (fX9_in a1 (0 : Int32) (16 : Int32)) = true then
    if (fX9_isCode a2) = true then
      obi (fX9_motionOf σ a1 a2 (2 : Int32)) (fun (x1, σ1) =>
      if x1 = 0 then
        some ((0 : Int32), σ1)
      else
        obi (fX9_motionOf σ1 a1 a2 (3 : Int32)) (fun (x2, σ2) =>
        obi (fX9_itemOf σ2 a2 a1) (fun (x3, σ3) =>
        grd (inb a1 17) (bnd (su σ3 (47, 0) (tn a1) x3) (fun σ4 =>
        lpF (fun (q9 : Int32 × St) => match q9 with
        | (x4, σ5) =>
        if (σ5 (9, 0) 28) ≤ x4 then
          some (.inr (((1 : Int32), σ5)))
        else
          grd (inb x4 12) (
          bnd (if (σ5 (46, 0) (tn x4)) = 0 then
            (0 : Int32)
          else
            if ((x2 >>> (x4 &&& 31)) &&& (1 : Int32)) = 0 then
              (1 : Int32)
            else
              (0 : Int32)) (fun x5 =>
          grd (inb x4 12) (bnd (su σ5 (46, 0) (tn x4) (nbo x5)) (fun σ6 =>
          bnd (x4 + 1) (fun x6 =>
          some (.inl (x6, σ6)))))))) ((0 : Int32), σ4))))))
    else
      some ((-2 : Int32), σ)
  else
    some ((-2 : Int32), σ)
set_option maxRecDepth 20000 in
set_option maxHeartbeats 4000000 in
theorem kX9_put (G : Gx) (d : Nat) (hdp : 8 ≤ d) (σ : St) (a1 : Int32) (a2 : Int32)  {v0 : Int32} {σ' : St} (h : fX9_put σ a1 a2 = some (v0, σ')) : MS G d yX9_put cX9_put 5 (some .int) [.ref (G.2.1 (9, 0)), .int a1, .int a2] σ (some (.int v0)) σ' := by
  refine MS_of (by decide) (Nat.le_of_ble_eq_true rfl) rfl (fun K hG hnL C hR hK => ?_) (by omega)
  subst hG
  show TW K 0 [(0, rv K (9, 0)), (1, .int a1), (2, .int a2)] [] σ
  unfold fX9_put at h
  refine tw_iload_n (i := 1) (z := 1) C dX9_put_0 rfl rfl ?_
  refine tw_iconst (v := 0) C dX9_put_1 (by decide) ?_
  refine tw_bipush (v := 16) C dX9_put_2 (by decide) ?_
  refine tw_callS (As := [.int a1, .int (0 : Int32), .int (16 : Int32)]) (rest := []) C hR (kX9_in K.1 _ (by omega) σ a1 (0 : Int32) (16 : Int32)  rfl) mi_X9_in st_X9_in ml_RX9_106 rfl rfl (Nat.le_of_ble_eq_true rfl) dX9_put_4 ?_
  show TW K 7 [(0, rv K (9, 0)), (1, .int a1), (2, .int a2)] [.int (b2i (fX9_in a1 (0 : Int32) (16 : Int32)))] σ
  refine tw_if_eq (tgt := 17) C dX9_put_7 (by decide) (fun hc1 => ?_) (fun hc1 => ?_)
  · have ht1 := ite_f (b2i_z hc1) h
    refine tw_bipush (v := (-2)) C dX9_put_17 (by decide) ?_
    obtain ⟨rfl, rfl⟩ := pj2 (Option.some.inj ht1)
    exact tw_iret C hK rfl rfl dX9_put_19
  · have hf1 := ite_t (b2i_nz hc1) h
    refine tw_iload_n (i := 2) (z := 2) C dX9_put_10 rfl rfl ?_
    refine tw_callS (As := [.int a2]) (rest := []) C hR (kX9_isCode K.1 _ (by omega) σ a2  rfl) mi_X9_isCode st_X9_isCode ml_RX9_110 rfl rfl (Nat.le_of_ble_eq_true rfl) dX9_put_11 ?_
    show TW K 14 [(0, rv K (9, 0)), (1, .int a1), (2, .int a2)] [.int (b2i (fX9_isCode a2))] σ
    refine tw_if_ne (tgt := 20) C dX9_put_14 (by decide) (fun hc2 => ?_) (fun hc2 => ?_)
    · have ht2 := ite_t (b2i_nz hc2) hf1
      refine tw_aload_n (i := 0) (z := 0) (r := (9, 0)) C dX9_put_20 rfl rfl ?_
      refine tw_iload_n (i := 1) (z := 1) C dX9_put_21 rfl rfl ?_
      refine tw_iload_n (i := 2) (z := 2) C dX9_put_22 rfl rfl ?_
      refine tw_iconst (v := 2) C dX9_put_23 (by decide) ?_
      obtain ⟨⟨x1, σ1⟩, hv3, eh3⟩ := obi_some ht2
      refine tw_callV (As := [.int a1, .int a2, .int (2 : Int32)]) (rest := []) (r := (9, 0)) C hR (kX9_motionOf K.1 _ (by omega) _ a1 a2 (2 : Int32)  hv3) mi_X9_motionOf is_X9_motionOf se_X9_motionOf ml_RX9_293 (wcells_mem (f := 9) (j := 0) (by decide) (by decide)) rfl rfl rfl rfl (Nat.le_of_ble_eq_true rfl) dX9_put_24 ?_
      show TW K 27 [(0, rv K (9, 0)), (1, .int a1), (2, .int a2)] [.int x1] σ1
      refine tw_if_ne (tgt := 32) C dX9_put_27 (by decide) (fun hc4 => ?_) (fun hc4 => ?_)
      · have ht4 := ite_f hc4 eh3
        refine tw_aload_n (i := 0) (z := 0) (r := (9, 0)) C dX9_put_32 rfl rfl ?_
        refine tw_iload_n (i := 1) (z := 1) C dX9_put_33 rfl rfl ?_
        refine tw_iload_n (i := 2) (z := 2) C dX9_put_34 rfl rfl ?_
        refine tw_iconst (v := 3) C dX9_put_35 (by decide) ?_
        obtain ⟨⟨x2, σ2⟩, hv5, eh5⟩ := obi_some ht4
        refine tw_callV (As := [.int a1, .int a2, .int (3 : Int32)]) (rest := []) (r := (9, 0)) C hR (kX9_motionOf K.1 _ (by omega) _ a1 a2 (3 : Int32)  hv5) mi_X9_motionOf is_X9_motionOf se_X9_motionOf ml_RX9_293 (wcells_mem (f := 9) (j := 0) (by decide) (by decide)) rfl rfl rfl rfl (Nat.le_of_ble_eq_true rfl) dX9_put_36 ?_
        show TW K 39 [(0, rv K (9, 0)), (1, .int a1), (2, .int a2)] [.int x2] σ2
        refine tw_istore_n (lv' := [(0, rv K (9, 0)), (1, .int a1), (2, .int a2), (3, .int x2)]) C [1, 2, 3, 0] dX9_put_39 rfl (by rw [hnL]; decide) rfl ?_
        refine tw_aload_n (i := 0) (z := 0) (r := (9, 0)) C dX9_put_40 rfl rfl ?_
        refine tw_getR (g := 47) (z := 0) (j' := 0) C fl_RX9_65 rfl (wcells_mem (f := 9) (j := 0) (by decide) (by decide)) rfl rfl dX9_put_41 ?_
        refine tw_iload_n (i := 1) (z := 1) C dX9_put_44 rfl rfl ?_
        refine tw_aload_n (i := 0) (z := 0) (r := (9, 0)) C dX9_put_45 rfl rfl ?_
        refine tw_iload_n (i := 2) (z := 2) C dX9_put_46 rfl rfl ?_
        refine tw_iload_n (i := 1) (z := 1) C dX9_put_47 rfl rfl ?_
        obtain ⟨⟨x3, σ3⟩, hv6, eh6⟩ := obi_some eh5
        refine tw_callV (As := [.int a2, .int a1]) (rest := [.int a1, rv K (47, 0)]) (r := (9, 0)) C hR (kX9_itemOf K.1 _ (by omega) _ a2 a1  hv6) mi_X9_itemOf is_X9_itemOf se_X9_itemOf ml_RX9_147 (wcells_mem (f := 9) (j := 0) (by decide) (by decide)) rfl rfl rfl rfl (Nat.le_of_ble_eq_true rfl) dX9_put_48 ?_
        show TW K 51 [(0, rv K (9, 0)), (1, .int a1), (2, .int a2), (3, .int x2)] [.int x3, .int a1, rv K (47, 0)] σ3
        obtain ⟨hb7, eh7⟩ := grd_some eh6
        obtain ⟨σ4, es8, eg8⟩ := bnd_ex eh7
        refine tw_iast (r := (47, 0)) C (wa_of rfl (by decide) (by decide)) hb7 dX9_put_51 ?_
        rw [es8]
        refine tw_iconst (v := 0) C dX9_put_52 (by decide) ?_
        refine tw_istore (lv' := [(0, rv K (9, 0)), (1, .int a1), (2, .int a2), (3, .int x2), (4, .int (0 : Int32))]) C [1, 2, 3, 4, 0] dX9_put_53 (by rw [hnL]; decide) rfl ?_
        refine tw_sub [0, 3, 4] rfl ?_
        refine lpF_ct (G := fun (q : Int32 × St) => match q with | (x4, σ5) => TW K 55 [(0, rv K (9, 0)), (3, .int x2), (4, .int x4)] [] σ5) ?_ eg8
        rintro ⟨x4, σ5⟩ w9 hx9 hk9
        show TW K 55 [(0, rv K (9, 0)), (3, .int x2), (4, .int x4)] [] σ5
        refine tw_iload (i := 4) (z := 2) C dX9_put_55 rfl ?_
        refine tw_aload_n (i := 0) (z := 0) (r := (9, 0)) C dX9_put_57 rfl rfl ?_
        refine tw_getI C fl_RX9_278 rfl (wcells_mem (f := 9) (j := 0) (by decide) (by decide)) rfl dX9_put_58 ?_
        refine tw_ic_ge (tgt := 101) C dX9_put_61 (by decide) (fun hc10 => ?_) (fun hc10 => ?_)
        · have ht10 := ite_t hc10 hx9
          refine tw_iconst (v := 1) C dX9_put_101 (by decide) ?_
          have e11 := lp_x ht10 hk9
          obtain ⟨rfl, rfl⟩ := pj2 (Option.some.inj e11)
          exact tw_iret C hK rfl rfl dX9_put_102
        · have hf10 := ite_f hc10 hx9
          refine tw_aload_n (i := 0) (z := 0) (r := (9, 0)) C dX9_put_64 rfl rfl ?_
          refine tw_getR (g := 46) (z := 0) (j' := 0) C fl_RX9_62 rfl (wcells_mem (f := 9) (j := 0) (by decide) (by decide)) rfl rfl dX9_put_65 ?_
          refine tw_iload (i := 4) (z := 2) C dX9_put_68 rfl ?_
          refine tw_aload_n (i := 0) (z := 0) (r := (9, 0)) C dX9_put_70 rfl rfl ?_
          refine tw_getR (g := 46) (z := 0) (j' := 0) C fl_RX9_62 rfl (wcells_mem (f := 9) (j := 0) (by decide) (by decide)) rfl rfl dX9_put_71 ?_
          refine tw_iload (i := 4) (z := 2) C dX9_put_74 rfl ?_
          obtain ⟨hb12, eh12⟩ := grd_some hf10
          refine tw_zald (r := (46, 0)) C rfl (wcells_mem (f := 46) (j := 0) (by decide) (by decide)) hb12 dX9_put_76 ?_
          obtain ⟨x5, hx13, hq13⟩ := bnd_ex eh12
          have hJ13 : TW K 94 [(0, rv K (9, 0)), (3, .int x2), (4, .int x4)] [.int x5, .int x4, rv K (46, 0)] σ5 := by
            obtain ⟨hb16, eh16⟩ := grd_some hq13
            obtain ⟨σ6, es17, eg17⟩ := bnd_ex eh16
            refine tw_zast (r := (46, 0)) C rfl (wcells_mem (f := 46) (j := 0) (by decide) (by decide)) hb16 dX9_put_94 ?_
            rw [es17]
            obtain ⟨x6, ex18, eh18⟩ := bnd_ex eg17
            refine tw_iinc (z := 2) (v := x6) (lv' := [(0, rv K (9, 0)), (3, .int x2), (4, .int x6)]) C [1, 2, 0] dX9_put_95 rfl ex18 (by rw [hnL]; decide) rfl ?_
            refine tw_goto (tgt := 55) C dX9_put_98 (by decide) ?_
            have hz := lp_c eh18 hk9
            exact hz
          refine tw_if_eq (tgt := 93) C dX9_put_77 (by decide) (fun hc14 => ?_) (fun hc14 => ?_)
          · have ht14 := ite_t hc14 hx13
            refine tw_iconst (v := 0) C dX9_put_93 (by decide) ?_
            obtain rfl := ht14
            exact hJ13
          · have hf14 := ite_f hc14 hx13
            refine tw_iload_n (i := 3) (z := 1) C dX9_put_80 rfl rfl ?_
            refine tw_iload (i := 4) (z := 2) C dX9_put_81 rfl ?_
            refine tw_ishr C dX9_put_83 ?_
            refine tw_iconst (v := 1) C dX9_put_84 (by decide) ?_
            refine tw_iand C dX9_put_85 ?_
            refine tw_if_ne (tgt := 93) C dX9_put_86 (by decide) (fun hc15 => ?_) (fun hc15 => ?_)
            · have ht15 := ite_f hc15 hf14
              refine tw_iconst (v := 0) C dX9_put_93 (by decide) ?_
              obtain rfl := ht15
              exact hJ13
            · have hf15 := ite_t hc15 hf14
              refine tw_iconst (v := 1) C dX9_put_89 (by decide) ?_
              refine tw_goto (tgt := 94) C dX9_put_90 (by decide) ?_
              obtain rfl := hf15
              exact hJ13
      · have hf4 := ite_t hc4 eh3
        refine tw_iconst (v := 0) C dX9_put_30 (by decide) ?_
        obtain ⟨rfl, rfl⟩ := pj2 (Option.some.inj hf4)
        exact tw_iret C hK rfl rfl dX9_put_31
    · have hf2 := ite_f (b2i_z hc2) hf1
      refine tw_bipush (v := (-2)) C dX9_put_17 (by decide) ?_
      obtain ⟨rfl, rfl⟩ := pj2 (Option.some.inj hf2)
      exact tw_iret C hK rfl rfl dX9_put_19

set_option maxRecDepth 20000 in
def fX9_stayNow (σ : St)  : Option (Int32 × St) :=
  lpF (fun (q1 : Int32 × Int32 × St) => match q1 with
  | (x1, x2, σ1) =>
  if (σ1 (9, 0) 28) ≤ x2 then
    some (.inr ((x1, σ1)))
  else
    grd (inb x2 12) (
    bnd (σ1 (46, 0) (tn x2)) (fun x3 =>
    obi (lpF (fun (q7 : Int32 × Int32 × St) => match q7 with
    | (x5, x6, σ3) =>
    if (17 : Int32) ≤ x6 then
      some (.inr ((x5, σ3)))
    else
      obi (if x5 = 0 then
        some ((0 : Int32), σ3)
      else
        grd (inb x2 12) (
        if (((σ3 (45, 0) (tn x2)) >>> (x6 &&& 31)) &&& (1 : Int32)) = 0 then
          some ((1 : Int32), σ3)
        else
          grd (inb x2 12) (
          obi (fX9_itemOf σ3 (σ3 (44, 0) (tn x2)) x6) (fun (x8, σ5) =>
          grd (inb x6 17) (
          if x8 = (σ5 (35, 0) (tn x6)) then
            some ((1 : Int32), σ5)
          else
            some ((0 : Int32), σ5)))))) (fun (x7, σ4) =>
      bnd (x6 + 1) (fun x9 =>
      some (.inl (x7, x9, σ4))))) (x3, (0 : Int32), σ1)) (fun (x4, σ2) =>
    bnd (if x4 = 0 then
      (0 : Int32)
    else
      (1 : Int32)) (fun x10 =>
    bnd (x1 + x10) (fun x11 =>
    bnd (x2 + 1) (fun x12 =>
    some (.inl (x11, x12, σ2))))))))) ((0 : Int32), (0 : Int32), σ)
set_option maxRecDepth 20000 in
set_option maxHeartbeats 4000000 in
theorem kX9_stayNow (G : Gx) (d : Nat) (hdp : 7 ≤ d) (σ : St)   {v0 : Int32} {σ' : St} (h : fX9_stayNow σ  = some (v0, σ')) : MS G d yX9_stayNow cX9_stayNow 5 (some .int) [.ref (G.2.1 (9, 0))] σ (some (.int v0)) σ' := by
  refine MS_of (by decide) (Nat.le_of_ble_eq_true rfl) rfl (fun K hG hnL C hR hK => ?_) (by omega)
  subst hG
  show TW K 0 [(0, rv K (9, 0))] [] σ
  unfold fX9_stayNow at h
  refine tw_iconst (v := 0) C dX9_stayNow_0 (by decide) ?_
  refine tw_istore_n (lv' := [(0, rv K (9, 0)), (1, .int (0 : Int32))]) C [1, 0] dX9_stayNow_1 rfl (by rw [hnL]; decide) rfl ?_
  refine tw_iconst (v := 0) C dX9_stayNow_2 (by decide) ?_
  refine tw_istore_n (lv' := [(0, rv K (9, 0)), (1, .int (0 : Int32)), (2, .int (0 : Int32))]) C [1, 2, 0] dX9_stayNow_3 rfl (by rw [hnL]; decide) rfl ?_
  refine lpF_ct (G := fun (q : Int32 × Int32 × St) => match q with | (x1, x2, σ1) => TW K 4 [(0, rv K (9, 0)), (1, .int x1), (2, .int x2)] [] σ1) ?_ h
  rintro ⟨x1, x2, σ1⟩ w1 hx1 hk1
  show TW K 4 [(0, rv K (9, 0)), (1, .int x1), (2, .int x2)] [] σ1
  refine tw_iload_n (i := 2) (z := 2) C dX9_stayNow_4 rfl rfl ?_
  refine tw_aload_n (i := 0) (z := 0) (r := (9, 0)) C dX9_stayNow_5 rfl rfl ?_
  refine tw_getI C fl_RX9_278 rfl (wcells_mem (f := 9) (j := 0) (by decide) (by decide)) rfl dX9_stayNow_6 ?_
  refine tw_ic_ge (tgt := 99) C dX9_stayNow_9 (by decide) (fun hc2 => ?_) (fun hc2 => ?_)
  · have ht2 := ite_t hc2 hx1
    refine tw_iload_n (i := 1) (z := 1) C dX9_stayNow_99 rfl rfl ?_
    have e3 := lp_x ht2 hk1
    obtain ⟨rfl, rfl⟩ := pj2 (Option.some.inj e3)
    exact tw_iret C hK rfl rfl dX9_stayNow_100
  · have hf2 := ite_f hc2 hx1
    refine tw_aload_n (i := 0) (z := 0) (r := (9, 0)) C dX9_stayNow_12 rfl rfl ?_
    refine tw_getR (g := 46) (z := 0) (j' := 0) C fl_RX9_62 rfl (wcells_mem (f := 9) (j := 0) (by decide) (by decide)) rfl rfl dX9_stayNow_13 ?_
    refine tw_iload_n (i := 2) (z := 2) C dX9_stayNow_16 rfl rfl ?_
    obtain ⟨hb4, eh4⟩ := grd_some hf2
    refine tw_zald (r := (46, 0)) C rfl (wcells_mem (f := 46) (j := 0) (by decide) (by decide)) hb4 dX9_stayNow_17 ?_
    obtain ⟨x3, ex5, eh5⟩ := bnd_ex eh4
    refine tw_topi ex5.symm ?_
    refine tw_istore_n (lv' := [(0, rv K (9, 0)), (1, .int x1), (2, .int x2), (3, .int x3)]) C [1, 2, 3, 0] dX9_stayNow_18 rfl (by rw [hnL]; decide) rfl ?_
    refine tw_iconst (v := 0) C dX9_stayNow_19 (by decide) ?_
    refine tw_istore (lv' := [(0, rv K (9, 0)), (1, .int x1), (2, .int x2), (3, .int x3), (4, .int (0 : Int32))]) C [1, 2, 3, 4, 0] dX9_stayNow_20 (by rw [hnL]; decide) rfl ?_
    obtain ⟨⟨x4, σ2⟩, hx6, hq6⟩ := obi_some eh5
    have hJ6 : TW K 81 [(0, rv K (9, 0)), (1, .int x1), (2, .int x2), (3, .int x4)] [] σ2 := by
      refine tw_iload_n (i := 1) (z := 1) C dX9_stayNow_81 rfl rfl ?_
      refine tw_iload_n (i := 3) (z := 3) C dX9_stayNow_82 rfl rfl ?_
      obtain ⟨x10, hx19, hq19⟩ := bnd_ex hq6
      have hJ19 : TW K 91 [(0, rv K (9, 0)), (2, .int x2)] [.int x10, .int x1] σ2 := by
        refine tw_iadd C dX9_stayNow_91 ?_
        obtain ⟨x11, ex21, eh21⟩ := bnd_ex hq19
        refine tw_topi ex21.symm ?_
        refine tw_istore_n (lv' := [(0, rv K (9, 0)), (1, .int x11), (2, .int x2)]) C [1, 0, 2] dX9_stayNow_92 rfl (by rw [hnL]; decide) rfl ?_
        obtain ⟨x12, ex22, eh22⟩ := bnd_ex eh21
        refine tw_iinc (z := 2) (v := x12) (lv' := [(0, rv K (9, 0)), (1, .int x11), (2, .int x12)]) C [1, 2, 0] dX9_stayNow_93 rfl ex22 (by rw [hnL]; decide) rfl ?_
        refine tw_goto (tgt := 4) C dX9_stayNow_96 (by decide) ?_
        have hz := lp_c eh22 hk1
        exact hz
      refine tw_if_eq (tgt := 90) C dX9_stayNow_83 (by decide) (fun hc20 => ?_) (fun hc20 => ?_)
      · have ht20 := ite_t hc20 hx19
        refine tw_iconst (v := 0) C dX9_stayNow_90 (by decide) ?_
        refine tw_sub [0, 2] rfl ?_
        obtain rfl := ht20
        exact hJ19
      · have hf20 := ite_f hc20 hx19
        refine tw_iconst (v := 1) C dX9_stayNow_86 (by decide) ?_
        refine tw_goto (tgt := 91) C dX9_stayNow_87 (by decide) ?_
        refine tw_sub [0, 2] rfl ?_
        obtain rfl := hf20
        exact hJ19
    refine lpF_ct (G := fun (q : Int32 × Int32 × St) => match q with | (x5, x6, σ3) => TW K 22 [(0, rv K (9, 0)), (1, .int x1), (2, .int x2), (3, .int x5), (4, .int x6)] [] σ3) ?_ hx6
    rintro ⟨x5, x6, σ3⟩ w7 hx7 hk7
    show TW K 22 [(0, rv K (9, 0)), (1, .int x1), (2, .int x2), (3, .int x5), (4, .int x6)] [] σ3
    refine tw_iload (i := 4) (z := 4) C dX9_stayNow_22 rfl ?_
    refine tw_bipush (v := 17) C dX9_stayNow_24 (by decide) ?_
    refine tw_ic_ge (tgt := 81) C dX9_stayNow_26 (by decide) (fun hc8 => ?_) (fun hc8 => ?_)
    · have ht8 := ite_t hc8 hx7
      refine tw_sub [0, 1, 2, 3] rfl ?_
      have e9 := lp_x ht8 hk7
      obtain ⟨rfl, rfl⟩ := pj2 (Option.some.inj e9)
      exact hJ6
    · have hf8 := ite_f hc8 hx7
      refine tw_iload_n (i := 3) (z := 3) C dX9_stayNow_29 rfl rfl ?_
      obtain ⟨⟨x7, σ4⟩, hx10, hq10⟩ := obi_some hf8
      have hJ10 : TW K 74 [(0, rv K (9, 0)), (1, .int x1), (2, .int x2), (4, .int x6)] [.int x7] σ4 := by
        refine tw_istore_n (lv' := [(0, rv K (9, 0)), (1, .int x1), (2, .int x2), (3, .int x7), (4, .int x6)]) C [1, 2, 3, 0, 4] dX9_stayNow_74 rfl (by rw [hnL]; decide) rfl ?_
        obtain ⟨x9, ex18, eh18⟩ := bnd_ex hq10
        refine tw_iinc (z := 4) (v := x9) (lv' := [(0, rv K (9, 0)), (1, .int x1), (2, .int x2), (3, .int x7), (4, .int x9)]) C [1, 2, 3, 4, 0] dX9_stayNow_75 rfl ex18 (by rw [hnL]; decide) rfl ?_
        refine tw_goto (tgt := 22) C dX9_stayNow_78 (by decide) ?_
        have hz := lp_c eh18 hk7
        exact hz
      refine tw_if_eq (tgt := 73) C dX9_stayNow_30 (by decide) (fun hc11 => ?_) (fun hc11 => ?_)
      · have ht11 := ite_t hc11 hx10
        refine tw_iconst (v := 0) C dX9_stayNow_73 (by decide) ?_
        refine tw_sub [0, 1, 2, 4] rfl ?_
        obtain ⟨rfl, rfl⟩ := pj2 (Option.some.inj ht11)
        exact hJ10
      · have hf11 := ite_f hc11 hx10
        refine tw_aload_n (i := 0) (z := 0) (r := (9, 0)) C dX9_stayNow_33 rfl rfl ?_
        refine tw_getR (g := 45) (z := 0) (j' := 0) C fl_RX9_59 rfl (wcells_mem (f := 9) (j := 0) (by decide) (by decide)) rfl rfl dX9_stayNow_34 ?_
        refine tw_iload_n (i := 2) (z := 2) C dX9_stayNow_37 rfl rfl ?_
        obtain ⟨hb12, eh12⟩ := grd_some hf11
        refine tw_iald (r := (45, 0)) C (ia_of rfl (by decide)) hb12 dX9_stayNow_38 ?_
        refine tw_iload (i := 4) (z := 4) C dX9_stayNow_39 rfl ?_
        refine tw_ishr C dX9_stayNow_41 ?_
        refine tw_iconst (v := 1) C dX9_stayNow_42 (by decide) ?_
        refine tw_iand C dX9_stayNow_43 ?_
        refine tw_if_eq (tgt := 69) C dX9_stayNow_44 (by decide) (fun hc13 => ?_) (fun hc13 => ?_)
        · have ht13 := ite_t hc13 eh12
          refine tw_iconst (v := 1) C dX9_stayNow_69 (by decide) ?_
          refine tw_goto (tgt := 74) C dX9_stayNow_70 (by decide) ?_
          refine tw_sub [0, 1, 2, 4] rfl ?_
          obtain ⟨rfl, rfl⟩ := pj2 (Option.some.inj ht13)
          exact hJ10
        · have hf13 := ite_f hc13 eh12
          refine tw_aload_n (i := 0) (z := 0) (r := (9, 0)) C dX9_stayNow_47 rfl rfl ?_
          refine tw_aload_n (i := 0) (z := 0) (r := (9, 0)) C dX9_stayNow_48 rfl rfl ?_
          refine tw_getR (g := 44) (z := 0) (j' := 0) C fl_RX9_56 rfl (wcells_mem (f := 9) (j := 0) (by decide) (by decide)) rfl rfl dX9_stayNow_49 ?_
          refine tw_iload_n (i := 2) (z := 2) C dX9_stayNow_52 rfl rfl ?_
          obtain ⟨hb14, eh14⟩ := grd_some hf13
          refine tw_iald (r := (44, 0)) C (ia_of rfl (by decide)) hb14 dX9_stayNow_53 ?_
          refine tw_iload (i := 4) (z := 4) C dX9_stayNow_54 rfl ?_
          obtain ⟨⟨x8, σ5⟩, hv15, eh15⟩ := obi_some eh14
          refine tw_callV (As := [.int (σ3 (44, 0) (tn x2)), .int x6]) (rest := []) (r := (9, 0)) C hR (kX9_itemOf K.1 _ (by omega) _ (σ3 (44, 0) (tn x2)) x6  hv15) mi_X9_itemOf is_X9_itemOf se_X9_itemOf ml_RX9_147 (wcells_mem (f := 9) (j := 0) (by decide) (by decide)) rfl rfl rfl rfl (Nat.le_of_ble_eq_true rfl) dX9_stayNow_56 ?_
          show TW K 59 [(0, rv K (9, 0)), (1, .int x1), (2, .int x2), (3, .int x5), (4, .int x6)] [.int x8] σ5
          refine tw_aload_n (i := 0) (z := 0) (r := (9, 0)) C dX9_stayNow_59 rfl rfl ?_
          refine tw_getR (g := 35) (z := 0) (j' := 0) C fl_RX9_29 rfl (wcells_mem (f := 9) (j := 0) (by decide) (by decide)) rfl rfl dX9_stayNow_60 ?_
          refine tw_iload (i := 4) (z := 4) C dX9_stayNow_63 rfl ?_
          obtain ⟨hb16, eh16⟩ := grd_some eh15
          refine tw_iald (r := (35, 0)) C (ia_of rfl (by decide)) hb16 dX9_stayNow_65 ?_
          refine tw_ic_ne (tgt := 73) C dX9_stayNow_66 (by decide) (fun hc17 => ?_) (fun hc17 => ?_)
          · have ht17 := ite_f hc17 eh16
            refine tw_iconst (v := 0) C dX9_stayNow_73 (by decide) ?_
            refine tw_sub [0, 1, 2, 4] rfl ?_
            obtain ⟨rfl, rfl⟩ := pj2 (Option.some.inj ht17)
            exact hJ10
          · have hf17 := ite_t hc17 eh16
            refine tw_iconst (v := 1) C dX9_stayNow_69 (by decide) ?_
            refine tw_goto (tgt := 74) C dX9_stayNow_70 (by decide) ?_
            refine tw_sub [0, 1, 2, 4] rfl ?_
            obtain ⟨rfl, rfl⟩ := pj2 (Option.some.inj hf17)
            exact hJ10

set_option maxRecDepth 20000 in
def fX9_hurtNow (σ : St)  : Option (Int32 × St) :=
  lpF (fun (q1 : Int32 × Int32 × St) => match q1 with
  | (x1, x2, σ1) =>
  if (σ1 (9, 0) 15) ≤ x2 then
    some (.inr ((x1, σ1)))
  else
    obi (fX9_plays σ1 x2) (fun σ2 =>
    bnd (x1 + (σ2 (9, 0) 22)) (fun x3 =>
    bnd (x2 + 1) (fun x4 =>
    some (.inl (x3, x4, σ2)))))) ((0 : Int32), (0 : Int32), σ)
set_option maxRecDepth 20000 in
set_option maxHeartbeats 4000000 in
theorem kX9_hurtNow (G : Gx) (d : Nat) (hdp : 8 ≤ d) (σ : St)   {v0 : Int32} {σ' : St} (h : fX9_hurtNow σ  = some (v0, σ')) : MS G d yX9_hurtNow cX9_hurtNow 3 (some .int) [.ref (G.2.1 (9, 0))] σ (some (.int v0)) σ' := by
  refine MS_of (by decide) (Nat.le_of_ble_eq_true rfl) rfl (fun K hG hnL C hR hK => ?_) (by omega)
  subst hG
  show TW K 0 [(0, rv K (9, 0))] [] σ
  unfold fX9_hurtNow at h
  refine tw_iconst (v := 0) C dX9_hurtNow_0 (by decide) ?_
  refine tw_istore_n (lv' := [(0, rv K (9, 0)), (1, .int (0 : Int32))]) C [1, 0] dX9_hurtNow_1 rfl (by rw [hnL]; decide) rfl ?_
  refine tw_iconst (v := 0) C dX9_hurtNow_2 (by decide) ?_
  refine tw_istore_n (lv' := [(0, rv K (9, 0)), (1, .int (0 : Int32)), (2, .int (0 : Int32))]) C [1, 2, 0] dX9_hurtNow_3 rfl (by rw [hnL]; decide) rfl ?_
  refine lpF_ct (G := fun (q : Int32 × Int32 × St) => match q with | (x1, x2, σ1) => TW K 4 [(0, rv K (9, 0)), (1, .int x1), (2, .int x2)] [] σ1) ?_ h
  rintro ⟨x1, x2, σ1⟩ w1 hx1 hk1
  show TW K 4 [(0, rv K (9, 0)), (1, .int x1), (2, .int x2)] [] σ1
  refine tw_iload_n (i := 2) (z := 2) C dX9_hurtNow_4 rfl rfl ?_
  refine tw_aload_n (i := 0) (z := 0) (r := (9, 0)) C dX9_hurtNow_5 rfl rfl ?_
  refine tw_getI C fl_RX9_193 rfl (wcells_mem (f := 9) (j := 0) (by decide) (by decide)) rfl dX9_hurtNow_6 ?_
  refine tw_ic_ge (tgt := 30) C dX9_hurtNow_9 (by decide) (fun hc2 => ?_) (fun hc2 => ?_)
  · have ht2 := ite_t hc2 hx1
    refine tw_iload_n (i := 1) (z := 1) C dX9_hurtNow_30 rfl rfl ?_
    have e3 := lp_x ht2 hk1
    obtain ⟨rfl, rfl⟩ := pj2 (Option.some.inj e3)
    exact tw_iret C hK rfl rfl dX9_hurtNow_31
  · have hf2 := ite_f hc2 hx1
    refine tw_aload_n (i := 0) (z := 0) (r := (9, 0)) C dX9_hurtNow_12 rfl rfl ?_
    refine tw_iload_n (i := 2) (z := 2) C dX9_hurtNow_13 rfl rfl ?_
    obtain ⟨σ2, hv4, eh4⟩ := obi_some hf2
    refine tw_callV (As := [.int x2]) (rest := []) (r := (9, 0)) C hR (kX9_plays K.1 _ (by omega) _ x2  hv4) mi_X9_plays is_X9_plays se_X9_plays ml_RX9_236 (wcells_mem (f := 9) (j := 0) (by decide) (by decide)) rfl rfl rfl rfl (Nat.le_of_ble_eq_true rfl) dX9_hurtNow_14 ?_
    show TW K 17 [(0, rv K (9, 0)), (1, .int x1), (2, .int x2)] [] σ2
    refine tw_iload_n (i := 1) (z := 1) C dX9_hurtNow_17 rfl rfl ?_
    refine tw_aload_n (i := 0) (z := 0) (r := (9, 0)) C dX9_hurtNow_18 rfl rfl ?_
    refine tw_getI C fl_RX9_214 rfl (wcells_mem (f := 9) (j := 0) (by decide) (by decide)) rfl dX9_hurtNow_19 ?_
    refine tw_iadd C dX9_hurtNow_22 ?_
    obtain ⟨x3, ex5, eh5⟩ := bnd_ex eh4
    refine tw_topi ex5.symm ?_
    refine tw_istore_n (lv' := [(0, rv K (9, 0)), (1, .int x3), (2, .int x2)]) C [1, 0, 2] dX9_hurtNow_23 rfl (by rw [hnL]; decide) rfl ?_
    obtain ⟨x4, ex6, eh6⟩ := bnd_ex eh5
    refine tw_iinc (z := 2) (v := x4) (lv' := [(0, rv K (9, 0)), (1, .int x3), (2, .int x4)]) C [1, 2, 0] dX9_hurtNow_24 rfl ex6 (by rw [hnL]; decide) rfl ?_
    refine tw_goto (tgt := 4) C dX9_hurtNow_27 (by decide) ?_
    have hz := lp_c eh6 hk1
    exact hz

set_option maxRecDepth 20000 in
def fX9_best (σ : St) (a1 : Int32) (a2 : Int32) (a3 : Int32) : Option (Int32 × St) :=
  if (fX9_in a1 (0 : Int32) (131071 : Int32)) = true then
    obi (fX9_ones a1) (fun x1 =>
    if (9 : Int32) < x1 then
      some ((-2 : Int32), σ)
    else
      if (fX9_isCode a2) = true then
        if (fX9_in a3 (0 : Int32) (2 : Int32)) = true then
          obi (lpF (fun (q7 : Int32 × Int32 × Int32 × Int32 × Int32 × St) => match q7 with
          | (x5, x6, x7, x8, x9, σ2) =>
          if x9 = 0 then
            some (.inr ((x5, x6, x7, σ2)))
          else
            obi (lpF (fun (q11 : Int32 × St) => match q11 with
            | (x10, σ4) =>
            if (17 : Int32) ≤ x10 then
              some (.inr σ4)
            else
              obi (if ((x8 >>> (x10 &&& 31)) &&& (1 : Int32)) = (1 : Int32) then
                obi (fX9_itemOf σ4 a2 x10) (fun (x12, σ6) =>
                some (x12, σ6))
              else
                grd (inb x10 17) (
                some (σ4 (47, 0) (tn x10), σ4))) (fun (x11, σ5) =>
              grd (inb x10 17) (bnd (su σ5 (35, 0) (tn x10) x11) (fun σ7 =>
              bnd (x10 + 1) (fun x13 =>
              some (.inl (x13, σ7))))))) ((0 : Int32), σ2)) (fun σ3 =>
            obi (fX9_stayNow σ3) (fun (x14, σ8) =>
            obi (fX9_hurtNow σ8) (fun (x15, σ9) =>
            bnd (if x5 = (-1 : Int32) then
              (1 : Int32)
            else
              x14 - x6) (fun x16 =>
            bnd (if x16 = 0 then
              x7 - x15
            else
              x16) (fun x17 =>
            obi (if x17 = 0 then
              obi (fX9_ones x5) (fun x19 =>
              obi (fX9_ones x8) (fun x20 =>
              some (x19 - x20)))
            else
              some x17) (fun x18 =>
            bnd (if x18 ≤ 0 then
              (x5, x6, x7)
            else
              (x8, x14, x15)) (fun (x21, x22, x23) =>
            bnd ((x8 - a1) &&& a1) (fun x24 =>
            bnd (if x24 = 0 then
              (0 : Int32)
            else
              (1 : Int32)) (fun x25 =>
            some (.inl (x21, x22, x23, x24, x25, σ9)))))))))))) ((-1 : Int32), (0 : Int32), (0 : Int32), (0 : Int32), (1 : Int32), σ)) (fun (x2, x3, x4, σ1) =>
          if a3 = 0 then
            some (x2, σ1)
          else
            if a3 = (1 : Int32) then
              some (x3, σ1)
            else
              some (x4, σ1))
        else
          some ((-2 : Int32), σ)
      else
        some ((-2 : Int32), σ))
  else
    some ((-2 : Int32), σ)
set_option maxRecDepth 20000 in
set_option maxHeartbeats 4000000 in
theorem kX9_best (G : Gx) (d : Nat) (hdp : 9 ≤ d) (σ : St) (a1 : Int32) (a2 : Int32) (a3 : Int32)  {v0 : Int32} {σ' : St} (h : fX9_best σ a1 a2 a3 = some (v0, σ')) : MS G d yX9_best cX9_best 12 (some .int) [.ref (G.2.1 (9, 0)), .int a1, .int a2, .int a3] σ (some (.int v0)) σ' := by
  refine MS_of (by decide) (Nat.le_of_ble_eq_true rfl) rfl (fun K hG hnL C hR hK => ?_) (by omega)
  subst hG
  show TW K 0 [(0, rv K (9, 0)), (1, .int a1), (2, .int a2), (3, .int a3)] [] σ
  unfold fX9_best at h
  refine tw_iload_n (i := 1) (z := 1) C dX9_best_0 rfl rfl ?_
  refine tw_iconst (v := 0) C dX9_best_1 (by decide) ?_
  refine tw_ldc C cn_RX9_232 dX9_best_2 ?_
  refine tw_callS (As := [.int a1, .int (0 : Int32), .int (131071 : Int32)]) (rest := []) C hR (kX9_in K.1 _ (by omega) σ a1 (0 : Int32) (131071 : Int32)  rfl) mi_X9_in st_X9_in ml_RX9_106 rfl rfl (Nat.le_of_ble_eq_true rfl) dX9_best_4 ?_
  show TW K 7 [(0, rv K (9, 0)), (1, .int a1), (2, .int a2), (3, .int a3)] [.int (b2i (fX9_in a1 (0 : Int32) (131071 : Int32)))] σ
  refine tw_if_eq (tgt := 35) C dX9_best_7 (by decide) (fun hc1 => ?_) (fun hc1 => ?_)
  · have ht1 := ite_f (b2i_z hc1) h
    refine tw_bipush (v := (-2)) C dX9_best_35 (by decide) ?_
    obtain ⟨rfl, rfl⟩ := pj2 (Option.some.inj ht1)
    exact tw_iret C hK rfl rfl dX9_best_37
  · have hf1 := ite_t (b2i_nz hc1) h
    refine tw_iload_n (i := 1) (z := 1) C dX9_best_10 rfl rfl ?_
    obtain ⟨x1, hv2, eh2⟩ := obi_some hf1
    refine tw_callS (As := [.int a1]) (rest := []) C hR (kX9_ones K.1 _ (by omega) σ a1  hv2) mi_X9_ones st_X9_ones ml_RX9_296 rfl rfl (Nat.le_of_ble_eq_true rfl) dX9_best_11 ?_
    show TW K 14 [(0, rv K (9, 0)), (1, .int a1), (2, .int a2), (3, .int a3)] [.int x1] σ
    refine tw_bipush (v := 9) C dX9_best_14 (by decide) ?_
    refine tw_ic_gt (tgt := 35) C dX9_best_16 (by decide) (fun hc3 => ?_) (fun hc3 => ?_)
    · have ht3 := ite_t hc3 eh2
      refine tw_bipush (v := (-2)) C dX9_best_35 (by decide) ?_
      obtain ⟨rfl, rfl⟩ := pj2 (Option.some.inj ht3)
      exact tw_iret C hK rfl rfl dX9_best_37
    · have hf3 := ite_f hc3 eh2
      refine tw_iload_n (i := 2) (z := 2) C dX9_best_19 rfl rfl ?_
      refine tw_callS (As := [.int a2]) (rest := []) C hR (kX9_isCode K.1 _ (by omega) σ a2  rfl) mi_X9_isCode st_X9_isCode ml_RX9_110 rfl rfl (Nat.le_of_ble_eq_true rfl) dX9_best_20 ?_
      show TW K 23 [(0, rv K (9, 0)), (1, .int a1), (2, .int a2), (3, .int a3)] [.int (b2i (fX9_isCode a2))] σ
      refine tw_if_eq (tgt := 35) C dX9_best_23 (by decide) (fun hc4 => ?_) (fun hc4 => ?_)
      · have ht4 := ite_f (b2i_z hc4) hf3
        refine tw_bipush (v := (-2)) C dX9_best_35 (by decide) ?_
        obtain ⟨rfl, rfl⟩ := pj2 (Option.some.inj ht4)
        exact tw_iret C hK rfl rfl dX9_best_37
      · have hf4 := ite_t (b2i_nz hc4) hf3
        refine tw_iload_n (i := 3) (z := 3) C dX9_best_26 rfl rfl ?_
        refine tw_iconst (v := 0) C dX9_best_27 (by decide) ?_
        refine tw_iconst (v := 2) C dX9_best_28 (by decide) ?_
        refine tw_callS (As := [.int a3, .int (0 : Int32), .int (2 : Int32)]) (rest := []) C hR (kX9_in K.1 _ (by omega) σ a3 (0 : Int32) (2 : Int32)  rfl) mi_X9_in st_X9_in ml_RX9_106 rfl rfl (Nat.le_of_ble_eq_true rfl) dX9_best_29 ?_
        show TW K 32 [(0, rv K (9, 0)), (1, .int a1), (2, .int a2), (3, .int a3)] [.int (b2i (fX9_in a3 (0 : Int32) (2 : Int32)))] σ
        refine tw_if_ne (tgt := 38) C dX9_best_32 (by decide) (fun hc5 => ?_) (fun hc5 => ?_)
        · have ht5 := ite_t (b2i_nz hc5) hf4
          refine tw_iconst (v := (-1)) C dX9_best_38 (by decide) ?_
          refine tw_istore (lv' := [(0, rv K (9, 0)), (1, .int a1), (2, .int a2), (3, .int a3), (4, .int (-1 : Int32))]) C [1, 2, 3, 4, 0] dX9_best_39 (by rw [hnL]; decide) rfl ?_
          refine tw_iconst (v := 0) C dX9_best_41 (by decide) ?_
          refine tw_istore (lv' := [(0, rv K (9, 0)), (1, .int a1), (2, .int a2), (3, .int a3), (4, .int (-1 : Int32)), (5, .int (0 : Int32))]) C [1, 2, 3, 4, 5, 0] dX9_best_42 (by rw [hnL]; decide) rfl ?_
          refine tw_iconst (v := 0) C dX9_best_44 (by decide) ?_
          refine tw_istore (lv' := [(0, rv K (9, 0)), (1, .int a1), (2, .int a2), (3, .int a3), (4, .int (-1 : Int32)), (5, .int (0 : Int32)), (6, .int (0 : Int32))]) C [1, 2, 3, 4, 5, 6, 0] dX9_best_45 (by rw [hnL]; decide) rfl ?_
          refine tw_iconst (v := 0) C dX9_best_47 (by decide) ?_
          refine tw_istore (lv' := [(0, rv K (9, 0)), (1, .int a1), (2, .int a2), (3, .int a3), (4, .int (-1 : Int32)), (5, .int (0 : Int32)), (6, .int (0 : Int32)), (7, .int (0 : Int32))]) C [1, 2, 3, 4, 5, 6, 7, 0] dX9_best_48 (by rw [hnL]; decide) rfl ?_
          refine tw_iconst (v := 1) C dX9_best_50 (by decide) ?_
          refine tw_istore (lv' := [(0, rv K (9, 0)), (1, .int a1), (2, .int a2), (3, .int a3), (4, .int (-1 : Int32)), (5, .int (0 : Int32)), (6, .int (0 : Int32)), (7, .int (0 : Int32)), (8, .int (1 : Int32))]) C [1, 2, 3, 4, 5, 6, 7, 8, 0] dX9_best_51 (by rw [hnL]; decide) rfl ?_
          obtain ⟨⟨x2, x3, x4, σ1⟩, hx6, hq6⟩ := obi_some ht5
          have hJ6 : TW K 218 [(3, .int a3), (4, .int x2), (5, .int x3), (6, .int x4)] [] σ1 := by
            refine tw_iload_n (i := 3) (z := 0) C dX9_best_218 rfl rfl ?_
            refine tw_if_ne (tgt := 227) C dX9_best_219 (by decide) (fun hc36 => ?_) (fun hc36 => ?_)
            · have ht36 := ite_f hc36 hq6
              refine tw_iload_n (i := 3) (z := 0) C dX9_best_227 rfl rfl ?_
              refine tw_iconst (v := 1) C dX9_best_228 (by decide) ?_
              refine tw_ic_ne (tgt := 237) C dX9_best_229 (by decide) (fun hc37 => ?_) (fun hc37 => ?_)
              · have ht37 := ite_f hc37 ht36
                refine tw_iload (i := 6) (z := 3) C dX9_best_237 rfl ?_
                obtain ⟨rfl, rfl⟩ := pj2 (Option.some.inj ht37)
                exact tw_iret C hK rfl rfl dX9_best_239
              · have hf37 := ite_t hc37 ht36
                refine tw_iload (i := 5) (z := 2) C dX9_best_232 rfl ?_
                refine tw_goto (tgt := 239) C dX9_best_234 (by decide) ?_
                obtain ⟨rfl, rfl⟩ := pj2 (Option.some.inj hf37)
                exact tw_iret C hK rfl rfl dX9_best_239
            · have hf36 := ite_t hc36 hq6
              refine tw_iload (i := 4) (z := 1) C dX9_best_222 rfl ?_
              refine tw_goto (tgt := 239) C dX9_best_224 (by decide) ?_
              obtain ⟨rfl, rfl⟩ := pj2 (Option.some.inj hf36)
              exact tw_iret C hK rfl rfl dX9_best_239
          refine lpF_ct (G := fun (q : Int32 × Int32 × Int32 × Int32 × Int32 × St) => match q with | (x5, x6, x7, x8, x9, σ2) => TW K 53 [(0, rv K (9, 0)), (1, .int a1), (2, .int a2), (3, .int a3), (4, .int x5), (5, .int x6), (6, .int x7), (7, .int x8), (8, .int x9)] [] σ2) ?_ hx6
          rintro ⟨x5, x6, x7, x8, x9, σ2⟩ w7 hx7 hk7
          show TW K 53 [(0, rv K (9, 0)), (1, .int a1), (2, .int a2), (3, .int a3), (4, .int x5), (5, .int x6), (6, .int x7), (7, .int x8), (8, .int x9)] [] σ2
          refine tw_iload (i := 8) (z := 8) C dX9_best_53 rfl ?_
          refine tw_if_eq (tgt := 218) C dX9_best_55 (by decide) (fun hc8 => ?_) (fun hc8 => ?_)
          · have ht8 := ite_t hc8 hx7
            refine tw_sub [3, 4, 5, 6] rfl ?_
            have e9 := lp_x ht8 hk7
            obtain ⟨rfl, rfl, rfl, rfl⟩ := pj4 (Option.some.inj e9)
            exact hJ6
          · have hf8 := ite_f hc8 hx7
            refine tw_iconst (v := 0) C dX9_best_58 (by decide) ?_
            refine tw_istore (lv' := [(0, rv K (9, 0)), (1, .int a1), (2, .int a2), (3, .int a3), (4, .int x5), (5, .int x6), (6, .int x7), (7, .int x8), (8, .int x9), (9, .int (0 : Int32))]) C [1, 2, 3, 4, 5, 6, 7, 8, 9, 0] dX9_best_59 (by rw [hnL]; decide) rfl ?_
            obtain ⟨σ3, hx10, hq10⟩ := obi_some hf8
            have hJ10 : TW K 109 [(0, rv K (9, 0)), (1, .int a1), (2, .int a2), (3, .int a3), (4, .int x5), (5, .int x6), (6, .int x7), (7, .int x8)] [] σ3 := by
              refine tw_aload_n (i := 0) (z := 0) (r := (9, 0)) C dX9_best_109 rfl rfl ?_
              obtain ⟨⟨x14, σ8⟩, hv21, eh21⟩ := obi_some hq10
              refine tw_callV (As := []) (rest := []) (r := (9, 0)) C hR (kX9_stayNow K.1 _ (by omega) _   hv21) mi_X9_stayNow is_X9_stayNow se_X9_stayNow ml_RX9_299 (wcells_mem (f := 9) (j := 0) (by decide) (by decide)) rfl rfl rfl rfl (Nat.le_of_ble_eq_true rfl) dX9_best_110 ?_
              show TW K 113 [(0, rv K (9, 0)), (1, .int a1), (2, .int a2), (3, .int a3), (4, .int x5), (5, .int x6), (6, .int x7), (7, .int x8)] [.int x14] σ8
              refine tw_istore (lv' := [(0, rv K (9, 0)), (1, .int a1), (2, .int a2), (3, .int a3), (4, .int x5), (5, .int x6), (6, .int x7), (7, .int x8), (9, .int x14)]) C [1, 2, 3, 4, 5, 6, 7, 8, 0] dX9_best_113 (by rw [hnL]; decide) rfl ?_
              refine tw_aload_n (i := 0) (z := 0) (r := (9, 0)) C dX9_best_115 rfl rfl ?_
              obtain ⟨⟨x15, σ9⟩, hv22, eh22⟩ := obi_some eh21
              refine tw_callV (As := []) (rest := []) (r := (9, 0)) C hR (kX9_hurtNow K.1 _ (by omega) _   hv22) mi_X9_hurtNow is_X9_hurtNow se_X9_hurtNow ml_RX9_302 (wcells_mem (f := 9) (j := 0) (by decide) (by decide)) rfl rfl rfl rfl (Nat.le_of_ble_eq_true rfl) dX9_best_116 ?_
              show TW K 119 [(0, rv K (9, 0)), (1, .int a1), (2, .int a2), (3, .int a3), (4, .int x5), (5, .int x6), (6, .int x7), (7, .int x8), (9, .int x14)] [.int x15] σ9
              refine tw_istore (lv' := [(0, rv K (9, 0)), (1, .int a1), (2, .int a2), (3, .int a3), (4, .int x5), (5, .int x6), (6, .int x7), (7, .int x8), (9, .int x14), (10, .int x15)]) C [1, 2, 3, 4, 5, 6, 7, 8, 9, 0] dX9_best_119 (by rw [hnL]; decide) rfl ?_
              refine tw_iload (i := 4) (z := 4) C dX9_best_121 rfl ?_
              refine tw_iconst (v := (-1)) C dX9_best_123 (by decide) ?_
              obtain ⟨x16, hx23, hq23⟩ := bnd_ex eh22
              have hJ23 : TW K 136 [(0, rv K (9, 0)), (1, .int a1), (2, .int a2), (3, .int a3), (4, .int x5), (5, .int x6), (6, .int x7), (7, .int x8), (9, .int x14), (10, .int x15)] [.int x16] σ9 := by
                refine tw_istore (lv' := [(0, rv K (9, 0)), (1, .int a1), (2, .int a2), (3, .int a3), (4, .int x5), (5, .int x6), (6, .int x7), (7, .int x8), (9, .int x14), (10, .int x15), (11, .int x16)]) C [1, 2, 3, 4, 5, 6, 7, 8, 9, 10, 0] dX9_best_136 (by rw [hnL]; decide) rfl ?_
                refine tw_iload (i := 11) (z := 10) C dX9_best_138 rfl ?_
                obtain ⟨x17, hx25, hq25⟩ := bnd_ex hq23
                have hJ25 : TW K 153 [(0, rv K (9, 0)), (1, .int a1), (2, .int a2), (3, .int a3), (4, .int x5), (5, .int x6), (6, .int x7), (7, .int x8), (9, .int x14), (10, .int x15)] [.int x17] σ9 := by
                  refine tw_istore (lv' := [(0, rv K (9, 0)), (1, .int a1), (2, .int a2), (3, .int a3), (4, .int x5), (5, .int x6), (6, .int x7), (7, .int x8), (9, .int x14), (10, .int x15), (11, .int x17)]) C [1, 2, 3, 4, 5, 6, 7, 8, 9, 10, 0] dX9_best_153 (by rw [hnL]; decide) rfl ?_
                  refine tw_iload (i := 11) (z := 10) C dX9_best_155 rfl ?_
                  obtain ⟨x18, hx27, hq27⟩ := obi_some hq25
                  have hJ27 : TW K 176 [(0, rv K (9, 0)), (1, .int a1), (2, .int a2), (3, .int a3), (4, .int x5), (5, .int x6), (6, .int x7), (7, .int x8), (9, .int x14), (10, .int x15)] [.int x18] σ9 := by
                    refine tw_istore (lv' := [(0, rv K (9, 0)), (1, .int a1), (2, .int a2), (3, .int a3), (4, .int x5), (5, .int x6), (6, .int x7), (7, .int x8), (9, .int x14), (10, .int x15), (11, .int x18)]) C [1, 2, 3, 4, 5, 6, 7, 8, 9, 10, 0] dX9_best_176 (by rw [hnL]; decide) rfl ?_
                    refine tw_iload (i := 11) (z := 10) C dX9_best_178 rfl ?_
                    obtain ⟨⟨x21, x22, x23⟩, hx31, hq31⟩ := bnd_ex hq27
                    have hJ31 : TW K 195 [(0, rv K (9, 0)), (1, .int a1), (2, .int a2), (3, .int a3), (4, .int x21), (5, .int x22), (6, .int x23), (7, .int x8)] [] σ9 := by
                      refine tw_iload (i := 7) (z := 7) C dX9_best_195 rfl ?_
                      refine tw_iload_n (i := 1) (z := 1) C dX9_best_197 rfl rfl ?_
                      refine tw_isub C dX9_best_198 ?_
                      refine tw_iload_n (i := 1) (z := 1) C dX9_best_199 rfl rfl ?_
                      refine tw_iand C dX9_best_200 ?_
                      obtain ⟨x24, ex33, eh33⟩ := bnd_ex hq31
                      refine tw_topi ex33.symm ?_
                      refine tw_istore (lv' := [(0, rv K (9, 0)), (1, .int a1), (2, .int a2), (3, .int a3), (4, .int x21), (5, .int x22), (6, .int x23), (7, .int x24)]) C [1, 2, 3, 4, 5, 6, 7, 0] dX9_best_201 (by rw [hnL]; decide) rfl ?_
                      refine tw_iload (i := 7) (z := 7) C dX9_best_203 rfl ?_
                      obtain ⟨x25, hx34, hq34⟩ := bnd_ex eh33
                      have hJ34 : TW K 213 [(0, rv K (9, 0)), (1, .int a1), (2, .int a2), (3, .int a3), (4, .int x21), (5, .int x22), (6, .int x23), (7, .int x24)] [.int x25] σ9 := by
                        refine tw_istore (lv' := [(0, rv K (9, 0)), (1, .int a1), (2, .int a2), (3, .int a3), (4, .int x21), (5, .int x22), (6, .int x23), (7, .int x24), (8, .int x25)]) C [1, 2, 3, 4, 5, 6, 7, 8, 0] dX9_best_213 (by rw [hnL]; decide) rfl ?_
                        refine tw_goto (tgt := 53) C dX9_best_215 (by decide) ?_
                        have hz := lp_c hq34 hk7
                        exact hz
                      refine tw_if_eq (tgt := 212) C dX9_best_205 (by decide) (fun hc35 => ?_) (fun hc35 => ?_)
                      · have ht35 := ite_t hc35 hx34
                        refine tw_iconst (v := 0) C dX9_best_212 (by decide) ?_
                        obtain rfl := ht35
                        exact hJ34
                      · have hf35 := ite_f hc35 hx34
                        refine tw_iconst (v := 1) C dX9_best_208 (by decide) ?_
                        refine tw_goto (tgt := 213) C dX9_best_209 (by decide) ?_
                        obtain rfl := hf35
                        exact hJ34
                    refine tw_if_le (tgt := 195) C dX9_best_180 (by decide) (fun hc32 => ?_) (fun hc32 => ?_)
                    · have ht32 := ite_t hc32 hx31
                      refine tw_sub [0, 1, 2, 3, 4, 5, 6, 7] rfl ?_
                      obtain ⟨rfl, rfl, rfl⟩ := pj3 ht32
                      exact hJ31
                    · have hf32 := ite_f hc32 hx31
                      refine tw_iload (i := 7) (z := 7) C dX9_best_183 rfl ?_
                      refine tw_istore (lv' := [(0, rv K (9, 0)), (1, .int a1), (2, .int a2), (3, .int a3), (4, .int x8), (5, .int x6), (6, .int x7), (7, .int x8), (9, .int x14), (10, .int x15), (11, .int x18)]) C [1, 2, 3, 4, 0, 5, 6, 7, 8, 9, 10] dX9_best_185 (by rw [hnL]; decide) rfl ?_
                      refine tw_iload (i := 9) (z := 8) C dX9_best_187 rfl ?_
                      refine tw_istore (lv' := [(0, rv K (9, 0)), (1, .int a1), (2, .int a2), (3, .int a3), (4, .int x8), (5, .int x14), (6, .int x7), (7, .int x8), (9, .int x14), (10, .int x15), (11, .int x18)]) C [1, 2, 3, 4, 5, 0, 6, 7, 8, 9, 10] dX9_best_189 (by rw [hnL]; decide) rfl ?_
                      refine tw_iload (i := 10) (z := 9) C dX9_best_191 rfl ?_
                      refine tw_istore (lv' := [(0, rv K (9, 0)), (1, .int a1), (2, .int a2), (3, .int a3), (4, .int x8), (5, .int x14), (6, .int x15), (7, .int x8), (9, .int x14), (10, .int x15), (11, .int x18)]) C [1, 2, 3, 4, 5, 6, 0, 7, 8, 9, 10] dX9_best_193 (by rw [hnL]; decide) rfl ?_
                      refine tw_sub [0, 1, 2, 3, 4, 5, 6, 7] rfl ?_
                      obtain ⟨rfl, rfl, rfl⟩ := pj3 hf32
                      exact hJ31
                  refine tw_if_ne (tgt := 174) C dX9_best_157 (by decide) (fun hc28 => ?_) (fun hc28 => ?_)
                  · have ht28 := ite_f hc28 hx27
                    refine tw_iload (i := 11) (z := 10) C dX9_best_174 rfl ?_
                    refine tw_sub [0, 1, 2, 3, 4, 5, 6, 7, 8, 9] rfl ?_
                    obtain rfl := (Option.some.inj ht28)
                    exact hJ27
                  · have hf28 := ite_t hc28 hx27
                    refine tw_iload (i := 4) (z := 4) C dX9_best_160 rfl ?_
                    obtain ⟨x19, hv29, eh29⟩ := obi_some hf28
                    refine tw_callS (As := [.int x5]) (rest := []) C hR (kX9_ones K.1 _ (by omega) σ9 x5  hv29) mi_X9_ones st_X9_ones ml_RX9_296 rfl rfl (Nat.le_of_ble_eq_true rfl) dX9_best_162 ?_
                    show TW K 165 [(0, rv K (9, 0)), (1, .int a1), (2, .int a2), (3, .int a3), (4, .int x5), (5, .int x6), (6, .int x7), (7, .int x8), (9, .int x14), (10, .int x15), (11, .int x17)] [.int x19] σ9
                    refine tw_iload (i := 7) (z := 7) C dX9_best_165 rfl ?_
                    obtain ⟨x20, hv30, eh30⟩ := obi_some eh29
                    refine tw_callS (As := [.int x8]) (rest := [.int x19]) C hR (kX9_ones K.1 _ (by omega) σ9 x8  hv30) mi_X9_ones st_X9_ones ml_RX9_296 rfl rfl (Nat.le_of_ble_eq_true rfl) dX9_best_167 ?_
                    show TW K 170 [(0, rv K (9, 0)), (1, .int a1), (2, .int a2), (3, .int a3), (4, .int x5), (5, .int x6), (6, .int x7), (7, .int x8), (9, .int x14), (10, .int x15), (11, .int x17)] [.int x20, .int x19] σ9
                    refine tw_isub C dX9_best_170 ?_
                    refine tw_goto (tgt := 176) C dX9_best_171 (by decide) ?_
                    refine tw_sub [0, 1, 2, 3, 4, 5, 6, 7, 8, 9] rfl ?_
                    obtain rfl := (Option.some.inj eh30)
                    exact hJ27
                refine tw_if_ne (tgt := 151) C dX9_best_140 (by decide) (fun hc26 => ?_) (fun hc26 => ?_)
                · have ht26 := ite_f hc26 hx25
                  refine tw_iload (i := 11) (z := 10) C dX9_best_151 rfl ?_
                  refine tw_sub [0, 1, 2, 3, 4, 5, 6, 7, 8, 9] rfl ?_
                  obtain rfl := ht26
                  exact hJ25
                · have hf26 := ite_t hc26 hx25
                  refine tw_iload (i := 6) (z := 6) C dX9_best_143 rfl ?_
                  refine tw_iload (i := 10) (z := 9) C dX9_best_145 rfl ?_
                  refine tw_isub C dX9_best_147 ?_
                  refine tw_goto (tgt := 153) C dX9_best_148 (by decide) ?_
                  refine tw_sub [0, 1, 2, 3, 4, 5, 6, 7, 8, 9] rfl ?_
                  obtain rfl := hf26
                  exact hJ25
              refine tw_ic_ne (tgt := 131) C dX9_best_124 (by decide) (fun hc24 => ?_) (fun hc24 => ?_)
              · have ht24 := ite_f hc24 hx23
                refine tw_iload (i := 9) (z := 8) C dX9_best_131 rfl ?_
                refine tw_iload (i := 5) (z := 5) C dX9_best_133 rfl ?_
                refine tw_isub C dX9_best_135 ?_
                obtain rfl := ht24
                exact hJ23
              · have hf24 := ite_t hc24 hx23
                refine tw_iconst (v := 1) C dX9_best_127 (by decide) ?_
                refine tw_goto (tgt := 136) C dX9_best_128 (by decide) ?_
                obtain rfl := hf24
                exact hJ23
            refine tw_sub [0, 1, 2, 3, 4, 5, 6, 7, 9] rfl ?_
            refine lpF_ct (G := fun (q : Int32 × St) => match q with | (x10, σ4) => TW K 61 [(0, rv K (9, 0)), (1, .int a1), (2, .int a2), (3, .int a3), (4, .int x5), (5, .int x6), (6, .int x7), (7, .int x8), (9, .int x10)] [] σ4) ?_ hx10
            rintro ⟨x10, σ4⟩ w11 hx11 hk11
            show TW K 61 [(0, rv K (9, 0)), (1, .int a1), (2, .int a2), (3, .int a3), (4, .int x5), (5, .int x6), (6, .int x7), (7, .int x8), (9, .int x10)] [] σ4
            refine tw_iload (i := 9) (z := 8) C dX9_best_61 rfl ?_
            refine tw_bipush (v := 17) C dX9_best_63 (by decide) ?_
            refine tw_ic_ge (tgt := 109) C dX9_best_65 (by decide) (fun hc12 => ?_) (fun hc12 => ?_)
            · have ht12 := ite_t hc12 hx11
              refine tw_sub [0, 1, 2, 3, 4, 5, 6, 7] rfl ?_
              have e13 := lp_x ht12 hk11
              obtain rfl := (Option.some.inj e13)
              exact hJ10
            · have hf12 := ite_f hc12 hx11
              refine tw_aload_n (i := 0) (z := 0) (r := (9, 0)) C dX9_best_68 rfl rfl ?_
              refine tw_getR (g := 35) (z := 0) (j' := 0) C fl_RX9_29 rfl (wcells_mem (f := 9) (j := 0) (by decide) (by decide)) rfl rfl dX9_best_69 ?_
              refine tw_iload (i := 9) (z := 8) C dX9_best_72 rfl ?_
              refine tw_iload (i := 7) (z := 7) C dX9_best_74 rfl ?_
              refine tw_iload (i := 9) (z := 8) C dX9_best_76 rfl ?_
              refine tw_ishr C dX9_best_78 ?_
              refine tw_iconst (v := 1) C dX9_best_79 (by decide) ?_
              refine tw_iand C dX9_best_80 ?_
              refine tw_iconst (v := 1) C dX9_best_81 (by decide) ?_
              obtain ⟨⟨x11, σ5⟩, hx14, hq14⟩ := obi_some hf12
              have hJ14 : TW K 102 [(0, rv K (9, 0)), (1, .int a1), (2, .int a2), (3, .int a3), (4, .int x5), (5, .int x6), (6, .int x7), (7, .int x8), (9, .int x10)] [.int x11, .int x10, rv K (35, 0)] σ5 := by
                obtain ⟨hb18, eh18⟩ := grd_some hq14
                obtain ⟨σ7, es19, eg19⟩ := bnd_ex eh18
                refine tw_iast (r := (35, 0)) C (wa_of rfl (by decide) (by decide)) hb18 dX9_best_102 ?_
                rw [es19]
                obtain ⟨x13, ex20, eh20⟩ := bnd_ex eg19
                refine tw_iinc (z := 8) (v := x13) (lv' := [(0, rv K (9, 0)), (1, .int a1), (2, .int a2), (3, .int a3), (4, .int x5), (5, .int x6), (6, .int x7), (7, .int x8), (9, .int x13)]) C [1, 2, 3, 4, 5, 6, 7, 8, 0] dX9_best_103 rfl ex20 (by rw [hnL]; decide) rfl ?_
                refine tw_goto (tgt := 61) C dX9_best_106 (by decide) ?_
                have hz := lp_c eh20 hk11
                exact hz
              refine tw_ic_ne (tgt := 95) C dX9_best_82 (by decide) (fun hc15 => ?_) (fun hc15 => ?_)
              · have ht15 := ite_f hc15 hx14
                refine tw_aload_n (i := 0) (z := 0) (r := (9, 0)) C dX9_best_95 rfl rfl ?_
                refine tw_getR (g := 47) (z := 0) (j' := 0) C fl_RX9_65 rfl (wcells_mem (f := 9) (j := 0) (by decide) (by decide)) rfl rfl dX9_best_96 ?_
                refine tw_iload (i := 9) (z := 8) C dX9_best_99 rfl ?_
                obtain ⟨hb16, eh16⟩ := grd_some ht15
                refine tw_iald (r := (47, 0)) C (ia_of rfl (by decide)) hb16 dX9_best_101 ?_
                obtain ⟨rfl, rfl⟩ := pj2 (Option.some.inj eh16)
                exact hJ14
              · have hf15 := ite_t hc15 hx14
                refine tw_aload_n (i := 0) (z := 0) (r := (9, 0)) C dX9_best_85 rfl rfl ?_
                refine tw_iload_n (i := 2) (z := 2) C dX9_best_86 rfl rfl ?_
                refine tw_iload (i := 9) (z := 8) C dX9_best_87 rfl ?_
                obtain ⟨⟨x12, σ6⟩, hv17, eh17⟩ := obi_some hf15
                refine tw_callV (As := [.int a2, .int x10]) (rest := [.int x10, rv K (35, 0)]) (r := (9, 0)) C hR (kX9_itemOf K.1 _ (by omega) _ a2 x10  hv17) mi_X9_itemOf is_X9_itemOf se_X9_itemOf ml_RX9_147 (wcells_mem (f := 9) (j := 0) (by decide) (by decide)) rfl rfl rfl rfl (Nat.le_of_ble_eq_true rfl) dX9_best_89 ?_
                show TW K 92 [(0, rv K (9, 0)), (1, .int a1), (2, .int a2), (3, .int a3), (4, .int x5), (5, .int x6), (6, .int x7), (7, .int x8), (9, .int x10)] [.int x12, .int x10, rv K (35, 0)] σ6
                refine tw_goto (tgt := 102) C dX9_best_92 (by decide) ?_
                obtain ⟨rfl, rfl⟩ := pj2 (Option.some.inj eh17)
                exact hJ14
        · have hf5 := ite_f (b2i_z hc5) hf4
          refine tw_bipush (v := (-2)) C dX9_best_35 (by decide) ?_
          obtain ⟨rfl, rfl⟩ := pj2 (Option.some.inj hf5)
          exact tw_iret C hK rfl rfl dX9_best_37

set_option maxRecDepth 20000 in
def fX9_way (σ : St) (a1 : Int32) (a2 : Int32) (a3 : Int32) : Option (Int32 × St) :=
  if (fX9_areTwo σ a1 a2) = true then
    if (fX9_in a3 (0 : Int32) (99 : Int32)) = true then
      grd (inb (((12 : Int32) * a1) + a2) 144) (
      bnd (σ (48, 0) (tn (((12 : Int32) * a1) + a2))) (fun x1 =>
      grd (inb (((12 : Int32) * a1) + a2) 144) (bnd (su σ (48, 0) (tn (((12 : Int32) * a1) + a2)) a3) (fun σ1 =>
      grd (inb (((12 : Int32) * a2) + a1) 144) (bnd (su σ1 (48, 0) (tn (((12 : Int32) * a2) + a1)) a3) (fun σ2 =>
      some (x1, σ2)))))))
    else
      some ((-2 : Int32), σ)
  else
    some ((-2 : Int32), σ)
set_option maxRecDepth 20000 in
set_option maxHeartbeats 4000000 in
theorem kX9_way (G : Gx) (d : Nat) (hdp : 4 ≤ d) (σ : St) (a1 : Int32) (a2 : Int32) (a3 : Int32)  {v0 : Int32} {σ' : St} (h : fX9_way σ a1 a2 a3 = some (v0, σ')) : MS G d yX9_way cX9_way 5 (some .int) [.ref (G.2.1 (9, 0)), .int a1, .int a2, .int a3] σ (some (.int v0)) σ' := by
  refine MS_of (by decide) (Nat.le_of_ble_eq_true rfl) rfl (fun K hG hnL C hR hK => ?_) (by omega)
  subst hG
  show TW K 0 [(0, rv K (9, 0)), (1, .int a1), (2, .int a2), (3, .int a3)] [] σ
  unfold fX9_way at h
  refine tw_aload_n (i := 0) (z := 0) (r := (9, 0)) C dX9_way_0 rfl rfl ?_
  refine tw_iload_n (i := 1) (z := 1) C dX9_way_1 rfl rfl ?_
  refine tw_iload_n (i := 2) (z := 2) C dX9_way_2 rfl rfl ?_
  refine tw_callV (As := [.int a1, .int a2]) (rest := []) (r := (9, 0)) C hR (kX9_areTwo K.1 _ (by omega) σ a1 a2  rfl) mi_X9_areTwo is_X9_areTwo se_X9_areTwo ml_RX9_284 (wcells_mem (f := 9) (j := 0) (by decide) (by decide)) rfl rfl rfl rfl (Nat.le_of_ble_eq_true rfl) dX9_way_3 ?_
  show TW K 6 [(0, rv K (9, 0)), (1, .int a1), (2, .int a2), (3, .int a3)] [.int (b2i (fX9_areTwo σ a1 a2))] σ
  refine tw_if_eq (tgt := 19) C dX9_way_6 (by decide) (fun hc1 => ?_) (fun hc1 => ?_)
  · have ht1 := ite_f (b2i_z hc1) h
    refine tw_bipush (v := (-2)) C dX9_way_19 (by decide) ?_
    obtain ⟨rfl, rfl⟩ := pj2 (Option.some.inj ht1)
    exact tw_iret C hK rfl rfl dX9_way_21
  · have hf1 := ite_t (b2i_nz hc1) h
    refine tw_iload_n (i := 3) (z := 3) C dX9_way_9 rfl rfl ?_
    refine tw_iconst (v := 0) C dX9_way_10 (by decide) ?_
    refine tw_bipush (v := 99) C dX9_way_11 (by decide) ?_
    refine tw_callS (As := [.int a3, .int (0 : Int32), .int (99 : Int32)]) (rest := []) C hR (kX9_in K.1 _ (by omega) σ a3 (0 : Int32) (99 : Int32)  rfl) mi_X9_in st_X9_in ml_RX9_106 rfl rfl (Nat.le_of_ble_eq_true rfl) dX9_way_13 ?_
    show TW K 16 [(0, rv K (9, 0)), (1, .int a1), (2, .int a2), (3, .int a3)] [.int (b2i (fX9_in a3 (0 : Int32) (99 : Int32)))] σ
    refine tw_if_ne (tgt := 22) C dX9_way_16 (by decide) (fun hc2 => ?_) (fun hc2 => ?_)
    · have ht2 := ite_t (b2i_nz hc2) hf1
      refine tw_aload_n (i := 0) (z := 0) (r := (9, 0)) C dX9_way_22 rfl rfl ?_
      refine tw_getR (g := 48) (z := 0) (j' := 0) C fl_RX9_78 rfl (wcells_mem (f := 9) (j := 0) (by decide) (by decide)) rfl rfl dX9_way_23 ?_
      refine tw_bipush (v := 12) C dX9_way_26 (by decide) ?_
      refine tw_iload_n (i := 1) (z := 1) C dX9_way_28 rfl rfl ?_
      refine tw_imul C dX9_way_29 ?_
      refine tw_iload_n (i := 2) (z := 2) C dX9_way_30 rfl rfl ?_
      refine tw_iadd C dX9_way_31 ?_
      obtain ⟨hb3, eh3⟩ := grd_some ht2
      refine tw_iald (r := (48, 0)) C (ia_of rfl (by decide)) hb3 dX9_way_32 ?_
      obtain ⟨x1, ex4, eh4⟩ := bnd_ex eh3
      refine tw_topi ex4.symm ?_
      refine tw_istore (lv' := [(0, rv K (9, 0)), (1, .int a1), (2, .int a2), (3, .int a3), (4, .int x1)]) C [1, 2, 3, 4, 0] dX9_way_33 (by rw [hnL]; decide) rfl ?_
      refine tw_aload_n (i := 0) (z := 0) (r := (9, 0)) C dX9_way_35 rfl rfl ?_
      refine tw_getR (g := 48) (z := 0) (j' := 0) C fl_RX9_78 rfl (wcells_mem (f := 9) (j := 0) (by decide) (by decide)) rfl rfl dX9_way_36 ?_
      refine tw_bipush (v := 12) C dX9_way_39 (by decide) ?_
      refine tw_iload_n (i := 1) (z := 1) C dX9_way_41 rfl rfl ?_
      refine tw_imul C dX9_way_42 ?_
      refine tw_iload_n (i := 2) (z := 2) C dX9_way_43 rfl rfl ?_
      refine tw_iadd C dX9_way_44 ?_
      refine tw_iload_n (i := 3) (z := 3) C dX9_way_45 rfl rfl ?_
      obtain ⟨hb5, eh5⟩ := grd_some eh4
      obtain ⟨σ1, es6, eg6⟩ := bnd_ex eh5
      refine tw_iast (r := (48, 0)) C (wa_of rfl (by decide) (by decide)) hb5 dX9_way_46 ?_
      rw [es6]
      refine tw_aload_n (i := 0) (z := 0) (r := (9, 0)) C dX9_way_47 rfl rfl ?_
      refine tw_getR (g := 48) (z := 0) (j' := 0) C fl_RX9_78 rfl (wcells_mem (f := 9) (j := 0) (by decide) (by decide)) rfl rfl dX9_way_48 ?_
      refine tw_bipush (v := 12) C dX9_way_51 (by decide) ?_
      refine tw_iload_n (i := 2) (z := 2) C dX9_way_53 rfl rfl ?_
      refine tw_imul C dX9_way_54 ?_
      refine tw_iload_n (i := 1) (z := 1) C dX9_way_55 rfl rfl ?_
      refine tw_iadd C dX9_way_56 ?_
      refine tw_iload_n (i := 3) (z := 3) C dX9_way_57 rfl rfl ?_
      obtain ⟨hb7, eh7⟩ := grd_some eg6
      obtain ⟨σ2, es8, eg8⟩ := bnd_ex eh7
      refine tw_iast (r := (48, 0)) C (wa_of rfl (by decide) (by decide)) hb7 dX9_way_58 ?_
      rw [es8]
      refine tw_iload (i := 4) (z := 4) C dX9_way_59 rfl ?_
      obtain ⟨rfl, rfl⟩ := pj2 (Option.some.inj eg8)
      exact tw_iret C hK rfl rfl dX9_way_61
    · have hf2 := ite_f (b2i_z hc2) hf1
      refine tw_bipush (v := (-2)) C dX9_way_19 (by decide) ?_
      obtain ⟨rfl, rfl⟩ := pj2 (Option.some.inj hf2)
      exact tw_iret C hK rfl rfl dX9_way_21

set_option maxRecDepth 20000 in
def fX9_lowest (a0 : Int32) : Option (Int32) :=
  lpF (fun (q1 : Int32) => match q1 with
  | x1 =>
  if ((a0 >>> (x1 &&& 31)) &&& (1 : Int32)) = 0 then
    bnd (x1 + 1) (fun x2 =>
    some (.inl x2))
  else
    some (.inr x1)) (0 : Int32)
set_option maxRecDepth 20000 in
set_option maxHeartbeats 4000000 in
theorem kX9_lowest (G : Gx) (d : Nat) (hdp : 1 ≤ d) (σ : St) (a0 : Int32)  {v0 : Int32} (h : fX9_lowest a0 = some v0) : MS G d yX9_lowest cX9_lowest 2 (some .int) [.int a0] σ (some (.int v0)) σ := by
  refine MS_of (by decide) (Nat.le_of_ble_eq_true rfl) rfl (fun K hG hnL C hR hK => ?_) (by omega)
  subst hG
  show TW K 0 [(0, .int a0)] [] σ
  unfold fX9_lowest at h
  refine tw_iconst (v := 0) C dX9_lowest_0 (by decide) ?_
  refine tw_istore_n (lv' := [(0, .int a0), (1, .int (0 : Int32))]) C [1, 0] dX9_lowest_1 rfl (by rw [hnL]; decide) rfl ?_
  refine lpF_ct (G := fun (q : Int32) => match q with | x1 => TW K 2 [(0, .int a0), (1, .int x1)] [] σ) ?_ h
  rintro x1 w1 hx1 hk1
  show TW K 2 [(0, .int a0), (1, .int x1)] [] σ
  refine tw_iload_n (i := 0) (z := 0) C dX9_lowest_2 rfl rfl ?_
  refine tw_iload_n (i := 1) (z := 1) C dX9_lowest_3 rfl rfl ?_
  refine tw_ishr C dX9_lowest_4 ?_
  refine tw_iconst (v := 1) C dX9_lowest_5 (by decide) ?_
  refine tw_iand C dX9_lowest_6 ?_
  refine tw_if_ne (tgt := 16) C dX9_lowest_7 (by decide) (fun hc2 => ?_) (fun hc2 => ?_)
  · have ht2 := ite_f hc2 hx1
    refine tw_iload_n (i := 1) (z := 1) C dX9_lowest_16 rfl rfl ?_
    have e3 := lp_x ht2 hk1
    obtain rfl := (Option.some.inj e3)
    exact tw_iret C hK rfl rfl dX9_lowest_17
  · have hf2 := ite_t hc2 hx1
    obtain ⟨x2, ex4, eh4⟩ := bnd_ex hf2
    refine tw_iinc (z := 1) (v := x2) (lv' := [(0, .int a0), (1, .int x2)]) C [1, 0] dX9_lowest_10 rfl ex4 (by rw [hnL]; decide) rfl ?_
    refine tw_goto (tgt := 2) C dX9_lowest_13 (by decide) ?_
    have hz := lp_c eh4 hk1
    exact hz

set_option maxRecDepth 20000 in
def fX9_pairs (σ : St) (a1 : Int32) (a2 : Int32) : Option (St) :=
  bnd (su σ (49, 0) (tn (0 : Int32)) (1 : Int32)) (fun σ1 =>
  bnd (su σ1 (50, 0) (tn (0 : Int32)) (0 : Int32)) (fun σ2 =>
  lpF (fun (q5 : Int32 × St) => match q5 with
  | (x1, σ3) =>
  if ((1 : Int32) <<< ((σ3 (9, 0) 28) &&& 31)) ≤ x1 then
    some (.inr σ3)
  else
    grd (inb x1 4096) (bnd (su σ3 (49, 0) (tn x1) (0 : Int32)) (fun σ4 =>
    grd (inb x1 4096) (bnd (su σ4 (50, 0) (tn x1) (-1 : Int32)) (fun σ5 =>
    obi (if (x1 &&& (a1 ^^^ (-1 : Int32))) = 0 then
      obi (fX9_ones x1) (fun x2 =>
      if (irm x2 (2 : Int32)) = 0 then
        obi (fX9_lowest x1) (fun x3 =>
        bnd (x3 + (1 : Int32)) (fun x4 =>
        lpF (fun (q18 : Int32 × St) => match q18 with
        | (x5, σ7) =>
        if (σ7 (9, 0) 28) ≤ x5 then
          some (.inr σ7)
        else
          bnd (x1 &&& ((((1 : Int32) <<< (x3 &&& 31)) ||| ((1 : Int32) <<< (x5 &&& 31))) ^^^ (-1 : Int32))) (fun x6 =>
          obi (if ((x1 >>> (x5 &&& 31)) &&& (1 : Int32)) = (1 : Int32) then
            grd (inb (((12 : Int32) * x3) + x5) 144) (
            if a2 < (σ7 (48, 0) (tn (((12 : Int32) * x3) + x5))) then
              some σ7
            else
              grd (inb x6 4096) (
              if (σ7 (49, 0) (tn x6)) ≤ 0 then
                some σ7
              else
                grd (inb x6 4096) (
                grd (inb (((12 : Int32) * x3) + x5) 144) (
                bnd ((σ7 (50, 0) (tn x6)) + (σ7 (48, 0) (tn (((12 : Int32) * x3) + x5)))) (fun x7 =>
                grd (inb x1 4096) (
                grd (inb x6 4096) (
                grd (inb x1 4096) (bnd (su σ7 (49, 0) (tn x1) ((σ7 (49, 0) (tn x1)) + (σ7 (49, 0) (tn x6)))) (fun σ9 =>
                grd (inb x1 4096) (
                obi (if (σ9 (50, 0) (tn x1)) = (-1 : Int32) then
                  some x7
                else
                  grd (inb x1 4096) (
                  if (σ9 (50, 0) (tn x1)) ≤ x7 then
                    grd (inb x1 4096) (
                    some (σ9 (50, 0) (tn x1)))
                  else
                    some x7)) (fun x8 =>
                grd (inb x1 4096) (bnd (su σ9 (50, 0) (tn x1) x8) (fun σ10 =>
                some σ10)))))))))))))
          else
            some σ7) (fun σ8 =>
          bnd (x5 + 1) (fun x9 =>
          some (.inl (x9, σ8)))))) (x4, σ5)))
      else
        some σ5)
    else
      some σ5) (fun σ6 =>
    bnd (x1 + 1) (fun x10 =>
    some (.inl (x10, σ6))))))))) ((1 : Int32), σ2)))
set_option maxRecDepth 20000 in
set_option maxHeartbeats 4000000 in
theorem kX9_pairs (G : Gx) (d : Nat) (hdp : 2 ≤ d) (σ : St) (a1 : Int32) (a2 : Int32)  {σ' : St} (h : fX9_pairs σ a1 a2 = some σ') : MS G d yX9_pairs cX9_pairs 8 none [.ref (G.2.1 (9, 0)), .int a1, .int a2] σ none σ' := by
  refine MS_of (by decide) (Nat.le_of_ble_eq_true rfl) rfl (fun K hG hnL C hR hK => ?_) (by omega)
  subst hG
  show TW K 0 [(0, rv K (9, 0)), (1, .int a1), (2, .int a2)] [] σ
  unfold fX9_pairs at h
  refine tw_aload_n (i := 0) (z := 0) (r := (9, 0)) C dX9_pairs_0 rfl rfl ?_
  refine tw_getR (g := 49) (z := 0) (j' := 0) C fl_RX9_81 rfl (wcells_mem (f := 9) (j := 0) (by decide) (by decide)) rfl rfl dX9_pairs_1 ?_
  refine tw_iconst (v := 0) C dX9_pairs_4 (by decide) ?_
  refine tw_iconst (v := 1) C dX9_pairs_5 (by decide) ?_
  obtain ⟨σ1, es2, eg2⟩ := bnd_ex h
  refine tw_iast (r := (49, 0)) C (wa_of rfl (by decide) (by decide)) (by decide) dX9_pairs_6 ?_
  rw [es2]
  refine tw_aload_n (i := 0) (z := 0) (r := (9, 0)) C dX9_pairs_7 rfl rfl ?_
  refine tw_getR (g := 50) (z := 0) (j' := 0) C fl_RX9_84 rfl (wcells_mem (f := 9) (j := 0) (by decide) (by decide)) rfl rfl dX9_pairs_8 ?_
  refine tw_iconst (v := 0) C dX9_pairs_11 (by decide) ?_
  refine tw_iconst (v := 0) C dX9_pairs_12 (by decide) ?_
  obtain ⟨σ2, es4, eg4⟩ := bnd_ex eg2
  refine tw_iast (r := (50, 0)) C (wa_of rfl (by decide) (by decide)) (by decide) dX9_pairs_13 ?_
  rw [es4]
  refine tw_iconst (v := 1) C dX9_pairs_14 (by decide) ?_
  refine tw_istore_n (lv' := [(0, rv K (9, 0)), (1, .int a1), (2, .int a2), (3, .int (1 : Int32))]) C [1, 2, 3, 0] dX9_pairs_15 rfl (by rw [hnL]; decide) rfl ?_
  refine lpF_ct (G := fun (q : Int32 × St) => match q with | (x1, σ3) => TW K 16 [(0, rv K (9, 0)), (1, .int a1), (2, .int a2), (3, .int x1)] [] σ3) ?_ eg4
  rintro ⟨x1, σ3⟩ w5 hx5 hk5
  show TW K 16 [(0, rv K (9, 0)), (1, .int a1), (2, .int a2), (3, .int x1)] [] σ3
  refine tw_iload_n (i := 3) (z := 3) C dX9_pairs_16 rfl rfl ?_
  refine tw_iconst (v := 1) C dX9_pairs_17 (by decide) ?_
  refine tw_aload_n (i := 0) (z := 0) (r := (9, 0)) C dX9_pairs_18 rfl rfl ?_
  refine tw_getI C fl_RX9_278 rfl (wcells_mem (f := 9) (j := 0) (by decide) (by decide)) rfl dX9_pairs_19 ?_
  refine tw_ishl C dX9_pairs_22 ?_
  refine tw_ic_ge (tgt := 219) C dX9_pairs_23 (by decide) (fun hc6 => ?_) (fun hc6 => ?_)
  · have ht6 := ite_t hc6 hx5
    have e7 := lp_x ht6 hk5
    obtain rfl := (Option.some.inj e7)
    exact tw_vret C hK rfl rfl dX9_pairs_219
  · have hf6 := ite_f hc6 hx5
    refine tw_aload_n (i := 0) (z := 0) (r := (9, 0)) C dX9_pairs_26 rfl rfl ?_
    refine tw_getR (g := 49) (z := 0) (j' := 0) C fl_RX9_81 rfl (wcells_mem (f := 9) (j := 0) (by decide) (by decide)) rfl rfl dX9_pairs_27 ?_
    refine tw_iload_n (i := 3) (z := 3) C dX9_pairs_30 rfl rfl ?_
    refine tw_iconst (v := 0) C dX9_pairs_31 (by decide) ?_
    obtain ⟨hb8, eh8⟩ := grd_some hf6
    obtain ⟨σ4, es9, eg9⟩ := bnd_ex eh8
    refine tw_iast (r := (49, 0)) C (wa_of rfl (by decide) (by decide)) hb8 dX9_pairs_32 ?_
    rw [es9]
    refine tw_aload_n (i := 0) (z := 0) (r := (9, 0)) C dX9_pairs_33 rfl rfl ?_
    refine tw_getR (g := 50) (z := 0) (j' := 0) C fl_RX9_84 rfl (wcells_mem (f := 9) (j := 0) (by decide) (by decide)) rfl rfl dX9_pairs_34 ?_
    refine tw_iload_n (i := 3) (z := 3) C dX9_pairs_37 rfl rfl ?_
    refine tw_iconst (v := (-1)) C dX9_pairs_38 (by decide) ?_
    obtain ⟨hb10, eh10⟩ := grd_some eg9
    obtain ⟨σ5, es11, eg11⟩ := bnd_ex eh10
    refine tw_iast (r := (50, 0)) C (wa_of rfl (by decide) (by decide)) hb10 dX9_pairs_39 ?_
    rw [es11]
    refine tw_iload_n (i := 3) (z := 3) C dX9_pairs_40 rfl rfl ?_
    refine tw_iload_n (i := 1) (z := 1) C dX9_pairs_41 rfl rfl ?_
    refine tw_iconst (v := (-1)) C dX9_pairs_42 (by decide) ?_
    refine tw_ixor C dX9_pairs_43 ?_
    refine tw_iand C dX9_pairs_44 ?_
    obtain ⟨σ6, hx12, hq12⟩ := obi_some eg11
    have hJ12 : TW K 213 [(0, rv K (9, 0)), (1, .int a1), (2, .int a2), (3, .int x1)] [] σ6 := by
      obtain ⟨x10, ex44, eh44⟩ := bnd_ex hq12
      refine tw_iinc (z := 3) (v := x10) (lv' := [(0, rv K (9, 0)), (1, .int a1), (2, .int a2), (3, .int x10)]) C [1, 2, 3, 0] dX9_pairs_213 rfl ex44 (by rw [hnL]; decide) rfl ?_
      refine tw_goto (tgt := 16) C dX9_pairs_216 (by decide) ?_
      have hz := lp_c eh44 hk5
      exact hz
    refine tw_if_ne (tgt := 213) C dX9_pairs_45 (by decide) (fun hc13 => ?_) (fun hc13 => ?_)
    · have ht13 := ite_f hc13 hx12
      obtain rfl := (Option.some.inj ht13)
      exact hJ12
    · have hf13 := ite_t hc13 hx12
      refine tw_iload_n (i := 3) (z := 3) C dX9_pairs_48 rfl rfl ?_
      obtain ⟨x2, hv14, eh14⟩ := obi_some hf13
      refine tw_callS (As := [.int x1]) (rest := []) C hR (kX9_ones K.1 _ (by omega) σ5 x1  hv14) mi_X9_ones st_X9_ones ml_RX9_296 rfl rfl (Nat.le_of_ble_eq_true rfl) dX9_pairs_49 ?_
      show TW K 52 [(0, rv K (9, 0)), (1, .int a1), (2, .int a2), (3, .int x1)] [.int x2] σ5
      refine tw_iconst (v := 2) C dX9_pairs_52 (by decide) ?_
      refine tw_irem C dX9_pairs_53 (by decide) ?_
      refine tw_if_ne (tgt := 213) C dX9_pairs_54 (by decide) (fun hc15 => ?_) (fun hc15 => ?_)
      · have ht15 := ite_f hc15 eh14
        obtain rfl := (Option.some.inj ht15)
        exact hJ12
      · have hf15 := ite_t hc15 eh14
        refine tw_iload_n (i := 3) (z := 3) C dX9_pairs_57 rfl rfl ?_
        obtain ⟨x3, hv16, eh16⟩ := obi_some hf15
        refine tw_callS (As := [.int x1]) (rest := []) C hR (kX9_lowest K.1 _ (by omega) σ5 x1  hv16) mi_X9_lowest st_X9_lowest ml_RX9_305 rfl rfl (Nat.le_of_ble_eq_true rfl) dX9_pairs_58 ?_
        show TW K 61 [(0, rv K (9, 0)), (1, .int a1), (2, .int a2), (3, .int x1)] [.int x3] σ5
        refine tw_istore (lv' := [(0, rv K (9, 0)), (1, .int a1), (2, .int a2), (3, .int x1), (4, .int x3)]) C [1, 2, 3, 4, 0] dX9_pairs_61 (by rw [hnL]; decide) rfl ?_
        refine tw_iload (i := 4) (z := 4) C dX9_pairs_63 rfl ?_
        refine tw_iconst (v := 1) C dX9_pairs_65 (by decide) ?_
        refine tw_iadd C dX9_pairs_66 ?_
        obtain ⟨x4, ex17, eh17⟩ := bnd_ex eh16
        refine tw_topi ex17.symm ?_
        refine tw_istore (lv' := [(0, rv K (9, 0)), (1, .int a1), (2, .int a2), (3, .int x1), (4, .int x3), (5, .int x4)]) C [1, 2, 3, 4, 5, 0] dX9_pairs_67 (by rw [hnL]; decide) rfl ?_
        refine lpF_ct (G := fun (q : Int32 × St) => match q with | (x5, σ7) => TW K 69 [(0, rv K (9, 0)), (1, .int a1), (2, .int a2), (3, .int x1), (4, .int x3), (5, .int x5)] [] σ7) ?_ eh17
        rintro ⟨x5, σ7⟩ w18 hx18 hk18
        show TW K 69 [(0, rv K (9, 0)), (1, .int a1), (2, .int a2), (3, .int x1), (4, .int x3), (5, .int x5)] [] σ7
        refine tw_iload (i := 5) (z := 5) C dX9_pairs_69 rfl ?_
        refine tw_aload_n (i := 0) (z := 0) (r := (9, 0)) C dX9_pairs_71 rfl rfl ?_
        refine tw_getI C fl_RX9_278 rfl (wcells_mem (f := 9) (j := 0) (by decide) (by decide)) rfl dX9_pairs_72 ?_
        refine tw_ic_ge (tgt := 213) C dX9_pairs_75 (by decide) (fun hc19 => ?_) (fun hc19 => ?_)
        · have ht19 := ite_t hc19 hx18
          refine tw_sub [0, 1, 2, 3] rfl ?_
          have e20 := lp_x ht19 hk18
          obtain rfl := (Option.some.inj e20)
          exact hJ12
        · have hf19 := ite_f hc19 hx18
          refine tw_iload_n (i := 3) (z := 3) C dX9_pairs_78 rfl rfl ?_
          refine tw_iconst (v := 1) C dX9_pairs_79 (by decide) ?_
          refine tw_iload (i := 4) (z := 4) C dX9_pairs_80 rfl ?_
          refine tw_ishl C dX9_pairs_82 ?_
          refine tw_iconst (v := 1) C dX9_pairs_83 (by decide) ?_
          refine tw_iload (i := 5) (z := 5) C dX9_pairs_84 rfl ?_
          refine tw_ishl C dX9_pairs_86 ?_
          refine tw_ior C dX9_pairs_87 ?_
          refine tw_iconst (v := (-1)) C dX9_pairs_88 (by decide) ?_
          refine tw_ixor C dX9_pairs_89 ?_
          refine tw_iand C dX9_pairs_90 ?_
          obtain ⟨x6, ex21, eh21⟩ := bnd_ex hf19
          refine tw_topi ex21.symm ?_
          refine tw_istore (lv' := [(0, rv K (9, 0)), (1, .int a1), (2, .int a2), (3, .int x1), (4, .int x3), (5, .int x5), (6, .int x6)]) C [1, 2, 3, 4, 5, 6, 0] dX9_pairs_91 (by rw [hnL]; decide) rfl ?_
          refine tw_iload_n (i := 3) (z := 3) C dX9_pairs_93 rfl rfl ?_
          refine tw_iload (i := 5) (z := 5) C dX9_pairs_94 rfl ?_
          refine tw_ishr C dX9_pairs_96 ?_
          refine tw_iconst (v := 1) C dX9_pairs_97 (by decide) ?_
          refine tw_iand C dX9_pairs_98 ?_
          refine tw_iconst (v := 1) C dX9_pairs_99 (by decide) ?_
          obtain ⟨σ8, hx22, hq22⟩ := obi_some eh21
          have hJ22 : TW K 207 [(0, rv K (9, 0)), (1, .int a1), (2, .int a2), (3, .int x1), (4, .int x3), (5, .int x5)] [] σ8 := by
            obtain ⟨x9, ex43, eh43⟩ := bnd_ex hq22
            refine tw_iinc (z := 5) (v := x9) (lv' := [(0, rv K (9, 0)), (1, .int a1), (2, .int a2), (3, .int x1), (4, .int x3), (5, .int x9)]) C [1, 2, 3, 4, 5, 0] dX9_pairs_207 rfl ex43 (by rw [hnL]; decide) rfl ?_
            refine tw_goto (tgt := 69) C dX9_pairs_210 (by decide) ?_
            have hz := lp_c eh43 hk18
            exact hz
          refine tw_ic_ne (tgt := 207) C dX9_pairs_100 (by decide) (fun hc23 => ?_) (fun hc23 => ?_)
          · have ht23 := ite_f hc23 hx22
            refine tw_sub [0, 1, 2, 3, 4, 5] rfl ?_
            obtain rfl := (Option.some.inj ht23)
            exact hJ22
          · have hf23 := ite_t hc23 hx22
            refine tw_aload_n (i := 0) (z := 0) (r := (9, 0)) C dX9_pairs_103 rfl rfl ?_
            refine tw_getR (g := 48) (z := 0) (j' := 0) C fl_RX9_78 rfl (wcells_mem (f := 9) (j := 0) (by decide) (by decide)) rfl rfl dX9_pairs_104 ?_
            refine tw_bipush (v := 12) C dX9_pairs_107 (by decide) ?_
            refine tw_iload (i := 4) (z := 4) C dX9_pairs_109 rfl ?_
            refine tw_imul C dX9_pairs_111 ?_
            refine tw_iload (i := 5) (z := 5) C dX9_pairs_112 rfl ?_
            refine tw_iadd C dX9_pairs_114 ?_
            obtain ⟨hb24, eh24⟩ := grd_some hf23
            refine tw_iald (r := (48, 0)) C (ia_of rfl (by decide)) hb24 dX9_pairs_115 ?_
            refine tw_iload_n (i := 2) (z := 2) C dX9_pairs_116 rfl rfl ?_
            refine tw_ic_gt (tgt := 207) C dX9_pairs_117 (by decide) (fun hc25 => ?_) (fun hc25 => ?_)
            · have ht25 := ite_t hc25 eh24
              refine tw_sub [0, 1, 2, 3, 4, 5] rfl ?_
              obtain rfl := (Option.some.inj ht25)
              exact hJ22
            · have hf25 := ite_f hc25 eh24
              refine tw_aload_n (i := 0) (z := 0) (r := (9, 0)) C dX9_pairs_120 rfl rfl ?_
              refine tw_getR (g := 49) (z := 0) (j' := 0) C fl_RX9_81 rfl (wcells_mem (f := 9) (j := 0) (by decide) (by decide)) rfl rfl dX9_pairs_121 ?_
              refine tw_iload (i := 6) (z := 6) C dX9_pairs_124 rfl ?_
              obtain ⟨hb26, eh26⟩ := grd_some hf25
              refine tw_iald (r := (49, 0)) C (ia_of rfl (by decide)) hb26 dX9_pairs_126 ?_
              refine tw_if_le (tgt := 207) C dX9_pairs_127 (by decide) (fun hc27 => ?_) (fun hc27 => ?_)
              · have ht27 := ite_t hc27 eh26
                refine tw_sub [0, 1, 2, 3, 4, 5] rfl ?_
                obtain rfl := (Option.some.inj ht27)
                exact hJ22
              · have hf27 := ite_f hc27 eh26
                refine tw_aload_n (i := 0) (z := 0) (r := (9, 0)) C dX9_pairs_130 rfl rfl ?_
                refine tw_getR (g := 50) (z := 0) (j' := 0) C fl_RX9_84 rfl (wcells_mem (f := 9) (j := 0) (by decide) (by decide)) rfl rfl dX9_pairs_131 ?_
                refine tw_iload (i := 6) (z := 6) C dX9_pairs_134 rfl ?_
                obtain ⟨hb28, eh28⟩ := grd_some hf27
                refine tw_iald (r := (50, 0)) C (ia_of rfl (by decide)) hb28 dX9_pairs_136 ?_
                refine tw_aload_n (i := 0) (z := 0) (r := (9, 0)) C dX9_pairs_137 rfl rfl ?_
                refine tw_getR (g := 48) (z := 0) (j' := 0) C fl_RX9_78 rfl (wcells_mem (f := 9) (j := 0) (by decide) (by decide)) rfl rfl dX9_pairs_138 ?_
                refine tw_bipush (v := 12) C dX9_pairs_141 (by decide) ?_
                refine tw_iload (i := 4) (z := 4) C dX9_pairs_143 rfl ?_
                refine tw_imul C dX9_pairs_145 ?_
                refine tw_iload (i := 5) (z := 5) C dX9_pairs_146 rfl ?_
                refine tw_iadd C dX9_pairs_148 ?_
                obtain ⟨hb29, eh29⟩ := grd_some eh28
                refine tw_iald (r := (48, 0)) C (ia_of rfl (by decide)) hb29 dX9_pairs_149 ?_
                refine tw_iadd C dX9_pairs_150 ?_
                obtain ⟨x7, ex30, eh30⟩ := bnd_ex eh29
                refine tw_topi ex30.symm ?_
                refine tw_istore (lv' := [(0, rv K (9, 0)), (1, .int a1), (2, .int a2), (3, .int x1), (4, .int x3), (5, .int x5), (6, .int x6), (7, .int x7)]) C [1, 2, 3, 4, 5, 6, 7, 0] dX9_pairs_151 (by rw [hnL]; decide) rfl ?_
                refine tw_aload_n (i := 0) (z := 0) (r := (9, 0)) C dX9_pairs_153 rfl rfl ?_
                refine tw_getR (g := 49) (z := 0) (j' := 0) C fl_RX9_81 rfl (wcells_mem (f := 9) (j := 0) (by decide) (by decide)) rfl rfl dX9_pairs_154 ?_
                refine tw_iload_n (i := 3) (z := 3) C dX9_pairs_157 rfl rfl ?_
                refine tw_dup2 C dX9_pairs_158 rfl rfl ?_
                obtain ⟨hb31, eh31⟩ := grd_some eh30
                refine tw_iald (r := (49, 0)) C (ia_of rfl (by decide)) hb31 dX9_pairs_159 ?_
                refine tw_aload_n (i := 0) (z := 0) (r := (9, 0)) C dX9_pairs_160 rfl rfl ?_
                refine tw_getR (g := 49) (z := 0) (j' := 0) C fl_RX9_81 rfl (wcells_mem (f := 9) (j := 0) (by decide) (by decide)) rfl rfl dX9_pairs_161 ?_
                refine tw_iload (i := 6) (z := 6) C dX9_pairs_164 rfl ?_
                obtain ⟨hb32, eh32⟩ := grd_some eh31
                refine tw_iald (r := (49, 0)) C (ia_of rfl (by decide)) hb32 dX9_pairs_166 ?_
                refine tw_iadd C dX9_pairs_167 ?_
                obtain ⟨hb33, eh33⟩ := grd_some eh32
                obtain ⟨σ9, es34, eg34⟩ := bnd_ex eh33
                refine tw_iast (r := (49, 0)) C (wa_of rfl (by decide) (by decide)) hb33 dX9_pairs_168 ?_
                rw [es34]
                refine tw_aload_n (i := 0) (z := 0) (r := (9, 0)) C dX9_pairs_169 rfl rfl ?_
                refine tw_getR (g := 50) (z := 0) (j' := 0) C fl_RX9_84 rfl (wcells_mem (f := 9) (j := 0) (by decide) (by decide)) rfl rfl dX9_pairs_170 ?_
                refine tw_iload_n (i := 3) (z := 3) C dX9_pairs_173 rfl rfl ?_
                refine tw_aload_n (i := 0) (z := 0) (r := (9, 0)) C dX9_pairs_174 rfl rfl ?_
                refine tw_getR (g := 50) (z := 0) (j' := 0) C fl_RX9_84 rfl (wcells_mem (f := 9) (j := 0) (by decide) (by decide)) rfl rfl dX9_pairs_175 ?_
                refine tw_iload_n (i := 3) (z := 3) C dX9_pairs_178 rfl rfl ?_
                obtain ⟨hb35, eh35⟩ := grd_some eg34
                refine tw_iald (r := (50, 0)) C (ia_of rfl (by decide)) hb35 dX9_pairs_179 ?_
                refine tw_iconst (v := (-1)) C dX9_pairs_180 (by decide) ?_
                obtain ⟨x8, hx36, hq36⟩ := obi_some eh35
                have hJ36 : TW K 206 [(0, rv K (9, 0)), (1, .int a1), (2, .int a2), (3, .int x1), (4, .int x3), (5, .int x5)] [.int x8, .int x1, rv K (50, 0)] σ9 := by
                  obtain ⟨hb41, eh41⟩ := grd_some hq36
                  obtain ⟨σ10, es42, eg42⟩ := bnd_ex eh41
                  refine tw_iast (r := (50, 0)) C (wa_of rfl (by decide) (by decide)) hb41 dX9_pairs_206 ?_
                  rw [es42]
                  obtain rfl := (Option.some.inj eg42)
                  exact hJ22
                refine tw_ic_eq (tgt := 195) C dX9_pairs_181 (by decide) (fun hc37 => ?_) (fun hc37 => ?_)
                · have ht37 := ite_t hc37 hx36
                  refine tw_iload (i := 7) (z := 7) C dX9_pairs_195 rfl ?_
                  refine tw_goto (tgt := 206) C dX9_pairs_197 (by decide) ?_
                  refine tw_sub [0, 1, 2, 3, 4, 5] rfl ?_
                  obtain rfl := (Option.some.inj ht37)
                  exact hJ36
                · have hf37 := ite_f hc37 hx36
                  refine tw_iload (i := 7) (z := 7) C dX9_pairs_184 rfl ?_
                  refine tw_aload_n (i := 0) (z := 0) (r := (9, 0)) C dX9_pairs_186 rfl rfl ?_
                  refine tw_getR (g := 50) (z := 0) (j' := 0) C fl_RX9_84 rfl (wcells_mem (f := 9) (j := 0) (by decide) (by decide)) rfl rfl dX9_pairs_187 ?_
                  refine tw_iload_n (i := 3) (z := 3) C dX9_pairs_190 rfl rfl ?_
                  obtain ⟨hb38, eh38⟩ := grd_some hf37
                  refine tw_iald (r := (50, 0)) C (ia_of rfl (by decide)) hb38 dX9_pairs_191 ?_
                  refine tw_ic_ge (tgt := 200) C dX9_pairs_192 (by decide) (fun hc39 => ?_) (fun hc39 => ?_)
                  · have ht39 := ite_t hc39 eh38
                    refine tw_aload_n (i := 0) (z := 0) (r := (9, 0)) C dX9_pairs_200 rfl rfl ?_
                    refine tw_getR (g := 50) (z := 0) (j' := 0) C fl_RX9_84 rfl (wcells_mem (f := 9) (j := 0) (by decide) (by decide)) rfl rfl dX9_pairs_201 ?_
                    refine tw_iload_n (i := 3) (z := 3) C dX9_pairs_204 rfl rfl ?_
                    obtain ⟨hb40, eh40⟩ := grd_some ht39
                    refine tw_iald (r := (50, 0)) C (ia_of rfl (by decide)) hb40 dX9_pairs_205 ?_
                    refine tw_sub [0, 1, 2, 3, 4, 5] rfl ?_
                    obtain rfl := (Option.some.inj eh40)
                    exact hJ36
                  · have hf39 := ite_f hc39 eh38
                    refine tw_iload (i := 7) (z := 7) C dX9_pairs_195 rfl ?_
                    refine tw_goto (tgt := 206) C dX9_pairs_197 (by decide) ?_
                    refine tw_sub [0, 1, 2, 3, 4, 5] rfl ?_
                    obtain rfl := (Option.some.inj hf39)
                    exact hJ36

set_option maxRecDepth 20000 in
def fX9_isCup (σ : St) (a1 : Int32) (a2 : Int32) : Option (Bool) :=
  if (fX9_in a1 (1 : Int32) (((1 : Int32) <<< ((σ (9, 0) 28) &&& 31)) - (1 : Int32))) = true then
    obi (fX9_ones a1) (fun x1 =>
    if (irm x1 (2 : Int32)) = 0 then
      if (fX9_in a2 (0 : Int32) (99 : Int32)) = true then
        some true
      else
        some false
    else
      some false)
  else
    some false
set_option maxRecDepth 20000 in
set_option maxHeartbeats 4000000 in
theorem kX9_isCup (G : Gx) (d : Nat) (hdp : 2 ≤ d) (σ : St) (a1 : Int32) (a2 : Int32)  {v0 : Bool} (h : fX9_isCup σ a1 a2 = some v0) : MS G d yX9_isCup cX9_isCup 3 (some .boolean) [.ref (G.2.1 (9, 0)), .int a1, .int a2] σ (some (.int (b2i v0))) σ := by
  refine MS_of (by decide) (Nat.le_of_ble_eq_true rfl) rfl (fun K hG hnL C hR hK => ?_) (by omega)
  subst hG
  show TW K 0 [(0, rv K (9, 0)), (1, .int a1), (2, .int a2)] [] σ
  unfold fX9_isCup at h
  refine tw_iload_n (i := 1) (z := 1) C dX9_isCup_0 rfl rfl ?_
  refine tw_iconst (v := 1) C dX9_isCup_1 (by decide) ?_
  refine tw_iconst (v := 1) C dX9_isCup_2 (by decide) ?_
  refine tw_aload_n (i := 0) (z := 0) (r := (9, 0)) C dX9_isCup_3 rfl rfl ?_
  refine tw_getI C fl_RX9_278 rfl (wcells_mem (f := 9) (j := 0) (by decide) (by decide)) rfl dX9_isCup_4 ?_
  refine tw_ishl C dX9_isCup_7 ?_
  refine tw_iconst (v := 1) C dX9_isCup_8 (by decide) ?_
  refine tw_isub C dX9_isCup_9 ?_
  refine tw_callS (As := [.int a1, .int (1 : Int32), .int (((1 : Int32) <<< ((σ (9, 0) 28) &&& 31)) - (1 : Int32))]) (rest := []) C hR (kX9_in K.1 _ (by omega) σ a1 (1 : Int32) (((1 : Int32) <<< ((σ (9, 0) 28) &&& 31)) - (1 : Int32))  rfl) mi_X9_in st_X9_in ml_RX9_106 rfl rfl (Nat.le_of_ble_eq_true rfl) dX9_isCup_10 ?_
  show TW K 13 [(0, rv K (9, 0)), (1, .int a1), (2, .int a2)] [.int (b2i (fX9_in a1 (1 : Int32) (((1 : Int32) <<< ((σ (9, 0) 28) &&& 31)) - (1 : Int32))))] σ
  refine tw_if_eq (tgt := 39) C dX9_isCup_13 (by decide) (fun hc1 => ?_) (fun hc1 => ?_)
  · have ht1 := ite_f (b2i_z hc1) h
    refine tw_iconst (v := 0) C dX9_isCup_39 (by decide) ?_
    obtain rfl := (Option.some.inj ht1)
    exact tw_zret C hK rfl rfl rfl dX9_isCup_40
  · have hf1 := ite_t (b2i_nz hc1) h
    refine tw_iload_n (i := 1) (z := 1) C dX9_isCup_16 rfl rfl ?_
    obtain ⟨x1, hv2, eh2⟩ := obi_some hf1
    refine tw_callS (As := [.int a1]) (rest := []) C hR (kX9_ones K.1 _ (by omega) σ a1  hv2) mi_X9_ones st_X9_ones ml_RX9_296 rfl rfl (Nat.le_of_ble_eq_true rfl) dX9_isCup_17 ?_
    show TW K 20 [(0, rv K (9, 0)), (1, .int a1), (2, .int a2)] [.int x1] σ
    refine tw_iconst (v := 2) C dX9_isCup_20 (by decide) ?_
    refine tw_irem C dX9_isCup_21 (by decide) ?_
    refine tw_if_ne (tgt := 39) C dX9_isCup_22 (by decide) (fun hc3 => ?_) (fun hc3 => ?_)
    · have ht3 := ite_f hc3 eh2
      refine tw_iconst (v := 0) C dX9_isCup_39 (by decide) ?_
      obtain rfl := (Option.some.inj ht3)
      exact tw_zret C hK rfl rfl rfl dX9_isCup_40
    · have hf3 := ite_t hc3 eh2
      refine tw_iload_n (i := 2) (z := 2) C dX9_isCup_25 rfl rfl ?_
      refine tw_iconst (v := 0) C dX9_isCup_26 (by decide) ?_
      refine tw_bipush (v := 99) C dX9_isCup_27 (by decide) ?_
      refine tw_callS (As := [.int a2, .int (0 : Int32), .int (99 : Int32)]) (rest := []) C hR (kX9_in K.1 _ (by omega) σ a2 (0 : Int32) (99 : Int32)  rfl) mi_X9_in st_X9_in ml_RX9_106 rfl rfl (Nat.le_of_ble_eq_true rfl) dX9_isCup_29 ?_
      show TW K 32 [(0, rv K (9, 0)), (1, .int a1), (2, .int a2)] [.int (b2i (fX9_in a2 (0 : Int32) (99 : Int32)))] σ
      refine tw_if_eq (tgt := 39) C dX9_isCup_32 (by decide) (fun hc4 => ?_) (fun hc4 => ?_)
      · have ht4 := ite_f (b2i_z hc4) hf3
        refine tw_iconst (v := 0) C dX9_isCup_39 (by decide) ?_
        obtain rfl := (Option.some.inj ht4)
        exact tw_zret C hK rfl rfl rfl dX9_isCup_40
      · have hf4 := ite_t (b2i_nz hc4) hf3
        refine tw_iconst (v := 1) C dX9_isCup_35 (by decide) ?_
        refine tw_goto (tgt := 40) C dX9_isCup_36 (by decide) ?_
        obtain rfl := (Option.some.inj hf4)
        exact tw_zret C hK rfl rfl rfl dX9_isCup_40

set_option maxRecDepth 20000 in
def fX9_draws (σ : St) (a1 : Int32) (a2 : Int32) : Option (Int32 × St) :=
  obi (fX9_isCup σ a1 a2) (fun x1 =>
  if x1 = true then
    obi (fX9_pairs σ a1 a2) (fun σ1 =>
    grd (inb a1 4096) (
    some (σ1 (49, 0) (tn a1), σ1)))
  else
    some ((-2 : Int32), σ))
set_option maxRecDepth 20000 in
set_option maxHeartbeats 4000000 in
theorem kX9_draws (G : Gx) (d : Nat) (hdp : 3 ≤ d) (σ : St) (a1 : Int32) (a2 : Int32)  {v0 : Int32} {σ' : St} (h : fX9_draws σ a1 a2 = some (v0, σ')) : MS G d yX9_draws cX9_draws 3 (some .int) [.ref (G.2.1 (9, 0)), .int a1, .int a2] σ (some (.int v0)) σ' := by
  refine MS_of (by decide) (Nat.le_of_ble_eq_true rfl) rfl (fun K hG hnL C hR hK => ?_) (by omega)
  subst hG
  show TW K 0 [(0, rv K (9, 0)), (1, .int a1), (2, .int a2)] [] σ
  unfold fX9_draws at h
  refine tw_aload_n (i := 0) (z := 0) (r := (9, 0)) C dX9_draws_0 rfl rfl ?_
  refine tw_iload_n (i := 1) (z := 1) C dX9_draws_1 rfl rfl ?_
  refine tw_iload_n (i := 2) (z := 2) C dX9_draws_2 rfl rfl ?_
  obtain ⟨x1, hv1, eh1⟩ := obi_some h
  refine tw_callV (As := [.int a1, .int a2]) (rest := []) (r := (9, 0)) C hR (kX9_isCup K.1 _ (by omega) σ a1 a2  hv1) mi_X9_isCup is_X9_isCup se_X9_isCup ml_RX9_308 (wcells_mem (f := 9) (j := 0) (by decide) (by decide)) rfl rfl rfl rfl (Nat.le_of_ble_eq_true rfl) dX9_draws_3 ?_
  show TW K 6 [(0, rv K (9, 0)), (1, .int a1), (2, .int a2)] [.int (b2i x1)] σ
  refine tw_if_ne (tgt := 12) C dX9_draws_6 (by decide) (fun hc2 => ?_) (fun hc2 => ?_)
  · have ht2 := ite_t (b2i_nz hc2) eh1
    refine tw_aload_n (i := 0) (z := 0) (r := (9, 0)) C dX9_draws_12 rfl rfl ?_
    refine tw_iload_n (i := 1) (z := 1) C dX9_draws_13 rfl rfl ?_
    refine tw_iload_n (i := 2) (z := 2) C dX9_draws_14 rfl rfl ?_
    obtain ⟨σ1, hv3, eh3⟩ := obi_some ht2
    refine tw_callV (As := [.int a1, .int a2]) (rest := []) (r := (9, 0)) C hR (kX9_pairs K.1 _ (by omega) _ a1 a2  hv3) mi_X9_pairs is_X9_pairs se_X9_pairs ml_RX9_311 (wcells_mem (f := 9) (j := 0) (by decide) (by decide)) rfl rfl rfl rfl (Nat.le_of_ble_eq_true rfl) dX9_draws_15 ?_
    show TW K 18 [(0, rv K (9, 0)), (1, .int a1), (2, .int a2)] [] σ1
    refine tw_aload_n (i := 0) (z := 0) (r := (9, 0)) C dX9_draws_18 rfl rfl ?_
    refine tw_getR (g := 49) (z := 0) (j' := 0) C fl_RX9_81 rfl (wcells_mem (f := 9) (j := 0) (by decide) (by decide)) rfl rfl dX9_draws_19 ?_
    refine tw_iload_n (i := 1) (z := 1) C dX9_draws_22 rfl rfl ?_
    obtain ⟨hb4, eh4⟩ := grd_some eh3
    refine tw_iald (r := (49, 0)) C (ia_of rfl (by decide)) hb4 dX9_draws_23 ?_
    obtain ⟨rfl, rfl⟩ := pj2 (Option.some.inj eh4)
    exact tw_iret C hK rfl rfl dX9_draws_24
  · have hf2 := ite_f (b2i_z hc2) eh1
    refine tw_bipush (v := (-2)) C dX9_draws_9 (by decide) ?_
    obtain ⟨rfl, rfl⟩ := pj2 (Option.some.inj hf2)
    exact tw_iret C hK rfl rfl dX9_draws_11

