set_option maxRecDepth 20000 in
def fX9_digest (σ : St)  : Option (Int64 × St) :=
  obi (lpF (fun (q2 : Int64 × Int32) => match q2 with
  | (x2, x3) =>
  if (8 : Int32) ≤ x3 then
    some (.inr x2)
  else
    obi (fX9_count σ x3) (fun x4 =>
    bnd (((31 : Int64) * x2) + x4.toInt64) (fun x5 =>
    bnd (x3 + 1) (fun x6 =>
    some (.inl (x5, x6)))))) ((17 : Int64), (0 : Int32))) (fun x1 =>
  obi (lpF (fun (q9 : Int64 × Int32 × St) => match q9 with
  | (x8, x9, σ2) =>
  if (11 : Int32) ≤ x9 then
    some (.inr ((x8, σ2)))
  else
    obi (fX9_faultOf σ2 x9) (fun (x10, σ3) =>
    bnd (((31 : Int64) * x8) + x10.toInt64) (fun x11 =>
    bnd (x9 + 1) (fun x12 =>
    some (.inl (x11, x12, σ3)))))) (x1, (0 : Int32), σ)) (fun (x7, σ1) =>
  obi (lpF (fun (q16 : Int64 × Int32 × St) => match q16 with
  | (x14, x15, σ5) =>
  if (σ5 (9, 0) 15) ≤ x15 then
    some (.inr ((x14, σ5)))
  else
    obi (fX9_mix σ5 (0 : Int32) (0 : Int32) (0 : Int32)) (fun σ6 =>
    obi (fX9_plays σ6 x15) (fun σ7 =>
    obi (lpF (fun (q22 : Int64 × Int32) => match q22 with
    | (x17, x18) =>
    if (6 : Int32) ≤ x18 then
      some (.inr x17)
    else
      bnd (((31 : Int64) * x17) + ((fX9_toldOf σ7 x18).toInt64)) (fun x19 =>
      bnd (x18 + 1) (fun x20 =>
      some (.inl (x19, x20))))) (x14, (0 : Int32))) (fun x16 =>
    bnd (x15 + 1) (fun x21 =>
    some (.inl (x16, x21, σ7))))))) (x7, (0 : Int32), σ1)) (fun (x13, σ4) =>
  obi (lpF (fun (q29 : Int64 × Int32) => match q29 with
  | (x23, x24) =>
  if (σ4 (9, 0) 28) ≤ x24 then
    some (.inr x23)
  else
    grd (inb x24 12) (
    bnd (((31 : Int64) * x23) + ((σ4 (44, 0) (tn x24)).toInt64)) (fun x25 =>
    grd (inb x24 12) (
    bnd (((31 : Int64) * x25) + ((σ4 (45, 0) (tn x24)).toInt64)) (fun x26 =>
    bnd (x24 + 1) (fun x27 =>
    some (.inl (x26, x27)))))))) (x13, (0 : Int32))) (fun x22 =>
  obi (lpF (fun (q38 : Int64 × Int32) => match q38 with
  | (x29, x30) =>
  if (17 : Int32) ≤ x30 then
    some (.inr x29)
  else
    grd (inb x30 17) (
    bnd (((31 : Int64) * x29) + ((σ4 (47, 0) (tn x30)).toInt64)) (fun x31 =>
    bnd (x30 + 1) (fun x32 =>
    some (.inl (x31, x32)))))) (x22, (0 : Int32))) (fun x28 =>
  obi (fX9_fittingNow σ4) (fun (x33, σ8) =>
  bnd (((31 : Int64) * x28) + x33.toInt64) (fun x34 =>
  obi (fX9_partsOf σ8 (0 : Int32) (1 : Int32)) (fun (x35, σ9) =>
  some (((31 : Int64) * x34) + x35.toInt64, σ9)))))))))
set_option maxRecDepth 20000 in
set_option maxHeartbeats 4000000 in
theorem kX9_digest (G : Gx) (d : Nat) (hdp : 10 ≤ d) (σ : St)   {v0 : Int64} {σ' : St} (h : fX9_digest σ  = some (v0, σ')) : MS G d yX9_digest cX9_digest 5 (some .long) [.ref (G.2.1 (9, 0))] σ (some (.long v0)) σ' := by
  refine MS_of (by decide) (Nat.le_of_ble_eq_true rfl) rfl (fun K hG hnL C hR hK => ?_) (by omega)
  subst hG
  show TW K 0 [(0, rv K (9, 0))] [] σ
  unfold fX9_digest at h
  refine tw_ldc2 C cn_RX9_328 dX9_digest_0 ?_
  refine tw_lstore_n (lv' := [(0, rv K (9, 0)), (1, .long (17 : Int64))]) C [1, 0] dX9_digest_3 rfl (by rw [hnL]; decide) rfl ?_
  refine tw_iconst (v := 0) C dX9_digest_4 (by decide) ?_
  refine tw_istore_n (lv' := [(0, rv K (9, 0)), (1, .long (17 : Int64)), (3, .int (0 : Int32))]) C [1, 2, 0] dX9_digest_5 rfl (by rw [hnL]; decide) rfl ?_
  obtain ⟨x1, hx1, hq1⟩ := obi_some h
  have hJ1 : TW K 31 [(0, rv K (9, 0)), (1, .long x1)] [] σ := by
    refine tw_iconst (v := 0) C dX9_digest_31 (by decide) ?_
    refine tw_istore_n (lv' := [(0, rv K (9, 0)), (1, .long x1), (3, .int (0 : Int32))]) C [1, 2, 0] dX9_digest_32 rfl (by rw [hnL]; decide) rfl ?_
    obtain ⟨⟨x7, σ1⟩, hx8, hq8⟩ := obi_some hq1
    have hJ8 : TW K 58 [(0, rv K (9, 0)), (1, .long x7)] [] σ1 := by
      refine tw_iconst (v := 0) C dX9_digest_58 (by decide) ?_
      refine tw_istore_n (lv' := [(0, rv K (9, 0)), (1, .long x7), (3, .int (0 : Int32))]) C [1, 2, 0] dX9_digest_59 rfl (by rw [hnL]; decide) rfl ?_
      obtain ⟨⟨x13, σ4⟩, hx15, hq15⟩ := obi_some hq8
      have hJ15 : TW K 116 [(0, rv K (9, 0)), (1, .long x13)] [] σ4 := by
        refine tw_iconst (v := 0) C dX9_digest_116 (by decide) ?_
        refine tw_istore_n (lv' := [(0, rv K (9, 0)), (1, .long x13), (3, .int (0 : Int32))]) C [1, 2, 0] dX9_digest_117 rfl (by rw [hnL]; decide) rfl ?_
        obtain ⟨x22, hx28, hq28⟩ := obi_some hq15
        have hJ28 : TW K 160 [(0, rv K (9, 0)), (1, .long x22)] [] σ4 := by
          refine tw_iconst (v := 0) C dX9_digest_160 (by decide) ?_
          refine tw_istore_n (lv' := [(0, rv K (9, 0)), (1, .long x22), (3, .int (0 : Int32))]) C [1, 2, 0] dX9_digest_161 rfl (by rw [hnL]; decide) rfl ?_
          obtain ⟨x28, hx37, hq37⟩ := obi_some hq28
          have hJ37 : TW K 188 [(0, rv K (9, 0)), (1, .long x28)] [] σ4 := by
            refine tw_ldc2 C cn_RX9_330 dX9_digest_188 ?_
            refine tw_lload_n (i := 1) (z := 1) C dX9_digest_191 rfl rfl ?_
            refine tw_lmul C dX9_digest_192 ?_
            refine tw_aload_n (i := 0) (z := 0) (r := (9, 0)) C dX9_digest_193 rfl rfl ?_
            obtain ⟨⟨x33, σ8⟩, hv44, eh44⟩ := obi_some hq37
            refine tw_callV (As := []) (rest := [.long ((31 : Int64) * x28)]) (r := (9, 0)) C hR (kX9_fittingNow K.1 _ (by omega) _   hv44) mi_X9_fittingNow is_X9_fittingNow se_X9_fittingNow ml_RX9_248 (wcells_mem (f := 9) (j := 0) (by decide) (by decide)) rfl rfl rfl rfl (Nat.le_of_ble_eq_true rfl) dX9_digest_194 ?_
            show TW K 197 [(0, rv K (9, 0)), (1, .long x28)] [.int x33, .long ((31 : Int64) * x28)] σ8
            refine tw_i2l C dX9_digest_197 ?_
            refine tw_ladd C dX9_digest_198 ?_
            obtain ⟨x34, ex45, eh45⟩ := bnd_ex eh44
            refine tw_topl ex45.symm ?_
            refine tw_lstore_n (lv' := [(0, rv K (9, 0)), (1, .long x34)]) C [1, 0] dX9_digest_199 rfl (by rw [hnL]; decide) rfl ?_
            refine tw_ldc2 C cn_RX9_330 dX9_digest_200 ?_
            refine tw_lload_n (i := 1) (z := 1) C dX9_digest_203 rfl rfl ?_
            refine tw_lmul C dX9_digest_204 ?_
            refine tw_aload_n (i := 0) (z := 0) (r := (9, 0)) C dX9_digest_205 rfl rfl ?_
            refine tw_iconst (v := 0) C dX9_digest_206 (by decide) ?_
            refine tw_iconst (v := 1) C dX9_digest_207 (by decide) ?_
            obtain ⟨⟨x35, σ9⟩, hv46, eh46⟩ := obi_some eh45
            refine tw_callV (As := [.int (0 : Int32), .int (1 : Int32)]) (rest := [.long ((31 : Int64) * x34)]) (r := (9, 0)) C hR (kX9_partsOf K.1 _ (by omega) _ (0 : Int32) (1 : Int32)  hv46) mi_X9_partsOf is_X9_partsOf se_X9_partsOf ml_RX9_275 (wcells_mem (f := 9) (j := 0) (by decide) (by decide)) rfl rfl rfl rfl (Nat.le_of_ble_eq_true rfl) dX9_digest_208 ?_
            show TW K 211 [(0, rv K (9, 0)), (1, .long x34)] [.int x35, .long ((31 : Int64) * x34)] σ9
            refine tw_i2l C dX9_digest_211 ?_
            refine tw_ladd C dX9_digest_212 ?_
            obtain ⟨rfl, rfl⟩ := pj2 (Option.some.inj eh46)
            exact tw_lret C hK rfl rfl dX9_digest_213
          refine lpF_ct (G := fun (q : Int64 × Int32) => match q with | (x29, x30) => TW K 162 [(0, rv K (9, 0)), (1, .long x29), (3, .int x30)] [] σ4) ?_ hx37
          rintro ⟨x29, x30⟩ w38 hx38 hk38
          show TW K 162 [(0, rv K (9, 0)), (1, .long x29), (3, .int x30)] [] σ4
          refine tw_iload_n (i := 3) (z := 2) C dX9_digest_162 rfl rfl ?_
          refine tw_bipush (v := 17) C dX9_digest_163 (by decide) ?_
          refine tw_ic_ge (tgt := 188) C dX9_digest_165 (by decide) (fun hc39 => ?_) (fun hc39 => ?_)
          · have ht39 := ite_t hc39 hx38
            refine tw_sub [0, 1] rfl ?_
            have e40 := lp_x ht39 hk38
            obtain rfl := (Option.some.inj e40)
            exact hJ37
          · have hf39 := ite_f hc39 hx38
            refine tw_ldc2 C cn_RX9_330 dX9_digest_168 ?_
            refine tw_lload_n (i := 1) (z := 1) C dX9_digest_171 rfl rfl ?_
            refine tw_lmul C dX9_digest_172 ?_
            refine tw_aload_n (i := 0) (z := 0) (r := (9, 0)) C dX9_digest_173 rfl rfl ?_
            refine tw_getR (g := 47) (z := 0) (j' := 0) C fl_RX9_65 rfl (wcells_mem (f := 9) (j := 0) (by decide) (by decide)) rfl rfl dX9_digest_174 ?_
            refine tw_iload_n (i := 3) (z := 2) C dX9_digest_177 rfl rfl ?_
            obtain ⟨hb41, eh41⟩ := grd_some hf39
            refine tw_iald (r := (47, 0)) C (ia_of rfl (by decide)) hb41 dX9_digest_178 ?_
            refine tw_i2l C dX9_digest_179 ?_
            refine tw_ladd C dX9_digest_180 ?_
            obtain ⟨x31, ex42, eh42⟩ := bnd_ex eh41
            refine tw_topl ex42.symm ?_
            refine tw_lstore_n (lv' := [(0, rv K (9, 0)), (1, .long x31), (3, .int x30)]) C [1, 0, 2] dX9_digest_181 rfl (by rw [hnL]; decide) rfl ?_
            obtain ⟨x32, ex43, eh43⟩ := bnd_ex eh42
            refine tw_iinc (z := 2) (v := x32) (lv' := [(0, rv K (9, 0)), (1, .long x31), (3, .int x32)]) C [1, 2, 0] dX9_digest_182 rfl ex43 (by rw [hnL]; decide) rfl ?_
            refine tw_goto (tgt := 162) C dX9_digest_185 (by decide) ?_
            have hz := lp_c eh43 hk38
            exact hz
        refine lpF_ct (G := fun (q : Int64 × Int32) => match q with | (x23, x24) => TW K 118 [(0, rv K (9, 0)), (1, .long x23), (3, .int x24)] [] σ4) ?_ hx28
        rintro ⟨x23, x24⟩ w29 hx29 hk29
        show TW K 118 [(0, rv K (9, 0)), (1, .long x23), (3, .int x24)] [] σ4
        refine tw_iload_n (i := 3) (z := 2) C dX9_digest_118 rfl rfl ?_
        refine tw_aload_n (i := 0) (z := 0) (r := (9, 0)) C dX9_digest_119 rfl rfl ?_
        refine tw_getI C fl_RX9_278 rfl (wcells_mem (f := 9) (j := 0) (by decide) (by decide)) rfl dX9_digest_120 ?_
        refine tw_ic_ge (tgt := 160) C dX9_digest_123 (by decide) (fun hc30 => ?_) (fun hc30 => ?_)
        · have ht30 := ite_t hc30 hx29
          refine tw_sub [0, 1] rfl ?_
          have e31 := lp_x ht30 hk29
          obtain rfl := (Option.some.inj e31)
          exact hJ28
        · have hf30 := ite_f hc30 hx29
          refine tw_ldc2 C cn_RX9_330 dX9_digest_126 ?_
          refine tw_lload_n (i := 1) (z := 1) C dX9_digest_129 rfl rfl ?_
          refine tw_lmul C dX9_digest_130 ?_
          refine tw_aload_n (i := 0) (z := 0) (r := (9, 0)) C dX9_digest_131 rfl rfl ?_
          refine tw_getR (g := 44) (z := 0) (j' := 0) C fl_RX9_56 rfl (wcells_mem (f := 9) (j := 0) (by decide) (by decide)) rfl rfl dX9_digest_132 ?_
          refine tw_iload_n (i := 3) (z := 2) C dX9_digest_135 rfl rfl ?_
          obtain ⟨hb32, eh32⟩ := grd_some hf30
          refine tw_iald (r := (44, 0)) C (ia_of rfl (by decide)) hb32 dX9_digest_136 ?_
          refine tw_i2l C dX9_digest_137 ?_
          refine tw_ladd C dX9_digest_138 ?_
          obtain ⟨x25, ex33, eh33⟩ := bnd_ex eh32
          refine tw_topl ex33.symm ?_
          refine tw_lstore_n (lv' := [(0, rv K (9, 0)), (1, .long x25), (3, .int x24)]) C [1, 0, 2] dX9_digest_139 rfl (by rw [hnL]; decide) rfl ?_
          refine tw_ldc2 C cn_RX9_330 dX9_digest_140 ?_
          refine tw_lload_n (i := 1) (z := 1) C dX9_digest_143 rfl rfl ?_
          refine tw_lmul C dX9_digest_144 ?_
          refine tw_aload_n (i := 0) (z := 0) (r := (9, 0)) C dX9_digest_145 rfl rfl ?_
          refine tw_getR (g := 45) (z := 0) (j' := 0) C fl_RX9_59 rfl (wcells_mem (f := 9) (j := 0) (by decide) (by decide)) rfl rfl dX9_digest_146 ?_
          refine tw_iload_n (i := 3) (z := 2) C dX9_digest_149 rfl rfl ?_
          obtain ⟨hb34, eh34⟩ := grd_some eh33
          refine tw_iald (r := (45, 0)) C (ia_of rfl (by decide)) hb34 dX9_digest_150 ?_
          refine tw_i2l C dX9_digest_151 ?_
          refine tw_ladd C dX9_digest_152 ?_
          obtain ⟨x26, ex35, eh35⟩ := bnd_ex eh34
          refine tw_topl ex35.symm ?_
          refine tw_lstore_n (lv' := [(0, rv K (9, 0)), (1, .long x26), (3, .int x24)]) C [1, 0, 2] dX9_digest_153 rfl (by rw [hnL]; decide) rfl ?_
          obtain ⟨x27, ex36, eh36⟩ := bnd_ex eh35
          refine tw_iinc (z := 2) (v := x27) (lv' := [(0, rv K (9, 0)), (1, .long x26), (3, .int x27)]) C [1, 2, 0] dX9_digest_154 rfl ex36 (by rw [hnL]; decide) rfl ?_
          refine tw_goto (tgt := 118) C dX9_digest_157 (by decide) ?_
          have hz := lp_c eh36 hk29
          exact hz
      refine lpF_ct (G := fun (q : Int64 × Int32 × St) => match q with | (x14, x15, σ5) => TW K 60 [(0, rv K (9, 0)), (1, .long x14), (3, .int x15)] [] σ5) ?_ hx15
      rintro ⟨x14, x15, σ5⟩ w16 hx16 hk16
      show TW K 60 [(0, rv K (9, 0)), (1, .long x14), (3, .int x15)] [] σ5
      refine tw_iload_n (i := 3) (z := 2) C dX9_digest_60 rfl rfl ?_
      refine tw_aload_n (i := 0) (z := 0) (r := (9, 0)) C dX9_digest_61 rfl rfl ?_
      refine tw_getI C fl_RX9_193 rfl (wcells_mem (f := 9) (j := 0) (by decide) (by decide)) rfl dX9_digest_62 ?_
      refine tw_ic_ge (tgt := 116) C dX9_digest_65 (by decide) (fun hc17 => ?_) (fun hc17 => ?_)
      · have ht17 := ite_t hc17 hx16
        refine tw_sub [0, 1] rfl ?_
        have e18 := lp_x ht17 hk16
        obtain ⟨rfl, rfl⟩ := pj2 (Option.some.inj e18)
        exact hJ15
      · have hf17 := ite_f hc17 hx16
        refine tw_aload_n (i := 0) (z := 0) (r := (9, 0)) C dX9_digest_68 rfl rfl ?_
        refine tw_iconst (v := 0) C dX9_digest_69 (by decide) ?_
        refine tw_iconst (v := 0) C dX9_digest_70 (by decide) ?_
        refine tw_iconst (v := 0) C dX9_digest_71 (by decide) ?_
        obtain ⟨σ6, hv19, eh19⟩ := obi_some hf17
        refine tw_callV (As := [.int (0 : Int32), .int (0 : Int32), .int (0 : Int32)]) (rest := []) (r := (9, 0)) C hR (kX9_mix K.1 _ (by omega) _ (0 : Int32) (0 : Int32) (0 : Int32)  hv19) mi_X9_mix is_X9_mix se_X9_mix ml_RX9_233 (wcells_mem (f := 9) (j := 0) (by decide) (by decide)) rfl rfl rfl rfl (Nat.le_of_ble_eq_true rfl) dX9_digest_72 ?_
        show TW K 75 [(0, rv K (9, 0)), (1, .long x14), (3, .int x15)] [] σ6
        refine tw_aload_n (i := 0) (z := 0) (r := (9, 0)) C dX9_digest_75 rfl rfl ?_
        refine tw_iload_n (i := 3) (z := 2) C dX9_digest_76 rfl rfl ?_
        obtain ⟨σ7, hv20, eh20⟩ := obi_some eh19
        refine tw_callV (As := [.int x15]) (rest := []) (r := (9, 0)) C hR (kX9_plays K.1 _ (by omega) _ x15  hv20) mi_X9_plays is_X9_plays se_X9_plays ml_RX9_236 (wcells_mem (f := 9) (j := 0) (by decide) (by decide)) rfl rfl rfl rfl (Nat.le_of_ble_eq_true rfl) dX9_digest_77 ?_
        show TW K 80 [(0, rv K (9, 0)), (1, .long x14), (3, .int x15)] [] σ7
        refine tw_iconst (v := 0) C dX9_digest_80 (by decide) ?_
        refine tw_istore (lv' := [(0, rv K (9, 0)), (1, .long x14), (3, .int x15), (4, .int (0 : Int32))]) C [1, 2, 3, 0] dX9_digest_81 (by rw [hnL]; decide) rfl ?_
        obtain ⟨x16, hx21, hq21⟩ := obi_some eh20
        have hJ21 : TW K 110 [(0, rv K (9, 0)), (1, .long x16), (3, .int x15)] [] σ7 := by
          obtain ⟨x21, ex27, eh27⟩ := bnd_ex hq21
          refine tw_iinc (z := 2) (v := x21) (lv' := [(0, rv K (9, 0)), (1, .long x16), (3, .int x21)]) C [1, 2, 0] dX9_digest_110 rfl ex27 (by rw [hnL]; decide) rfl ?_
          refine tw_goto (tgt := 60) C dX9_digest_113 (by decide) ?_
          have hz := lp_c eh27 hk16
          exact hz
        refine lpF_ct (G := fun (q : Int64 × Int32) => match q with | (x17, x18) => TW K 83 [(0, rv K (9, 0)), (1, .long x17), (3, .int x15), (4, .int x18)] [] σ7) ?_ hx21
        rintro ⟨x17, x18⟩ w22 hx22 hk22
        show TW K 83 [(0, rv K (9, 0)), (1, .long x17), (3, .int x15), (4, .int x18)] [] σ7
        refine tw_iload (i := 4) (z := 3) C dX9_digest_83 rfl ?_
        refine tw_bipush (v := 6) C dX9_digest_85 (by decide) ?_
        refine tw_ic_ge (tgt := 110) C dX9_digest_87 (by decide) (fun hc23 => ?_) (fun hc23 => ?_)
        · have ht23 := ite_t hc23 hx22
          refine tw_sub [0, 1, 2] rfl ?_
          have e24 := lp_x ht23 hk22
          obtain rfl := (Option.some.inj e24)
          exact hJ21
        · have hf23 := ite_f hc23 hx22
          refine tw_ldc2 C cn_RX9_330 dX9_digest_90 ?_
          refine tw_lload_n (i := 1) (z := 1) C dX9_digest_93 rfl rfl ?_
          refine tw_lmul C dX9_digest_94 ?_
          refine tw_aload_n (i := 0) (z := 0) (r := (9, 0)) C dX9_digest_95 rfl rfl ?_
          refine tw_iload (i := 4) (z := 3) C dX9_digest_96 rfl ?_
          refine tw_callV (As := [.int x18]) (rest := [.long ((31 : Int64) * x17)]) (r := (9, 0)) C hR (kX9_toldOf K.1 _ (by omega) σ7 x18  rfl) mi_X9_toldOf is_X9_toldOf se_X9_toldOf ml_RX9_239 (wcells_mem (f := 9) (j := 0) (by decide) (by decide)) rfl rfl rfl rfl (Nat.le_of_ble_eq_true rfl) dX9_digest_98 ?_
          show TW K 101 [(0, rv K (9, 0)), (1, .long x17), (3, .int x15), (4, .int x18)] [.int (fX9_toldOf σ7 x18), .long ((31 : Int64) * x17)] σ7
          refine tw_i2l C dX9_digest_101 ?_
          refine tw_ladd C dX9_digest_102 ?_
          obtain ⟨x19, ex25, eh25⟩ := bnd_ex hf23
          refine tw_topl ex25.symm ?_
          refine tw_lstore_n (lv' := [(0, rv K (9, 0)), (1, .long x19), (3, .int x15), (4, .int x18)]) C [1, 0, 2, 3] dX9_digest_103 rfl (by rw [hnL]; decide) rfl ?_
          obtain ⟨x20, ex26, eh26⟩ := bnd_ex eh25
          refine tw_iinc (z := 3) (v := x20) (lv' := [(0, rv K (9, 0)), (1, .long x19), (3, .int x15), (4, .int x20)]) C [1, 2, 3, 0] dX9_digest_104 rfl ex26 (by rw [hnL]; decide) rfl ?_
          refine tw_goto (tgt := 83) C dX9_digest_107 (by decide) ?_
          have hz := lp_c eh26 hk22
          exact hz
    refine lpF_ct (G := fun (q : Int64 × Int32 × St) => match q with | (x8, x9, σ2) => TW K 33 [(0, rv K (9, 0)), (1, .long x8), (3, .int x9)] [] σ2) ?_ hx8
    rintro ⟨x8, x9, σ2⟩ w9 hx9 hk9
    show TW K 33 [(0, rv K (9, 0)), (1, .long x8), (3, .int x9)] [] σ2
    refine tw_iload_n (i := 3) (z := 2) C dX9_digest_33 rfl rfl ?_
    refine tw_bipush (v := 11) C dX9_digest_34 (by decide) ?_
    refine tw_ic_ge (tgt := 58) C dX9_digest_36 (by decide) (fun hc10 => ?_) (fun hc10 => ?_)
    · have ht10 := ite_t hc10 hx9
      refine tw_sub [0, 1] rfl ?_
      have e11 := lp_x ht10 hk9
      obtain ⟨rfl, rfl⟩ := pj2 (Option.some.inj e11)
      exact hJ8
    · have hf10 := ite_f hc10 hx9
      refine tw_ldc2 C cn_RX9_330 dX9_digest_39 ?_
      refine tw_lload_n (i := 1) (z := 1) C dX9_digest_42 rfl rfl ?_
      refine tw_lmul C dX9_digest_43 ?_
      refine tw_aload_n (i := 0) (z := 0) (r := (9, 0)) C dX9_digest_44 rfl rfl ?_
      refine tw_iload_n (i := 3) (z := 2) C dX9_digest_45 rfl rfl ?_
      obtain ⟨⟨x10, σ3⟩, hv12, eh12⟩ := obi_some hf10
      refine tw_callV (As := [.int x9]) (rest := [.long ((31 : Int64) * x8)]) (r := (9, 0)) C hR (kX9_faultOf K.1 _ (by omega) _ x9  hv12) mi_X9_faultOf is_X9_faultOf se_X9_faultOf ml_RX9_144 (wcells_mem (f := 9) (j := 0) (by decide) (by decide)) rfl rfl rfl rfl (Nat.le_of_ble_eq_true rfl) dX9_digest_46 ?_
      show TW K 49 [(0, rv K (9, 0)), (1, .long x8), (3, .int x9)] [.int x10, .long ((31 : Int64) * x8)] σ3
      refine tw_i2l C dX9_digest_49 ?_
      refine tw_ladd C dX9_digest_50 ?_
      obtain ⟨x11, ex13, eh13⟩ := bnd_ex eh12
      refine tw_topl ex13.symm ?_
      refine tw_lstore_n (lv' := [(0, rv K (9, 0)), (1, .long x11), (3, .int x9)]) C [1, 0, 2] dX9_digest_51 rfl (by rw [hnL]; decide) rfl ?_
      obtain ⟨x12, ex14, eh14⟩ := bnd_ex eh13
      refine tw_iinc (z := 2) (v := x12) (lv' := [(0, rv K (9, 0)), (1, .long x11), (3, .int x12)]) C [1, 2, 0] dX9_digest_52 rfl ex14 (by rw [hnL]; decide) rfl ?_
      refine tw_goto (tgt := 33) C dX9_digest_55 (by decide) ?_
      have hz := lp_c eh14 hk9
      exact hz
  refine lpF_ct (G := fun (q : Int64 × Int32) => match q with | (x2, x3) => TW K 6 [(0, rv K (9, 0)), (1, .long x2), (3, .int x3)] [] σ) ?_ hx1
  rintro ⟨x2, x3⟩ w2 hx2 hk2
  show TW K 6 [(0, rv K (9, 0)), (1, .long x2), (3, .int x3)] [] σ
  refine tw_iload_n (i := 3) (z := 2) C dX9_digest_6 rfl rfl ?_
  refine tw_bipush (v := 8) C dX9_digest_7 (by decide) ?_
  refine tw_ic_ge (tgt := 31) C dX9_digest_9 (by decide) (fun hc3 => ?_) (fun hc3 => ?_)
  · have ht3 := ite_t hc3 hx2
    refine tw_sub [0, 1] rfl ?_
    have e4 := lp_x ht3 hk2
    obtain rfl := (Option.some.inj e4)
    exact hJ1
  · have hf3 := ite_f hc3 hx2
    refine tw_ldc2 C cn_RX9_330 dX9_digest_12 ?_
    refine tw_lload_n (i := 1) (z := 1) C dX9_digest_15 rfl rfl ?_
    refine tw_lmul C dX9_digest_16 ?_
    refine tw_aload_n (i := 0) (z := 0) (r := (9, 0)) C dX9_digest_17 rfl rfl ?_
    refine tw_iload_n (i := 3) (z := 2) C dX9_digest_18 rfl rfl ?_
    obtain ⟨x4, hv5, eh5⟩ := obi_some hf3
    refine tw_callV (As := [.int x3]) (rest := [.long ((31 : Int64) * x2)]) (r := (9, 0)) C hR (kX9_count K.1 _ (by omega) σ x3  hv5) mi_X9_count is_X9_count se_X9_count ml_RX9_332 (wcells_mem (f := 9) (j := 0) (by decide) (by decide)) rfl rfl rfl rfl (Nat.le_of_ble_eq_true rfl) dX9_digest_19 ?_
    show TW K 22 [(0, rv K (9, 0)), (1, .long x2), (3, .int x3)] [.int x4, .long ((31 : Int64) * x2)] σ
    refine tw_i2l C dX9_digest_22 ?_
    refine tw_ladd C dX9_digest_23 ?_
    obtain ⟨x5, ex6, eh6⟩ := bnd_ex eh5
    refine tw_topl ex6.symm ?_
    refine tw_lstore_n (lv' := [(0, rv K (9, 0)), (1, .long x5), (3, .int x3)]) C [1, 0, 2] dX9_digest_24 rfl (by rw [hnL]; decide) rfl ?_
    obtain ⟨x6, ex7, eh7⟩ := bnd_ex eh6
    refine tw_iinc (z := 2) (v := x6) (lv' := [(0, rv K (9, 0)), (1, .long x5), (3, .int x6)]) C [1, 2, 0] dX9_digest_25 rfl ex7 (by rw [hnL]; decide) rfl ?_
    refine tw_goto (tgt := 6) C dX9_digest_28 (by decide) ?_
    have hz := lp_c eh7 hk2
    exact hz

