set_option maxRecDepth 20000 in
def fX8_digest (σ : St)  : Option (Int64 × St) :=
  obi (lpF (fun (q2 : Int64 × Int32) => match q2 with
  | (x2, x3) =>
  if (7 : Int32) < x3 then
    some (.inr x2)
  else
    obi (fX8_count σ x3) (fun x4 =>
    bnd (((31 : Int64) * x2) + x4.toInt64) (fun x5 =>
    bnd (x3 + 1) (fun x6 =>
    some (.inl (x5, x6)))))) ((17 : Int64), (0 : Int32))) (fun x1 =>
  obi (lpF (fun (q9 : Int64 × Int32) => match q9 with
  | (x8, x9) =>
  if (11 : Int32) ≤ x9 then
    some (.inr x8)
  else
    grd (inb x9 11) (
    bnd (((31 : Int64) * x8) + ((σ (1, (tn x9)) 4).toInt64)) (fun x10 =>
    bnd (x9 + 1) (fun x11 =>
    some (.inl (x10, x11)))))) (x1, (0 : Int32))) (fun x7 =>
  obi (lpF (fun (q16 : Int64 × Int32 × St) => match q16 with
  | (x13, x14, σ2) =>
  if (σ2 (8, 0) 10) ≤ x14 then
    some (.inr ((x13, σ2)))
  else
    grd (inb x14 12) (
    obi (fX3_playUnder σ2 (tn x14) (11, (tn (0 : Int32))) 0) (fun σ3 =>
    obi (lpF (fun (q22 : Int64 × Int32) => match q22 with
    | (x16, x17) =>
    if (5 : Int32) < x17 then
      some (.inr x16)
    else
      bnd (((31 : Int64) * x16) + ((fX4_answer σ3 0 x17).toInt64)) (fun x18 =>
      bnd (x17 + 1) (fun x19 =>
      some (.inl (x18, x19))))) (x13, (0 : Int32))) (fun x15 =>
    bnd (x14 + 1) (fun x20 =>
    some (.inl (x15, x20, σ3))))))) (x7, (0 : Int32), σ)) (fun (x12, σ1) =>
  obi (lpF (fun (q29 : Int64 × Int32) => match q29 with
  | (x22, x23) =>
  if (σ1 (8, 0) 11) ≤ x23 then
    some (.inr x22)
  else
    grd (inb x23 12) (
    bnd (((31 : Int64) * x22) + ((σ1 (0, (tn x23)) 0).toInt64)) (fun x24 =>
    grd (inb x23 12) (
    bnd (((31 : Int64) * x24) + ((σ1 (0, (tn x23)) 1).toInt64)) (fun x25 =>
    bnd (x23 + 1) (fun x26 =>
    some (.inl (x25, x26)))))))) (x12, (0 : Int32))) (fun x21 =>
  obi (lpF (fun (q38 : Int64 × Int32) => match q38 with
  | (x28, x29) =>
  if (17 : Int32) ≤ x29 then
    some (.inr x28)
  else
    grd (inb x29 17) (
    bnd (((31 : Int64) * x28) + ((σ1 (27, 0) (tn x29)).toInt64)) (fun x30 =>
    bnd (x29 + 1) (fun x31 =>
    some (.inl (x30, x31)))))) (x21, (0 : Int32))) (fun x27 =>
  obi (fX8_fitting σ1) (fun (x32, σ4) =>
  bnd (((31 : Int64) * x27) + x32.toInt64) (fun x33 =>
  obi (fX8_parts σ4 (0 : Int32) (1 : Int32)) (fun (x34, σ5) =>
  some (((31 : Int64) * x33) + x34.toInt64, σ5)))))))))
set_option maxRecDepth 20000 in
set_option maxHeartbeats 4000000 in
theorem kX8_digest (G : Gx) (d : Nat) (hdp : 7 ≤ d) (σ : St)   {v0 : Int64} {σ' : St} (h : fX8_digest σ  = some (v0, σ')) : MS G d yX8_digest cX8_digest 5 (some .long) [.ref (G.2.1 (8, 0))] σ (some (.long v0)) σ' := by
  refine MS_of (by decide) (Nat.le_of_ble_eq_true rfl) rfl (fun K hG hnL C hR hK => ?_) (by omega)
  subst hG
  show TW K 0 [(0, rv K (8, 0))] [] σ
  unfold fX8_digest at h
  refine tw_ldc2 C cn_RX8_336 dX8_digest_0 ?_
  refine tw_lstore_n (lv' := [(0, rv K (8, 0)), (1, .long (17 : Int64))]) C [1, 0] dX8_digest_3 rfl (by rw [hnL]; decide) rfl ?_
  refine tw_iconst (v := 0) C dX8_digest_4 (by decide) ?_
  refine tw_istore_n (lv' := [(0, rv K (8, 0)), (1, .long (17 : Int64)), (3, .int (0 : Int32))]) C [1, 2, 0] dX8_digest_5 rfl (by rw [hnL]; decide) rfl ?_
  obtain ⟨x1, hx1, hq1⟩ := obi_some h
  have hJ1 : TW K 31 [(0, rv K (8, 0)), (1, .long x1)] [] σ := by
    refine tw_iconst (v := 0) C dX8_digest_31 (by decide) ?_
    refine tw_istore_n (lv' := [(0, rv K (8, 0)), (1, .long x1), (3, .int (0 : Int32))]) C [1, 2, 0] dX8_digest_32 rfl (by rw [hnL]; decide) rfl ?_
    obtain ⟨x7, hx8, hq8⟩ := obi_some hq1
    have hJ8 : TW K 62 [(0, rv K (8, 0)), (1, .long x7)] [] σ := by
      refine tw_iconst (v := 0) C dX8_digest_62 (by decide) ?_
      refine tw_istore_n (lv' := [(0, rv K (8, 0)), (1, .long x7), (3, .int (0 : Int32))]) C [1, 2, 0] dX8_digest_63 rfl (by rw [hnL]; decide) rfl ?_
      obtain ⟨⟨x12, σ1⟩, hx15, hq15⟩ := obi_some hq8
      have hJ15 : TW K 132 [(0, rv K (8, 0)), (1, .long x12)] [] σ1 := by
        refine tw_iconst (v := 0) C dX8_digest_132 (by decide) ?_
        refine tw_istore_n (lv' := [(0, rv K (8, 0)), (1, .long x12), (3, .int (0 : Int32))]) C [1, 2, 0] dX8_digest_133 rfl (by rw [hnL]; decide) rfl ?_
        obtain ⟨x21, hx28, hq28⟩ := obi_some hq15
        have hJ28 : TW K 182 [(0, rv K (8, 0)), (1, .long x21)] [] σ1 := by
          refine tw_iconst (v := 0) C dX8_digest_182 (by decide) ?_
          refine tw_istore_n (lv' := [(0, rv K (8, 0)), (1, .long x21), (3, .int (0 : Int32))]) C [1, 2, 0] dX8_digest_183 rfl (by rw [hnL]; decide) rfl ?_
          obtain ⟨x27, hx37, hq37⟩ := obi_some hq28
          have hJ37 : TW K 210 [(0, rv K (8, 0)), (1, .long x27)] [] σ1 := by
            refine tw_ldc2 C cn_RX8_338 dX8_digest_210 ?_
            refine tw_lload_n (i := 1) (z := 1) C dX8_digest_213 rfl rfl ?_
            refine tw_lmul C dX8_digest_214 ?_
            refine tw_aload_n (i := 0) (z := 0) (r := (8, 0)) C dX8_digest_215 rfl rfl ?_
            obtain ⟨⟨x32, σ4⟩, hv44, eh44⟩ := obi_some hq37
            refine tw_callV (As := []) (rest := [.long ((31 : Int64) * x27)]) (r := (8, 0)) C hR (kX8_fitting K.1 _ (by omega) _   hv44) mi_X8_fitting is_X8_fitting se_X8_fitting ml_RX8_343 (wcells_mem (f := 8) (j := 0) (by decide) (by decide)) rfl rfl rfl rfl (Nat.le_of_ble_eq_true rfl) dX8_digest_216 ?_
            show TW K 219 [(0, rv K (8, 0)), (1, .long x27)] [.int x32, .long ((31 : Int64) * x27)] σ4
            refine tw_i2l C dX8_digest_219 ?_
            refine tw_ladd C dX8_digest_220 ?_
            obtain ⟨x33, ex45, eh45⟩ := bnd_ex eh44
            refine tw_topl ex45.symm ?_
            refine tw_lstore_n (lv' := [(0, rv K (8, 0)), (1, .long x33)]) C [1, 0] dX8_digest_221 rfl (by rw [hnL]; decide) rfl ?_
            refine tw_ldc2 C cn_RX8_338 dX8_digest_222 ?_
            refine tw_lload_n (i := 1) (z := 1) C dX8_digest_225 rfl rfl ?_
            refine tw_lmul C dX8_digest_226 ?_
            refine tw_aload_n (i := 0) (z := 0) (r := (8, 0)) C dX8_digest_227 rfl rfl ?_
            refine tw_iconst (v := 0) C dX8_digest_228 (by decide) ?_
            refine tw_iconst (v := 1) C dX8_digest_229 (by decide) ?_
            obtain ⟨⟨x34, σ5⟩, hv46, eh46⟩ := obi_some eh45
            refine tw_callV (As := [.int (0 : Int32), .int (1 : Int32)]) (rest := [.long ((31 : Int64) * x33)]) (r := (8, 0)) C hR (kX8_parts K.1 _ (by omega) _ (0 : Int32) (1 : Int32)  hv46) mi_X8_parts is_X8_parts se_X8_parts ml_RX8_346 (wcells_mem (f := 8) (j := 0) (by decide) (by decide)) rfl rfl rfl rfl (Nat.le_of_ble_eq_true rfl) dX8_digest_230 ?_
            show TW K 233 [(0, rv K (8, 0)), (1, .long x33)] [.int x34, .long ((31 : Int64) * x33)] σ5
            refine tw_i2l C dX8_digest_233 ?_
            refine tw_ladd C dX8_digest_234 ?_
            obtain ⟨rfl, rfl⟩ := pj2 (Option.some.inj eh46)
            exact tw_lret C hK rfl rfl dX8_digest_235
          refine lpF_ct (G := fun (q : Int64 × Int32) => match q with | (x28, x29) => TW K 184 [(0, rv K (8, 0)), (1, .long x28), (3, .int x29)] [] σ1) ?_ hx37
          rintro ⟨x28, x29⟩ w38 hx38 hk38
          show TW K 184 [(0, rv K (8, 0)), (1, .long x28), (3, .int x29)] [] σ1
          refine tw_iload_n (i := 3) (z := 2) C dX8_digest_184 rfl rfl ?_
          refine tw_bipush (v := 17) C dX8_digest_185 (by decide) ?_
          refine tw_ic_ge (tgt := 210) C dX8_digest_187 (by decide) (fun hc39 => ?_) (fun hc39 => ?_)
          · have ht39 := ite_t hc39 hx38
            refine tw_sub [0, 1] rfl ?_
            have e40 := lp_x ht39 hk38
            obtain rfl := (Option.some.inj e40)
            exact hJ37
          · have hf39 := ite_f hc39 hx38
            refine tw_ldc2 C cn_RX8_338 dX8_digest_190 ?_
            refine tw_lload_n (i := 1) (z := 1) C dX8_digest_193 rfl rfl ?_
            refine tw_lmul C dX8_digest_194 ?_
            refine tw_aload_n (i := 0) (z := 0) (r := (8, 0)) C dX8_digest_195 rfl rfl ?_
            refine tw_getR (g := 27) (z := 0) (j' := 0) C fl_RX8_42 rfl (wcells_mem (f := 8) (j := 0) (by decide) (by decide)) rfl rfl dX8_digest_196 ?_
            refine tw_iload_n (i := 3) (z := 2) C dX8_digest_199 rfl rfl ?_
            obtain ⟨hb41, eh41⟩ := grd_some hf39
            refine tw_iald (r := (27, 0)) C (ia_of rfl (by decide)) hb41 dX8_digest_200 ?_
            refine tw_i2l C dX8_digest_201 ?_
            refine tw_ladd C dX8_digest_202 ?_
            obtain ⟨x30, ex42, eh42⟩ := bnd_ex eh41
            refine tw_topl ex42.symm ?_
            refine tw_lstore_n (lv' := [(0, rv K (8, 0)), (1, .long x30), (3, .int x29)]) C [1, 0, 2] dX8_digest_203 rfl (by rw [hnL]; decide) rfl ?_
            obtain ⟨x31, ex43, eh43⟩ := bnd_ex eh42
            refine tw_iinc (z := 2) (v := x31) (lv' := [(0, rv K (8, 0)), (1, .long x30), (3, .int x31)]) C [1, 2, 0] dX8_digest_204 rfl ex43 (by rw [hnL]; decide) rfl ?_
            refine tw_goto (tgt := 184) C dX8_digest_207 (by decide) ?_
            have hz := lp_c eh43 hk38
            exact hz
        refine lpF_ct (G := fun (q : Int64 × Int32) => match q with | (x22, x23) => TW K 134 [(0, rv K (8, 0)), (1, .long x22), (3, .int x23)] [] σ1) ?_ hx28
        rintro ⟨x22, x23⟩ w29 hx29 hk29
        show TW K 134 [(0, rv K (8, 0)), (1, .long x22), (3, .int x23)] [] σ1
        refine tw_iload_n (i := 3) (z := 2) C dX8_digest_134 rfl rfl ?_
        refine tw_aload_n (i := 0) (z := 0) (r := (8, 0)) C dX8_digest_135 rfl rfl ?_
        refine tw_getI C fl_RX8_205 rfl (wcells_mem (f := 8) (j := 0) (by decide) (by decide)) rfl dX8_digest_136 ?_
        refine tw_ic_ge (tgt := 182) C dX8_digest_139 (by decide) (fun hc30 => ?_) (fun hc30 => ?_)
        · have ht30 := ite_t hc30 hx29
          refine tw_sub [0, 1] rfl ?_
          have e31 := lp_x ht30 hk29
          obtain rfl := (Option.some.inj e31)
          exact hJ28
        · have hf30 := ite_f hc30 hx29
          refine tw_ldc2 C cn_RX8_338 dX8_digest_142 ?_
          refine tw_lload_n (i := 1) (z := 1) C dX8_digest_145 rfl rfl ?_
          refine tw_lmul C dX8_digest_146 ?_
          refine tw_aload_n (i := 0) (z := 0) (r := (8, 0)) C dX8_digest_147 rfl rfl ?_
          refine tw_getR (g := 25) (z := 0) (j' := 0) C fl_RX8_23 rfl (wcells_mem (f := 8) (j := 0) (by decide) (by decide)) rfl rfl dX8_digest_148 ?_
          refine tw_iload_n (i := 3) (z := 2) C dX8_digest_151 rfl rfl ?_
          obtain ⟨hb32, eh32⟩ := grd_some hf30
          refine tw_aald (g := 0) C rfl 5 "ElevenCodes$Club" (fun _ => rfl) (by decide) (by decide) (wcells_mem (f := 25) (j := 0) (by decide) (by decide)) hb32 dX8_digest_152 ?_
          refine tw_getI C fl_RX8_208 rfl (wcells_mem (f := 0) (j := (tn x23)) (by decide) (inb_lt hb32)) rfl dX8_digest_153 ?_
          refine tw_i2l C dX8_digest_156 ?_
          refine tw_ladd C dX8_digest_157 ?_
          obtain ⟨x24, ex33, eh33⟩ := bnd_ex eh32
          refine tw_topl ex33.symm ?_
          refine tw_lstore_n (lv' := [(0, rv K (8, 0)), (1, .long x24), (3, .int x23)]) C [1, 0, 2] dX8_digest_158 rfl (by rw [hnL]; decide) rfl ?_
          refine tw_ldc2 C cn_RX8_338 dX8_digest_159 ?_
          refine tw_lload_n (i := 1) (z := 1) C dX8_digest_162 rfl rfl ?_
          refine tw_lmul C dX8_digest_163 ?_
          refine tw_aload_n (i := 0) (z := 0) (r := (8, 0)) C dX8_digest_164 rfl rfl ?_
          refine tw_getR (g := 25) (z := 0) (j' := 0) C fl_RX8_23 rfl (wcells_mem (f := 8) (j := 0) (by decide) (by decide)) rfl rfl dX8_digest_165 ?_
          refine tw_iload_n (i := 3) (z := 2) C dX8_digest_168 rfl rfl ?_
          obtain ⟨hb34, eh34⟩ := grd_some eh33
          refine tw_aald (g := 0) C rfl 5 "ElevenCodes$Club" (fun _ => rfl) (by decide) (by decide) (wcells_mem (f := 25) (j := 0) (by decide) (by decide)) hb34 dX8_digest_169 ?_
          refine tw_getI C fl_RX8_211 rfl (wcells_mem (f := 0) (j := (tn x23)) (by decide) (inb_lt hb34)) rfl dX8_digest_170 ?_
          refine tw_i2l C dX8_digest_173 ?_
          refine tw_ladd C dX8_digest_174 ?_
          obtain ⟨x25, ex35, eh35⟩ := bnd_ex eh34
          refine tw_topl ex35.symm ?_
          refine tw_lstore_n (lv' := [(0, rv K (8, 0)), (1, .long x25), (3, .int x23)]) C [1, 0, 2] dX8_digest_175 rfl (by rw [hnL]; decide) rfl ?_
          obtain ⟨x26, ex36, eh36⟩ := bnd_ex eh35
          refine tw_iinc (z := 2) (v := x26) (lv' := [(0, rv K (8, 0)), (1, .long x25), (3, .int x26)]) C [1, 2, 0] dX8_digest_176 rfl ex36 (by rw [hnL]; decide) rfl ?_
          refine tw_goto (tgt := 134) C dX8_digest_179 (by decide) ?_
          have hz := lp_c eh36 hk29
          exact hz
      refine lpF_ct (G := fun (q : Int64 × Int32 × St) => match q with | (x13, x14, σ2) => TW K 64 [(0, rv K (8, 0)), (1, .long x13), (3, .int x14)] [] σ2) ?_ hx15
      rintro ⟨x13, x14, σ2⟩ w16 hx16 hk16
      show TW K 64 [(0, rv K (8, 0)), (1, .long x13), (3, .int x14)] [] σ2
      refine tw_iload_n (i := 3) (z := 2) C dX8_digest_64 rfl rfl ?_
      refine tw_aload_n (i := 0) (z := 0) (r := (8, 0)) C dX8_digest_65 rfl rfl ?_
      refine tw_getI C fl_RX8_137 rfl (wcells_mem (f := 8) (j := 0) (by decide) (by decide)) rfl dX8_digest_66 ?_
      refine tw_ic_ge (tgt := 132) C dX8_digest_69 (by decide) (fun hc17 => ?_) (fun hc17 => ?_)
      · have ht17 := ite_t hc17 hx16
        refine tw_sub [0, 1] rfl ?_
        have e18 := lp_x ht17 hk16
        obtain ⟨rfl, rfl⟩ := pj2 (Option.some.inj e18)
        exact hJ15
      · have hf17 := ite_f hc17 hx16
        refine tw_aload_n (i := 0) (z := 0) (r := (8, 0)) C dX8_digest_72 rfl rfl ?_
        refine tw_getR (g := 24) (z := 0) (j' := 0) C fl_RX8_17 rfl (wcells_mem (f := 8) (j := 0) (by decide) (by decide)) rfl rfl dX8_digest_73 ?_
        refine tw_iload_n (i := 3) (z := 2) C dX8_digest_76 rfl rfl ?_
        obtain ⟨hb19, eh19⟩ := grd_some hf17
        refine tw_aald (g := 3) C rfl 4 "ElevenCodes$Match" (fun _ => rfl) (by decide) (by decide) (wcells_mem (f := 24) (j := 0) (by decide) (by decide)) hb19 dX8_digest_77 ?_
        refine tw_aload_n (i := 0) (z := 0) (r := (8, 0)) C dX8_digest_78 rfl rfl ?_
        refine tw_getR (g := 23) (z := 0) (j' := 0) C fl_RX8_11 rfl (wcells_mem (f := 8) (j := 0) (by decide) (by decide)) rfl rfl dX8_digest_79 ?_
        refine tw_iconst (v := 0) C dX8_digest_82 (by decide) ?_
        refine tw_aald (g := 1) C rfl 3 "ElevenCodes$Code" (fun _ => rfl) (by decide) (by decide) (wcells_mem (f := 23) (j := 0) (by decide) (by decide)) (by decide) dX8_digest_83 ?_
        refine tw_getR (g := 11) (z := 0) (j' := (tn (0 : Int32))) C fl_RX8_108 rfl (wcells_mem (f := 1) (j := (tn (0 : Int32))) (by decide) (by decide)) rfl rfl dX8_digest_84 ?_
        refine tw_aload_n (i := 0) (z := 0) (r := (8, 0)) C dX8_digest_87 rfl rfl ?_
        refine tw_getR (g := 4) (z := 0) (j' := 0) C fl_RX8_51 rfl (wcells_mem (f := 8) (j := 0) (by decide) (by decide)) rfl rfl dX8_digest_88 ?_
        obtain ⟨σ3, hv20, eh20⟩ := obi_some eh19
        refine tw_callV (As := [rv K (11, (tn (0 : Int32))), rv K (4, 0)]) (rest := []) (r := (3, (tn x14))) C hR (kX3_playUnder K.1 _ (by omega) _ (tn x14) (11, (tn (0 : Int32))) 0 (inb_lt hb19) (by decide) hv20) mi_X3_playUnder is_X3_playUnder se_X3_playUnder ml_RX8_161 (wcells_mem (f := 3) (j := (tn x14)) (by decide) (inb_lt hb19)) rfl rfl rfl rfl (Nat.le_of_ble_eq_true rfl) dX8_digest_91 ?_
        show TW K 94 [(0, rv K (8, 0)), (1, .long x13), (3, .int x14)] [] σ3
        refine tw_iconst (v := 0) C dX8_digest_94 (by decide) ?_
        refine tw_istore (lv' := [(0, rv K (8, 0)), (1, .long x13), (3, .int x14), (4, .int (0 : Int32))]) C [1, 2, 3, 0] dX8_digest_95 (by rw [hnL]; decide) rfl ?_
        obtain ⟨x15, hx21, hq21⟩ := obi_some eh20
        have hJ21 : TW K 126 [(0, rv K (8, 0)), (1, .long x15), (3, .int x14)] [] σ3 := by
          obtain ⟨x20, ex27, eh27⟩ := bnd_ex hq21
          refine tw_iinc (z := 2) (v := x20) (lv' := [(0, rv K (8, 0)), (1, .long x15), (3, .int x20)]) C [1, 2, 0] dX8_digest_126 rfl ex27 (by rw [hnL]; decide) rfl ?_
          refine tw_goto (tgt := 64) C dX8_digest_129 (by decide) ?_
          have hz := lp_c eh27 hk16
          exact hz
        refine lpF_ct (G := fun (q : Int64 × Int32) => match q with | (x16, x17) => TW K 97 [(0, rv K (8, 0)), (1, .long x16), (3, .int x14), (4, .int x17)] [] σ3) ?_ hx21
        rintro ⟨x16, x17⟩ w22 hx22 hk22
        show TW K 97 [(0, rv K (8, 0)), (1, .long x16), (3, .int x14), (4, .int x17)] [] σ3
        refine tw_iload (i := 4) (z := 3) C dX8_digest_97 rfl ?_
        refine tw_iconst (v := 5) C dX8_digest_99 (by decide) ?_
        refine tw_ic_gt (tgt := 126) C dX8_digest_100 (by decide) (fun hc23 => ?_) (fun hc23 => ?_)
        · have ht23 := ite_t hc23 hx22
          refine tw_sub [0, 1, 2] rfl ?_
          have e24 := lp_x ht23 hk22
          obtain rfl := (Option.some.inj e24)
          exact hJ21
        · have hf23 := ite_f hc23 hx22
          refine tw_ldc2 C cn_RX8_338 dX8_digest_103 ?_
          refine tw_lload_n (i := 1) (z := 1) C dX8_digest_106 rfl rfl ?_
          refine tw_lmul C dX8_digest_107 ?_
          refine tw_aload_n (i := 0) (z := 0) (r := (8, 0)) C dX8_digest_108 rfl rfl ?_
          refine tw_getR (g := 4) (z := 0) (j' := 0) C fl_RX8_51 rfl (wcells_mem (f := 8) (j := 0) (by decide) (by decide)) rfl rfl dX8_digest_109 ?_
          refine tw_iload (i := 4) (z := 3) C dX8_digest_112 rfl ?_
          refine tw_callV (As := [.int x17]) (rest := [.long ((31 : Int64) * x16)]) (r := (4, 0)) C hR (kX4_answer K.1 _ (by omega) σ3 0 x17 (by decide) rfl) mi_X4_answer is_X4_answer se_X4_answer ml_RX8_165 (wcells_mem (f := 4) (j := 0) (by decide) (by decide)) rfl rfl rfl rfl (Nat.le_of_ble_eq_true rfl) dX8_digest_114 ?_
          show TW K 117 [(0, rv K (8, 0)), (1, .long x16), (3, .int x14), (4, .int x17)] [.int (fX4_answer σ3 0 x17), .long ((31 : Int64) * x16)] σ3
          refine tw_i2l C dX8_digest_117 ?_
          refine tw_ladd C dX8_digest_118 ?_
          obtain ⟨x18, ex25, eh25⟩ := bnd_ex hf23
          refine tw_topl ex25.symm ?_
          refine tw_lstore_n (lv' := [(0, rv K (8, 0)), (1, .long x18), (3, .int x14), (4, .int x17)]) C [1, 0, 2, 3] dX8_digest_119 rfl (by rw [hnL]; decide) rfl ?_
          obtain ⟨x19, ex26, eh26⟩ := bnd_ex eh25
          refine tw_iinc (z := 3) (v := x19) (lv' := [(0, rv K (8, 0)), (1, .long x18), (3, .int x14), (4, .int x19)]) C [1, 2, 3, 0] dX8_digest_120 rfl ex26 (by rw [hnL]; decide) rfl ?_
          refine tw_goto (tgt := 97) C dX8_digest_123 (by decide) ?_
          have hz := lp_c eh26 hk22
          exact hz
    refine lpF_ct (G := fun (q : Int64 × Int32) => match q with | (x8, x9) => TW K 33 [(0, rv K (8, 0)), (1, .long x8), (3, .int x9)] [] σ) ?_ hx8
    rintro ⟨x8, x9⟩ w9 hx9 hk9
    show TW K 33 [(0, rv K (8, 0)), (1, .long x8), (3, .int x9)] [] σ
    refine tw_iload_n (i := 3) (z := 2) C dX8_digest_33 rfl rfl ?_
    refine tw_bipush (v := 11) C dX8_digest_34 (by decide) ?_
    refine tw_ic_ge (tgt := 62) C dX8_digest_36 (by decide) (fun hc10 => ?_) (fun hc10 => ?_)
    · have ht10 := ite_t hc10 hx9
      refine tw_sub [0, 1] rfl ?_
      have e11 := lp_x ht10 hk9
      obtain rfl := (Option.some.inj e11)
      exact hJ8
    · have hf10 := ite_f hc10 hx9
      refine tw_ldc2 C cn_RX8_338 dX8_digest_39 ?_
      refine tw_lload_n (i := 1) (z := 1) C dX8_digest_42 rfl rfl ?_
      refine tw_lmul C dX8_digest_43 ?_
      refine tw_aload_n (i := 0) (z := 0) (r := (8, 0)) C dX8_digest_44 rfl rfl ?_
      refine tw_getR (g := 23) (z := 0) (j' := 0) C fl_RX8_11 rfl (wcells_mem (f := 8) (j := 0) (by decide) (by decide)) rfl rfl dX8_digest_45 ?_
      refine tw_iload_n (i := 3) (z := 2) C dX8_digest_48 rfl rfl ?_
      obtain ⟨hb12, eh12⟩ := grd_some hf10
      refine tw_aald (g := 1) C rfl 3 "ElevenCodes$Code" (fun _ => rfl) (by decide) (by decide) (wcells_mem (f := 23) (j := 0) (by decide) (by decide)) hb12 dX8_digest_49 ?_
      refine tw_getI C fl_RX8_102 rfl (wcells_mem (f := 1) (j := (tn x9)) (by decide) (inb_lt hb12)) rfl dX8_digest_50 ?_
      refine tw_i2l C dX8_digest_53 ?_
      refine tw_ladd C dX8_digest_54 ?_
      obtain ⟨x10, ex13, eh13⟩ := bnd_ex eh12
      refine tw_topl ex13.symm ?_
      refine tw_lstore_n (lv' := [(0, rv K (8, 0)), (1, .long x10), (3, .int x9)]) C [1, 0, 2] dX8_digest_55 rfl (by rw [hnL]; decide) rfl ?_
      obtain ⟨x11, ex14, eh14⟩ := bnd_ex eh13
      refine tw_iinc (z := 2) (v := x11) (lv' := [(0, rv K (8, 0)), (1, .long x10), (3, .int x11)]) C [1, 2, 0] dX8_digest_56 rfl ex14 (by rw [hnL]; decide) rfl ?_
      refine tw_goto (tgt := 33) C dX8_digest_59 (by decide) ?_
      have hz := lp_c eh14 hk9
      exact hz
  refine lpF_ct (G := fun (q : Int64 × Int32) => match q with | (x2, x3) => TW K 6 [(0, rv K (8, 0)), (1, .long x2), (3, .int x3)] [] σ) ?_ hx1
  rintro ⟨x2, x3⟩ w2 hx2 hk2
  show TW K 6 [(0, rv K (8, 0)), (1, .long x2), (3, .int x3)] [] σ
  refine tw_iload_n (i := 3) (z := 2) C dX8_digest_6 rfl rfl ?_
  refine tw_bipush (v := 7) C dX8_digest_7 (by decide) ?_
  refine tw_ic_gt (tgt := 31) C dX8_digest_9 (by decide) (fun hc3 => ?_) (fun hc3 => ?_)
  · have ht3 := ite_t hc3 hx2
    refine tw_sub [0, 1] rfl ?_
    have e4 := lp_x ht3 hk2
    obtain rfl := (Option.some.inj e4)
    exact hJ1
  · have hf3 := ite_f hc3 hx2
    refine tw_ldc2 C cn_RX8_338 dX8_digest_12 ?_
    refine tw_lload_n (i := 1) (z := 1) C dX8_digest_15 rfl rfl ?_
    refine tw_lmul C dX8_digest_16 ?_
    refine tw_aload_n (i := 0) (z := 0) (r := (8, 0)) C dX8_digest_17 rfl rfl ?_
    refine tw_iload_n (i := 3) (z := 2) C dX8_digest_18 rfl rfl ?_
    obtain ⟨x4, hv5, eh5⟩ := obi_some hf3
    refine tw_callV (As := [.int x3]) (rest := [.long ((31 : Int64) * x2)]) (r := (8, 0)) C hR (kX8_count K.1 _ (by omega) σ x3  hv5) mi_X8_count is_X8_count se_X8_count ml_RX8_340 (wcells_mem (f := 8) (j := 0) (by decide) (by decide)) rfl rfl rfl rfl (Nat.le_of_ble_eq_true rfl) dX8_digest_19 ?_
    show TW K 22 [(0, rv K (8, 0)), (1, .long x2), (3, .int x3)] [.int x4, .long ((31 : Int64) * x2)] σ
    refine tw_i2l C dX8_digest_22 ?_
    refine tw_ladd C dX8_digest_23 ?_
    obtain ⟨x5, ex6, eh6⟩ := bnd_ex eh5
    refine tw_topl ex6.symm ?_
    refine tw_lstore_n (lv' := [(0, rv K (8, 0)), (1, .long x5), (3, .int x3)]) C [1, 0, 2] dX8_digest_24 rfl (by rw [hnL]; decide) rfl ?_
    obtain ⟨x6, ex7, eh7⟩ := bnd_ex eh6
    refine tw_iinc (z := 2) (v := x6) (lv' := [(0, rv K (8, 0)), (1, .long x5), (3, .int x6)]) C [1, 2, 0] dX8_digest_25 rfl ex7 (by rw [hnL]; decide) rfl ?_
    refine tw_goto (tgt := 6) C dX8_digest_28 (by decide) ?_
    have hz := lp_c eh7 hk2
    exact hz

