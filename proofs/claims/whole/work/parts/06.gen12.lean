set_option maxRecDepth 20000 in
def fX9_found (σ : St) (a1 : Int32) (a2 : Int32) : Option (Int32 × St) :=
  if (fX9_in a1 (0 : Int32) (9 : Int32)) = true then
    if (fX9_in a2 (0 : Int32) (6 : Int32)) = true then
      obi (lpF (fun (q4 : Int32 × St) => match q4 with
      | (x1, σ2) =>
      if (17 : Int32) ≤ x1 then
        some (.inr σ2)
      else
        grd (inb x1 17) (bnd (su σ2 (35, 0) (tn x1) (fX9_plain x1)) (fun σ3 =>
        bnd (x1 + 1) (fun x2 =>
        some (.inl (x2, σ3)))))) ((0 : Int32), σ)) (fun σ1 =>
      lpF (fun (q10 : Int32 × Int32 × St) => match q10 with
      | (x3, x4, σ4) =>
      if (σ4 (9, 0) 15) ≤ x4 then
        some (.inr ((x3, σ4)))
      else
        bnd (fX9_begins σ4) (fun σ5 =>
        obi (lpF (fun (q15 : Int32 × Int32 × Int32 × St) => match q15 with
        | (x6, x7, x8, σ7) =>
        grd (inb x4 12) (
        if (σ7 (36, 0) (tn x4)) ≤ x8 then
          some (.inr ((x6, σ7)))
        else
          if x7 = 0 then
            some (.inr ((x6, σ7)))
          else
            grd (inb (((40 : Int32) * x4) + x8) 480) (
            bnd (σ7 (37, 0) (tn (((40 : Int32) * x4) + x8))) (fun x9 =>
            grd (inb (((40 : Int32) * x4) + x8) 480) (
            bnd (σ7 (38, 0) (tn (((40 : Int32) * x4) + x8))) (fun x10 =>
            bnd (if x9 = (-1 : Int32) then
              (0 : Int32)
            else
              (1 : Int32)) (fun x11 =>
            obi (if x11 = 0 then
              some (x6, x11, σ7)
            else
              if (fX9_canBe σ7 (irm (x9 / (10 : Int32)) (2 : Int32)) (irm x9 (10 : Int32))) = true then
                bnd (if x10 = (-1 : Int32) then
                  (0 : Int32)
                else
                  (1 : Int32)) (fun x14 =>
                bnd (if x14 = 0 then
                  (0 : Int32)
                else
                  if (20 : Int32) ≤ x9 then
                    (0 : Int32)
                  else
                    if (irm x9 (10 : Int32)) = a1 then
                      if (fX9_ownCell (x9 / (10 : Int32)) (σ7 (9, 0) 10)) = a2 then
                        (1 : Int32)
                      else
                        (0 : Int32)
                    else
                      (0 : Int32)) (fun x15 =>
                bnd (if x15 = 0 then
                  (0 : Int32)
                else
                  if x10 = (1 : Int32) then
                    (1 : Int32)
                  else
                    (2 : Int32)) (fun x16 =>
                bnd (x6 ||| x16) (fun x17 =>
                obi (if x14 = 0 then
                  some ((0 : Int32), σ7)
                else
                  obi (fX9_goesOn σ7 x9 x10) (fun (x19, σ10) =>
                  some (x19, σ10))) (fun (x18, σ9) =>
                some (x17, x14, σ9))))))
              else
                some (x6, x11, σ7)) (fun (x12, x13, σ8) =>
            bnd (x8 + 1) (fun x20 =>
            some (.inl (x12, x13, x20, σ8))))))))))) (x3, (1 : Int32), (0 : Int32), σ5)) (fun (x5, σ6) =>
        bnd (x4 + 1) (fun x21 =>
        some (.inl (x5, x21, σ6)))))) ((0 : Int32), (0 : Int32), σ1))
    else
      some ((-2 : Int32), σ)
  else
    some ((-2 : Int32), σ)
set_option maxRecDepth 20000 in
set_option maxHeartbeats 4000000 in
theorem kX9_found (G : Gx) (d : Nat) (hdp : 6 ≤ d) (σ : St) (a1 : Int32) (a2 : Int32)  {v0 : Int32} {σ' : St} (h : fX9_found σ a1 a2 = some (v0, σ')) : MS G d yX9_found cX9_found 11 (some .int) [.ref (G.2.1 (9, 0)), .int a1, .int a2] σ (some (.int v0)) σ' := by
  refine MS_of (by decide) (Nat.le_of_ble_eq_true rfl) rfl (fun K hG hnL C hR hK => ?_) (by omega)
  subst hG
  show TW K 0 [(0, rv K (9, 0)), (1, .int a1), (2, .int a2)] [] σ
  unfold fX9_found at h
  refine tw_iload_n (i := 1) (z := 1) C dX9_found_0 rfl rfl ?_
  refine tw_iconst (v := 0) C dX9_found_1 (by decide) ?_
  refine tw_bipush (v := 9) C dX9_found_2 (by decide) ?_
  refine tw_callS (As := [.int a1, .int (0 : Int32), .int (9 : Int32)]) (rest := []) C hR (kX9_in K.1 _ (by omega) σ a1 (0 : Int32) (9 : Int32)  rfl) mi_X9_in st_X9_in ml_RX9_106 rfl rfl (Nat.le_of_ble_eq_true rfl) dX9_found_4 ?_
  show TW K 7 [(0, rv K (9, 0)), (1, .int a1), (2, .int a2)] [.int (b2i (fX9_in a1 (0 : Int32) (9 : Int32)))] σ
  refine tw_if_eq (tgt := 20) C dX9_found_7 (by decide) (fun hc1 => ?_) (fun hc1 => ?_)
  · have ht1 := ite_f (b2i_z hc1) h
    refine tw_bipush (v := (-2)) C dX9_found_20 (by decide) ?_
    obtain ⟨rfl, rfl⟩ := pj2 (Option.some.inj ht1)
    exact tw_iret C hK rfl rfl dX9_found_22
  · have hf1 := ite_t (b2i_nz hc1) h
    refine tw_iload_n (i := 2) (z := 2) C dX9_found_10 rfl rfl ?_
    refine tw_iconst (v := 0) C dX9_found_11 (by decide) ?_
    refine tw_bipush (v := 6) C dX9_found_12 (by decide) ?_
    refine tw_callS (As := [.int a2, .int (0 : Int32), .int (6 : Int32)]) (rest := []) C hR (kX9_in K.1 _ (by omega) σ a2 (0 : Int32) (6 : Int32)  rfl) mi_X9_in st_X9_in ml_RX9_106 rfl rfl (Nat.le_of_ble_eq_true rfl) dX9_found_14 ?_
    show TW K 17 [(0, rv K (9, 0)), (1, .int a1), (2, .int a2)] [.int (b2i (fX9_in a2 (0 : Int32) (6 : Int32)))] σ
    refine tw_if_ne (tgt := 23) C dX9_found_17 (by decide) (fun hc2 => ?_) (fun hc2 => ?_)
    · have ht2 := ite_t (b2i_nz hc2) hf1
      refine tw_iconst (v := 0) C dX9_found_23 (by decide) ?_
      refine tw_istore_n (lv' := [(0, rv K (9, 0)), (1, .int a1), (2, .int a2), (3, .int (0 : Int32))]) C [1, 2, 3, 0] dX9_found_24 rfl (by rw [hnL]; decide) rfl ?_
      refine tw_iconst (v := 0) C dX9_found_25 (by decide) ?_
      refine tw_istore (lv' := [(0, rv K (9, 0)), (1, .int a1), (2, .int a2), (3, .int (0 : Int32)), (4, .int (0 : Int32))]) C [1, 2, 3, 4, 0] dX9_found_26 (by rw [hnL]; decide) rfl ?_
      obtain ⟨σ1, hx3, hq3⟩ := obi_some ht2
      have hJ3 : TW K 53 [(0, rv K (9, 0)), (1, .int a1), (2, .int a2), (3, .int (0 : Int32))] [] σ1 := by
        refine tw_iconst (v := 0) C dX9_found_53 (by decide) ?_
        refine tw_istore (lv' := [(0, rv K (9, 0)), (1, .int a1), (2, .int a2), (3, .int (0 : Int32)), (4, .int (0 : Int32))]) C [1, 2, 3, 4, 0] dX9_found_54 (by rw [hnL]; decide) rfl ?_
        refine lpF_ct (G := fun (q : Int32 × Int32 × St) => match q with | (x3, x4, σ4) => TW K 56 [(0, rv K (9, 0)), (1, .int a1), (2, .int a2), (3, .int x3), (4, .int x4)] [] σ4) ?_ hq3
        rintro ⟨x3, x4, σ4⟩ w10 hx10 hk10
        show TW K 56 [(0, rv K (9, 0)), (1, .int a1), (2, .int a2), (3, .int x3), (4, .int x4)] [] σ4
        refine tw_iload (i := 4) (z := 4) C dX9_found_56 rfl ?_
        refine tw_aload_n (i := 0) (z := 0) (r := (9, 0)) C dX9_found_58 rfl rfl ?_
        refine tw_getI C fl_RX9_193 rfl (wcells_mem (f := 9) (j := 0) (by decide) (by decide)) rfl dX9_found_59 ?_
        refine tw_ic_ge (tgt := 270) C dX9_found_62 (by decide) (fun hc11 => ?_) (fun hc11 => ?_)
        · have ht11 := ite_t hc11 hx10
          refine tw_iload_n (i := 3) (z := 3) C dX9_found_270 rfl rfl ?_
          have e12 := lp_x ht11 hk10
          obtain ⟨rfl, rfl⟩ := pj2 (Option.some.inj e12)
          exact tw_iret C hK rfl rfl dX9_found_271
        · have hf11 := ite_f hc11 hx10
          refine tw_aload_n (i := 0) (z := 0) (r := (9, 0)) C dX9_found_65 rfl rfl ?_
          obtain ⟨σ5, hv13, eh13⟩ := bnd_ex hf11
          refine tw_callV (As := []) (rest := []) (r := (9, 0)) C hR (kX9_begins K.1 _ (by omega) _   hv13) mi_X9_begins is_X9_begins se_X9_begins ml_RX9_205 (wcells_mem (f := 9) (j := 0) (by decide) (by decide)) rfl rfl rfl rfl (Nat.le_of_ble_eq_true rfl) dX9_found_66 ?_
          show TW K 69 [(0, rv K (9, 0)), (1, .int a1), (2, .int a2), (3, .int x3), (4, .int x4)] [] σ5
          refine tw_iconst (v := 1) C dX9_found_69 (by decide) ?_
          refine tw_istore (lv' := [(0, rv K (9, 0)), (1, .int a1), (2, .int a2), (3, .int x3), (4, .int x4), (5, .int (1 : Int32))]) C [1, 2, 3, 4, 5, 0] dX9_found_70 (by rw [hnL]; decide) rfl ?_
          refine tw_iconst (v := 0) C dX9_found_72 (by decide) ?_
          refine tw_istore (lv' := [(0, rv K (9, 0)), (1, .int a1), (2, .int a2), (3, .int x3), (4, .int x4), (5, .int (1 : Int32)), (6, .int (0 : Int32))]) C [1, 2, 3, 4, 5, 6, 0] dX9_found_73 (by rw [hnL]; decide) rfl ?_
          obtain ⟨⟨x5, σ6⟩, hx14, hq14⟩ := obi_some eh13
          have hJ14 : TW K 264 [(0, rv K (9, 0)), (1, .int a1), (2, .int a2), (3, .int x5), (4, .int x4)] [] σ6 := by
            obtain ⟨x21, ex45, eh45⟩ := bnd_ex hq14
            refine tw_iinc (z := 4) (v := x21) (lv' := [(0, rv K (9, 0)), (1, .int a1), (2, .int a2), (3, .int x5), (4, .int x21)]) C [1, 2, 3, 4, 0] dX9_found_264 rfl ex45 (by rw [hnL]; decide) rfl ?_
            refine tw_goto (tgt := 56) C dX9_found_267 (by decide) ?_
            have hz := lp_c eh45 hk10
            exact hz
          refine lpF_ct (G := fun (q : Int32 × Int32 × Int32 × St) => match q with | (x6, x7, x8, σ7) => TW K 75 [(0, rv K (9, 0)), (1, .int a1), (2, .int a2), (3, .int x6), (4, .int x4), (5, .int x7), (6, .int x8)] [] σ7) ?_ hx14
          rintro ⟨x6, x7, x8, σ7⟩ w15 hx15 hk15
          show TW K 75 [(0, rv K (9, 0)), (1, .int a1), (2, .int a2), (3, .int x6), (4, .int x4), (5, .int x7), (6, .int x8)] [] σ7
          refine tw_iload (i := 6) (z := 6) C dX9_found_75 rfl ?_
          refine tw_aload_n (i := 0) (z := 0) (r := (9, 0)) C dX9_found_77 rfl rfl ?_
          refine tw_getR (g := 36) (z := 0) (j' := 0) C fl_RX9_32 rfl (wcells_mem (f := 9) (j := 0) (by decide) (by decide)) rfl rfl dX9_found_78 ?_
          refine tw_iload (i := 4) (z := 4) C dX9_found_81 rfl ?_
          obtain ⟨hb16, eh16⟩ := grd_some hx15
          refine tw_iald (r := (36, 0)) C (ia_of rfl (by decide)) hb16 dX9_found_83 ?_
          refine tw_ic_ge (tgt := 264) C dX9_found_84 (by decide) (fun hc17 => ?_) (fun hc17 => ?_)
          · have ht17 := ite_t hc17 eh16
            refine tw_sub [0, 1, 2, 3, 4] rfl ?_
            have e18 := lp_x ht17 hk15
            obtain ⟨rfl, rfl⟩ := pj2 (Option.some.inj e18)
            exact hJ14
          · have hf17 := ite_f hc17 eh16
            refine tw_iload (i := 5) (z := 5) C dX9_found_87 rfl ?_
            refine tw_if_eq (tgt := 264) C dX9_found_89 (by decide) (fun hc19 => ?_) (fun hc19 => ?_)
            · have ht19 := ite_t hc19 hf17
              refine tw_sub [0, 1, 2, 3, 4] rfl ?_
              have e20 := lp_x ht19 hk15
              obtain ⟨rfl, rfl⟩ := pj2 (Option.some.inj e20)
              exact hJ14
            · have hf19 := ite_f hc19 hf17
              refine tw_aload_n (i := 0) (z := 0) (r := (9, 0)) C dX9_found_92 rfl rfl ?_
              refine tw_getR (g := 37) (z := 0) (j' := 0) C fl_RX9_35 rfl (wcells_mem (f := 9) (j := 0) (by decide) (by decide)) rfl rfl dX9_found_93 ?_
              refine tw_bipush (v := 40) C dX9_found_96 (by decide) ?_
              refine tw_iload (i := 4) (z := 4) C dX9_found_98 rfl ?_
              refine tw_imul C dX9_found_100 ?_
              refine tw_iload (i := 6) (z := 6) C dX9_found_101 rfl ?_
              refine tw_iadd C dX9_found_103 ?_
              obtain ⟨hb21, eh21⟩ := grd_some hf19
              refine tw_iald (r := (37, 0)) C (ia_of rfl (by decide)) hb21 dX9_found_104 ?_
              obtain ⟨x9, ex22, eh22⟩ := bnd_ex eh21
              refine tw_topi ex22.symm ?_
              refine tw_istore (lv' := [(0, rv K (9, 0)), (1, .int a1), (2, .int a2), (3, .int x6), (4, .int x4), (5, .int x7), (6, .int x8), (7, .int x9)]) C [1, 2, 3, 4, 5, 6, 7, 0] dX9_found_105 (by rw [hnL]; decide) rfl ?_
              refine tw_aload_n (i := 0) (z := 0) (r := (9, 0)) C dX9_found_107 rfl rfl ?_
              refine tw_getR (g := 38) (z := 0) (j' := 0) C fl_RX9_38 rfl (wcells_mem (f := 9) (j := 0) (by decide) (by decide)) rfl rfl dX9_found_108 ?_
              refine tw_bipush (v := 40) C dX9_found_111 (by decide) ?_
              refine tw_iload (i := 4) (z := 4) C dX9_found_113 rfl ?_
              refine tw_imul C dX9_found_115 ?_
              refine tw_iload (i := 6) (z := 6) C dX9_found_116 rfl ?_
              refine tw_iadd C dX9_found_118 ?_
              obtain ⟨hb23, eh23⟩ := grd_some eh22
              refine tw_iald (r := (38, 0)) C (ia_of rfl (by decide)) hb23 dX9_found_119 ?_
              obtain ⟨x10, ex24, eh24⟩ := bnd_ex eh23
              refine tw_topi ex24.symm ?_
              refine tw_istore (lv' := [(0, rv K (9, 0)), (1, .int a1), (2, .int a2), (3, .int x6), (4, .int x4), (5, .int x7), (6, .int x8), (7, .int x9), (8, .int x10)]) C [1, 2, 3, 4, 5, 6, 7, 8, 0] dX9_found_120 (by rw [hnL]; decide) rfl ?_
              refine tw_iload (i := 7) (z := 7) C dX9_found_122 rfl ?_
              refine tw_iconst (v := (-1)) C dX9_found_124 (by decide) ?_
              obtain ⟨x11, hx25, hq25⟩ := bnd_ex eh24
              have hJ25 : TW K 133 [(0, rv K (9, 0)), (1, .int a1), (2, .int a2), (3, .int x6), (4, .int x4), (6, .int x8), (7, .int x9), (8, .int x10)] [.int x11] σ7 := by
                refine tw_istore (lv' := [(0, rv K (9, 0)), (1, .int a1), (2, .int a2), (3, .int x6), (4, .int x4), (5, .int x11), (6, .int x8), (7, .int x9), (8, .int x10)]) C [1, 2, 3, 4, 5, 0, 6, 7, 8] dX9_found_133 (by rw [hnL]; decide) rfl ?_
                refine tw_iload (i := 5) (z := 5) C dX9_found_135 rfl ?_
                obtain ⟨⟨x12, x13, σ8⟩, hx27, hq27⟩ := obi_some hq25
                have hJ27 : TW K 258 [(0, rv K (9, 0)), (1, .int a1), (2, .int a2), (3, .int x12), (4, .int x4), (5, .int x13), (6, .int x8)] [] σ8 := by
                  obtain ⟨x20, ex44, eh44⟩ := bnd_ex hq27
                  refine tw_iinc (z := 6) (v := x20) (lv' := [(0, rv K (9, 0)), (1, .int a1), (2, .int a2), (3, .int x12), (4, .int x4), (5, .int x13), (6, .int x20)]) C [1, 2, 3, 4, 5, 6, 0] dX9_found_258 rfl ex44 (by rw [hnL]; decide) rfl ?_
                  refine tw_goto (tgt := 75) C dX9_found_261 (by decide) ?_
                  have hz := lp_c eh44 hk15
                  exact hz
                refine tw_if_eq (tgt := 258) C dX9_found_137 (by decide) (fun hc28 => ?_) (fun hc28 => ?_)
                · have ht28 := ite_t hc28 hx27
                  refine tw_sub [0, 1, 2, 3, 4, 5, 6] rfl ?_
                  obtain ⟨rfl, rfl, rfl⟩ := pj3 (Option.some.inj ht28)
                  exact hJ27
                · have hf28 := ite_f hc28 hx27
                  refine tw_aload_n (i := 0) (z := 0) (r := (9, 0)) C dX9_found_140 rfl rfl ?_
                  refine tw_iload (i := 7) (z := 7) C dX9_found_141 rfl ?_
                  refine tw_bipush (v := 10) C dX9_found_143 (by decide) ?_
                  refine tw_idiv C dX9_found_145 (by decide) ?_
                  refine tw_iconst (v := 2) C dX9_found_146 (by decide) ?_
                  refine tw_irem C dX9_found_147 (by decide) ?_
                  refine tw_iload (i := 7) (z := 7) C dX9_found_148 rfl ?_
                  refine tw_bipush (v := 10) C dX9_found_150 (by decide) ?_
                  refine tw_irem C dX9_found_152 (by decide) ?_
                  refine tw_callV (As := [.int (irm (x9 / (10 : Int32)) (2 : Int32)), .int (irm x9 (10 : Int32))]) (rest := []) (r := (9, 0)) C hR (kX9_canBe K.1 _ (by omega) σ7 (irm (x9 / (10 : Int32)) (2 : Int32)) (irm x9 (10 : Int32))  rfl) mi_X9_canBe is_X9_canBe se_X9_canBe ml_RX9_183 (wcells_mem (f := 9) (j := 0) (by decide) (by decide)) rfl rfl rfl rfl (Nat.le_of_ble_eq_true rfl) dX9_found_153 ?_
                  show TW K 156 [(0, rv K (9, 0)), (1, .int a1), (2, .int a2), (3, .int x6), (4, .int x4), (5, .int x11), (6, .int x8), (7, .int x9), (8, .int x10)] [.int (b2i (fX9_canBe σ7 (irm (x9 / (10 : Int32)) (2 : Int32)) (irm x9 (10 : Int32))))] σ7
                  refine tw_if_eq (tgt := 258) C dX9_found_156 (by decide) (fun hc29 => ?_) (fun hc29 => ?_)
                  · have ht29 := ite_f (b2i_z hc29) hf28
                    refine tw_sub [0, 1, 2, 3, 4, 5, 6] rfl ?_
                    obtain ⟨rfl, rfl, rfl⟩ := pj3 (Option.some.inj ht29)
                    exact hJ27
                  · have hf29 := ite_t (b2i_nz hc29) hf28
                    refine tw_iload (i := 8) (z := 8) C dX9_found_159 rfl ?_
                    refine tw_iconst (v := (-1)) C dX9_found_161 (by decide) ?_
                    obtain ⟨x14, hx30, hq30⟩ := bnd_ex hf29
                    have hJ30 : TW K 170 [(0, rv K (9, 0)), (1, .int a1), (2, .int a2), (3, .int x6), (4, .int x4), (6, .int x8), (7, .int x9), (8, .int x10)] [.int x14] σ7 := by
                      refine tw_istore (lv' := [(0, rv K (9, 0)), (1, .int a1), (2, .int a2), (3, .int x6), (4, .int x4), (5, .int x14), (6, .int x8), (7, .int x9), (8, .int x10)]) C [1, 2, 3, 4, 5, 0, 6, 7, 8] dX9_found_170 (by rw [hnL]; decide) rfl ?_
                      refine tw_iload (i := 5) (z := 5) C dX9_found_172 rfl ?_
                      obtain ⟨x15, hx32, hq32⟩ := bnd_ex hq30
                      have hJ32 : TW K 214 [(0, rv K (9, 0)), (1, .int a1), (2, .int a2), (3, .int x6), (4, .int x4), (5, .int x14), (6, .int x8), (7, .int x9), (8, .int x10)] [.int x15] σ7 := by
                        refine tw_istore (lv' := [(0, rv K (9, 0)), (1, .int a1), (2, .int a2), (3, .int x6), (4, .int x4), (5, .int x14), (6, .int x8), (7, .int x9), (8, .int x10), (9, .int x15)]) C [1, 2, 3, 4, 5, 6, 7, 8, 9, 0] dX9_found_214 (by rw [hnL]; decide) rfl ?_
                        refine tw_iload_n (i := 3) (z := 3) C dX9_found_216 rfl rfl ?_
                        refine tw_iload (i := 9) (z := 9) C dX9_found_217 rfl ?_
                        obtain ⟨x16, hx37, hq37⟩ := bnd_ex hq32
                        have hJ37 : TW K 237 [(0, rv K (9, 0)), (1, .int a1), (2, .int a2), (4, .int x4), (5, .int x14), (6, .int x8), (7, .int x9), (8, .int x10)] [.int x16, .int x6] σ7 := by
                          refine tw_ior C dX9_found_237 ?_
                          obtain ⟨x17, ex40, eh40⟩ := bnd_ex hq37
                          refine tw_topi ex40.symm ?_
                          refine tw_istore_n (lv' := [(0, rv K (9, 0)), (1, .int a1), (2, .int a2), (3, .int x17), (4, .int x4), (5, .int x14), (6, .int x8), (7, .int x9), (8, .int x10)]) C [1, 2, 3, 0, 4, 5, 6, 7, 8] dX9_found_238 rfl (by rw [hnL]; decide) rfl ?_
                          refine tw_iload (i := 5) (z := 5) C dX9_found_239 rfl ?_
                          obtain ⟨⟨x18, σ9⟩, hx41, hq41⟩ := obi_some eh40
                          have hJ41 : TW K 256 [(0, rv K (9, 0)), (1, .int a1), (2, .int a2), (3, .int x17), (4, .int x4), (5, .int x14), (6, .int x8)] [.int x18] σ9 := by
                            refine tw_istore (lv' := [(0, rv K (9, 0)), (1, .int a1), (2, .int a2), (3, .int x17), (4, .int x4), (5, .int x14), (6, .int x8), (10, .int x18)]) C [1, 2, 3, 4, 5, 6, 7, 0] dX9_found_256 (by rw [hnL]; decide) rfl ?_
                            refine tw_sub [0, 1, 2, 3, 4, 5, 6] rfl ?_
                            obtain ⟨rfl, rfl, rfl⟩ := pj3 (Option.some.inj hq41)
                            exact hJ27
                          refine tw_if_eq (tgt := 255) C dX9_found_241 (by decide) (fun hc42 => ?_) (fun hc42 => ?_)
                          · have ht42 := ite_t hc42 hx41
                            refine tw_iconst (v := 0) C dX9_found_255 (by decide) ?_
                            refine tw_sub [0, 1, 2, 3, 4, 5, 6] rfl ?_
                            obtain ⟨rfl, rfl⟩ := pj2 (Option.some.inj ht42)
                            exact hJ41
                          · have hf42 := ite_f hc42 hx41
                            refine tw_aload_n (i := 0) (z := 0) (r := (9, 0)) C dX9_found_244 rfl rfl ?_
                            refine tw_iload (i := 7) (z := 7) C dX9_found_245 rfl ?_
                            refine tw_iload (i := 8) (z := 8) C dX9_found_247 rfl ?_
                            obtain ⟨⟨x19, σ10⟩, hv43, eh43⟩ := obi_some hf42
                            refine tw_callV (As := [.int x9, .int x10]) (rest := []) (r := (9, 0)) C hR (kX9_goesOn K.1 _ (by omega) _ x9 x10  hv43) mi_X9_goesOn is_X9_goesOn se_X9_goesOn ml_RX9_220 (wcells_mem (f := 9) (j := 0) (by decide) (by decide)) rfl rfl rfl rfl (Nat.le_of_ble_eq_true rfl) dX9_found_249 ?_
                            show TW K 252 [(0, rv K (9, 0)), (1, .int a1), (2, .int a2), (3, .int x17), (4, .int x4), (5, .int x14), (6, .int x8), (7, .int x9), (8, .int x10)] [.int x19] σ10
                            refine tw_goto (tgt := 256) C dX9_found_252 (by decide) ?_
                            refine tw_sub [0, 1, 2, 3, 4, 5, 6] rfl ?_
                            obtain ⟨rfl, rfl⟩ := pj2 (Option.some.inj eh43)
                            exact hJ41
                        refine tw_if_eq (tgt := 236) C dX9_found_219 (by decide) (fun hc38 => ?_) (fun hc38 => ?_)
                        · have ht38 := ite_t hc38 hx37
                          refine tw_iconst (v := 0) C dX9_found_236 (by decide) ?_
                          refine tw_sub [0, 1, 2, 4, 5, 6, 7, 8] rfl ?_
                          obtain rfl := ht38
                          exact hJ37
                        · have hf38 := ite_f hc38 hx37
                          refine tw_iload (i := 8) (z := 8) C dX9_found_222 rfl ?_
                          refine tw_iconst (v := 1) C dX9_found_224 (by decide) ?_
                          refine tw_ic_ne (tgt := 232) C dX9_found_225 (by decide) (fun hc39 => ?_) (fun hc39 => ?_)
                          · have ht39 := ite_f hc39 hf38
                            refine tw_iconst (v := 2) C dX9_found_232 (by decide) ?_
                            refine tw_goto (tgt := 237) C dX9_found_233 (by decide) ?_
                            refine tw_sub [0, 1, 2, 4, 5, 6, 7, 8] rfl ?_
                            obtain rfl := ht39
                            exact hJ37
                          · have hf39 := ite_t hc39 hf38
                            refine tw_iconst (v := 1) C dX9_found_228 (by decide) ?_
                            refine tw_goto (tgt := 237) C dX9_found_229 (by decide) ?_
                            refine tw_sub [0, 1, 2, 4, 5, 6, 7, 8] rfl ?_
                            obtain rfl := hf39
                            exact hJ37
                      refine tw_if_eq (tgt := 213) C dX9_found_174 (by decide) (fun hc33 => ?_) (fun hc33 => ?_)
                      · have ht33 := ite_t hc33 hx32
                        refine tw_iconst (v := 0) C dX9_found_213 (by decide) ?_
                        obtain rfl := ht33
                        exact hJ32
                      · have hf33 := ite_f hc33 hx32
                        refine tw_iload (i := 7) (z := 7) C dX9_found_177 rfl ?_
                        refine tw_bipush (v := 20) C dX9_found_179 (by decide) ?_
                        refine tw_ic_ge (tgt := 213) C dX9_found_181 (by decide) (fun hc34 => ?_) (fun hc34 => ?_)
                        · have ht34 := ite_t hc34 hf33
                          refine tw_iconst (v := 0) C dX9_found_213 (by decide) ?_
                          obtain rfl := ht34
                          exact hJ32
                        · have hf34 := ite_f hc34 hf33
                          refine tw_iload (i := 7) (z := 7) C dX9_found_184 rfl ?_
                          refine tw_bipush (v := 10) C dX9_found_186 (by decide) ?_
                          refine tw_irem C dX9_found_188 (by decide) ?_
                          refine tw_iload_n (i := 1) (z := 1) C dX9_found_189 rfl rfl ?_
                          refine tw_ic_ne (tgt := 213) C dX9_found_190 (by decide) (fun hc35 => ?_) (fun hc35 => ?_)
                          · have ht35 := ite_f hc35 hf34
                            refine tw_iconst (v := 0) C dX9_found_213 (by decide) ?_
                            obtain rfl := ht35
                            exact hJ32
                          · have hf35 := ite_t hc35 hf34
                            refine tw_iload (i := 7) (z := 7) C dX9_found_193 rfl ?_
                            refine tw_bipush (v := 10) C dX9_found_195 (by decide) ?_
                            refine tw_idiv C dX9_found_197 (by decide) ?_
                            refine tw_aload_n (i := 0) (z := 0) (r := (9, 0)) C dX9_found_198 rfl rfl ?_
                            refine tw_getI C fl_RX9_154 rfl (wcells_mem (f := 9) (j := 0) (by decide) (by decide)) rfl dX9_found_199 ?_
                            refine tw_callS (As := [.int (x9 / (10 : Int32)), .int (σ7 (9, 0) 10)]) (rest := []) C hR (kX9_ownCell K.1 _ (by omega) σ7 (x9 / (10 : Int32)) (σ7 (9, 0) 10)  rfl) mi_X9_ownCell st_X9_ownCell ml_RX9_169 rfl rfl (Nat.le_of_ble_eq_true rfl) dX9_found_202 ?_
                            show TW K 205 [(0, rv K (9, 0)), (1, .int a1), (2, .int a2), (3, .int x6), (4, .int x4), (5, .int x14), (6, .int x8), (7, .int x9), (8, .int x10)] [.int (fX9_ownCell (x9 / (10 : Int32)) (σ7 (9, 0) 10))] σ7
                            refine tw_iload_n (i := 2) (z := 2) C dX9_found_205 rfl rfl ?_
                            refine tw_ic_ne (tgt := 213) C dX9_found_206 (by decide) (fun hc36 => ?_) (fun hc36 => ?_)
                            · have ht36 := ite_f hc36 hf35
                              refine tw_iconst (v := 0) C dX9_found_213 (by decide) ?_
                              obtain rfl := ht36
                              exact hJ32
                            · have hf36 := ite_t hc36 hf35
                              refine tw_iconst (v := 1) C dX9_found_209 (by decide) ?_
                              refine tw_goto (tgt := 214) C dX9_found_210 (by decide) ?_
                              obtain rfl := hf36
                              exact hJ32
                    refine tw_ic_eq (tgt := 169) C dX9_found_162 (by decide) (fun hc31 => ?_) (fun hc31 => ?_)
                    · have ht31 := ite_t hc31 hx30
                      refine tw_iconst (v := 0) C dX9_found_169 (by decide) ?_
                      refine tw_sub [0, 1, 2, 3, 4, 6, 7, 8] rfl ?_
                      obtain rfl := ht31
                      exact hJ30
                    · have hf31 := ite_f hc31 hx30
                      refine tw_iconst (v := 1) C dX9_found_165 (by decide) ?_
                      refine tw_goto (tgt := 170) C dX9_found_166 (by decide) ?_
                      refine tw_sub [0, 1, 2, 3, 4, 6, 7, 8] rfl ?_
                      obtain rfl := hf31
                      exact hJ30
              refine tw_ic_eq (tgt := 132) C dX9_found_125 (by decide) (fun hc26 => ?_) (fun hc26 => ?_)
              · have ht26 := ite_t hc26 hx25
                refine tw_iconst (v := 0) C dX9_found_132 (by decide) ?_
                refine tw_sub [0, 1, 2, 3, 4, 6, 7, 8] rfl ?_
                obtain rfl := ht26
                exact hJ25
              · have hf26 := ite_f hc26 hx25
                refine tw_iconst (v := 1) C dX9_found_128 (by decide) ?_
                refine tw_goto (tgt := 133) C dX9_found_129 (by decide) ?_
                refine tw_sub [0, 1, 2, 3, 4, 6, 7, 8] rfl ?_
                obtain rfl := hf26
                exact hJ25
      refine lpF_ct (G := fun (q : Int32 × St) => match q with | (x1, σ2) => TW K 28 [(0, rv K (9, 0)), (1, .int a1), (2, .int a2), (3, .int (0 : Int32)), (4, .int x1)] [] σ2) ?_ hx3
      rintro ⟨x1, σ2⟩ w4 hx4 hk4
      show TW K 28 [(0, rv K (9, 0)), (1, .int a1), (2, .int a2), (3, .int (0 : Int32)), (4, .int x1)] [] σ2
      refine tw_iload (i := 4) (z := 4) C dX9_found_28 rfl ?_
      refine tw_bipush (v := 17) C dX9_found_30 (by decide) ?_
      refine tw_ic_ge (tgt := 53) C dX9_found_32 (by decide) (fun hc5 => ?_) (fun hc5 => ?_)
      · have ht5 := ite_t hc5 hx4
        refine tw_sub [0, 1, 2, 3] rfl ?_
        have e6 := lp_x ht5 hk4
        obtain rfl := (Option.some.inj e6)
        exact hJ3
      · have hf5 := ite_f hc5 hx4
        refine tw_aload_n (i := 0) (z := 0) (r := (9, 0)) C dX9_found_35 rfl rfl ?_
        refine tw_getR (g := 35) (z := 0) (j' := 0) C fl_RX9_29 rfl (wcells_mem (f := 9) (j := 0) (by decide) (by decide)) rfl rfl dX9_found_36 ?_
        refine tw_iload (i := 4) (z := 4) C dX9_found_39 rfl ?_
        refine tw_iload (i := 4) (z := 4) C dX9_found_41 rfl ?_
        refine tw_callS (As := [.int x1]) (rest := [.int x1, rv K (35, 0)]) C hR (kX9_plain K.1 _ (by omega) σ2 x1  rfl) mi_X9_plain st_X9_plain ml_RX9_102 rfl rfl (Nat.le_of_ble_eq_true rfl) dX9_found_43 ?_
        show TW K 46 [(0, rv K (9, 0)), (1, .int a1), (2, .int a2), (3, .int (0 : Int32)), (4, .int x1)] [.int (fX9_plain x1), .int x1, rv K (35, 0)] σ2
        obtain ⟨hb7, eh7⟩ := grd_some hf5
        obtain ⟨σ3, es8, eg8⟩ := bnd_ex eh7
        refine tw_iast (r := (35, 0)) C (wa_of rfl (by decide) (by decide)) hb7 dX9_found_46 ?_
        rw [es8]
        obtain ⟨x2, ex9, eh9⟩ := bnd_ex eg8
        refine tw_iinc (z := 4) (v := x2) (lv' := [(0, rv K (9, 0)), (1, .int a1), (2, .int a2), (3, .int (0 : Int32)), (4, .int x2)]) C [1, 2, 3, 4, 0] dX9_found_47 rfl ex9 (by rw [hnL]; decide) rfl ?_
        refine tw_goto (tgt := 28) C dX9_found_50 (by decide) ?_
        have hz := lp_c eh9 hk4
        exact hz
    · have hf2 := ite_f (b2i_z hc2) hf1
      refine tw_bipush (v := (-2)) C dX9_found_20 (by decide) ?_
      obtain ⟨rfl, rfl⟩ := pj2 (Option.some.inj hf2)
      exact tw_iret C hK rfl rfl dX9_found_22

set_option maxRecDepth 20000 in
def fX9_doesFit (σ : St) (a1 : Int32) (a2 : Int32) : Option (Bool × St) :=
  obi (fX9_mix σ a1 a1 (0 : Int32)) (fun σ1 =>
  bnd (fX9_clears σ1) (fun σ2 =>
  lpF (fun (q3 : St) => match q3 with
  | σ3 =>
  obi (fX9_isOver σ3 a2) (fun x1 =>
  if x1 = true then
    some (.inr ((true, σ3)))
  else
    grd (inb (((40 : Int32) * a2) + (σ3 (9, 0) 23)) 480) (
    bnd (σ3 (38, 0) (tn (((40 : Int32) * a2) + (σ3 (9, 0) 23)))) (fun x2 =>
    obi (fX9_steps σ3 a2) (fun (x3, σ4) =>
    bj (if x2 = (-1 : Int32) then
      some (.inr ())
    else
      bj (if x3 = (1 : Int32) then
        if x2 = 0 then
          some (.inl (.inl (.inr ((false, σ4)))))
        else
          some (.inr ())
      else
        some (.inr ())) (fun _ =>
      if x3 = (2 : Int32) then
        if x2 = (1 : Int32) then
          some (.inl (.inr ((false, σ4))))
        else
          some (.inr ())
      else
        some (.inr ()))) (fun _ =>
    some (.inl σ4))))))) σ2))
set_option maxRecDepth 20000 in
set_option maxHeartbeats 4000000 in
theorem kX9_doesFit (G : Gx) (d : Nat) (hdp : 8 ≤ d) (σ : St) (a1 : Int32) (a2 : Int32)  {v0 : Bool} {σ' : St} (h : fX9_doesFit σ a1 a2 = some (v0, σ')) : MS G d yX9_doesFit cX9_doesFit 5 (some .boolean) [.ref (G.2.1 (9, 0)), .int a1, .int a2] σ (some (.int (b2i v0))) σ' := by
  refine MS_of (by decide) (Nat.le_of_ble_eq_true rfl) rfl (fun K hG hnL C hR hK => ?_) (by omega)
  subst hG
  show TW K 0 [(0, rv K (9, 0)), (1, .int a1), (2, .int a2)] [] σ
  unfold fX9_doesFit at h
  refine tw_aload_n (i := 0) (z := 0) (r := (9, 0)) C dX9_doesFit_0 rfl rfl ?_
  refine tw_iload_n (i := 1) (z := 1) C dX9_doesFit_1 rfl rfl ?_
  refine tw_iload_n (i := 1) (z := 1) C dX9_doesFit_2 rfl rfl ?_
  refine tw_iconst (v := 0) C dX9_doesFit_3 (by decide) ?_
  obtain ⟨σ1, hv1, eh1⟩ := obi_some h
  refine tw_callV (As := [.int a1, .int a1, .int (0 : Int32)]) (rest := []) (r := (9, 0)) C hR (kX9_mix K.1 _ (by omega) _ a1 a1 (0 : Int32)  hv1) mi_X9_mix is_X9_mix se_X9_mix ml_RX9_233 (wcells_mem (f := 9) (j := 0) (by decide) (by decide)) rfl rfl rfl rfl (Nat.le_of_ble_eq_true rfl) dX9_doesFit_4 ?_
  show TW K 7 [(0, rv K (9, 0)), (1, .int a1), (2, .int a2)] [] σ1
  refine tw_aload_n (i := 0) (z := 0) (r := (9, 0)) C dX9_doesFit_7 rfl rfl ?_
  obtain ⟨σ2, hv2, eh2⟩ := bnd_ex eh1
  refine tw_callV (As := []) (rest := []) (r := (9, 0)) C hR (kX9_clears K.1 _ (by omega) _   hv2) mi_X9_clears is_X9_clears se_X9_clears ml_RX9_223 (wcells_mem (f := 9) (j := 0) (by decide) (by decide)) rfl rfl rfl rfl (Nat.le_of_ble_eq_true rfl) dX9_doesFit_8 ?_
  show TW K 11 [(0, rv K (9, 0)), (1, .int a1), (2, .int a2)] [] σ2
  refine tw_sub [0, 2] rfl ?_
  refine lpF_ct (G := fun (q : St) => match q with | σ3 => TW K 11 [(0, rv K (9, 0)), (2, .int a2)] [] σ3) ?_ eh2
  rintro σ3 w3 hx3 hk3
  show TW K 11 [(0, rv K (9, 0)), (2, .int a2)] [] σ3
  refine tw_aload_n (i := 0) (z := 0) (r := (9, 0)) C dX9_doesFit_11 rfl rfl ?_
  refine tw_iload_n (i := 2) (z := 1) C dX9_doesFit_12 rfl rfl ?_
  obtain ⟨x1, hv4, eh4⟩ := obi_some hx3
  refine tw_callV (As := [.int a2]) (rest := []) (r := (9, 0)) C hR (kX9_isOver K.1 _ (by omega) σ3 a2  hv4) mi_X9_isOver is_X9_isOver se_X9_isOver ml_RX9_226 (wcells_mem (f := 9) (j := 0) (by decide) (by decide)) rfl rfl rfl rfl (Nat.le_of_ble_eq_true rfl) dX9_doesFit_13 ?_
  show TW K 16 [(0, rv K (9, 0)), (2, .int a2)] [.int (b2i x1)] σ3
  refine tw_if_ne (tgt := 72) C dX9_doesFit_16 (by decide) (fun hc5 => ?_) (fun hc5 => ?_)
  · have ht5 := ite_t (b2i_nz hc5) eh4
    refine tw_iconst (v := 1) C dX9_doesFit_72 (by decide) ?_
    have e6 := lp_x ht5 hk3
    obtain ⟨rfl, rfl⟩ := pj2 (Option.some.inj e6)
    exact tw_zret C hK rfl rfl rfl dX9_doesFit_73
  · have hf5 := ite_f (b2i_z hc5) eh4
    refine tw_aload_n (i := 0) (z := 0) (r := (9, 0)) C dX9_doesFit_19 rfl rfl ?_
    refine tw_getR (g := 38) (z := 0) (j' := 0) C fl_RX9_38 rfl (wcells_mem (f := 9) (j := 0) (by decide) (by decide)) rfl rfl dX9_doesFit_20 ?_
    refine tw_bipush (v := 40) C dX9_doesFit_23 (by decide) ?_
    refine tw_iload_n (i := 2) (z := 1) C dX9_doesFit_25 rfl rfl ?_
    refine tw_imul C dX9_doesFit_26 ?_
    refine tw_aload_n (i := 0) (z := 0) (r := (9, 0)) C dX9_doesFit_27 rfl rfl ?_
    refine tw_getI C fl_RX9_217 rfl (wcells_mem (f := 9) (j := 0) (by decide) (by decide)) rfl dX9_doesFit_28 ?_
    refine tw_iadd C dX9_doesFit_31 ?_
    obtain ⟨hb7, eh7⟩ := grd_some hf5
    refine tw_iald (r := (38, 0)) C (ia_of rfl (by decide)) hb7 dX9_doesFit_32 ?_
    obtain ⟨x2, ex8, eh8⟩ := bnd_ex eh7
    refine tw_topi ex8.symm ?_
    refine tw_istore_n (lv' := [(0, rv K (9, 0)), (2, .int a2), (3, .int x2)]) C [1, 2, 0] dX9_doesFit_33 rfl (by rw [hnL]; decide) rfl ?_
    refine tw_aload_n (i := 0) (z := 0) (r := (9, 0)) C dX9_doesFit_34 rfl rfl ?_
    refine tw_iload_n (i := 2) (z := 1) C dX9_doesFit_35 rfl rfl ?_
    obtain ⟨⟨x3, σ4⟩, hv9, eh9⟩ := obi_some eh8
    refine tw_callV (As := [.int a2]) (rest := []) (r := (9, 0)) C hR (kX9_steps K.1 _ (by omega) _ a2  hv9) mi_X9_steps is_X9_steps se_X9_steps ml_RX9_229 (wcells_mem (f := 9) (j := 0) (by decide) (by decide)) rfl rfl rfl rfl (Nat.le_of_ble_eq_true rfl) dX9_doesFit_36 ?_
    show TW K 39 [(0, rv K (9, 0)), (2, .int a2), (3, .int x2)] [.int x3] σ4
    refine tw_istore (lv' := [(0, rv K (9, 0)), (2, .int a2), (3, .int x2), (4, .int x3)]) C [1, 2, 3, 0] dX9_doesFit_39 (by rw [hnL]; decide) rfl ?_
    refine tw_iload_n (i := 3) (z := 2) C dX9_doesFit_41 rfl rfl ?_
    refine tw_iconst (v := (-1)) C dX9_doesFit_42 (by decide) ?_
    obtain ⟨y10, hx10, hy10⟩ := bj_some eh9
    have hJ10 : y10 = .inr () → TW K 69 [(0, rv K (9, 0)), (2, .int a2)] [] σ4 := by
      intro  ey10
      have hq10 := bj_r ey10 hy10
      refine tw_goto (tgt := 11) C dX9_doesFit_69 (by decide) ?_
      have hz := lp_c hq10 hk3
      exact hz
    refine tw_ic_eq (tgt := 69) C dX9_doesFit_43 (by decide) (fun hc11 => ?_) (fun hc11 => ?_)
    · have ht11 := ite_t hc11 hx10
      refine tw_sub [0, 1] rfl ?_
      exact hJ10 (Option.some.inj ht11).symm
    · have hf11 := ite_f hc11 hx10
      refine tw_iload (i := 4) (z := 3) C dX9_doesFit_46 rfl ?_
      refine tw_iconst (v := 1) C dX9_doesFit_48 (by decide) ?_
      obtain ⟨y12, hx12, hy12⟩ := bj_some hf11
      have hJ12 : y12 = .inr () → TW K 56 [(0, rv K (9, 0)), (2, .int a2), (3, .int x2), (4, .int x3)] [] σ4 := by
        intro  ey12
        have hq12 := bj_r ey12 hy12
        refine tw_iload (i := 4) (z := 3) C dX9_doesFit_56 rfl ?_
        refine tw_iconst (v := 2) C dX9_doesFit_58 (by decide) ?_
        refine tw_ic_ne (tgt := 69) C dX9_doesFit_59 (by decide) (fun hc18 => ?_) (fun hc18 => ?_)
        · have ht18 := ite_f hc18 hq12
          refine tw_sub [0, 1] rfl ?_
          exact hJ10 (Option.some.inj ht18).symm
        · have hf18 := ite_t hc18 hq12
          refine tw_iload_n (i := 3) (z := 2) C dX9_doesFit_62 rfl rfl ?_
          refine tw_iconst (v := 1) C dX9_doesFit_63 (by decide) ?_
          refine tw_ic_ne (tgt := 69) C dX9_doesFit_64 (by decide) (fun hc19 => ?_) (fun hc19 => ?_)
          · have ht19 := ite_f hc19 hf18
            refine tw_sub [0, 1] rfl ?_
            exact hJ10 (Option.some.inj ht19).symm
          · have hf19 := ite_t hc19 hf18
            refine tw_iconst (v := 0) C dX9_doesFit_67 (by decide) ?_
            have e20 := bj_l hf19 hy10
            have e21 := lp_x e20 hk3
            obtain ⟨rfl, rfl⟩ := pj2 (Option.some.inj e21)
            exact tw_zret C hK rfl rfl rfl dX9_doesFit_68
      refine tw_ic_ne (tgt := 56) C dX9_doesFit_49 (by decide) (fun hc13 => ?_) (fun hc13 => ?_)
      · have ht13 := ite_f hc13 hx12
        exact hJ12 (Option.some.inj ht13).symm
      · have hf13 := ite_t hc13 hx12
        refine tw_iload_n (i := 3) (z := 2) C dX9_doesFit_52 rfl rfl ?_
        refine tw_if_eq (tgt := 67) C dX9_doesFit_53 (by decide) (fun hc14 => ?_) (fun hc14 => ?_)
        · have ht14 := ite_t hc14 hf13
          refine tw_iconst (v := 0) C dX9_doesFit_67 (by decide) ?_
          have e15 := bj_l ht14 hy12
          have e16 := bj_l e15 hy10
          have e17 := lp_x e16 hk3
          obtain ⟨rfl, rfl⟩ := pj2 (Option.some.inj e17)
          exact tw_zret C hK rfl rfl rfl dX9_doesFit_68
        · have hf14 := ite_f hc14 hf13
          exact hJ12 (Option.some.inj hf14).symm

set_option maxRecDepth 20000 in
def fX9_fits (σ : St) (a1 : Int32) (a2 : Int32) : Option (Int32 × St) :=
  if (fX9_isCode a1) = true then
    if (fX9_isMatch σ a2) = true then
      grd (inb a2 12) (
      if (σ (39, 0) (tn a2)) = 0 then
        some ((-3 : Int32), σ)
      else
        obi (fX9_doesFit σ a1 a2) (fun (x1, σ1) =>
        if x1 = true then
          some ((1 : Int32), σ1)
        else
          some ((0 : Int32), σ1)))
    else
      some ((-2 : Int32), σ)
  else
    some ((-2 : Int32), σ)
set_option maxRecDepth 20000 in
set_option maxHeartbeats 4000000 in
theorem kX9_fits (G : Gx) (d : Nat) (hdp : 9 ≤ d) (σ : St) (a1 : Int32) (a2 : Int32)  {v0 : Int32} {σ' : St} (h : fX9_fits σ a1 a2 = some (v0, σ')) : MS G d yX9_fits cX9_fits 3 (some .int) [.ref (G.2.1 (9, 0)), .int a1, .int a2] σ (some (.int v0)) σ' := by
  refine MS_of (by decide) (Nat.le_of_ble_eq_true rfl) rfl (fun K hG hnL C hR hK => ?_) (by omega)
  subst hG
  show TW K 0 [(0, rv K (9, 0)), (1, .int a1), (2, .int a2)] [] σ
  unfold fX9_fits at h
  refine tw_iload_n (i := 1) (z := 1) C dX9_fits_0 rfl rfl ?_
  refine tw_callS (As := [.int a1]) (rest := []) C hR (kX9_isCode K.1 _ (by omega) σ a1  rfl) mi_X9_isCode st_X9_isCode ml_RX9_110 rfl rfl (Nat.le_of_ble_eq_true rfl) dX9_fits_1 ?_
  show TW K 4 [(0, rv K (9, 0)), (1, .int a1), (2, .int a2)] [.int (b2i (fX9_isCode a1))] σ
  refine tw_if_eq (tgt := 15) C dX9_fits_4 (by decide) (fun hc1 => ?_) (fun hc1 => ?_)
  · have ht1 := ite_f (b2i_z hc1) h
    refine tw_bipush (v := (-2)) C dX9_fits_15 (by decide) ?_
    obtain ⟨rfl, rfl⟩ := pj2 (Option.some.inj ht1)
    exact tw_iret C hK rfl rfl dX9_fits_17
  · have hf1 := ite_t (b2i_nz hc1) h
    refine tw_aload_n (i := 0) (z := 0) (r := (9, 0)) C dX9_fits_7 rfl rfl ?_
    refine tw_iload_n (i := 2) (z := 2) C dX9_fits_8 rfl rfl ?_
    refine tw_callV (As := [.int a2]) (rest := []) (r := (9, 0)) C hR (kX9_isMatch K.1 _ (by omega) σ a2  rfl) mi_X9_isMatch is_X9_isMatch se_X9_isMatch ml_RX9_202 (wcells_mem (f := 9) (j := 0) (by decide) (by decide)) rfl rfl rfl rfl (Nat.le_of_ble_eq_true rfl) dX9_fits_9 ?_
    show TW K 12 [(0, rv K (9, 0)), (1, .int a1), (2, .int a2)] [.int (b2i (fX9_isMatch σ a2))] σ
    refine tw_if_ne (tgt := 18) C dX9_fits_12 (by decide) (fun hc2 => ?_) (fun hc2 => ?_)
    · have ht2 := ite_t (b2i_nz hc2) hf1
      refine tw_aload_n (i := 0) (z := 0) (r := (9, 0)) C dX9_fits_18 rfl rfl ?_
      refine tw_getR (g := 39) (z := 0) (j' := 0) C fl_RX9_41 rfl (wcells_mem (f := 9) (j := 0) (by decide) (by decide)) rfl rfl dX9_fits_19 ?_
      refine tw_iload_n (i := 2) (z := 2) C dX9_fits_22 rfl rfl ?_
      obtain ⟨hb3, eh3⟩ := grd_some ht2
      refine tw_zald (r := (39, 0)) C rfl (wcells_mem (f := 39) (j := 0) (by decide) (by decide)) hb3 dX9_fits_23 ?_
      refine tw_if_ne (tgt := 32) C dX9_fits_24 (by decide) (fun hc4 => ?_) (fun hc4 => ?_)
      · have ht4 := ite_f hc4 eh3
        refine tw_aload_n (i := 0) (z := 0) (r := (9, 0)) C dX9_fits_32 rfl rfl ?_
        refine tw_iload_n (i := 1) (z := 1) C dX9_fits_33 rfl rfl ?_
        refine tw_iload_n (i := 2) (z := 2) C dX9_fits_34 rfl rfl ?_
        obtain ⟨⟨x1, σ1⟩, hv5, eh5⟩ := obi_some ht4
        refine tw_callV (As := [.int a1, .int a2]) (rest := []) (r := (9, 0)) C hR (kX9_doesFit K.1 _ (by omega) _ a1 a2  hv5) mi_X9_doesFit is_X9_doesFit se_X9_doesFit ml_RX9_245 (wcells_mem (f := 9) (j := 0) (by decide) (by decide)) rfl rfl rfl rfl (Nat.le_of_ble_eq_true rfl) dX9_fits_35 ?_
        show TW K 38 [(0, rv K (9, 0)), (1, .int a1), (2, .int a2)] [.int (b2i x1)] σ1
        refine tw_if_eq (tgt := 45) C dX9_fits_38 (by decide) (fun hc6 => ?_) (fun hc6 => ?_)
        · have ht6 := ite_f (b2i_z hc6) eh5
          refine tw_iconst (v := 0) C dX9_fits_45 (by decide) ?_
          obtain ⟨rfl, rfl⟩ := pj2 (Option.some.inj ht6)
          exact tw_iret C hK rfl rfl dX9_fits_46
        · have hf6 := ite_t (b2i_nz hc6) eh5
          refine tw_iconst (v := 1) C dX9_fits_41 (by decide) ?_
          refine tw_goto (tgt := 46) C dX9_fits_42 (by decide) ?_
          obtain ⟨rfl, rfl⟩ := pj2 (Option.some.inj hf6)
          exact tw_iret C hK rfl rfl dX9_fits_46
      · have hf4 := ite_t hc4 eh3
        refine tw_bipush (v := (-3)) C dX9_fits_27 (by decide) ?_
        refine tw_goto (tgt := 46) C dX9_fits_29 (by decide) ?_
        obtain ⟨rfl, rfl⟩ := pj2 (Option.some.inj hf4)
        exact tw_iret C hK rfl rfl dX9_fits_46
    · have hf2 := ite_f (b2i_z hc2) hf1
      refine tw_bipush (v := (-2)) C dX9_fits_15 (by decide) ?_
      obtain ⟨rfl, rfl⟩ := pj2 (Option.some.inj hf2)
      exact tw_iret C hK rfl rfl dX9_fits_17

set_option maxRecDepth 20000 in
def fX9_fittingNow (σ : St)  : Option (Int32 × St) :=
  lpF (fun (q1 : Int32 × Int32 × St) => match q1 with
  | (x1, x2, σ1) =>
  if (11 : Int32) ≤ x2 then
    some (.inr ((x1, σ1)))
  else
    obi (lpF (fun (q5 : Int32 × Int32 × St) => match q5 with
    | (x4, x5, σ3) =>
    if (σ3 (9, 0) 15) ≤ x5 then
      some (.inr ((x4, σ3)))
    else
      obi (if x4 = 0 then
        some ((0 : Int32), σ3)
      else
        grd (inb x5 12) (
        if (σ3 (39, 0) (tn x5)) = 0 then
          some ((1 : Int32), σ3)
        else
          obi (fX9_doesFit σ3 x2 x5) (fun (x7, σ5) =>
          if x7 = true then
            some ((1 : Int32), σ5)
          else
            some ((0 : Int32), σ5)))) (fun (x6, σ4) =>
      bnd (x5 + 1) (fun x8 =>
      some (.inl (x6, x8, σ4))))) ((1 : Int32), (0 : Int32), σ1)) (fun (x3, σ2) =>
    bnd (if x3 = 0 then
      (0 : Int32)
    else
      (1 : Int32) <<< (x2 &&& 31)) (fun x9 =>
    bnd (x1 ||| x9) (fun x10 =>
    bnd (x2 + 1) (fun x11 =>
    some (.inl (x10, x11, σ2))))))) ((0 : Int32), (0 : Int32), σ)
set_option maxRecDepth 20000 in
set_option maxHeartbeats 4000000 in
theorem kX9_fittingNow (G : Gx) (d : Nat) (hdp : 9 ≤ d) (σ : St)   {v0 : Int32} {σ' : St} (h : fX9_fittingNow σ  = some (v0, σ')) : MS G d yX9_fittingNow cX9_fittingNow 5 (some .int) [.ref (G.2.1 (9, 0))] σ (some (.int v0)) σ' := by
  refine MS_of (by decide) (Nat.le_of_ble_eq_true rfl) rfl (fun K hG hnL C hR hK => ?_) (by omega)
  subst hG
  show TW K 0 [(0, rv K (9, 0))] [] σ
  unfold fX9_fittingNow at h
  refine tw_iconst (v := 0) C dX9_fittingNow_0 (by decide) ?_
  refine tw_istore_n (lv' := [(0, rv K (9, 0)), (1, .int (0 : Int32))]) C [1, 0] dX9_fittingNow_1 rfl (by rw [hnL]; decide) rfl ?_
  refine tw_iconst (v := 0) C dX9_fittingNow_2 (by decide) ?_
  refine tw_istore_n (lv' := [(0, rv K (9, 0)), (1, .int (0 : Int32)), (2, .int (0 : Int32))]) C [1, 2, 0] dX9_fittingNow_3 rfl (by rw [hnL]; decide) rfl ?_
  refine lpF_ct (G := fun (q : Int32 × Int32 × St) => match q with | (x1, x2, σ1) => TW K 4 [(0, rv K (9, 0)), (1, .int x1), (2, .int x2)] [] σ1) ?_ h
  rintro ⟨x1, x2, σ1⟩ w1 hx1 hk1
  show TW K 4 [(0, rv K (9, 0)), (1, .int x1), (2, .int x2)] [] σ1
  refine tw_iload_n (i := 2) (z := 2) C dX9_fittingNow_4 rfl rfl ?_
  refine tw_bipush (v := 11) C dX9_fittingNow_5 (by decide) ?_
  refine tw_ic_ge (tgt := 80) C dX9_fittingNow_7 (by decide) (fun hc2 => ?_) (fun hc2 => ?_)
  · have ht2 := ite_t hc2 hx1
    refine tw_iload_n (i := 1) (z := 1) C dX9_fittingNow_80 rfl rfl ?_
    have e3 := lp_x ht2 hk1
    obtain ⟨rfl, rfl⟩ := pj2 (Option.some.inj e3)
    exact tw_iret C hK rfl rfl dX9_fittingNow_81
  · have hf2 := ite_f hc2 hx1
    refine tw_iconst (v := 1) C dX9_fittingNow_10 (by decide) ?_
    refine tw_istore_n (lv' := [(0, rv K (9, 0)), (1, .int x1), (2, .int x2), (3, .int (1 : Int32))]) C [1, 2, 3, 0] dX9_fittingNow_11 rfl (by rw [hnL]; decide) rfl ?_
    refine tw_iconst (v := 0) C dX9_fittingNow_12 (by decide) ?_
    refine tw_istore (lv' := [(0, rv K (9, 0)), (1, .int x1), (2, .int x2), (3, .int (1 : Int32)), (4, .int (0 : Int32))]) C [1, 2, 3, 4, 0] dX9_fittingNow_13 (by rw [hnL]; decide) rfl ?_
    obtain ⟨⟨x3, σ2⟩, hx4, hq4⟩ := obi_some hf2
    have hJ4 : TW K 60 [(0, rv K (9, 0)), (1, .int x1), (2, .int x2), (3, .int x3)] [] σ2 := by
      refine tw_iload_n (i := 1) (z := 1) C dX9_fittingNow_60 rfl rfl ?_
      refine tw_iload_n (i := 3) (z := 3) C dX9_fittingNow_61 rfl rfl ?_
      obtain ⟨x9, hx15, hq15⟩ := bnd_ex hq4
      have hJ15 : TW K 72 [(0, rv K (9, 0)), (2, .int x2)] [.int x9, .int x1] σ2 := by
        refine tw_ior C dX9_fittingNow_72 ?_
        obtain ⟨x10, ex17, eh17⟩ := bnd_ex hq15
        refine tw_topi ex17.symm ?_
        refine tw_istore_n (lv' := [(0, rv K (9, 0)), (1, .int x10), (2, .int x2)]) C [1, 0, 2] dX9_fittingNow_73 rfl (by rw [hnL]; decide) rfl ?_
        obtain ⟨x11, ex18, eh18⟩ := bnd_ex eh17
        refine tw_iinc (z := 2) (v := x11) (lv' := [(0, rv K (9, 0)), (1, .int x10), (2, .int x11)]) C [1, 2, 0] dX9_fittingNow_74 rfl ex18 (by rw [hnL]; decide) rfl ?_
        refine tw_goto (tgt := 4) C dX9_fittingNow_77 (by decide) ?_
        have hz := lp_c eh18 hk1
        exact hz
      refine tw_if_eq (tgt := 71) C dX9_fittingNow_62 (by decide) (fun hc16 => ?_) (fun hc16 => ?_)
      · have ht16 := ite_t hc16 hx15
        refine tw_iconst (v := 0) C dX9_fittingNow_71 (by decide) ?_
        refine tw_sub [0, 2] rfl ?_
        obtain rfl := ht16
        exact hJ15
      · have hf16 := ite_f hc16 hx15
        refine tw_iconst (v := 1) C dX9_fittingNow_65 (by decide) ?_
        refine tw_iload_n (i := 2) (z := 2) C dX9_fittingNow_66 rfl rfl ?_
        refine tw_ishl C dX9_fittingNow_67 ?_
        refine tw_goto (tgt := 72) C dX9_fittingNow_68 (by decide) ?_
        refine tw_sub [0, 2] rfl ?_
        obtain rfl := hf16
        exact hJ15
    refine lpF_ct (G := fun (q : Int32 × Int32 × St) => match q with | (x4, x5, σ3) => TW K 15 [(0, rv K (9, 0)), (1, .int x1), (2, .int x2), (3, .int x4), (4, .int x5)] [] σ3) ?_ hx4
    rintro ⟨x4, x5, σ3⟩ w5 hx5 hk5
    show TW K 15 [(0, rv K (9, 0)), (1, .int x1), (2, .int x2), (3, .int x4), (4, .int x5)] [] σ3
    refine tw_iload (i := 4) (z := 4) C dX9_fittingNow_15 rfl ?_
    refine tw_aload_n (i := 0) (z := 0) (r := (9, 0)) C dX9_fittingNow_17 rfl rfl ?_
    refine tw_getI C fl_RX9_193 rfl (wcells_mem (f := 9) (j := 0) (by decide) (by decide)) rfl dX9_fittingNow_18 ?_
    refine tw_ic_ge (tgt := 60) C dX9_fittingNow_21 (by decide) (fun hc6 => ?_) (fun hc6 => ?_)
    · have ht6 := ite_t hc6 hx5
      refine tw_sub [0, 1, 2, 3] rfl ?_
      have e7 := lp_x ht6 hk5
      obtain ⟨rfl, rfl⟩ := pj2 (Option.some.inj e7)
      exact hJ4
    · have hf6 := ite_f hc6 hx5
      refine tw_iload_n (i := 3) (z := 3) C dX9_fittingNow_24 rfl rfl ?_
      obtain ⟨⟨x6, σ4⟩, hx8, hq8⟩ := obi_some hf6
      have hJ8 : TW K 53 [(0, rv K (9, 0)), (1, .int x1), (2, .int x2), (4, .int x5)] [.int x6] σ4 := by
        refine tw_istore_n (lv' := [(0, rv K (9, 0)), (1, .int x1), (2, .int x2), (3, .int x6), (4, .int x5)]) C [1, 2, 3, 0, 4] dX9_fittingNow_53 rfl (by rw [hnL]; decide) rfl ?_
        obtain ⟨x8, ex14, eh14⟩ := bnd_ex hq8
        refine tw_iinc (z := 4) (v := x8) (lv' := [(0, rv K (9, 0)), (1, .int x1), (2, .int x2), (3, .int x6), (4, .int x8)]) C [1, 2, 3, 4, 0] dX9_fittingNow_54 rfl ex14 (by rw [hnL]; decide) rfl ?_
        refine tw_goto (tgt := 15) C dX9_fittingNow_57 (by decide) ?_
        have hz := lp_c eh14 hk5
        exact hz
      refine tw_if_eq (tgt := 52) C dX9_fittingNow_25 (by decide) (fun hc9 => ?_) (fun hc9 => ?_)
      · have ht9 := ite_t hc9 hx8
        refine tw_iconst (v := 0) C dX9_fittingNow_52 (by decide) ?_
        refine tw_sub [0, 1, 2, 4] rfl ?_
        obtain ⟨rfl, rfl⟩ := pj2 (Option.some.inj ht9)
        exact hJ8
      · have hf9 := ite_f hc9 hx8
        refine tw_aload_n (i := 0) (z := 0) (r := (9, 0)) C dX9_fittingNow_28 rfl rfl ?_
        refine tw_getR (g := 39) (z := 0) (j' := 0) C fl_RX9_41 rfl (wcells_mem (f := 9) (j := 0) (by decide) (by decide)) rfl rfl dX9_fittingNow_29 ?_
        refine tw_iload (i := 4) (z := 4) C dX9_fittingNow_32 rfl ?_
        obtain ⟨hb10, eh10⟩ := grd_some hf9
        refine tw_zald (r := (39, 0)) C rfl (wcells_mem (f := 39) (j := 0) (by decide) (by decide)) hb10 dX9_fittingNow_34 ?_
        refine tw_if_eq (tgt := 48) C dX9_fittingNow_35 (by decide) (fun hc11 => ?_) (fun hc11 => ?_)
        · have ht11 := ite_t hc11 eh10
          refine tw_iconst (v := 1) C dX9_fittingNow_48 (by decide) ?_
          refine tw_goto (tgt := 53) C dX9_fittingNow_49 (by decide) ?_
          refine tw_sub [0, 1, 2, 4] rfl ?_
          obtain ⟨rfl, rfl⟩ := pj2 (Option.some.inj ht11)
          exact hJ8
        · have hf11 := ite_f hc11 eh10
          refine tw_aload_n (i := 0) (z := 0) (r := (9, 0)) C dX9_fittingNow_38 rfl rfl ?_
          refine tw_iload_n (i := 2) (z := 2) C dX9_fittingNow_39 rfl rfl ?_
          refine tw_iload (i := 4) (z := 4) C dX9_fittingNow_40 rfl ?_
          obtain ⟨⟨x7, σ5⟩, hv12, eh12⟩ := obi_some hf11
          refine tw_callV (As := [.int x2, .int x5]) (rest := []) (r := (9, 0)) C hR (kX9_doesFit K.1 _ (by omega) _ x2 x5  hv12) mi_X9_doesFit is_X9_doesFit se_X9_doesFit ml_RX9_245 (wcells_mem (f := 9) (j := 0) (by decide) (by decide)) rfl rfl rfl rfl (Nat.le_of_ble_eq_true rfl) dX9_fittingNow_42 ?_
          show TW K 45 [(0, rv K (9, 0)), (1, .int x1), (2, .int x2), (3, .int x4), (4, .int x5)] [.int (b2i x7)] σ5
          refine tw_if_eq (tgt := 52) C dX9_fittingNow_45 (by decide) (fun hc13 => ?_) (fun hc13 => ?_)
          · have ht13 := ite_f (b2i_z hc13) eh12
            refine tw_iconst (v := 0) C dX9_fittingNow_52 (by decide) ?_
            refine tw_sub [0, 1, 2, 4] rfl ?_
            obtain ⟨rfl, rfl⟩ := pj2 (Option.some.inj ht13)
            exact hJ8
          · have hf13 := ite_t (b2i_nz hc13) eh12
            refine tw_iconst (v := 1) C dX9_fittingNow_48 (by decide) ?_
            refine tw_goto (tgt := 53) C dX9_fittingNow_49 (by decide) ?_
            refine tw_sub [0, 1, 2, 4] rfl ?_
            obtain ⟨rfl, rfl⟩ := pj2 (Option.some.inj hf13)
            exact hJ8

set_option maxRecDepth 20000 in
def fX9_fitting (σ : St)  : Option (Int32 × St) :=
  obi (fX9_fittingNow σ) (fun (x1, σ1) =>
  some (x1, σ1))
set_option maxRecDepth 20000 in
set_option maxHeartbeats 4000000 in
theorem kX9_fitting (G : Gx) (d : Nat) (hdp : 10 ≤ d) (σ : St)   {v0 : Int32} {σ' : St} (h : fX9_fitting σ  = some (v0, σ')) : MS G d yX9_fitting cX9_fitting 1 (some .int) [.ref (G.2.1 (9, 0))] σ (some (.int v0)) σ' := by
  refine MS_of (by decide) (Nat.le_of_ble_eq_true rfl) rfl (fun K hG hnL C hR hK => ?_) (by omega)
  subst hG
  show TW K 0 [(0, rv K (9, 0))] [] σ
  unfold fX9_fitting at h
  refine tw_aload_n (i := 0) (z := 0) (r := (9, 0)) C dX9_fitting_0 rfl rfl ?_
  obtain ⟨⟨x1, σ1⟩, hv1, eh1⟩ := obi_some h
  refine tw_callV (As := []) (rest := []) (r := (9, 0)) C hR (kX9_fittingNow K.1 _ (by omega) _   hv1) mi_X9_fittingNow is_X9_fittingNow se_X9_fittingNow ml_RX9_248 (wcells_mem (f := 9) (j := 0) (by decide) (by decide)) rfl rfl rfl rfl (Nat.le_of_ble_eq_true rfl) dX9_fitting_1 ?_
  show TW K 4 [(0, rv K (9, 0))] [.int x1] σ1
  obtain ⟨rfl, rfl⟩ := pj2 (Option.some.inj eh1)
  exact tw_iret C hK rfl rfl dX9_fitting_4

set_option maxRecDepth 20000 in
def fX9_ballNumber (σ : St)  : Int32 :=
  (((9 : Int32) * (σ (9, 0) 10)) + ((3 : Int32) * (σ (9, 0) 11))) + (σ (9, 0) 12)
set_option maxRecDepth 20000 in
set_option maxHeartbeats 4000000 in
theorem kX9_ballNumber (G : Gx) (d : Nat) (hdp : 1 ≤ d) (σ : St)   {v0 : Int32} (h : fX9_ballNumber σ  = v0) : MS G d yX9_ballNumber cX9_ballNumber 1 (some .int) [.ref (G.2.1 (9, 0))] σ (some (.int v0)) σ := by
  refine MS_of (by decide) (Nat.le_of_ble_eq_true rfl) rfl (fun K hG hnL C hR hK => ?_) (by omega)
  subst hG
  show TW K 0 [(0, rv K (9, 0))] [] σ
  unfold fX9_ballNumber at h
  refine tw_bipush (v := 9) C dX9_ballNumber_0 (by decide) ?_
  refine tw_aload_n (i := 0) (z := 0) (r := (9, 0)) C dX9_ballNumber_2 rfl rfl ?_
  refine tw_getI C fl_RX9_154 rfl (wcells_mem (f := 9) (j := 0) (by decide) (by decide)) rfl dX9_ballNumber_3 ?_
  refine tw_imul C dX9_ballNumber_6 ?_
  refine tw_iconst (v := 3) C dX9_ballNumber_7 (by decide) ?_
  refine tw_aload_n (i := 0) (z := 0) (r := (9, 0)) C dX9_ballNumber_8 rfl rfl ?_
  refine tw_getI C fl_RX9_157 rfl (wcells_mem (f := 9) (j := 0) (by decide) (by decide)) rfl dX9_ballNumber_9 ?_
  refine tw_imul C dX9_ballNumber_12 ?_
  refine tw_iadd C dX9_ballNumber_13 ?_
  refine tw_aload_n (i := 0) (z := 0) (r := (9, 0)) C dX9_ballNumber_14 rfl rfl ?_
  refine tw_getI C fl_RX9_160 rfl (wcells_mem (f := 9) (j := 0) (by decide) (by decide)) rfl dX9_ballNumber_15 ?_
  refine tw_iadd C dX9_ballNumber_18 ?_
  obtain rfl := h
  exact tw_iret C hK rfl rfl dX9_ballNumber_19

set_option maxRecDepth 20000 in
def fX9_lays (σ : St) (a1 : Int32) : St :=
  bnd (fX9_ball σ (a1 / (9 : Int32)) (irm (a1 / (3 : Int32)) (3 : Int32)) (irm a1 (3 : Int32))) (fun σ1 =>
  bnd (su σ1 (9, 0) 13 (0 : Int32)) (fun σ2 =>
  bnd (su σ2 (9, 0) 14 (0 : Int32)) (fun σ3 =>
  σ3)))
set_option maxRecDepth 20000 in
set_option maxHeartbeats 4000000 in
theorem kX9_lays (G : Gx) (d : Nat) (hdp : 2 ≤ d) (σ : St) (a1 : Int32)  {σ' : St} (h : fX9_lays σ a1 = σ') : MS G d yX9_lays cX9_lays 2 none [.ref (G.2.1 (9, 0)), .int a1] σ none σ' := by
  refine MS_of (by decide) (Nat.le_of_ble_eq_true rfl) rfl (fun K hG hnL C hR hK => ?_) (by omega)
  subst hG
  show TW K 0 [(0, rv K (9, 0)), (1, .int a1)] [] σ
  unfold fX9_lays at h
  refine tw_aload_n (i := 0) (z := 0) (r := (9, 0)) C dX9_lays_0 rfl rfl ?_
  refine tw_iload_n (i := 1) (z := 1) C dX9_lays_1 rfl rfl ?_
  refine tw_bipush (v := 9) C dX9_lays_2 (by decide) ?_
  refine tw_idiv C dX9_lays_4 (by decide) ?_
  refine tw_iload_n (i := 1) (z := 1) C dX9_lays_5 rfl rfl ?_
  refine tw_iconst (v := 3) C dX9_lays_6 (by decide) ?_
  refine tw_idiv C dX9_lays_7 (by decide) ?_
  refine tw_iconst (v := 3) C dX9_lays_8 (by decide) ?_
  refine tw_irem C dX9_lays_9 (by decide) ?_
  refine tw_iload_n (i := 1) (z := 1) C dX9_lays_10 rfl rfl ?_
  refine tw_iconst (v := 3) C dX9_lays_11 (by decide) ?_
  refine tw_irem C dX9_lays_12 (by decide) ?_
  obtain ⟨σ1, hv1, eh1⟩ := bnd_ex h
  refine tw_callV (As := [.int (a1 / (9 : Int32)), .int (irm (a1 / (3 : Int32)) (3 : Int32)), .int (irm a1 (3 : Int32))]) (rest := []) (r := (9, 0)) C hR (kX9_ball K.1 _ (by omega) _ (a1 / (9 : Int32)) (irm (a1 / (3 : Int32)) (3 : Int32)) (irm a1 (3 : Int32))  hv1) mi_X9_ball is_X9_ball se_X9_ball ml_RX9_172 (wcells_mem (f := 9) (j := 0) (by decide) (by decide)) rfl rfl rfl rfl (Nat.le_of_ble_eq_true rfl) dX9_lays_13 ?_
  show TW K 16 [(0, rv K (9, 0)), (1, .int a1)] [] σ1
  refine tw_aload_n (i := 0) (z := 0) (r := (9, 0)) C dX9_lays_16 rfl rfl ?_
  refine tw_iconst (v := 0) C dX9_lays_17 (by decide) ?_
  obtain ⟨σ2, es2, eh2⟩ := bnd_ex eh1
  refine tw_put C fl_RX9_163 (fun q hq => by cases hq; rfl) rfl (wcells_mem (f := 9) (j := 0) (by decide) (by decide)) rfl rfl rfl dX9_lays_18 ?_
  rw [es2]
  refine tw_aload_n (i := 0) (z := 0) (r := (9, 0)) C dX9_lays_21 rfl rfl ?_
  refine tw_iconst (v := 0) C dX9_lays_22 (by decide) ?_
  obtain ⟨σ3, es3, eh3⟩ := bnd_ex eh2
  refine tw_put C fl_RX9_166 (fun q hq => by cases hq; rfl) rfl (wcells_mem (f := 9) (j := 0) (by decide) (by decide)) rfl rfl rfl dX9_lays_23 ?_
  rw [es3]
  obtain rfl := eh3
  exact tw_vret C hK rfl rfl dX9_lays_26

set_option maxRecDepth 20000 in
def fX9_takes (σ : St) (a1 : Bool) : Option (St) :=
  lpF (fun (q1 : Int32 × St) => match q1 with
  | (x1, σ1) =>
  if (17 : Int32) ≤ x1 then
    some (.inr σ1)
  else
    obi (if a1 = true then
      grd (inb x1 17) (
      some (σ1 (41, 0) (tn x1)))
    else
      grd (inb x1 17) (
      some (σ1 (42, 0) (tn x1)))) (fun x2 =>
    grd (inb x1 17) (bnd (su σ1 (35, 0) (tn x1) x2) (fun σ2 =>
    bnd (x1 + 1) (fun x3 =>
    some (.inl (x3, σ2))))))) ((0 : Int32), σ)
set_option maxRecDepth 20000 in
set_option maxHeartbeats 4000000 in
theorem kX9_takes (G : Gx) (d : Nat) (hdp : 1 ≤ d) (σ : St) (a1 : Bool)  {σ' : St} (h : fX9_takes σ a1 = some σ') : MS G d yX9_takes cX9_takes 3 none [.ref (G.2.1 (9, 0)), .int (b2i a1)] σ none σ' := by
  refine MS_of (by decide) (Nat.le_of_ble_eq_true rfl) rfl (fun K hG hnL C hR hK => ?_) (by omega)
  subst hG
  show TW K 0 [(0, rv K (9, 0)), (1, .int (b2i a1))] [] σ
  unfold fX9_takes at h
  refine tw_iconst (v := 0) C dX9_takes_0 (by decide) ?_
  refine tw_istore_n (lv' := [(0, rv K (9, 0)), (1, .int (b2i a1)), (2, .int (0 : Int32))]) C [1, 2, 0] dX9_takes_1 rfl (by rw [hnL]; decide) rfl ?_
  refine lpF_ct (G := fun (q : Int32 × St) => match q with | (x1, σ1) => TW K 2 [(0, rv K (9, 0)), (1, .int (b2i a1)), (2, .int x1)] [] σ1) ?_ h
  rintro ⟨x1, σ1⟩ w1 hx1 hk1
  show TW K 2 [(0, rv K (9, 0)), (1, .int (b2i a1)), (2, .int x1)] [] σ1
  refine tw_iload_n (i := 2) (z := 2) C dX9_takes_2 rfl rfl ?_
  refine tw_bipush (v := 17) C dX9_takes_3 (by decide) ?_
  refine tw_ic_ge (tgt := 39) C dX9_takes_5 (by decide) (fun hc2 => ?_) (fun hc2 => ?_)
  · have ht2 := ite_t hc2 hx1
    have e3 := lp_x ht2 hk1
    obtain rfl := (Option.some.inj e3)
    exact tw_vret C hK rfl rfl dX9_takes_39
  · have hf2 := ite_f hc2 hx1
    refine tw_aload_n (i := 0) (z := 0) (r := (9, 0)) C dX9_takes_8 rfl rfl ?_
    refine tw_getR (g := 35) (z := 0) (j' := 0) C fl_RX9_29 rfl (wcells_mem (f := 9) (j := 0) (by decide) (by decide)) rfl rfl dX9_takes_9 ?_
    refine tw_iload_n (i := 2) (z := 2) C dX9_takes_12 rfl rfl ?_
    refine tw_iload_n (i := 1) (z := 1) C dX9_takes_13 rfl rfl ?_
    obtain ⟨x2, hx4, hq4⟩ := obi_some hf2
    have hJ4 : TW K 32 [(0, rv K (9, 0)), (1, .int (b2i a1)), (2, .int x1)] [.int x2, .int x1, rv K (35, 0)] σ1 := by
      obtain ⟨hb8, eh8⟩ := grd_some hq4
      obtain ⟨σ2, es9, eg9⟩ := bnd_ex eh8
      refine tw_iast (r := (35, 0)) C (wa_of rfl (by decide) (by decide)) hb8 dX9_takes_32 ?_
      rw [es9]
      obtain ⟨x3, ex10, eh10⟩ := bnd_ex eg9
      refine tw_iinc (z := 2) (v := x3) (lv' := [(0, rv K (9, 0)), (1, .int (b2i a1)), (2, .int x3)]) C [1, 2, 0] dX9_takes_33 rfl ex10 (by rw [hnL]; decide) rfl ?_
      refine tw_goto (tgt := 2) C dX9_takes_36 (by decide) ?_
      have hz := lp_c eh10 hk1
      exact hz
    refine tw_if_eq (tgt := 26) C dX9_takes_14 (by decide) (fun hc5 => ?_) (fun hc5 => ?_)
    · have ht5 := ite_f (b2i_z hc5) hx4
      refine tw_aload_n (i := 0) (z := 0) (r := (9, 0)) C dX9_takes_26 rfl rfl ?_
      refine tw_getR (g := 42) (z := 0) (j' := 0) C fl_RX9_50 rfl (wcells_mem (f := 9) (j := 0) (by decide) (by decide)) rfl rfl dX9_takes_27 ?_
      refine tw_iload_n (i := 2) (z := 2) C dX9_takes_30 rfl rfl ?_
      obtain ⟨hb6, eh6⟩ := grd_some ht5
      refine tw_iald (r := (42, 0)) C (ia_of rfl (by decide)) hb6 dX9_takes_31 ?_
      obtain rfl := (Option.some.inj eh6)
      exact hJ4
    · have hf5 := ite_t (b2i_nz hc5) hx4
      refine tw_aload_n (i := 0) (z := 0) (r := (9, 0)) C dX9_takes_17 rfl rfl ?_
      refine tw_getR (g := 41) (z := 0) (j' := 0) C fl_RX9_47 rfl (wcells_mem (f := 9) (j := 0) (by decide) (by decide)) rfl rfl dX9_takes_18 ?_
      refine tw_iload_n (i := 2) (z := 2) C dX9_takes_21 rfl rfl ?_
      obtain ⟨hb7, eh7⟩ := grd_some hf5
      refine tw_iald (r := (41, 0)) C (ia_of rfl (by decide)) hb7 dX9_takes_22 ?_
      refine tw_goto (tgt := 32) C dX9_takes_23 (by decide) ?_
      obtain rfl := (Option.some.inj eh7)
      exact hJ4

set_option maxRecDepth 20000 in
def fX9_end (σ : St) (a1 : Int32) (a2 : Int32) (a3 : Bool) : Option (Int32 × St) :=
  obi (fX9_takes σ a3) (fun σ1 =>
  bnd (fX9_lays σ1 a1) (fun σ2 =>
  obi (fX9_goesOn σ2 a2 (-1 : Int32)) (fun (x1, σ3) =>
  if x1 = 0 then
    some ((-1 : Int32), σ3)
  else
    some (((((100000 : Int32) * x1) + ((10000 : Int32) * (σ3 (9, 0) 13))) + ((1000 : Int32) * (σ3 (9, 0) 14))) + (fX9_ballNumber σ3), σ3))))
set_option maxRecDepth 20000 in
set_option maxHeartbeats 4000000 in
theorem kX9_end (G : Gx) (d : Nat) (hdp : 6 ≤ d) (σ : St) (a1 : Int32) (a2 : Int32) (a3 : Bool)  {v0 : Int32} {σ' : St} (h : fX9_end σ a1 a2 a3 = some (v0, σ')) : MS G d yX9_end cX9_end 5 (some .int) [.ref (G.2.1 (9, 0)), .int a1, .int a2, .int (b2i a3)] σ (some (.int v0)) σ' := by
  refine MS_of (by decide) (Nat.le_of_ble_eq_true rfl) rfl (fun K hG hnL C hR hK => ?_) (by omega)
  subst hG
  show TW K 0 [(0, rv K (9, 0)), (1, .int a1), (2, .int a2), (3, .int (b2i a3))] [] σ
  unfold fX9_end at h
  refine tw_aload_n (i := 0) (z := 0) (r := (9, 0)) C dX9_end_0 rfl rfl ?_
  refine tw_iload_n (i := 3) (z := 3) C dX9_end_1 rfl rfl ?_
  obtain ⟨σ1, hv1, eh1⟩ := obi_some h
  refine tw_callV (As := [.int (b2i a3)]) (rest := []) (r := (9, 0)) C hR (kX9_takes K.1 _ (by omega) _ a3  hv1) mi_X9_takes is_X9_takes se_X9_takes ml_RX9_251 (wcells_mem (f := 9) (j := 0) (by decide) (by decide)) rfl rfl rfl rfl (Nat.le_of_ble_eq_true rfl) dX9_end_2 ?_
  show TW K 5 [(0, rv K (9, 0)), (1, .int a1), (2, .int a2), (3, .int (b2i a3))] [] σ1
  refine tw_aload_n (i := 0) (z := 0) (r := (9, 0)) C dX9_end_5 rfl rfl ?_
  refine tw_iload_n (i := 1) (z := 1) C dX9_end_6 rfl rfl ?_
  obtain ⟨σ2, hv2, eh2⟩ := bnd_ex eh1
  refine tw_callV (As := [.int a1]) (rest := []) (r := (9, 0)) C hR (kX9_lays K.1 _ (by omega) _ a1  hv2) mi_X9_lays is_X9_lays se_X9_lays ml_RX9_255 (wcells_mem (f := 9) (j := 0) (by decide) (by decide)) rfl rfl rfl rfl (Nat.le_of_ble_eq_true rfl) dX9_end_7 ?_
  show TW K 10 [(0, rv K (9, 0)), (1, .int a1), (2, .int a2), (3, .int (b2i a3))] [] σ2
  refine tw_aload_n (i := 0) (z := 0) (r := (9, 0)) C dX9_end_10 rfl rfl ?_
  refine tw_iload_n (i := 2) (z := 2) C dX9_end_11 rfl rfl ?_
  refine tw_iconst (v := (-1)) C dX9_end_12 (by decide) ?_
  obtain ⟨⟨x1, σ3⟩, hv3, eh3⟩ := obi_some eh2
  refine tw_callV (As := [.int a2, .int (-1 : Int32)]) (rest := []) (r := (9, 0)) C hR (kX9_goesOn K.1 _ (by omega) _ a2 (-1 : Int32)  hv3) mi_X9_goesOn is_X9_goesOn se_X9_goesOn ml_RX9_220 (wcells_mem (f := 9) (j := 0) (by decide) (by decide)) rfl rfl rfl rfl (Nat.le_of_ble_eq_true rfl) dX9_end_13 ?_
  show TW K 16 [(0, rv K (9, 0)), (1, .int a1), (2, .int a2), (3, .int (b2i a3))] [.int x1] σ3
  refine tw_istore (lv' := [(0, rv K (9, 0)), (1, .int a1), (2, .int a2), (3, .int (b2i a3)), (4, .int x1)]) C [1, 2, 3, 4, 0] dX9_end_16 (by rw [hnL]; decide) rfl ?_
  refine tw_iload (i := 4) (z := 4) C dX9_end_18 rfl ?_
  refine tw_if_ne (tgt := 27) C dX9_end_20 (by decide) (fun hc4 => ?_) (fun hc4 => ?_)
  · have ht4 := ite_f hc4 eh3
    refine tw_ldcw C cn_RX9_258 dX9_end_27 ?_
    refine tw_iload (i := 4) (z := 4) C dX9_end_30 rfl ?_
    refine tw_imul C dX9_end_32 ?_
    refine tw_sipush (v := 10000) C dX9_end_33 (by decide) ?_
    refine tw_aload_n (i := 0) (z := 0) (r := (9, 0)) C dX9_end_36 rfl rfl ?_
    refine tw_getI C fl_RX9_163 rfl (wcells_mem (f := 9) (j := 0) (by decide) (by decide)) rfl dX9_end_37 ?_
    refine tw_imul C dX9_end_40 ?_
    refine tw_iadd C dX9_end_41 ?_
    refine tw_sipush (v := 1000) C dX9_end_42 (by decide) ?_
    refine tw_aload_n (i := 0) (z := 0) (r := (9, 0)) C dX9_end_45 rfl rfl ?_
    refine tw_getI C fl_RX9_166 rfl (wcells_mem (f := 9) (j := 0) (by decide) (by decide)) rfl dX9_end_46 ?_
    refine tw_imul C dX9_end_49 ?_
    refine tw_iadd C dX9_end_50 ?_
    refine tw_aload_n (i := 0) (z := 0) (r := (9, 0)) C dX9_end_51 rfl rfl ?_
    refine tw_callV (As := []) (rest := [.int ((((100000 : Int32) * x1) + ((10000 : Int32) * (σ3 (9, 0) 13))) + ((1000 : Int32) * (σ3 (9, 0) 14)))]) (r := (9, 0)) C hR (kX9_ballNumber K.1 _ (by omega) σ3   rfl) mi_X9_ballNumber is_X9_ballNumber se_X9_ballNumber ml_RX9_259 (wcells_mem (f := 9) (j := 0) (by decide) (by decide)) rfl rfl rfl rfl (Nat.le_of_ble_eq_true rfl) dX9_end_52 ?_
    show TW K 55 [(0, rv K (9, 0)), (1, .int a1), (2, .int a2), (3, .int (b2i a3)), (4, .int x1)] [.int (fX9_ballNumber σ3), .int ((((100000 : Int32) * x1) + ((10000 : Int32) * (σ3 (9, 0) 13))) + ((1000 : Int32) * (σ3 (9, 0) 14)))] σ3
    refine tw_iadd C dX9_end_55 ?_
    obtain ⟨rfl, rfl⟩ := pj2 (Option.some.inj ht4)
    exact tw_iret C hK rfl rfl dX9_end_56
  · have hf4 := ite_t hc4 eh3
    refine tw_iconst (v := (-1)) C dX9_end_23 (by decide) ?_
    refine tw_goto (tgt := 56) C dX9_end_24 (by decide) ?_
    obtain ⟨rfl, rfl⟩ := pj2 (Option.some.inj hf4)
    exact tw_iret C hK rfl rfl dX9_end_56

set_option maxRecDepth 20000 in
def fX9_doPart (σ : St) (a1 : Int32) (a2 : Int32) : Option (Bool × St) :=
  obi (fX9_end σ a1 a2 true) (fun (x1, σ1) =>
  obi (fX9_end σ1 a1 a2 false) (fun (x2, σ2) =>
  if x1 = x2 then
    some (false, σ2)
  else
    some (true, σ2)))
set_option maxRecDepth 20000 in
set_option maxHeartbeats 4000000 in
theorem kX9_doPart (G : Gx) (d : Nat) (hdp : 7 ≤ d) (σ : St) (a1 : Int32) (a2 : Int32)  {v0 : Bool} {σ' : St} (h : fX9_doPart σ a1 a2 = some (v0, σ')) : MS G d yX9_doPart cX9_doPart 3 (some .boolean) [.ref (G.2.1 (9, 0)), .int a1, .int a2] σ (some (.int (b2i v0))) σ' := by
  refine MS_of (by decide) (Nat.le_of_ble_eq_true rfl) rfl (fun K hG hnL C hR hK => ?_) (by omega)
  subst hG
  show TW K 0 [(0, rv K (9, 0)), (1, .int a1), (2, .int a2)] [] σ
  unfold fX9_doPart at h
  refine tw_aload_n (i := 0) (z := 0) (r := (9, 0)) C dX9_doPart_0 rfl rfl ?_
  refine tw_iload_n (i := 1) (z := 1) C dX9_doPart_1 rfl rfl ?_
  refine tw_iload_n (i := 2) (z := 2) C dX9_doPart_2 rfl rfl ?_
  refine tw_iconst (v := 1) C dX9_doPart_3 (by decide) ?_
  obtain ⟨⟨x1, σ1⟩, hv1, eh1⟩ := obi_some h
  refine tw_callV (As := [.int a1, .int a2, .int (b2i true)]) (rest := []) (r := (9, 0)) C hR (kX9_end K.1 _ (by omega) _ a1 a2 true  hv1) mi_X9_end is_X9_end se_X9_end ml_RX9_268 (wcells_mem (f := 9) (j := 0) (by decide) (by decide)) rfl rfl rfl rfl (Nat.le_of_ble_eq_true rfl) dX9_doPart_4 ?_
  show TW K 7 [(0, rv K (9, 0)), (1, .int a1), (2, .int a2)] [.int x1] σ1
  refine tw_aload_n (i := 0) (z := 0) (r := (9, 0)) C dX9_doPart_7 rfl rfl ?_
  refine tw_iload_n (i := 1) (z := 1) C dX9_doPart_8 rfl rfl ?_
  refine tw_iload_n (i := 2) (z := 2) C dX9_doPart_9 rfl rfl ?_
  refine tw_iconst (v := 0) C dX9_doPart_10 (by decide) ?_
  obtain ⟨⟨x2, σ2⟩, hv2, eh2⟩ := obi_some eh1
  refine tw_callV (As := [.int a1, .int a2, .int (b2i false)]) (rest := [.int x1]) (r := (9, 0)) C hR (kX9_end K.1 _ (by omega) _ a1 a2 false  hv2) mi_X9_end is_X9_end se_X9_end ml_RX9_268 (wcells_mem (f := 9) (j := 0) (by decide) (by decide)) rfl rfl rfl rfl (Nat.le_of_ble_eq_true rfl) dX9_doPart_11 ?_
  show TW K 14 [(0, rv K (9, 0)), (1, .int a1), (2, .int a2)] [.int x2, .int x1] σ2
  refine tw_ic_eq (tgt := 21) C dX9_doPart_14 (by decide) (fun hc3 => ?_) (fun hc3 => ?_)
  · have ht3 := ite_t hc3 eh2
    refine tw_iconst (v := 0) C dX9_doPart_21 (by decide) ?_
    obtain ⟨rfl, rfl⟩ := pj2 (Option.some.inj ht3)
    exact tw_zret C hK rfl rfl rfl dX9_doPart_22
  · have hf3 := ite_f hc3 eh2
    refine tw_iconst (v := 1) C dX9_doPart_17 (by decide) ?_
    refine tw_goto (tgt := 22) C dX9_doPart_18 (by decide) ?_
    obtain ⟨rfl, rfl⟩ := pj2 (Option.some.inj hf3)
    exact tw_zret C hK rfl rfl rfl dX9_doPart_22

set_option maxRecDepth 20000 in
def fX9_goesNear (σ : St) (a1 : Int32) (a2 : Int32) (a3 : Int32) : Option (Bool × St) :=
  obi (fX9_end σ a1 a2 true) (fun (x1, σ1) =>
  if x1 = (-1 : Int32) then
    some (false, σ1)
  else
    obi (fX9_end σ1 a1 a2 false) (fun (x2, σ2) =>
    if x1 = x2 then
      grd (inb (irm x1 (100 : Int32)) 63) (
      if (σ2 (40, 0) (tn (irm x1 (100 : Int32)))) = a3 then
        some (true, σ2)
      else
        some (false, σ2))
    else
      some (false, σ2)))
set_option maxRecDepth 20000 in
set_option maxHeartbeats 4000000 in
theorem kX9_goesNear (G : Gx) (d : Nat) (hdp : 7 ≤ d) (σ : St) (a1 : Int32) (a2 : Int32) (a3 : Int32)  {v0 : Bool} {σ' : St} (h : fX9_goesNear σ a1 a2 a3 = some (v0, σ')) : MS G d yX9_goesNear cX9_goesNear 5 (some .boolean) [.ref (G.2.1 (9, 0)), .int a1, .int a2, .int a3] σ (some (.int (b2i v0))) σ' := by
  refine MS_of (by decide) (Nat.le_of_ble_eq_true rfl) rfl (fun K hG hnL C hR hK => ?_) (by omega)
  subst hG
  show TW K 0 [(0, rv K (9, 0)), (1, .int a1), (2, .int a2), (3, .int a3)] [] σ
  unfold fX9_goesNear at h
  refine tw_aload_n (i := 0) (z := 0) (r := (9, 0)) C dX9_goesNear_0 rfl rfl ?_
  refine tw_iload_n (i := 1) (z := 1) C dX9_goesNear_1 rfl rfl ?_
  refine tw_iload_n (i := 2) (z := 2) C dX9_goesNear_2 rfl rfl ?_
  refine tw_iconst (v := 1) C dX9_goesNear_3 (by decide) ?_
  obtain ⟨⟨x1, σ1⟩, hv1, eh1⟩ := obi_some h
  refine tw_callV (As := [.int a1, .int a2, .int (b2i true)]) (rest := []) (r := (9, 0)) C hR (kX9_end K.1 _ (by omega) _ a1 a2 true  hv1) mi_X9_end is_X9_end se_X9_end ml_RX9_268 (wcells_mem (f := 9) (j := 0) (by decide) (by decide)) rfl rfl rfl rfl (Nat.le_of_ble_eq_true rfl) dX9_goesNear_4 ?_
  show TW K 7 [(0, rv K (9, 0)), (1, .int a1), (2, .int a2), (3, .int a3)] [.int x1] σ1
  refine tw_istore (lv' := [(0, rv K (9, 0)), (1, .int a1), (2, .int a2), (3, .int a3), (4, .int x1)]) C [1, 2, 3, 4, 0] dX9_goesNear_7 (by rw [hnL]; decide) rfl ?_
  refine tw_iload (i := 4) (z := 4) C dX9_goesNear_9 rfl ?_
  refine tw_iconst (v := (-1)) C dX9_goesNear_11 (by decide) ?_
  refine tw_ic_eq (tgt := 45) C dX9_goesNear_12 (by decide) (fun hc2 => ?_) (fun hc2 => ?_)
  · have ht2 := ite_t hc2 eh1
    refine tw_iconst (v := 0) C dX9_goesNear_45 (by decide) ?_
    obtain ⟨rfl, rfl⟩ := pj2 (Option.some.inj ht2)
    exact tw_zret C hK rfl rfl rfl dX9_goesNear_46
  · have hf2 := ite_f hc2 eh1
    refine tw_iload (i := 4) (z := 4) C dX9_goesNear_15 rfl ?_
    refine tw_aload_n (i := 0) (z := 0) (r := (9, 0)) C dX9_goesNear_17 rfl rfl ?_
    refine tw_iload_n (i := 1) (z := 1) C dX9_goesNear_18 rfl rfl ?_
    refine tw_iload_n (i := 2) (z := 2) C dX9_goesNear_19 rfl rfl ?_
    refine tw_iconst (v := 0) C dX9_goesNear_20 (by decide) ?_
    obtain ⟨⟨x2, σ2⟩, hv3, eh3⟩ := obi_some hf2
    refine tw_callV (As := [.int a1, .int a2, .int (b2i false)]) (rest := [.int x1]) (r := (9, 0)) C hR (kX9_end K.1 _ (by omega) _ a1 a2 false  hv3) mi_X9_end is_X9_end se_X9_end ml_RX9_268 (wcells_mem (f := 9) (j := 0) (by decide) (by decide)) rfl rfl rfl rfl (Nat.le_of_ble_eq_true rfl) dX9_goesNear_21 ?_
    show TW K 24 [(0, rv K (9, 0)), (1, .int a1), (2, .int a2), (3, .int a3), (4, .int x1)] [.int x2, .int x1] σ2
    refine tw_ic_ne (tgt := 45) C dX9_goesNear_24 (by decide) (fun hc4 => ?_) (fun hc4 => ?_)
    · have ht4 := ite_f hc4 eh3
      refine tw_iconst (v := 0) C dX9_goesNear_45 (by decide) ?_
      obtain ⟨rfl, rfl⟩ := pj2 (Option.some.inj ht4)
      exact tw_zret C hK rfl rfl rfl dX9_goesNear_46
    · have hf4 := ite_t hc4 eh3
      refine tw_aload_n (i := 0) (z := 0) (r := (9, 0)) C dX9_goesNear_27 rfl rfl ?_
      refine tw_getR (g := 40) (z := 0) (j' := 0) C fl_RX9_44 rfl (wcells_mem (f := 9) (j := 0) (by decide) (by decide)) rfl rfl dX9_goesNear_28 ?_
      refine tw_iload (i := 4) (z := 4) C dX9_goesNear_31 rfl ?_
      refine tw_bipush (v := 100) C dX9_goesNear_33 (by decide) ?_
      refine tw_irem C dX9_goesNear_35 (by decide) ?_
      obtain ⟨hb5, eh5⟩ := grd_some hf4
      refine tw_iald (r := (40, 0)) C (ia_of rfl (by decide)) hb5 dX9_goesNear_36 ?_
      refine tw_iload_n (i := 3) (z := 3) C dX9_goesNear_37 rfl rfl ?_
      refine tw_ic_ne (tgt := 45) C dX9_goesNear_38 (by decide) (fun hc6 => ?_) (fun hc6 => ?_)
      · have ht6 := ite_f hc6 eh5
        refine tw_iconst (v := 0) C dX9_goesNear_45 (by decide) ?_
        obtain ⟨rfl, rfl⟩ := pj2 (Option.some.inj ht6)
        exact tw_zret C hK rfl rfl rfl dX9_goesNear_46
      · have hf6 := ite_t hc6 eh5
        refine tw_iconst (v := 1) C dX9_goesNear_41 (by decide) ?_
        refine tw_goto (tgt := 46) C dX9_goesNear_42 (by decide) ?_
        obtain ⟨rfl, rfl⟩ := pj2 (Option.some.inj hf6)
        exact tw_zret C hK rfl rfl rfl dX9_goesNear_46

set_option maxRecDepth 20000 in
def fX9_distances (σ : St) (a1 : Int32) (a2 : Int32) : Option (St) :=
  obi (fX9_mix σ a1 a1 (0 : Int32)) (fun σ1 =>
  obi (lpF (fun (q3 : Int32 × St) => match q3 with
  | (x1, σ3) =>
  if (17 : Int32) ≤ x1 then
    some (.inr σ3)
  else
    grd (inb x1 17) (
    grd (inb x1 17) (bnd (su σ3 (41, 0) (tn x1) (σ3 (35, 0) (tn x1))) (fun σ4 =>
    obi (fX9_itemOf σ4 a2 x1) (fun (x2, σ5) =>
    grd (inb x1 17) (bnd (su σ5 (42, 0) (tn x1) x2) (fun σ6 =>
    bnd (x1 + 1) (fun x3 =>
    some (.inl (x3, σ6)))))))))) ((0 : Int32), σ1)) (fun σ2 =>
  obi (lpF (fun (q14 : Int32 × St) => match q14 with
  | (x4, σ8) =>
  if (63 : Int32) ≤ x4 then
    some (.inr σ8)
  else
    grd (inb x4 63) (bnd (su σ8 (40, 0) (tn x4) (99 : Int32)) (fun σ9 =>
    bnd (x4 + 1) (fun x5 =>
    some (.inl (x5, σ9)))))) ((0 : Int32), σ2)) (fun σ7 =>
  lpF (fun (q20 : Int32 × St) => match q20 with
  | (x6, σ10) =>
  if (7 : Int32) ≤ x6 then
    some (.inr σ10)
  else
    obi (lpF (fun (q24 : Int32 × St) => match q24 with
    | (x7, σ12) =>
    if (63 : Int32) ≤ x7 then
      some (.inr σ12)
    else
      obi (lpF (fun (q28 : Int32 × St) => match q28 with
      | (x8, σ14) =>
      if (40 : Int32) ≤ x8 then
        some (.inr σ14)
      else
        grd (inb x7 63) (
        if (σ14 (40, 0) (tn x7)) = (99 : Int32) then
          obi (if x6 = (1 : Int32) then
            obi (fX9_doPart σ14 x7 x8) (fun (x11, σ17) =>
            if x11 = true then
              some ((1 : Int32), σ17)
            else
              some ((99 : Int32), σ17))
          else
            obi (fX9_goesNear σ14 x7 x8 (x6 - (1 : Int32))) (fun (x10, σ16) =>
            if x10 = true then
              some (x6, σ16)
            else
              some ((99 : Int32), σ16))) (fun (x9, σ15) =>
          grd (inb x7 63) (bnd (su σ15 (40, 0) (tn x7) x9) (fun σ18 =>
          bnd (x8 + 1) (fun x12 =>
          some (.inl (x12, σ18))))))
        else
          some (.inr σ14))) ((0 : Int32), σ12)) (fun σ13 =>
      bnd (x7 + 1) (fun x13 =>
      some (.inl (x13, σ13))))) ((0 : Int32), σ10)) (fun σ11 =>
    bnd (x6 + 1) (fun x14 =>
    some (.inl (x14, σ11))))) ((1 : Int32), σ7))))
set_option maxRecDepth 20000 in
set_option maxHeartbeats 4000000 in
theorem kX9_distances (G : Gx) (d : Nat) (hdp : 8 ≤ d) (σ : St) (a1 : Int32) (a2 : Int32)  {σ' : St} (h : fX9_distances σ a1 a2 = some σ') : MS G d yX9_distances cX9_distances 6 none [.ref (G.2.1 (9, 0)), .int a1, .int a2] σ none σ' := by
  refine MS_of (by decide) (Nat.le_of_ble_eq_true rfl) rfl (fun K hG hnL C hR hK => ?_) (by omega)
  subst hG
  show TW K 0 [(0, rv K (9, 0)), (1, .int a1), (2, .int a2)] [] σ
  unfold fX9_distances at h
  refine tw_aload_n (i := 0) (z := 0) (r := (9, 0)) C dX9_distances_0 rfl rfl ?_
  refine tw_iload_n (i := 1) (z := 1) C dX9_distances_1 rfl rfl ?_
  refine tw_iload_n (i := 1) (z := 1) C dX9_distances_2 rfl rfl ?_
  refine tw_iconst (v := 0) C dX9_distances_3 (by decide) ?_
  obtain ⟨σ1, hv1, eh1⟩ := obi_some h
  refine tw_callV (As := [.int a1, .int a1, .int (0 : Int32)]) (rest := []) (r := (9, 0)) C hR (kX9_mix K.1 _ (by omega) _ a1 a1 (0 : Int32)  hv1) mi_X9_mix is_X9_mix se_X9_mix ml_RX9_233 (wcells_mem (f := 9) (j := 0) (by decide) (by decide)) rfl rfl rfl rfl (Nat.le_of_ble_eq_true rfl) dX9_distances_4 ?_
  show TW K 7 [(0, rv K (9, 0)), (1, .int a1), (2, .int a2)] [] σ1
  refine tw_iconst (v := 0) C dX9_distances_7 (by decide) ?_
  refine tw_istore_n (lv' := [(0, rv K (9, 0)), (1, .int a1), (2, .int a2), (3, .int (0 : Int32))]) C [1, 2, 3, 0] dX9_distances_8 rfl (by rw [hnL]; decide) rfl ?_
  obtain ⟨σ2, hx2, hq2⟩ := obi_some eh1
  have hJ2 : TW K 45 [(0, rv K (9, 0))] [] σ2 := by
    refine tw_iconst (v := 0) C dX9_distances_45 (by decide) ?_
    refine tw_istore_n (lv' := [(0, rv K (9, 0)), (3, .int (0 : Int32))]) C [1, 0] dX9_distances_46 rfl (by rw [hnL]; decide) rfl ?_
    obtain ⟨σ7, hx13, hq13⟩ := obi_some hq2
    have hJ13 : TW K 67 [(0, rv K (9, 0))] [] σ7 := by
      refine tw_iconst (v := 1) C dX9_distances_67 (by decide) ?_
      refine tw_istore_n (lv' := [(0, rv K (9, 0)), (3, .int (1 : Int32))]) C [1, 0] dX9_distances_68 rfl (by rw [hnL]; decide) rfl ?_
      refine lpF_ct (G := fun (q : Int32 × St) => match q with | (x6, σ10) => TW K 69 [(0, rv K (9, 0)), (3, .int x6)] [] σ10) ?_ hq13
      rintro ⟨x6, σ10⟩ w20 hx20 hk20
      show TW K 69 [(0, rv K (9, 0)), (3, .int x6)] [] σ10
      refine tw_iload_n (i := 3) (z := 1) C dX9_distances_69 rfl rfl ?_
      refine tw_bipush (v := 7) C dX9_distances_70 (by decide) ?_
      refine tw_ic_ge (tgt := 177) C dX9_distances_72 (by decide) (fun hc21 => ?_) (fun hc21 => ?_)
      · have ht21 := ite_t hc21 hx20
        have e22 := lp_x ht21 hk20
        obtain rfl := (Option.some.inj e22)
        exact tw_vret C hK rfl rfl dX9_distances_177
      · have hf21 := ite_f hc21 hx20
        refine tw_iconst (v := 0) C dX9_distances_75 (by decide) ?_
        refine tw_istore (lv' := [(0, rv K (9, 0)), (3, .int x6), (4, .int (0 : Int32))]) C [1, 2, 0] dX9_distances_76 (by rw [hnL]; decide) rfl ?_
        obtain ⟨σ11, hx23, hq23⟩ := obi_some hf21
        have hJ23 : TW K 171 [(0, rv K (9, 0)), (3, .int x6)] [] σ11 := by
          obtain ⟨x14, ex44, eh44⟩ := bnd_ex hq23
          refine tw_iinc (z := 1) (v := x14) (lv' := [(0, rv K (9, 0)), (3, .int x14)]) C [1, 0] dX9_distances_171 rfl ex44 (by rw [hnL]; decide) rfl ?_
          refine tw_goto (tgt := 69) C dX9_distances_174 (by decide) ?_
          have hz := lp_c eh44 hk20
          exact hz
        refine lpF_ct (G := fun (q : Int32 × St) => match q with | (x7, σ12) => TW K 78 [(0, rv K (9, 0)), (3, .int x6), (4, .int x7)] [] σ12) ?_ hx23
        rintro ⟨x7, σ12⟩ w24 hx24 hk24
        show TW K 78 [(0, rv K (9, 0)), (3, .int x6), (4, .int x7)] [] σ12
        refine tw_iload (i := 4) (z := 2) C dX9_distances_78 rfl ?_
        refine tw_bipush (v := 63) C dX9_distances_80 (by decide) ?_
        refine tw_ic_ge (tgt := 171) C dX9_distances_82 (by decide) (fun hc25 => ?_) (fun hc25 => ?_)
        · have ht25 := ite_t hc25 hx24
          refine tw_sub [0, 1] rfl ?_
          have e26 := lp_x ht25 hk24
          obtain rfl := (Option.some.inj e26)
          exact hJ23
        · have hf25 := ite_f hc25 hx24
          refine tw_iconst (v := 0) C dX9_distances_85 (by decide) ?_
          refine tw_istore (lv' := [(0, rv K (9, 0)), (3, .int x6), (4, .int x7), (5, .int (0 : Int32))]) C [1, 2, 3, 0] dX9_distances_86 (by rw [hnL]; decide) rfl ?_
          obtain ⟨σ13, hx27, hq27⟩ := obi_some hf25
          have hJ27 : TW K 165 [(0, rv K (9, 0)), (3, .int x6), (4, .int x7)] [] σ13 := by
            obtain ⟨x13, ex43, eh43⟩ := bnd_ex hq27
            refine tw_iinc (z := 2) (v := x13) (lv' := [(0, rv K (9, 0)), (3, .int x6), (4, .int x13)]) C [1, 2, 0] dX9_distances_165 rfl ex43 (by rw [hnL]; decide) rfl ?_
            refine tw_goto (tgt := 78) C dX9_distances_168 (by decide) ?_
            have hz := lp_c eh43 hk24
            exact hz
          refine lpF_ct (G := fun (q : Int32 × St) => match q with | (x8, σ14) => TW K 88 [(0, rv K (9, 0)), (3, .int x6), (4, .int x7), (5, .int x8)] [] σ14) ?_ hx27
          rintro ⟨x8, σ14⟩ w28 hx28 hk28
          show TW K 88 [(0, rv K (9, 0)), (3, .int x6), (4, .int x7), (5, .int x8)] [] σ14
          refine tw_iload (i := 5) (z := 3) C dX9_distances_88 rfl ?_
          refine tw_bipush (v := 40) C dX9_distances_90 (by decide) ?_
          refine tw_ic_ge (tgt := 165) C dX9_distances_92 (by decide) (fun hc29 => ?_) (fun hc29 => ?_)
          · have ht29 := ite_t hc29 hx28
            refine tw_sub [0, 1, 2] rfl ?_
            have e30 := lp_x ht29 hk28
            obtain rfl := (Option.some.inj e30)
            exact hJ27
          · have hf29 := ite_f hc29 hx28
            refine tw_aload_n (i := 0) (z := 0) (r := (9, 0)) C dX9_distances_95 rfl rfl ?_
            refine tw_getR (g := 40) (z := 0) (j' := 0) C fl_RX9_44 rfl (wcells_mem (f := 9) (j := 0) (by decide) (by decide)) rfl rfl dX9_distances_96 ?_
            refine tw_iload (i := 4) (z := 2) C dX9_distances_99 rfl ?_
            obtain ⟨hb31, eh31⟩ := grd_some hf29
            refine tw_iald (r := (40, 0)) C (ia_of rfl (by decide)) hb31 dX9_distances_101 ?_
            refine tw_bipush (v := 99) C dX9_distances_102 (by decide) ?_
            refine tw_ic_ne (tgt := 165) C dX9_distances_104 (by decide) (fun hc32 => ?_) (fun hc32 => ?_)
            · have ht32 := ite_f hc32 eh31
              refine tw_sub [0, 1, 2] rfl ?_
              have e33 := lp_x ht32 hk28
              obtain rfl := (Option.some.inj e33)
              exact hJ27
            · have hf32 := ite_t hc32 eh31
              refine tw_aload_n (i := 0) (z := 0) (r := (9, 0)) C dX9_distances_107 rfl rfl ?_
              refine tw_getR (g := 40) (z := 0) (j' := 0) C fl_RX9_44 rfl (wcells_mem (f := 9) (j := 0) (by decide) (by decide)) rfl rfl dX9_distances_108 ?_
              refine tw_iload (i := 4) (z := 2) C dX9_distances_111 rfl ?_
              refine tw_iload_n (i := 3) (z := 1) C dX9_distances_113 rfl rfl ?_
              refine tw_iconst (v := 1) C dX9_distances_114 (by decide) ?_
              obtain ⟨⟨x9, σ15⟩, hx34, hq34⟩ := obi_some hf32
              have hJ34 : TW K 158 [(0, rv K (9, 0)), (3, .int x6), (4, .int x7), (5, .int x8)] [.int x9, .int x7, rv K (40, 0)] σ15 := by
                obtain ⟨hb40, eh40⟩ := grd_some hq34
                obtain ⟨σ18, es41, eg41⟩ := bnd_ex eh40
                refine tw_iast (r := (40, 0)) C (wa_of rfl (by decide) (by decide)) hb40 dX9_distances_158 ?_
                rw [es41]
                obtain ⟨x12, ex42, eh42⟩ := bnd_ex eg41
                refine tw_iinc (z := 3) (v := x12) (lv' := [(0, rv K (9, 0)), (3, .int x6), (4, .int x7), (5, .int x12)]) C [1, 2, 3, 0] dX9_distances_159 rfl ex42 (by rw [hnL]; decide) rfl ?_
                refine tw_goto (tgt := 88) C dX9_distances_162 (by decide) ?_
                have hz := lp_c eh42 hk28
                exact hz
              refine tw_ic_ne (tgt := 138) C dX9_distances_115 (by decide) (fun hc35 => ?_) (fun hc35 => ?_)
              · have ht35 := ite_f hc35 hx34
                refine tw_aload_n (i := 0) (z := 0) (r := (9, 0)) C dX9_distances_138 rfl rfl ?_
                refine tw_iload (i := 4) (z := 2) C dX9_distances_139 rfl ?_
                refine tw_iload (i := 5) (z := 3) C dX9_distances_141 rfl ?_
                refine tw_iload_n (i := 3) (z := 1) C dX9_distances_143 rfl rfl ?_
                refine tw_iconst (v := 1) C dX9_distances_144 (by decide) ?_
                refine tw_isub C dX9_distances_145 ?_
                obtain ⟨⟨x10, σ16⟩, hv36, eh36⟩ := obi_some ht35
                refine tw_callV (As := [.int x7, .int x8, .int (x6 - (1 : Int32))]) (rest := [.int x7, rv K (40, 0)]) (r := (9, 0)) C hR (kX9_goesNear K.1 _ (by omega) _ x7 x8 (x6 - (1 : Int32))  hv36) mi_X9_goesNear is_X9_goesNear se_X9_goesNear ml_RX9_265 (wcells_mem (f := 9) (j := 0) (by decide) (by decide)) rfl rfl rfl rfl (Nat.le_of_ble_eq_true rfl) dX9_distances_146 ?_
                show TW K 149 [(0, rv K (9, 0)), (3, .int x6), (4, .int x7), (5, .int x8)] [.int (b2i x10), .int x7, rv K (40, 0)] σ16
                refine tw_if_eq (tgt := 156) C dX9_distances_149 (by decide) (fun hc37 => ?_) (fun hc37 => ?_)
                · have ht37 := ite_f (b2i_z hc37) eh36
                  refine tw_bipush (v := 99) C dX9_distances_156 (by decide) ?_
                  obtain ⟨rfl, rfl⟩ := pj2 (Option.some.inj ht37)
                  exact hJ34
                · have hf37 := ite_t (b2i_nz hc37) eh36
                  refine tw_iload_n (i := 3) (z := 1) C dX9_distances_152 rfl rfl ?_
                  refine tw_goto (tgt := 158) C dX9_distances_153 (by decide) ?_
                  obtain ⟨rfl, rfl⟩ := pj2 (Option.some.inj hf37)
                  exact hJ34
              · have hf35 := ite_t hc35 hx34
                refine tw_aload_n (i := 0) (z := 0) (r := (9, 0)) C dX9_distances_118 rfl rfl ?_
                refine tw_iload (i := 4) (z := 2) C dX9_distances_119 rfl ?_
                refine tw_iload (i := 5) (z := 3) C dX9_distances_121 rfl ?_
                obtain ⟨⟨x11, σ17⟩, hv38, eh38⟩ := obi_some hf35
                refine tw_callV (As := [.int x7, .int x8]) (rest := [.int x7, rv K (40, 0)]) (r := (9, 0)) C hR (kX9_doPart K.1 _ (by omega) _ x7 x8  hv38) mi_X9_doPart is_X9_doPart se_X9_doPart ml_RX9_262 (wcells_mem (f := 9) (j := 0) (by decide) (by decide)) rfl rfl rfl rfl (Nat.le_of_ble_eq_true rfl) dX9_distances_123 ?_
                show TW K 126 [(0, rv K (9, 0)), (3, .int x6), (4, .int x7), (5, .int x8)] [.int (b2i x11), .int x7, rv K (40, 0)] σ17
                refine tw_if_eq (tgt := 133) C dX9_distances_126 (by decide) (fun hc39 => ?_) (fun hc39 => ?_)
                · have ht39 := ite_f (b2i_z hc39) eh38
                  refine tw_bipush (v := 99) C dX9_distances_133 (by decide) ?_
                  refine tw_goto (tgt := 158) C dX9_distances_135 (by decide) ?_
                  obtain ⟨rfl, rfl⟩ := pj2 (Option.some.inj ht39)
                  exact hJ34
                · have hf39 := ite_t (b2i_nz hc39) eh38
                  refine tw_iconst (v := 1) C dX9_distances_129 (by decide) ?_
                  refine tw_goto (tgt := 158) C dX9_distances_130 (by decide) ?_
                  obtain ⟨rfl, rfl⟩ := pj2 (Option.some.inj hf39)
                  exact hJ34
    refine lpF_ct (G := fun (q : Int32 × St) => match q with | (x4, σ8) => TW K 47 [(0, rv K (9, 0)), (3, .int x4)] [] σ8) ?_ hx13
    rintro ⟨x4, σ8⟩ w14 hx14 hk14
    show TW K 47 [(0, rv K (9, 0)), (3, .int x4)] [] σ8
    refine tw_iload_n (i := 3) (z := 1) C dX9_distances_47 rfl rfl ?_
    refine tw_bipush (v := 63) C dX9_distances_48 (by decide) ?_
    refine tw_ic_ge (tgt := 67) C dX9_distances_50 (by decide) (fun hc15 => ?_) (fun hc15 => ?_)
    · have ht15 := ite_t hc15 hx14
      refine tw_sub [0] rfl ?_
      have e16 := lp_x ht15 hk14
      obtain rfl := (Option.some.inj e16)
      exact hJ13
    · have hf15 := ite_f hc15 hx14
      refine tw_aload_n (i := 0) (z := 0) (r := (9, 0)) C dX9_distances_53 rfl rfl ?_
      refine tw_getR (g := 40) (z := 0) (j' := 0) C fl_RX9_44 rfl (wcells_mem (f := 9) (j := 0) (by decide) (by decide)) rfl rfl dX9_distances_54 ?_
      refine tw_iload_n (i := 3) (z := 1) C dX9_distances_57 rfl rfl ?_
      refine tw_bipush (v := 99) C dX9_distances_58 (by decide) ?_
      obtain ⟨hb17, eh17⟩ := grd_some hf15
      obtain ⟨σ9, es18, eg18⟩ := bnd_ex eh17
      refine tw_iast (r := (40, 0)) C (wa_of rfl (by decide) (by decide)) hb17 dX9_distances_60 ?_
      rw [es18]
      obtain ⟨x5, ex19, eh19⟩ := bnd_ex eg18
      refine tw_iinc (z := 1) (v := x5) (lv' := [(0, rv K (9, 0)), (3, .int x5)]) C [1, 0] dX9_distances_61 rfl ex19 (by rw [hnL]; decide) rfl ?_
      refine tw_goto (tgt := 47) C dX9_distances_64 (by decide) ?_
      have hz := lp_c eh19 hk14
      exact hz
  refine tw_sub [0, 2, 3] rfl ?_
  refine lpF_ct (G := fun (q : Int32 × St) => match q with | (x1, σ3) => TW K 9 [(0, rv K (9, 0)), (2, .int a2), (3, .int x1)] [] σ3) ?_ hx2
  rintro ⟨x1, σ3⟩ w3 hx3 hk3
  show TW K 9 [(0, rv K (9, 0)), (2, .int a2), (3, .int x1)] [] σ3
  refine tw_iload_n (i := 3) (z := 2) C dX9_distances_9 rfl rfl ?_
  refine tw_bipush (v := 17) C dX9_distances_10 (by decide) ?_
  refine tw_ic_ge (tgt := 45) C dX9_distances_12 (by decide) (fun hc4 => ?_) (fun hc4 => ?_)
  · have ht4 := ite_t hc4 hx3
    refine tw_sub [0] rfl ?_
    have e5 := lp_x ht4 hk3
    obtain rfl := (Option.some.inj e5)
    exact hJ2
  · have hf4 := ite_f hc4 hx3
    refine tw_aload_n (i := 0) (z := 0) (r := (9, 0)) C dX9_distances_15 rfl rfl ?_
    refine tw_getR (g := 41) (z := 0) (j' := 0) C fl_RX9_47 rfl (wcells_mem (f := 9) (j := 0) (by decide) (by decide)) rfl rfl dX9_distances_16 ?_
    refine tw_iload_n (i := 3) (z := 2) C dX9_distances_19 rfl rfl ?_
    refine tw_aload_n (i := 0) (z := 0) (r := (9, 0)) C dX9_distances_20 rfl rfl ?_
    refine tw_getR (g := 35) (z := 0) (j' := 0) C fl_RX9_29 rfl (wcells_mem (f := 9) (j := 0) (by decide) (by decide)) rfl rfl dX9_distances_21 ?_
    refine tw_iload_n (i := 3) (z := 2) C dX9_distances_24 rfl rfl ?_
    obtain ⟨hb6, eh6⟩ := grd_some hf4
    refine tw_iald (r := (35, 0)) C (ia_of rfl (by decide)) hb6 dX9_distances_25 ?_
    obtain ⟨hb7, eh7⟩ := grd_some eh6
    obtain ⟨σ4, es8, eg8⟩ := bnd_ex eh7
    refine tw_iast (r := (41, 0)) C (wa_of rfl (by decide) (by decide)) hb7 dX9_distances_26 ?_
    rw [es8]
    refine tw_aload_n (i := 0) (z := 0) (r := (9, 0)) C dX9_distances_27 rfl rfl ?_
    refine tw_getR (g := 42) (z := 0) (j' := 0) C fl_RX9_50 rfl (wcells_mem (f := 9) (j := 0) (by decide) (by decide)) rfl rfl dX9_distances_28 ?_
    refine tw_iload_n (i := 3) (z := 2) C dX9_distances_31 rfl rfl ?_
    refine tw_aload_n (i := 0) (z := 0) (r := (9, 0)) C dX9_distances_32 rfl rfl ?_
    refine tw_iload_n (i := 2) (z := 1) C dX9_distances_33 rfl rfl ?_
    refine tw_iload_n (i := 3) (z := 2) C dX9_distances_34 rfl rfl ?_
    obtain ⟨⟨x2, σ5⟩, hv9, eh9⟩ := obi_some eg8
    refine tw_callV (As := [.int a2, .int x1]) (rest := [.int x1, rv K (42, 0)]) (r := (9, 0)) C hR (kX9_itemOf K.1 _ (by omega) _ a2 x1  hv9) mi_X9_itemOf is_X9_itemOf se_X9_itemOf ml_RX9_147 (wcells_mem (f := 9) (j := 0) (by decide) (by decide)) rfl rfl rfl rfl (Nat.le_of_ble_eq_true rfl) dX9_distances_35 ?_
    show TW K 38 [(0, rv K (9, 0)), (2, .int a2), (3, .int x1)] [.int x2, .int x1, rv K (42, 0)] σ5
    obtain ⟨hb10, eh10⟩ := grd_some eh9
    obtain ⟨σ6, es11, eg11⟩ := bnd_ex eh10
    refine tw_iast (r := (42, 0)) C (wa_of rfl (by decide) (by decide)) hb10 dX9_distances_38 ?_
    rw [es11]
    obtain ⟨x3, ex12, eh12⟩ := bnd_ex eg11
    refine tw_iinc (z := 2) (v := x3) (lv' := [(0, rv K (9, 0)), (2, .int a2), (3, .int x3)]) C [1, 2, 0] dX9_distances_39 rfl ex12 (by rw [hnL]; decide) rfl ?_
    refine tw_goto (tgt := 9) C dX9_distances_42 (by decide) ?_
    have hz := lp_c eh12 hk3
    exact hz

set_option maxRecDepth 20000 in
def fX9_partsOf (σ : St) (a1 : Int32) (a2 : Int32) : Option (Int32 × St) :=
  obi (fX9_distances σ a1 a2) (fun σ1 =>
  bnd (fX9_begins σ1) (fun σ2 =>
  bnd (fX9_ballNumber σ2) (fun x1 =>
  grd (inb x1 63) (
  bnd (σ2 (40, 0) (tn x1)) (fun x2 =>
  if x2 = (99 : Int32) then
    some ((-1 : Int32), σ2)
  else
    lpF (fun (q7 : Int32 × Int32 × St) => match q7 with
    | (x3, x4, σ3) =>
    if x2 ≤ x4 then
      some (.inr ((x2, σ3)))
    else
      bnd (x2 - x4) (fun x5 =>
      obi (lpF (fun (q12 : Int32 × St) => match q12 with
      | (x7, σ5) =>
      bj (if x5 = (1 : Int32) then
        obi (fX9_doPart σ5 x3 x7) (fun (x9, σ8) =>
        if x9 = true then
          some (.inl (.inr ((x7, σ8))))
        else
          some (.inr σ8))
      else
        obi (fX9_goesNear σ5 x3 x7 (x5 - (1 : Int32))) (fun (x8, σ7) =>
        if x8 = true then
          some (.inl (.inr ((x7, σ7))))
        else
          some (.inr σ7))) (fun σ6 =>
      bnd (x7 + 1) (fun x10 =>
      some (.inl (x10, σ6))))) ((0 : Int32), σ3)) (fun (x6, σ4) =>
      grd (inb x4 6) (bnd (su σ4 (43, 0) (tn x4) x6) (fun σ9 =>
      obi (if x5 = (1 : Int32) then
        some (x3, σ9)
      else
        obi (fX9_end σ9 x3 x6 true) (fun (x12, σ11) =>
        some (irm x12 (100 : Int32), σ11))) (fun (x11, σ10) =>
      bnd (x4 + 1) (fun x13 =>
      some (.inl (x11, x13, σ10))))))))) (x1, (0 : Int32), σ2))))))
set_option maxRecDepth 20000 in
set_option maxHeartbeats 4000000 in
theorem kX9_partsOf (G : Gx) (d : Nat) (hdp : 9 ≤ d) (σ : St) (a1 : Int32) (a2 : Int32)  {v0 : Int32} {σ' : St} (h : fX9_partsOf σ a1 a2 = some (v0, σ')) : MS G d yX9_partsOf cX9_partsOf 8 (some .int) [.ref (G.2.1 (9, 0)), .int a1, .int a2] σ (some (.int v0)) σ' := by
  refine MS_of (by decide) (Nat.le_of_ble_eq_true rfl) rfl (fun K hG hnL C hR hK => ?_) (by omega)
  subst hG
  show TW K 0 [(0, rv K (9, 0)), (1, .int a1), (2, .int a2)] [] σ
  unfold fX9_partsOf at h
  refine tw_aload_n (i := 0) (z := 0) (r := (9, 0)) C dX9_partsOf_0 rfl rfl ?_
  refine tw_iload_n (i := 1) (z := 1) C dX9_partsOf_1 rfl rfl ?_
  refine tw_iload_n (i := 2) (z := 2) C dX9_partsOf_2 rfl rfl ?_
  obtain ⟨σ1, hv1, eh1⟩ := obi_some h
  refine tw_callV (As := [.int a1, .int a2]) (rest := []) (r := (9, 0)) C hR (kX9_distances K.1 _ (by omega) _ a1 a2  hv1) mi_X9_distances is_X9_distances se_X9_distances ml_RX9_272 (wcells_mem (f := 9) (j := 0) (by decide) (by decide)) rfl rfl rfl rfl (Nat.le_of_ble_eq_true rfl) dX9_partsOf_3 ?_
  show TW K 6 [(0, rv K (9, 0)), (1, .int a1), (2, .int a2)] [] σ1
  refine tw_aload_n (i := 0) (z := 0) (r := (9, 0)) C dX9_partsOf_6 rfl rfl ?_
  obtain ⟨σ2, hv2, eh2⟩ := bnd_ex eh1
  refine tw_callV (As := []) (rest := []) (r := (9, 0)) C hR (kX9_begins K.1 _ (by omega) _   hv2) mi_X9_begins is_X9_begins se_X9_begins ml_RX9_205 (wcells_mem (f := 9) (j := 0) (by decide) (by decide)) rfl rfl rfl rfl (Nat.le_of_ble_eq_true rfl) dX9_partsOf_7 ?_
  show TW K 10 [(0, rv K (9, 0)), (1, .int a1), (2, .int a2)] [] σ2
  refine tw_aload_n (i := 0) (z := 0) (r := (9, 0)) C dX9_partsOf_10 rfl rfl ?_
  refine tw_callV (As := []) (rest := []) (r := (9, 0)) C hR (kX9_ballNumber K.1 _ (by omega) σ2   rfl) mi_X9_ballNumber is_X9_ballNumber se_X9_ballNumber ml_RX9_259 (wcells_mem (f := 9) (j := 0) (by decide) (by decide)) rfl rfl rfl rfl (Nat.le_of_ble_eq_true rfl) dX9_partsOf_11 ?_
  show TW K 14 [(0, rv K (9, 0)), (1, .int a1), (2, .int a2)] [.int (fX9_ballNumber σ2)] σ2
  obtain ⟨x1, ex3, eh3⟩ := bnd_ex eh2
  refine tw_topi ex3.symm ?_
  refine tw_istore_n (lv' := [(0, rv K (9, 0)), (1, .int a1), (2, .int a2), (3, .int x1)]) C [1, 2, 3, 0] dX9_partsOf_14 rfl (by rw [hnL]; decide) rfl ?_
  refine tw_aload_n (i := 0) (z := 0) (r := (9, 0)) C dX9_partsOf_15 rfl rfl ?_
  refine tw_getR (g := 40) (z := 0) (j' := 0) C fl_RX9_44 rfl (wcells_mem (f := 9) (j := 0) (by decide) (by decide)) rfl rfl dX9_partsOf_16 ?_
  refine tw_iload_n (i := 3) (z := 3) C dX9_partsOf_19 rfl rfl ?_
  obtain ⟨hb4, eh4⟩ := grd_some eh3
  refine tw_iald (r := (40, 0)) C (ia_of rfl (by decide)) hb4 dX9_partsOf_20 ?_
  obtain ⟨x2, ex5, eh5⟩ := bnd_ex eh4
  refine tw_topi ex5.symm ?_
  refine tw_istore (lv' := [(0, rv K (9, 0)), (1, .int a1), (2, .int a2), (3, .int x1), (4, .int x2)]) C [1, 2, 3, 4, 0] dX9_partsOf_21 (by rw [hnL]; decide) rfl ?_
  refine tw_iload (i := 4) (z := 4) C dX9_partsOf_23 rfl ?_
  refine tw_bipush (v := 99) C dX9_partsOf_25 (by decide) ?_
  refine tw_ic_ne (tgt := 32) C dX9_partsOf_27 (by decide) (fun hc6 => ?_) (fun hc6 => ?_)
  · have ht6 := ite_f hc6 eh5
    refine tw_iconst (v := 0) C dX9_partsOf_32 (by decide) ?_
    refine tw_istore (lv' := [(0, rv K (9, 0)), (1, .int a1), (2, .int a2), (3, .int x1), (4, .int x2), (5, .int (0 : Int32))]) C [1, 2, 3, 4, 5, 0] dX9_partsOf_33 (by rw [hnL]; decide) rfl ?_
    refine tw_sub [0, 3, 4, 5] rfl ?_
    refine lpF_ct (G := fun (q : Int32 × Int32 × St) => match q with | (x3, x4, σ3) => TW K 35 [(0, rv K (9, 0)), (3, .int x3), (4, .int x2), (5, .int x4)] [] σ3) ?_ ht6
    rintro ⟨x3, x4, σ3⟩ w7 hx7 hk7
    show TW K 35 [(0, rv K (9, 0)), (3, .int x3), (4, .int x2), (5, .int x4)] [] σ3
    refine tw_iload (i := 5) (z := 3) C dX9_partsOf_35 rfl ?_
    refine tw_iload (i := 4) (z := 2) C dX9_partsOf_37 rfl ?_
    refine tw_ic_ge (tgt := 128) C dX9_partsOf_39 (by decide) (fun hc8 => ?_) (fun hc8 => ?_)
    · have ht8 := ite_t hc8 hx7
      refine tw_iload (i := 4) (z := 2) C dX9_partsOf_128 rfl ?_
      have e9 := lp_x ht8 hk7
      obtain ⟨rfl, rfl⟩ := pj2 (Option.some.inj e9)
      exact tw_iret C hK rfl rfl dX9_partsOf_130
    · have hf8 := ite_f hc8 hx7
      refine tw_iload (i := 4) (z := 2) C dX9_partsOf_42 rfl ?_
      refine tw_iload (i := 5) (z := 3) C dX9_partsOf_44 rfl ?_
      refine tw_isub C dX9_partsOf_46 ?_
      obtain ⟨x5, ex10, eh10⟩ := bnd_ex hf8
      refine tw_topi ex10.symm ?_
      refine tw_istore (lv' := [(0, rv K (9, 0)), (3, .int x3), (4, .int x2), (5, .int x4), (6, .int x5)]) C [1, 2, 3, 4, 0] dX9_partsOf_47 (by rw [hnL]; decide) rfl ?_
      refine tw_iconst (v := 0) C dX9_partsOf_49 (by decide) ?_
      refine tw_istore (lv' := [(0, rv K (9, 0)), (3, .int x3), (4, .int x2), (5, .int x4), (6, .int x5), (7, .int (0 : Int32))]) C [1, 2, 3, 4, 5, 0] dX9_partsOf_50 (by rw [hnL]; decide) rfl ?_
      obtain ⟨⟨x6, σ4⟩, hx11, hq11⟩ := obi_some eh10
      have hJ11 : TW K 91 [(0, rv K (9, 0)), (3, .int x3), (4, .int x2), (5, .int x4), (6, .int x5), (7, .int x6)] [] σ4 := by
        refine tw_aload_n (i := 0) (z := 0) (r := (9, 0)) C dX9_partsOf_91 rfl rfl ?_
        refine tw_getR (g := 43) (z := 0) (j' := 0) C fl_RX9_53 rfl (wcells_mem (f := 9) (j := 0) (by decide) (by decide)) rfl rfl dX9_partsOf_92 ?_
        refine tw_iload (i := 5) (z := 3) C dX9_partsOf_95 rfl ?_
        refine tw_iload (i := 7) (z := 5) C dX9_partsOf_97 rfl ?_
        obtain ⟨hb24, eh24⟩ := grd_some hq11
        obtain ⟨σ9, es25, eg25⟩ := bnd_ex eh24
        refine tw_iast (r := (43, 0)) C (wa_of rfl (by decide) (by decide)) hb24 dX9_partsOf_99 ?_
        rw [es25]
        refine tw_iload (i := 6) (z := 4) C dX9_partsOf_100 rfl ?_
        refine tw_iconst (v := 1) C dX9_partsOf_102 (by decide) ?_
        obtain ⟨⟨x11, σ10⟩, hx26, hq26⟩ := obi_some eg25
        have hJ26 : TW K 121 [(0, rv K (9, 0)), (4, .int x2), (5, .int x4)] [.int x11] σ10 := by
          refine tw_istore_n (lv' := [(0, rv K (9, 0)), (3, .int x11), (4, .int x2), (5, .int x4)]) C [1, 0, 2, 3] dX9_partsOf_121 rfl (by rw [hnL]; decide) rfl ?_
          obtain ⟨x13, ex29, eh29⟩ := bnd_ex hq26
          refine tw_iinc (z := 3) (v := x13) (lv' := [(0, rv K (9, 0)), (3, .int x11), (4, .int x2), (5, .int x13)]) C [1, 2, 3, 0] dX9_partsOf_122 rfl ex29 (by rw [hnL]; decide) rfl ?_
          refine tw_goto (tgt := 35) C dX9_partsOf_125 (by decide) ?_
          have hz := lp_c eh29 hk7
          exact hz
        refine tw_ic_ne (tgt := 110) C dX9_partsOf_103 (by decide) (fun hc27 => ?_) (fun hc27 => ?_)
        · have ht27 := ite_f hc27 hx26
          refine tw_aload_n (i := 0) (z := 0) (r := (9, 0)) C dX9_partsOf_110 rfl rfl ?_
          refine tw_iload_n (i := 3) (z := 1) C dX9_partsOf_111 rfl rfl ?_
          refine tw_iload (i := 7) (z := 5) C dX9_partsOf_112 rfl ?_
          refine tw_iconst (v := 1) C dX9_partsOf_114 (by decide) ?_
          obtain ⟨⟨x12, σ11⟩, hv28, eh28⟩ := obi_some ht27
          refine tw_callV (As := [.int x3, .int x6, .int (b2i true)]) (rest := []) (r := (9, 0)) C hR (kX9_end K.1 _ (by omega) _ x3 x6 true  hv28) mi_X9_end is_X9_end se_X9_end ml_RX9_268 (wcells_mem (f := 9) (j := 0) (by decide) (by decide)) rfl rfl rfl rfl (Nat.le_of_ble_eq_true rfl) dX9_partsOf_115 ?_
          show TW K 118 [(0, rv K (9, 0)), (3, .int x3), (4, .int x2), (5, .int x4), (6, .int x5), (7, .int x6)] [.int x12] σ11
          refine tw_bipush (v := 100) C dX9_partsOf_118 (by decide) ?_
          refine tw_irem C dX9_partsOf_120 (by decide) ?_
          refine tw_sub [0, 2, 3] rfl ?_
          obtain ⟨rfl, rfl⟩ := pj2 (Option.some.inj eh28)
          exact hJ26
        · have hf27 := ite_t hc27 hx26
          refine tw_iload_n (i := 3) (z := 1) C dX9_partsOf_106 rfl rfl ?_
          refine tw_goto (tgt := 121) C dX9_partsOf_107 (by decide) ?_
          refine tw_sub [0, 2, 3] rfl ?_
          obtain ⟨rfl, rfl⟩ := pj2 (Option.some.inj hf27)
          exact hJ26
      refine lpF_ct (G := fun (q : Int32 × St) => match q with | (x7, σ5) => TW K 52 [(0, rv K (9, 0)), (3, .int x3), (4, .int x2), (5, .int x4), (6, .int x5), (7, .int x7)] [] σ5) ?_ hx11
      rintro ⟨x7, σ5⟩ w12 hx12 hk12
      show TW K 52 [(0, rv K (9, 0)), (3, .int x3), (4, .int x2), (5, .int x4), (6, .int x5), (7, .int x7)] [] σ5
      refine tw_iload (i := 6) (z := 4) C dX9_partsOf_52 rfl ?_
      refine tw_iconst (v := 1) C dX9_partsOf_54 (by decide) ?_
      obtain ⟨y13, hx13, hy13⟩ := bj_some hx12
      have hJ13 : ∀ (σ6 : St), y13 = .inr σ6 → TW K 85 [(0, rv K (9, 0)), (3, .int x3), (4, .int x2), (5, .int x4), (6, .int x5), (7, .int x7)] [] σ6 := by
        intro σ6 ey13
        have hq13 := bj_r ey13 hy13
        obtain ⟨x10, ex23, eh23⟩ := bnd_ex hq13
        refine tw_iinc (z := 5) (v := x10) (lv' := [(0, rv K (9, 0)), (3, .int x3), (4, .int x2), (5, .int x4), (6, .int x5), (7, .int x10)]) C [1, 2, 3, 4, 5, 0] dX9_partsOf_85 rfl ex23 (by rw [hnL]; decide) rfl ?_
        refine tw_goto (tgt := 52) C dX9_partsOf_88 (by decide) ?_
        have hz := lp_c eh23 hk12
        exact hz
      refine tw_ic_ne (tgt := 71) C dX9_partsOf_55 (by decide) (fun hc14 => ?_) (fun hc14 => ?_)
      · have ht14 := ite_f hc14 hx13
        refine tw_aload_n (i := 0) (z := 0) (r := (9, 0)) C dX9_partsOf_71 rfl rfl ?_
        refine tw_iload_n (i := 3) (z := 1) C dX9_partsOf_72 rfl rfl ?_
        refine tw_iload (i := 7) (z := 5) C dX9_partsOf_73 rfl ?_
        refine tw_iload (i := 6) (z := 4) C dX9_partsOf_75 rfl ?_
        refine tw_iconst (v := 1) C dX9_partsOf_77 (by decide) ?_
        refine tw_isub C dX9_partsOf_78 ?_
        obtain ⟨⟨x8, σ7⟩, hv15, eh15⟩ := obi_some ht14
        refine tw_callV (As := [.int x3, .int x7, .int (x5 - (1 : Int32))]) (rest := []) (r := (9, 0)) C hR (kX9_goesNear K.1 _ (by omega) _ x3 x7 (x5 - (1 : Int32))  hv15) mi_X9_goesNear is_X9_goesNear se_X9_goesNear ml_RX9_265 (wcells_mem (f := 9) (j := 0) (by decide) (by decide)) rfl rfl rfl rfl (Nat.le_of_ble_eq_true rfl) dX9_partsOf_79 ?_
        show TW K 82 [(0, rv K (9, 0)), (3, .int x3), (4, .int x2), (5, .int x4), (6, .int x5), (7, .int x7)] [.int (b2i x8)] σ7
        refine tw_if_ne (tgt := 91) C dX9_partsOf_82 (by decide) (fun hc16 => ?_) (fun hc16 => ?_)
        · have ht16 := ite_t (b2i_nz hc16) eh15
          have e17 := bj_l ht16 hy13
          have e18 := lp_x e17 hk12
          obtain ⟨rfl, rfl⟩ := pj2 (Option.some.inj e18)
          exact hJ11
        · have hf16 := ite_f (b2i_z hc16) eh15
          exact hJ13 _ (Option.some.inj hf16).symm
      · have hf14 := ite_t hc14 hx13
        refine tw_aload_n (i := 0) (z := 0) (r := (9, 0)) C dX9_partsOf_58 rfl rfl ?_
        refine tw_iload_n (i := 3) (z := 1) C dX9_partsOf_59 rfl rfl ?_
        refine tw_iload (i := 7) (z := 5) C dX9_partsOf_60 rfl ?_
        obtain ⟨⟨x9, σ8⟩, hv19, eh19⟩ := obi_some hf14
        refine tw_callV (As := [.int x3, .int x7]) (rest := []) (r := (9, 0)) C hR (kX9_doPart K.1 _ (by omega) _ x3 x7  hv19) mi_X9_doPart is_X9_doPart se_X9_doPart ml_RX9_262 (wcells_mem (f := 9) (j := 0) (by decide) (by decide)) rfl rfl rfl rfl (Nat.le_of_ble_eq_true rfl) dX9_partsOf_62 ?_
        show TW K 65 [(0, rv K (9, 0)), (3, .int x3), (4, .int x2), (5, .int x4), (6, .int x5), (7, .int x7)] [.int (b2i x9)] σ8
        refine tw_if_ne (tgt := 91) C dX9_partsOf_65 (by decide) (fun hc20 => ?_) (fun hc20 => ?_)
        · have ht20 := ite_t (b2i_nz hc20) eh19
          have e21 := bj_l ht20 hy13
          have e22 := lp_x e21 hk12
          obtain ⟨rfl, rfl⟩ := pj2 (Option.some.inj e22)
          exact hJ11
        · have hf20 := ite_f (b2i_z hc20) eh19
          refine tw_goto (tgt := 85) C dX9_partsOf_68 (by decide) ?_
          exact hJ13 _ (Option.some.inj hf20).symm
  · have hf6 := ite_t hc6 eh5
    refine tw_iconst (v := (-1)) C dX9_partsOf_30 (by decide) ?_
    obtain ⟨rfl, rfl⟩ := pj2 (Option.some.inj hf6)
    exact tw_iret C hK rfl rfl dX9_partsOf_31

set_option maxRecDepth 20000 in
def fX9_parts (σ : St) (a1 : Int32) (a2 : Int32) : Option (Int32 × St) :=
  if (fX9_isCode a1) = true then
    if (fX9_isCode a2) = true then
      obi (fX9_partsOf σ a1 a2) (fun (x1, σ1) =>
      some (x1, σ1))
    else
      some ((-2 : Int32), σ)
  else
    some ((-2 : Int32), σ)
set_option maxRecDepth 20000 in
set_option maxHeartbeats 4000000 in
theorem kX9_parts (G : Gx) (d : Nat) (hdp : 10 ≤ d) (σ : St) (a1 : Int32) (a2 : Int32)  {v0 : Int32} {σ' : St} (h : fX9_parts σ a1 a2 = some (v0, σ')) : MS G d yX9_parts cX9_parts 3 (some .int) [.ref (G.2.1 (9, 0)), .int a1, .int a2] σ (some (.int v0)) σ' := by
  refine MS_of (by decide) (Nat.le_of_ble_eq_true rfl) rfl (fun K hG hnL C hR hK => ?_) (by omega)
  subst hG
  show TW K 0 [(0, rv K (9, 0)), (1, .int a1), (2, .int a2)] [] σ
  unfold fX9_parts at h
  refine tw_iload_n (i := 1) (z := 1) C dX9_parts_0 rfl rfl ?_
  refine tw_callS (As := [.int a1]) (rest := []) C hR (kX9_isCode K.1 _ (by omega) σ a1  rfl) mi_X9_isCode st_X9_isCode ml_RX9_110 rfl rfl (Nat.le_of_ble_eq_true rfl) dX9_parts_1 ?_
  show TW K 4 [(0, rv K (9, 0)), (1, .int a1), (2, .int a2)] [.int (b2i (fX9_isCode a1))] σ
  refine tw_if_eq (tgt := 23) C dX9_parts_4 (by decide) (fun hc1 => ?_) (fun hc1 => ?_)
  · have ht1 := ite_f (b2i_z hc1) h
    refine tw_bipush (v := (-2)) C dX9_parts_23 (by decide) ?_
    obtain ⟨rfl, rfl⟩ := pj2 (Option.some.inj ht1)
    exact tw_iret C hK rfl rfl dX9_parts_25
  · have hf1 := ite_t (b2i_nz hc1) h
    refine tw_iload_n (i := 2) (z := 2) C dX9_parts_7 rfl rfl ?_
    refine tw_callS (As := [.int a2]) (rest := []) C hR (kX9_isCode K.1 _ (by omega) σ a2  rfl) mi_X9_isCode st_X9_isCode ml_RX9_110 rfl rfl (Nat.le_of_ble_eq_true rfl) dX9_parts_8 ?_
    show TW K 11 [(0, rv K (9, 0)), (1, .int a1), (2, .int a2)] [.int (b2i (fX9_isCode a2))] σ
    refine tw_if_eq (tgt := 23) C dX9_parts_11 (by decide) (fun hc2 => ?_) (fun hc2 => ?_)
    · have ht2 := ite_f (b2i_z hc2) hf1
      refine tw_bipush (v := (-2)) C dX9_parts_23 (by decide) ?_
      obtain ⟨rfl, rfl⟩ := pj2 (Option.some.inj ht2)
      exact tw_iret C hK rfl rfl dX9_parts_25
    · have hf2 := ite_t (b2i_nz hc2) hf1
      refine tw_aload_n (i := 0) (z := 0) (r := (9, 0)) C dX9_parts_14 rfl rfl ?_
      refine tw_iload_n (i := 1) (z := 1) C dX9_parts_15 rfl rfl ?_
      refine tw_iload_n (i := 2) (z := 2) C dX9_parts_16 rfl rfl ?_
      obtain ⟨⟨x1, σ1⟩, hv3, eh3⟩ := obi_some hf2
      refine tw_callV (As := [.int a1, .int a2]) (rest := []) (r := (9, 0)) C hR (kX9_partsOf K.1 _ (by omega) _ a1 a2  hv3) mi_X9_partsOf is_X9_partsOf se_X9_partsOf ml_RX9_275 (wcells_mem (f := 9) (j := 0) (by decide) (by decide)) rfl rfl rfl rfl (Nat.le_of_ble_eq_true rfl) dX9_parts_17 ?_
      show TW K 20 [(0, rv K (9, 0)), (1, .int a1), (2, .int a2)] [.int x1] σ1
      refine tw_goto (tgt := 25) C dX9_parts_20 (by decide) ?_
      obtain ⟨rfl, rfl⟩ := pj2 (Option.some.inj eh3)
      exact tw_iret C hK rfl rfl dX9_parts_25

