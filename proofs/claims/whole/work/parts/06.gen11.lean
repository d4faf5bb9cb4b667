set_option maxRecDepth 20000 in
def fX9_meets (σ : St) (a1 : Int32) : Int32 × St :=
  bnd (su σ (9, 0) 44 a1) (fun σ1 =>
  ((-10 : Int32) - a1, σ1))
set_option maxRecDepth 20000 in
set_option maxHeartbeats 4000000 in
theorem kX9_meets (G : Gx) (d : Nat) (hdp : 1 ≤ d) (σ : St) (a1 : Int32)  {v0 : Int32} {σ' : St} (h : fX9_meets σ a1 = (v0, σ')) : MS G d yX9_meets cX9_meets 2 (some .int) [.ref (G.2.1 (9, 0)), .int a1] σ (some (.int v0)) σ' := by
  refine MS_of (by decide) (Nat.le_of_ble_eq_true rfl) rfl (fun K hG hnL C hR hK => ?_) (by omega)
  subst hG
  show TW K 0 [(0, rv K (9, 0)), (1, .int a1)] [] σ
  unfold fX9_meets at h
  refine tw_aload_n (i := 0) (z := 0) (r := (9, 0)) C dX9_meets_0 rfl rfl ?_
  refine tw_iload_n (i := 1) (z := 1) C dX9_meets_1 rfl rfl ?_
  obtain ⟨σ1, es1, eh1⟩ := bnd_ex h
  refine tw_put C fl_RX9_318 (fun q hq => by cases hq; rfl) rfl (wcells_mem (f := 9) (j := 0) (by decide) (by decide)) rfl rfl rfl dX9_meets_2 ?_
  rw [es1]
  refine tw_bipush (v := (-10)) C dX9_meets_5 (by decide) ?_
  refine tw_iload_n (i := 1) (z := 1) C dX9_meets_7 rfl rfl ?_
  refine tw_isub C dX9_meets_8 ?_
  obtain ⟨rfl, rfl⟩ := pj2 eh1
  exact tw_iret C hK rfl rfl dX9_meets_9

set_option maxRecDepth 20000 in
def fX9_match (σ : St) (a1 : Int32) (a2 : Int32) : Option (Int32 × St) :=
  if (fX9_isSheet a1) = true then
    if (fX9_in a2 (0 : Int32) (40 : Int32)) = true then
      grd (inb a1 4) (
      if (σ (51, 0) (tn a1)) = 0 then
        bnd (fX9_meets σ (1 : Int32)) (fun (x6, σ9) =>
        some (x6, σ9))
      else
        grd (inb a1 4) (
        if a2 ≤ (σ (53, 0) (tn a1)) then
          if (σ (9, 0) 15) = (12 : Int32) then
            some ((-4 : Int32), σ)
          else
            obi (lpF (fun (q9 : Int32 × St) => match q9 with
            | (x1, σ2) =>
            if a2 ≤ x1 then
              some (.inr σ2)
            else
              grd (inb (((60 : Int32) * a1) + x1) 240) (
              bnd (σ2 (54, 0) (tn (((60 : Int32) * a1) + x1))) (fun x2 =>
              bnd (if (fX9_in x2 (0 : Int32) (39 : Int32)) = true then
                x2
              else
                (-1 : Int32)) (fun x3 =>
              grd (inb (((40 : Int32) * (σ2 (9, 0) 15)) + x1) 480) (bnd (su σ2 (37, 0) (tn (((40 : Int32) * (σ2 (9, 0) 15)) + x1)) x3) (fun σ3 =>
              grd (inb (((40 : Int32) * (σ3 (9, 0) 15)) + x1) 480) (bnd (su σ3 (38, 0) (tn (((40 : Int32) * (σ3 (9, 0) 15)) + x1)) (-1 : Int32)) (fun σ4 =>
              bnd (x1 + 1) (fun x4 =>
              some (.inl (x4, σ4))))))))))) ((0 : Int32), σ)) (fun σ1 =>
            grd (inb (σ1 (9, 0) 15) 12) (bnd (su σ1 (36, 0) (tn (σ1 (9, 0) 15)) a2) (fun σ5 =>
            grd (inb (σ5 (9, 0) 15) 12) (bnd (su σ5 (39, 0) (tn (σ5 (9, 0) 15)) (nbo (0 : Int32))) (fun σ6 =>
            bnd (su σ6 (9, 0) 15 ((σ6 (9, 0) 15) + (1 : Int32))) (fun σ7 =>
            some ((σ7 (9, 0) 15) - (1 : Int32), σ7)))))))
        else
          bnd (fX9_meets σ (2 : Int32)) (fun (x5, σ8) =>
          some (x5, σ8))))
    else
      some ((-2 : Int32), σ)
  else
    some ((-2 : Int32), σ)
set_option maxRecDepth 20000 in
set_option maxHeartbeats 4000000 in
theorem kX9_match (G : Gx) (d : Nat) (hdp : 3 ≤ d) (σ : St) (a1 : Int32) (a2 : Int32)  {v0 : Int32} {σ' : St} (h : fX9_match σ a1 a2 = some (v0, σ')) : MS G d yX9_match cX9_match 5 (some .int) [.ref (G.2.1 (9, 0)), .int a1, .int a2] σ (some (.int v0)) σ' := by
  refine MS_of (by decide) (Nat.le_of_ble_eq_true rfl) rfl (fun K hG hnL C hR hK => ?_) (by omega)
  subst hG
  show TW K 0 [(0, rv K (9, 0)), (1, .int a1), (2, .int a2)] [] σ
  unfold fX9_match at h
  refine tw_iload_n (i := 1) (z := 1) C dX9_match_0 rfl rfl ?_
  refine tw_callS (As := [.int a1]) (rest := []) C hR (kX9_isSheet K.1 _ (by omega) σ a1  rfl) mi_X9_isSheet st_X9_isSheet ml_RX9_196 rfl rfl (Nat.le_of_ble_eq_true rfl) dX9_match_1 ?_
  show TW K 4 [(0, rv K (9, 0)), (1, .int a1), (2, .int a2)] [.int (b2i (fX9_isSheet a1))] σ
  refine tw_if_eq (tgt := 17) C dX9_match_4 (by decide) (fun hc1 => ?_) (fun hc1 => ?_)
  · have ht1 := ite_f (b2i_z hc1) h
    refine tw_bipush (v := (-2)) C dX9_match_17 (by decide) ?_
    obtain ⟨rfl, rfl⟩ := pj2 (Option.some.inj ht1)
    exact tw_iret C hK rfl rfl dX9_match_19
  · have hf1 := ite_t (b2i_nz hc1) h
    refine tw_iload_n (i := 2) (z := 2) C dX9_match_7 rfl rfl ?_
    refine tw_iconst (v := 0) C dX9_match_8 (by decide) ?_
    refine tw_bipush (v := 40) C dX9_match_9 (by decide) ?_
    refine tw_callS (As := [.int a2, .int (0 : Int32), .int (40 : Int32)]) (rest := []) C hR (kX9_in K.1 _ (by omega) σ a2 (0 : Int32) (40 : Int32)  rfl) mi_X9_in st_X9_in ml_RX9_106 rfl rfl (Nat.le_of_ble_eq_true rfl) dX9_match_11 ?_
    show TW K 14 [(0, rv K (9, 0)), (1, .int a1), (2, .int a2)] [.int (b2i (fX9_in a2 (0 : Int32) (40 : Int32)))] σ
    refine tw_if_ne (tgt := 20) C dX9_match_14 (by decide) (fun hc2 => ?_) (fun hc2 => ?_)
    · have ht2 := ite_t (b2i_nz hc2) hf1
      refine tw_aload_n (i := 0) (z := 0) (r := (9, 0)) C dX9_match_20 rfl rfl ?_
      refine tw_getR (g := 51) (z := 0) (j' := 0) C fl_RX9_87 rfl (wcells_mem (f := 9) (j := 0) (by decide) (by decide)) rfl rfl dX9_match_21 ?_
      refine tw_iload_n (i := 1) (z := 1) C dX9_match_24 rfl rfl ?_
      obtain ⟨hb3, eh3⟩ := grd_some ht2
      refine tw_zald (r := (51, 0)) C rfl (wcells_mem (f := 51) (j := 0) (by decide) (by decide)) hb3 dX9_match_25 ?_
      refine tw_if_ne (tgt := 35) C dX9_match_26 (by decide) (fun hc4 => ?_) (fun hc4 => ?_)
      · have ht4 := ite_f hc4 eh3
        refine tw_aload_n (i := 0) (z := 0) (r := (9, 0)) C dX9_match_35 rfl rfl ?_
        refine tw_getR (g := 53) (z := 0) (j' := 0) C fl_RX9_93 rfl (wcells_mem (f := 9) (j := 0) (by decide) (by decide)) rfl rfl dX9_match_36 ?_
        refine tw_iload_n (i := 1) (z := 1) C dX9_match_39 rfl rfl ?_
        obtain ⟨hb5, eh5⟩ := grd_some ht4
        refine tw_iald (r := (53, 0)) C (ia_of rfl (by decide)) hb5 dX9_match_40 ?_
        refine tw_iload_n (i := 2) (z := 2) C dX9_match_41 rfl rfl ?_
        refine tw_ic_ge (tgt := 51) C dX9_match_42 (by decide) (fun hc6 => ?_) (fun hc6 => ?_)
        · have ht6 := ite_t hc6 eh5
          refine tw_aload_n (i := 0) (z := 0) (r := (9, 0)) C dX9_match_51 rfl rfl ?_
          refine tw_getI C fl_RX9_193 rfl (wcells_mem (f := 9) (j := 0) (by decide) (by decide)) rfl dX9_match_52 ?_
          refine tw_bipush (v := 12) C dX9_match_55 (by decide) ?_
          refine tw_ic_ne (tgt := 63) C dX9_match_57 (by decide) (fun hc7 => ?_) (fun hc7 => ?_)
          · have ht7 := ite_f hc7 ht6
            refine tw_iconst (v := 0) C dX9_match_63 (by decide) ?_
            refine tw_istore_n (lv' := [(0, rv K (9, 0)), (1, .int a1), (2, .int a2), (3, .int (0 : Int32))]) C [1, 2, 3, 0] dX9_match_64 rfl (by rw [hnL]; decide) rfl ?_
            obtain ⟨σ1, hx8, hq8⟩ := obi_some ht7
            have hJ8 : TW K 135 [(0, rv K (9, 0)), (2, .int a2)] [] σ1 := by
              refine tw_aload_n (i := 0) (z := 0) (r := (9, 0)) C dX9_match_135 rfl rfl ?_
              refine tw_getR (g := 36) (z := 0) (j' := 0) C fl_RX9_32 rfl (wcells_mem (f := 9) (j := 0) (by decide) (by decide)) rfl rfl dX9_match_136 ?_
              refine tw_aload_n (i := 0) (z := 0) (r := (9, 0)) C dX9_match_139 rfl rfl ?_
              refine tw_getI C fl_RX9_193 rfl (wcells_mem (f := 9) (j := 0) (by decide) (by decide)) rfl dX9_match_140 ?_
              refine tw_iload_n (i := 2) (z := 1) C dX9_match_143 rfl rfl ?_
              obtain ⟨hb21, eh21⟩ := grd_some hq8
              obtain ⟨σ5, es22, eg22⟩ := bnd_ex eh21
              refine tw_iast (r := (36, 0)) C (wa_of rfl (by decide) (by decide)) hb21 dX9_match_144 ?_
              rw [es22]
              refine tw_aload_n (i := 0) (z := 0) (r := (9, 0)) C dX9_match_145 rfl rfl ?_
              refine tw_getR (g := 39) (z := 0) (j' := 0) C fl_RX9_41 rfl (wcells_mem (f := 9) (j := 0) (by decide) (by decide)) rfl rfl dX9_match_146 ?_
              refine tw_aload_n (i := 0) (z := 0) (r := (9, 0)) C dX9_match_149 rfl rfl ?_
              refine tw_getI C fl_RX9_193 rfl (wcells_mem (f := 9) (j := 0) (by decide) (by decide)) rfl dX9_match_150 ?_
              refine tw_iconst (v := 0) C dX9_match_153 (by decide) ?_
              obtain ⟨hb23, eh23⟩ := grd_some eg22
              obtain ⟨σ6, es24, eg24⟩ := bnd_ex eh23
              refine tw_zast (r := (39, 0)) C rfl (wcells_mem (f := 39) (j := 0) (by decide) (by decide)) hb23 dX9_match_154 ?_
              rw [es24]
              refine tw_aload_n (i := 0) (z := 0) (r := (9, 0)) C dX9_match_155 rfl rfl ?_
              refine tw_dup C dX9_match_156 rfl ?_
              refine tw_getI C fl_RX9_193 rfl (wcells_mem (f := 9) (j := 0) (by decide) (by decide)) rfl dX9_match_157 ?_
              refine tw_iconst (v := 1) C dX9_match_160 (by decide) ?_
              refine tw_iadd C dX9_match_161 ?_
              obtain ⟨σ7, es25, eh25⟩ := bnd_ex eg24
              refine tw_put C fl_RX9_193 (fun q hq => by cases hq; rfl) rfl (wcells_mem (f := 9) (j := 0) (by decide) (by decide)) rfl rfl rfl dX9_match_162 ?_
              rw [es25]
              refine tw_aload_n (i := 0) (z := 0) (r := (9, 0)) C dX9_match_165 rfl rfl ?_
              refine tw_getI C fl_RX9_193 rfl (wcells_mem (f := 9) (j := 0) (by decide) (by decide)) rfl dX9_match_166 ?_
              refine tw_iconst (v := 1) C dX9_match_169 (by decide) ?_
              refine tw_isub C dX9_match_170 ?_
              obtain ⟨rfl, rfl⟩ := pj2 (Option.some.inj eh25)
              exact tw_iret C hK rfl rfl dX9_match_171
            refine lpF_ct (G := fun (q : Int32 × St) => match q with | (x1, σ2) => TW K 65 [(0, rv K (9, 0)), (1, .int a1), (2, .int a2), (3, .int x1)] [] σ2) ?_ hx8
            rintro ⟨x1, σ2⟩ w9 hx9 hk9
            show TW K 65 [(0, rv K (9, 0)), (1, .int a1), (2, .int a2), (3, .int x1)] [] σ2
            refine tw_iload_n (i := 3) (z := 3) C dX9_match_65 rfl rfl ?_
            refine tw_iload_n (i := 2) (z := 2) C dX9_match_66 rfl rfl ?_
            refine tw_ic_ge (tgt := 135) C dX9_match_67 (by decide) (fun hc10 => ?_) (fun hc10 => ?_)
            · have ht10 := ite_t hc10 hx9
              refine tw_sub [0, 2] rfl ?_
              have e11 := lp_x ht10 hk9
              obtain rfl := (Option.some.inj e11)
              exact hJ8
            · have hf10 := ite_f hc10 hx9
              refine tw_aload_n (i := 0) (z := 0) (r := (9, 0)) C dX9_match_70 rfl rfl ?_
              refine tw_getR (g := 54) (z := 0) (j' := 0) C fl_RX9_96 rfl (wcells_mem (f := 9) (j := 0) (by decide) (by decide)) rfl rfl dX9_match_71 ?_
              refine tw_bipush (v := 60) C dX9_match_74 (by decide) ?_
              refine tw_iload_n (i := 1) (z := 1) C dX9_match_76 rfl rfl ?_
              refine tw_imul C dX9_match_77 ?_
              refine tw_iload_n (i := 3) (z := 3) C dX9_match_78 rfl rfl ?_
              refine tw_iadd C dX9_match_79 ?_
              obtain ⟨hb12, eh12⟩ := grd_some hf10
              refine tw_iald (r := (54, 0)) C (ia_of rfl (by decide)) hb12 dX9_match_80 ?_
              obtain ⟨x2, ex13, eh13⟩ := bnd_ex eh12
              refine tw_topi ex13.symm ?_
              refine tw_istore (lv' := [(0, rv K (9, 0)), (1, .int a1), (2, .int a2), (3, .int x1), (4, .int x2)]) C [1, 2, 3, 4, 0] dX9_match_81 (by rw [hnL]; decide) rfl ?_
              refine tw_aload_n (i := 0) (z := 0) (r := (9, 0)) C dX9_match_83 rfl rfl ?_
              refine tw_getR (g := 37) (z := 0) (j' := 0) C fl_RX9_35 rfl (wcells_mem (f := 9) (j := 0) (by decide) (by decide)) rfl rfl dX9_match_84 ?_
              refine tw_bipush (v := 40) C dX9_match_87 (by decide) ?_
              refine tw_aload_n (i := 0) (z := 0) (r := (9, 0)) C dX9_match_89 rfl rfl ?_
              refine tw_getI C fl_RX9_193 rfl (wcells_mem (f := 9) (j := 0) (by decide) (by decide)) rfl dX9_match_90 ?_
              refine tw_imul C dX9_match_93 ?_
              refine tw_iload_n (i := 3) (z := 3) C dX9_match_94 rfl rfl ?_
              refine tw_iadd C dX9_match_95 ?_
              refine tw_iload (i := 4) (z := 4) C dX9_match_96 rfl ?_
              refine tw_iconst (v := 0) C dX9_match_98 (by decide) ?_
              refine tw_bipush (v := 39) C dX9_match_99 (by decide) ?_
              refine tw_callS (As := [.int x2, .int (0 : Int32), .int (39 : Int32)]) (rest := [.int (((40 : Int32) * (σ2 (9, 0) 15)) + x1), rv K (37, 0)]) C hR (kX9_in K.1 _ (by omega) σ2 x2 (0 : Int32) (39 : Int32)  rfl) mi_X9_in st_X9_in ml_RX9_106 rfl rfl (Nat.le_of_ble_eq_true rfl) dX9_match_101 ?_
              show TW K 104 [(0, rv K (9, 0)), (1, .int a1), (2, .int a2), (3, .int x1), (4, .int x2)] [.int (b2i (fX9_in x2 (0 : Int32) (39 : Int32))), .int (((40 : Int32) * (σ2 (9, 0) 15)) + x1), rv K (37, 0)] σ2
              obtain ⟨x3, hx14, hq14⟩ := bnd_ex eh13
              have hJ14 : TW K 113 [(0, rv K (9, 0)), (1, .int a1), (2, .int a2), (3, .int x1)] [.int x3, .int (((40 : Int32) * (σ2 (9, 0) 15)) + x1), rv K (37, 0)] σ2 := by
                obtain ⟨hb16, eh16⟩ := grd_some hq14
                obtain ⟨σ3, es17, eg17⟩ := bnd_ex eh16
                refine tw_iast (r := (37, 0)) C (wa_of rfl (by decide) (by decide)) hb16 dX9_match_113 ?_
                rw [es17]
                refine tw_aload_n (i := 0) (z := 0) (r := (9, 0)) C dX9_match_114 rfl rfl ?_
                refine tw_getR (g := 38) (z := 0) (j' := 0) C fl_RX9_38 rfl (wcells_mem (f := 9) (j := 0) (by decide) (by decide)) rfl rfl dX9_match_115 ?_
                refine tw_bipush (v := 40) C dX9_match_118 (by decide) ?_
                refine tw_aload_n (i := 0) (z := 0) (r := (9, 0)) C dX9_match_120 rfl rfl ?_
                refine tw_getI C fl_RX9_193 rfl (wcells_mem (f := 9) (j := 0) (by decide) (by decide)) rfl dX9_match_121 ?_
                refine tw_imul C dX9_match_124 ?_
                refine tw_iload_n (i := 3) (z := 3) C dX9_match_125 rfl rfl ?_
                refine tw_iadd C dX9_match_126 ?_
                refine tw_iconst (v := (-1)) C dX9_match_127 (by decide) ?_
                obtain ⟨hb18, eh18⟩ := grd_some eg17
                obtain ⟨σ4, es19, eg19⟩ := bnd_ex eh18
                refine tw_iast (r := (38, 0)) C (wa_of rfl (by decide) (by decide)) hb18 dX9_match_128 ?_
                rw [es19]
                obtain ⟨x4, ex20, eh20⟩ := bnd_ex eg19
                refine tw_iinc (z := 3) (v := x4) (lv' := [(0, rv K (9, 0)), (1, .int a1), (2, .int a2), (3, .int x4)]) C [1, 2, 3, 0] dX9_match_129 rfl ex20 (by rw [hnL]; decide) rfl ?_
                refine tw_goto (tgt := 65) C dX9_match_132 (by decide) ?_
                have hz := lp_c eh20 hk9
                exact hz
              refine tw_if_eq (tgt := 112) C dX9_match_104 (by decide) (fun hc15 => ?_) (fun hc15 => ?_)
              · have ht15 := ite_f (b2i_z hc15) hx14
                refine tw_iconst (v := (-1)) C dX9_match_112 (by decide) ?_
                refine tw_sub [0, 1, 2, 3] rfl ?_
                obtain rfl := ht15
                exact hJ14
              · have hf15 := ite_t (b2i_nz hc15) hx14
                refine tw_iload (i := 4) (z := 4) C dX9_match_107 rfl ?_
                refine tw_goto (tgt := 113) C dX9_match_109 (by decide) ?_
                refine tw_sub [0, 1, 2, 3] rfl ?_
                obtain rfl := hf15
                exact hJ14
          · have hf7 := ite_t hc7 ht6
            refine tw_bipush (v := (-4)) C dX9_match_60 (by decide) ?_
            obtain ⟨rfl, rfl⟩ := pj2 (Option.some.inj hf7)
            exact tw_iret C hK rfl rfl dX9_match_62
        · have hf6 := ite_f hc6 eh5
          refine tw_aload_n (i := 0) (z := 0) (r := (9, 0)) C dX9_match_45 rfl rfl ?_
          refine tw_iconst (v := 2) C dX9_match_46 (by decide) ?_
          obtain ⟨⟨x5, σ8⟩, hv26, eh26⟩ := bnd_ex hf6
          refine tw_callV (As := [.int (2 : Int32)]) (rest := []) (r := (9, 0)) C hR (kX9_meets K.1 _ (by omega) _ (2 : Int32)  hv26) mi_X9_meets is_X9_meets se_X9_meets ml_RX9_199 (wcells_mem (f := 9) (j := 0) (by decide) (by decide)) rfl rfl rfl rfl (Nat.le_of_ble_eq_true rfl) dX9_match_47 ?_
          show TW K 50 [(0, rv K (9, 0)), (1, .int a1), (2, .int a2)] [.int x5] σ8
          obtain ⟨rfl, rfl⟩ := pj2 (Option.some.inj eh26)
          exact tw_iret C hK rfl rfl dX9_match_50
      · have hf4 := ite_t hc4 eh3
        refine tw_aload_n (i := 0) (z := 0) (r := (9, 0)) C dX9_match_29 rfl rfl ?_
        refine tw_iconst (v := 1) C dX9_match_30 (by decide) ?_
        obtain ⟨⟨x6, σ9⟩, hv27, eh27⟩ := bnd_ex hf4
        refine tw_callV (As := [.int (1 : Int32)]) (rest := []) (r := (9, 0)) C hR (kX9_meets K.1 _ (by omega) _ (1 : Int32)  hv27) mi_X9_meets is_X9_meets se_X9_meets ml_RX9_199 (wcells_mem (f := 9) (j := 0) (by decide) (by decide)) rfl rfl rfl rfl (Nat.le_of_ble_eq_true rfl) dX9_match_31 ?_
        show TW K 34 [(0, rv K (9, 0)), (1, .int a1), (2, .int a2)] [.int x6] σ9
        obtain ⟨rfl, rfl⟩ := pj2 (Option.some.inj eh27)
        exact tw_iret C hK rfl rfl dX9_match_34
    · have hf2 := ite_f (b2i_z hc2) hf1
      refine tw_bipush (v := (-2)) C dX9_match_17 (by decide) ?_
      obtain ⟨rfl, rfl⟩ := pj2 (Option.some.inj hf2)
      exact tw_iret C hK rfl rfl dX9_match_19

set_option maxRecDepth 20000 in
def fX9_verdicts (σ : St) (a1 : Int32) (a2 : Int32) : Option (Int32 × St) :=
  if (fX9_isMatch σ a1) = true then
    if (fX9_isSheet a2) = true then
      grd (inb a2 4) (
      if (σ (51, 0) (tn a2)) = 0 then
        bnd (fX9_meets σ (1 : Int32)) (fun (x5, σ5) =>
        some (x5, σ5))
      else
        obi (lpF (fun (q6 : Int32 × St) => match q6 with
        | (x1, σ2) =>
        grd (inb a1 12) (
        if (σ2 (36, 0) (tn a1)) ≤ x1 then
          some (.inr σ2)
        else
          grd (inb a2 4) (
          obi (if (σ2 (53, 0) (tn a2)) ≤ x1 then
            some (-1 : Int32)
          else
            grd (inb (((60 : Int32) * a2) + x1) 240) (
            some (σ2 (54, 0) (tn (((60 : Int32) * a2) + x1))))) (fun x2 =>
          bnd (if x2 = 0 then
            x2
          else
            if x2 = (1 : Int32) then
              x2
            else
              (-1 : Int32)) (fun x3 =>
          grd (inb (((40 : Int32) * a1) + x1) 480) (bnd (su σ2 (38, 0) (tn (((40 : Int32) * a1) + x1)) x3) (fun σ3 =>
          bnd (x1 + 1) (fun x4 =>
          some (.inl (x4, σ3)))))))))) ((0 : Int32), σ)) (fun σ1 =>
        grd (inb a1 12) (bnd (su σ1 (39, 0) (tn a1) (nbo (1 : Int32))) (fun σ4 =>
        some ((1 : Int32), σ4)))))
    else
      some ((-2 : Int32), σ)
  else
    some ((-2 : Int32), σ)
set_option maxRecDepth 20000 in
set_option maxHeartbeats 4000000 in
theorem kX9_verdicts (G : Gx) (d : Nat) (hdp : 3 ≤ d) (σ : St) (a1 : Int32) (a2 : Int32)  {v0 : Int32} {σ' : St} (h : fX9_verdicts σ a1 a2 = some (v0, σ')) : MS G d yX9_verdicts cX9_verdicts 5 (some .int) [.ref (G.2.1 (9, 0)), .int a1, .int a2] σ (some (.int v0)) σ' := by
  refine MS_of (by decide) (Nat.le_of_ble_eq_true rfl) rfl (fun K hG hnL C hR hK => ?_) (by omega)
  subst hG
  show TW K 0 [(0, rv K (9, 0)), (1, .int a1), (2, .int a2)] [] σ
  unfold fX9_verdicts at h
  refine tw_aload_n (i := 0) (z := 0) (r := (9, 0)) C dX9_verdicts_0 rfl rfl ?_
  refine tw_iload_n (i := 1) (z := 1) C dX9_verdicts_1 rfl rfl ?_
  refine tw_callV (As := [.int a1]) (rest := []) (r := (9, 0)) C hR (kX9_isMatch K.1 _ (by omega) σ a1  rfl) mi_X9_isMatch is_X9_isMatch se_X9_isMatch ml_RX9_202 (wcells_mem (f := 9) (j := 0) (by decide) (by decide)) rfl rfl rfl rfl (Nat.le_of_ble_eq_true rfl) dX9_verdicts_2 ?_
  show TW K 5 [(0, rv K (9, 0)), (1, .int a1), (2, .int a2)] [.int (b2i (fX9_isMatch σ a1))] σ
  refine tw_if_eq (tgt := 15) C dX9_verdicts_5 (by decide) (fun hc1 => ?_) (fun hc1 => ?_)
  · have ht1 := ite_f (b2i_z hc1) h
    refine tw_bipush (v := (-2)) C dX9_verdicts_15 (by decide) ?_
    obtain ⟨rfl, rfl⟩ := pj2 (Option.some.inj ht1)
    exact tw_iret C hK rfl rfl dX9_verdicts_17
  · have hf1 := ite_t (b2i_nz hc1) h
    refine tw_iload_n (i := 2) (z := 2) C dX9_verdicts_8 rfl rfl ?_
    refine tw_callS (As := [.int a2]) (rest := []) C hR (kX9_isSheet K.1 _ (by omega) σ a2  rfl) mi_X9_isSheet st_X9_isSheet ml_RX9_196 rfl rfl (Nat.le_of_ble_eq_true rfl) dX9_verdicts_9 ?_
    show TW K 12 [(0, rv K (9, 0)), (1, .int a1), (2, .int a2)] [.int (b2i (fX9_isSheet a2))] σ
    refine tw_if_ne (tgt := 18) C dX9_verdicts_12 (by decide) (fun hc2 => ?_) (fun hc2 => ?_)
    · have ht2 := ite_t (b2i_nz hc2) hf1
      refine tw_aload_n (i := 0) (z := 0) (r := (9, 0)) C dX9_verdicts_18 rfl rfl ?_
      refine tw_getR (g := 51) (z := 0) (j' := 0) C fl_RX9_87 rfl (wcells_mem (f := 9) (j := 0) (by decide) (by decide)) rfl rfl dX9_verdicts_19 ?_
      refine tw_iload_n (i := 2) (z := 2) C dX9_verdicts_22 rfl rfl ?_
      obtain ⟨hb3, eh3⟩ := grd_some ht2
      refine tw_zald (r := (51, 0)) C rfl (wcells_mem (f := 51) (j := 0) (by decide) (by decide)) hb3 dX9_verdicts_23 ?_
      refine tw_if_ne (tgt := 33) C dX9_verdicts_24 (by decide) (fun hc4 => ?_) (fun hc4 => ?_)
      · have ht4 := ite_f hc4 eh3
        refine tw_iconst (v := 0) C dX9_verdicts_33 (by decide) ?_
        refine tw_istore_n (lv' := [(0, rv K (9, 0)), (1, .int a1), (2, .int a2), (3, .int (0 : Int32))]) C [1, 2, 3, 0] dX9_verdicts_34 rfl (by rw [hnL]; decide) rfl ?_
        obtain ⟨σ1, hx5, hq5⟩ := obi_some ht4
        have hJ5 : TW K 106 [(0, rv K (9, 0)), (1, .int a1)] [] σ1 := by
          refine tw_aload_n (i := 0) (z := 0) (r := (9, 0)) C dX9_verdicts_106 rfl rfl ?_
          refine tw_getR (g := 39) (z := 0) (j' := 0) C fl_RX9_41 rfl (wcells_mem (f := 9) (j := 0) (by decide) (by decide)) rfl rfl dX9_verdicts_107 ?_
          refine tw_iload_n (i := 1) (z := 1) C dX9_verdicts_110 rfl rfl ?_
          refine tw_iconst (v := 1) C dX9_verdicts_111 (by decide) ?_
          obtain ⟨hb20, eh20⟩ := grd_some hq5
          obtain ⟨σ4, es21, eg21⟩ := bnd_ex eh20
          refine tw_zast (r := (39, 0)) C rfl (wcells_mem (f := 39) (j := 0) (by decide) (by decide)) hb20 dX9_verdicts_112 ?_
          rw [es21]
          refine tw_iconst (v := 1) C dX9_verdicts_113 (by decide) ?_
          obtain ⟨rfl, rfl⟩ := pj2 (Option.some.inj eg21)
          exact tw_iret C hK rfl rfl dX9_verdicts_114
        refine lpF_ct (G := fun (q : Int32 × St) => match q with | (x1, σ2) => TW K 35 [(0, rv K (9, 0)), (1, .int a1), (2, .int a2), (3, .int x1)] [] σ2) ?_ hx5
        rintro ⟨x1, σ2⟩ w6 hx6 hk6
        show TW K 35 [(0, rv K (9, 0)), (1, .int a1), (2, .int a2), (3, .int x1)] [] σ2
        refine tw_iload_n (i := 3) (z := 3) C dX9_verdicts_35 rfl rfl ?_
        refine tw_aload_n (i := 0) (z := 0) (r := (9, 0)) C dX9_verdicts_36 rfl rfl ?_
        refine tw_getR (g := 36) (z := 0) (j' := 0) C fl_RX9_32 rfl (wcells_mem (f := 9) (j := 0) (by decide) (by decide)) rfl rfl dX9_verdicts_37 ?_
        refine tw_iload_n (i := 1) (z := 1) C dX9_verdicts_40 rfl rfl ?_
        obtain ⟨hb7, eh7⟩ := grd_some hx6
        refine tw_iald (r := (36, 0)) C (ia_of rfl (by decide)) hb7 dX9_verdicts_41 ?_
        refine tw_ic_ge (tgt := 106) C dX9_verdicts_42 (by decide) (fun hc8 => ?_) (fun hc8 => ?_)
        · have ht8 := ite_t hc8 eh7
          refine tw_sub [0, 1] rfl ?_
          have e9 := lp_x ht8 hk6
          obtain rfl := (Option.some.inj e9)
          exact hJ5
        · have hf8 := ite_f hc8 eh7
          refine tw_iload_n (i := 3) (z := 3) C dX9_verdicts_45 rfl rfl ?_
          refine tw_aload_n (i := 0) (z := 0) (r := (9, 0)) C dX9_verdicts_46 rfl rfl ?_
          refine tw_getR (g := 53) (z := 0) (j' := 0) C fl_RX9_93 rfl (wcells_mem (f := 9) (j := 0) (by decide) (by decide)) rfl rfl dX9_verdicts_47 ?_
          refine tw_iload_n (i := 2) (z := 2) C dX9_verdicts_50 rfl rfl ?_
          obtain ⟨hb10, eh10⟩ := grd_some hf8
          refine tw_iald (r := (53, 0)) C (ia_of rfl (by decide)) hb10 dX9_verdicts_51 ?_
          obtain ⟨x2, hx11, hq11⟩ := obi_some eh10
          have hJ11 : TW K 70 [(0, rv K (9, 0)), (1, .int a1), (2, .int a2), (3, .int x1)] [.int x2] σ2 := by
            refine tw_istore (lv' := [(0, rv K (9, 0)), (1, .int a1), (2, .int a2), (3, .int x1), (4, .int x2)]) C [1, 2, 3, 4, 0] dX9_verdicts_70 (by rw [hnL]; decide) rfl ?_
            refine tw_aload_n (i := 0) (z := 0) (r := (9, 0)) C dX9_verdicts_72 rfl rfl ?_
            refine tw_getR (g := 38) (z := 0) (j' := 0) C fl_RX9_38 rfl (wcells_mem (f := 9) (j := 0) (by decide) (by decide)) rfl rfl dX9_verdicts_73 ?_
            refine tw_bipush (v := 40) C dX9_verdicts_76 (by decide) ?_
            refine tw_iload_n (i := 1) (z := 1) C dX9_verdicts_78 rfl rfl ?_
            refine tw_imul C dX9_verdicts_79 ?_
            refine tw_iload_n (i := 3) (z := 3) C dX9_verdicts_80 rfl rfl ?_
            refine tw_iadd C dX9_verdicts_81 ?_
            refine tw_iload (i := 4) (z := 4) C dX9_verdicts_82 rfl ?_
            obtain ⟨x3, hx14, hq14⟩ := bnd_ex hq11
            have hJ14 : TW K 99 [(0, rv K (9, 0)), (1, .int a1), (2, .int a2), (3, .int x1)] [.int x3, .int (((40 : Int32) * a1) + x1), rv K (38, 0)] σ2 := by
              obtain ⟨hb17, eh17⟩ := grd_some hq14
              obtain ⟨σ3, es18, eg18⟩ := bnd_ex eh17
              refine tw_iast (r := (38, 0)) C (wa_of rfl (by decide) (by decide)) hb17 dX9_verdicts_99 ?_
              rw [es18]
              obtain ⟨x4, ex19, eh19⟩ := bnd_ex eg18
              refine tw_iinc (z := 3) (v := x4) (lv' := [(0, rv K (9, 0)), (1, .int a1), (2, .int a2), (3, .int x4)]) C [1, 2, 3, 0] dX9_verdicts_100 rfl ex19 (by rw [hnL]; decide) rfl ?_
              refine tw_goto (tgt := 35) C dX9_verdicts_103 (by decide) ?_
              have hz := lp_c eh19 hk6
              exact hz
            refine tw_if_eq (tgt := 93) C dX9_verdicts_84 (by decide) (fun hc15 => ?_) (fun hc15 => ?_)
            · have ht15 := ite_t hc15 hx14
              refine tw_iload (i := 4) (z := 4) C dX9_verdicts_93 rfl ?_
              refine tw_goto (tgt := 99) C dX9_verdicts_95 (by decide) ?_
              refine tw_sub [0, 1, 2, 3] rfl ?_
              obtain rfl := ht15
              exact hJ14
            · have hf15 := ite_f hc15 hx14
              refine tw_iload (i := 4) (z := 4) C dX9_verdicts_87 rfl ?_
              refine tw_iconst (v := 1) C dX9_verdicts_89 (by decide) ?_
              refine tw_ic_ne (tgt := 98) C dX9_verdicts_90 (by decide) (fun hc16 => ?_) (fun hc16 => ?_)
              · have ht16 := ite_f hc16 hf15
                refine tw_iconst (v := (-1)) C dX9_verdicts_98 (by decide) ?_
                refine tw_sub [0, 1, 2, 3] rfl ?_
                obtain rfl := ht16
                exact hJ14
              · have hf16 := ite_t hc16 hf15
                refine tw_iload (i := 4) (z := 4) C dX9_verdicts_93 rfl ?_
                refine tw_goto (tgt := 99) C dX9_verdicts_95 (by decide) ?_
                refine tw_sub [0, 1, 2, 3] rfl ?_
                obtain rfl := hf16
                exact hJ14
          refine tw_ic_ge (tgt := 69) C dX9_verdicts_52 (by decide) (fun hc12 => ?_) (fun hc12 => ?_)
          · have ht12 := ite_t hc12 hx11
            refine tw_iconst (v := (-1)) C dX9_verdicts_69 (by decide) ?_
            obtain rfl := (Option.some.inj ht12)
            exact hJ11
          · have hf12 := ite_f hc12 hx11
            refine tw_aload_n (i := 0) (z := 0) (r := (9, 0)) C dX9_verdicts_55 rfl rfl ?_
            refine tw_getR (g := 54) (z := 0) (j' := 0) C fl_RX9_96 rfl (wcells_mem (f := 9) (j := 0) (by decide) (by decide)) rfl rfl dX9_verdicts_56 ?_
            refine tw_bipush (v := 60) C dX9_verdicts_59 (by decide) ?_
            refine tw_iload_n (i := 2) (z := 2) C dX9_verdicts_61 rfl rfl ?_
            refine tw_imul C dX9_verdicts_62 ?_
            refine tw_iload_n (i := 3) (z := 3) C dX9_verdicts_63 rfl rfl ?_
            refine tw_iadd C dX9_verdicts_64 ?_
            obtain ⟨hb13, eh13⟩ := grd_some hf12
            refine tw_iald (r := (54, 0)) C (ia_of rfl (by decide)) hb13 dX9_verdicts_65 ?_
            refine tw_goto (tgt := 70) C dX9_verdicts_66 (by decide) ?_
            obtain rfl := (Option.some.inj eh13)
            exact hJ11
      · have hf4 := ite_t hc4 eh3
        refine tw_aload_n (i := 0) (z := 0) (r := (9, 0)) C dX9_verdicts_27 rfl rfl ?_
        refine tw_iconst (v := 1) C dX9_verdicts_28 (by decide) ?_
        obtain ⟨⟨x5, σ5⟩, hv22, eh22⟩ := bnd_ex hf4
        refine tw_callV (As := [.int (1 : Int32)]) (rest := []) (r := (9, 0)) C hR (kX9_meets K.1 _ (by omega) _ (1 : Int32)  hv22) mi_X9_meets is_X9_meets se_X9_meets ml_RX9_199 (wcells_mem (f := 9) (j := 0) (by decide) (by decide)) rfl rfl rfl rfl (Nat.le_of_ble_eq_true rfl) dX9_verdicts_29 ?_
        show TW K 32 [(0, rv K (9, 0)), (1, .int a1), (2, .int a2)] [.int x5] σ5
        obtain ⟨rfl, rfl⟩ := pj2 (Option.some.inj eh22)
        exact tw_iret C hK rfl rfl dX9_verdicts_32
    · have hf2 := ite_f (b2i_z hc2) hf1
      refine tw_bipush (v := (-2)) C dX9_verdicts_15 (by decide) ?_
      obtain ⟨rfl, rfl⟩ := pj2 (Option.some.inj hf2)
      exact tw_iret C hK rfl rfl dX9_verdicts_17

set_option maxRecDepth 20000 in
def fX9_clears (σ : St)  : St :=
  bnd (fX9_begins σ) (fun σ1 =>
  bnd (su σ1 (9, 0) 20 (0 : Int32)) (fun σ2 =>
  bnd (su σ2 (9, 0) 21 (0 : Int32)) (fun σ3 =>
  bnd (su σ3 (9, 0) 22 (0 : Int32)) (fun σ4 =>
  bnd (su σ4 (9, 0) 23 (0 : Int32)) (fun σ5 =>
  σ5)))))
set_option maxRecDepth 20000 in
set_option maxHeartbeats 4000000 in
theorem kX9_clears (G : Gx) (d : Nat) (hdp : 2 ≤ d) (σ : St)   {σ' : St} (h : fX9_clears σ  = σ') : MS G d yX9_clears cX9_clears 1 none [.ref (G.2.1 (9, 0))] σ none σ' := by
  refine MS_of (by decide) (Nat.le_of_ble_eq_true rfl) rfl (fun K hG hnL C hR hK => ?_) (by omega)
  subst hG
  show TW K 0 [(0, rv K (9, 0))] [] σ
  unfold fX9_clears at h
  refine tw_aload_n (i := 0) (z := 0) (r := (9, 0)) C dX9_clears_0 rfl rfl ?_
  obtain ⟨σ1, hv1, eh1⟩ := bnd_ex h
  refine tw_callV (As := []) (rest := []) (r := (9, 0)) C hR (kX9_begins K.1 _ (by omega) _   hv1) mi_X9_begins is_X9_begins se_X9_begins ml_RX9_205 (wcells_mem (f := 9) (j := 0) (by decide) (by decide)) rfl rfl rfl rfl (Nat.le_of_ble_eq_true rfl) dX9_clears_1 ?_
  show TW K 4 [(0, rv K (9, 0))] [] σ1
  refine tw_aload_n (i := 0) (z := 0) (r := (9, 0)) C dX9_clears_4 rfl rfl ?_
  refine tw_iconst (v := 0) C dX9_clears_5 (by decide) ?_
  obtain ⟨σ2, es2, eh2⟩ := bnd_ex eh1
  refine tw_put C fl_RX9_208 (fun q hq => by cases hq; rfl) rfl (wcells_mem (f := 9) (j := 0) (by decide) (by decide)) rfl rfl rfl dX9_clears_6 ?_
  rw [es2]
  refine tw_aload_n (i := 0) (z := 0) (r := (9, 0)) C dX9_clears_9 rfl rfl ?_
  refine tw_iconst (v := 0) C dX9_clears_10 (by decide) ?_
  obtain ⟨σ3, es3, eh3⟩ := bnd_ex eh2
  refine tw_put C fl_RX9_211 (fun q hq => by cases hq; rfl) rfl (wcells_mem (f := 9) (j := 0) (by decide) (by decide)) rfl rfl rfl dX9_clears_11 ?_
  rw [es3]
  refine tw_aload_n (i := 0) (z := 0) (r := (9, 0)) C dX9_clears_14 rfl rfl ?_
  refine tw_iconst (v := 0) C dX9_clears_15 (by decide) ?_
  obtain ⟨σ4, es4, eh4⟩ := bnd_ex eh3
  refine tw_put C fl_RX9_214 (fun q hq => by cases hq; rfl) rfl (wcells_mem (f := 9) (j := 0) (by decide) (by decide)) rfl rfl rfl dX9_clears_16 ?_
  rw [es4]
  refine tw_aload_n (i := 0) (z := 0) (r := (9, 0)) C dX9_clears_19 rfl rfl ?_
  refine tw_iconst (v := 0) C dX9_clears_20 (by decide) ?_
  obtain ⟨σ5, es5, eh5⟩ := bnd_ex eh4
  refine tw_put C fl_RX9_217 (fun q hq => by cases hq; rfl) rfl (wcells_mem (f := 9) (j := 0) (by decide) (by decide)) rfl rfl rfl dX9_clears_21 ?_
  rw [es5]
  obtain rfl := eh5
  exact tw_vret C hK rfl rfl dX9_clears_24

set_option maxRecDepth 20000 in
def fX9_steps (σ : St) (a1 : Int32) : Option (Int32 × St) :=
  grd (inb (((40 : Int32) * a1) + (σ (9, 0) 23)) 480) (
  bnd (σ (37, 0) (tn (((40 : Int32) * a1) + (σ (9, 0) 23)))) (fun x1 =>
  bnd (su σ (9, 0) 23 ((σ (9, 0) 23) + (1 : Int32))) (fun σ1 =>
  if x1 = (-1 : Int32) then
    some ((3 : Int32), σ1)
  else
    obi (fX9_goesOn σ1 x1 (-1 : Int32)) (fun (x2, σ2) =>
    bnd (if x2 = (1 : Int32) then
      (1 : Int32)
    else
      (0 : Int32)) (fun x3 =>
    bnd (su σ2 (9, 0) 20 ((σ2 (9, 0) 20) + x3)) (fun σ3 =>
    bnd (if x2 = (2 : Int32) then
      (1 : Int32)
    else
      (0 : Int32)) (fun x4 =>
    bnd (su σ3 (9, 0) 21 ((σ3 (9, 0) 21) + x4)) (fun σ4 =>
    bnd (if x2 = (1 : Int32) then
      if (irm x1 (10 : Int32)) = (7 : Int32) then
        (1 : Int32)
      else
        (0 : Int32)
    else
      (0 : Int32)) (fun x5 =>
    bnd (su σ4 (9, 0) 22 ((σ4 (9, 0) 22) + x5)) (fun σ5 =>
    some (x2, σ5)))))))))))
set_option maxRecDepth 20000 in
set_option maxHeartbeats 4000000 in
theorem kX9_steps (G : Gx) (d : Nat) (hdp : 6 ≤ d) (σ : St) (a1 : Int32)  {v0 : Int32} {σ' : St} (h : fX9_steps σ a1 = some (v0, σ')) : MS G d yX9_steps cX9_steps 4 (some .int) [.ref (G.2.1 (9, 0)), .int a1] σ (some (.int v0)) σ' := by
  refine MS_of (by decide) (Nat.le_of_ble_eq_true rfl) rfl (fun K hG hnL C hR hK => ?_) (by omega)
  subst hG
  show TW K 0 [(0, rv K (9, 0)), (1, .int a1)] [] σ
  unfold fX9_steps at h
  refine tw_aload_n (i := 0) (z := 0) (r := (9, 0)) C dX9_steps_0 rfl rfl ?_
  refine tw_getR (g := 37) (z := 0) (j' := 0) C fl_RX9_35 rfl (wcells_mem (f := 9) (j := 0) (by decide) (by decide)) rfl rfl dX9_steps_1 ?_
  refine tw_bipush (v := 40) C dX9_steps_4 (by decide) ?_
  refine tw_iload_n (i := 1) (z := 1) C dX9_steps_6 rfl rfl ?_
  refine tw_imul C dX9_steps_7 ?_
  refine tw_aload_n (i := 0) (z := 0) (r := (9, 0)) C dX9_steps_8 rfl rfl ?_
  refine tw_getI C fl_RX9_217 rfl (wcells_mem (f := 9) (j := 0) (by decide) (by decide)) rfl dX9_steps_9 ?_
  refine tw_iadd C dX9_steps_12 ?_
  obtain ⟨hb1, eh1⟩ := grd_some h
  refine tw_iald (r := (37, 0)) C (ia_of rfl (by decide)) hb1 dX9_steps_13 ?_
  obtain ⟨x1, ex2, eh2⟩ := bnd_ex eh1
  refine tw_topi ex2.symm ?_
  refine tw_istore_n (lv' := [(0, rv K (9, 0)), (1, .int a1), (2, .int x1)]) C [1, 2, 0] dX9_steps_14 rfl (by rw [hnL]; decide) rfl ?_
  refine tw_aload_n (i := 0) (z := 0) (r := (9, 0)) C dX9_steps_15 rfl rfl ?_
  refine tw_dup C dX9_steps_16 rfl ?_
  refine tw_getI C fl_RX9_217 rfl (wcells_mem (f := 9) (j := 0) (by decide) (by decide)) rfl dX9_steps_17 ?_
  refine tw_iconst (v := 1) C dX9_steps_20 (by decide) ?_
  refine tw_iadd C dX9_steps_21 ?_
  obtain ⟨σ1, es3, eh3⟩ := bnd_ex eh2
  refine tw_put C fl_RX9_217 (fun q hq => by cases hq; rfl) rfl (wcells_mem (f := 9) (j := 0) (by decide) (by decide)) rfl rfl rfl dX9_steps_22 ?_
  rw [es3]
  refine tw_iload_n (i := 2) (z := 2) C dX9_steps_25 rfl rfl ?_
  refine tw_iconst (v := (-1)) C dX9_steps_26 (by decide) ?_
  refine tw_ic_ne (tgt := 32) C dX9_steps_27 (by decide) (fun hc4 => ?_) (fun hc4 => ?_)
  · have ht4 := ite_f hc4 eh3
    refine tw_aload_n (i := 0) (z := 0) (r := (9, 0)) C dX9_steps_32 rfl rfl ?_
    refine tw_iload_n (i := 2) (z := 2) C dX9_steps_33 rfl rfl ?_
    refine tw_iconst (v := (-1)) C dX9_steps_34 (by decide) ?_
    obtain ⟨⟨x2, σ2⟩, hv5, eh5⟩ := obi_some ht4
    refine tw_callV (As := [.int x1, .int (-1 : Int32)]) (rest := []) (r := (9, 0)) C hR (kX9_goesOn K.1 _ (by omega) _ x1 (-1 : Int32)  hv5) mi_X9_goesOn is_X9_goesOn se_X9_goesOn ml_RX9_220 (wcells_mem (f := 9) (j := 0) (by decide) (by decide)) rfl rfl rfl rfl (Nat.le_of_ble_eq_true rfl) dX9_steps_35 ?_
    show TW K 38 [(0, rv K (9, 0)), (1, .int a1), (2, .int x1)] [.int x2] σ2
    refine tw_istore_n (lv' := [(0, rv K (9, 0)), (1, .int a1), (2, .int x1), (3, .int x2)]) C [1, 2, 3, 0] dX9_steps_38 rfl (by rw [hnL]; decide) rfl ?_
    refine tw_aload_n (i := 0) (z := 0) (r := (9, 0)) C dX9_steps_39 rfl rfl ?_
    refine tw_dup C dX9_steps_40 rfl ?_
    refine tw_getI C fl_RX9_208 rfl (wcells_mem (f := 9) (j := 0) (by decide) (by decide)) rfl dX9_steps_41 ?_
    refine tw_iload_n (i := 3) (z := 3) C dX9_steps_44 rfl rfl ?_
    refine tw_iconst (v := 1) C dX9_steps_45 (by decide) ?_
    obtain ⟨x3, hx6, hq6⟩ := bnd_ex eh5
    have hJ6 : TW K 54 [(0, rv K (9, 0)), (2, .int x1), (3, .int x2)] [.int x3, .int (σ2 (9, 0) 20), rv K (9, 0)] σ2 := by
      refine tw_iadd C dX9_steps_54 ?_
      obtain ⟨σ3, es8, eh8⟩ := bnd_ex hq6
      refine tw_put C fl_RX9_208 (fun q hq => by cases hq; rfl) rfl (wcells_mem (f := 9) (j := 0) (by decide) (by decide)) rfl rfl rfl dX9_steps_55 ?_
      rw [es8]
      refine tw_aload_n (i := 0) (z := 0) (r := (9, 0)) C dX9_steps_58 rfl rfl ?_
      refine tw_dup C dX9_steps_59 rfl ?_
      refine tw_getI C fl_RX9_211 rfl (wcells_mem (f := 9) (j := 0) (by decide) (by decide)) rfl dX9_steps_60 ?_
      refine tw_iload_n (i := 3) (z := 2) C dX9_steps_63 rfl rfl ?_
      refine tw_iconst (v := 2) C dX9_steps_64 (by decide) ?_
      obtain ⟨x4, hx9, hq9⟩ := bnd_ex eh8
      have hJ9 : TW K 73 [(0, rv K (9, 0)), (2, .int x1), (3, .int x2)] [.int x4, .int (σ3 (9, 0) 21), rv K (9, 0)] σ3 := by
        refine tw_iadd C dX9_steps_73 ?_
        obtain ⟨σ4, es11, eh11⟩ := bnd_ex hq9
        refine tw_put C fl_RX9_211 (fun q hq => by cases hq; rfl) rfl (wcells_mem (f := 9) (j := 0) (by decide) (by decide)) rfl rfl rfl dX9_steps_74 ?_
        rw [es11]
        refine tw_aload_n (i := 0) (z := 0) (r := (9, 0)) C dX9_steps_77 rfl rfl ?_
        refine tw_dup C dX9_steps_78 rfl ?_
        refine tw_getI C fl_RX9_214 rfl (wcells_mem (f := 9) (j := 0) (by decide) (by decide)) rfl dX9_steps_79 ?_
        refine tw_iload_n (i := 3) (z := 2) C dX9_steps_82 rfl rfl ?_
        refine tw_iconst (v := 1) C dX9_steps_83 (by decide) ?_
        obtain ⟨x5, hx12, hq12⟩ := bnd_ex eh11
        have hJ12 : TW K 101 [(3, .int x2)] [.int x5, .int (σ4 (9, 0) 22), rv K (9, 0)] σ4 := by
          refine tw_iadd C dX9_steps_101 ?_
          obtain ⟨σ5, es15, eh15⟩ := bnd_ex hq12
          refine tw_put C fl_RX9_214 (fun q hq => by cases hq; rfl) rfl (wcells_mem (f := 9) (j := 0) (by decide) (by decide)) rfl rfl rfl dX9_steps_102 ?_
          rw [es15]
          refine tw_iload_n (i := 3) (z := 0) C dX9_steps_105 rfl rfl ?_
          obtain ⟨rfl, rfl⟩ := pj2 (Option.some.inj eh15)
          exact tw_iret C hK rfl rfl dX9_steps_106
        refine tw_ic_ne (tgt := 100) C dX9_steps_84 (by decide) (fun hc13 => ?_) (fun hc13 => ?_)
        · have ht13 := ite_f hc13 hx12
          refine tw_iconst (v := 0) C dX9_steps_100 (by decide) ?_
          refine tw_sub [2] rfl ?_
          obtain rfl := ht13
          exact hJ12
        · have hf13 := ite_t hc13 hx12
          refine tw_iload_n (i := 2) (z := 1) C dX9_steps_87 rfl rfl ?_
          refine tw_bipush (v := 10) C dX9_steps_88 (by decide) ?_
          refine tw_irem C dX9_steps_90 (by decide) ?_
          refine tw_bipush (v := 7) C dX9_steps_91 (by decide) ?_
          refine tw_ic_ne (tgt := 100) C dX9_steps_93 (by decide) (fun hc14 => ?_) (fun hc14 => ?_)
          · have ht14 := ite_f hc14 hf13
            refine tw_iconst (v := 0) C dX9_steps_100 (by decide) ?_
            refine tw_sub [2] rfl ?_
            obtain rfl := ht14
            exact hJ12
          · have hf14 := ite_t hc14 hf13
            refine tw_iconst (v := 1) C dX9_steps_96 (by decide) ?_
            refine tw_goto (tgt := 101) C dX9_steps_97 (by decide) ?_
            refine tw_sub [2] rfl ?_
            obtain rfl := hf14
            exact hJ12
      refine tw_ic_ne (tgt := 72) C dX9_steps_65 (by decide) (fun hc10 => ?_) (fun hc10 => ?_)
      · have ht10 := ite_f hc10 hx9
        refine tw_iconst (v := 0) C dX9_steps_72 (by decide) ?_
        obtain rfl := ht10
        exact hJ9
      · have hf10 := ite_t hc10 hx9
        refine tw_iconst (v := 1) C dX9_steps_68 (by decide) ?_
        refine tw_goto (tgt := 73) C dX9_steps_69 (by decide) ?_
        obtain rfl := hf10
        exact hJ9
    refine tw_ic_ne (tgt := 53) C dX9_steps_46 (by decide) (fun hc7 => ?_) (fun hc7 => ?_)
    · have ht7 := ite_f hc7 hx6
      refine tw_iconst (v := 0) C dX9_steps_53 (by decide) ?_
      refine tw_sub [0, 2, 3] rfl ?_
      obtain rfl := ht7
      exact hJ6
    · have hf7 := ite_t hc7 hx6
      refine tw_iconst (v := 1) C dX9_steps_49 (by decide) ?_
      refine tw_goto (tgt := 54) C dX9_steps_50 (by decide) ?_
      refine tw_sub [0, 2, 3] rfl ?_
      obtain rfl := hf7
      exact hJ6
  · have hf4 := ite_t hc4 eh3
    refine tw_iconst (v := 3) C dX9_steps_30 (by decide) ?_
    obtain ⟨rfl, rfl⟩ := pj2 (Option.some.inj hf4)
    exact tw_iret C hK rfl rfl dX9_steps_31

set_option maxRecDepth 20000 in
def fX9_isOver (σ : St) (a1 : Int32) : Option (Bool) :=
  bnd (if (σ (35, 0) (tn (15 : Int32))) ≤ 0 then
    (0 : Int32)
  else
    if (σ (35, 0) (tn (15 : Int32))) ≤ (σ (9, 0) 13) then
      (1 : Int32)
    else
      if (σ (9, 0) 14) < (σ (35, 0) (tn (15 : Int32))) then
        (0 : Int32)
      else
        (1 : Int32)) (fun x1 =>
  grd (inb a1 12) (
  if (σ (9, 0) 23) = (σ (36, 0) (tn a1)) then
    some true
  else
    if (σ (35, 0) (tn (16 : Int32))) ≤ (σ (9, 0) 23) then
      some true
    else
      if x1 = 0 then
        some false
      else
        some true))
set_option maxRecDepth 20000 in
set_option maxHeartbeats 4000000 in
theorem kX9_isOver (G : Gx) (d : Nat) (hdp : 1 ≤ d) (σ : St) (a1 : Int32)  {v0 : Bool} (h : fX9_isOver σ a1 = some v0) : MS G d yX9_isOver cX9_isOver 3 (some .boolean) [.ref (G.2.1 (9, 0)), .int a1] σ (some (.int (b2i v0))) σ := by
  refine MS_of (by decide) (Nat.le_of_ble_eq_true rfl) rfl (fun K hG hnL C hR hK => ?_) (by omega)
  subst hG
  show TW K 0 [(0, rv K (9, 0)), (1, .int a1)] [] σ
  unfold fX9_isOver at h
  refine tw_aload_n (i := 0) (z := 0) (r := (9, 0)) C dX9_isOver_0 rfl rfl ?_
  refine tw_getR (g := 35) (z := 0) (j' := 0) C fl_RX9_29 rfl (wcells_mem (f := 9) (j := 0) (by decide) (by decide)) rfl rfl dX9_isOver_1 ?_
  refine tw_bipush (v := 15) C dX9_isOver_4 (by decide) ?_
  refine tw_iald (r := (35, 0)) C (ia_of rfl (by decide)) (by decide) dX9_isOver_6 ?_
  obtain ⟨x1, hx1, hq1⟩ := bnd_ex h
  have hJ1 : TW K 43 [(0, rv K (9, 0)), (1, .int a1)] [.int x1] σ := by
    refine tw_istore_n (lv' := [(0, rv K (9, 0)), (1, .int a1), (2, .int x1)]) C [1, 2, 0] dX9_isOver_43 rfl (by rw [hnL]; decide) rfl ?_
    refine tw_aload_n (i := 0) (z := 0) (r := (9, 0)) C dX9_isOver_44 rfl rfl ?_
    refine tw_getI C fl_RX9_217 rfl (wcells_mem (f := 9) (j := 0) (by decide) (by decide)) rfl dX9_isOver_45 ?_
    refine tw_aload_n (i := 0) (z := 0) (r := (9, 0)) C dX9_isOver_48 rfl rfl ?_
    refine tw_getR (g := 36) (z := 0) (j' := 0) C fl_RX9_32 rfl (wcells_mem (f := 9) (j := 0) (by decide) (by decide)) rfl rfl dX9_isOver_49 ?_
    refine tw_iload_n (i := 1) (z := 1) C dX9_isOver_52 rfl rfl ?_
    obtain ⟨hb5, eh5⟩ := grd_some hq1
    refine tw_iald (r := (36, 0)) C (ia_of rfl (by decide)) hb5 dX9_isOver_53 ?_
    refine tw_ic_eq (tgt := 75) C dX9_isOver_54 (by decide) (fun hc6 => ?_) (fun hc6 => ?_)
    · have ht6 := ite_t hc6 eh5
      refine tw_iconst (v := 1) C dX9_isOver_75 (by decide) ?_
      refine tw_goto (tgt := 80) C dX9_isOver_76 (by decide) ?_
      obtain rfl := (Option.some.inj ht6)
      exact tw_zret C hK rfl rfl rfl dX9_isOver_80
    · have hf6 := ite_f hc6 eh5
      refine tw_aload_n (i := 0) (z := 0) (r := (9, 0)) C dX9_isOver_57 rfl rfl ?_
      refine tw_getI C fl_RX9_217 rfl (wcells_mem (f := 9) (j := 0) (by decide) (by decide)) rfl dX9_isOver_58 ?_
      refine tw_aload_n (i := 0) (z := 0) (r := (9, 0)) C dX9_isOver_61 rfl rfl ?_
      refine tw_getR (g := 35) (z := 0) (j' := 0) C fl_RX9_29 rfl (wcells_mem (f := 9) (j := 0) (by decide) (by decide)) rfl rfl dX9_isOver_62 ?_
      refine tw_bipush (v := 16) C dX9_isOver_65 (by decide) ?_
      refine tw_iald (r := (35, 0)) C (ia_of rfl (by decide)) (by decide) dX9_isOver_67 ?_
      refine tw_ic_ge (tgt := 75) C dX9_isOver_68 (by decide) (fun hc7 => ?_) (fun hc7 => ?_)
      · have ht7 := ite_t hc7 hf6
        refine tw_iconst (v := 1) C dX9_isOver_75 (by decide) ?_
        refine tw_goto (tgt := 80) C dX9_isOver_76 (by decide) ?_
        obtain rfl := (Option.some.inj ht7)
        exact tw_zret C hK rfl rfl rfl dX9_isOver_80
      · have hf7 := ite_f hc7 hf6
        refine tw_iload_n (i := 2) (z := 2) C dX9_isOver_71 rfl rfl ?_
        refine tw_if_eq (tgt := 79) C dX9_isOver_72 (by decide) (fun hc8 => ?_) (fun hc8 => ?_)
        · have ht8 := ite_t hc8 hf7
          refine tw_iconst (v := 0) C dX9_isOver_79 (by decide) ?_
          obtain rfl := (Option.some.inj ht8)
          exact tw_zret C hK rfl rfl rfl dX9_isOver_80
        · have hf8 := ite_f hc8 hf7
          refine tw_iconst (v := 1) C dX9_isOver_75 (by decide) ?_
          refine tw_goto (tgt := 80) C dX9_isOver_76 (by decide) ?_
          obtain rfl := (Option.some.inj hf8)
          exact tw_zret C hK rfl rfl rfl dX9_isOver_80
  refine tw_if_le (tgt := 42) C dX9_isOver_7 (by decide) (fun hc2 => ?_) (fun hc2 => ?_)
  · have ht2 := ite_t hc2 hx1
    refine tw_iconst (v := 0) C dX9_isOver_42 (by decide) ?_
    obtain rfl := ht2
    exact hJ1
  · have hf2 := ite_f hc2 hx1
    refine tw_aload_n (i := 0) (z := 0) (r := (9, 0)) C dX9_isOver_10 rfl rfl ?_
    refine tw_getI C fl_RX9_163 rfl (wcells_mem (f := 9) (j := 0) (by decide) (by decide)) rfl dX9_isOver_11 ?_
    refine tw_aload_n (i := 0) (z := 0) (r := (9, 0)) C dX9_isOver_14 rfl rfl ?_
    refine tw_getR (g := 35) (z := 0) (j' := 0) C fl_RX9_29 rfl (wcells_mem (f := 9) (j := 0) (by decide) (by decide)) rfl rfl dX9_isOver_15 ?_
    refine tw_bipush (v := 15) C dX9_isOver_18 (by decide) ?_
    refine tw_iald (r := (35, 0)) C (ia_of rfl (by decide)) (by decide) dX9_isOver_20 ?_
    refine tw_ic_ge (tgt := 38) C dX9_isOver_21 (by decide) (fun hc3 => ?_) (fun hc3 => ?_)
    · have ht3 := ite_t hc3 hf2
      refine tw_iconst (v := 1) C dX9_isOver_38 (by decide) ?_
      refine tw_goto (tgt := 43) C dX9_isOver_39 (by decide) ?_
      obtain rfl := ht3
      exact hJ1
    · have hf3 := ite_f hc3 hf2
      refine tw_aload_n (i := 0) (z := 0) (r := (9, 0)) C dX9_isOver_24 rfl rfl ?_
      refine tw_getI C fl_RX9_166 rfl (wcells_mem (f := 9) (j := 0) (by decide) (by decide)) rfl dX9_isOver_25 ?_
      refine tw_aload_n (i := 0) (z := 0) (r := (9, 0)) C dX9_isOver_28 rfl rfl ?_
      refine tw_getR (g := 35) (z := 0) (j' := 0) C fl_RX9_29 rfl (wcells_mem (f := 9) (j := 0) (by decide) (by decide)) rfl rfl dX9_isOver_29 ?_
      refine tw_bipush (v := 15) C dX9_isOver_32 (by decide) ?_
      refine tw_iald (r := (35, 0)) C (ia_of rfl (by decide)) (by decide) dX9_isOver_34 ?_
      refine tw_ic_lt (tgt := 42) C dX9_isOver_35 (by decide) (fun hc4 => ?_) (fun hc4 => ?_)
      · have ht4 := ite_t hc4 hf3
        refine tw_iconst (v := 0) C dX9_isOver_42 (by decide) ?_
        obtain rfl := ht4
        exact hJ1
      · have hf4 := ite_f hc4 hf3
        refine tw_iconst (v := 1) C dX9_isOver_38 (by decide) ?_
        refine tw_goto (tgt := 43) C dX9_isOver_39 (by decide) ?_
        obtain rfl := hf4
        exact hJ1

set_option maxRecDepth 20000 in
def fX9_plays (σ : St) (a1 : Int32) : Option (St) :=
  bnd (fX9_clears σ) (fun σ1 =>
  lpF (fun (q2 : St) => match q2 with
  | σ2 =>
  obi (fX9_isOver σ2 a1) (fun x1 =>
  if x1 = true then
    some (.inr σ2)
  else
    obi (fX9_steps σ2 a1) (fun (x2, σ3) =>
    some (.inl σ3)))) σ1)
set_option maxRecDepth 20000 in
set_option maxHeartbeats 4000000 in
theorem kX9_plays (G : Gx) (d : Nat) (hdp : 7 ≤ d) (σ : St) (a1 : Int32)  {σ' : St} (h : fX9_plays σ a1 = some σ') : MS G d yX9_plays cX9_plays 3 none [.ref (G.2.1 (9, 0)), .int a1] σ none σ' := by
  refine MS_of (by decide) (Nat.le_of_ble_eq_true rfl) rfl (fun K hG hnL C hR hK => ?_) (by omega)
  subst hG
  show TW K 0 [(0, rv K (9, 0)), (1, .int a1)] [] σ
  unfold fX9_plays at h
  refine tw_aload_n (i := 0) (z := 0) (r := (9, 0)) C dX9_plays_0 rfl rfl ?_
  obtain ⟨σ1, hv1, eh1⟩ := bnd_ex h
  refine tw_callV (As := []) (rest := []) (r := (9, 0)) C hR (kX9_clears K.1 _ (by omega) _   hv1) mi_X9_clears is_X9_clears se_X9_clears ml_RX9_223 (wcells_mem (f := 9) (j := 0) (by decide) (by decide)) rfl rfl rfl rfl (Nat.le_of_ble_eq_true rfl) dX9_plays_1 ?_
  show TW K 4 [(0, rv K (9, 0)), (1, .int a1)] [] σ1
  refine lpF_ct (G := fun (q : St) => match q with | σ2 => TW K 4 [(0, rv K (9, 0)), (1, .int a1)] [] σ2) ?_ eh1
  rintro σ2 w2 hx2 hk2
  show TW K 4 [(0, rv K (9, 0)), (1, .int a1)] [] σ2
  refine tw_aload_n (i := 0) (z := 0) (r := (9, 0)) C dX9_plays_4 rfl rfl ?_
  refine tw_iload_n (i := 1) (z := 1) C dX9_plays_5 rfl rfl ?_
  obtain ⟨x1, hv3, eh3⟩ := obi_some hx2
  refine tw_callV (As := [.int a1]) (rest := []) (r := (9, 0)) C hR (kX9_isOver K.1 _ (by omega) σ2 a1  hv3) mi_X9_isOver is_X9_isOver se_X9_isOver ml_RX9_226 (wcells_mem (f := 9) (j := 0) (by decide) (by decide)) rfl rfl rfl rfl (Nat.le_of_ble_eq_true rfl) dX9_plays_6 ?_
  show TW K 9 [(0, rv K (9, 0)), (1, .int a1)] [.int (b2i x1)] σ2
  refine tw_if_ne (tgt := 21) C dX9_plays_9 (by decide) (fun hc4 => ?_) (fun hc4 => ?_)
  · have ht4 := ite_t (b2i_nz hc4) eh3
    have e5 := lp_x ht4 hk2
    obtain rfl := (Option.some.inj e5)
    exact tw_vret C hK rfl rfl dX9_plays_21
  · have hf4 := ite_f (b2i_z hc4) eh3
    refine tw_aload_n (i := 0) (z := 0) (r := (9, 0)) C dX9_plays_12 rfl rfl ?_
    refine tw_iload_n (i := 1) (z := 1) C dX9_plays_13 rfl rfl ?_
    obtain ⟨⟨x2, σ3⟩, hv6, eh6⟩ := obi_some hf4
    refine tw_callV (As := [.int a1]) (rest := []) (r := (9, 0)) C hR (kX9_steps K.1 _ (by omega) _ a1  hv6) mi_X9_steps is_X9_steps se_X9_steps ml_RX9_229 (wcells_mem (f := 9) (j := 0) (by decide) (by decide)) rfl rfl rfl rfl (Nat.le_of_ble_eq_true rfl) dX9_plays_14 ?_
    show TW K 17 [(0, rv K (9, 0)), (1, .int a1)] [.int x2] σ3
    refine tw_istore_n (lv' := [(0, rv K (9, 0)), (1, .int a1), (2, .int x2)]) C [1, 2, 0] dX9_plays_17 rfl (by rw [hnL]; decide) rfl ?_
    refine tw_goto (tgt := 4) C dX9_plays_18 (by decide) ?_
    refine tw_sub [0, 1] rfl ?_
    have hz := lp_c eh6 hk2
    exact hz

set_option maxRecDepth 20000 in
def fX9_toldOf (σ : St) (a1 : Int32) : Int32 :=
  if a1 = 0 then
    σ (9, 0) 13
  else
    if a1 = 1 then
      σ (9, 0) 14
    else
      if a1 = 2 then
        σ (9, 0) 20
      else
        if a1 = 3 then
          σ (9, 0) 21
        else
          if a1 = 4 then
            σ (9, 0) 22
          else
            if a1 = 5 then
              σ (9, 0) 23
            else
              if a1 = 6 then
                if (σ (9, 0) 13) ≤ (σ (9, 0) 14) then
                  if (σ (9, 0) 14) ≤ (σ (9, 0) 13) then
                    (-1 : Int32)
                  else
                    (1 : Int32)
                else
                  (0 : Int32)
              else
                if a1 = 7 then
                  σ (9, 0) 10
                else
                  σ (9, 0) 11
set_option maxRecDepth 20000 in
set_option maxHeartbeats 4000000 in
theorem kX9_toldOf (G : Gx) (d : Nat) (hdp : 1 ≤ d) (σ : St) (a1 : Int32)  {v0 : Int32} (h : fX9_toldOf σ a1 = v0) : MS G d yX9_toldOf cX9_toldOf 2 (some .int) [.ref (G.2.1 (9, 0)), .int a1] σ (some (.int v0)) σ := by
  refine MS_of (by decide) (Nat.le_of_ble_eq_true rfl) rfl (fun K hG hnL C hR hK => ?_) (by omega)
  subst hG
  show TW K 0 [(0, rv K (9, 0)), (1, .int a1)] [] σ
  unfold fX9_toldOf at h
  refine tw_iload_n (i := 1) (z := 1) C dX9_toldOf_0 rfl rfl ?_
  by_cases hc1_0 : a1 = 0
  · have ht1_0 := ite_t hc1_0 h
    refine tw_tabZ (tgt := 48) C dX9_toldOf_1 (0) (by rw [hc1_0]; decide) (by decide) (by decide) rfl (by decide) ?_
    refine tw_aload_n (i := 0) (z := 0) (r := (9, 0)) C dX9_toldOf_48 rfl rfl ?_
    refine tw_getI C fl_RX9_163 rfl (wcells_mem (f := 9) (j := 0) (by decide) (by decide)) rfl dX9_toldOf_49 ?_
    obtain rfl := ht1_0
    exact tw_iret C hK rfl rfl dX9_toldOf_52
  have hf1_0 := ite_f hc1_0 h
  by_cases hc1_1 : a1 = 1
  · have ht1_1 := ite_t hc1_1 hf1_0
    refine tw_tabZ (tgt := 53) C dX9_toldOf_1 (1) (by rw [hc1_1]; decide) (by decide) (by decide) rfl (by decide) ?_
    refine tw_aload_n (i := 0) (z := 0) (r := (9, 0)) C dX9_toldOf_53 rfl rfl ?_
    refine tw_getI C fl_RX9_166 rfl (wcells_mem (f := 9) (j := 0) (by decide) (by decide)) rfl dX9_toldOf_54 ?_
    obtain rfl := ht1_1
    exact tw_iret C hK rfl rfl dX9_toldOf_57
  have hf1_1 := ite_f hc1_1 hf1_0
  by_cases hc1_2 : a1 = 2
  · have ht1_2 := ite_t hc1_2 hf1_1
    refine tw_tabZ (tgt := 58) C dX9_toldOf_1 (2) (by rw [hc1_2]; decide) (by decide) (by decide) rfl (by decide) ?_
    refine tw_aload_n (i := 0) (z := 0) (r := (9, 0)) C dX9_toldOf_58 rfl rfl ?_
    refine tw_getI C fl_RX9_208 rfl (wcells_mem (f := 9) (j := 0) (by decide) (by decide)) rfl dX9_toldOf_59 ?_
    obtain rfl := ht1_2
    exact tw_iret C hK rfl rfl dX9_toldOf_62
  have hf1_2 := ite_f hc1_2 hf1_1
  by_cases hc1_3 : a1 = 3
  · have ht1_3 := ite_t hc1_3 hf1_2
    refine tw_tabZ (tgt := 63) C dX9_toldOf_1 (3) (by rw [hc1_3]; decide) (by decide) (by decide) rfl (by decide) ?_
    refine tw_aload_n (i := 0) (z := 0) (r := (9, 0)) C dX9_toldOf_63 rfl rfl ?_
    refine tw_getI C fl_RX9_211 rfl (wcells_mem (f := 9) (j := 0) (by decide) (by decide)) rfl dX9_toldOf_64 ?_
    obtain rfl := ht1_3
    exact tw_iret C hK rfl rfl dX9_toldOf_67
  have hf1_3 := ite_f hc1_3 hf1_2
  by_cases hc1_4 : a1 = 4
  · have ht1_4 := ite_t hc1_4 hf1_3
    refine tw_tabZ (tgt := 68) C dX9_toldOf_1 (4) (by rw [hc1_4]; decide) (by decide) (by decide) rfl (by decide) ?_
    refine tw_aload_n (i := 0) (z := 0) (r := (9, 0)) C dX9_toldOf_68 rfl rfl ?_
    refine tw_getI C fl_RX9_214 rfl (wcells_mem (f := 9) (j := 0) (by decide) (by decide)) rfl dX9_toldOf_69 ?_
    obtain rfl := ht1_4
    exact tw_iret C hK rfl rfl dX9_toldOf_72
  have hf1_4 := ite_f hc1_4 hf1_3
  by_cases hc1_5 : a1 = 5
  · have ht1_5 := ite_t hc1_5 hf1_4
    refine tw_tabZ (tgt := 73) C dX9_toldOf_1 (5) (by rw [hc1_5]; decide) (by decide) (by decide) rfl (by decide) ?_
    refine tw_aload_n (i := 0) (z := 0) (r := (9, 0)) C dX9_toldOf_73 rfl rfl ?_
    refine tw_getI C fl_RX9_217 rfl (wcells_mem (f := 9) (j := 0) (by decide) (by decide)) rfl dX9_toldOf_74 ?_
    obtain rfl := ht1_5
    exact tw_iret C hK rfl rfl dX9_toldOf_77
  have hf1_5 := ite_f hc1_5 hf1_4
  by_cases hc1_6 : a1 = 6
  · have ht1_6 := ite_t hc1_6 hf1_5
    refine tw_tabZ (tgt := 78) C dX9_toldOf_1 (6) (by rw [hc1_6]; decide) (by decide) (by decide) rfl (by decide) ?_
    refine tw_aload_n (i := 0) (z := 0) (r := (9, 0)) C dX9_toldOf_78 rfl rfl ?_
    refine tw_getI C fl_RX9_163 rfl (wcells_mem (f := 9) (j := 0) (by decide) (by decide)) rfl dX9_toldOf_79 ?_
    refine tw_aload_n (i := 0) (z := 0) (r := (9, 0)) C dX9_toldOf_82 rfl rfl ?_
    refine tw_getI C fl_RX9_166 rfl (wcells_mem (f := 9) (j := 0) (by decide) (by decide)) rfl dX9_toldOf_83 ?_
    refine tw_ic_le (tgt := 93) C dX9_toldOf_86 (by decide) (fun hc2 => ?_) (fun hc2 => ?_)
    · have ht2 := ite_t hc2 ht1_6
      refine tw_aload_n (i := 0) (z := 0) (r := (9, 0)) C dX9_toldOf_93 rfl rfl ?_
      refine tw_getI C fl_RX9_166 rfl (wcells_mem (f := 9) (j := 0) (by decide) (by decide)) rfl dX9_toldOf_94 ?_
      refine tw_aload_n (i := 0) (z := 0) (r := (9, 0)) C dX9_toldOf_97 rfl rfl ?_
      refine tw_getI C fl_RX9_163 rfl (wcells_mem (f := 9) (j := 0) (by decide) (by decide)) rfl dX9_toldOf_98 ?_
      refine tw_ic_le (tgt := 108) C dX9_toldOf_101 (by decide) (fun hc3 => ?_) (fun hc3 => ?_)
      · have ht3 := ite_t hc3 ht2
        refine tw_iconst (v := (-1)) C dX9_toldOf_108 (by decide) ?_
        obtain rfl := ht3
        exact tw_iret C hK rfl rfl dX9_toldOf_109
      · have hf3 := ite_f hc3 ht2
        refine tw_iconst (v := 1) C dX9_toldOf_104 (by decide) ?_
        refine tw_goto (tgt := 109) C dX9_toldOf_105 (by decide) ?_
        obtain rfl := hf3
        exact tw_iret C hK rfl rfl dX9_toldOf_109
    · have hf2 := ite_f hc2 ht1_6
      refine tw_iconst (v := 0) C dX9_toldOf_89 (by decide) ?_
      refine tw_goto (tgt := 109) C dX9_toldOf_90 (by decide) ?_
      obtain rfl := hf2
      exact tw_iret C hK rfl rfl dX9_toldOf_109
  have hf1_6 := ite_f hc1_6 hf1_5
  by_cases hc1_7 : a1 = 7
  · have ht1_7 := ite_t hc1_7 hf1_6
    refine tw_tabZ (tgt := 110) C dX9_toldOf_1 (7) (by rw [hc1_7]; decide) (by decide) (by decide) rfl (by decide) ?_
    refine tw_aload_n (i := 0) (z := 0) (r := (9, 0)) C dX9_toldOf_110 rfl rfl ?_
    refine tw_getI C fl_RX9_154 rfl (wcells_mem (f := 9) (j := 0) (by decide) (by decide)) rfl dX9_toldOf_111 ?_
    obtain rfl := ht1_7
    exact tw_iret C hK rfl rfl dX9_toldOf_114
  have hf1_7 := ite_f hc1_7 hf1_6
  have hT1 : TW K 115 [(0, rv K (9, 0)), (1, .int a1)] [] σ := by
    refine tw_aload_n (i := 0) (z := 0) (r := (9, 0)) C dX9_toldOf_115 rfl rfl ?_
    refine tw_getI C fl_RX9_157 rfl (wcells_mem (f := 9) (j := 0) (by decide) (by decide)) rfl dX9_toldOf_116 ?_
    obtain rfl := hf1_7
    exact tw_iret C hK rfl rfl dX9_toldOf_119
  have hn1_0 : ¬ (a1).toInt = 0 := lv_neT (k := 0) hc1_0 (by decide)
  have hn1_1 : ¬ (a1).toInt = 1 := lv_neT (k := 1) hc1_1 (by decide)
  have hn1_2 : ¬ (a1).toInt = 2 := lv_neT (k := 2) hc1_2 (by decide)
  have hn1_3 : ¬ (a1).toInt = 3 := lv_neT (k := 3) hc1_3 (by decide)
  have hn1_4 : ¬ (a1).toInt = 4 := lv_neT (k := 4) hc1_4 (by decide)
  have hn1_5 : ¬ (a1).toInt = 5 := lv_neT (k := 5) hc1_5 (by decide)
  have hn1_6 : ¬ (a1).toInt = 6 := lv_neT (k := 6) hc1_6 (by decide)
  have hn1_7 : ¬ (a1).toInt = 7 := lv_neT (k := 7) hc1_7 (by decide)
  rcases (show (a1).toInt < 0 ∨ 7 < (a1).toInt by omega) with hz | hz
  · exact tw_tabOut (tgt := 115) C dX9_toldOf_1 (Or.inl hz) (by decide) hT1
  · exact tw_tabOut (tgt := 115) C dX9_toldOf_1 (Or.inr hz) (by decide) hT1

set_option maxRecDepth 20000 in
def fX9_played (σ : St) (a1 : Int32) (a2 : Int32) (a3 : Int32) (a4 : Int32) (a5 : Int32) : Option (Int32 × St) :=
  if (fX9_isMatch σ a1) = true then
    if (fX9_isCode a2) = true then
      if (fX9_isCode a3) = true then
        if (fX9_in a4 (0 : Int32) (131071 : Int32)) = true then
          if (fX9_in a5 (0 : Int32) (8 : Int32)) = true then
            obi (fX9_mix σ a2 a3 a4) (fun σ1 =>
            obi (fX9_plays σ1 a1) (fun σ2 =>
            some (fX9_toldOf σ2 a5, σ2)))
          else
            some ((-2 : Int32), σ)
        else
          some ((-2 : Int32), σ)
      else
        some ((-2 : Int32), σ)
    else
      some ((-2 : Int32), σ)
  else
    some ((-2 : Int32), σ)
set_option maxRecDepth 20000 in
set_option maxHeartbeats 4000000 in
theorem kX9_played (G : Gx) (d : Nat) (hdp : 8 ≤ d) (σ : St) (a1 : Int32) (a2 : Int32) (a3 : Int32) (a4 : Int32) (a5 : Int32)  {v0 : Int32} {σ' : St} (h : fX9_played σ a1 a2 a3 a4 a5 = some (v0, σ')) : MS G d yX9_played cX9_played 6 (some .int) [.ref (G.2.1 (9, 0)), .int a1, .int a2, .int a3, .int a4, .int a5] σ (some (.int v0)) σ' := by
  refine MS_of (by decide) (Nat.le_of_ble_eq_true rfl) rfl (fun K hG hnL C hR hK => ?_) (by omega)
  subst hG
  show TW K 0 [(0, rv K (9, 0)), (1, .int a1), (2, .int a2), (3, .int a3), (4, .int a4), (5, .int a5)] [] σ
  unfold fX9_played at h
  refine tw_aload_n (i := 0) (z := 0) (r := (9, 0)) C dX9_played_0 rfl rfl ?_
  refine tw_iload_n (i := 1) (z := 1) C dX9_played_1 rfl rfl ?_
  refine tw_callV (As := [.int a1]) (rest := []) (r := (9, 0)) C hR (kX9_isMatch K.1 _ (by omega) σ a1  rfl) mi_X9_isMatch is_X9_isMatch se_X9_isMatch ml_RX9_202 (wcells_mem (f := 9) (j := 0) (by decide) (by decide)) rfl rfl rfl rfl (Nat.le_of_ble_eq_true rfl) dX9_played_2 ?_
  show TW K 5 [(0, rv K (9, 0)), (1, .int a1), (2, .int a2), (3, .int a3), (4, .int a4), (5, .int a5)] [.int (b2i (fX9_isMatch σ a1))] σ
  refine tw_if_eq (tgt := 44) C dX9_played_5 (by decide) (fun hc1 => ?_) (fun hc1 => ?_)
  · have ht1 := ite_f (b2i_z hc1) h
    refine tw_bipush (v := (-2)) C dX9_played_44 (by decide) ?_
    obtain ⟨rfl, rfl⟩ := pj2 (Option.some.inj ht1)
    exact tw_iret C hK rfl rfl dX9_played_46
  · have hf1 := ite_t (b2i_nz hc1) h
    refine tw_iload_n (i := 2) (z := 2) C dX9_played_8 rfl rfl ?_
    refine tw_callS (As := [.int a2]) (rest := []) C hR (kX9_isCode K.1 _ (by omega) σ a2  rfl) mi_X9_isCode st_X9_isCode ml_RX9_110 rfl rfl (Nat.le_of_ble_eq_true rfl) dX9_played_9 ?_
    show TW K 12 [(0, rv K (9, 0)), (1, .int a1), (2, .int a2), (3, .int a3), (4, .int a4), (5, .int a5)] [.int (b2i (fX9_isCode a2))] σ
    refine tw_if_eq (tgt := 44) C dX9_played_12 (by decide) (fun hc2 => ?_) (fun hc2 => ?_)
    · have ht2 := ite_f (b2i_z hc2) hf1
      refine tw_bipush (v := (-2)) C dX9_played_44 (by decide) ?_
      obtain ⟨rfl, rfl⟩ := pj2 (Option.some.inj ht2)
      exact tw_iret C hK rfl rfl dX9_played_46
    · have hf2 := ite_t (b2i_nz hc2) hf1
      refine tw_iload_n (i := 3) (z := 3) C dX9_played_15 rfl rfl ?_
      refine tw_callS (As := [.int a3]) (rest := []) C hR (kX9_isCode K.1 _ (by omega) σ a3  rfl) mi_X9_isCode st_X9_isCode ml_RX9_110 rfl rfl (Nat.le_of_ble_eq_true rfl) dX9_played_16 ?_
      show TW K 19 [(0, rv K (9, 0)), (1, .int a1), (2, .int a2), (3, .int a3), (4, .int a4), (5, .int a5)] [.int (b2i (fX9_isCode a3))] σ
      refine tw_if_eq (tgt := 44) C dX9_played_19 (by decide) (fun hc3 => ?_) (fun hc3 => ?_)
      · have ht3 := ite_f (b2i_z hc3) hf2
        refine tw_bipush (v := (-2)) C dX9_played_44 (by decide) ?_
        obtain ⟨rfl, rfl⟩ := pj2 (Option.some.inj ht3)
        exact tw_iret C hK rfl rfl dX9_played_46
      · have hf3 := ite_t (b2i_nz hc3) hf2
        refine tw_iload (i := 4) (z := 4) C dX9_played_22 rfl ?_
        refine tw_iconst (v := 0) C dX9_played_24 (by decide) ?_
        refine tw_ldc C cn_RX9_232 dX9_played_25 ?_
        refine tw_callS (As := [.int a4, .int (0 : Int32), .int (131071 : Int32)]) (rest := []) C hR (kX9_in K.1 _ (by omega) σ a4 (0 : Int32) (131071 : Int32)  rfl) mi_X9_in st_X9_in ml_RX9_106 rfl rfl (Nat.le_of_ble_eq_true rfl) dX9_played_27 ?_
        show TW K 30 [(0, rv K (9, 0)), (1, .int a1), (2, .int a2), (3, .int a3), (4, .int a4), (5, .int a5)] [.int (b2i (fX9_in a4 (0 : Int32) (131071 : Int32)))] σ
        refine tw_if_eq (tgt := 44) C dX9_played_30 (by decide) (fun hc4 => ?_) (fun hc4 => ?_)
        · have ht4 := ite_f (b2i_z hc4) hf3
          refine tw_bipush (v := (-2)) C dX9_played_44 (by decide) ?_
          obtain ⟨rfl, rfl⟩ := pj2 (Option.some.inj ht4)
          exact tw_iret C hK rfl rfl dX9_played_46
        · have hf4 := ite_t (b2i_nz hc4) hf3
          refine tw_iload (i := 5) (z := 5) C dX9_played_33 rfl ?_
          refine tw_iconst (v := 0) C dX9_played_35 (by decide) ?_
          refine tw_bipush (v := 8) C dX9_played_36 (by decide) ?_
          refine tw_callS (As := [.int a5, .int (0 : Int32), .int (8 : Int32)]) (rest := []) C hR (kX9_in K.1 _ (by omega) σ a5 (0 : Int32) (8 : Int32)  rfl) mi_X9_in st_X9_in ml_RX9_106 rfl rfl (Nat.le_of_ble_eq_true rfl) dX9_played_38 ?_
          show TW K 41 [(0, rv K (9, 0)), (1, .int a1), (2, .int a2), (3, .int a3), (4, .int a4), (5, .int a5)] [.int (b2i (fX9_in a5 (0 : Int32) (8 : Int32)))] σ
          refine tw_if_ne (tgt := 47) C dX9_played_41 (by decide) (fun hc5 => ?_) (fun hc5 => ?_)
          · have ht5 := ite_t (b2i_nz hc5) hf4
            refine tw_aload_n (i := 0) (z := 0) (r := (9, 0)) C dX9_played_47 rfl rfl ?_
            refine tw_iload_n (i := 2) (z := 2) C dX9_played_48 rfl rfl ?_
            refine tw_iload_n (i := 3) (z := 3) C dX9_played_49 rfl rfl ?_
            refine tw_iload (i := 4) (z := 4) C dX9_played_50 rfl ?_
            obtain ⟨σ1, hv6, eh6⟩ := obi_some ht5
            refine tw_callV (As := [.int a2, .int a3, .int a4]) (rest := []) (r := (9, 0)) C hR (kX9_mix K.1 _ (by omega) _ a2 a3 a4  hv6) mi_X9_mix is_X9_mix se_X9_mix ml_RX9_233 (wcells_mem (f := 9) (j := 0) (by decide) (by decide)) rfl rfl rfl rfl (Nat.le_of_ble_eq_true rfl) dX9_played_52 ?_
            show TW K 55 [(0, rv K (9, 0)), (1, .int a1), (2, .int a2), (3, .int a3), (4, .int a4), (5, .int a5)] [] σ1
            refine tw_aload_n (i := 0) (z := 0) (r := (9, 0)) C dX9_played_55 rfl rfl ?_
            refine tw_iload_n (i := 1) (z := 1) C dX9_played_56 rfl rfl ?_
            obtain ⟨σ2, hv7, eh7⟩ := obi_some eh6
            refine tw_callV (As := [.int a1]) (rest := []) (r := (9, 0)) C hR (kX9_plays K.1 _ (by omega) _ a1  hv7) mi_X9_plays is_X9_plays se_X9_plays ml_RX9_236 (wcells_mem (f := 9) (j := 0) (by decide) (by decide)) rfl rfl rfl rfl (Nat.le_of_ble_eq_true rfl) dX9_played_57 ?_
            show TW K 60 [(0, rv K (9, 0)), (1, .int a1), (2, .int a2), (3, .int a3), (4, .int a4), (5, .int a5)] [] σ2
            refine tw_aload_n (i := 0) (z := 0) (r := (9, 0)) C dX9_played_60 rfl rfl ?_
            refine tw_iload (i := 5) (z := 5) C dX9_played_61 rfl ?_
            refine tw_callV (As := [.int a5]) (rest := []) (r := (9, 0)) C hR (kX9_toldOf K.1 _ (by omega) σ2 a5  rfl) mi_X9_toldOf is_X9_toldOf se_X9_toldOf ml_RX9_239 (wcells_mem (f := 9) (j := 0) (by decide) (by decide)) rfl rfl rfl rfl (Nat.le_of_ble_eq_true rfl) dX9_played_63 ?_
            show TW K 66 [(0, rv K (9, 0)), (1, .int a1), (2, .int a2), (3, .int a3), (4, .int a4), (5, .int a5)] [.int (fX9_toldOf σ2 a5)] σ2
            obtain ⟨rfl, rfl⟩ := pj2 (Option.some.inj eh7)
            exact tw_iret C hK rfl rfl dX9_played_66
          · have hf5 := ite_f (b2i_z hc5) hf4
            refine tw_bipush (v := (-2)) C dX9_played_44 (by decide) ?_
            obtain ⟨rfl, rfl⟩ := pj2 (Option.some.inj hf5)
            exact tw_iret C hK rfl rfl dX9_played_46

set_option maxRecDepth 20000 in
def fX9_goes (σ : St) (a1 : Int32) (a2 : Int32) (a3 : Int32) : Option (Int32 × St) :=
  if (fX9_isMatch σ a1) = true then
    if (fX9_isCode a2) = true then
      grd (inb a1 12) (
      if (fX9_in a3 (0 : Int32) ((σ (36, 0) (tn a1)) - (1 : Int32))) = true then
        obi (fX9_mix σ a2 a2 (0 : Int32)) (fun σ1 =>
        bnd (fX9_clears σ1) (fun σ2 =>
        lpF (fun (q7 : St) => match q7 with
        | σ3 =>
        obi (fX9_isOver σ3 a1) (fun x1 =>
        if x1 = true then
          some (.inr (((4 : Int32), σ3)))
        else
          obi (fX9_steps σ3 a1) (fun (x2, σ4) =>
          if (σ4 (9, 0) 23) = (a3 + (1 : Int32)) then
            some (.inr ((x2, σ4)))
          else
            some (.inl σ4)))) σ2))
      else
        some ((-2 : Int32), σ))
    else
      some ((-2 : Int32), σ)
  else
    some ((-2 : Int32), σ)
set_option maxRecDepth 20000 in
set_option maxHeartbeats 4000000 in
theorem kX9_goes (G : Gx) (d : Nat) (hdp : 8 ≤ d) (σ : St) (a1 : Int32) (a2 : Int32) (a3 : Int32)  {v0 : Int32} {σ' : St} (h : fX9_goes σ a1 a2 a3 = some (v0, σ')) : MS G d yX9_goes cX9_goes 5 (some .int) [.ref (G.2.1 (9, 0)), .int a1, .int a2, .int a3] σ (some (.int v0)) σ' := by
  refine MS_of (by decide) (Nat.le_of_ble_eq_true rfl) rfl (fun K hG hnL C hR hK => ?_) (by omega)
  subst hG
  show TW K 0 [(0, rv K (9, 0)), (1, .int a1), (2, .int a2), (3, .int a3)] [] σ
  unfold fX9_goes at h
  refine tw_aload_n (i := 0) (z := 0) (r := (9, 0)) C dX9_goes_0 rfl rfl ?_
  refine tw_iload_n (i := 1) (z := 1) C dX9_goes_1 rfl rfl ?_
  refine tw_callV (As := [.int a1]) (rest := []) (r := (9, 0)) C hR (kX9_isMatch K.1 _ (by omega) σ a1  rfl) mi_X9_isMatch is_X9_isMatch se_X9_isMatch ml_RX9_202 (wcells_mem (f := 9) (j := 0) (by decide) (by decide)) rfl rfl rfl rfl (Nat.le_of_ble_eq_true rfl) dX9_goes_2 ?_
  show TW K 5 [(0, rv K (9, 0)), (1, .int a1), (2, .int a2), (3, .int a3)] [.int (b2i (fX9_isMatch σ a1))] σ
  refine tw_if_eq (tgt := 31) C dX9_goes_5 (by decide) (fun hc1 => ?_) (fun hc1 => ?_)
  · have ht1 := ite_f (b2i_z hc1) h
    refine tw_bipush (v := (-2)) C dX9_goes_31 (by decide) ?_
    obtain ⟨rfl, rfl⟩ := pj2 (Option.some.inj ht1)
    exact tw_iret C hK rfl rfl dX9_goes_33
  · have hf1 := ite_t (b2i_nz hc1) h
    refine tw_iload_n (i := 2) (z := 2) C dX9_goes_8 rfl rfl ?_
    refine tw_callS (As := [.int a2]) (rest := []) C hR (kX9_isCode K.1 _ (by omega) σ a2  rfl) mi_X9_isCode st_X9_isCode ml_RX9_110 rfl rfl (Nat.le_of_ble_eq_true rfl) dX9_goes_9 ?_
    show TW K 12 [(0, rv K (9, 0)), (1, .int a1), (2, .int a2), (3, .int a3)] [.int (b2i (fX9_isCode a2))] σ
    refine tw_if_eq (tgt := 31) C dX9_goes_12 (by decide) (fun hc2 => ?_) (fun hc2 => ?_)
    · have ht2 := ite_f (b2i_z hc2) hf1
      refine tw_bipush (v := (-2)) C dX9_goes_31 (by decide) ?_
      obtain ⟨rfl, rfl⟩ := pj2 (Option.some.inj ht2)
      exact tw_iret C hK rfl rfl dX9_goes_33
    · have hf2 := ite_t (b2i_nz hc2) hf1
      refine tw_iload_n (i := 3) (z := 3) C dX9_goes_15 rfl rfl ?_
      refine tw_iconst (v := 0) C dX9_goes_16 (by decide) ?_
      refine tw_aload_n (i := 0) (z := 0) (r := (9, 0)) C dX9_goes_17 rfl rfl ?_
      refine tw_getR (g := 36) (z := 0) (j' := 0) C fl_RX9_32 rfl (wcells_mem (f := 9) (j := 0) (by decide) (by decide)) rfl rfl dX9_goes_18 ?_
      refine tw_iload_n (i := 1) (z := 1) C dX9_goes_21 rfl rfl ?_
      obtain ⟨hb3, eh3⟩ := grd_some hf2
      refine tw_iald (r := (36, 0)) C (ia_of rfl (by decide)) hb3 dX9_goes_22 ?_
      refine tw_iconst (v := 1) C dX9_goes_23 (by decide) ?_
      refine tw_isub C dX9_goes_24 ?_
      refine tw_callS (As := [.int a3, .int (0 : Int32), .int ((σ (36, 0) (tn a1)) - (1 : Int32))]) (rest := []) C hR (kX9_in K.1 _ (by omega) σ a3 (0 : Int32) ((σ (36, 0) (tn a1)) - (1 : Int32))  rfl) mi_X9_in st_X9_in ml_RX9_106 rfl rfl (Nat.le_of_ble_eq_true rfl) dX9_goes_25 ?_
      show TW K 28 [(0, rv K (9, 0)), (1, .int a1), (2, .int a2), (3, .int a3)] [.int (b2i (fX9_in a3 (0 : Int32) ((σ (36, 0) (tn a1)) - (1 : Int32))))] σ
      refine tw_if_ne (tgt := 34) C dX9_goes_28 (by decide) (fun hc4 => ?_) (fun hc4 => ?_)
      · have ht4 := ite_t (b2i_nz hc4) eh3
        refine tw_aload_n (i := 0) (z := 0) (r := (9, 0)) C dX9_goes_34 rfl rfl ?_
        refine tw_iload_n (i := 2) (z := 2) C dX9_goes_35 rfl rfl ?_
        refine tw_iload_n (i := 2) (z := 2) C dX9_goes_36 rfl rfl ?_
        refine tw_iconst (v := 0) C dX9_goes_37 (by decide) ?_
        obtain ⟨σ1, hv5, eh5⟩ := obi_some ht4
        refine tw_callV (As := [.int a2, .int a2, .int (0 : Int32)]) (rest := []) (r := (9, 0)) C hR (kX9_mix K.1 _ (by omega) _ a2 a2 (0 : Int32)  hv5) mi_X9_mix is_X9_mix se_X9_mix ml_RX9_233 (wcells_mem (f := 9) (j := 0) (by decide) (by decide)) rfl rfl rfl rfl (Nat.le_of_ble_eq_true rfl) dX9_goes_38 ?_
        show TW K 41 [(0, rv K (9, 0)), (1, .int a1), (2, .int a2), (3, .int a3)] [] σ1
        refine tw_aload_n (i := 0) (z := 0) (r := (9, 0)) C dX9_goes_41 rfl rfl ?_
        obtain ⟨σ2, hv6, eh6⟩ := bnd_ex eh5
        refine tw_callV (As := []) (rest := []) (r := (9, 0)) C hR (kX9_clears K.1 _ (by omega) _   hv6) mi_X9_clears is_X9_clears se_X9_clears ml_RX9_223 (wcells_mem (f := 9) (j := 0) (by decide) (by decide)) rfl rfl rfl rfl (Nat.le_of_ble_eq_true rfl) dX9_goes_42 ?_
        show TW K 45 [(0, rv K (9, 0)), (1, .int a1), (2, .int a2), (3, .int a3)] [] σ2
        refine tw_sub [0, 1, 3] rfl ?_
        refine lpF_ct (G := fun (q : St) => match q with | σ3 => TW K 45 [(0, rv K (9, 0)), (1, .int a1), (3, .int a3)] [] σ3) ?_ eh6
        rintro σ3 w7 hx7 hk7
        show TW K 45 [(0, rv K (9, 0)), (1, .int a1), (3, .int a3)] [] σ3
        refine tw_aload_n (i := 0) (z := 0) (r := (9, 0)) C dX9_goes_45 rfl rfl ?_
        refine tw_iload_n (i := 1) (z := 1) C dX9_goes_46 rfl rfl ?_
        obtain ⟨x1, hv8, eh8⟩ := obi_some hx7
        refine tw_callV (As := [.int a1]) (rest := []) (r := (9, 0)) C hR (kX9_isOver K.1 _ (by omega) σ3 a1  hv8) mi_X9_isOver is_X9_isOver se_X9_isOver ml_RX9_226 (wcells_mem (f := 9) (j := 0) (by decide) (by decide)) rfl rfl rfl rfl (Nat.le_of_ble_eq_true rfl) dX9_goes_47 ?_
        show TW K 50 [(0, rv K (9, 0)), (1, .int a1), (3, .int a3)] [.int (b2i x1)] σ3
        refine tw_if_ne (tgt := 76) C dX9_goes_50 (by decide) (fun hc9 => ?_) (fun hc9 => ?_)
        · have ht9 := ite_t (b2i_nz hc9) eh8
          refine tw_iconst (v := 4) C dX9_goes_76 (by decide) ?_
          have e10 := lp_x ht9 hk7
          obtain ⟨rfl, rfl⟩ := pj2 (Option.some.inj e10)
          exact tw_iret C hK rfl rfl dX9_goes_77
        · have hf9 := ite_f (b2i_z hc9) eh8
          refine tw_aload_n (i := 0) (z := 0) (r := (9, 0)) C dX9_goes_53 rfl rfl ?_
          refine tw_iload_n (i := 1) (z := 1) C dX9_goes_54 rfl rfl ?_
          obtain ⟨⟨x2, σ4⟩, hv11, eh11⟩ := obi_some hf9
          refine tw_callV (As := [.int a1]) (rest := []) (r := (9, 0)) C hR (kX9_steps K.1 _ (by omega) _ a1  hv11) mi_X9_steps is_X9_steps se_X9_steps ml_RX9_229 (wcells_mem (f := 9) (j := 0) (by decide) (by decide)) rfl rfl rfl rfl (Nat.le_of_ble_eq_true rfl) dX9_goes_55 ?_
          show TW K 58 [(0, rv K (9, 0)), (1, .int a1), (3, .int a3)] [.int x2] σ4
          refine tw_istore (lv' := [(0, rv K (9, 0)), (1, .int a1), (3, .int a3), (4, .int x2)]) C [1, 2, 3, 0] dX9_goes_58 (by rw [hnL]; decide) rfl ?_
          refine tw_aload_n (i := 0) (z := 0) (r := (9, 0)) C dX9_goes_60 rfl rfl ?_
          refine tw_getI C fl_RX9_217 rfl (wcells_mem (f := 9) (j := 0) (by decide) (by decide)) rfl dX9_goes_61 ?_
          refine tw_iload_n (i := 3) (z := 2) C dX9_goes_64 rfl rfl ?_
          refine tw_iconst (v := 1) C dX9_goes_65 (by decide) ?_
          refine tw_iadd C dX9_goes_66 ?_
          refine tw_ic_ne (tgt := 73) C dX9_goes_67 (by decide) (fun hc12 => ?_) (fun hc12 => ?_)
          · have ht12 := ite_f hc12 eh11
            refine tw_goto (tgt := 45) C dX9_goes_73 (by decide) ?_
            refine tw_sub [0, 1, 2] rfl ?_
            have hz := lp_c ht12 hk7
            exact hz
          · have hf12 := ite_t hc12 eh11
            refine tw_iload (i := 4) (z := 3) C dX9_goes_70 rfl ?_
            have e13 := lp_x hf12 hk7
            obtain ⟨rfl, rfl⟩ := pj2 (Option.some.inj e13)
            exact tw_iret C hK rfl rfl dX9_goes_72
      · have hf4 := ite_f (b2i_z hc4) eh3
        refine tw_bipush (v := (-2)) C dX9_goes_31 (by decide) ?_
        obtain ⟨rfl, rfl⟩ := pj2 (Option.some.inj hf4)
        exact tw_iret C hK rfl rfl dX9_goes_33

set_option maxRecDepth 20000 in
def fX9_winner (σ : St) (a1 : Int32) (a2 : Int32) : Option (Int32 × St) :=
  obi (fX9_mix σ a2 a2 (0 : Int32)) (fun σ1 =>
  obi (fX9_plays σ1 a1) (fun σ2 =>
  some (fX9_toldOf σ2 (6 : Int32), σ2)))
set_option maxRecDepth 20000 in
set_option maxHeartbeats 4000000 in
theorem kX9_winner (G : Gx) (d : Nat) (hdp : 8 ≤ d) (σ : St) (a1 : Int32) (a2 : Int32)  {v0 : Int32} {σ' : St} (h : fX9_winner σ a1 a2 = some (v0, σ')) : MS G d yX9_winner cX9_winner 3 (some .int) [.ref (G.2.1 (9, 0)), .int a1, .int a2] σ (some (.int v0)) σ' := by
  refine MS_of (by decide) (Nat.le_of_ble_eq_true rfl) rfl (fun K hG hnL C hR hK => ?_) (by omega)
  subst hG
  show TW K 0 [(0, rv K (9, 0)), (1, .int a1), (2, .int a2)] [] σ
  unfold fX9_winner at h
  refine tw_aload_n (i := 0) (z := 0) (r := (9, 0)) C dX9_winner_0 rfl rfl ?_
  refine tw_iload_n (i := 2) (z := 2) C dX9_winner_1 rfl rfl ?_
  refine tw_iload_n (i := 2) (z := 2) C dX9_winner_2 rfl rfl ?_
  refine tw_iconst (v := 0) C dX9_winner_3 (by decide) ?_
  obtain ⟨σ1, hv1, eh1⟩ := obi_some h
  refine tw_callV (As := [.int a2, .int a2, .int (0 : Int32)]) (rest := []) (r := (9, 0)) C hR (kX9_mix K.1 _ (by omega) _ a2 a2 (0 : Int32)  hv1) mi_X9_mix is_X9_mix se_X9_mix ml_RX9_233 (wcells_mem (f := 9) (j := 0) (by decide) (by decide)) rfl rfl rfl rfl (Nat.le_of_ble_eq_true rfl) dX9_winner_4 ?_
  show TW K 7 [(0, rv K (9, 0)), (1, .int a1), (2, .int a2)] [] σ1
  refine tw_aload_n (i := 0) (z := 0) (r := (9, 0)) C dX9_winner_7 rfl rfl ?_
  refine tw_iload_n (i := 1) (z := 1) C dX9_winner_8 rfl rfl ?_
  obtain ⟨σ2, hv2, eh2⟩ := obi_some eh1
  refine tw_callV (As := [.int a1]) (rest := []) (r := (9, 0)) C hR (kX9_plays K.1 _ (by omega) _ a1  hv2) mi_X9_plays is_X9_plays se_X9_plays ml_RX9_236 (wcells_mem (f := 9) (j := 0) (by decide) (by decide)) rfl rfl rfl rfl (Nat.le_of_ble_eq_true rfl) dX9_winner_9 ?_
  show TW K 12 [(0, rv K (9, 0)), (1, .int a1), (2, .int a2)] [] σ2
  refine tw_aload_n (i := 0) (z := 0) (r := (9, 0)) C dX9_winner_12 rfl rfl ?_
  refine tw_bipush (v := 6) C dX9_winner_13 (by decide) ?_
  refine tw_callV (As := [.int (6 : Int32)]) (rest := []) (r := (9, 0)) C hR (kX9_toldOf K.1 _ (by omega) σ2 (6 : Int32)  rfl) mi_X9_toldOf is_X9_toldOf se_X9_toldOf ml_RX9_239 (wcells_mem (f := 9) (j := 0) (by decide) (by decide)) rfl rfl rfl rfl (Nat.le_of_ble_eq_true rfl) dX9_winner_15 ?_
  show TW K 18 [(0, rv K (9, 0)), (1, .int a1), (2, .int a2)] [.int (fX9_toldOf σ2 (6 : Int32))] σ2
  obtain ⟨rfl, rfl⟩ := pj2 (Option.some.inj eh2)
  exact tw_iret C hK rfl rfl dX9_winner_18

set_option maxRecDepth 20000 in
def fX9_turned (σ : St) (a1 : Int32) (a2 : Int32) : Option (Int32 × St) :=
  if (fX9_isCode a1) = true then
    if (fX9_isCode a2) = true then
      lpF (fun (q3 : Int32 × Int32 × St) => match q3 with
      | (x1, x2, σ1) =>
      if (σ1 (9, 0) 15) ≤ x2 then
        some (.inr ((x1, σ1)))
      else
        obi (fX9_winner σ1 x2 a1) (fun (x3, σ2) =>
        obi (fX9_winner σ2 x2 a2) (fun (x4, σ3) =>
        bnd (if x3 = x4 then
          (0 : Int32)
        else
          (1 : Int32)) (fun x5 =>
        bnd (x1 + x5) (fun x6 =>
        bnd (x2 + 1) (fun x7 =>
        some (.inl (x6, x7, σ3)))))))) ((0 : Int32), (0 : Int32), σ)
    else
      some ((-2 : Int32), σ)
  else
    some ((-2 : Int32), σ)
set_option maxRecDepth 20000 in
set_option maxHeartbeats 4000000 in
theorem kX9_turned (G : Gx) (d : Nat) (hdp : 9 ≤ d) (σ : St) (a1 : Int32) (a2 : Int32)  {v0 : Int32} {σ' : St} (h : fX9_turned σ a1 a2 = some (v0, σ')) : MS G d yX9_turned cX9_turned 5 (some .int) [.ref (G.2.1 (9, 0)), .int a1, .int a2] σ (some (.int v0)) σ' := by
  refine MS_of (by decide) (Nat.le_of_ble_eq_true rfl) rfl (fun K hG hnL C hR hK => ?_) (by omega)
  subst hG
  show TW K 0 [(0, rv K (9, 0)), (1, .int a1), (2, .int a2)] [] σ
  unfold fX9_turned at h
  refine tw_iload_n (i := 1) (z := 1) C dX9_turned_0 rfl rfl ?_
  refine tw_callS (As := [.int a1]) (rest := []) C hR (kX9_isCode K.1 _ (by omega) σ a1  rfl) mi_X9_isCode st_X9_isCode ml_RX9_110 rfl rfl (Nat.le_of_ble_eq_true rfl) dX9_turned_1 ?_
  show TW K 4 [(0, rv K (9, 0)), (1, .int a1), (2, .int a2)] [.int (b2i (fX9_isCode a1))] σ
  refine tw_if_eq (tgt := 14) C dX9_turned_4 (by decide) (fun hc1 => ?_) (fun hc1 => ?_)
  · have ht1 := ite_f (b2i_z hc1) h
    refine tw_bipush (v := (-2)) C dX9_turned_14 (by decide) ?_
    obtain ⟨rfl, rfl⟩ := pj2 (Option.some.inj ht1)
    exact tw_iret C hK rfl rfl dX9_turned_16
  · have hf1 := ite_t (b2i_nz hc1) h
    refine tw_iload_n (i := 2) (z := 2) C dX9_turned_7 rfl rfl ?_
    refine tw_callS (As := [.int a2]) (rest := []) C hR (kX9_isCode K.1 _ (by omega) σ a2  rfl) mi_X9_isCode st_X9_isCode ml_RX9_110 rfl rfl (Nat.le_of_ble_eq_true rfl) dX9_turned_8 ?_
    show TW K 11 [(0, rv K (9, 0)), (1, .int a1), (2, .int a2)] [.int (b2i (fX9_isCode a2))] σ
    refine tw_if_ne (tgt := 17) C dX9_turned_11 (by decide) (fun hc2 => ?_) (fun hc2 => ?_)
    · have ht2 := ite_t (b2i_nz hc2) hf1
      refine tw_iconst (v := 0) C dX9_turned_17 (by decide) ?_
      refine tw_istore_n (lv' := [(0, rv K (9, 0)), (1, .int a1), (2, .int a2), (3, .int (0 : Int32))]) C [1, 2, 3, 0] dX9_turned_18 rfl (by rw [hnL]; decide) rfl ?_
      refine tw_iconst (v := 0) C dX9_turned_19 (by decide) ?_
      refine tw_istore (lv' := [(0, rv K (9, 0)), (1, .int a1), (2, .int a2), (3, .int (0 : Int32)), (4, .int (0 : Int32))]) C [1, 2, 3, 4, 0] dX9_turned_20 (by rw [hnL]; decide) rfl ?_
      refine lpF_ct (G := fun (q : Int32 × Int32 × St) => match q with | (x1, x2, σ1) => TW K 22 [(0, rv K (9, 0)), (1, .int a1), (2, .int a2), (3, .int x1), (4, .int x2)] [] σ1) ?_ ht2
      rintro ⟨x1, x2, σ1⟩ w3 hx3 hk3
      show TW K 22 [(0, rv K (9, 0)), (1, .int a1), (2, .int a2), (3, .int x1), (4, .int x2)] [] σ1
      refine tw_iload (i := 4) (z := 4) C dX9_turned_22 rfl ?_
      refine tw_aload_n (i := 0) (z := 0) (r := (9, 0)) C dX9_turned_24 rfl rfl ?_
      refine tw_getI C fl_RX9_193 rfl (wcells_mem (f := 9) (j := 0) (by decide) (by decide)) rfl dX9_turned_25 ?_
      refine tw_ic_ge (tgt := 62) C dX9_turned_28 (by decide) (fun hc4 => ?_) (fun hc4 => ?_)
      · have ht4 := ite_t hc4 hx3
        refine tw_iload_n (i := 3) (z := 3) C dX9_turned_62 rfl rfl ?_
        have e5 := lp_x ht4 hk3
        obtain ⟨rfl, rfl⟩ := pj2 (Option.some.inj e5)
        exact tw_iret C hK rfl rfl dX9_turned_63
      · have hf4 := ite_f hc4 hx3
        refine tw_iload_n (i := 3) (z := 3) C dX9_turned_31 rfl rfl ?_
        refine tw_aload_n (i := 0) (z := 0) (r := (9, 0)) C dX9_turned_32 rfl rfl ?_
        refine tw_iload (i := 4) (z := 4) C dX9_turned_33 rfl ?_
        refine tw_iload_n (i := 1) (z := 1) C dX9_turned_35 rfl rfl ?_
        obtain ⟨⟨x3, σ2⟩, hv6, eh6⟩ := obi_some hf4
        refine tw_callV (As := [.int x2, .int a1]) (rest := [.int x1]) (r := (9, 0)) C hR (kX9_winner K.1 _ (by omega) _ x2 a1  hv6) mi_X9_winner is_X9_winner se_X9_winner ml_RX9_242 (wcells_mem (f := 9) (j := 0) (by decide) (by decide)) rfl rfl rfl rfl (Nat.le_of_ble_eq_true rfl) dX9_turned_36 ?_
        show TW K 39 [(0, rv K (9, 0)), (1, .int a1), (2, .int a2), (3, .int x1), (4, .int x2)] [.int x3, .int x1] σ2
        refine tw_aload_n (i := 0) (z := 0) (r := (9, 0)) C dX9_turned_39 rfl rfl ?_
        refine tw_iload (i := 4) (z := 4) C dX9_turned_40 rfl ?_
        refine tw_iload_n (i := 2) (z := 2) C dX9_turned_42 rfl rfl ?_
        obtain ⟨⟨x4, σ3⟩, hv7, eh7⟩ := obi_some eh6
        refine tw_callV (As := [.int x2, .int a2]) (rest := [.int x3, .int x1]) (r := (9, 0)) C hR (kX9_winner K.1 _ (by omega) _ x2 a2  hv7) mi_X9_winner is_X9_winner se_X9_winner ml_RX9_242 (wcells_mem (f := 9) (j := 0) (by decide) (by decide)) rfl rfl rfl rfl (Nat.le_of_ble_eq_true rfl) dX9_turned_43 ?_
        show TW K 46 [(0, rv K (9, 0)), (1, .int a1), (2, .int a2), (3, .int x1), (4, .int x2)] [.int x4, .int x3, .int x1] σ3
        obtain ⟨x5, hx8, hq8⟩ := bnd_ex eh7
        have hJ8 : TW K 54 [(0, rv K (9, 0)), (1, .int a1), (2, .int a2), (4, .int x2)] [.int x5, .int x1] σ3 := by
          refine tw_iadd C dX9_turned_54 ?_
          obtain ⟨x6, ex10, eh10⟩ := bnd_ex hq8
          refine tw_topi ex10.symm ?_
          refine tw_istore_n (lv' := [(0, rv K (9, 0)), (1, .int a1), (2, .int a2), (3, .int x6), (4, .int x2)]) C [1, 2, 3, 0, 4] dX9_turned_55 rfl (by rw [hnL]; decide) rfl ?_
          obtain ⟨x7, ex11, eh11⟩ := bnd_ex eh10
          refine tw_iinc (z := 4) (v := x7) (lv' := [(0, rv K (9, 0)), (1, .int a1), (2, .int a2), (3, .int x6), (4, .int x7)]) C [1, 2, 3, 4, 0] dX9_turned_56 rfl ex11 (by rw [hnL]; decide) rfl ?_
          refine tw_goto (tgt := 22) C dX9_turned_59 (by decide) ?_
          have hz := lp_c eh11 hk3
          exact hz
        refine tw_ic_ne (tgt := 53) C dX9_turned_46 (by decide) (fun hc9 => ?_) (fun hc9 => ?_)
        · have ht9 := ite_f hc9 hx8
          refine tw_iconst (v := 1) C dX9_turned_53 (by decide) ?_
          refine tw_sub [0, 1, 2, 4] rfl ?_
          obtain rfl := ht9
          exact hJ8
        · have hf9 := ite_t hc9 hx8
          refine tw_iconst (v := 0) C dX9_turned_49 (by decide) ?_
          refine tw_goto (tgt := 54) C dX9_turned_50 (by decide) ?_
          refine tw_sub [0, 1, 2, 4] rfl ?_
          obtain rfl := hf9
          exact hJ8
    · have hf2 := ite_f (b2i_z hc2) hf1
      refine tw_bipush (v := (-2)) C dX9_turned_14 (by decide) ?_
      obtain ⟨rfl, rfl⟩ := pj2 (Option.some.inj hf2)
      exact tw_iret C hK rfl rfl dX9_turned_16

