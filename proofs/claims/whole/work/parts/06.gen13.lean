set_option maxRecDepth 20000 in
def fX9_parting (σ : St) (a1 : Int32) (a2 : Int32) (a3 : Int32) : Option (Int32 × St) :=
  if (fX9_isCode a1) = true then
    if (fX9_isCode a2) = true then
      if 0 ≤ a3 then
        obi (fX9_partsOf σ a1 a2) (fun (x1, σ1) =>
        if x1 ≤ a3 then
          some ((-1 : Int32), σ1)
        else
          grd (inb a3 6) (
          some (σ1 (43, 0) (tn a3), σ1)))
      else
        some ((-2 : Int32), σ)
    else
      some ((-2 : Int32), σ)
  else
    some ((-2 : Int32), σ)
set_option maxRecDepth 20000 in
set_option maxHeartbeats 4000000 in
theorem kX9_parting (G : Gx) (d : Nat) (hdp : 10 ≤ d) (σ : St) (a1 : Int32) (a2 : Int32) (a3 : Int32)  {v0 : Int32} {σ' : St} (h : fX9_parting σ a1 a2 a3 = some (v0, σ')) : MS G d yX9_parting cX9_parting 5 (some .int) [.ref (G.2.1 (9, 0)), .int a1, .int a2, .int a3] σ (some (.int v0)) σ' := by
  refine MS_of (by decide) (Nat.le_of_ble_eq_true rfl) rfl (fun K hG hnL C hR hK => ?_) (by omega)
  subst hG
  show TW K 0 [(0, rv K (9, 0)), (1, .int a1), (2, .int a2), (3, .int a3)] [] σ
  unfold fX9_parting at h
  refine tw_iload_n (i := 1) (z := 1) C dX9_parting_0 rfl rfl ?_
  refine tw_callS (As := [.int a1]) (rest := []) C hR (kX9_isCode K.1 _ (by omega) σ a1  rfl) mi_X9_isCode st_X9_isCode ml_RX9_110 rfl rfl (Nat.le_of_ble_eq_true rfl) dX9_parting_1 ?_
  show TW K 4 [(0, rv K (9, 0)), (1, .int a1), (2, .int a2), (3, .int a3)] [.int (b2i (fX9_isCode a1))] σ
  refine tw_if_eq (tgt := 18) C dX9_parting_4 (by decide) (fun hc1 => ?_) (fun hc1 => ?_)
  · have ht1 := ite_f (b2i_z hc1) h
    refine tw_bipush (v := (-2)) C dX9_parting_18 (by decide) ?_
    obtain ⟨rfl, rfl⟩ := pj2 (Option.some.inj ht1)
    exact tw_iret C hK rfl rfl dX9_parting_20
  · have hf1 := ite_t (b2i_nz hc1) h
    refine tw_iload_n (i := 2) (z := 2) C dX9_parting_7 rfl rfl ?_
    refine tw_callS (As := [.int a2]) (rest := []) C hR (kX9_isCode K.1 _ (by omega) σ a2  rfl) mi_X9_isCode st_X9_isCode ml_RX9_110 rfl rfl (Nat.le_of_ble_eq_true rfl) dX9_parting_8 ?_
    show TW K 11 [(0, rv K (9, 0)), (1, .int a1), (2, .int a2), (3, .int a3)] [.int (b2i (fX9_isCode a2))] σ
    refine tw_if_eq (tgt := 18) C dX9_parting_11 (by decide) (fun hc2 => ?_) (fun hc2 => ?_)
    · have ht2 := ite_f (b2i_z hc2) hf1
      refine tw_bipush (v := (-2)) C dX9_parting_18 (by decide) ?_
      obtain ⟨rfl, rfl⟩ := pj2 (Option.some.inj ht2)
      exact tw_iret C hK rfl rfl dX9_parting_20
    · have hf2 := ite_t (b2i_nz hc2) hf1
      refine tw_iload_n (i := 3) (z := 3) C dX9_parting_14 rfl rfl ?_
      refine tw_if_ge (tgt := 21) C dX9_parting_15 (by decide) (fun hc3 => ?_) (fun hc3 => ?_)
      · have ht3 := ite_t hc3 hf2
        refine tw_aload_n (i := 0) (z := 0) (r := (9, 0)) C dX9_parting_21 rfl rfl ?_
        refine tw_iload_n (i := 1) (z := 1) C dX9_parting_22 rfl rfl ?_
        refine tw_iload_n (i := 2) (z := 2) C dX9_parting_23 rfl rfl ?_
        obtain ⟨⟨x1, σ1⟩, hv4, eh4⟩ := obi_some ht3
        refine tw_callV (As := [.int a1, .int a2]) (rest := []) (r := (9, 0)) C hR (kX9_partsOf K.1 _ (by omega) _ a1 a2  hv4) mi_X9_partsOf is_X9_partsOf se_X9_partsOf ml_RX9_275 (wcells_mem (f := 9) (j := 0) (by decide) (by decide)) rfl rfl rfl rfl (Nat.le_of_ble_eq_true rfl) dX9_parting_24 ?_
        show TW K 27 [(0, rv K (9, 0)), (1, .int a1), (2, .int a2), (3, .int a3)] [.int x1] σ1
        refine tw_istore (lv' := [(0, rv K (9, 0)), (1, .int a1), (2, .int a2), (3, .int a3), (4, .int x1)]) C [1, 2, 3, 4, 0] dX9_parting_27 (by rw [hnL]; decide) rfl ?_
        refine tw_iload_n (i := 3) (z := 3) C dX9_parting_29 rfl rfl ?_
        refine tw_iload (i := 4) (z := 4) C dX9_parting_30 rfl ?_
        refine tw_ic_ge (tgt := 44) C dX9_parting_32 (by decide) (fun hc5 => ?_) (fun hc5 => ?_)
        · have ht5 := ite_t hc5 eh4
          refine tw_iconst (v := (-1)) C dX9_parting_44 (by decide) ?_
          obtain ⟨rfl, rfl⟩ := pj2 (Option.some.inj ht5)
          exact tw_iret C hK rfl rfl dX9_parting_45
        · have hf5 := ite_f hc5 eh4
          refine tw_aload_n (i := 0) (z := 0) (r := (9, 0)) C dX9_parting_35 rfl rfl ?_
          refine tw_getR (g := 43) (z := 0) (j' := 0) C fl_RX9_53 rfl (wcells_mem (f := 9) (j := 0) (by decide) (by decide)) rfl rfl dX9_parting_36 ?_
          refine tw_iload_n (i := 3) (z := 3) C dX9_parting_39 rfl rfl ?_
          obtain ⟨hb6, eh6⟩ := grd_some hf5
          refine tw_iald (r := (43, 0)) C (ia_of rfl (by decide)) hb6 dX9_parting_40 ?_
          refine tw_goto (tgt := 45) C dX9_parting_41 (by decide) ?_
          obtain ⟨rfl, rfl⟩ := pj2 (Option.some.inj eh6)
          exact tw_iret C hK rfl rfl dX9_parting_45
      · have hf3 := ite_f hc3 hf2
        refine tw_bipush (v := (-2)) C dX9_parting_18 (by decide) ?_
        obtain ⟨rfl, rfl⟩ := pj2 (Option.some.inj hf3)
        exact tw_iret C hK rfl rfl dX9_parting_20

set_option maxRecDepth 20000 in
def fX9_fewest (σ : St) (a1 : Int32) (a2 : Int32) : Option (Int32 × St) :=
  if (fX9_isCode a1) = true then
    if (fX9_in a2 (0 : Int32) (1 : Int32)) = true then
      obi (fX9_mix σ a1 a1 (0 : Int32)) (fun σ1 =>
      obi (lpF (fun (q5 : Int32 × St) => match q5 with
      | (x1, σ3) =>
      if (63 : Int32) ≤ x1 then
        some (.inr σ3)
      else
        grd (inb x1 63) (bnd (su σ3 (40, 0) (tn x1) (99 : Int32)) (fun σ4 =>
        bnd (x1 + 1) (fun x2 =>
        some (.inl (x2, σ4)))))) ((0 : Int32), σ1)) (fun σ2 =>
      bnd (fX9_begins σ2) (fun σ5 =>
      grd (inb (fX9_ballNumber σ5) 63) (bnd (su σ5 (40, 0) (tn (fX9_ballNumber σ5)) (0 : Int32)) (fun σ6 =>
      bj (lpF (fun (q15 : Int32 × St) => match q15 with
      | (x4, σ8) =>
      if (20 : Int32) ≤ x4 then
        some (.inr (.inl ((-1 : Int32), σ8)))
      else
        bj (lpF (fun (q20 : Int32 × St) => match q20 with
        | (x5, σ10) =>
        if (63 : Int32) ≤ x5 then
          some (.inr (.inr σ10))
        else
          bj (lpF (fun (q24 : Int32 × St) => match q24 with
          | (x6, σ12) =>
          if (40 : Int32) ≤ x6 then
            some (.inr (.inr σ12))
          else
            grd (inb x5 63) (
            if (σ12 (40, 0) (tn x5)) = x4 then
              bnd (fX9_lays σ12 x5) (fun σ13 =>
              obi (fX9_goesOn σ13 x6 (-1 : Int32)) (fun (x7, σ14) =>
              bnd (if a2 = 0 then
                σ14 (9, 0) 13
              else
                σ14 (9, 0) 14) (fun x8 =>
              if x8 ≤ 0 then
                bnd (fX9_ballNumber σ14) (fun x9 =>
                grd (inb x9 63) (
                obi (if (σ14 (40, 0) (tn x9)) = (99 : Int32) then
                  some (x4 + (1 : Int32))
                else
                  grd (inb x9 63) (
                  some (σ14 (40, 0) (tn x9)))) (fun x10 =>
                grd (inb x9 63) (bnd (su σ14 (40, 0) (tn x9) x10) (fun σ15 =>
                bnd (x6 + 1) (fun x11 =>
                some (.inl (x11, σ15))))))))
              else
                some (.inr (.inl (.inr (.inl (.inr (.inr (x4, σ14))))))))))
            else
              some (.inr (.inr σ12)))) ((0 : Int32), σ10)) (fun σ11 =>
          bnd (x5 + 1) (fun x12 =>
          some (.inl (x12, σ11))))) ((0 : Int32), σ8)) (fun σ9 =>
        bnd (x4 + 1) (fun x13 =>
        some (.inl (x13, σ9))))) ((0 : Int32), σ6)) (fun (x3, σ7) =>
      some (x3 + (1 : Int32), σ7)))))))
    else
      some ((-2 : Int32), σ)
  else
    some ((-2 : Int32), σ)
set_option maxRecDepth 20000 in
set_option maxHeartbeats 4000000 in
theorem kX9_fewest (G : Gx) (d : Nat) (hdp : 8 ≤ d) (σ : St) (a1 : Int32) (a2 : Int32)  {v0 : Int32} {σ' : St} (h : fX9_fewest σ a1 a2 = some (v0, σ')) : MS G d yX9_fewest cX9_fewest 8 (some .int) [.ref (G.2.1 (9, 0)), .int a1, .int a2] σ (some (.int v0)) σ' := by
  refine MS_of (by decide) (Nat.le_of_ble_eq_true rfl) rfl (fun K hG hnL C hR hK => ?_) (by omega)
  subst hG
  show TW K 0 [(0, rv K (9, 0)), (1, .int a1), (2, .int a2)] [] σ
  unfold fX9_fewest at h
  refine tw_iload_n (i := 1) (z := 1) C dX9_fewest_0 rfl rfl ?_
  refine tw_callS (As := [.int a1]) (rest := []) C hR (kX9_isCode K.1 _ (by omega) σ a1  rfl) mi_X9_isCode st_X9_isCode ml_RX9_110 rfl rfl (Nat.le_of_ble_eq_true rfl) dX9_fewest_1 ?_
  show TW K 4 [(0, rv K (9, 0)), (1, .int a1), (2, .int a2)] [.int (b2i (fX9_isCode a1))] σ
  refine tw_if_eq (tgt := 16) C dX9_fewest_4 (by decide) (fun hc1 => ?_) (fun hc1 => ?_)
  · have ht1 := ite_f (b2i_z hc1) h
    refine tw_bipush (v := (-2)) C dX9_fewest_16 (by decide) ?_
    obtain ⟨rfl, rfl⟩ := pj2 (Option.some.inj ht1)
    exact tw_iret C hK rfl rfl dX9_fewest_18
  · have hf1 := ite_t (b2i_nz hc1) h
    refine tw_iload_n (i := 2) (z := 2) C dX9_fewest_7 rfl rfl ?_
    refine tw_iconst (v := 0) C dX9_fewest_8 (by decide) ?_
    refine tw_iconst (v := 1) C dX9_fewest_9 (by decide) ?_
    refine tw_callS (As := [.int a2, .int (0 : Int32), .int (1 : Int32)]) (rest := []) C hR (kX9_in K.1 _ (by omega) σ a2 (0 : Int32) (1 : Int32)  rfl) mi_X9_in st_X9_in ml_RX9_106 rfl rfl (Nat.le_of_ble_eq_true rfl) dX9_fewest_10 ?_
    show TW K 13 [(0, rv K (9, 0)), (1, .int a1), (2, .int a2)] [.int (b2i (fX9_in a2 (0 : Int32) (1 : Int32)))] σ
    refine tw_if_ne (tgt := 19) C dX9_fewest_13 (by decide) (fun hc2 => ?_) (fun hc2 => ?_)
    · have ht2 := ite_t (b2i_nz hc2) hf1
      refine tw_aload_n (i := 0) (z := 0) (r := (9, 0)) C dX9_fewest_19 rfl rfl ?_
      refine tw_iload_n (i := 1) (z := 1) C dX9_fewest_20 rfl rfl ?_
      refine tw_iload_n (i := 1) (z := 1) C dX9_fewest_21 rfl rfl ?_
      refine tw_iconst (v := 0) C dX9_fewest_22 (by decide) ?_
      obtain ⟨σ1, hv3, eh3⟩ := obi_some ht2
      refine tw_callV (As := [.int a1, .int a1, .int (0 : Int32)]) (rest := []) (r := (9, 0)) C hR (kX9_mix K.1 _ (by omega) _ a1 a1 (0 : Int32)  hv3) mi_X9_mix is_X9_mix se_X9_mix ml_RX9_233 (wcells_mem (f := 9) (j := 0) (by decide) (by decide)) rfl rfl rfl rfl (Nat.le_of_ble_eq_true rfl) dX9_fewest_23 ?_
      show TW K 26 [(0, rv K (9, 0)), (1, .int a1), (2, .int a2)] [] σ1
      refine tw_iconst (v := 0) C dX9_fewest_26 (by decide) ?_
      refine tw_istore_n (lv' := [(0, rv K (9, 0)), (1, .int a1), (2, .int a2), (3, .int (0 : Int32))]) C [1, 2, 3, 0] dX9_fewest_27 rfl (by rw [hnL]; decide) rfl ?_
      obtain ⟨σ2, hx4, hq4⟩ := obi_some eh3
      have hJ4 : TW K 48 [(0, rv K (9, 0)), (2, .int a2)] [] σ2 := by
        refine tw_aload_n (i := 0) (z := 0) (r := (9, 0)) C dX9_fewest_48 rfl rfl ?_
        obtain ⟨σ5, hv11, eh11⟩ := bnd_ex hq4
        refine tw_callV (As := []) (rest := []) (r := (9, 0)) C hR (kX9_begins K.1 _ (by omega) _   hv11) mi_X9_begins is_X9_begins se_X9_begins ml_RX9_205 (wcells_mem (f := 9) (j := 0) (by decide) (by decide)) rfl rfl rfl rfl (Nat.le_of_ble_eq_true rfl) dX9_fewest_49 ?_
        show TW K 52 [(0, rv K (9, 0)), (2, .int a2)] [] σ5
        refine tw_aload_n (i := 0) (z := 0) (r := (9, 0)) C dX9_fewest_52 rfl rfl ?_
        refine tw_getR (g := 40) (z := 0) (j' := 0) C fl_RX9_44 rfl (wcells_mem (f := 9) (j := 0) (by decide) (by decide)) rfl rfl dX9_fewest_53 ?_
        refine tw_aload_n (i := 0) (z := 0) (r := (9, 0)) C dX9_fewest_56 rfl rfl ?_
        refine tw_callV (As := []) (rest := [rv K (40, 0)]) (r := (9, 0)) C hR (kX9_ballNumber K.1 _ (by omega) σ5   rfl) mi_X9_ballNumber is_X9_ballNumber se_X9_ballNumber ml_RX9_259 (wcells_mem (f := 9) (j := 0) (by decide) (by decide)) rfl rfl rfl rfl (Nat.le_of_ble_eq_true rfl) dX9_fewest_57 ?_
        show TW K 60 [(0, rv K (9, 0)), (2, .int a2)] [.int (fX9_ballNumber σ5), rv K (40, 0)] σ5
        refine tw_iconst (v := 0) C dX9_fewest_60 (by decide) ?_
        obtain ⟨hb12, eh12⟩ := grd_some eh11
        obtain ⟨σ6, es13, eg13⟩ := bnd_ex eh12
        refine tw_iast (r := (40, 0)) C (wa_of rfl (by decide) (by decide)) hb12 dX9_fewest_61 ?_
        rw [es13]
        refine tw_iconst (v := 0) C dX9_fewest_62 (by decide) ?_
        refine tw_istore_n (lv' := [(0, rv K (9, 0)), (2, .int a2), (3, .int (0 : Int32))]) C [1, 2, 0] dX9_fewest_63 rfl (by rw [hnL]; decide) rfl ?_
        obtain ⟨y14, hx14, hy14⟩ := bj_some eg13
        have hJ14 : ∀ (x3 : Int32) (σ7 : St), y14 = .inr (x3, σ7) → TW K 134 [(3, .int x3)] [] σ7 := by
          intro x3 σ7 ey14
          have hq14 := bj_r ey14 hy14
          refine tw_iload_n (i := 3) (z := 0) C dX9_fewest_134 rfl rfl ?_
          refine tw_iconst (v := 1) C dX9_fewest_135 (by decide) ?_
          refine tw_iadd C dX9_fewest_136 ?_
          obtain ⟨rfl, rfl⟩ := pj2 (Option.some.inj hq14)
          exact tw_iret C hK rfl rfl dX9_fewest_137
        refine lpF_ct (G := fun (q : Int32 × St) => match q with | (x4, σ8) => TW K 64 [(0, rv K (9, 0)), (2, .int a2), (3, .int x4)] [] σ8) ?_ hx14
        rintro ⟨x4, σ8⟩ w15 hx15 hk15
        show TW K 64 [(0, rv K (9, 0)), (2, .int a2), (3, .int x4)] [] σ8
        refine tw_iload_n (i := 3) (z := 2) C dX9_fewest_64 rfl rfl ?_
        refine tw_bipush (v := 20) C dX9_fewest_65 (by decide) ?_
        refine tw_ic_ge (tgt := 194) C dX9_fewest_67 (by decide) (fun hc16 => ?_) (fun hc16 => ?_)
        · have ht16 := ite_t hc16 hx15
          refine tw_iconst (v := (-1)) C dX9_fewest_194 (by decide) ?_
          have e17 := lp_x ht16 hk15
          have e18 := bj_l e17 hy14
          obtain ⟨rfl, rfl⟩ := pj2 (Option.some.inj e18)
          exact tw_iret C hK rfl rfl dX9_fewest_195
        · have hf16 := ite_f hc16 hx15
          refine tw_iconst (v := 0) C dX9_fewest_70 (by decide) ?_
          refine tw_istore (lv' := [(0, rv K (9, 0)), (2, .int a2), (3, .int x4), (4, .int (0 : Int32))]) C [1, 2, 3, 0] dX9_fewest_71 (by rw [hnL]; decide) rfl ?_
          obtain ⟨y19, hx19, hy19⟩ := bj_some hf16
          have hJ19 : ∀ (σ9 : St), y19 = .inr σ9 → TW K 188 [(0, rv K (9, 0)), (2, .int a2), (3, .int x4)] [] σ9 := by
            intro σ9 ey19
            have hq19 := bj_r ey19 hy19
            obtain ⟨x13, ex49, eh49⟩ := bnd_ex hq19
            refine tw_iinc (z := 2) (v := x13) (lv' := [(0, rv K (9, 0)), (2, .int a2), (3, .int x13)]) C [1, 2, 0] dX9_fewest_188 rfl ex49 (by rw [hnL]; decide) rfl ?_
            refine tw_goto (tgt := 64) C dX9_fewest_191 (by decide) ?_
            have hz := lp_c eh49 hk15
            exact hz
          refine lpF_ct (G := fun (q : Int32 × St) => match q with | (x5, σ10) => TW K 73 [(0, rv K (9, 0)), (2, .int a2), (3, .int x4), (4, .int x5)] [] σ10) ?_ hx19
          rintro ⟨x5, σ10⟩ w20 hx20 hk20
          show TW K 73 [(0, rv K (9, 0)), (2, .int a2), (3, .int x4), (4, .int x5)] [] σ10
          refine tw_iload (i := 4) (z := 3) C dX9_fewest_73 rfl ?_
          refine tw_bipush (v := 63) C dX9_fewest_75 (by decide) ?_
          refine tw_ic_ge (tgt := 188) C dX9_fewest_77 (by decide) (fun hc21 => ?_) (fun hc21 => ?_)
          · have ht21 := ite_t hc21 hx20
            refine tw_sub [0, 1, 2] rfl ?_
            have e22 := lp_x ht21 hk20
            exact hJ19 _ (Option.some.inj e22).symm
          · have hf21 := ite_f hc21 hx20
            refine tw_iconst (v := 0) C dX9_fewest_80 (by decide) ?_
            refine tw_istore (lv' := [(0, rv K (9, 0)), (2, .int a2), (3, .int x4), (4, .int x5), (5, .int (0 : Int32))]) C [1, 2, 3, 4, 0] dX9_fewest_81 (by rw [hnL]; decide) rfl ?_
            obtain ⟨y23, hx23, hy23⟩ := bj_some hf21
            have hJ23 : ∀ (σ11 : St), y23 = .inr σ11 → TW K 182 [(0, rv K (9, 0)), (2, .int a2), (3, .int x4), (4, .int x5)] [] σ11 := by
              intro σ11 ey23
              have hq23 := bj_r ey23 hy23
              obtain ⟨x12, ex48, eh48⟩ := bnd_ex hq23
              refine tw_iinc (z := 3) (v := x12) (lv' := [(0, rv K (9, 0)), (2, .int a2), (3, .int x4), (4, .int x12)]) C [1, 2, 3, 0] dX9_fewest_182 rfl ex48 (by rw [hnL]; decide) rfl ?_
              refine tw_goto (tgt := 73) C dX9_fewest_185 (by decide) ?_
              have hz := lp_c eh48 hk20
              exact hz
            refine lpF_ct (G := fun (q : Int32 × St) => match q with | (x6, σ12) => TW K 83 [(0, rv K (9, 0)), (2, .int a2), (3, .int x4), (4, .int x5), (5, .int x6)] [] σ12) ?_ hx23
            rintro ⟨x6, σ12⟩ w24 hx24 hk24
            show TW K 83 [(0, rv K (9, 0)), (2, .int a2), (3, .int x4), (4, .int x5), (5, .int x6)] [] σ12
            refine tw_iload (i := 5) (z := 4) C dX9_fewest_83 rfl ?_
            refine tw_bipush (v := 40) C dX9_fewest_85 (by decide) ?_
            refine tw_ic_ge (tgt := 182) C dX9_fewest_87 (by decide) (fun hc25 => ?_) (fun hc25 => ?_)
            · have ht25 := ite_t hc25 hx24
              refine tw_sub [0, 1, 2, 3] rfl ?_
              have e26 := lp_x ht25 hk24
              exact hJ23 _ (Option.some.inj e26).symm
            · have hf25 := ite_f hc25 hx24
              refine tw_aload_n (i := 0) (z := 0) (r := (9, 0)) C dX9_fewest_90 rfl rfl ?_
              refine tw_getR (g := 40) (z := 0) (j' := 0) C fl_RX9_44 rfl (wcells_mem (f := 9) (j := 0) (by decide) (by decide)) rfl rfl dX9_fewest_91 ?_
              refine tw_iload (i := 4) (z := 3) C dX9_fewest_94 rfl ?_
              obtain ⟨hb27, eh27⟩ := grd_some hf25
              refine tw_iald (r := (40, 0)) C (ia_of rfl (by decide)) hb27 dX9_fewest_96 ?_
              refine tw_iload_n (i := 3) (z := 2) C dX9_fewest_97 rfl rfl ?_
              refine tw_ic_ne (tgt := 182) C dX9_fewest_98 (by decide) (fun hc28 => ?_) (fun hc28 => ?_)
              · have ht28 := ite_f hc28 eh27
                refine tw_sub [0, 1, 2, 3] rfl ?_
                have e29 := lp_x ht28 hk24
                exact hJ23 _ (Option.some.inj e29).symm
              · have hf28 := ite_t hc28 eh27
                refine tw_aload_n (i := 0) (z := 0) (r := (9, 0)) C dX9_fewest_101 rfl rfl ?_
                refine tw_iload (i := 4) (z := 3) C dX9_fewest_102 rfl ?_
                obtain ⟨σ13, hv30, eh30⟩ := bnd_ex hf28
                refine tw_callV (As := [.int x5]) (rest := []) (r := (9, 0)) C hR (kX9_lays K.1 _ (by omega) _ x5  hv30) mi_X9_lays is_X9_lays se_X9_lays ml_RX9_255 (wcells_mem (f := 9) (j := 0) (by decide) (by decide)) rfl rfl rfl rfl (Nat.le_of_ble_eq_true rfl) dX9_fewest_104 ?_
                show TW K 107 [(0, rv K (9, 0)), (2, .int a2), (3, .int x4), (4, .int x5), (5, .int x6)] [] σ13
                refine tw_aload_n (i := 0) (z := 0) (r := (9, 0)) C dX9_fewest_107 rfl rfl ?_
                refine tw_iload (i := 5) (z := 4) C dX9_fewest_108 rfl ?_
                refine tw_iconst (v := (-1)) C dX9_fewest_110 (by decide) ?_
                obtain ⟨⟨x7, σ14⟩, hv31, eh31⟩ := obi_some eh30
                refine tw_callV (As := [.int x6, .int (-1 : Int32)]) (rest := []) (r := (9, 0)) C hR (kX9_goesOn K.1 _ (by omega) _ x6 (-1 : Int32)  hv31) mi_X9_goesOn is_X9_goesOn se_X9_goesOn ml_RX9_220 (wcells_mem (f := 9) (j := 0) (by decide) (by decide)) rfl rfl rfl rfl (Nat.le_of_ble_eq_true rfl) dX9_fewest_111 ?_
                show TW K 114 [(0, rv K (9, 0)), (2, .int a2), (3, .int x4), (4, .int x5), (5, .int x6)] [.int x7] σ14
                refine tw_istore (lv' := [(0, rv K (9, 0)), (2, .int a2), (3, .int x4), (4, .int x5), (5, .int x6), (6, .int x7)]) C [1, 2, 3, 4, 5, 0] dX9_fewest_114 (by rw [hnL]; decide) rfl ?_
                refine tw_iload_n (i := 2) (z := 1) C dX9_fewest_116 rfl rfl ?_
                obtain ⟨x8, hx32, hq32⟩ := bnd_ex eh31
                have hJ32 : TW K 131 [(0, rv K (9, 0)), (2, .int a2), (3, .int x4), (4, .int x5), (5, .int x6)] [.int x8] σ14 := by
                  refine tw_if_le (tgt := 138) C dX9_fewest_131 (by decide) (fun hc34 => ?_) (fun hc34 => ?_)
                  · have ht34 := ite_t hc34 hq32
                    refine tw_aload_n (i := 0) (z := 0) (r := (9, 0)) C dX9_fewest_138 rfl rfl ?_
                    refine tw_callV (As := []) (rest := []) (r := (9, 0)) C hR (kX9_ballNumber K.1 _ (by omega) σ14   rfl) mi_X9_ballNumber is_X9_ballNumber se_X9_ballNumber ml_RX9_259 (wcells_mem (f := 9) (j := 0) (by decide) (by decide)) rfl rfl rfl rfl (Nat.le_of_ble_eq_true rfl) dX9_fewest_139 ?_
                    show TW K 142 [(0, rv K (9, 0)), (2, .int a2), (3, .int x4), (4, .int x5), (5, .int x6)] [.int (fX9_ballNumber σ14)] σ14
                    obtain ⟨x9, ex35, eh35⟩ := bnd_ex ht34
                    refine tw_topi ex35.symm ?_
                    refine tw_istore (lv' := [(0, rv K (9, 0)), (2, .int a2), (3, .int x4), (4, .int x5), (5, .int x6), (7, .int x9)]) C [1, 2, 3, 4, 5, 0] dX9_fewest_142 (by rw [hnL]; decide) rfl ?_
                    refine tw_aload_n (i := 0) (z := 0) (r := (9, 0)) C dX9_fewest_144 rfl rfl ?_
                    refine tw_getR (g := 40) (z := 0) (j' := 0) C fl_RX9_44 rfl (wcells_mem (f := 9) (j := 0) (by decide) (by decide)) rfl rfl dX9_fewest_145 ?_
                    refine tw_iload (i := 7) (z := 5) C dX9_fewest_148 rfl ?_
                    refine tw_aload_n (i := 0) (z := 0) (r := (9, 0)) C dX9_fewest_150 rfl rfl ?_
                    refine tw_getR (g := 40) (z := 0) (j' := 0) C fl_RX9_44 rfl (wcells_mem (f := 9) (j := 0) (by decide) (by decide)) rfl rfl dX9_fewest_151 ?_
                    refine tw_iload (i := 7) (z := 5) C dX9_fewest_154 rfl ?_
                    obtain ⟨hb36, eh36⟩ := grd_some eh35
                    refine tw_iald (r := (40, 0)) C (ia_of rfl (by decide)) hb36 dX9_fewest_156 ?_
                    refine tw_bipush (v := 99) C dX9_fewest_157 (by decide) ?_
                    obtain ⟨x10, hx37, hq37⟩ := obi_some eh36
                    have hJ37 : TW K 175 [(0, rv K (9, 0)), (2, .int a2), (3, .int x4), (4, .int x5), (5, .int x6)] [.int x10, .int x9, rv K (40, 0)] σ14 := by
                      obtain ⟨hb40, eh40⟩ := grd_some hq37
                      obtain ⟨σ15, es41, eg41⟩ := bnd_ex eh40
                      refine tw_iast (r := (40, 0)) C (wa_of rfl (by decide) (by decide)) hb40 dX9_fewest_175 ?_
                      rw [es41]
                      obtain ⟨x11, ex42, eh42⟩ := bnd_ex eg41
                      refine tw_iinc (z := 4) (v := x11) (lv' := [(0, rv K (9, 0)), (2, .int a2), (3, .int x4), (4, .int x5), (5, .int x11)]) C [1, 2, 3, 4, 0] dX9_fewest_176 rfl ex42 (by rw [hnL]; decide) rfl ?_
                      refine tw_goto (tgt := 83) C dX9_fewest_179 (by decide) ?_
                      have hz := lp_c eh42 hk24
                      exact hz
                    refine tw_ic_ne (tgt := 168) C dX9_fewest_159 (by decide) (fun hc38 => ?_) (fun hc38 => ?_)
                    · have ht38 := ite_f hc38 hx37
                      refine tw_aload_n (i := 0) (z := 0) (r := (9, 0)) C dX9_fewest_168 rfl rfl ?_
                      refine tw_getR (g := 40) (z := 0) (j' := 0) C fl_RX9_44 rfl (wcells_mem (f := 9) (j := 0) (by decide) (by decide)) rfl rfl dX9_fewest_169 ?_
                      refine tw_iload (i := 7) (z := 5) C dX9_fewest_172 rfl ?_
                      obtain ⟨hb39, eh39⟩ := grd_some ht38
                      refine tw_iald (r := (40, 0)) C (ia_of rfl (by decide)) hb39 dX9_fewest_174 ?_
                      refine tw_sub [0, 1, 2, 3, 4] rfl ?_
                      obtain rfl := (Option.some.inj eh39)
                      exact hJ37
                    · have hf38 := ite_t hc38 hx37
                      refine tw_iload_n (i := 3) (z := 2) C dX9_fewest_162 rfl rfl ?_
                      refine tw_iconst (v := 1) C dX9_fewest_163 (by decide) ?_
                      refine tw_iadd C dX9_fewest_164 ?_
                      refine tw_goto (tgt := 175) C dX9_fewest_165 (by decide) ?_
                      refine tw_sub [0, 1, 2, 3, 4] rfl ?_
                      obtain rfl := (Option.some.inj hf38)
                      exact hJ37
                  · have hf34 := ite_f hc34 hq32
                    refine tw_sub [2] rfl ?_
                    have e43 := lp_x hf34 hk24
                    have e44 := bj_l e43 hy23
                    have e45 := lp_x e44 hk20
                    have e46 := bj_l e45 hy19
                    have e47 := lp_x e46 hk15
                    exact hJ14 _ _ (Option.some.inj e47).symm
                refine tw_if_ne (tgt := 127) C dX9_fewest_117 (by decide) (fun hc33 => ?_) (fun hc33 => ?_)
                · have ht33 := ite_f hc33 hx32
                  refine tw_aload_n (i := 0) (z := 0) (r := (9, 0)) C dX9_fewest_127 rfl rfl ?_
                  refine tw_getI C fl_RX9_166 rfl (wcells_mem (f := 9) (j := 0) (by decide) (by decide)) rfl dX9_fewest_128 ?_
                  refine tw_sub [0, 1, 2, 3, 4] rfl ?_
                  obtain rfl := ht33
                  exact hJ32
                · have hf33 := ite_t hc33 hx32
                  refine tw_aload_n (i := 0) (z := 0) (r := (9, 0)) C dX9_fewest_120 rfl rfl ?_
                  refine tw_getI C fl_RX9_163 rfl (wcells_mem (f := 9) (j := 0) (by decide) (by decide)) rfl dX9_fewest_121 ?_
                  refine tw_goto (tgt := 131) C dX9_fewest_124 (by decide) ?_
                  refine tw_sub [0, 1, 2, 3, 4] rfl ?_
                  obtain rfl := hf33
                  exact hJ32
      refine tw_sub [0, 2, 3] rfl ?_
      refine lpF_ct (G := fun (q : Int32 × St) => match q with | (x1, σ3) => TW K 28 [(0, rv K (9, 0)), (2, .int a2), (3, .int x1)] [] σ3) ?_ hx4
      rintro ⟨x1, σ3⟩ w5 hx5 hk5
      show TW K 28 [(0, rv K (9, 0)), (2, .int a2), (3, .int x1)] [] σ3
      refine tw_iload_n (i := 3) (z := 2) C dX9_fewest_28 rfl rfl ?_
      refine tw_bipush (v := 63) C dX9_fewest_29 (by decide) ?_
      refine tw_ic_ge (tgt := 48) C dX9_fewest_31 (by decide) (fun hc6 => ?_) (fun hc6 => ?_)
      · have ht6 := ite_t hc6 hx5
        refine tw_sub [0, 1] rfl ?_
        have e7 := lp_x ht6 hk5
        obtain rfl := (Option.some.inj e7)
        exact hJ4
      · have hf6 := ite_f hc6 hx5
        refine tw_aload_n (i := 0) (z := 0) (r := (9, 0)) C dX9_fewest_34 rfl rfl ?_
        refine tw_getR (g := 40) (z := 0) (j' := 0) C fl_RX9_44 rfl (wcells_mem (f := 9) (j := 0) (by decide) (by decide)) rfl rfl dX9_fewest_35 ?_
        refine tw_iload_n (i := 3) (z := 2) C dX9_fewest_38 rfl rfl ?_
        refine tw_bipush (v := 99) C dX9_fewest_39 (by decide) ?_
        obtain ⟨hb8, eh8⟩ := grd_some hf6
        obtain ⟨σ4, es9, eg9⟩ := bnd_ex eh8
        refine tw_iast (r := (40, 0)) C (wa_of rfl (by decide) (by decide)) hb8 dX9_fewest_41 ?_
        rw [es9]
        obtain ⟨x2, ex10, eh10⟩ := bnd_ex eg9
        refine tw_iinc (z := 2) (v := x2) (lv' := [(0, rv K (9, 0)), (2, .int a2), (3, .int x2)]) C [1, 2, 0] dX9_fewest_42 rfl ex10 (by rw [hnL]; decide) rfl ?_
        refine tw_goto (tgt := 28) C dX9_fewest_45 (by decide) ?_
        have hz := lp_c eh10 hk5
        exact hz
    · have hf2 := ite_f (b2i_z hc2) hf1
      refine tw_bipush (v := (-2)) C dX9_fewest_16 (by decide) ?_
      obtain ⟨rfl, rfl⟩ := pj2 (Option.some.inj hf2)
      exact tw_iret C hK rfl rfl dX9_fewest_18

set_option maxRecDepth 20000 in
def fX9_isClub (σ : St) (a1 : Int32) : Bool :=
  fX9_in a1 (0 : Int32) ((σ (9, 0) 28) - (1 : Int32))
set_option maxRecDepth 20000 in
set_option maxHeartbeats 4000000 in
theorem kX9_isClub (G : Gx) (d : Nat) (hdp : 2 ≤ d) (σ : St) (a1 : Int32)  {v0 : Bool} (h : fX9_isClub σ a1 = v0) : MS G d yX9_isClub cX9_isClub 2 (some .boolean) [.ref (G.2.1 (9, 0)), .int a1] σ (some (.int (b2i v0))) σ := by
  refine MS_of (by decide) (Nat.le_of_ble_eq_true rfl) rfl (fun K hG hnL C hR hK => ?_) (by omega)
  subst hG
  show TW K 0 [(0, rv K (9, 0)), (1, .int a1)] [] σ
  unfold fX9_isClub at h
  refine tw_iload_n (i := 1) (z := 1) C dX9_isClub_0 rfl rfl ?_
  refine tw_iconst (v := 0) C dX9_isClub_1 (by decide) ?_
  refine tw_aload_n (i := 0) (z := 0) (r := (9, 0)) C dX9_isClub_2 rfl rfl ?_
  refine tw_getI C fl_RX9_278 rfl (wcells_mem (f := 9) (j := 0) (by decide) (by decide)) rfl dX9_isClub_3 ?_
  refine tw_iconst (v := 1) C dX9_isClub_6 (by decide) ?_
  refine tw_isub C dX9_isClub_7 ?_
  refine tw_callS (As := [.int a1, .int (0 : Int32), .int ((σ (9, 0) 28) - (1 : Int32))]) (rest := []) C hR (kX9_in K.1 _ (by omega) σ a1 (0 : Int32) ((σ (9, 0) 28) - (1 : Int32))  rfl) mi_X9_in st_X9_in ml_RX9_106 rfl rfl (Nat.le_of_ble_eq_true rfl) dX9_isClub_8 ?_
  show TW K 11 [(0, rv K (9, 0)), (1, .int a1)] [.int (b2i (fX9_in a1 (0 : Int32) ((σ (9, 0) 28) - (1 : Int32))))] σ
  obtain rfl := h
  exact tw_zret C hK (nar_b2i _) rfl rfl dX9_isClub_11

set_option maxRecDepth 20000 in
def fX9_club (σ : St) (a1 : Int32) (a2 : Int32) : Option (Int32 × St) :=
  if (fX9_isCode a1) = true then
    if (fX9_in a2 (0 : Int32) (131071 : Int32)) = true then
      if (σ (9, 0) 28) = (12 : Int32) then
        some ((-4 : Int32), σ)
      else
        grd (inb (σ (9, 0) 28) 12) (bnd (su σ (44, 0) (tn (σ (9, 0) 28)) a1) (fun σ1 =>
        grd (inb (σ1 (9, 0) 28) 12) (bnd (su σ1 (45, 0) (tn (σ1 (9, 0) 28)) a2) (fun σ2 =>
        bnd (su σ2 (9, 0) 28 ((σ2 (9, 0) 28) + (1 : Int32))) (fun σ3 =>
        some ((σ3 (9, 0) 28) - (1 : Int32), σ3))))))
    else
      some ((-2 : Int32), σ)
  else
    some ((-2 : Int32), σ)
set_option maxRecDepth 20000 in
set_option maxHeartbeats 4000000 in
theorem kX9_club (G : Gx) (d : Nat) (hdp : 3 ≤ d) (σ : St) (a1 : Int32) (a2 : Int32)  {v0 : Int32} {σ' : St} (h : fX9_club σ a1 a2 = some (v0, σ')) : MS G d yX9_club cX9_club 3 (some .int) [.ref (G.2.1 (9, 0)), .int a1, .int a2] σ (some (.int v0)) σ' := by
  refine MS_of (by decide) (Nat.le_of_ble_eq_true rfl) rfl (fun K hG hnL C hR hK => ?_) (by omega)
  subst hG
  show TW K 0 [(0, rv K (9, 0)), (1, .int a1), (2, .int a2)] [] σ
  unfold fX9_club at h
  refine tw_iload_n (i := 1) (z := 1) C dX9_club_0 rfl rfl ?_
  refine tw_callS (As := [.int a1]) (rest := []) C hR (kX9_isCode K.1 _ (by omega) σ a1  rfl) mi_X9_isCode st_X9_isCode ml_RX9_110 rfl rfl (Nat.le_of_ble_eq_true rfl) dX9_club_1 ?_
  show TW K 4 [(0, rv K (9, 0)), (1, .int a1), (2, .int a2)] [.int (b2i (fX9_isCode a1))] σ
  refine tw_if_eq (tgt := 17) C dX9_club_4 (by decide) (fun hc1 => ?_) (fun hc1 => ?_)
  · have ht1 := ite_f (b2i_z hc1) h
    refine tw_bipush (v := (-2)) C dX9_club_17 (by decide) ?_
    obtain ⟨rfl, rfl⟩ := pj2 (Option.some.inj ht1)
    exact tw_iret C hK rfl rfl dX9_club_19
  · have hf1 := ite_t (b2i_nz hc1) h
    refine tw_iload_n (i := 2) (z := 2) C dX9_club_7 rfl rfl ?_
    refine tw_iconst (v := 0) C dX9_club_8 (by decide) ?_
    refine tw_ldc C cn_RX9_232 dX9_club_9 ?_
    refine tw_callS (As := [.int a2, .int (0 : Int32), .int (131071 : Int32)]) (rest := []) C hR (kX9_in K.1 _ (by omega) σ a2 (0 : Int32) (131071 : Int32)  rfl) mi_X9_in st_X9_in ml_RX9_106 rfl rfl (Nat.le_of_ble_eq_true rfl) dX9_club_11 ?_
    show TW K 14 [(0, rv K (9, 0)), (1, .int a1), (2, .int a2)] [.int (b2i (fX9_in a2 (0 : Int32) (131071 : Int32)))] σ
    refine tw_if_ne (tgt := 20) C dX9_club_14 (by decide) (fun hc2 => ?_) (fun hc2 => ?_)
    · have ht2 := ite_t (b2i_nz hc2) hf1
      refine tw_aload_n (i := 0) (z := 0) (r := (9, 0)) C dX9_club_20 rfl rfl ?_
      refine tw_getI C fl_RX9_278 rfl (wcells_mem (f := 9) (j := 0) (by decide) (by decide)) rfl dX9_club_21 ?_
      refine tw_bipush (v := 12) C dX9_club_24 (by decide) ?_
      refine tw_ic_ne (tgt := 32) C dX9_club_26 (by decide) (fun hc3 => ?_) (fun hc3 => ?_)
      · have ht3 := ite_f hc3 ht2
        refine tw_aload_n (i := 0) (z := 0) (r := (9, 0)) C dX9_club_32 rfl rfl ?_
        refine tw_getR (g := 44) (z := 0) (j' := 0) C fl_RX9_56 rfl (wcells_mem (f := 9) (j := 0) (by decide) (by decide)) rfl rfl dX9_club_33 ?_
        refine tw_aload_n (i := 0) (z := 0) (r := (9, 0)) C dX9_club_36 rfl rfl ?_
        refine tw_getI C fl_RX9_278 rfl (wcells_mem (f := 9) (j := 0) (by decide) (by decide)) rfl dX9_club_37 ?_
        refine tw_iload_n (i := 1) (z := 1) C dX9_club_40 rfl rfl ?_
        obtain ⟨hb4, eh4⟩ := grd_some ht3
        obtain ⟨σ1, es5, eg5⟩ := bnd_ex eh4
        refine tw_iast (r := (44, 0)) C (wa_of rfl (by decide) (by decide)) hb4 dX9_club_41 ?_
        rw [es5]
        refine tw_aload_n (i := 0) (z := 0) (r := (9, 0)) C dX9_club_42 rfl rfl ?_
        refine tw_getR (g := 45) (z := 0) (j' := 0) C fl_RX9_59 rfl (wcells_mem (f := 9) (j := 0) (by decide) (by decide)) rfl rfl dX9_club_43 ?_
        refine tw_aload_n (i := 0) (z := 0) (r := (9, 0)) C dX9_club_46 rfl rfl ?_
        refine tw_getI C fl_RX9_278 rfl (wcells_mem (f := 9) (j := 0) (by decide) (by decide)) rfl dX9_club_47 ?_
        refine tw_iload_n (i := 2) (z := 2) C dX9_club_50 rfl rfl ?_
        obtain ⟨hb6, eh6⟩ := grd_some eg5
        obtain ⟨σ2, es7, eg7⟩ := bnd_ex eh6
        refine tw_iast (r := (45, 0)) C (wa_of rfl (by decide) (by decide)) hb6 dX9_club_51 ?_
        rw [es7]
        refine tw_aload_n (i := 0) (z := 0) (r := (9, 0)) C dX9_club_52 rfl rfl ?_
        refine tw_dup C dX9_club_53 rfl ?_
        refine tw_getI C fl_RX9_278 rfl (wcells_mem (f := 9) (j := 0) (by decide) (by decide)) rfl dX9_club_54 ?_
        refine tw_iconst (v := 1) C dX9_club_57 (by decide) ?_
        refine tw_iadd C dX9_club_58 ?_
        obtain ⟨σ3, es8, eh8⟩ := bnd_ex eg7
        refine tw_put C fl_RX9_278 (fun q hq => by cases hq; rfl) rfl (wcells_mem (f := 9) (j := 0) (by decide) (by decide)) rfl rfl rfl dX9_club_59 ?_
        rw [es8]
        refine tw_aload_n (i := 0) (z := 0) (r := (9, 0)) C dX9_club_62 rfl rfl ?_
        refine tw_getI C fl_RX9_278 rfl (wcells_mem (f := 9) (j := 0) (by decide) (by decide)) rfl dX9_club_63 ?_
        refine tw_iconst (v := 1) C dX9_club_66 (by decide) ?_
        refine tw_isub C dX9_club_67 ?_
        obtain ⟨rfl, rfl⟩ := pj2 (Option.some.inj eh8)
        exact tw_iret C hK rfl rfl dX9_club_68
      · have hf3 := ite_t hc3 ht2
        refine tw_bipush (v := (-4)) C dX9_club_29 (by decide) ?_
        obtain ⟨rfl, rfl⟩ := pj2 (Option.some.inj hf3)
        exact tw_iret C hK rfl rfl dX9_club_31
    · have hf2 := ite_f (b2i_z hc2) hf1
      refine tw_bipush (v := (-2)) C dX9_club_17 (by decide) ?_
      obtain ⟨rfl, rfl⟩ := pj2 (Option.some.inj hf2)
      exact tw_iret C hK rfl rfl dX9_club_19

set_option maxRecDepth 20000 in
def fX9_change (σ : St) (a1 : Int32) (a2 : Int32) (a3 : Int32) : Option (Int32 × St) :=
  if (fX9_isClub σ a1) = true then
    if (fX9_in a2 (0 : Int32) (1 : Int32)) = true then
      bnd (if a2 = 0 then
        (10 : Int32)
      else
        (131071 : Int32)) (fun x1 =>
      if (fX9_in a3 (0 : Int32) x1) = true then
        obi (if a2 = 0 then
          grd (inb a1 12) (
          some (σ (44, 0) (tn a1)))
        else
          grd (inb a1 12) (
          some (σ (45, 0) (tn a1)))) (fun x2 =>
        obi (if a2 = 0 then
          some a3
        else
          grd (inb a1 12) (
          some (σ (44, 0) (tn a1)))) (fun x3 =>
        grd (inb a1 12) (bnd (su σ (44, 0) (tn a1) x3) (fun σ1 =>
        obi (if a2 = (1 : Int32) then
          some a3
        else
          grd (inb a1 12) (
          some (σ1 (45, 0) (tn a1)))) (fun x4 =>
        grd (inb a1 12) (bnd (su σ1 (45, 0) (tn a1) x4) (fun σ2 =>
        some (x2, σ2))))))))
      else
        some ((-2 : Int32), σ))
    else
      some ((-2 : Int32), σ)
  else
    some ((-2 : Int32), σ)
set_option maxRecDepth 20000 in
set_option maxHeartbeats 4000000 in
theorem kX9_change (G : Gx) (d : Nat) (hdp : 3 ≤ d) (σ : St) (a1 : Int32) (a2 : Int32) (a3 : Int32)  {v0 : Int32} {σ' : St} (h : fX9_change σ a1 a2 a3 = some (v0, σ')) : MS G d yX9_change cX9_change 5 (some .int) [.ref (G.2.1 (9, 0)), .int a1, .int a2, .int a3] σ (some (.int v0)) σ' := by
  refine MS_of (by decide) (Nat.le_of_ble_eq_true rfl) rfl (fun K hG hnL C hR hK => ?_) (by omega)
  subst hG
  show TW K 0 [(0, rv K (9, 0)), (1, .int a1), (2, .int a2), (3, .int a3)] [] σ
  unfold fX9_change at h
  refine tw_aload_n (i := 0) (z := 0) (r := (9, 0)) C dX9_change_0 rfl rfl ?_
  refine tw_iload_n (i := 1) (z := 1) C dX9_change_1 rfl rfl ?_
  refine tw_callV (As := [.int a1]) (rest := []) (r := (9, 0)) C hR (kX9_isClub K.1 _ (by omega) σ a1  rfl) mi_X9_isClub is_X9_isClub se_X9_isClub ml_RX9_281 (wcells_mem (f := 9) (j := 0) (by decide) (by decide)) rfl rfl rfl rfl (Nat.le_of_ble_eq_true rfl) dX9_change_2 ?_
  show TW K 5 [(0, rv K (9, 0)), (1, .int a1), (2, .int a2), (3, .int a3)] [.int (b2i (fX9_isClub σ a1))] σ
  refine tw_if_eq (tgt := 36) C dX9_change_5 (by decide) (fun hc1 => ?_) (fun hc1 => ?_)
  · have ht1 := ite_f (b2i_z hc1) h
    refine tw_bipush (v := (-2)) C dX9_change_36 (by decide) ?_
    obtain ⟨rfl, rfl⟩ := pj2 (Option.some.inj ht1)
    exact tw_iret C hK rfl rfl dX9_change_38
  · have hf1 := ite_t (b2i_nz hc1) h
    refine tw_iload_n (i := 2) (z := 2) C dX9_change_8 rfl rfl ?_
    refine tw_iconst (v := 0) C dX9_change_9 (by decide) ?_
    refine tw_iconst (v := 1) C dX9_change_10 (by decide) ?_
    refine tw_callS (As := [.int a2, .int (0 : Int32), .int (1 : Int32)]) (rest := []) C hR (kX9_in K.1 _ (by omega) σ a2 (0 : Int32) (1 : Int32)  rfl) mi_X9_in st_X9_in ml_RX9_106 rfl rfl (Nat.le_of_ble_eq_true rfl) dX9_change_11 ?_
    show TW K 14 [(0, rv K (9, 0)), (1, .int a1), (2, .int a2), (3, .int a3)] [.int (b2i (fX9_in a2 (0 : Int32) (1 : Int32)))] σ
    refine tw_if_eq (tgt := 36) C dX9_change_14 (by decide) (fun hc2 => ?_) (fun hc2 => ?_)
    · have ht2 := ite_f (b2i_z hc2) hf1
      refine tw_bipush (v := (-2)) C dX9_change_36 (by decide) ?_
      obtain ⟨rfl, rfl⟩ := pj2 (Option.some.inj ht2)
      exact tw_iret C hK rfl rfl dX9_change_38
    · have hf2 := ite_t (b2i_nz hc2) hf1
      refine tw_iload_n (i := 3) (z := 3) C dX9_change_17 rfl rfl ?_
      refine tw_iconst (v := 0) C dX9_change_18 (by decide) ?_
      refine tw_iload_n (i := 2) (z := 2) C dX9_change_19 rfl rfl ?_
      obtain ⟨x1, hx3, hq3⟩ := bnd_ex hf2
      have hJ3 : TW K 30 [(0, rv K (9, 0)), (1, .int a1), (2, .int a2), (3, .int a3)] [.int x1, .int (0 : Int32), .int a3] σ := by
        refine tw_callS (As := [.int a3, .int (0 : Int32), .int x1]) (rest := []) C hR (kX9_in K.1 _ (by omega) σ a3 (0 : Int32) x1  rfl) mi_X9_in st_X9_in ml_RX9_106 rfl rfl (Nat.le_of_ble_eq_true rfl) dX9_change_30 ?_
        show TW K 33 [(0, rv K (9, 0)), (1, .int a1), (2, .int a2), (3, .int a3)] [.int (b2i (fX9_in a3 (0 : Int32) x1))] σ
        refine tw_if_ne (tgt := 39) C dX9_change_33 (by decide) (fun hc5 => ?_) (fun hc5 => ?_)
        · have ht5 := ite_t (b2i_nz hc5) hq3
          refine tw_iload_n (i := 2) (z := 2) C dX9_change_39 rfl rfl ?_
          obtain ⟨x2, hx6, hq6⟩ := obi_some ht5
          have hJ6 : TW K 58 [(0, rv K (9, 0)), (1, .int a1), (2, .int a2), (3, .int a3)] [.int x2] σ := by
            refine tw_istore (lv' := [(0, rv K (9, 0)), (1, .int a1), (2, .int a2), (3, .int a3), (4, .int x2)]) C [1, 2, 3, 4, 0] dX9_change_58 (by rw [hnL]; decide) rfl ?_
            refine tw_aload_n (i := 0) (z := 0) (r := (9, 0)) C dX9_change_60 rfl rfl ?_
            refine tw_getR (g := 44) (z := 0) (j' := 0) C fl_RX9_56 rfl (wcells_mem (f := 9) (j := 0) (by decide) (by decide)) rfl rfl dX9_change_61 ?_
            refine tw_iload_n (i := 1) (z := 1) C dX9_change_64 rfl rfl ?_
            refine tw_iload_n (i := 2) (z := 2) C dX9_change_65 rfl rfl ?_
            obtain ⟨x3, hx10, hq10⟩ := obi_some hq6
            have hJ10 : TW K 79 [(0, rv K (9, 0)), (1, .int a1), (2, .int a2), (3, .int a3), (4, .int x2)] [.int x3, .int a1, rv K (44, 0)] σ := by
              obtain ⟨hb13, eh13⟩ := grd_some hq10
              obtain ⟨σ1, es14, eg14⟩ := bnd_ex eh13
              refine tw_iast (r := (44, 0)) C (wa_of rfl (by decide) (by decide)) hb13 dX9_change_79 ?_
              rw [es14]
              refine tw_aload_n (i := 0) (z := 0) (r := (9, 0)) C dX9_change_80 rfl rfl ?_
              refine tw_getR (g := 45) (z := 0) (j' := 0) C fl_RX9_59 rfl (wcells_mem (f := 9) (j := 0) (by decide) (by decide)) rfl rfl dX9_change_81 ?_
              refine tw_iload_n (i := 1) (z := 1) C dX9_change_84 rfl rfl ?_
              refine tw_iload_n (i := 2) (z := 2) C dX9_change_85 rfl rfl ?_
              refine tw_iconst (v := 1) C dX9_change_86 (by decide) ?_
              obtain ⟨x4, hx15, hq15⟩ := obi_some eg14
              have hJ15 : TW K 100 [(4, .int x2)] [.int x4, .int a1, rv K (45, 0)] σ1 := by
                obtain ⟨hb18, eh18⟩ := grd_some hq15
                obtain ⟨σ2, es19, eg19⟩ := bnd_ex eh18
                refine tw_iast (r := (45, 0)) C (wa_of rfl (by decide) (by decide)) hb18 dX9_change_100 ?_
                rw [es19]
                refine tw_iload (i := 4) (z := 0) C dX9_change_101 rfl ?_
                obtain ⟨rfl, rfl⟩ := pj2 (Option.some.inj eg19)
                exact tw_iret C hK rfl rfl dX9_change_103
              refine tw_ic_ne (tgt := 94) C dX9_change_87 (by decide) (fun hc16 => ?_) (fun hc16 => ?_)
              · have ht16 := ite_f hc16 hx15
                refine tw_aload_n (i := 0) (z := 0) (r := (9, 0)) C dX9_change_94 rfl rfl ?_
                refine tw_getR (g := 45) (z := 0) (j' := 0) C fl_RX9_59 rfl (wcells_mem (f := 9) (j := 0) (by decide) (by decide)) rfl rfl dX9_change_95 ?_
                refine tw_iload_n (i := 1) (z := 1) C dX9_change_98 rfl rfl ?_
                obtain ⟨hb17, eh17⟩ := grd_some ht16
                refine tw_iald (r := (45, 0)) C (ia_of rfl (by decide)) hb17 dX9_change_99 ?_
                refine tw_sub [4] rfl ?_
                obtain rfl := (Option.some.inj eh17)
                exact hJ15
              · have hf16 := ite_t hc16 hx15
                refine tw_iload_n (i := 3) (z := 3) C dX9_change_90 rfl rfl ?_
                refine tw_goto (tgt := 100) C dX9_change_91 (by decide) ?_
                refine tw_sub [4] rfl ?_
                obtain rfl := (Option.some.inj hf16)
                exact hJ15
            refine tw_if_ne (tgt := 73) C dX9_change_66 (by decide) (fun hc11 => ?_) (fun hc11 => ?_)
            · have ht11 := ite_f hc11 hx10
              refine tw_aload_n (i := 0) (z := 0) (r := (9, 0)) C dX9_change_73 rfl rfl ?_
              refine tw_getR (g := 44) (z := 0) (j' := 0) C fl_RX9_56 rfl (wcells_mem (f := 9) (j := 0) (by decide) (by decide)) rfl rfl dX9_change_74 ?_
              refine tw_iload_n (i := 1) (z := 1) C dX9_change_77 rfl rfl ?_
              obtain ⟨hb12, eh12⟩ := grd_some ht11
              refine tw_iald (r := (44, 0)) C (ia_of rfl (by decide)) hb12 dX9_change_78 ?_
              obtain rfl := (Option.some.inj eh12)
              exact hJ10
            · have hf11 := ite_t hc11 hx10
              refine tw_iload_n (i := 3) (z := 3) C dX9_change_69 rfl rfl ?_
              refine tw_goto (tgt := 79) C dX9_change_70 (by decide) ?_
              obtain rfl := (Option.some.inj hf11)
              exact hJ10
          refine tw_if_ne (tgt := 52) C dX9_change_40 (by decide) (fun hc7 => ?_) (fun hc7 => ?_)
          · have ht7 := ite_f hc7 hx6
            refine tw_aload_n (i := 0) (z := 0) (r := (9, 0)) C dX9_change_52 rfl rfl ?_
            refine tw_getR (g := 45) (z := 0) (j' := 0) C fl_RX9_59 rfl (wcells_mem (f := 9) (j := 0) (by decide) (by decide)) rfl rfl dX9_change_53 ?_
            refine tw_iload_n (i := 1) (z := 1) C dX9_change_56 rfl rfl ?_
            obtain ⟨hb8, eh8⟩ := grd_some ht7
            refine tw_iald (r := (45, 0)) C (ia_of rfl (by decide)) hb8 dX9_change_57 ?_
            obtain rfl := (Option.some.inj eh8)
            exact hJ6
          · have hf7 := ite_t hc7 hx6
            refine tw_aload_n (i := 0) (z := 0) (r := (9, 0)) C dX9_change_43 rfl rfl ?_
            refine tw_getR (g := 44) (z := 0) (j' := 0) C fl_RX9_56 rfl (wcells_mem (f := 9) (j := 0) (by decide) (by decide)) rfl rfl dX9_change_44 ?_
            refine tw_iload_n (i := 1) (z := 1) C dX9_change_47 rfl rfl ?_
            obtain ⟨hb9, eh9⟩ := grd_some hf7
            refine tw_iald (r := (44, 0)) C (ia_of rfl (by decide)) hb9 dX9_change_48 ?_
            refine tw_goto (tgt := 58) C dX9_change_49 (by decide) ?_
            obtain rfl := (Option.some.inj eh9)
            exact hJ6
        · have hf5 := ite_f (b2i_z hc5) hq3
          refine tw_bipush (v := (-2)) C dX9_change_36 (by decide) ?_
          obtain ⟨rfl, rfl⟩ := pj2 (Option.some.inj hf5)
          exact tw_iret C hK rfl rfl dX9_change_38
      refine tw_if_ne (tgt := 28) C dX9_change_20 (by decide) (fun hc4 => ?_) (fun hc4 => ?_)
      · have ht4 := ite_f hc4 hx3
        refine tw_ldc C cn_RX9_232 dX9_change_28 ?_
        obtain rfl := ht4
        exact hJ3
      · have hf4 := ite_t hc4 hx3
        refine tw_bipush (v := 10) C dX9_change_23 (by decide) ?_
        refine tw_goto (tgt := 30) C dX9_change_25 (by decide) ?_
        obtain rfl := hf4
        exact hJ3

set_option maxRecDepth 20000 in
def fX9_areTwo (σ : St) (a1 : Int32) (a2 : Int32) : Bool :=
  if (fX9_isClub σ a1) = true then
    if (fX9_isClub σ a2) = true then
      if a1 = a2 then
        false
      else
        true
    else
      false
  else
    false
set_option maxRecDepth 20000 in
set_option maxHeartbeats 4000000 in
theorem kX9_areTwo (G : Gx) (d : Nat) (hdp : 3 ≤ d) (σ : St) (a1 : Int32) (a2 : Int32)  {v0 : Bool} (h : fX9_areTwo σ a1 a2 = v0) : MS G d yX9_areTwo cX9_areTwo 3 (some .boolean) [.ref (G.2.1 (9, 0)), .int a1, .int a2] σ (some (.int (b2i v0))) σ := by
  refine MS_of (by decide) (Nat.le_of_ble_eq_true rfl) rfl (fun K hG hnL C hR hK => ?_) (by omega)
  subst hG
  show TW K 0 [(0, rv K (9, 0)), (1, .int a1), (2, .int a2)] [] σ
  unfold fX9_areTwo at h
  refine tw_aload_n (i := 0) (z := 0) (r := (9, 0)) C dX9_areTwo_0 rfl rfl ?_
  refine tw_iload_n (i := 1) (z := 1) C dX9_areTwo_1 rfl rfl ?_
  refine tw_callV (As := [.int a1]) (rest := []) (r := (9, 0)) C hR (kX9_isClub K.1 _ (by omega) σ a1  rfl) mi_X9_isClub is_X9_isClub se_X9_isClub ml_RX9_281 (wcells_mem (f := 9) (j := 0) (by decide) (by decide)) rfl rfl rfl rfl (Nat.le_of_ble_eq_true rfl) dX9_areTwo_2 ?_
  show TW K 5 [(0, rv K (9, 0)), (1, .int a1), (2, .int a2)] [.int (b2i (fX9_isClub σ a1))] σ
  refine tw_if_eq (tgt := 25) C dX9_areTwo_5 (by decide) (fun hc1 => ?_) (fun hc1 => ?_)
  · have ht1 := ite_f (b2i_z hc1) h
    refine tw_iconst (v := 0) C dX9_areTwo_25 (by decide) ?_
    obtain rfl := ht1
    exact tw_zret C hK rfl rfl rfl dX9_areTwo_26
  · have hf1 := ite_t (b2i_nz hc1) h
    refine tw_aload_n (i := 0) (z := 0) (r := (9, 0)) C dX9_areTwo_8 rfl rfl ?_
    refine tw_iload_n (i := 2) (z := 2) C dX9_areTwo_9 rfl rfl ?_
    refine tw_callV (As := [.int a2]) (rest := []) (r := (9, 0)) C hR (kX9_isClub K.1 _ (by omega) σ a2  rfl) mi_X9_isClub is_X9_isClub se_X9_isClub ml_RX9_281 (wcells_mem (f := 9) (j := 0) (by decide) (by decide)) rfl rfl rfl rfl (Nat.le_of_ble_eq_true rfl) dX9_areTwo_10 ?_
    show TW K 13 [(0, rv K (9, 0)), (1, .int a1), (2, .int a2)] [.int (b2i (fX9_isClub σ a2))] σ
    refine tw_if_eq (tgt := 25) C dX9_areTwo_13 (by decide) (fun hc2 => ?_) (fun hc2 => ?_)
    · have ht2 := ite_f (b2i_z hc2) hf1
      refine tw_iconst (v := 0) C dX9_areTwo_25 (by decide) ?_
      obtain rfl := ht2
      exact tw_zret C hK rfl rfl rfl dX9_areTwo_26
    · have hf2 := ite_t (b2i_nz hc2) hf1
      refine tw_iload_n (i := 1) (z := 1) C dX9_areTwo_16 rfl rfl ?_
      refine tw_iload_n (i := 2) (z := 2) C dX9_areTwo_17 rfl rfl ?_
      refine tw_ic_eq (tgt := 25) C dX9_areTwo_18 (by decide) (fun hc3 => ?_) (fun hc3 => ?_)
      · have ht3 := ite_t hc3 hf2
        refine tw_iconst (v := 0) C dX9_areTwo_25 (by decide) ?_
        obtain rfl := ht3
        exact tw_zret C hK rfl rfl rfl dX9_areTwo_26
      · have hf3 := ite_f hc3 hf2
        refine tw_iconst (v := 1) C dX9_areTwo_21 (by decide) ?_
        refine tw_goto (tgt := 26) C dX9_areTwo_22 (by decide) ?_
        obtain rfl := hf3
        exact tw_zret C hK rfl rfl rfl dX9_areTwo_26

set_option maxRecDepth 20000 in
def fX9_doAgree (σ : St) (a1 : Int32) (a2 : Int32) : Option (Bool × St) :=
  grd (inb a1 12) (
  grd (inb a2 12) (
  obi (fX9_differOf σ (σ (44, 0) (tn a1)) (σ (44, 0) (tn a2))) (fun (x1, σ1) =>
  grd (inb a1 12) (
  grd (inb a2 12) (
  if ((x1 &&& (σ1 (45, 0) (tn a1))) &&& (σ1 (45, 0) (tn a2))) = 0 then
    some (true, σ1)
  else
    some (false, σ1))))))
set_option maxRecDepth 20000 in
set_option maxHeartbeats 4000000 in
theorem kX9_doAgree (G : Gx) (d : Nat) (hdp : 8 ≤ d) (σ : St) (a1 : Int32) (a2 : Int32)  {v0 : Bool} {σ' : St} (h : fX9_doAgree σ a1 a2 = some (v0, σ')) : MS G d yX9_doAgree cX9_doAgree 3 (some .boolean) [.ref (G.2.1 (9, 0)), .int a1, .int a2] σ (some (.int (b2i v0))) σ' := by
  refine MS_of (by decide) (Nat.le_of_ble_eq_true rfl) rfl (fun K hG hnL C hR hK => ?_) (by omega)
  subst hG
  show TW K 0 [(0, rv K (9, 0)), (1, .int a1), (2, .int a2)] [] σ
  unfold fX9_doAgree at h
  refine tw_aload_n (i := 0) (z := 0) (r := (9, 0)) C dX9_doAgree_0 rfl rfl ?_
  refine tw_aload_n (i := 0) (z := 0) (r := (9, 0)) C dX9_doAgree_1 rfl rfl ?_
  refine tw_getR (g := 44) (z := 0) (j' := 0) C fl_RX9_56 rfl (wcells_mem (f := 9) (j := 0) (by decide) (by decide)) rfl rfl dX9_doAgree_2 ?_
  refine tw_iload_n (i := 1) (z := 1) C dX9_doAgree_5 rfl rfl ?_
  obtain ⟨hb1, eh1⟩ := grd_some h
  refine tw_iald (r := (44, 0)) C (ia_of rfl (by decide)) hb1 dX9_doAgree_6 ?_
  refine tw_aload_n (i := 0) (z := 0) (r := (9, 0)) C dX9_doAgree_7 rfl rfl ?_
  refine tw_getR (g := 44) (z := 0) (j' := 0) C fl_RX9_56 rfl (wcells_mem (f := 9) (j := 0) (by decide) (by decide)) rfl rfl dX9_doAgree_8 ?_
  refine tw_iload_n (i := 2) (z := 2) C dX9_doAgree_11 rfl rfl ?_
  obtain ⟨hb2, eh2⟩ := grd_some eh1
  refine tw_iald (r := (44, 0)) C (ia_of rfl (by decide)) hb2 dX9_doAgree_12 ?_
  obtain ⟨⟨x1, σ1⟩, hv3, eh3⟩ := obi_some eh2
  refine tw_callV (As := [.int (σ (44, 0) (tn a1)), .int (σ (44, 0) (tn a2))]) (rest := []) (r := (9, 0)) C hR (kX9_differOf K.1 _ (by omega) _ (σ (44, 0) (tn a1)) (σ (44, 0) (tn a2))  hv3) mi_X9_differOf is_X9_differOf se_X9_differOf ml_RX9_151 (wcells_mem (f := 9) (j := 0) (by decide) (by decide)) rfl rfl rfl rfl (Nat.le_of_ble_eq_true rfl) dX9_doAgree_13 ?_
  show TW K 16 [(0, rv K (9, 0)), (1, .int a1), (2, .int a2)] [.int x1] σ1
  refine tw_aload_n (i := 0) (z := 0) (r := (9, 0)) C dX9_doAgree_16 rfl rfl ?_
  refine tw_getR (g := 45) (z := 0) (j' := 0) C fl_RX9_59 rfl (wcells_mem (f := 9) (j := 0) (by decide) (by decide)) rfl rfl dX9_doAgree_17 ?_
  refine tw_iload_n (i := 1) (z := 1) C dX9_doAgree_20 rfl rfl ?_
  obtain ⟨hb4, eh4⟩ := grd_some eh3
  refine tw_iald (r := (45, 0)) C (ia_of rfl (by decide)) hb4 dX9_doAgree_21 ?_
  refine tw_iand C dX9_doAgree_22 ?_
  refine tw_aload_n (i := 0) (z := 0) (r := (9, 0)) C dX9_doAgree_23 rfl rfl ?_
  refine tw_getR (g := 45) (z := 0) (j' := 0) C fl_RX9_59 rfl (wcells_mem (f := 9) (j := 0) (by decide) (by decide)) rfl rfl dX9_doAgree_24 ?_
  refine tw_iload_n (i := 2) (z := 2) C dX9_doAgree_27 rfl rfl ?_
  obtain ⟨hb5, eh5⟩ := grd_some eh4
  refine tw_iald (r := (45, 0)) C (ia_of rfl (by decide)) hb5 dX9_doAgree_28 ?_
  refine tw_iand C dX9_doAgree_29 ?_
  refine tw_if_ne (tgt := 37) C dX9_doAgree_30 (by decide) (fun hc6 => ?_) (fun hc6 => ?_)
  · have ht6 := ite_f hc6 eh5
    refine tw_iconst (v := 0) C dX9_doAgree_37 (by decide) ?_
    obtain ⟨rfl, rfl⟩ := pj2 (Option.some.inj ht6)
    exact tw_zret C hK rfl rfl rfl dX9_doAgree_38
  · have hf6 := ite_t hc6 eh5
    refine tw_iconst (v := 1) C dX9_doAgree_33 (by decide) ?_
    refine tw_goto (tgt := 38) C dX9_doAgree_34 (by decide) ?_
    obtain ⟨rfl, rfl⟩ := pj2 (Option.some.inj hf6)
    exact tw_zret C hK rfl rfl rfl dX9_doAgree_38

set_option maxRecDepth 20000 in
def fX9_agree (σ : St) (a1 : Int32) (a2 : Int32) : Option (Int32 × St) :=
  if (fX9_areTwo σ a1 a2) = true then
    obi (fX9_doAgree σ a1 a2) (fun (x1, σ1) =>
    if x1 = true then
      some ((1 : Int32), σ1)
    else
      some ((0 : Int32), σ1))
  else
    some ((-2 : Int32), σ)
set_option maxRecDepth 20000 in
set_option maxHeartbeats 4000000 in
theorem kX9_agree (G : Gx) (d : Nat) (hdp : 9 ≤ d) (σ : St) (a1 : Int32) (a2 : Int32)  {v0 : Int32} {σ' : St} (h : fX9_agree σ a1 a2 = some (v0, σ')) : MS G d yX9_agree cX9_agree 3 (some .int) [.ref (G.2.1 (9, 0)), .int a1, .int a2] σ (some (.int v0)) σ' := by
  refine MS_of (by decide) (Nat.le_of_ble_eq_true rfl) rfl (fun K hG hnL C hR hK => ?_) (by omega)
  subst hG
  show TW K 0 [(0, rv K (9, 0)), (1, .int a1), (2, .int a2)] [] σ
  unfold fX9_agree at h
  refine tw_aload_n (i := 0) (z := 0) (r := (9, 0)) C dX9_agree_0 rfl rfl ?_
  refine tw_iload_n (i := 1) (z := 1) C dX9_agree_1 rfl rfl ?_
  refine tw_iload_n (i := 2) (z := 2) C dX9_agree_2 rfl rfl ?_
  refine tw_callV (As := [.int a1, .int a2]) (rest := []) (r := (9, 0)) C hR (kX9_areTwo K.1 _ (by omega) σ a1 a2  rfl) mi_X9_areTwo is_X9_areTwo se_X9_areTwo ml_RX9_284 (wcells_mem (f := 9) (j := 0) (by decide) (by decide)) rfl rfl rfl rfl (Nat.le_of_ble_eq_true rfl) dX9_agree_3 ?_
  show TW K 6 [(0, rv K (9, 0)), (1, .int a1), (2, .int a2)] [.int (b2i (fX9_areTwo σ a1 a2))] σ
  refine tw_if_eq (tgt := 26) C dX9_agree_6 (by decide) (fun hc1 => ?_) (fun hc1 => ?_)
  · have ht1 := ite_f (b2i_z hc1) h
    refine tw_bipush (v := (-2)) C dX9_agree_26 (by decide) ?_
    obtain ⟨rfl, rfl⟩ := pj2 (Option.some.inj ht1)
    exact tw_iret C hK rfl rfl dX9_agree_28
  · have hf1 := ite_t (b2i_nz hc1) h
    refine tw_aload_n (i := 0) (z := 0) (r := (9, 0)) C dX9_agree_9 rfl rfl ?_
    refine tw_iload_n (i := 1) (z := 1) C dX9_agree_10 rfl rfl ?_
    refine tw_iload_n (i := 2) (z := 2) C dX9_agree_11 rfl rfl ?_
    obtain ⟨⟨x1, σ1⟩, hv2, eh2⟩ := obi_some hf1
    refine tw_callV (As := [.int a1, .int a2]) (rest := []) (r := (9, 0)) C hR (kX9_doAgree K.1 _ (by omega) _ a1 a2  hv2) mi_X9_doAgree is_X9_doAgree se_X9_doAgree ml_RX9_287 (wcells_mem (f := 9) (j := 0) (by decide) (by decide)) rfl rfl rfl rfl (Nat.le_of_ble_eq_true rfl) dX9_agree_12 ?_
    show TW K 15 [(0, rv K (9, 0)), (1, .int a1), (2, .int a2)] [.int (b2i x1)] σ1
    refine tw_if_eq (tgt := 22) C dX9_agree_15 (by decide) (fun hc3 => ?_) (fun hc3 => ?_)
    · have ht3 := ite_f (b2i_z hc3) eh2
      refine tw_iconst (v := 0) C dX9_agree_22 (by decide) ?_
      refine tw_goto (tgt := 28) C dX9_agree_23 (by decide) ?_
      obtain ⟨rfl, rfl⟩ := pj2 (Option.some.inj ht3)
      exact tw_iret C hK rfl rfl dX9_agree_28
    · have hf3 := ite_t (b2i_nz hc3) eh2
      refine tw_iconst (v := 1) C dX9_agree_18 (by decide) ?_
      refine tw_goto (tgt := 28) C dX9_agree_19 (by decide) ?_
      obtain ⟨rfl, rfl⟩ := pj2 (Option.some.inj hf3)
      exact tw_iret C hK rfl rfl dX9_agree_28

set_option maxRecDepth 20000 in
def fX9_givesOf (σ : St) (a1 : Int32) (a2 : Int32) : Option (Int32 × St) :=
  obi (if a2 ≤ a1 then
    grd (inb a1 12) (
    some ((σ (45, 0) (tn a1)) ^^^ (-1 : Int32)))
  else
    some (0 : Int32)) (fun x1 =>
  grd (inb a1 12) (
  grd (inb a2 12) (
  obi (fX9_differOf σ (σ (44, 0) (tn a1)) (σ (44, 0) (tn a2))) (fun (x2, σ1) =>
  grd (inb a2 12) (
  some (x2 &&& ((σ1 (45, 0) (tn a2)) ||| x1), σ1))))))
set_option maxRecDepth 20000 in
set_option maxHeartbeats 4000000 in
theorem kX9_givesOf (G : Gx) (d : Nat) (hdp : 8 ≤ d) (σ : St) (a1 : Int32) (a2 : Int32)  {v0 : Int32} {σ' : St} (h : fX9_givesOf σ a1 a2 = some (v0, σ')) : MS G d yX9_givesOf cX9_givesOf 4 (some .int) [.ref (G.2.1 (9, 0)), .int a1, .int a2] σ (some (.int v0)) σ' := by
  refine MS_of (by decide) (Nat.le_of_ble_eq_true rfl) rfl (fun K hG hnL C hR hK => ?_) (by omega)
  subst hG
  show TW K 0 [(0, rv K (9, 0)), (1, .int a1), (2, .int a2)] [] σ
  unfold fX9_givesOf at h
  refine tw_iload_n (i := 1) (z := 1) C dX9_givesOf_0 rfl rfl ?_
  refine tw_iload_n (i := 2) (z := 2) C dX9_givesOf_1 rfl rfl ?_
  obtain ⟨x1, hx1, hq1⟩ := obi_some h
  have hJ1 : TW K 17 [(0, rv K (9, 0)), (1, .int a1), (2, .int a2)] [.int x1] σ := by
    refine tw_istore_n (lv' := [(0, rv K (9, 0)), (1, .int a1), (2, .int a2), (3, .int x1)]) C [1, 2, 3, 0] dX9_givesOf_17 rfl (by rw [hnL]; decide) rfl ?_
    refine tw_aload_n (i := 0) (z := 0) (r := (9, 0)) C dX9_givesOf_18 rfl rfl ?_
    refine tw_aload_n (i := 0) (z := 0) (r := (9, 0)) C dX9_givesOf_19 rfl rfl ?_
    refine tw_getR (g := 44) (z := 0) (j' := 0) C fl_RX9_56 rfl (wcells_mem (f := 9) (j := 0) (by decide) (by decide)) rfl rfl dX9_givesOf_20 ?_
    refine tw_iload_n (i := 1) (z := 1) C dX9_givesOf_23 rfl rfl ?_
    obtain ⟨hb4, eh4⟩ := grd_some hq1
    refine tw_iald (r := (44, 0)) C (ia_of rfl (by decide)) hb4 dX9_givesOf_24 ?_
    refine tw_aload_n (i := 0) (z := 0) (r := (9, 0)) C dX9_givesOf_25 rfl rfl ?_
    refine tw_getR (g := 44) (z := 0) (j' := 0) C fl_RX9_56 rfl (wcells_mem (f := 9) (j := 0) (by decide) (by decide)) rfl rfl dX9_givesOf_26 ?_
    refine tw_iload_n (i := 2) (z := 2) C dX9_givesOf_29 rfl rfl ?_
    obtain ⟨hb5, eh5⟩ := grd_some eh4
    refine tw_iald (r := (44, 0)) C (ia_of rfl (by decide)) hb5 dX9_givesOf_30 ?_
    obtain ⟨⟨x2, σ1⟩, hv6, eh6⟩ := obi_some eh5
    refine tw_callV (As := [.int (σ (44, 0) (tn a1)), .int (σ (44, 0) (tn a2))]) (rest := []) (r := (9, 0)) C hR (kX9_differOf K.1 _ (by omega) _ (σ (44, 0) (tn a1)) (σ (44, 0) (tn a2))  hv6) mi_X9_differOf is_X9_differOf se_X9_differOf ml_RX9_151 (wcells_mem (f := 9) (j := 0) (by decide) (by decide)) rfl rfl rfl rfl (Nat.le_of_ble_eq_true rfl) dX9_givesOf_31 ?_
    show TW K 34 [(0, rv K (9, 0)), (1, .int a1), (2, .int a2), (3, .int x1)] [.int x2] σ1
    refine tw_aload_n (i := 0) (z := 0) (r := (9, 0)) C dX9_givesOf_34 rfl rfl ?_
    refine tw_getR (g := 45) (z := 0) (j' := 0) C fl_RX9_59 rfl (wcells_mem (f := 9) (j := 0) (by decide) (by decide)) rfl rfl dX9_givesOf_35 ?_
    refine tw_iload_n (i := 2) (z := 2) C dX9_givesOf_38 rfl rfl ?_
    obtain ⟨hb7, eh7⟩ := grd_some eh6
    refine tw_iald (r := (45, 0)) C (ia_of rfl (by decide)) hb7 dX9_givesOf_39 ?_
    refine tw_iload_n (i := 3) (z := 3) C dX9_givesOf_40 rfl rfl ?_
    refine tw_ior C dX9_givesOf_41 ?_
    refine tw_iand C dX9_givesOf_42 ?_
    obtain ⟨rfl, rfl⟩ := pj2 (Option.some.inj eh7)
    exact tw_iret C hK rfl rfl dX9_givesOf_43
  refine tw_ic_ge (tgt := 9) C dX9_givesOf_2 (by decide) (fun hc2 => ?_) (fun hc2 => ?_)
  · have ht2 := ite_t hc2 hx1
    refine tw_aload_n (i := 0) (z := 0) (r := (9, 0)) C dX9_givesOf_9 rfl rfl ?_
    refine tw_getR (g := 45) (z := 0) (j' := 0) C fl_RX9_59 rfl (wcells_mem (f := 9) (j := 0) (by decide) (by decide)) rfl rfl dX9_givesOf_10 ?_
    refine tw_iload_n (i := 1) (z := 1) C dX9_givesOf_13 rfl rfl ?_
    obtain ⟨hb3, eh3⟩ := grd_some ht2
    refine tw_iald (r := (45, 0)) C (ia_of rfl (by decide)) hb3 dX9_givesOf_14 ?_
    refine tw_iconst (v := (-1)) C dX9_givesOf_15 (by decide) ?_
    refine tw_ixor C dX9_givesOf_16 ?_
    obtain rfl := (Option.some.inj eh3)
    exact hJ1
  · have hf2 := ite_f hc2 hx1
    refine tw_iconst (v := 0) C dX9_givesOf_5 (by decide) ?_
    refine tw_goto (tgt := 17) C dX9_givesOf_6 (by decide) ?_
    obtain rfl := (Option.some.inj hf2)
    exact hJ1

set_option maxRecDepth 20000 in
def fX9_gives (σ : St) (a1 : Int32) (a2 : Int32) : Option (Int32 × St) :=
  if (fX9_areTwo σ a1 a2) = true then
    obi (fX9_doAgree σ a1 a2) (fun (x1, σ1) =>
    if x1 = true then
      obi (fX9_givesOf σ1 a1 a2) (fun (x2, σ2) =>
      some (x2, σ2))
    else
      some ((-3 : Int32), σ1))
  else
    some ((-2 : Int32), σ)
set_option maxRecDepth 20000 in
set_option maxHeartbeats 4000000 in
theorem kX9_gives (G : Gx) (d : Nat) (hdp : 9 ≤ d) (σ : St) (a1 : Int32) (a2 : Int32)  {v0 : Int32} {σ' : St} (h : fX9_gives σ a1 a2 = some (v0, σ')) : MS G d yX9_gives cX9_gives 3 (some .int) [.ref (G.2.1 (9, 0)), .int a1, .int a2] σ (some (.int v0)) σ' := by
  refine MS_of (by decide) (Nat.le_of_ble_eq_true rfl) rfl (fun K hG hnL C hR hK => ?_) (by omega)
  subst hG
  show TW K 0 [(0, rv K (9, 0)), (1, .int a1), (2, .int a2)] [] σ
  unfold fX9_gives at h
  refine tw_aload_n (i := 0) (z := 0) (r := (9, 0)) C dX9_gives_0 rfl rfl ?_
  refine tw_iload_n (i := 1) (z := 1) C dX9_gives_1 rfl rfl ?_
  refine tw_iload_n (i := 2) (z := 2) C dX9_gives_2 rfl rfl ?_
  refine tw_callV (As := [.int a1, .int a2]) (rest := []) (r := (9, 0)) C hR (kX9_areTwo K.1 _ (by omega) σ a1 a2  rfl) mi_X9_areTwo is_X9_areTwo se_X9_areTwo ml_RX9_284 (wcells_mem (f := 9) (j := 0) (by decide) (by decide)) rfl rfl rfl rfl (Nat.le_of_ble_eq_true rfl) dX9_gives_3 ?_
  show TW K 6 [(0, rv K (9, 0)), (1, .int a1), (2, .int a2)] [.int (b2i (fX9_areTwo σ a1 a2))] σ
  refine tw_if_ne (tgt := 12) C dX9_gives_6 (by decide) (fun hc1 => ?_) (fun hc1 => ?_)
  · have ht1 := ite_t (b2i_nz hc1) h
    refine tw_aload_n (i := 0) (z := 0) (r := (9, 0)) C dX9_gives_12 rfl rfl ?_
    refine tw_iload_n (i := 1) (z := 1) C dX9_gives_13 rfl rfl ?_
    refine tw_iload_n (i := 2) (z := 2) C dX9_gives_14 rfl rfl ?_
    obtain ⟨⟨x1, σ1⟩, hv2, eh2⟩ := obi_some ht1
    refine tw_callV (As := [.int a1, .int a2]) (rest := []) (r := (9, 0)) C hR (kX9_doAgree K.1 _ (by omega) _ a1 a2  hv2) mi_X9_doAgree is_X9_doAgree se_X9_doAgree ml_RX9_287 (wcells_mem (f := 9) (j := 0) (by decide) (by decide)) rfl rfl rfl rfl (Nat.le_of_ble_eq_true rfl) dX9_gives_15 ?_
    show TW K 18 [(0, rv K (9, 0)), (1, .int a1), (2, .int a2)] [.int (b2i x1)] σ1
    refine tw_if_eq (tgt := 30) C dX9_gives_18 (by decide) (fun hc3 => ?_) (fun hc3 => ?_)
    · have ht3 := ite_f (b2i_z hc3) eh2
      refine tw_bipush (v := (-3)) C dX9_gives_30 (by decide) ?_
      obtain ⟨rfl, rfl⟩ := pj2 (Option.some.inj ht3)
      exact tw_iret C hK rfl rfl dX9_gives_32
    · have hf3 := ite_t (b2i_nz hc3) eh2
      refine tw_aload_n (i := 0) (z := 0) (r := (9, 0)) C dX9_gives_21 rfl rfl ?_
      refine tw_iload_n (i := 1) (z := 1) C dX9_gives_22 rfl rfl ?_
      refine tw_iload_n (i := 2) (z := 2) C dX9_gives_23 rfl rfl ?_
      obtain ⟨⟨x2, σ2⟩, hv4, eh4⟩ := obi_some hf3
      refine tw_callV (As := [.int a1, .int a2]) (rest := []) (r := (9, 0)) C hR (kX9_givesOf K.1 _ (by omega) _ a1 a2  hv4) mi_X9_givesOf is_X9_givesOf se_X9_givesOf ml_RX9_290 (wcells_mem (f := 9) (j := 0) (by decide) (by decide)) rfl rfl rfl rfl (Nat.le_of_ble_eq_true rfl) dX9_gives_24 ?_
      show TW K 27 [(0, rv K (9, 0)), (1, .int a1), (2, .int a2)] [.int x2] σ2
      refine tw_goto (tgt := 32) C dX9_gives_27 (by decide) ?_
      obtain ⟨rfl, rfl⟩ := pj2 (Option.some.inj eh4)
      exact tw_iret C hK rfl rfl dX9_gives_32
  · have hf1 := ite_f (b2i_z hc1) h
    refine tw_bipush (v := (-2)) C dX9_gives_9 (by decide) ?_
    obtain ⟨rfl, rfl⟩ := pj2 (Option.some.inj hf1)
    exact tw_iret C hK rfl rfl dX9_gives_11

set_option maxRecDepth 20000 in
def fX9_between (σ : St) (a1 : Int32) (a2 : Int32) (a3 : Int32) (a4 : Int32) : Option (Int32 × St) :=
  if (fX9_areTwo σ a1 a2) = true then
    if (fX9_isMatch σ a3) = true then
      if (fX9_in a4 (0 : Int32) (8 : Int32)) = true then
        obi (fX9_doAgree σ a1 a2) (fun (x1, σ1) =>
        if x1 = true then
          grd (inb a1 12) (
          grd (inb a2 12) (
          obi (fX9_givesOf σ1 a1 a2) (fun (x2, σ2) =>
          obi (fX9_mix σ2 (σ1 (44, 0) (tn a1)) (σ1 (44, 0) (tn a2)) x2) (fun σ3 =>
          obi (fX9_plays σ3 a3) (fun σ4 =>
          some (fX9_toldOf σ4 a4, σ4))))))
        else
          some ((-3 : Int32), σ1))
      else
        some ((-2 : Int32), σ)
    else
      some ((-2 : Int32), σ)
  else
    some ((-2 : Int32), σ)
set_option maxRecDepth 20000 in
set_option maxHeartbeats 4000000 in
theorem kX9_between (G : Gx) (d : Nat) (hdp : 9 ≤ d) (σ : St) (a1 : Int32) (a2 : Int32) (a3 : Int32) (a4 : Int32)  {v0 : Int32} {σ' : St} (h : fX9_between σ a1 a2 a3 a4 = some (v0, σ')) : MS G d yX9_between cX9_between 5 (some .int) [.ref (G.2.1 (9, 0)), .int a1, .int a2, .int a3, .int a4] σ (some (.int v0)) σ' := by
  refine MS_of (by decide) (Nat.le_of_ble_eq_true rfl) rfl (fun K hG hnL C hR hK => ?_) (by omega)
  subst hG
  show TW K 0 [(0, rv K (9, 0)), (1, .int a1), (2, .int a2), (3, .int a3), (4, .int a4)] [] σ
  unfold fX9_between at h
  refine tw_aload_n (i := 0) (z := 0) (r := (9, 0)) C dX9_between_0 rfl rfl ?_
  refine tw_iload_n (i := 1) (z := 1) C dX9_between_1 rfl rfl ?_
  refine tw_iload_n (i := 2) (z := 2) C dX9_between_2 rfl rfl ?_
  refine tw_callV (As := [.int a1, .int a2]) (rest := []) (r := (9, 0)) C hR (kX9_areTwo K.1 _ (by omega) σ a1 a2  rfl) mi_X9_areTwo is_X9_areTwo se_X9_areTwo ml_RX9_284 (wcells_mem (f := 9) (j := 0) (by decide) (by decide)) rfl rfl rfl rfl (Nat.le_of_ble_eq_true rfl) dX9_between_3 ?_
  show TW K 6 [(0, rv K (9, 0)), (1, .int a1), (2, .int a2), (3, .int a3), (4, .int a4)] [.int (b2i (fX9_areTwo σ a1 a2))] σ
  refine tw_if_eq (tgt := 28) C dX9_between_6 (by decide) (fun hc1 => ?_) (fun hc1 => ?_)
  · have ht1 := ite_f (b2i_z hc1) h
    refine tw_bipush (v := (-2)) C dX9_between_28 (by decide) ?_
    obtain ⟨rfl, rfl⟩ := pj2 (Option.some.inj ht1)
    exact tw_iret C hK rfl rfl dX9_between_30
  · have hf1 := ite_t (b2i_nz hc1) h
    refine tw_aload_n (i := 0) (z := 0) (r := (9, 0)) C dX9_between_9 rfl rfl ?_
    refine tw_iload_n (i := 3) (z := 3) C dX9_between_10 rfl rfl ?_
    refine tw_callV (As := [.int a3]) (rest := []) (r := (9, 0)) C hR (kX9_isMatch K.1 _ (by omega) σ a3  rfl) mi_X9_isMatch is_X9_isMatch se_X9_isMatch ml_RX9_202 (wcells_mem (f := 9) (j := 0) (by decide) (by decide)) rfl rfl rfl rfl (Nat.le_of_ble_eq_true rfl) dX9_between_11 ?_
    show TW K 14 [(0, rv K (9, 0)), (1, .int a1), (2, .int a2), (3, .int a3), (4, .int a4)] [.int (b2i (fX9_isMatch σ a3))] σ
    refine tw_if_eq (tgt := 28) C dX9_between_14 (by decide) (fun hc2 => ?_) (fun hc2 => ?_)
    · have ht2 := ite_f (b2i_z hc2) hf1
      refine tw_bipush (v := (-2)) C dX9_between_28 (by decide) ?_
      obtain ⟨rfl, rfl⟩ := pj2 (Option.some.inj ht2)
      exact tw_iret C hK rfl rfl dX9_between_30
    · have hf2 := ite_t (b2i_nz hc2) hf1
      refine tw_iload (i := 4) (z := 4) C dX9_between_17 rfl ?_
      refine tw_iconst (v := 0) C dX9_between_19 (by decide) ?_
      refine tw_bipush (v := 8) C dX9_between_20 (by decide) ?_
      refine tw_callS (As := [.int a4, .int (0 : Int32), .int (8 : Int32)]) (rest := []) C hR (kX9_in K.1 _ (by omega) σ a4 (0 : Int32) (8 : Int32)  rfl) mi_X9_in st_X9_in ml_RX9_106 rfl rfl (Nat.le_of_ble_eq_true rfl) dX9_between_22 ?_
      show TW K 25 [(0, rv K (9, 0)), (1, .int a1), (2, .int a2), (3, .int a3), (4, .int a4)] [.int (b2i (fX9_in a4 (0 : Int32) (8 : Int32)))] σ
      refine tw_if_ne (tgt := 31) C dX9_between_25 (by decide) (fun hc3 => ?_) (fun hc3 => ?_)
      · have ht3 := ite_t (b2i_nz hc3) hf2
        refine tw_aload_n (i := 0) (z := 0) (r := (9, 0)) C dX9_between_31 rfl rfl ?_
        refine tw_iload_n (i := 1) (z := 1) C dX9_between_32 rfl rfl ?_
        refine tw_iload_n (i := 2) (z := 2) C dX9_between_33 rfl rfl ?_
        obtain ⟨⟨x1, σ1⟩, hv4, eh4⟩ := obi_some ht3
        refine tw_callV (As := [.int a1, .int a2]) (rest := []) (r := (9, 0)) C hR (kX9_doAgree K.1 _ (by omega) _ a1 a2  hv4) mi_X9_doAgree is_X9_doAgree se_X9_doAgree ml_RX9_287 (wcells_mem (f := 9) (j := 0) (by decide) (by decide)) rfl rfl rfl rfl (Nat.le_of_ble_eq_true rfl) dX9_between_34 ?_
        show TW K 37 [(0, rv K (9, 0)), (1, .int a1), (2, .int a2), (3, .int a3), (4, .int a4)] [.int (b2i x1)] σ1
        refine tw_if_ne (tgt := 43) C dX9_between_37 (by decide) (fun hc5 => ?_) (fun hc5 => ?_)
        · have ht5 := ite_t (b2i_nz hc5) eh4
          refine tw_aload_n (i := 0) (z := 0) (r := (9, 0)) C dX9_between_43 rfl rfl ?_
          refine tw_aload_n (i := 0) (z := 0) (r := (9, 0)) C dX9_between_44 rfl rfl ?_
          refine tw_getR (g := 44) (z := 0) (j' := 0) C fl_RX9_56 rfl (wcells_mem (f := 9) (j := 0) (by decide) (by decide)) rfl rfl dX9_between_45 ?_
          refine tw_iload_n (i := 1) (z := 1) C dX9_between_48 rfl rfl ?_
          obtain ⟨hb6, eh6⟩ := grd_some ht5
          refine tw_iald (r := (44, 0)) C (ia_of rfl (by decide)) hb6 dX9_between_49 ?_
          refine tw_aload_n (i := 0) (z := 0) (r := (9, 0)) C dX9_between_50 rfl rfl ?_
          refine tw_getR (g := 44) (z := 0) (j' := 0) C fl_RX9_56 rfl (wcells_mem (f := 9) (j := 0) (by decide) (by decide)) rfl rfl dX9_between_51 ?_
          refine tw_iload_n (i := 2) (z := 2) C dX9_between_54 rfl rfl ?_
          obtain ⟨hb7, eh7⟩ := grd_some eh6
          refine tw_iald (r := (44, 0)) C (ia_of rfl (by decide)) hb7 dX9_between_55 ?_
          refine tw_aload_n (i := 0) (z := 0) (r := (9, 0)) C dX9_between_56 rfl rfl ?_
          refine tw_iload_n (i := 1) (z := 1) C dX9_between_57 rfl rfl ?_
          refine tw_iload_n (i := 2) (z := 2) C dX9_between_58 rfl rfl ?_
          obtain ⟨⟨x2, σ2⟩, hv8, eh8⟩ := obi_some eh7
          refine tw_callV (As := [.int a1, .int a2]) (rest := [.int (σ1 (44, 0) (tn a2)), .int (σ1 (44, 0) (tn a1)), rv K (9, 0)]) (r := (9, 0)) C hR (kX9_givesOf K.1 _ (by omega) _ a1 a2  hv8) mi_X9_givesOf is_X9_givesOf se_X9_givesOf ml_RX9_290 (wcells_mem (f := 9) (j := 0) (by decide) (by decide)) rfl rfl rfl rfl (Nat.le_of_ble_eq_true rfl) dX9_between_59 ?_
          show TW K 62 [(0, rv K (9, 0)), (1, .int a1), (2, .int a2), (3, .int a3), (4, .int a4)] [.int x2, .int (σ1 (44, 0) (tn a2)), .int (σ1 (44, 0) (tn a1)), rv K (9, 0)] σ2
          obtain ⟨σ3, hv9, eh9⟩ := obi_some eh8
          refine tw_callV (As := [.int (σ1 (44, 0) (tn a1)), .int (σ1 (44, 0) (tn a2)), .int x2]) (rest := []) (r := (9, 0)) C hR (kX9_mix K.1 _ (by omega) _ (σ1 (44, 0) (tn a1)) (σ1 (44, 0) (tn a2)) x2  hv9) mi_X9_mix is_X9_mix se_X9_mix ml_RX9_233 (wcells_mem (f := 9) (j := 0) (by decide) (by decide)) rfl rfl rfl rfl (Nat.le_of_ble_eq_true rfl) dX9_between_62 ?_
          show TW K 65 [(0, rv K (9, 0)), (1, .int a1), (2, .int a2), (3, .int a3), (4, .int a4)] [] σ3
          refine tw_aload_n (i := 0) (z := 0) (r := (9, 0)) C dX9_between_65 rfl rfl ?_
          refine tw_iload_n (i := 3) (z := 3) C dX9_between_66 rfl rfl ?_
          obtain ⟨σ4, hv10, eh10⟩ := obi_some eh9
          refine tw_callV (As := [.int a3]) (rest := []) (r := (9, 0)) C hR (kX9_plays K.1 _ (by omega) _ a3  hv10) mi_X9_plays is_X9_plays se_X9_plays ml_RX9_236 (wcells_mem (f := 9) (j := 0) (by decide) (by decide)) rfl rfl rfl rfl (Nat.le_of_ble_eq_true rfl) dX9_between_67 ?_
          show TW K 70 [(0, rv K (9, 0)), (1, .int a1), (2, .int a2), (3, .int a3), (4, .int a4)] [] σ4
          refine tw_aload_n (i := 0) (z := 0) (r := (9, 0)) C dX9_between_70 rfl rfl ?_
          refine tw_iload (i := 4) (z := 4) C dX9_between_71 rfl ?_
          refine tw_callV (As := [.int a4]) (rest := []) (r := (9, 0)) C hR (kX9_toldOf K.1 _ (by omega) σ4 a4  rfl) mi_X9_toldOf is_X9_toldOf se_X9_toldOf ml_RX9_239 (wcells_mem (f := 9) (j := 0) (by decide) (by decide)) rfl rfl rfl rfl (Nat.le_of_ble_eq_true rfl) dX9_between_73 ?_
          show TW K 76 [(0, rv K (9, 0)), (1, .int a1), (2, .int a2), (3, .int a3), (4, .int a4)] [.int (fX9_toldOf σ4 a4)] σ4
          obtain ⟨rfl, rfl⟩ := pj2 (Option.some.inj eh10)
          exact tw_iret C hK rfl rfl dX9_between_76
        · have hf5 := ite_f (b2i_z hc5) eh4
          refine tw_bipush (v := (-3)) C dX9_between_40 (by decide) ?_
          obtain ⟨rfl, rfl⟩ := pj2 (Option.some.inj hf5)
          exact tw_iret C hK rfl rfl dX9_between_42
      · have hf3 := ite_f (b2i_z hc3) hf2
        refine tw_bipush (v := (-2)) C dX9_between_28 (by decide) ?_
        obtain ⟨rfl, rfl⟩ := pj2 (Option.some.inj hf3)
        exact tw_iret C hK rfl rfl dX9_between_30

set_option maxRecDepth 20000 in
def fX9_halves (σ : St) (a1 : Int32) (a2 : Int32) (a3 : Int32) (a4 : Int32) : Option (Int32 × St) :=
  if (fX9_areTwo σ a1 a2) = true then
    if (fX9_isMatch σ a3) = true then
      if (fX9_in a4 (0 : Int32) (8 : Int32)) = true then
        grd (inb a1 12) (
        grd (inb a1 12) (
        obi (fX9_mix σ (σ (44, 0) (tn a1)) (σ (44, 0) (tn a1)) (0 : Int32)) (fun σ1 =>
        bnd (fX9_clears σ1) (fun σ2 =>
        obi (lpF (fun (q9 : St) => match q9 with
        | σ4 =>
        grd (inb a3 12) (
        if (σ4 (36, 0) (tn a3)) ≤ (σ4 (9, 0) 23) then
          some (.inr σ4)
        else
          grd (inb a3 12) (
          obi (if (σ4 (9, 0) 23) = ((σ4 (36, 0) (tn a3)) / (2 : Int32)) then
            grd (inb a2 12) (
            grd (inb a2 12) (
            obi (fX9_mix σ4 (σ4 (44, 0) (tn a2)) (σ4 (44, 0) (tn a2)) (0 : Int32)) (fun σ6 =>
            some σ6)))
          else
            some σ4) (fun σ5 =>
          obi (fX9_steps σ5 a3) (fun (x1, σ7) =>
          some (.inl σ7)))))) σ2) (fun σ3 =>
        some (fX9_toldOf σ3 a4, σ3))))))
      else
        some ((-2 : Int32), σ)
    else
      some ((-2 : Int32), σ)
  else
    some ((-2 : Int32), σ)
set_option maxRecDepth 20000 in
set_option maxHeartbeats 4000000 in
theorem kX9_halves (G : Gx) (d : Nat) (hdp : 8 ≤ d) (σ : St) (a1 : Int32) (a2 : Int32) (a3 : Int32) (a4 : Int32)  {v0 : Int32} {σ' : St} (h : fX9_halves σ a1 a2 a3 a4 = some (v0, σ')) : MS G d yX9_halves cX9_halves 6 (some .int) [.ref (G.2.1 (9, 0)), .int a1, .int a2, .int a3, .int a4] σ (some (.int v0)) σ' := by
  refine MS_of (by decide) (Nat.le_of_ble_eq_true rfl) rfl (fun K hG hnL C hR hK => ?_) (by omega)
  subst hG
  show TW K 0 [(0, rv K (9, 0)), (1, .int a1), (2, .int a2), (3, .int a3), (4, .int a4)] [] σ
  unfold fX9_halves at h
  refine tw_aload_n (i := 0) (z := 0) (r := (9, 0)) C dX9_halves_0 rfl rfl ?_
  refine tw_iload_n (i := 1) (z := 1) C dX9_halves_1 rfl rfl ?_
  refine tw_iload_n (i := 2) (z := 2) C dX9_halves_2 rfl rfl ?_
  refine tw_callV (As := [.int a1, .int a2]) (rest := []) (r := (9, 0)) C hR (kX9_areTwo K.1 _ (by omega) σ a1 a2  rfl) mi_X9_areTwo is_X9_areTwo se_X9_areTwo ml_RX9_284 (wcells_mem (f := 9) (j := 0) (by decide) (by decide)) rfl rfl rfl rfl (Nat.le_of_ble_eq_true rfl) dX9_halves_3 ?_
  show TW K 6 [(0, rv K (9, 0)), (1, .int a1), (2, .int a2), (3, .int a3), (4, .int a4)] [.int (b2i (fX9_areTwo σ a1 a2))] σ
  refine tw_if_eq (tgt := 28) C dX9_halves_6 (by decide) (fun hc1 => ?_) (fun hc1 => ?_)
  · have ht1 := ite_f (b2i_z hc1) h
    refine tw_bipush (v := (-2)) C dX9_halves_28 (by decide) ?_
    obtain ⟨rfl, rfl⟩ := pj2 (Option.some.inj ht1)
    exact tw_iret C hK rfl rfl dX9_halves_30
  · have hf1 := ite_t (b2i_nz hc1) h
    refine tw_aload_n (i := 0) (z := 0) (r := (9, 0)) C dX9_halves_9 rfl rfl ?_
    refine tw_iload_n (i := 3) (z := 3) C dX9_halves_10 rfl rfl ?_
    refine tw_callV (As := [.int a3]) (rest := []) (r := (9, 0)) C hR (kX9_isMatch K.1 _ (by omega) σ a3  rfl) mi_X9_isMatch is_X9_isMatch se_X9_isMatch ml_RX9_202 (wcells_mem (f := 9) (j := 0) (by decide) (by decide)) rfl rfl rfl rfl (Nat.le_of_ble_eq_true rfl) dX9_halves_11 ?_
    show TW K 14 [(0, rv K (9, 0)), (1, .int a1), (2, .int a2), (3, .int a3), (4, .int a4)] [.int (b2i (fX9_isMatch σ a3))] σ
    refine tw_if_eq (tgt := 28) C dX9_halves_14 (by decide) (fun hc2 => ?_) (fun hc2 => ?_)
    · have ht2 := ite_f (b2i_z hc2) hf1
      refine tw_bipush (v := (-2)) C dX9_halves_28 (by decide) ?_
      obtain ⟨rfl, rfl⟩ := pj2 (Option.some.inj ht2)
      exact tw_iret C hK rfl rfl dX9_halves_30
    · have hf2 := ite_t (b2i_nz hc2) hf1
      refine tw_iload (i := 4) (z := 4) C dX9_halves_17 rfl ?_
      refine tw_iconst (v := 0) C dX9_halves_19 (by decide) ?_
      refine tw_bipush (v := 8) C dX9_halves_20 (by decide) ?_
      refine tw_callS (As := [.int a4, .int (0 : Int32), .int (8 : Int32)]) (rest := []) C hR (kX9_in K.1 _ (by omega) σ a4 (0 : Int32) (8 : Int32)  rfl) mi_X9_in st_X9_in ml_RX9_106 rfl rfl (Nat.le_of_ble_eq_true rfl) dX9_halves_22 ?_
      show TW K 25 [(0, rv K (9, 0)), (1, .int a1), (2, .int a2), (3, .int a3), (4, .int a4)] [.int (b2i (fX9_in a4 (0 : Int32) (8 : Int32)))] σ
      refine tw_if_ne (tgt := 31) C dX9_halves_25 (by decide) (fun hc3 => ?_) (fun hc3 => ?_)
      · have ht3 := ite_t (b2i_nz hc3) hf2
        refine tw_aload_n (i := 0) (z := 0) (r := (9, 0)) C dX9_halves_31 rfl rfl ?_
        refine tw_aload_n (i := 0) (z := 0) (r := (9, 0)) C dX9_halves_32 rfl rfl ?_
        refine tw_getR (g := 44) (z := 0) (j' := 0) C fl_RX9_56 rfl (wcells_mem (f := 9) (j := 0) (by decide) (by decide)) rfl rfl dX9_halves_33 ?_
        refine tw_iload_n (i := 1) (z := 1) C dX9_halves_36 rfl rfl ?_
        obtain ⟨hb4, eh4⟩ := grd_some ht3
        refine tw_iald (r := (44, 0)) C (ia_of rfl (by decide)) hb4 dX9_halves_37 ?_
        refine tw_aload_n (i := 0) (z := 0) (r := (9, 0)) C dX9_halves_38 rfl rfl ?_
        refine tw_getR (g := 44) (z := 0) (j' := 0) C fl_RX9_56 rfl (wcells_mem (f := 9) (j := 0) (by decide) (by decide)) rfl rfl dX9_halves_39 ?_
        refine tw_iload_n (i := 1) (z := 1) C dX9_halves_42 rfl rfl ?_
        obtain ⟨hb5, eh5⟩ := grd_some eh4
        refine tw_iald (r := (44, 0)) C (ia_of rfl (by decide)) hb5 dX9_halves_43 ?_
        refine tw_iconst (v := 0) C dX9_halves_44 (by decide) ?_
        obtain ⟨σ1, hv6, eh6⟩ := obi_some eh5
        refine tw_callV (As := [.int (σ (44, 0) (tn a1)), .int (σ (44, 0) (tn a1)), .int (0 : Int32)]) (rest := []) (r := (9, 0)) C hR (kX9_mix K.1 _ (by omega) _ (σ (44, 0) (tn a1)) (σ (44, 0) (tn a1)) (0 : Int32)  hv6) mi_X9_mix is_X9_mix se_X9_mix ml_RX9_233 (wcells_mem (f := 9) (j := 0) (by decide) (by decide)) rfl rfl rfl rfl (Nat.le_of_ble_eq_true rfl) dX9_halves_45 ?_
        show TW K 48 [(0, rv K (9, 0)), (1, .int a1), (2, .int a2), (3, .int a3), (4, .int a4)] [] σ1
        refine tw_aload_n (i := 0) (z := 0) (r := (9, 0)) C dX9_halves_48 rfl rfl ?_
        obtain ⟨σ2, hv7, eh7⟩ := bnd_ex eh6
        refine tw_callV (As := []) (rest := []) (r := (9, 0)) C hR (kX9_clears K.1 _ (by omega) _   hv7) mi_X9_clears is_X9_clears se_X9_clears ml_RX9_223 (wcells_mem (f := 9) (j := 0) (by decide) (by decide)) rfl rfl rfl rfl (Nat.le_of_ble_eq_true rfl) dX9_halves_49 ?_
        show TW K 52 [(0, rv K (9, 0)), (1, .int a1), (2, .int a2), (3, .int a3), (4, .int a4)] [] σ2
        obtain ⟨σ3, hx8, hq8⟩ := obi_some eh7
        have hJ8 : TW K 107 [(0, rv K (9, 0)), (4, .int a4)] [] σ3 := by
          refine tw_aload_n (i := 0) (z := 0) (r := (9, 0)) C dX9_halves_107 rfl rfl ?_
          refine tw_iload (i := 4) (z := 1) C dX9_halves_108 rfl ?_
          refine tw_callV (As := [.int a4]) (rest := []) (r := (9, 0)) C hR (kX9_toldOf K.1 _ (by omega) σ3 a4  rfl) mi_X9_toldOf is_X9_toldOf se_X9_toldOf ml_RX9_239 (wcells_mem (f := 9) (j := 0) (by decide) (by decide)) rfl rfl rfl rfl (Nat.le_of_ble_eq_true rfl) dX9_halves_110 ?_
          show TW K 113 [(0, rv K (9, 0)), (4, .int a4)] [.int (fX9_toldOf σ3 a4)] σ3
          obtain ⟨rfl, rfl⟩ := pj2 (Option.some.inj hq8)
          exact tw_iret C hK rfl rfl dX9_halves_113
        refine tw_sub [0, 2, 3, 4] rfl ?_
        refine lpF_ct (G := fun (q : St) => match q with | σ4 => TW K 52 [(0, rv K (9, 0)), (2, .int a2), (3, .int a3), (4, .int a4)] [] σ4) ?_ hx8
        rintro σ4 w9 hx9 hk9
        show TW K 52 [(0, rv K (9, 0)), (2, .int a2), (3, .int a3), (4, .int a4)] [] σ4
        refine tw_aload_n (i := 0) (z := 0) (r := (9, 0)) C dX9_halves_52 rfl rfl ?_
        refine tw_getI C fl_RX9_217 rfl (wcells_mem (f := 9) (j := 0) (by decide) (by decide)) rfl dX9_halves_53 ?_
        refine tw_aload_n (i := 0) (z := 0) (r := (9, 0)) C dX9_halves_56 rfl rfl ?_
        refine tw_getR (g := 36) (z := 0) (j' := 0) C fl_RX9_32 rfl (wcells_mem (f := 9) (j := 0) (by decide) (by decide)) rfl rfl dX9_halves_57 ?_
        refine tw_iload_n (i := 3) (z := 2) C dX9_halves_60 rfl rfl ?_
        obtain ⟨hb10, eh10⟩ := grd_some hx9
        refine tw_iald (r := (36, 0)) C (ia_of rfl (by decide)) hb10 dX9_halves_61 ?_
        refine tw_ic_ge (tgt := 107) C dX9_halves_62 (by decide) (fun hc11 => ?_) (fun hc11 => ?_)
        · have ht11 := ite_t hc11 eh10
          refine tw_sub [0, 3] rfl ?_
          have e12 := lp_x ht11 hk9
          obtain rfl := (Option.some.inj e12)
          exact hJ8
        · have hf11 := ite_f hc11 eh10
          refine tw_aload_n (i := 0) (z := 0) (r := (9, 0)) C dX9_halves_65 rfl rfl ?_
          refine tw_getI C fl_RX9_217 rfl (wcells_mem (f := 9) (j := 0) (by decide) (by decide)) rfl dX9_halves_66 ?_
          refine tw_aload_n (i := 0) (z := 0) (r := (9, 0)) C dX9_halves_69 rfl rfl ?_
          refine tw_getR (g := 36) (z := 0) (j' := 0) C fl_RX9_32 rfl (wcells_mem (f := 9) (j := 0) (by decide) (by decide)) rfl rfl dX9_halves_70 ?_
          refine tw_iload_n (i := 3) (z := 2) C dX9_halves_73 rfl rfl ?_
          obtain ⟨hb13, eh13⟩ := grd_some hf11
          refine tw_iald (r := (36, 0)) C (ia_of rfl (by decide)) hb13 dX9_halves_74 ?_
          refine tw_iconst (v := 2) C dX9_halves_75 (by decide) ?_
          refine tw_idiv C dX9_halves_76 (by decide) ?_
          obtain ⟨σ5, hx14, hq14⟩ := obi_some eh13
          have hJ14 : TW K 97 [(0, rv K (9, 0)), (2, .int a2), (3, .int a3), (4, .int a4)] [] σ5 := by
            refine tw_aload_n (i := 0) (z := 0) (r := (9, 0)) C dX9_halves_97 rfl rfl ?_
            refine tw_iload_n (i := 3) (z := 2) C dX9_halves_98 rfl rfl ?_
            obtain ⟨⟨x1, σ7⟩, hv19, eh19⟩ := obi_some hq14
            refine tw_callV (As := [.int a3]) (rest := []) (r := (9, 0)) C hR (kX9_steps K.1 _ (by omega) _ a3  hv19) mi_X9_steps is_X9_steps se_X9_steps ml_RX9_229 (wcells_mem (f := 9) (j := 0) (by decide) (by decide)) rfl rfl rfl rfl (Nat.le_of_ble_eq_true rfl) dX9_halves_99 ?_
            show TW K 102 [(0, rv K (9, 0)), (2, .int a2), (3, .int a3), (4, .int a4)] [.int x1] σ7
            refine tw_istore (lv' := [(0, rv K (9, 0)), (2, .int a2), (3, .int a3), (4, .int a4), (5, .int x1)]) C [1, 2, 3, 4, 0] dX9_halves_102 (by rw [hnL]; decide) rfl ?_
            refine tw_goto (tgt := 52) C dX9_halves_104 (by decide) ?_
            refine tw_sub [0, 1, 2, 3] rfl ?_
            have hz := lp_c eh19 hk9
            exact hz
          refine tw_ic_ne (tgt := 97) C dX9_halves_77 (by decide) (fun hc15 => ?_) (fun hc15 => ?_)
          · have ht15 := ite_f hc15 hx14
            obtain rfl := (Option.some.inj ht15)
            exact hJ14
          · have hf15 := ite_t hc15 hx14
            refine tw_aload_n (i := 0) (z := 0) (r := (9, 0)) C dX9_halves_80 rfl rfl ?_
            refine tw_aload_n (i := 0) (z := 0) (r := (9, 0)) C dX9_halves_81 rfl rfl ?_
            refine tw_getR (g := 44) (z := 0) (j' := 0) C fl_RX9_56 rfl (wcells_mem (f := 9) (j := 0) (by decide) (by decide)) rfl rfl dX9_halves_82 ?_
            refine tw_iload_n (i := 2) (z := 1) C dX9_halves_85 rfl rfl ?_
            obtain ⟨hb16, eh16⟩ := grd_some hf15
            refine tw_iald (r := (44, 0)) C (ia_of rfl (by decide)) hb16 dX9_halves_86 ?_
            refine tw_aload_n (i := 0) (z := 0) (r := (9, 0)) C dX9_halves_87 rfl rfl ?_
            refine tw_getR (g := 44) (z := 0) (j' := 0) C fl_RX9_56 rfl (wcells_mem (f := 9) (j := 0) (by decide) (by decide)) rfl rfl dX9_halves_88 ?_
            refine tw_iload_n (i := 2) (z := 1) C dX9_halves_91 rfl rfl ?_
            obtain ⟨hb17, eh17⟩ := grd_some eh16
            refine tw_iald (r := (44, 0)) C (ia_of rfl (by decide)) hb17 dX9_halves_92 ?_
            refine tw_iconst (v := 0) C dX9_halves_93 (by decide) ?_
            obtain ⟨σ6, hv18, eh18⟩ := obi_some eh17
            refine tw_callV (As := [.int (σ4 (44, 0) (tn a2)), .int (σ4 (44, 0) (tn a2)), .int (0 : Int32)]) (rest := []) (r := (9, 0)) C hR (kX9_mix K.1 _ (by omega) _ (σ4 (44, 0) (tn a2)) (σ4 (44, 0) (tn a2)) (0 : Int32)  hv18) mi_X9_mix is_X9_mix se_X9_mix ml_RX9_233 (wcells_mem (f := 9) (j := 0) (by decide) (by decide)) rfl rfl rfl rfl (Nat.le_of_ble_eq_true rfl) dX9_halves_94 ?_
            show TW K 97 [(0, rv K (9, 0)), (2, .int a2), (3, .int a3), (4, .int a4)] [] σ6
            obtain rfl := (Option.some.inj eh18)
            exact hJ14
      · have hf3 := ite_f (b2i_z hc3) hf2
        refine tw_bipush (v := (-2)) C dX9_halves_28 (by decide) ?_
        obtain ⟨rfl, rfl⟩ := pj2 (Option.some.inj hf3)
        exact tw_iret C hK rfl rfl dX9_halves_30

set_option maxRecDepth 20000 in
def fX9_member (σ : St) (a1 : Int32) (a2 : Bool) : Option (Int32 × St) :=
  if (fX9_isClub σ a1) = true then
    grd (inb a1 12) (
    bnd (if (σ (46, 0) (tn a1)) = (b2i a2) then
      (1 : Int32)
    else
      (0 : Int32)) (fun x1 =>
    grd (inb a1 12) (bnd (su σ (46, 0) (tn a1) (nbo (b2i a2))) (fun σ1 =>
    if x1 = 0 then
      some ((1 : Int32), σ1)
    else
      some ((0 : Int32), σ1)))))
  else
    some ((-2 : Int32), σ)
set_option maxRecDepth 20000 in
set_option maxHeartbeats 4000000 in
theorem kX9_member (G : Gx) (d : Nat) (hdp : 3 ≤ d) (σ : St) (a1 : Int32) (a2 : Bool)  {v0 : Int32} {σ' : St} (h : fX9_member σ a1 a2 = some (v0, σ')) : MS G d yX9_member cX9_member 4 (some .int) [.ref (G.2.1 (9, 0)), .int a1, .int (b2i a2)] σ (some (.int v0)) σ' := by
  refine MS_of (by decide) (Nat.le_of_ble_eq_true rfl) rfl (fun K hG hnL C hR hK => ?_) (by omega)
  subst hG
  show TW K 0 [(0, rv K (9, 0)), (1, .int a1), (2, .int (b2i a2))] [] σ
  unfold fX9_member at h
  refine tw_aload_n (i := 0) (z := 0) (r := (9, 0)) C dX9_member_0 rfl rfl ?_
  refine tw_iload_n (i := 1) (z := 1) C dX9_member_1 rfl rfl ?_
  refine tw_callV (As := [.int a1]) (rest := []) (r := (9, 0)) C hR (kX9_isClub K.1 _ (by omega) σ a1  rfl) mi_X9_isClub is_X9_isClub se_X9_isClub ml_RX9_281 (wcells_mem (f := 9) (j := 0) (by decide) (by decide)) rfl rfl rfl rfl (Nat.le_of_ble_eq_true rfl) dX9_member_2 ?_
  show TW K 5 [(0, rv K (9, 0)), (1, .int a1), (2, .int (b2i a2))] [.int (b2i (fX9_isClub σ a1))] σ
  refine tw_if_ne (tgt := 11) C dX9_member_5 (by decide) (fun hc1 => ?_) (fun hc1 => ?_)
  · have ht1 := ite_t (b2i_nz hc1) h
    refine tw_aload_n (i := 0) (z := 0) (r := (9, 0)) C dX9_member_11 rfl rfl ?_
    refine tw_getR (g := 46) (z := 0) (j' := 0) C fl_RX9_62 rfl (wcells_mem (f := 9) (j := 0) (by decide) (by decide)) rfl rfl dX9_member_12 ?_
    refine tw_iload_n (i := 1) (z := 1) C dX9_member_15 rfl rfl ?_
    obtain ⟨hb2, eh2⟩ := grd_some ht1
    refine tw_zald (r := (46, 0)) C rfl (wcells_mem (f := 46) (j := 0) (by decide) (by decide)) hb2 dX9_member_16 ?_
    refine tw_iload_n (i := 2) (z := 2) C dX9_member_17 rfl rfl ?_
    obtain ⟨x1, hx3, hq3⟩ := bnd_ex eh2
    have hJ3 : TW K 26 [(0, rv K (9, 0)), (1, .int a1), (2, .int (b2i a2))] [.int x1] σ := by
      refine tw_istore_n (lv' := [(0, rv K (9, 0)), (1, .int a1), (2, .int (b2i a2)), (3, .int x1)]) C [1, 2, 3, 0] dX9_member_26 rfl (by rw [hnL]; decide) rfl ?_
      refine tw_aload_n (i := 0) (z := 0) (r := (9, 0)) C dX9_member_27 rfl rfl ?_
      refine tw_getR (g := 46) (z := 0) (j' := 0) C fl_RX9_62 rfl (wcells_mem (f := 9) (j := 0) (by decide) (by decide)) rfl rfl dX9_member_28 ?_
      refine tw_iload_n (i := 1) (z := 1) C dX9_member_31 rfl rfl ?_
      refine tw_iload_n (i := 2) (z := 2) C dX9_member_32 rfl rfl ?_
      obtain ⟨hb5, eh5⟩ := grd_some hq3
      obtain ⟨σ1, es6, eg6⟩ := bnd_ex eh5
      refine tw_zast (r := (46, 0)) C rfl (wcells_mem (f := 46) (j := 0) (by decide) (by decide)) hb5 dX9_member_33 ?_
      rw [es6]
      refine tw_iload_n (i := 3) (z := 3) C dX9_member_34 rfl rfl ?_
      refine tw_if_eq (tgt := 42) C dX9_member_35 (by decide) (fun hc7 => ?_) (fun hc7 => ?_)
      · have ht7 := ite_t hc7 eg6
        refine tw_iconst (v := 1) C dX9_member_42 (by decide) ?_
        obtain ⟨rfl, rfl⟩ := pj2 (Option.some.inj ht7)
        exact tw_iret C hK rfl rfl dX9_member_43
      · have hf7 := ite_f hc7 eg6
        refine tw_iconst (v := 0) C dX9_member_38 (by decide) ?_
        refine tw_goto (tgt := 43) C dX9_member_39 (by decide) ?_
        obtain ⟨rfl, rfl⟩ := pj2 (Option.some.inj hf7)
        exact tw_iret C hK rfl rfl dX9_member_43
    refine tw_ic_ne (tgt := 25) C dX9_member_18 (by decide) (fun hc4 => ?_) (fun hc4 => ?_)
    · have ht4 := ite_f hc4 hx3
      refine tw_iconst (v := 0) C dX9_member_25 (by decide) ?_
      obtain rfl := ht4
      exact hJ3
    · have hf4 := ite_t hc4 hx3
      refine tw_iconst (v := 1) C dX9_member_21 (by decide) ?_
      refine tw_goto (tgt := 26) C dX9_member_22 (by decide) ?_
      obtain rfl := hf4
      exact hJ3
  · have hf1 := ite_f (b2i_z hc1) h
    refine tw_bipush (v := (-2)) C dX9_member_8 (by decide) ?_
    obtain ⟨rfl, rfl⟩ := pj2 (Option.some.inj hf1)
    exact tw_iret C hK rfl rfl dX9_member_10

set_option maxRecDepth 20000 in
def fX9_rule (σ : St) (a1 : Int32) (a2 : Int32) : Int32 × St :=
  bnd (if a1 = 0 then
    (b2i (fX9_in a2 (1 : Int32) (σ (9, 0) 34)))
  else
    if a1 = (1 : Int32) then
      (b2i (fX9_in a2 (σ (9, 0) 33) (9 : Int32)))
    else
      if a1 = (2 : Int32) then
        if (fX9_in a2 (0 : Int32) (12 : Int32)) = true then
          (1 : Int32)
        else
          (0 : Int32)
      else
        (0 : Int32)) (fun x1 =>
  if x1 = 0 then
    ((-2 : Int32), σ)
  else
    bnd (if a1 = 0 then
      σ (9, 0) 33
    else
      if a1 = (1 : Int32) then
        σ (9, 0) 34
      else
        σ (9, 0) 35) (fun x2 =>
    bnd (if a1 = 0 then
      a2
    else
      σ (9, 0) 33) (fun x3 =>
    bnd (su σ (9, 0) 33 x3) (fun σ1 =>
    bnd (if a1 = (1 : Int32) then
      a2
    else
      σ1 (9, 0) 34) (fun x4 =>
    bnd (su σ1 (9, 0) 34 x4) (fun σ2 =>
    bnd (if a1 = (2 : Int32) then
      a2
    else
      σ2 (9, 0) 35) (fun x5 =>
    bnd (su σ2 (9, 0) 35 x5) (fun σ3 =>
    (x2, σ3)))))))))
set_option maxRecDepth 20000 in
set_option maxHeartbeats 4000000 in
theorem kX9_rule (G : Gx) (d : Nat) (hdp : 2 ≤ d) (σ : St) (a1 : Int32) (a2 : Int32)  {v0 : Int32} {σ' : St} (h : fX9_rule σ a1 a2 = (v0, σ')) : MS G d yX9_rule cX9_rule 5 (some .int) [.ref (G.2.1 (9, 0)), .int a1, .int a2] σ (some (.int v0)) σ' := by
  refine MS_of (by decide) (Nat.le_of_ble_eq_true rfl) rfl (fun K hG hnL C hR hK => ?_) (by omega)
  subst hG
  show TW K 0 [(0, rv K (9, 0)), (1, .int a1), (2, .int a2)] [] σ
  unfold fX9_rule at h
  refine tw_iload_n (i := 1) (z := 1) C dX9_rule_0 rfl rfl ?_
  obtain ⟨x1, hx1, hq1⟩ := bnd_ex h
  have hJ1 : TW K 54 [(0, rv K (9, 0)), (1, .int a1), (2, .int a2)] [.int x1] σ := by
    refine tw_istore_n (lv' := [(0, rv K (9, 0)), (1, .int a1), (2, .int a2), (3, .int x1)]) C [1, 2, 3, 0] dX9_rule_54 rfl (by rw [hnL]; decide) rfl ?_
    refine tw_iload_n (i := 3) (z := 3) C dX9_rule_55 rfl rfl ?_
    refine tw_if_ne (tgt := 62) C dX9_rule_56 (by decide) (fun hc6 => ?_) (fun hc6 => ?_)
    · have ht6 := ite_f hc6 hq1
      refine tw_iload_n (i := 1) (z := 1) C dX9_rule_62 rfl rfl ?_
      obtain ⟨x2, hx7, hq7⟩ := bnd_ex ht6
      have hJ7 : TW K 89 [(0, rv K (9, 0)), (1, .int a1), (2, .int a2)] [.int x2] σ := by
        refine tw_istore (lv' := [(0, rv K (9, 0)), (1, .int a1), (2, .int a2), (4, .int x2)]) C [1, 2, 3, 0] dX9_rule_89 (by rw [hnL]; decide) rfl ?_
        refine tw_aload_n (i := 0) (z := 0) (r := (9, 0)) C dX9_rule_91 rfl rfl ?_
        refine tw_iload_n (i := 1) (z := 1) C dX9_rule_92 rfl rfl ?_
        obtain ⟨x3, hx10, hq10⟩ := bnd_ex hq7
        have hJ10 : TW K 104 [(0, rv K (9, 0)), (1, .int a1), (2, .int a2), (4, .int x2)] [.int x3, rv K (9, 0)] σ := by
          obtain ⟨σ1, es12, eh12⟩ := bnd_ex hq10
          refine tw_put C fl_RX9_68 (fun q hq => by cases hq; rfl) rfl (wcells_mem (f := 9) (j := 0) (by decide) (by decide)) rfl rfl rfl dX9_rule_104 ?_
          rw [es12]
          refine tw_aload_n (i := 0) (z := 0) (r := (9, 0)) C dX9_rule_107 rfl rfl ?_
          refine tw_iload_n (i := 1) (z := 1) C dX9_rule_108 rfl rfl ?_
          refine tw_iconst (v := 1) C dX9_rule_109 (by decide) ?_
          obtain ⟨x4, hx13, hq13⟩ := bnd_ex eh12
          have hJ13 : TW K 121 [(0, rv K (9, 0)), (1, .int a1), (2, .int a2), (4, .int x2)] [.int x4, rv K (9, 0)] σ1 := by
            obtain ⟨σ2, es15, eh15⟩ := bnd_ex hq13
            refine tw_put C fl_RX9_72 (fun q hq => by cases hq; rfl) rfl (wcells_mem (f := 9) (j := 0) (by decide) (by decide)) rfl rfl rfl dX9_rule_121 ?_
            rw [es15]
            refine tw_aload_n (i := 0) (z := 0) (r := (9, 0)) C dX9_rule_124 rfl rfl ?_
            refine tw_iload_n (i := 1) (z := 1) C dX9_rule_125 rfl rfl ?_
            refine tw_iconst (v := 2) C dX9_rule_126 (by decide) ?_
            obtain ⟨x5, hx16, hq16⟩ := bnd_ex eh15
            have hJ16 : TW K 138 [(4, .int x2)] [.int x5, rv K (9, 0)] σ2 := by
              obtain ⟨σ3, es18, eh18⟩ := bnd_ex hq16
              refine tw_put C fl_RX9_75 (fun q hq => by cases hq; rfl) rfl (wcells_mem (f := 9) (j := 0) (by decide) (by decide)) rfl rfl rfl dX9_rule_138 ?_
              rw [es18]
              refine tw_iload (i := 4) (z := 0) C dX9_rule_141 rfl ?_
              obtain ⟨rfl, rfl⟩ := pj2 eh18
              exact tw_iret C hK rfl rfl dX9_rule_143
            refine tw_ic_ne (tgt := 134) C dX9_rule_127 (by decide) (fun hc17 => ?_) (fun hc17 => ?_)
            · have ht17 := ite_f hc17 hx16
              refine tw_aload_n (i := 0) (z := 0) (r := (9, 0)) C dX9_rule_134 rfl rfl ?_
              refine tw_getI C fl_RX9_75 rfl (wcells_mem (f := 9) (j := 0) (by decide) (by decide)) rfl dX9_rule_135 ?_
              refine tw_sub [3] rfl ?_
              obtain rfl := ht17
              exact hJ16
            · have hf17 := ite_t hc17 hx16
              refine tw_iload_n (i := 2) (z := 2) C dX9_rule_130 rfl rfl ?_
              refine tw_goto (tgt := 138) C dX9_rule_131 (by decide) ?_
              refine tw_sub [3] rfl ?_
              obtain rfl := hf17
              exact hJ16
          refine tw_ic_ne (tgt := 117) C dX9_rule_110 (by decide) (fun hc14 => ?_) (fun hc14 => ?_)
          · have ht14 := ite_f hc14 hx13
            refine tw_aload_n (i := 0) (z := 0) (r := (9, 0)) C dX9_rule_117 rfl rfl ?_
            refine tw_getI C fl_RX9_72 rfl (wcells_mem (f := 9) (j := 0) (by decide) (by decide)) rfl dX9_rule_118 ?_
            obtain rfl := ht14
            exact hJ13
          · have hf14 := ite_t hc14 hx13
            refine tw_iload_n (i := 2) (z := 2) C dX9_rule_113 rfl rfl ?_
            refine tw_goto (tgt := 121) C dX9_rule_114 (by decide) ?_
            obtain rfl := hf14
            exact hJ13
        refine tw_if_ne (tgt := 100) C dX9_rule_93 (by decide) (fun hc11 => ?_) (fun hc11 => ?_)
        · have ht11 := ite_f hc11 hx10
          refine tw_aload_n (i := 0) (z := 0) (r := (9, 0)) C dX9_rule_100 rfl rfl ?_
          refine tw_getI C fl_RX9_68 rfl (wcells_mem (f := 9) (j := 0) (by decide) (by decide)) rfl dX9_rule_101 ?_
          obtain rfl := ht11
          exact hJ10
        · have hf11 := ite_t hc11 hx10
          refine tw_iload_n (i := 2) (z := 2) C dX9_rule_96 rfl rfl ?_
          refine tw_goto (tgt := 104) C dX9_rule_97 (by decide) ?_
          obtain rfl := hf11
          exact hJ10
      refine tw_if_ne (tgt := 73) C dX9_rule_63 (by decide) (fun hc8 => ?_) (fun hc8 => ?_)
      · have ht8 := ite_f hc8 hx7
        refine tw_iload_n (i := 1) (z := 1) C dX9_rule_73 rfl rfl ?_
        refine tw_iconst (v := 1) C dX9_rule_74 (by decide) ?_
        refine tw_ic_ne (tgt := 85) C dX9_rule_75 (by decide) (fun hc9 => ?_) (fun hc9 => ?_)
        · have ht9 := ite_f hc9 ht8
          refine tw_aload_n (i := 0) (z := 0) (r := (9, 0)) C dX9_rule_85 rfl rfl ?_
          refine tw_getI C fl_RX9_75 rfl (wcells_mem (f := 9) (j := 0) (by decide) (by decide)) rfl dX9_rule_86 ?_
          refine tw_sub [0, 1, 2] rfl ?_
          obtain rfl := ht9
          exact hJ7
        · have hf9 := ite_t hc9 ht8
          refine tw_aload_n (i := 0) (z := 0) (r := (9, 0)) C dX9_rule_78 rfl rfl ?_
          refine tw_getI C fl_RX9_72 rfl (wcells_mem (f := 9) (j := 0) (by decide) (by decide)) rfl dX9_rule_79 ?_
          refine tw_goto (tgt := 89) C dX9_rule_82 (by decide) ?_
          refine tw_sub [0, 1, 2] rfl ?_
          obtain rfl := hf9
          exact hJ7
      · have hf8 := ite_t hc8 hx7
        refine tw_aload_n (i := 0) (z := 0) (r := (9, 0)) C dX9_rule_66 rfl rfl ?_
        refine tw_getI C fl_RX9_68 rfl (wcells_mem (f := 9) (j := 0) (by decide) (by decide)) rfl dX9_rule_67 ?_
        refine tw_goto (tgt := 89) C dX9_rule_70 (by decide) ?_
        refine tw_sub [0, 1, 2] rfl ?_
        obtain rfl := hf8
        exact hJ7
    · have hf6 := ite_t hc6 hq1
      refine tw_bipush (v := (-2)) C dX9_rule_59 (by decide) ?_
      obtain ⟨rfl, rfl⟩ := pj2 hf6
      exact tw_iret C hK rfl rfl dX9_rule_61
  refine tw_if_ne (tgt := 16) C dX9_rule_1 (by decide) (fun hc2 => ?_) (fun hc2 => ?_)
  · have ht2 := ite_f hc2 hx1
    refine tw_iload_n (i := 1) (z := 1) C dX9_rule_16 rfl rfl ?_
    refine tw_iconst (v := 1) C dX9_rule_17 (by decide) ?_
    refine tw_ic_ne (tgt := 34) C dX9_rule_18 (by decide) (fun hc3 => ?_) (fun hc3 => ?_)
    · have ht3 := ite_f hc3 ht2
      refine tw_iload_n (i := 1) (z := 1) C dX9_rule_34 rfl rfl ?_
      refine tw_iconst (v := 2) C dX9_rule_35 (by decide) ?_
      refine tw_ic_ne (tgt := 53) C dX9_rule_36 (by decide) (fun hc4 => ?_) (fun hc4 => ?_)
      · have ht4 := ite_f hc4 ht3
        refine tw_iconst (v := 0) C dX9_rule_53 (by decide) ?_
        obtain rfl := ht4
        exact hJ1
      · have hf4 := ite_t hc4 ht3
        refine tw_iload_n (i := 2) (z := 2) C dX9_rule_39 rfl rfl ?_
        refine tw_iconst (v := 0) C dX9_rule_40 (by decide) ?_
        refine tw_bipush (v := 12) C dX9_rule_41 (by decide) ?_
        refine tw_callS (As := [.int a2, .int (0 : Int32), .int (12 : Int32)]) (rest := []) C hR (kX9_in K.1 _ (by omega) σ a2 (0 : Int32) (12 : Int32)  rfl) mi_X9_in st_X9_in ml_RX9_106 rfl rfl (Nat.le_of_ble_eq_true rfl) dX9_rule_43 ?_
        show TW K 46 [(0, rv K (9, 0)), (1, .int a1), (2, .int a2)] [.int (b2i (fX9_in a2 (0 : Int32) (12 : Int32)))] σ
        refine tw_if_eq (tgt := 53) C dX9_rule_46 (by decide) (fun hc5 => ?_) (fun hc5 => ?_)
        · have ht5 := ite_f (b2i_z hc5) hf4
          refine tw_iconst (v := 0) C dX9_rule_53 (by decide) ?_
          obtain rfl := ht5
          exact hJ1
        · have hf5 := ite_t (b2i_nz hc5) hf4
          refine tw_iconst (v := 1) C dX9_rule_49 (by decide) ?_
          refine tw_goto (tgt := 54) C dX9_rule_50 (by decide) ?_
          obtain rfl := hf5
          exact hJ1
    · have hf3 := ite_t hc3 ht2
      refine tw_iload_n (i := 2) (z := 2) C dX9_rule_21 rfl rfl ?_
      refine tw_aload_n (i := 0) (z := 0) (r := (9, 0)) C dX9_rule_22 rfl rfl ?_
      refine tw_getI C fl_RX9_68 rfl (wcells_mem (f := 9) (j := 0) (by decide) (by decide)) rfl dX9_rule_23 ?_
      refine tw_bipush (v := 9) C dX9_rule_26 (by decide) ?_
      refine tw_callS (As := [.int a2, .int (σ (9, 0) 33), .int (9 : Int32)]) (rest := []) C hR (kX9_in K.1 _ (by omega) σ a2 (σ (9, 0) 33) (9 : Int32)  rfl) mi_X9_in st_X9_in ml_RX9_106 rfl rfl (Nat.le_of_ble_eq_true rfl) dX9_rule_28 ?_
      show TW K 31 [(0, rv K (9, 0)), (1, .int a1), (2, .int a2)] [.int (b2i (fX9_in a2 (σ (9, 0) 33) (9 : Int32)))] σ
      refine tw_goto (tgt := 54) C dX9_rule_31 (by decide) ?_
      obtain rfl := hf3
      exact hJ1
  · have hf2 := ite_t hc2 hx1
    refine tw_iload_n (i := 2) (z := 2) C dX9_rule_4 rfl rfl ?_
    refine tw_iconst (v := 1) C dX9_rule_5 (by decide) ?_
    refine tw_aload_n (i := 0) (z := 0) (r := (9, 0)) C dX9_rule_6 rfl rfl ?_
    refine tw_getI C fl_RX9_72 rfl (wcells_mem (f := 9) (j := 0) (by decide) (by decide)) rfl dX9_rule_7 ?_
    refine tw_callS (As := [.int a2, .int (1 : Int32), .int (σ (9, 0) 34)]) (rest := []) C hR (kX9_in K.1 _ (by omega) σ a2 (1 : Int32) (σ (9, 0) 34)  rfl) mi_X9_in st_X9_in ml_RX9_106 rfl rfl (Nat.le_of_ble_eq_true rfl) dX9_rule_10 ?_
    show TW K 13 [(0, rv K (9, 0)), (1, .int a1), (2, .int a2)] [.int (b2i (fX9_in a2 (1 : Int32) (σ (9, 0) 34)))] σ
    refine tw_goto (tgt := 54) C dX9_rule_13 (by decide) ?_
    obtain rfl := hf2
    exact hJ1

set_option maxRecDepth 20000 in
def fX9_law (σ : St) (a1 : Int32) : Option (Int32) :=
  if (fX9_in a1 (0 : Int32) (16 : Int32)) = true then
    grd (inb a1 17) (
    some (σ (47, 0) (tn a1)))
  else
    some (-2 : Int32)
set_option maxRecDepth 20000 in
set_option maxHeartbeats 4000000 in
theorem kX9_law (G : Gx) (d : Nat) (hdp : 2 ≤ d) (σ : St) (a1 : Int32)  {v0 : Int32} (h : fX9_law σ a1 = some v0) : MS G d yX9_law cX9_law 2 (some .int) [.ref (G.2.1 (9, 0)), .int a1] σ (some (.int v0)) σ := by
  refine MS_of (by decide) (Nat.le_of_ble_eq_true rfl) rfl (fun K hG hnL C hR hK => ?_) (by omega)
  subst hG
  show TW K 0 [(0, rv K (9, 0)), (1, .int a1)] [] σ
  unfold fX9_law at h
  refine tw_iload_n (i := 1) (z := 1) C dX9_law_0 rfl rfl ?_
  refine tw_iconst (v := 0) C dX9_law_1 (by decide) ?_
  refine tw_bipush (v := 16) C dX9_law_2 (by decide) ?_
  refine tw_callS (As := [.int a1, .int (0 : Int32), .int (16 : Int32)]) (rest := []) C hR (kX9_in K.1 _ (by omega) σ a1 (0 : Int32) (16 : Int32)  rfl) mi_X9_in st_X9_in ml_RX9_106 rfl rfl (Nat.le_of_ble_eq_true rfl) dX9_law_4 ?_
  show TW K 7 [(0, rv K (9, 0)), (1, .int a1)] [.int (b2i (fX9_in a1 (0 : Int32) (16 : Int32)))] σ
  refine tw_if_eq (tgt := 19) C dX9_law_7 (by decide) (fun hc1 => ?_) (fun hc1 => ?_)
  · have ht1 := ite_f (b2i_z hc1) h
    refine tw_bipush (v := (-2)) C dX9_law_19 (by decide) ?_
    obtain rfl := (Option.some.inj ht1)
    exact tw_iret C hK rfl rfl dX9_law_21
  · have hf1 := ite_t (b2i_nz hc1) h
    refine tw_aload_n (i := 0) (z := 0) (r := (9, 0)) C dX9_law_10 rfl rfl ?_
    refine tw_getR (g := 47) (z := 0) (j' := 0) C fl_RX9_65 rfl (wcells_mem (f := 9) (j := 0) (by decide) (by decide)) rfl rfl dX9_law_11 ?_
    refine tw_iload_n (i := 1) (z := 1) C dX9_law_14 rfl rfl ?_
    obtain ⟨hb2, eh2⟩ := grd_some hf1
    refine tw_iald (r := (47, 0)) C (ia_of rfl (by decide)) hb2 dX9_law_15 ?_
    refine tw_goto (tgt := 21) C dX9_law_16 (by decide) ?_
    obtain rfl := (Option.some.inj eh2)
    exact tw_iret C hK rfl rfl dX9_law_21

set_option maxRecDepth 20000 in
def fX9_enact (σ : St) (a1 : Int32) : Option (Int32 × St) :=
  if (fX9_isCode a1) = true then
    lpF (fun (q2 : Int32 × St) => match q2 with
    | (x1, σ1) =>
    if (17 : Int32) ≤ x1 then
      some (.inr (((1 : Int32), σ1)))
    else
      obi (fX9_itemOf σ1 a1 x1) (fun (x2, σ2) =>
      grd (inb x1 17) (bnd (su σ2 (47, 0) (tn x1) x2) (fun σ3 =>
      bnd (x1 + 1) (fun x3 =>
      some (.inl (x3, σ3))))))) ((0 : Int32), σ)
  else
    some ((-2 : Int32), σ)
set_option maxRecDepth 20000 in
set_option maxHeartbeats 4000000 in
theorem kX9_enact (G : Gx) (d : Nat) (hdp : 7 ≤ d) (σ : St) (a1 : Int32)  {v0 : Int32} {σ' : St} (h : fX9_enact σ a1 = some (v0, σ')) : MS G d yX9_enact cX9_enact 3 (some .int) [.ref (G.2.1 (9, 0)), .int a1] σ (some (.int v0)) σ' := by
  refine MS_of (by decide) (Nat.le_of_ble_eq_true rfl) rfl (fun K hG hnL C hR hK => ?_) (by omega)
  subst hG
  show TW K 0 [(0, rv K (9, 0)), (1, .int a1)] [] σ
  unfold fX9_enact at h
  refine tw_iload_n (i := 1) (z := 1) C dX9_enact_0 rfl rfl ?_
  refine tw_callS (As := [.int a1]) (rest := []) C hR (kX9_isCode K.1 _ (by omega) σ a1  rfl) mi_X9_isCode st_X9_isCode ml_RX9_110 rfl rfl (Nat.le_of_ble_eq_true rfl) dX9_enact_1 ?_
  show TW K 4 [(0, rv K (9, 0)), (1, .int a1)] [.int (b2i (fX9_isCode a1))] σ
  refine tw_if_ne (tgt := 10) C dX9_enact_4 (by decide) (fun hc1 => ?_) (fun hc1 => ?_)
  · have ht1 := ite_t (b2i_nz hc1) h
    refine tw_iconst (v := 0) C dX9_enact_10 (by decide) ?_
    refine tw_istore_n (lv' := [(0, rv K (9, 0)), (1, .int a1), (2, .int (0 : Int32))]) C [1, 2, 0] dX9_enact_11 rfl (by rw [hnL]; decide) rfl ?_
    refine lpF_ct (G := fun (q : Int32 × St) => match q with | (x1, σ1) => TW K 12 [(0, rv K (9, 0)), (1, .int a1), (2, .int x1)] [] σ1) ?_ ht1
    rintro ⟨x1, σ1⟩ w2 hx2 hk2
    show TW K 12 [(0, rv K (9, 0)), (1, .int a1), (2, .int x1)] [] σ1
    refine tw_iload_n (i := 2) (z := 2) C dX9_enact_12 rfl rfl ?_
    refine tw_bipush (v := 17) C dX9_enact_13 (by decide) ?_
    refine tw_ic_ge (tgt := 36) C dX9_enact_15 (by decide) (fun hc3 => ?_) (fun hc3 => ?_)
    · have ht3 := ite_t hc3 hx2
      refine tw_iconst (v := 1) C dX9_enact_36 (by decide) ?_
      have e4 := lp_x ht3 hk2
      obtain ⟨rfl, rfl⟩ := pj2 (Option.some.inj e4)
      exact tw_iret C hK rfl rfl dX9_enact_37
    · have hf3 := ite_f hc3 hx2
      refine tw_aload_n (i := 0) (z := 0) (r := (9, 0)) C dX9_enact_18 rfl rfl ?_
      refine tw_getR (g := 47) (z := 0) (j' := 0) C fl_RX9_65 rfl (wcells_mem (f := 9) (j := 0) (by decide) (by decide)) rfl rfl dX9_enact_19 ?_
      refine tw_iload_n (i := 2) (z := 2) C dX9_enact_22 rfl rfl ?_
      refine tw_aload_n (i := 0) (z := 0) (r := (9, 0)) C dX9_enact_23 rfl rfl ?_
      refine tw_iload_n (i := 1) (z := 1) C dX9_enact_24 rfl rfl ?_
      refine tw_iload_n (i := 2) (z := 2) C dX9_enact_25 rfl rfl ?_
      obtain ⟨⟨x2, σ2⟩, hv5, eh5⟩ := obi_some hf3
      refine tw_callV (As := [.int a1, .int x1]) (rest := [.int x1, rv K (47, 0)]) (r := (9, 0)) C hR (kX9_itemOf K.1 _ (by omega) _ a1 x1  hv5) mi_X9_itemOf is_X9_itemOf se_X9_itemOf ml_RX9_147 (wcells_mem (f := 9) (j := 0) (by decide) (by decide)) rfl rfl rfl rfl (Nat.le_of_ble_eq_true rfl) dX9_enact_26 ?_
      show TW K 29 [(0, rv K (9, 0)), (1, .int a1), (2, .int x1)] [.int x2, .int x1, rv K (47, 0)] σ2
      obtain ⟨hb6, eh6⟩ := grd_some eh5
      obtain ⟨σ3, es7, eg7⟩ := bnd_ex eh6
      refine tw_iast (r := (47, 0)) C (wa_of rfl (by decide) (by decide)) hb6 dX9_enact_29 ?_
      rw [es7]
      obtain ⟨x3, ex8, eh8⟩ := bnd_ex eg7
      refine tw_iinc (z := 2) (v := x3) (lv' := [(0, rv K (9, 0)), (1, .int a1), (2, .int x3)]) C [1, 2, 0] dX9_enact_30 rfl ex8 (by rw [hnL]; decide) rfl ?_
      refine tw_goto (tgt := 12) C dX9_enact_33 (by decide) ?_
      have hz := lp_c eh8 hk2
      exact hz
  · have hf1 := ite_f (b2i_z hc1) h
    refine tw_bipush (v := (-2)) C dX9_enact_7 (by decide) ?_
    obtain ⟨rfl, rfl⟩ := pj2 (Option.some.inj hf1)
    exact tw_iret C hK rfl rfl dX9_enact_9

