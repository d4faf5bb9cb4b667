set_option maxRecDepth 20000 in
def fX9_isMate (σ : St) (a1 : Int32) (a2 : Int32) (a3 : Int32) (a4 : Int32) : Option (Bool) :=
  bnd (a1 &&& ((((1 : Int32) <<< (a2 &&& 31)) ||| ((1 : Int32) <<< (a3 &&& 31))) ^^^ (-1 : Int32))) (fun x1 =>
  if ((a1 >>> (a3 &&& 31)) &&& (1 : Int32)) = (1 : Int32) then
    grd (inb (((12 : Int32) * a2) + a3) 144) (
    if a4 < (σ (48, 0) (tn (((12 : Int32) * a2) + a3))) then
      some false
    else
      grd (inb x1 4096) (
      if (σ (49, 0) (tn x1)) ≤ 0 then
        some false
      else
        grd (inb x1 4096) (
        grd (inb (((12 : Int32) * a2) + a3) 144) (
        grd (inb a1 4096) (
        if ((σ (50, 0) (tn x1)) + (σ (48, 0) (tn (((12 : Int32) * a2) + a3)))) = (σ (50, 0) (tn a1)) then
          some true
        else
          some false)))))
  else
    some false)
set_option maxRecDepth 20000 in
set_option maxHeartbeats 4000000 in
theorem kX9_isMate (G : Gx) (d : Nat) (hdp : 1 ≤ d) (σ : St) (a1 : Int32) (a2 : Int32) (a3 : Int32) (a4 : Int32)  {v0 : Bool} (h : fX9_isMate σ a1 a2 a3 a4 = some v0) : MS G d yX9_isMate cX9_isMate 6 (some .boolean) [.ref (G.2.1 (9, 0)), .int a1, .int a2, .int a3, .int a4] σ (some (.int (b2i v0))) σ := by
  refine MS_of (by decide) (Nat.le_of_ble_eq_true rfl) rfl (fun K hG hnL C hR hK => ?_) (by omega)
  subst hG
  show TW K 0 [(0, rv K (9, 0)), (1, .int a1), (2, .int a2), (3, .int a3), (4, .int a4)] [] σ
  unfold fX9_isMate at h
  refine tw_iload_n (i := 1) (z := 1) C dX9_isMate_0 rfl rfl ?_
  refine tw_iconst (v := 1) C dX9_isMate_1 (by decide) ?_
  refine tw_iload_n (i := 2) (z := 2) C dX9_isMate_2 rfl rfl ?_
  refine tw_ishl C dX9_isMate_3 ?_
  refine tw_iconst (v := 1) C dX9_isMate_4 (by decide) ?_
  refine tw_iload_n (i := 3) (z := 3) C dX9_isMate_5 rfl rfl ?_
  refine tw_ishl C dX9_isMate_6 ?_
  refine tw_ior C dX9_isMate_7 ?_
  refine tw_iconst (v := (-1)) C dX9_isMate_8 (by decide) ?_
  refine tw_ixor C dX9_isMate_9 ?_
  refine tw_iand C dX9_isMate_10 ?_
  obtain ⟨x1, ex1, eh1⟩ := bnd_ex h
  refine tw_topi ex1.symm ?_
  refine tw_istore (lv' := [(0, rv K (9, 0)), (1, .int a1), (2, .int a2), (3, .int a3), (4, .int a4), (5, .int x1)]) C [1, 2, 3, 4, 5, 0] dX9_isMate_11 (by rw [hnL]; decide) rfl ?_
  refine tw_iload_n (i := 1) (z := 1) C dX9_isMate_13 rfl rfl ?_
  refine tw_iload_n (i := 3) (z := 3) C dX9_isMate_14 rfl rfl ?_
  refine tw_ishr C dX9_isMate_15 ?_
  refine tw_iconst (v := 1) C dX9_isMate_16 (by decide) ?_
  refine tw_iand C dX9_isMate_17 ?_
  refine tw_iconst (v := 1) C dX9_isMate_18 (by decide) ?_
  refine tw_ic_ne (tgt := 80) C dX9_isMate_19 (by decide) (fun hc2 => ?_) (fun hc2 => ?_)
  · have ht2 := ite_f hc2 eh1
    refine tw_iconst (v := 0) C dX9_isMate_80 (by decide) ?_
    obtain rfl := (Option.some.inj ht2)
    exact tw_zret C hK rfl rfl rfl dX9_isMate_81
  · have hf2 := ite_t hc2 eh1
    refine tw_aload_n (i := 0) (z := 0) (r := (9, 0)) C dX9_isMate_22 rfl rfl ?_
    refine tw_getR (g := 48) (z := 0) (j' := 0) C fl_RX9_78 rfl (wcells_mem (f := 9) (j := 0) (by decide) (by decide)) rfl rfl dX9_isMate_23 ?_
    refine tw_bipush (v := 12) C dX9_isMate_26 (by decide) ?_
    refine tw_iload_n (i := 2) (z := 2) C dX9_isMate_28 rfl rfl ?_
    refine tw_imul C dX9_isMate_29 ?_
    refine tw_iload_n (i := 3) (z := 3) C dX9_isMate_30 rfl rfl ?_
    refine tw_iadd C dX9_isMate_31 ?_
    obtain ⟨hb3, eh3⟩ := grd_some hf2
    refine tw_iald (r := (48, 0)) C (ia_of rfl (by decide)) hb3 dX9_isMate_32 ?_
    refine tw_iload (i := 4) (z := 4) C dX9_isMate_33 rfl ?_
    refine tw_ic_gt (tgt := 80) C dX9_isMate_35 (by decide) (fun hc4 => ?_) (fun hc4 => ?_)
    · have ht4 := ite_t hc4 eh3
      refine tw_iconst (v := 0) C dX9_isMate_80 (by decide) ?_
      obtain rfl := (Option.some.inj ht4)
      exact tw_zret C hK rfl rfl rfl dX9_isMate_81
    · have hf4 := ite_f hc4 eh3
      refine tw_aload_n (i := 0) (z := 0) (r := (9, 0)) C dX9_isMate_38 rfl rfl ?_
      refine tw_getR (g := 49) (z := 0) (j' := 0) C fl_RX9_81 rfl (wcells_mem (f := 9) (j := 0) (by decide) (by decide)) rfl rfl dX9_isMate_39 ?_
      refine tw_iload (i := 5) (z := 5) C dX9_isMate_42 rfl ?_
      obtain ⟨hb5, eh5⟩ := grd_some hf4
      refine tw_iald (r := (49, 0)) C (ia_of rfl (by decide)) hb5 dX9_isMate_44 ?_
      refine tw_if_le (tgt := 80) C dX9_isMate_45 (by decide) (fun hc6 => ?_) (fun hc6 => ?_)
      · have ht6 := ite_t hc6 eh5
        refine tw_iconst (v := 0) C dX9_isMate_80 (by decide) ?_
        obtain rfl := (Option.some.inj ht6)
        exact tw_zret C hK rfl rfl rfl dX9_isMate_81
      · have hf6 := ite_f hc6 eh5
        refine tw_aload_n (i := 0) (z := 0) (r := (9, 0)) C dX9_isMate_48 rfl rfl ?_
        refine tw_getR (g := 50) (z := 0) (j' := 0) C fl_RX9_84 rfl (wcells_mem (f := 9) (j := 0) (by decide) (by decide)) rfl rfl dX9_isMate_49 ?_
        refine tw_iload (i := 5) (z := 5) C dX9_isMate_52 rfl ?_
        obtain ⟨hb7, eh7⟩ := grd_some hf6
        refine tw_iald (r := (50, 0)) C (ia_of rfl (by decide)) hb7 dX9_isMate_54 ?_
        refine tw_aload_n (i := 0) (z := 0) (r := (9, 0)) C dX9_isMate_55 rfl rfl ?_
        refine tw_getR (g := 48) (z := 0) (j' := 0) C fl_RX9_78 rfl (wcells_mem (f := 9) (j := 0) (by decide) (by decide)) rfl rfl dX9_isMate_56 ?_
        refine tw_bipush (v := 12) C dX9_isMate_59 (by decide) ?_
        refine tw_iload_n (i := 2) (z := 2) C dX9_isMate_61 rfl rfl ?_
        refine tw_imul C dX9_isMate_62 ?_
        refine tw_iload_n (i := 3) (z := 3) C dX9_isMate_63 rfl rfl ?_
        refine tw_iadd C dX9_isMate_64 ?_
        obtain ⟨hb8, eh8⟩ := grd_some eh7
        refine tw_iald (r := (48, 0)) C (ia_of rfl (by decide)) hb8 dX9_isMate_65 ?_
        refine tw_iadd C dX9_isMate_66 ?_
        refine tw_aload_n (i := 0) (z := 0) (r := (9, 0)) C dX9_isMate_67 rfl rfl ?_
        refine tw_getR (g := 50) (z := 0) (j' := 0) C fl_RX9_84 rfl (wcells_mem (f := 9) (j := 0) (by decide) (by decide)) rfl rfl dX9_isMate_68 ?_
        refine tw_iload_n (i := 1) (z := 1) C dX9_isMate_71 rfl rfl ?_
        obtain ⟨hb9, eh9⟩ := grd_some eh8
        refine tw_iald (r := (50, 0)) C (ia_of rfl (by decide)) hb9 dX9_isMate_72 ?_
        refine tw_ic_ne (tgt := 80) C dX9_isMate_73 (by decide) (fun hc10 => ?_) (fun hc10 => ?_)
        · have ht10 := ite_f hc10 eh9
          refine tw_iconst (v := 0) C dX9_isMate_80 (by decide) ?_
          obtain rfl := (Option.some.inj ht10)
          exact tw_zret C hK rfl rfl rfl dX9_isMate_81
        · have hf10 := ite_t hc10 eh9
          refine tw_iconst (v := 1) C dX9_isMate_76 (by decide) ?_
          refine tw_goto (tgt := 81) C dX9_isMate_77 (by decide) ?_
          obtain rfl := (Option.some.inj hf10)
          exact tw_zret C hK rfl rfl rfl dX9_isMate_81

set_option maxRecDepth 20000 in
def fX9_mate (σ : St) (a1 : Int32) (a2 : Int32) (a3 : Int32) : Option (Int32 × St) :=
  obi (fX9_isCup σ a1 a2) (fun x1 =>
  if x1 = true then
    if (fX9_isClub σ a3) = true then
      if ((a1 >>> (a3 &&& 31)) &&& (1 : Int32)) = 0 then
        some ((-2 : Int32), σ)
      else
        obi (fX9_pairs σ a1 a2) (fun σ1 =>
        grd (inb a1 4096) (
        if (σ1 (49, 0) (tn a1)) = 0 then
          some ((-3 : Int32), σ1)
        else
          bj (lpF (fun (q9 : Int32) => match q9 with
          | x4 =>
          if x4 = 0 then
            some (.inr (.inl ((-3 : Int32), σ1)))
          else
            obi (fX9_lowest x4) (fun x5 =>
            bnd (x5 + (1 : Int32)) (fun x6 =>
            obi (lpF (fun (q16 : Int32) => match q16 with
            | x8 =>
            obi (fX9_isMate σ1 x4 x5 x8 a2) (fun x9 =>
            if x9 = true then
              some (.inr x8)
            else
              bnd (x8 + 1) (fun x10 =>
              some (.inl x10)))) x6) (fun x7 =>
            if a3 = x5 then
              some (.inr (.inr (x5, x7)))
            else
              if a3 = x7 then
                some (.inr (.inr (x5, x7)))
              else
                bnd (x4 &&& ((((1 : Int32) <<< (x5 &&& 31)) ||| ((1 : Int32) <<< (x7 &&& 31))) ^^^ (-1 : Int32))) (fun x11 =>
                some (.inl x11)))))) a1) (fun (x2, x3) =>
          if a3 = x2 then
            some (x3, σ1)
          else
            some (x2, σ1))))
    else
      some ((-2 : Int32), σ)
  else
    some ((-2 : Int32), σ))
set_option maxRecDepth 20000 in
set_option maxHeartbeats 4000000 in
theorem kX9_mate (G : Gx) (d : Nat) (hdp : 3 ≤ d) (σ : St) (a1 : Int32) (a2 : Int32) (a3 : Int32)  {v0 : Int32} {σ' : St} (h : fX9_mate σ a1 a2 a3 = some (v0, σ')) : MS G d yX9_mate cX9_mate 7 (some .int) [.ref (G.2.1 (9, 0)), .int a1, .int a2, .int a3] σ (some (.int v0)) σ' := by
  refine MS_of (by decide) (Nat.le_of_ble_eq_true rfl) rfl (fun K hG hnL C hR hK => ?_) (by omega)
  subst hG
  show TW K 0 [(0, rv K (9, 0)), (1, .int a1), (2, .int a2), (3, .int a3)] [] σ
  unfold fX9_mate at h
  refine tw_aload_n (i := 0) (z := 0) (r := (9, 0)) C dX9_mate_0 rfl rfl ?_
  refine tw_iload_n (i := 1) (z := 1) C dX9_mate_1 rfl rfl ?_
  refine tw_iload_n (i := 2) (z := 2) C dX9_mate_2 rfl rfl ?_
  obtain ⟨x1, hv1, eh1⟩ := obi_some h
  refine tw_callV (As := [.int a1, .int a2]) (rest := []) (r := (9, 0)) C hR (kX9_isCup K.1 _ (by omega) σ a1 a2  hv1) mi_X9_isCup is_X9_isCup se_X9_isCup ml_RX9_308 (wcells_mem (f := 9) (j := 0) (by decide) (by decide)) rfl rfl rfl rfl (Nat.le_of_ble_eq_true rfl) dX9_mate_3 ?_
  show TW K 6 [(0, rv K (9, 0)), (1, .int a1), (2, .int a2), (3, .int a3)] [.int (b2i x1)] σ
  refine tw_if_eq (tgt := 25) C dX9_mate_6 (by decide) (fun hc2 => ?_) (fun hc2 => ?_)
  · have ht2 := ite_f (b2i_z hc2) eh1
    refine tw_bipush (v := (-2)) C dX9_mate_25 (by decide) ?_
    obtain ⟨rfl, rfl⟩ := pj2 (Option.some.inj ht2)
    exact tw_iret C hK rfl rfl dX9_mate_27
  · have hf2 := ite_t (b2i_nz hc2) eh1
    refine tw_aload_n (i := 0) (z := 0) (r := (9, 0)) C dX9_mate_9 rfl rfl ?_
    refine tw_iload_n (i := 3) (z := 3) C dX9_mate_10 rfl rfl ?_
    refine tw_callV (As := [.int a3]) (rest := []) (r := (9, 0)) C hR (kX9_isClub K.1 _ (by omega) σ a3  rfl) mi_X9_isClub is_X9_isClub se_X9_isClub ml_RX9_281 (wcells_mem (f := 9) (j := 0) (by decide) (by decide)) rfl rfl rfl rfl (Nat.le_of_ble_eq_true rfl) dX9_mate_11 ?_
    show TW K 14 [(0, rv K (9, 0)), (1, .int a1), (2, .int a2), (3, .int a3)] [.int (b2i (fX9_isClub σ a3))] σ
    refine tw_if_eq (tgt := 25) C dX9_mate_14 (by decide) (fun hc3 => ?_) (fun hc3 => ?_)
    · have ht3 := ite_f (b2i_z hc3) hf2
      refine tw_bipush (v := (-2)) C dX9_mate_25 (by decide) ?_
      obtain ⟨rfl, rfl⟩ := pj2 (Option.some.inj ht3)
      exact tw_iret C hK rfl rfl dX9_mate_27
    · have hf3 := ite_t (b2i_nz hc3) hf2
      refine tw_iload_n (i := 1) (z := 1) C dX9_mate_17 rfl rfl ?_
      refine tw_iload_n (i := 3) (z := 3) C dX9_mate_18 rfl rfl ?_
      refine tw_ishr C dX9_mate_19 ?_
      refine tw_iconst (v := 1) C dX9_mate_20 (by decide) ?_
      refine tw_iand C dX9_mate_21 ?_
      refine tw_if_ne (tgt := 28) C dX9_mate_22 (by decide) (fun hc4 => ?_) (fun hc4 => ?_)
      · have ht4 := ite_f hc4 hf3
        refine tw_aload_n (i := 0) (z := 0) (r := (9, 0)) C dX9_mate_28 rfl rfl ?_
        refine tw_iload_n (i := 1) (z := 1) C dX9_mate_29 rfl rfl ?_
        refine tw_iload_n (i := 2) (z := 2) C dX9_mate_30 rfl rfl ?_
        obtain ⟨σ1, hv5, eh5⟩ := obi_some ht4
        refine tw_callV (As := [.int a1, .int a2]) (rest := []) (r := (9, 0)) C hR (kX9_pairs K.1 _ (by omega) _ a1 a2  hv5) mi_X9_pairs is_X9_pairs se_X9_pairs ml_RX9_311 (wcells_mem (f := 9) (j := 0) (by decide) (by decide)) rfl rfl rfl rfl (Nat.le_of_ble_eq_true rfl) dX9_mate_31 ?_
        show TW K 34 [(0, rv K (9, 0)), (1, .int a1), (2, .int a2), (3, .int a3)] [] σ1
        refine tw_aload_n (i := 0) (z := 0) (r := (9, 0)) C dX9_mate_34 rfl rfl ?_
        refine tw_getR (g := 49) (z := 0) (j' := 0) C fl_RX9_81 rfl (wcells_mem (f := 9) (j := 0) (by decide) (by decide)) rfl rfl dX9_mate_35 ?_
        refine tw_iload_n (i := 1) (z := 1) C dX9_mate_38 rfl rfl ?_
        obtain ⟨hb6, eh6⟩ := grd_some eh5
        refine tw_iald (r := (49, 0)) C (ia_of rfl (by decide)) hb6 dX9_mate_39 ?_
        refine tw_if_ne (tgt := 46) C dX9_mate_40 (by decide) (fun hc7 => ?_) (fun hc7 => ?_)
        · have ht7 := ite_f hc7 eh6
          refine tw_iload_n (i := 1) (z := 1) C dX9_mate_46 rfl rfl ?_
          refine tw_istore (lv' := [(0, rv K (9, 0)), (1, .int a1), (2, .int a2), (3, .int a3), (4, .int a1)]) C [1, 2, 3, 4, 0] dX9_mate_47 (by rw [hnL]; decide) rfl ?_
          obtain ⟨y8, hx8, hy8⟩ := bj_some ht7
          have hJ8 : ∀ (x2 : Int32) (x3 : Int32), y8 = .inr (x2, x3) → TW K 99 [(3, .int a3), (5, .int x2), (6, .int x3)] [] σ1 := by
            intro x2 x3 ey8
            have hq8 := bj_r ey8 hy8
            refine tw_iload_n (i := 3) (z := 0) C dX9_mate_99 rfl rfl ?_
            refine tw_iload (i := 5) (z := 1) C dX9_mate_100 rfl ?_
            refine tw_ic_ne (tgt := 110) C dX9_mate_102 (by decide) (fun hc26 => ?_) (fun hc26 => ?_)
            · have ht26 := ite_f hc26 hq8
              refine tw_iload (i := 5) (z := 1) C dX9_mate_110 rfl ?_
              obtain ⟨rfl, rfl⟩ := pj2 (Option.some.inj ht26)
              exact tw_iret C hK rfl rfl dX9_mate_112
            · have hf26 := ite_t hc26 hq8
              refine tw_iload (i := 6) (z := 2) C dX9_mate_105 rfl ?_
              refine tw_goto (tgt := 112) C dX9_mate_107 (by decide) ?_
              obtain ⟨rfl, rfl⟩ := pj2 (Option.some.inj hf26)
              exact tw_iret C hK rfl rfl dX9_mate_112
          refine tw_sub [0, 2, 3, 4] rfl ?_
          refine lpF_ct (G := fun (q : Int32) => match q with | x4 => TW K 49 [(0, rv K (9, 0)), (2, .int a2), (3, .int a3), (4, .int x4)] [] σ1) ?_ hx8
          rintro x4 w9 hx9 hk9
          show TW K 49 [(0, rv K (9, 0)), (2, .int a2), (3, .int a3), (4, .int x4)] [] σ1
          refine tw_iload (i := 4) (z := 3) C dX9_mate_49 rfl ?_
          refine tw_if_eq (tgt := 132) C dX9_mate_51 (by decide) (fun hc10 => ?_) (fun hc10 => ?_)
          · have ht10 := ite_t hc10 hx9
            refine tw_bipush (v := (-3)) C dX9_mate_132 (by decide) ?_
            have e11 := lp_x ht10 hk9
            have e12 := bj_l e11 hy8
            obtain ⟨rfl, rfl⟩ := pj2 (Option.some.inj e12)
            exact tw_iret C hK rfl rfl dX9_mate_134
          · have hf10 := ite_f hc10 hx9
            refine tw_iload (i := 4) (z := 3) C dX9_mate_54 rfl ?_
            obtain ⟨x5, hv13, eh13⟩ := obi_some hf10
            refine tw_callS (As := [.int x4]) (rest := []) C hR (kX9_lowest K.1 _ (by omega) σ1 x4  hv13) mi_X9_lowest st_X9_lowest ml_RX9_305 rfl rfl (Nat.le_of_ble_eq_true rfl) dX9_mate_56 ?_
            show TW K 59 [(0, rv K (9, 0)), (2, .int a2), (3, .int a3), (4, .int x4)] [.int x5] σ1
            refine tw_istore (lv' := [(0, rv K (9, 0)), (2, .int a2), (3, .int a3), (4, .int x4), (5, .int x5)]) C [1, 2, 3, 4, 0] dX9_mate_59 (by rw [hnL]; decide) rfl ?_
            refine tw_iload (i := 5) (z := 4) C dX9_mate_61 rfl ?_
            refine tw_iconst (v := 1) C dX9_mate_63 (by decide) ?_
            refine tw_iadd C dX9_mate_64 ?_
            obtain ⟨x6, ex14, eh14⟩ := bnd_ex eh13
            refine tw_topi ex14.symm ?_
            refine tw_istore (lv' := [(0, rv K (9, 0)), (2, .int a2), (3, .int a3), (4, .int x4), (5, .int x5), (6, .int x6)]) C [1, 2, 3, 4, 5, 0] dX9_mate_65 (by rw [hnL]; decide) rfl ?_
            obtain ⟨x7, hx15, hq15⟩ := obi_some eh14
            have hJ15 : TW K 87 [(0, rv K (9, 0)), (2, .int a2), (3, .int a3), (4, .int x4), (5, .int x5), (6, .int x7)] [] σ1 := by
              refine tw_iload_n (i := 3) (z := 2) C dX9_mate_87 rfl rfl ?_
              refine tw_iload (i := 5) (z := 4) C dX9_mate_88 rfl ?_
              refine tw_ic_eq (tgt := 99) C dX9_mate_90 (by decide) (fun hc21 => ?_) (fun hc21 => ?_)
              · have ht21 := ite_t hc21 hq15
                refine tw_sub [2, 4, 5] rfl ?_
                have e22 := lp_x ht21 hk9
                exact hJ8 _ _ (Option.some.inj e22).symm
              · have hf21 := ite_f hc21 hq15
                refine tw_iload_n (i := 3) (z := 2) C dX9_mate_93 rfl rfl ?_
                refine tw_iload (i := 6) (z := 5) C dX9_mate_94 rfl ?_
                refine tw_ic_ne (tgt := 113) C dX9_mate_96 (by decide) (fun hc23 => ?_) (fun hc23 => ?_)
                · have ht23 := ite_f hc23 hf21
                  refine tw_iload (i := 4) (z := 3) C dX9_mate_113 rfl ?_
                  refine tw_iconst (v := 1) C dX9_mate_115 (by decide) ?_
                  refine tw_iload (i := 5) (z := 4) C dX9_mate_116 rfl ?_
                  refine tw_ishl C dX9_mate_118 ?_
                  refine tw_iconst (v := 1) C dX9_mate_119 (by decide) ?_
                  refine tw_iload (i := 6) (z := 5) C dX9_mate_120 rfl ?_
                  refine tw_ishl C dX9_mate_122 ?_
                  refine tw_ior C dX9_mate_123 ?_
                  refine tw_iconst (v := (-1)) C dX9_mate_124 (by decide) ?_
                  refine tw_ixor C dX9_mate_125 ?_
                  refine tw_iand C dX9_mate_126 ?_
                  obtain ⟨x11, ex24, eh24⟩ := bnd_ex ht23
                  refine tw_topi ex24.symm ?_
                  refine tw_istore (lv' := [(0, rv K (9, 0)), (2, .int a2), (3, .int a3), (4, .int x11), (5, .int x5), (6, .int x7)]) C [1, 2, 3, 0, 4, 5] dX9_mate_127 (by rw [hnL]; decide) rfl ?_
                  refine tw_goto (tgt := 49) C dX9_mate_129 (by decide) ?_
                  refine tw_sub [0, 1, 2, 3] rfl ?_
                  have hz := lp_c eh24 hk9
                  exact hz
                · have hf23 := ite_t hc23 hf21
                  refine tw_sub [2, 4, 5] rfl ?_
                  have e25 := lp_x hf23 hk9
                  exact hJ8 _ _ (Option.some.inj e25).symm
            refine lpF_ct (G := fun (q : Int32) => match q with | x8 => TW K 67 [(0, rv K (9, 0)), (2, .int a2), (3, .int a3), (4, .int x4), (5, .int x5), (6, .int x8)] [] σ1) ?_ hx15
            rintro x8 w16 hx16 hk16
            show TW K 67 [(0, rv K (9, 0)), (2, .int a2), (3, .int a3), (4, .int x4), (5, .int x5), (6, .int x8)] [] σ1
            refine tw_aload_n (i := 0) (z := 0) (r := (9, 0)) C dX9_mate_67 rfl rfl ?_
            refine tw_iload (i := 4) (z := 3) C dX9_mate_68 rfl ?_
            refine tw_iload (i := 5) (z := 4) C dX9_mate_70 rfl ?_
            refine tw_iload (i := 6) (z := 5) C dX9_mate_72 rfl ?_
            refine tw_iload_n (i := 2) (z := 1) C dX9_mate_74 rfl rfl ?_
            obtain ⟨x9, hv17, eh17⟩ := obi_some hx16
            refine tw_callV (As := [.int x4, .int x5, .int x8, .int a2]) (rest := []) (r := (9, 0)) C hR (kX9_isMate K.1 _ (by omega) σ1 x4 x5 x8 a2  hv17) mi_X9_isMate is_X9_isMate se_X9_isMate ml_RX9_314 (wcells_mem (f := 9) (j := 0) (by decide) (by decide)) rfl rfl rfl rfl (Nat.le_of_ble_eq_true rfl) dX9_mate_75 ?_
            show TW K 78 [(0, rv K (9, 0)), (2, .int a2), (3, .int a3), (4, .int x4), (5, .int x5), (6, .int x8)] [.int (b2i x9)] σ1
            refine tw_if_ne (tgt := 87) C dX9_mate_78 (by decide) (fun hc18 => ?_) (fun hc18 => ?_)
            · have ht18 := ite_t (b2i_nz hc18) eh17
              have e19 := lp_x ht18 hk16
              obtain rfl := (Option.some.inj e19)
              exact hJ15
            · have hf18 := ite_f (b2i_z hc18) eh17
              obtain ⟨x10, ex20, eh20⟩ := bnd_ex hf18
              refine tw_iinc (z := 5) (v := x10) (lv' := [(0, rv K (9, 0)), (2, .int a2), (3, .int a3), (4, .int x4), (5, .int x5), (6, .int x10)]) C [1, 2, 3, 4, 5, 0] dX9_mate_81 rfl ex20 (by rw [hnL]; decide) rfl ?_
              refine tw_goto (tgt := 67) C dX9_mate_84 (by decide) ?_
              have hz := lp_c eh20 hk16
              exact hz
        · have hf7 := ite_t hc7 eh6
          refine tw_bipush (v := (-3)) C dX9_mate_43 (by decide) ?_
          obtain ⟨rfl, rfl⟩ := pj2 (Option.some.inj hf7)
          exact tw_iret C hK rfl rfl dX9_mate_45
      · have hf4 := ite_t hc4 hf3
        refine tw_bipush (v := (-2)) C dX9_mate_25 (by decide) ?_
        obtain ⟨rfl, rfl⟩ := pj2 (Option.some.inj hf4)
        exact tw_iret C hK rfl rfl dX9_mate_27

set_option maxRecDepth 20000 in
def fX9_cup (σ : St) (a1 : Int32) (a2 : Int32) : Option (Int32 × St) :=
  obi (fX9_isCup σ a1 a2) (fun x1 =>
  if x1 = true then
    obi (fX9_pairs σ a1 a2) (fun σ1 =>
    grd (inb a1 4096) (
    if (σ1 (49, 0) (tn a1)) = 0 then
      some ((-3 : Int32), σ1)
    else
      grd (inb a1 4096) (
      some (σ1 (50, 0) (tn a1), σ1))))
  else
    some ((-2 : Int32), σ))
set_option maxRecDepth 20000 in
set_option maxHeartbeats 4000000 in
theorem kX9_cup (G : Gx) (d : Nat) (hdp : 3 ≤ d) (σ : St) (a1 : Int32) (a2 : Int32)  {v0 : Int32} {σ' : St} (h : fX9_cup σ a1 a2 = some (v0, σ')) : MS G d yX9_cup cX9_cup 3 (some .int) [.ref (G.2.1 (9, 0)), .int a1, .int a2] σ (some (.int v0)) σ' := by
  refine MS_of (by decide) (Nat.le_of_ble_eq_true rfl) rfl (fun K hG hnL C hR hK => ?_) (by omega)
  subst hG
  show TW K 0 [(0, rv K (9, 0)), (1, .int a1), (2, .int a2)] [] σ
  unfold fX9_cup at h
  refine tw_aload_n (i := 0) (z := 0) (r := (9, 0)) C dX9_cup_0 rfl rfl ?_
  refine tw_iload_n (i := 1) (z := 1) C dX9_cup_1 rfl rfl ?_
  refine tw_iload_n (i := 2) (z := 2) C dX9_cup_2 rfl rfl ?_
  obtain ⟨x1, hv1, eh1⟩ := obi_some h
  refine tw_callV (As := [.int a1, .int a2]) (rest := []) (r := (9, 0)) C hR (kX9_isCup K.1 _ (by omega) σ a1 a2  hv1) mi_X9_isCup is_X9_isCup se_X9_isCup ml_RX9_308 (wcells_mem (f := 9) (j := 0) (by decide) (by decide)) rfl rfl rfl rfl (Nat.le_of_ble_eq_true rfl) dX9_cup_3 ?_
  show TW K 6 [(0, rv K (9, 0)), (1, .int a1), (2, .int a2)] [.int (b2i x1)] σ
  refine tw_if_ne (tgt := 12) C dX9_cup_6 (by decide) (fun hc2 => ?_) (fun hc2 => ?_)
  · have ht2 := ite_t (b2i_nz hc2) eh1
    refine tw_aload_n (i := 0) (z := 0) (r := (9, 0)) C dX9_cup_12 rfl rfl ?_
    refine tw_iload_n (i := 1) (z := 1) C dX9_cup_13 rfl rfl ?_
    refine tw_iload_n (i := 2) (z := 2) C dX9_cup_14 rfl rfl ?_
    obtain ⟨σ1, hv3, eh3⟩ := obi_some ht2
    refine tw_callV (As := [.int a1, .int a2]) (rest := []) (r := (9, 0)) C hR (kX9_pairs K.1 _ (by omega) _ a1 a2  hv3) mi_X9_pairs is_X9_pairs se_X9_pairs ml_RX9_311 (wcells_mem (f := 9) (j := 0) (by decide) (by decide)) rfl rfl rfl rfl (Nat.le_of_ble_eq_true rfl) dX9_cup_15 ?_
    show TW K 18 [(0, rv K (9, 0)), (1, .int a1), (2, .int a2)] [] σ1
    refine tw_aload_n (i := 0) (z := 0) (r := (9, 0)) C dX9_cup_18 rfl rfl ?_
    refine tw_getR (g := 49) (z := 0) (j' := 0) C fl_RX9_81 rfl (wcells_mem (f := 9) (j := 0) (by decide) (by decide)) rfl rfl dX9_cup_19 ?_
    refine tw_iload_n (i := 1) (z := 1) C dX9_cup_22 rfl rfl ?_
    obtain ⟨hb4, eh4⟩ := grd_some eh3
    refine tw_iald (r := (49, 0)) C (ia_of rfl (by decide)) hb4 dX9_cup_23 ?_
    refine tw_if_ne (tgt := 32) C dX9_cup_24 (by decide) (fun hc5 => ?_) (fun hc5 => ?_)
    · have ht5 := ite_f hc5 eh4
      refine tw_aload_n (i := 0) (z := 0) (r := (9, 0)) C dX9_cup_32 rfl rfl ?_
      refine tw_getR (g := 50) (z := 0) (j' := 0) C fl_RX9_84 rfl (wcells_mem (f := 9) (j := 0) (by decide) (by decide)) rfl rfl dX9_cup_33 ?_
      refine tw_iload_n (i := 1) (z := 1) C dX9_cup_36 rfl rfl ?_
      obtain ⟨hb6, eh6⟩ := grd_some ht5
      refine tw_iald (r := (50, 0)) C (ia_of rfl (by decide)) hb6 dX9_cup_37 ?_
      obtain ⟨rfl, rfl⟩ := pj2 (Option.some.inj eh6)
      exact tw_iret C hK rfl rfl dX9_cup_38
    · have hf5 := ite_t hc5 eh4
      refine tw_bipush (v := (-3)) C dX9_cup_27 (by decide) ?_
      refine tw_goto (tgt := 38) C dX9_cup_29 (by decide) ?_
      obtain ⟨rfl, rfl⟩ := pj2 (Option.some.inj hf5)
      exact tw_iret C hK rfl rfl dX9_cup_38
  · have hf2 := ite_f (b2i_z hc2) eh1
    refine tw_bipush (v := (-2)) C dX9_cup_9 (by decide) ?_
    obtain ⟨rfl, rfl⟩ := pj2 (Option.some.inj hf2)
    exact tw_iret C hK rfl rfl dX9_cup_11

set_option maxRecDepth 20000 in
def fX9_sheet (σ : St) (a1 : Int32) (a2 : Int32) (a3 : Int32) : Option (Int32 × St) :=
  if (fX9_isSheet a1) = true then
    if (fX9_in a2 (0 : Int32) (2 : Int32)) = true then
      if a3 ≤ (60 : Int32) then
        if 0 ≤ a3 then
          grd (inb a1 4) (bnd (su σ (51, 0) (tn a1) (nbo (1 : Int32))) (fun σ1 =>
          grd (inb a1 4) (bnd (su σ1 (52, 0) (tn a1) a2) (fun σ2 =>
          grd (inb a1 4) (bnd (su σ2 (53, 0) (tn a1) a3) (fun σ3 =>
          lpF (fun (q11 : Int32 × St) => match q11 with
          | (x1, σ4) =>
          if (60 : Int32) ≤ x1 then
            some (.inr ((a3, σ4)))
          else
            grd (inb (((60 : Int32) * a1) + x1) 240) (bnd (su σ4 (54, 0) (tn (((60 : Int32) * a1) + x1)) (0 : Int32)) (fun σ5 =>
            bnd (x1 + 1) (fun x2 =>
            some (.inl (x2, σ5)))))) ((0 : Int32), σ3)))))))
        else
          bnd (fX9_meets σ (5 : Int32)) (fun (x3, σ6) =>
          some (x3, σ6))
      else
        some ((-2 : Int32), σ)
    else
      some ((-2 : Int32), σ)
  else
    some ((-2 : Int32), σ)
set_option maxRecDepth 20000 in
set_option maxHeartbeats 4000000 in
theorem kX9_sheet (G : Gx) (d : Nat) (hdp : 3 ≤ d) (σ : St) (a1 : Int32) (a2 : Int32) (a3 : Int32)  {v0 : Int32} {σ' : St} (h : fX9_sheet σ a1 a2 a3 = some (v0, σ')) : MS G d yX9_sheet cX9_sheet 5 (some .int) [.ref (G.2.1 (9, 0)), .int a1, .int a2, .int a3] σ (some (.int v0)) σ' := by
  refine MS_of (by decide) (Nat.le_of_ble_eq_true rfl) rfl (fun K hG hnL C hR hK => ?_) (by omega)
  subst hG
  show TW K 0 [(0, rv K (9, 0)), (1, .int a1), (2, .int a2), (3, .int a3)] [] σ
  unfold fX9_sheet at h
  refine tw_iload_n (i := 1) (z := 1) C dX9_sheet_0 rfl rfl ?_
  refine tw_callS (As := [.int a1]) (rest := []) C hR (kX9_isSheet K.1 _ (by omega) σ a1  rfl) mi_X9_isSheet st_X9_isSheet ml_RX9_196 rfl rfl (Nat.le_of_ble_eq_true rfl) dX9_sheet_1 ?_
  show TW K 4 [(0, rv K (9, 0)), (1, .int a1), (2, .int a2), (3, .int a3)] [.int (b2i (fX9_isSheet a1))] σ
  refine tw_if_eq (tgt := 22) C dX9_sheet_4 (by decide) (fun hc1 => ?_) (fun hc1 => ?_)
  · have ht1 := ite_f (b2i_z hc1) h
    refine tw_bipush (v := (-2)) C dX9_sheet_22 (by decide) ?_
    obtain ⟨rfl, rfl⟩ := pj2 (Option.some.inj ht1)
    exact tw_iret C hK rfl rfl dX9_sheet_24
  · have hf1 := ite_t (b2i_nz hc1) h
    refine tw_iload_n (i := 2) (z := 2) C dX9_sheet_7 rfl rfl ?_
    refine tw_iconst (v := 0) C dX9_sheet_8 (by decide) ?_
    refine tw_iconst (v := 2) C dX9_sheet_9 (by decide) ?_
    refine tw_callS (As := [.int a2, .int (0 : Int32), .int (2 : Int32)]) (rest := []) C hR (kX9_in K.1 _ (by omega) σ a2 (0 : Int32) (2 : Int32)  rfl) mi_X9_in st_X9_in ml_RX9_106 rfl rfl (Nat.le_of_ble_eq_true rfl) dX9_sheet_10 ?_
    show TW K 13 [(0, rv K (9, 0)), (1, .int a1), (2, .int a2), (3, .int a3)] [.int (b2i (fX9_in a2 (0 : Int32) (2 : Int32)))] σ
    refine tw_if_eq (tgt := 22) C dX9_sheet_13 (by decide) (fun hc2 => ?_) (fun hc2 => ?_)
    · have ht2 := ite_f (b2i_z hc2) hf1
      refine tw_bipush (v := (-2)) C dX9_sheet_22 (by decide) ?_
      obtain ⟨rfl, rfl⟩ := pj2 (Option.some.inj ht2)
      exact tw_iret C hK rfl rfl dX9_sheet_24
    · have hf2 := ite_t (b2i_nz hc2) hf1
      refine tw_iload_n (i := 3) (z := 3) C dX9_sheet_16 rfl rfl ?_
      refine tw_bipush (v := 60) C dX9_sheet_17 (by decide) ?_
      refine tw_ic_le (tgt := 25) C dX9_sheet_19 (by decide) (fun hc3 => ?_) (fun hc3 => ?_)
      · have ht3 := ite_t hc3 hf2
        refine tw_iload_n (i := 3) (z := 3) C dX9_sheet_25 rfl rfl ?_
        refine tw_if_ge (tgt := 35) C dX9_sheet_26 (by decide) (fun hc4 => ?_) (fun hc4 => ?_)
        · have ht4 := ite_t hc4 ht3
          refine tw_aload_n (i := 0) (z := 0) (r := (9, 0)) C dX9_sheet_35 rfl rfl ?_
          refine tw_getR (g := 51) (z := 0) (j' := 0) C fl_RX9_87 rfl (wcells_mem (f := 9) (j := 0) (by decide) (by decide)) rfl rfl dX9_sheet_36 ?_
          refine tw_iload_n (i := 1) (z := 1) C dX9_sheet_39 rfl rfl ?_
          refine tw_iconst (v := 1) C dX9_sheet_40 (by decide) ?_
          obtain ⟨hb5, eh5⟩ := grd_some ht4
          obtain ⟨σ1, es6, eg6⟩ := bnd_ex eh5
          refine tw_zast (r := (51, 0)) C rfl (wcells_mem (f := 51) (j := 0) (by decide) (by decide)) hb5 dX9_sheet_41 ?_
          rw [es6]
          refine tw_aload_n (i := 0) (z := 0) (r := (9, 0)) C dX9_sheet_42 rfl rfl ?_
          refine tw_getR (g := 52) (z := 0) (j' := 0) C fl_RX9_90 rfl (wcells_mem (f := 9) (j := 0) (by decide) (by decide)) rfl rfl dX9_sheet_43 ?_
          refine tw_iload_n (i := 1) (z := 1) C dX9_sheet_46 rfl rfl ?_
          refine tw_iload_n (i := 2) (z := 2) C dX9_sheet_47 rfl rfl ?_
          obtain ⟨hb7, eh7⟩ := grd_some eg6
          obtain ⟨σ2, es8, eg8⟩ := bnd_ex eh7
          refine tw_iast (r := (52, 0)) C (wa_of rfl (by decide) (by decide)) hb7 dX9_sheet_48 ?_
          rw [es8]
          refine tw_aload_n (i := 0) (z := 0) (r := (9, 0)) C dX9_sheet_49 rfl rfl ?_
          refine tw_getR (g := 53) (z := 0) (j' := 0) C fl_RX9_93 rfl (wcells_mem (f := 9) (j := 0) (by decide) (by decide)) rfl rfl dX9_sheet_50 ?_
          refine tw_iload_n (i := 1) (z := 1) C dX9_sheet_53 rfl rfl ?_
          refine tw_iload_n (i := 3) (z := 3) C dX9_sheet_54 rfl rfl ?_
          obtain ⟨hb9, eh9⟩ := grd_some eg8
          obtain ⟨σ3, es10, eg10⟩ := bnd_ex eh9
          refine tw_iast (r := (53, 0)) C (wa_of rfl (by decide) (by decide)) hb9 dX9_sheet_55 ?_
          rw [es10]
          refine tw_iconst (v := 0) C dX9_sheet_56 (by decide) ?_
          refine tw_istore (lv' := [(0, rv K (9, 0)), (1, .int a1), (2, .int a2), (3, .int a3), (4, .int (0 : Int32))]) C [1, 2, 3, 4, 0] dX9_sheet_57 (by rw [hnL]; decide) rfl ?_
          refine tw_sub [0, 1, 3, 4] rfl ?_
          refine lpF_ct (G := fun (q : Int32 × St) => match q with | (x1, σ4) => TW K 59 [(0, rv K (9, 0)), (1, .int a1), (3, .int a3), (4, .int x1)] [] σ4) ?_ eg10
          rintro ⟨x1, σ4⟩ w11 hx11 hk11
          show TW K 59 [(0, rv K (9, 0)), (1, .int a1), (3, .int a3), (4, .int x1)] [] σ4
          refine tw_iload (i := 4) (z := 3) C dX9_sheet_59 rfl ?_
          refine tw_bipush (v := 60) C dX9_sheet_61 (by decide) ?_
          refine tw_ic_ge (tgt := 85) C dX9_sheet_63 (by decide) (fun hc12 => ?_) (fun hc12 => ?_)
          · have ht12 := ite_t hc12 hx11
            refine tw_iload_n (i := 3) (z := 2) C dX9_sheet_85 rfl rfl ?_
            have e13 := lp_x ht12 hk11
            obtain ⟨rfl, rfl⟩ := pj2 (Option.some.inj e13)
            exact tw_iret C hK rfl rfl dX9_sheet_86
          · have hf12 := ite_f hc12 hx11
            refine tw_aload_n (i := 0) (z := 0) (r := (9, 0)) C dX9_sheet_66 rfl rfl ?_
            refine tw_getR (g := 54) (z := 0) (j' := 0) C fl_RX9_96 rfl (wcells_mem (f := 9) (j := 0) (by decide) (by decide)) rfl rfl dX9_sheet_67 ?_
            refine tw_bipush (v := 60) C dX9_sheet_70 (by decide) ?_
            refine tw_iload_n (i := 1) (z := 1) C dX9_sheet_72 rfl rfl ?_
            refine tw_imul C dX9_sheet_73 ?_
            refine tw_iload (i := 4) (z := 3) C dX9_sheet_74 rfl ?_
            refine tw_iadd C dX9_sheet_76 ?_
            refine tw_iconst (v := 0) C dX9_sheet_77 (by decide) ?_
            obtain ⟨hb14, eh14⟩ := grd_some hf12
            obtain ⟨σ5, es15, eg15⟩ := bnd_ex eh14
            refine tw_iast (r := (54, 0)) C (wa_of rfl (by decide) (by decide)) hb14 dX9_sheet_78 ?_
            rw [es15]
            obtain ⟨x2, ex16, eh16⟩ := bnd_ex eg15
            refine tw_iinc (z := 3) (v := x2) (lv' := [(0, rv K (9, 0)), (1, .int a1), (3, .int a3), (4, .int x2)]) C [1, 2, 3, 0] dX9_sheet_79 rfl ex16 (by rw [hnL]; decide) rfl ?_
            refine tw_goto (tgt := 59) C dX9_sheet_82 (by decide) ?_
            have hz := lp_c eh16 hk11
            exact hz
        · have hf4 := ite_f hc4 ht3
          refine tw_aload_n (i := 0) (z := 0) (r := (9, 0)) C dX9_sheet_29 rfl rfl ?_
          refine tw_iconst (v := 5) C dX9_sheet_30 (by decide) ?_
          obtain ⟨⟨x3, σ6⟩, hv17, eh17⟩ := bnd_ex hf4
          refine tw_callV (As := [.int (5 : Int32)]) (rest := []) (r := (9, 0)) C hR (kX9_meets K.1 _ (by omega) _ (5 : Int32)  hv17) mi_X9_meets is_X9_meets se_X9_meets ml_RX9_199 (wcells_mem (f := 9) (j := 0) (by decide) (by decide)) rfl rfl rfl rfl (Nat.le_of_ble_eq_true rfl) dX9_sheet_31 ?_
          show TW K 34 [(0, rv K (9, 0)), (1, .int a1), (2, .int a2), (3, .int a3)] [.int x3] σ6
          obtain ⟨rfl, rfl⟩ := pj2 (Option.some.inj eh17)
          exact tw_iret C hK rfl rfl dX9_sheet_34
      · have hf3 := ite_f hc3 hf2
        refine tw_bipush (v := (-2)) C dX9_sheet_22 (by decide) ?_
        obtain ⟨rfl, rfl⟩ := pj2 (Option.some.inj hf3)
        exact tw_iret C hK rfl rfl dX9_sheet_24

set_option maxRecDepth 20000 in
def fX9_lose (σ : St) (a1 : Int32) : Option (Int32 × St) :=
  if (fX9_isSheet a1) = true then
    grd (inb a1 4) (
    if (σ (51, 0) (tn a1)) = 0 then
      bnd (fX9_meets σ (1 : Int32)) (fun (x1, σ2) =>
      some (x1, σ2))
    else
      grd (inb a1 4) (bnd (su σ (51, 0) (tn a1) (nbo (0 : Int32))) (fun σ1 =>
      grd (inb a1 4) (
      some (σ1 (53, 0) (tn a1), σ1)))))
  else
    some ((-2 : Int32), σ)
set_option maxRecDepth 20000 in
set_option maxHeartbeats 4000000 in
theorem kX9_lose (G : Gx) (d : Nat) (hdp : 3 ≤ d) (σ : St) (a1 : Int32)  {v0 : Int32} {σ' : St} (h : fX9_lose σ a1 = some (v0, σ')) : MS G d yX9_lose cX9_lose 2 (some .int) [.ref (G.2.1 (9, 0)), .int a1] σ (some (.int v0)) σ' := by
  refine MS_of (by decide) (Nat.le_of_ble_eq_true rfl) rfl (fun K hG hnL C hR hK => ?_) (by omega)
  subst hG
  show TW K 0 [(0, rv K (9, 0)), (1, .int a1)] [] σ
  unfold fX9_lose at h
  refine tw_iload_n (i := 1) (z := 1) C dX9_lose_0 rfl rfl ?_
  refine tw_callS (As := [.int a1]) (rest := []) C hR (kX9_isSheet K.1 _ (by omega) σ a1  rfl) mi_X9_isSheet st_X9_isSheet ml_RX9_196 rfl rfl (Nat.le_of_ble_eq_true rfl) dX9_lose_1 ?_
  show TW K 4 [(0, rv K (9, 0)), (1, .int a1)] [.int (b2i (fX9_isSheet a1))] σ
  refine tw_if_ne (tgt := 10) C dX9_lose_4 (by decide) (fun hc1 => ?_) (fun hc1 => ?_)
  · have ht1 := ite_t (b2i_nz hc1) h
    refine tw_aload_n (i := 0) (z := 0) (r := (9, 0)) C dX9_lose_10 rfl rfl ?_
    refine tw_getR (g := 51) (z := 0) (j' := 0) C fl_RX9_87 rfl (wcells_mem (f := 9) (j := 0) (by decide) (by decide)) rfl rfl dX9_lose_11 ?_
    refine tw_iload_n (i := 1) (z := 1) C dX9_lose_14 rfl rfl ?_
    obtain ⟨hb2, eh2⟩ := grd_some ht1
    refine tw_zald (r := (51, 0)) C rfl (wcells_mem (f := 51) (j := 0) (by decide) (by decide)) hb2 dX9_lose_15 ?_
    refine tw_if_ne (tgt := 25) C dX9_lose_16 (by decide) (fun hc3 => ?_) (fun hc3 => ?_)
    · have ht3 := ite_f hc3 eh2
      refine tw_aload_n (i := 0) (z := 0) (r := (9, 0)) C dX9_lose_25 rfl rfl ?_
      refine tw_getR (g := 51) (z := 0) (j' := 0) C fl_RX9_87 rfl (wcells_mem (f := 9) (j := 0) (by decide) (by decide)) rfl rfl dX9_lose_26 ?_
      refine tw_iload_n (i := 1) (z := 1) C dX9_lose_29 rfl rfl ?_
      refine tw_iconst (v := 0) C dX9_lose_30 (by decide) ?_
      obtain ⟨hb4, eh4⟩ := grd_some ht3
      obtain ⟨σ1, es5, eg5⟩ := bnd_ex eh4
      refine tw_zast (r := (51, 0)) C rfl (wcells_mem (f := 51) (j := 0) (by decide) (by decide)) hb4 dX9_lose_31 ?_
      rw [es5]
      refine tw_aload_n (i := 0) (z := 0) (r := (9, 0)) C dX9_lose_32 rfl rfl ?_
      refine tw_getR (g := 53) (z := 0) (j' := 0) C fl_RX9_93 rfl (wcells_mem (f := 9) (j := 0) (by decide) (by decide)) rfl rfl dX9_lose_33 ?_
      refine tw_iload_n (i := 1) (z := 1) C dX9_lose_36 rfl rfl ?_
      obtain ⟨hb6, eh6⟩ := grd_some eg5
      refine tw_iald (r := (53, 0)) C (ia_of rfl (by decide)) hb6 dX9_lose_37 ?_
      obtain ⟨rfl, rfl⟩ := pj2 (Option.some.inj eh6)
      exact tw_iret C hK rfl rfl dX9_lose_38
    · have hf3 := ite_t hc3 eh2
      refine tw_aload_n (i := 0) (z := 0) (r := (9, 0)) C dX9_lose_19 rfl rfl ?_
      refine tw_iconst (v := 1) C dX9_lose_20 (by decide) ?_
      obtain ⟨⟨x1, σ2⟩, hv7, eh7⟩ := bnd_ex hf3
      refine tw_callV (As := [.int (1 : Int32)]) (rest := []) (r := (9, 0)) C hR (kX9_meets K.1 _ (by omega) _ (1 : Int32)  hv7) mi_X9_meets is_X9_meets se_X9_meets ml_RX9_199 (wcells_mem (f := 9) (j := 0) (by decide) (by decide)) rfl rfl rfl rfl (Nat.le_of_ble_eq_true rfl) dX9_lose_21 ?_
      show TW K 24 [(0, rv K (9, 0)), (1, .int a1)] [.int x1] σ2
      obtain ⟨rfl, rfl⟩ := pj2 (Option.some.inj eh7)
      exact tw_iret C hK rfl rfl dX9_lose_24
  · have hf1 := ite_f (b2i_z hc1) h
    refine tw_bipush (v := (-2)) C dX9_lose_7 (by decide) ?_
    obtain ⟨rfl, rfl⟩ := pj2 (Option.some.inj hf1)
    exact tw_iret C hK rfl rfl dX9_lose_9

set_option maxRecDepth 20000 in
def fX9_lacks (σ : St) (a1 : Int32) (a2 : Int32) (a3 : Int32) : Option (Int32) :=
  grd (inb a1 4) (
  if (σ (51, 0) (tn a1)) = 0 then
    some (1 : Int32)
  else
    grd (inb a1 4) (
    if (σ (52, 0) (tn a1)) = a2 then
      grd (inb a1 4) (
      if (fX9_in a3 (0 : Int32) ((σ (53, 0) (tn a1)) - (1 : Int32))) = true then
        some (0 : Int32)
      else
        some (2 : Int32))
    else
      some (3 : Int32)))
set_option maxRecDepth 20000 in
set_option maxHeartbeats 4000000 in
theorem kX9_lacks (G : Gx) (d : Nat) (hdp : 2 ≤ d) (σ : St) (a1 : Int32) (a2 : Int32) (a3 : Int32)  {v0 : Int32} (h : fX9_lacks σ a1 a2 a3 = some v0) : MS G d yX9_lacks cX9_lacks 4 (some .int) [.ref (G.2.1 (9, 0)), .int a1, .int a2, .int a3] σ (some (.int v0)) σ := by
  refine MS_of (by decide) (Nat.le_of_ble_eq_true rfl) rfl (fun K hG hnL C hR hK => ?_) (by omega)
  subst hG
  show TW K 0 [(0, rv K (9, 0)), (1, .int a1), (2, .int a2), (3, .int a3)] [] σ
  unfold fX9_lacks at h
  refine tw_aload_n (i := 0) (z := 0) (r := (9, 0)) C dX9_lacks_0 rfl rfl ?_
  refine tw_getR (g := 51) (z := 0) (j' := 0) C fl_RX9_87 rfl (wcells_mem (f := 9) (j := 0) (by decide) (by decide)) rfl rfl dX9_lacks_1 ?_
  refine tw_iload_n (i := 1) (z := 1) C dX9_lacks_4 rfl rfl ?_
  obtain ⟨hb1, eh1⟩ := grd_some h
  refine tw_zald (r := (51, 0)) C rfl (wcells_mem (f := 51) (j := 0) (by decide) (by decide)) hb1 dX9_lacks_5 ?_
  refine tw_if_ne (tgt := 13) C dX9_lacks_6 (by decide) (fun hc2 => ?_) (fun hc2 => ?_)
  · have ht2 := ite_f hc2 eh1
    refine tw_aload_n (i := 0) (z := 0) (r := (9, 0)) C dX9_lacks_13 rfl rfl ?_
    refine tw_getR (g := 52) (z := 0) (j' := 0) C fl_RX9_90 rfl (wcells_mem (f := 9) (j := 0) (by decide) (by decide)) rfl rfl dX9_lacks_14 ?_
    refine tw_iload_n (i := 1) (z := 1) C dX9_lacks_17 rfl rfl ?_
    obtain ⟨hb3, eh3⟩ := grd_some ht2
    refine tw_iald (r := (52, 0)) C (ia_of rfl (by decide)) hb3 dX9_lacks_18 ?_
    refine tw_iload_n (i := 2) (z := 2) C dX9_lacks_19 rfl rfl ?_
    refine tw_ic_eq (tgt := 27) C dX9_lacks_20 (by decide) (fun hc4 => ?_) (fun hc4 => ?_)
    · have ht4 := ite_t hc4 eh3
      refine tw_iload_n (i := 3) (z := 3) C dX9_lacks_27 rfl rfl ?_
      refine tw_iconst (v := 0) C dX9_lacks_28 (by decide) ?_
      refine tw_aload_n (i := 0) (z := 0) (r := (9, 0)) C dX9_lacks_29 rfl rfl ?_
      refine tw_getR (g := 53) (z := 0) (j' := 0) C fl_RX9_93 rfl (wcells_mem (f := 9) (j := 0) (by decide) (by decide)) rfl rfl dX9_lacks_30 ?_
      refine tw_iload_n (i := 1) (z := 1) C dX9_lacks_33 rfl rfl ?_
      obtain ⟨hb5, eh5⟩ := grd_some ht4
      refine tw_iald (r := (53, 0)) C (ia_of rfl (by decide)) hb5 dX9_lacks_34 ?_
      refine tw_iconst (v := 1) C dX9_lacks_35 (by decide) ?_
      refine tw_isub C dX9_lacks_36 ?_
      refine tw_callS (As := [.int a3, .int (0 : Int32), .int ((σ (53, 0) (tn a1)) - (1 : Int32))]) (rest := []) C hR (kX9_in K.1 _ (by omega) σ a3 (0 : Int32) ((σ (53, 0) (tn a1)) - (1 : Int32))  rfl) mi_X9_in st_X9_in ml_RX9_106 rfl rfl (Nat.le_of_ble_eq_true rfl) dX9_lacks_37 ?_
      show TW K 40 [(0, rv K (9, 0)), (1, .int a1), (2, .int a2), (3, .int a3)] [.int (b2i (fX9_in a3 (0 : Int32) ((σ (53, 0) (tn a1)) - (1 : Int32))))] σ
      refine tw_if_eq (tgt := 47) C dX9_lacks_40 (by decide) (fun hc6 => ?_) (fun hc6 => ?_)
      · have ht6 := ite_f (b2i_z hc6) eh5
        refine tw_iconst (v := 2) C dX9_lacks_47 (by decide) ?_
        obtain rfl := (Option.some.inj ht6)
        exact tw_iret C hK rfl rfl dX9_lacks_48
      · have hf6 := ite_t (b2i_nz hc6) eh5
        refine tw_iconst (v := 0) C dX9_lacks_43 (by decide) ?_
        refine tw_goto (tgt := 48) C dX9_lacks_44 (by decide) ?_
        obtain rfl := (Option.some.inj hf6)
        exact tw_iret C hK rfl rfl dX9_lacks_48
    · have hf4 := ite_f hc4 eh3
      refine tw_iconst (v := 3) C dX9_lacks_23 (by decide) ?_
      refine tw_goto (tgt := 48) C dX9_lacks_24 (by decide) ?_
      obtain rfl := (Option.some.inj hf4)
      exact tw_iret C hK rfl rfl dX9_lacks_48
  · have hf2 := ite_t hc2 eh1
    refine tw_iconst (v := 1) C dX9_lacks_9 (by decide) ?_
    refine tw_goto (tgt := 48) C dX9_lacks_10 (by decide) ?_
    obtain rfl := (Option.some.inj hf2)
    exact tw_iret C hK rfl rfl dX9_lacks_48

set_option maxRecDepth 20000 in
def fX9_keep (σ : St) (a1 : Int32) (a2 : Int32) (a3 : Int32) : Option (St) :=
  grd (inb a1 4) (
  obi (if (σ (52, 0) (tn a1)) = 0 then
    some (i2bb a3)
  else
    grd (inb a1 4) (
    if (σ (52, 0) (tn a1)) = (1 : Int32) then
      some (i2ss a3)
    else
      some a3)) (fun x1 =>
  grd (inb (((60 : Int32) * a1) + a2) 240) (bnd (su σ (54, 0) (tn (((60 : Int32) * a1) + a2)) x1) (fun σ1 =>
  some σ1))))
set_option maxRecDepth 20000 in
set_option maxHeartbeats 4000000 in
theorem kX9_keep (G : Gx) (d : Nat) (hdp : 1 ≤ d) (σ : St) (a1 : Int32) (a2 : Int32) (a3 : Int32)  {σ' : St} (h : fX9_keep σ a1 a2 a3 = some σ') : MS G d yX9_keep cX9_keep 4 none [.ref (G.2.1 (9, 0)), .int a1, .int a2, .int a3] σ none σ' := by
  refine MS_of (by decide) (Nat.le_of_ble_eq_true rfl) rfl (fun K hG hnL C hR hK => ?_) (by omega)
  subst hG
  show TW K 0 [(0, rv K (9, 0)), (1, .int a1), (2, .int a2), (3, .int a3)] [] σ
  unfold fX9_keep at h
  refine tw_aload_n (i := 0) (z := 0) (r := (9, 0)) C dX9_keep_0 rfl rfl ?_
  refine tw_getR (g := 54) (z := 0) (j' := 0) C fl_RX9_96 rfl (wcells_mem (f := 9) (j := 0) (by decide) (by decide)) rfl rfl dX9_keep_1 ?_
  refine tw_bipush (v := 60) C dX9_keep_4 (by decide) ?_
  refine tw_iload_n (i := 1) (z := 1) C dX9_keep_6 rfl rfl ?_
  refine tw_imul C dX9_keep_7 ?_
  refine tw_iload_n (i := 2) (z := 2) C dX9_keep_8 rfl rfl ?_
  refine tw_iadd C dX9_keep_9 ?_
  refine tw_aload_n (i := 0) (z := 0) (r := (9, 0)) C dX9_keep_10 rfl rfl ?_
  refine tw_getR (g := 52) (z := 0) (j' := 0) C fl_RX9_90 rfl (wcells_mem (f := 9) (j := 0) (by decide) (by decide)) rfl rfl dX9_keep_11 ?_
  refine tw_iload_n (i := 1) (z := 1) C dX9_keep_14 rfl rfl ?_
  obtain ⟨hb1, eh1⟩ := grd_some h
  refine tw_iald (r := (52, 0)) C (ia_of rfl (by decide)) hb1 dX9_keep_15 ?_
  obtain ⟨x1, hx2, hq2⟩ := obi_some eh1
  have hJ2 : TW K 40 [] [.int x1, .int (((60 : Int32) * a1) + a2), rv K (54, 0)] σ := by
    obtain ⟨hb6, eh6⟩ := grd_some hq2
    obtain ⟨σ1, es7, eg7⟩ := bnd_ex eh6
    refine tw_iast (r := (54, 0)) C (wa_of rfl (by decide) (by decide)) hb6 dX9_keep_40 ?_
    rw [es7]
    obtain rfl := (Option.some.inj eg7)
    exact tw_vret C hK rfl rfl dX9_keep_41
  refine tw_if_ne (tgt := 24) C dX9_keep_16 (by decide) (fun hc3 => ?_) (fun hc3 => ?_)
  · have ht3 := ite_f hc3 hx2
    refine tw_aload_n (i := 0) (z := 0) (r := (9, 0)) C dX9_keep_24 rfl rfl ?_
    refine tw_getR (g := 52) (z := 0) (j' := 0) C fl_RX9_90 rfl (wcells_mem (f := 9) (j := 0) (by decide) (by decide)) rfl rfl dX9_keep_25 ?_
    refine tw_iload_n (i := 1) (z := 1) C dX9_keep_28 rfl rfl ?_
    obtain ⟨hb4, eh4⟩ := grd_some ht3
    refine tw_iald (r := (52, 0)) C (ia_of rfl (by decide)) hb4 dX9_keep_29 ?_
    refine tw_iconst (v := 1) C dX9_keep_30 (by decide) ?_
    refine tw_ic_ne (tgt := 39) C dX9_keep_31 (by decide) (fun hc5 => ?_) (fun hc5 => ?_)
    · have ht5 := ite_f hc5 eh4
      refine tw_iload_n (i := 3) (z := 3) C dX9_keep_39 rfl rfl ?_
      refine tw_sub [] rfl ?_
      obtain rfl := (Option.some.inj ht5)
      exact hJ2
    · have hf5 := ite_t hc5 eh4
      refine tw_iload_n (i := 3) (z := 3) C dX9_keep_34 rfl rfl ?_
      refine tw_i2s C dX9_keep_35 ?_
      refine tw_goto (tgt := 40) C dX9_keep_36 (by decide) ?_
      refine tw_sub [] rfl ?_
      obtain rfl := (Option.some.inj hf5)
      exact hJ2
  · have hf3 := ite_t hc3 hx2
    refine tw_iload_n (i := 3) (z := 3) C dX9_keep_19 rfl rfl ?_
    refine tw_i2b C dX9_keep_20 ?_
    refine tw_goto (tgt := 40) C dX9_keep_21 (by decide) ?_
    refine tw_sub [] rfl ?_
    obtain rfl := (Option.some.inj hf3)
    exact hJ2

set_option maxRecDepth 20000 in
def fX9_lay (σ : St) (a1 : Int32) (a2 : Int32) (a3 : Int32) (a4 : Int32) : Option (Int32 × St) :=
  if (fX9_isSheet a1) = true then
    if (fX9_in a2 (0 : Int32) (2 : Int32)) = true then
      obi (fX9_lacks σ a1 a2 a3) (fun x1 =>
      if x1 ≤ 0 then
        obi (fX9_keep σ a1 a3 a4) (fun σ1 =>
        some ((1 : Int32), σ1))
      else
        bnd (fX9_meets σ x1) (fun (x2, σ2) =>
        some (x2, σ2)))
    else
      some ((-2 : Int32), σ)
  else
    some ((-2 : Int32), σ)
set_option maxRecDepth 20000 in
set_option maxHeartbeats 4000000 in
theorem kX9_lay (G : Gx) (d : Nat) (hdp : 3 ≤ d) (σ : St) (a1 : Int32) (a2 : Int32) (a3 : Int32) (a4 : Int32)  {v0 : Int32} {σ' : St} (h : fX9_lay σ a1 a2 a3 a4 = some (v0, σ')) : MS G d yX9_lay cX9_lay 6 (some .int) [.ref (G.2.1 (9, 0)), .int a1, .int a2, .int a3, .int a4] σ (some (.int v0)) σ' := by
  refine MS_of (by decide) (Nat.le_of_ble_eq_true rfl) rfl (fun K hG hnL C hR hK => ?_) (by omega)
  subst hG
  show TW K 0 [(0, rv K (9, 0)), (1, .int a1), (2, .int a2), (3, .int a3), (4, .int a4)] [] σ
  unfold fX9_lay at h
  refine tw_iload_n (i := 1) (z := 1) C dX9_lay_0 rfl rfl ?_
  refine tw_callS (As := [.int a1]) (rest := []) C hR (kX9_isSheet K.1 _ (by omega) σ a1  rfl) mi_X9_isSheet st_X9_isSheet ml_RX9_196 rfl rfl (Nat.le_of_ble_eq_true rfl) dX9_lay_1 ?_
  show TW K 4 [(0, rv K (9, 0)), (1, .int a1), (2, .int a2), (3, .int a3), (4, .int a4)] [.int (b2i (fX9_isSheet a1))] σ
  refine tw_if_eq (tgt := 16) C dX9_lay_4 (by decide) (fun hc1 => ?_) (fun hc1 => ?_)
  · have ht1 := ite_f (b2i_z hc1) h
    refine tw_bipush (v := (-2)) C dX9_lay_16 (by decide) ?_
    obtain ⟨rfl, rfl⟩ := pj2 (Option.some.inj ht1)
    exact tw_iret C hK rfl rfl dX9_lay_18
  · have hf1 := ite_t (b2i_nz hc1) h
    refine tw_iload_n (i := 2) (z := 2) C dX9_lay_7 rfl rfl ?_
    refine tw_iconst (v := 0) C dX9_lay_8 (by decide) ?_
    refine tw_iconst (v := 2) C dX9_lay_9 (by decide) ?_
    refine tw_callS (As := [.int a2, .int (0 : Int32), .int (2 : Int32)]) (rest := []) C hR (kX9_in K.1 _ (by omega) σ a2 (0 : Int32) (2 : Int32)  rfl) mi_X9_in st_X9_in ml_RX9_106 rfl rfl (Nat.le_of_ble_eq_true rfl) dX9_lay_10 ?_
    show TW K 13 [(0, rv K (9, 0)), (1, .int a1), (2, .int a2), (3, .int a3), (4, .int a4)] [.int (b2i (fX9_in a2 (0 : Int32) (2 : Int32)))] σ
    refine tw_if_ne (tgt := 19) C dX9_lay_13 (by decide) (fun hc2 => ?_) (fun hc2 => ?_)
    · have ht2 := ite_t (b2i_nz hc2) hf1
      refine tw_aload_n (i := 0) (z := 0) (r := (9, 0)) C dX9_lay_19 rfl rfl ?_
      refine tw_iload_n (i := 1) (z := 1) C dX9_lay_20 rfl rfl ?_
      refine tw_iload_n (i := 2) (z := 2) C dX9_lay_21 rfl rfl ?_
      refine tw_iload_n (i := 3) (z := 3) C dX9_lay_22 rfl rfl ?_
      obtain ⟨x1, hv3, eh3⟩ := obi_some ht2
      refine tw_callV (As := [.int a1, .int a2, .int a3]) (rest := []) (r := (9, 0)) C hR (kX9_lacks K.1 _ (by omega) σ a1 a2 a3  hv3) mi_X9_lacks is_X9_lacks se_X9_lacks ml_RX9_321 (wcells_mem (f := 9) (j := 0) (by decide) (by decide)) rfl rfl rfl rfl (Nat.le_of_ble_eq_true rfl) dX9_lay_23 ?_
      show TW K 26 [(0, rv K (9, 0)), (1, .int a1), (2, .int a2), (3, .int a3), (4, .int a4)] [.int x1] σ
      refine tw_istore (lv' := [(0, rv K (9, 0)), (1, .int a1), (2, .int a2), (3, .int a3), (4, .int a4), (5, .int x1)]) C [1, 2, 3, 4, 5, 0] dX9_lay_26 (by rw [hnL]; decide) rfl ?_
      refine tw_iload (i := 5) (z := 5) C dX9_lay_28 rfl ?_
      refine tw_if_le (tgt := 40) C dX9_lay_30 (by decide) (fun hc4 => ?_) (fun hc4 => ?_)
      · have ht4 := ite_t hc4 eh3
        refine tw_aload_n (i := 0) (z := 0) (r := (9, 0)) C dX9_lay_40 rfl rfl ?_
        refine tw_iload_n (i := 1) (z := 1) C dX9_lay_41 rfl rfl ?_
        refine tw_iload_n (i := 3) (z := 3) C dX9_lay_42 rfl rfl ?_
        refine tw_iload (i := 4) (z := 4) C dX9_lay_43 rfl ?_
        obtain ⟨σ1, hv5, eh5⟩ := obi_some ht4
        refine tw_callV (As := [.int a1, .int a3, .int a4]) (rest := []) (r := (9, 0)) C hR (kX9_keep K.1 _ (by omega) _ a1 a3 a4  hv5) mi_X9_keep is_X9_keep se_X9_keep ml_RX9_324 (wcells_mem (f := 9) (j := 0) (by decide) (by decide)) rfl rfl rfl rfl (Nat.le_of_ble_eq_true rfl) dX9_lay_45 ?_
        show TW K 48 [(0, rv K (9, 0)), (1, .int a1), (2, .int a2), (3, .int a3), (4, .int a4), (5, .int x1)] [] σ1
        refine tw_iconst (v := 1) C dX9_lay_48 (by decide) ?_
        obtain ⟨rfl, rfl⟩ := pj2 (Option.some.inj eh5)
        exact tw_iret C hK rfl rfl dX9_lay_49
      · have hf4 := ite_f hc4 eh3
        refine tw_aload_n (i := 0) (z := 0) (r := (9, 0)) C dX9_lay_33 rfl rfl ?_
        refine tw_iload (i := 5) (z := 5) C dX9_lay_34 rfl ?_
        obtain ⟨⟨x2, σ2⟩, hv6, eh6⟩ := bnd_ex hf4
        refine tw_callV (As := [.int x1]) (rest := []) (r := (9, 0)) C hR (kX9_meets K.1 _ (by omega) _ x1  hv6) mi_X9_meets is_X9_meets se_X9_meets ml_RX9_199 (wcells_mem (f := 9) (j := 0) (by decide) (by decide)) rfl rfl rfl rfl (Nat.le_of_ble_eq_true rfl) dX9_lay_36 ?_
        show TW K 39 [(0, rv K (9, 0)), (1, .int a1), (2, .int a2), (3, .int a3), (4, .int a4), (5, .int x1)] [.int x2] σ2
        obtain ⟨rfl, rfl⟩ := pj2 (Option.some.inj eh6)
        exact tw_iret C hK rfl rfl dX9_lay_39
    · have hf2 := ite_f (b2i_z hc2) hf1
      refine tw_bipush (v := (-2)) C dX9_lay_16 (by decide) ?_
      obtain ⟨rfl, rfl⟩ := pj2 (Option.some.inj hf2)
      exact tw_iret C hK rfl rfl dX9_lay_18

set_option maxRecDepth 20000 in
def fX9_get (σ : St) (a1 : Int32) (a2 : Int32) (a3 : Int32) : Option (Int32 × St) :=
  bj (if (fX9_isSheet a1) = true then
    if (fX9_in a2 (0 : Int32) (2 : Int32)) = true then
      obi (fX9_lacks σ a1 a2 a3) (fun x1 =>
      if x1 ≤ 0 then
        grd (inb (((60 : Int32) * a1) + a3) 240) (
        some (.inl (σ (54, 0) (tn (((60 : Int32) * a1) + a3)), σ)))
      else
        bnd (su σ (9, 0) 44 x1) (fun σ2 =>
        some (.inl ((-2147483648 : Int32), σ2))))
    else
      some (.inr σ)
  else
    some (.inr σ)) (fun σ1 =>
  some ((-2147483648 : Int32), σ1))
set_option maxRecDepth 20000 in
set_option maxHeartbeats 4000000 in
theorem kX9_get (G : Gx) (d : Nat) (hdp : 3 ≤ d) (σ : St) (a1 : Int32) (a2 : Int32) (a3 : Int32)  {v0 : Int32} {σ' : St} (h : fX9_get σ a1 a2 a3 = some (v0, σ')) : MS G d yX9_get cX9_get 5 (some .int) [.ref (G.2.1 (9, 0)), .int a1, .int a2, .int a3] σ (some (.int v0)) σ' := by
  refine MS_of (by decide) (Nat.le_of_ble_eq_true rfl) rfl (fun K hG hnL C hR hK => ?_) (by omega)
  subst hG
  show TW K 0 [(0, rv K (9, 0)), (1, .int a1), (2, .int a2), (3, .int a3)] [] σ
  unfold fX9_get at h
  refine tw_iload_n (i := 1) (z := 1) C dX9_get_0 rfl rfl ?_
  refine tw_callS (As := [.int a1]) (rest := []) C hR (kX9_isSheet K.1 _ (by omega) σ a1  rfl) mi_X9_isSheet st_X9_isSheet ml_RX9_196 rfl rfl (Nat.le_of_ble_eq_true rfl) dX9_get_1 ?_
  show TW K 4 [(0, rv K (9, 0)), (1, .int a1), (2, .int a2), (3, .int a3)] [.int (b2i (fX9_isSheet a1))] σ
  obtain ⟨y1, hx1, hy1⟩ := bj_some h
  have hJ1 : ∀ (σ1 : St), y1 = .inr σ1 → TW K 16 [] [] σ1 := by
    intro σ1 ey1
    have hq1 := bj_r ey1 hy1
    refine tw_ldcw C cn_RX9_327 dX9_get_16 ?_
    obtain ⟨rfl, rfl⟩ := pj2 (Option.some.inj hq1)
    exact tw_iret C hK rfl rfl dX9_get_19
  refine tw_if_eq (tgt := 16) C dX9_get_4 (by decide) (fun hc2 => ?_) (fun hc2 => ?_)
  · have ht2 := ite_f (b2i_z hc2) hx1
    refine tw_sub [] rfl ?_
    exact hJ1 _ (Option.some.inj ht2).symm
  · have hf2 := ite_t (b2i_nz hc2) hx1
    refine tw_iload_n (i := 2) (z := 2) C dX9_get_7 rfl rfl ?_
    refine tw_iconst (v := 0) C dX9_get_8 (by decide) ?_
    refine tw_iconst (v := 2) C dX9_get_9 (by decide) ?_
    refine tw_callS (As := [.int a2, .int (0 : Int32), .int (2 : Int32)]) (rest := []) C hR (kX9_in K.1 _ (by omega) σ a2 (0 : Int32) (2 : Int32)  rfl) mi_X9_in st_X9_in ml_RX9_106 rfl rfl (Nat.le_of_ble_eq_true rfl) dX9_get_10 ?_
    show TW K 13 [(0, rv K (9, 0)), (1, .int a1), (2, .int a2), (3, .int a3)] [.int (b2i (fX9_in a2 (0 : Int32) (2 : Int32)))] σ
    refine tw_if_ne (tgt := 20) C dX9_get_13 (by decide) (fun hc3 => ?_) (fun hc3 => ?_)
    · have ht3 := ite_t (b2i_nz hc3) hf2
      refine tw_aload_n (i := 0) (z := 0) (r := (9, 0)) C dX9_get_20 rfl rfl ?_
      refine tw_iload_n (i := 1) (z := 1) C dX9_get_21 rfl rfl ?_
      refine tw_iload_n (i := 2) (z := 2) C dX9_get_22 rfl rfl ?_
      refine tw_iload_n (i := 3) (z := 3) C dX9_get_23 rfl rfl ?_
      obtain ⟨x1, hv4, eh4⟩ := obi_some ht3
      refine tw_callV (As := [.int a1, .int a2, .int a3]) (rest := []) (r := (9, 0)) C hR (kX9_lacks K.1 _ (by omega) σ a1 a2 a3  hv4) mi_X9_lacks is_X9_lacks se_X9_lacks ml_RX9_321 (wcells_mem (f := 9) (j := 0) (by decide) (by decide)) rfl rfl rfl rfl (Nat.le_of_ble_eq_true rfl) dX9_get_24 ?_
      show TW K 27 [(0, rv K (9, 0)), (1, .int a1), (2, .int a2), (3, .int a3)] [.int x1] σ
      refine tw_istore (lv' := [(0, rv K (9, 0)), (1, .int a1), (2, .int a2), (3, .int a3), (4, .int x1)]) C [1, 2, 3, 4, 0] dX9_get_27 (by rw [hnL]; decide) rfl ?_
      refine tw_iload (i := 4) (z := 4) C dX9_get_29 rfl ?_
      refine tw_if_le (tgt := 44) C dX9_get_31 (by decide) (fun hc5 => ?_) (fun hc5 => ?_)
      · have ht5 := ite_t hc5 eh4
        refine tw_aload_n (i := 0) (z := 0) (r := (9, 0)) C dX9_get_44 rfl rfl ?_
        refine tw_getR (g := 54) (z := 0) (j' := 0) C fl_RX9_96 rfl (wcells_mem (f := 9) (j := 0) (by decide) (by decide)) rfl rfl dX9_get_45 ?_
        refine tw_bipush (v := 60) C dX9_get_48 (by decide) ?_
        refine tw_iload_n (i := 1) (z := 1) C dX9_get_50 rfl rfl ?_
        refine tw_imul C dX9_get_51 ?_
        refine tw_iload_n (i := 3) (z := 3) C dX9_get_52 rfl rfl ?_
        refine tw_iadd C dX9_get_53 ?_
        obtain ⟨hb6, eh6⟩ := grd_some ht5
        refine tw_iald (r := (54, 0)) C (ia_of rfl (by decide)) hb6 dX9_get_54 ?_
        have e7 := bj_l eh6 hy1
        obtain ⟨rfl, rfl⟩ := pj2 (Option.some.inj e7)
        exact tw_iret C hK rfl rfl dX9_get_55
      · have hf5 := ite_f hc5 eh4
        refine tw_aload_n (i := 0) (z := 0) (r := (9, 0)) C dX9_get_34 rfl rfl ?_
        refine tw_iload (i := 4) (z := 4) C dX9_get_35 rfl ?_
        obtain ⟨σ2, es8, eh8⟩ := bnd_ex hf5
        refine tw_put C fl_RX9_318 (fun q hq => by cases hq; rfl) rfl (wcells_mem (f := 9) (j := 0) (by decide) (by decide)) rfl rfl rfl dX9_get_37 ?_
        rw [es8]
        refine tw_ldcw C cn_RX9_327 dX9_get_40 ?_
        have e9 := bj_l eh8 hy1
        obtain ⟨rfl, rfl⟩ := pj2 (Option.some.inj e9)
        exact tw_iret C hK rfl rfl dX9_get_43
    · have hf3 := ite_f (b2i_z hc3) hf2
      refine tw_sub [] rfl ?_
      exact hJ1 _ (Option.some.inj hf3).symm

set_option maxRecDepth 20000 in
def fX9_copy (σ : St) (a1 : Int32) (a2 : Int32) (a3 : Int32) (a4 : Int32) (a5 : Int32) : Option (Int32 × St) :=
  if (fX9_isSheet a1) = true then
    if (fX9_isSheet a3) = true then
      grd (inb a1 4) (
      bj (if (σ (51, 0) (tn a1)) = 0 then
        some (.inr σ)
      else
        grd (inb a3 4) (
        if (σ (51, 0) (tn a3)) = 0 then
          some (.inr σ)
        else
          grd (inb a1 4) (
          grd (inb a3 4) (
          if (σ (52, 0) (tn a1)) = (σ (52, 0) (tn a3)) then
            bj (if a2 < 0 then
              some (.inr σ)
            else
              if a4 < 0 then
                some (.inr σ)
              else
                if a5 < 0 then
                  some (.inr σ)
                else
                  grd (inb a1 4) (
                  if 0 < (lg_cmp (a2.toInt64 + a5.toInt64) ((σ (53, 0) (tn a1)).toInt64)) then
                    some (.inr σ)
                  else
                    grd (inb a3 4) (
                    if (lg_cmp (a4.toInt64 + a5.toInt64) ((σ (53, 0) (tn a3)).toInt64)) ≤ 0 then
                      obi (lpF (fun (q20 : Int32 × St) => match q20 with
                      | (x1, σ4) =>
                      if a5 ≤ x1 then
                        some (.inr σ4)
                      else
                        grd (inb ((((60 : Int32) * a1) + a2) + x1) 240) (
                        grd (inb x1 60) (bnd (su σ4 (55, 0) (tn x1) (σ4 (54, 0) (tn ((((60 : Int32) * a1) + a2) + x1)))) (fun σ5 =>
                        bnd (x1 + 1) (fun x2 =>
                        some (.inl (x2, σ5))))))) ((0 : Int32), σ)) (fun σ3 =>
                      lpF (fun (q27 : Int32 × St) => match q27 with
                      | (x3, σ6) =>
                      if a5 ≤ x3 then
                        some (.inr (.inl (.inl ((1 : Int32), σ6))))
                      else
                        grd (inb x3 60) (
                        grd (inb ((((60 : Int32) * a3) + a4) + x3) 240) (bnd (su σ6 (54, 0) (tn ((((60 : Int32) * a3) + a4) + x3)) (σ6 (55, 0) (tn x3))) (fun σ7 =>
                        bnd (x3 + 1) (fun x4 =>
                        some (.inl (x4, σ7))))))) ((0 : Int32), σ3))
                    else
                      some (.inr σ)))) (fun σ2 =>
            bnd (fX9_meets σ2 (2 : Int32)) (fun (x5, σ8) =>
            some (.inl (x5, σ8))))
          else
            bnd (fX9_meets σ (4 : Int32)) (fun (x6, σ9) =>
            some (.inl (x6, σ9))))))) (fun σ1 =>
      bnd (fX9_meets σ1 (1 : Int32)) (fun (x7, σ10) =>
      some (x7, σ10))))
    else
      some ((-2 : Int32), σ)
  else
    some ((-2 : Int32), σ)
set_option maxRecDepth 20000 in
set_option maxHeartbeats 4000000 in
theorem kX9_copy (G : Gx) (d : Nat) (hdp : 3 ≤ d) (σ : St) (a1 : Int32) (a2 : Int32) (a3 : Int32) (a4 : Int32) (a5 : Int32)  {v0 : Int32} {σ' : St} (h : fX9_copy σ a1 a2 a3 a4 a5 = some (v0, σ')) : MS G d yX9_copy cX9_copy 7 (some .int) [.ref (G.2.1 (9, 0)), .int a1, .int a2, .int a3, .int a4, .int a5] σ (some (.int v0)) σ' := by
  refine MS_of (by decide) (Nat.le_of_ble_eq_true rfl) rfl (fun K hG hnL C hR hK => ?_) (by omega)
  subst hG
  show TW K 0 [(0, rv K (9, 0)), (1, .int a1), (2, .int a2), (3, .int a3), (4, .int a4), (5, .int a5)] [] σ
  unfold fX9_copy at h
  refine tw_iload_n (i := 1) (z := 1) C dX9_copy_0 rfl rfl ?_
  refine tw_callS (As := [.int a1]) (rest := []) C hR (kX9_isSheet K.1 _ (by omega) σ a1  rfl) mi_X9_isSheet st_X9_isSheet ml_RX9_196 rfl rfl (Nat.le_of_ble_eq_true rfl) dX9_copy_1 ?_
  show TW K 4 [(0, rv K (9, 0)), (1, .int a1), (2, .int a2), (3, .int a3), (4, .int a4), (5, .int a5)] [.int (b2i (fX9_isSheet a1))] σ
  refine tw_if_eq (tgt := 14) C dX9_copy_4 (by decide) (fun hc1 => ?_) (fun hc1 => ?_)
  · have ht1 := ite_f (b2i_z hc1) h
    refine tw_bipush (v := (-2)) C dX9_copy_14 (by decide) ?_
    obtain ⟨rfl, rfl⟩ := pj2 (Option.some.inj ht1)
    exact tw_iret C hK rfl rfl dX9_copy_16
  · have hf1 := ite_t (b2i_nz hc1) h
    refine tw_iload_n (i := 3) (z := 3) C dX9_copy_7 rfl rfl ?_
    refine tw_callS (As := [.int a3]) (rest := []) C hR (kX9_isSheet K.1 _ (by omega) σ a3  rfl) mi_X9_isSheet st_X9_isSheet ml_RX9_196 rfl rfl (Nat.le_of_ble_eq_true rfl) dX9_copy_8 ?_
    show TW K 11 [(0, rv K (9, 0)), (1, .int a1), (2, .int a2), (3, .int a3), (4, .int a4), (5, .int a5)] [.int (b2i (fX9_isSheet a3))] σ
    refine tw_if_ne (tgt := 17) C dX9_copy_11 (by decide) (fun hc2 => ?_) (fun hc2 => ?_)
    · have ht2 := ite_t (b2i_nz hc2) hf1
      refine tw_aload_n (i := 0) (z := 0) (r := (9, 0)) C dX9_copy_17 rfl rfl ?_
      refine tw_getR (g := 51) (z := 0) (j' := 0) C fl_RX9_87 rfl (wcells_mem (f := 9) (j := 0) (by decide) (by decide)) rfl rfl dX9_copy_18 ?_
      refine tw_iload_n (i := 1) (z := 1) C dX9_copy_21 rfl rfl ?_
      obtain ⟨hb3, eh3⟩ := grd_some ht2
      refine tw_zald (r := (51, 0)) C rfl (wcells_mem (f := 51) (j := 0) (by decide) (by decide)) hb3 dX9_copy_22 ?_
      obtain ⟨y4, hx4, hy4⟩ := bj_some eh3
      have hJ4 : ∀ (σ1 : St), y4 = .inr σ1 → TW K 35 [(0, rv K (9, 0))] [] σ1 := by
        intro σ1 ey4
        have hq4 := bj_r ey4 hy4
        refine tw_aload_n (i := 0) (z := 0) (r := (9, 0)) C dX9_copy_35 rfl rfl ?_
        refine tw_iconst (v := 1) C dX9_copy_36 (by decide) ?_
        obtain ⟨⟨x7, σ10⟩, hv40, eh40⟩ := bnd_ex hq4
        refine tw_callV (As := [.int (1 : Int32)]) (rest := []) (r := (9, 0)) C hR (kX9_meets K.1 _ (by omega) _ (1 : Int32)  hv40) mi_X9_meets is_X9_meets se_X9_meets ml_RX9_199 (wcells_mem (f := 9) (j := 0) (by decide) (by decide)) rfl rfl rfl rfl (Nat.le_of_ble_eq_true rfl) dX9_copy_37 ?_
        show TW K 40 [(0, rv K (9, 0))] [.int x7] σ10
        obtain ⟨rfl, rfl⟩ := pj2 (Option.some.inj eh40)
        exact tw_iret C hK rfl rfl dX9_copy_40
      refine tw_if_eq (tgt := 35) C dX9_copy_23 (by decide) (fun hc5 => ?_) (fun hc5 => ?_)
      · have ht5 := ite_t hc5 hx4
        refine tw_sub [0] rfl ?_
        exact hJ4 _ (Option.some.inj ht5).symm
      · have hf5 := ite_f hc5 hx4
        refine tw_aload_n (i := 0) (z := 0) (r := (9, 0)) C dX9_copy_26 rfl rfl ?_
        refine tw_getR (g := 51) (z := 0) (j' := 0) C fl_RX9_87 rfl (wcells_mem (f := 9) (j := 0) (by decide) (by decide)) rfl rfl dX9_copy_27 ?_
        refine tw_iload_n (i := 3) (z := 3) C dX9_copy_30 rfl rfl ?_
        obtain ⟨hb6, eh6⟩ := grd_some hf5
        refine tw_zald (r := (51, 0)) C rfl (wcells_mem (f := 51) (j := 0) (by decide) (by decide)) hb6 dX9_copy_31 ?_
        refine tw_if_ne (tgt := 41) C dX9_copy_32 (by decide) (fun hc7 => ?_) (fun hc7 => ?_)
        · have ht7 := ite_f hc7 eh6
          refine tw_aload_n (i := 0) (z := 0) (r := (9, 0)) C dX9_copy_41 rfl rfl ?_
          refine tw_getR (g := 52) (z := 0) (j' := 0) C fl_RX9_90 rfl (wcells_mem (f := 9) (j := 0) (by decide) (by decide)) rfl rfl dX9_copy_42 ?_
          refine tw_iload_n (i := 1) (z := 1) C dX9_copy_45 rfl rfl ?_
          obtain ⟨hb8, eh8⟩ := grd_some ht7
          refine tw_iald (r := (52, 0)) C (ia_of rfl (by decide)) hb8 dX9_copy_46 ?_
          refine tw_aload_n (i := 0) (z := 0) (r := (9, 0)) C dX9_copy_47 rfl rfl ?_
          refine tw_getR (g := 52) (z := 0) (j' := 0) C fl_RX9_90 rfl (wcells_mem (f := 9) (j := 0) (by decide) (by decide)) rfl rfl dX9_copy_48 ?_
          refine tw_iload_n (i := 3) (z := 3) C dX9_copy_51 rfl rfl ?_
          obtain ⟨hb9, eh9⟩ := grd_some eh8
          refine tw_iald (r := (52, 0)) C (ia_of rfl (by decide)) hb9 dX9_copy_52 ?_
          refine tw_ic_eq (tgt := 62) C dX9_copy_53 (by decide) (fun hc10 => ?_) (fun hc10 => ?_)
          · have ht10 := ite_t hc10 eh9
            refine tw_iload_n (i := 2) (z := 2) C dX9_copy_62 rfl rfl ?_
            obtain ⟨y11, hx11, hy11⟩ := bj_some ht10
            have hJ11 : ∀ (σ2 : St), y11 = .inr σ2 → TW K 111 [(0, rv K (9, 0))] [] σ2 := by
              intro σ2 ey11
              have hq11 := bj_r ey11 hy11
              refine tw_aload_n (i := 0) (z := 0) (r := (9, 0)) C dX9_copy_111 rfl rfl ?_
              refine tw_iconst (v := 2) C dX9_copy_112 (by decide) ?_
              obtain ⟨⟨x5, σ8⟩, hv36, eh36⟩ := bnd_ex hq11
              refine tw_callV (As := [.int (2 : Int32)]) (rest := []) (r := (9, 0)) C hR (kX9_meets K.1 _ (by omega) _ (2 : Int32)  hv36) mi_X9_meets is_X9_meets se_X9_meets ml_RX9_199 (wcells_mem (f := 9) (j := 0) (by decide) (by decide)) rfl rfl rfl rfl (Nat.le_of_ble_eq_true rfl) dX9_copy_113 ?_
              show TW K 116 [(0, rv K (9, 0))] [.int x5] σ8
              have e37 := bj_l eh36 hy4
              obtain ⟨rfl, rfl⟩ := pj2 (Option.some.inj e37)
              exact tw_iret C hK rfl rfl dX9_copy_116
            refine tw_if_lt (tgt := 111) C dX9_copy_63 (by decide) (fun hc12 => ?_) (fun hc12 => ?_)
            · have ht12 := ite_t hc12 hx11
              refine tw_sub [0] rfl ?_
              exact hJ11 _ (Option.some.inj ht12).symm
            · have hf12 := ite_f hc12 hx11
              refine tw_iload (i := 4) (z := 4) C dX9_copy_66 rfl ?_
              refine tw_if_lt (tgt := 111) C dX9_copy_68 (by decide) (fun hc13 => ?_) (fun hc13 => ?_)
              · have ht13 := ite_t hc13 hf12
                refine tw_sub [0] rfl ?_
                exact hJ11 _ (Option.some.inj ht13).symm
              · have hf13 := ite_f hc13 hf12
                refine tw_iload (i := 5) (z := 5) C dX9_copy_71 rfl ?_
                refine tw_if_lt (tgt := 111) C dX9_copy_73 (by decide) (fun hc14 => ?_) (fun hc14 => ?_)
                · have ht14 := ite_t hc14 hf13
                  refine tw_sub [0] rfl ?_
                  exact hJ11 _ (Option.some.inj ht14).symm
                · have hf14 := ite_f hc14 hf13
                  refine tw_iload_n (i := 2) (z := 2) C dX9_copy_76 rfl rfl ?_
                  refine tw_i2l C dX9_copy_77 ?_
                  refine tw_iload (i := 5) (z := 5) C dX9_copy_78 rfl ?_
                  refine tw_i2l C dX9_copy_80 ?_
                  refine tw_ladd C dX9_copy_81 ?_
                  refine tw_aload_n (i := 0) (z := 0) (r := (9, 0)) C dX9_copy_82 rfl rfl ?_
                  refine tw_getR (g := 53) (z := 0) (j' := 0) C fl_RX9_93 rfl (wcells_mem (f := 9) (j := 0) (by decide) (by decide)) rfl rfl dX9_copy_83 ?_
                  refine tw_iload_n (i := 1) (z := 1) C dX9_copy_86 rfl rfl ?_
                  obtain ⟨hb15, eh15⟩ := grd_some hf14
                  refine tw_iald (r := (53, 0)) C (ia_of rfl (by decide)) hb15 dX9_copy_87 ?_
                  refine tw_i2l C dX9_copy_88 ?_
                  refine tw_lcmp C dX9_copy_89 ?_
                  refine tw_if_gt (tgt := 111) C dX9_copy_90 (by decide) (fun hc16 => ?_) (fun hc16 => ?_)
                  · have ht16 := ite_t hc16 eh15
                    refine tw_sub [0] rfl ?_
                    exact hJ11 _ (Option.some.inj ht16).symm
                  · have hf16 := ite_f hc16 eh15
                    refine tw_iload (i := 4) (z := 4) C dX9_copy_93 rfl ?_
                    refine tw_i2l C dX9_copy_95 ?_
                    refine tw_iload (i := 5) (z := 5) C dX9_copy_96 rfl ?_
                    refine tw_i2l C dX9_copy_98 ?_
                    refine tw_ladd C dX9_copy_99 ?_
                    refine tw_aload_n (i := 0) (z := 0) (r := (9, 0)) C dX9_copy_100 rfl rfl ?_
                    refine tw_getR (g := 53) (z := 0) (j' := 0) C fl_RX9_93 rfl (wcells_mem (f := 9) (j := 0) (by decide) (by decide)) rfl rfl dX9_copy_101 ?_
                    refine tw_iload_n (i := 3) (z := 3) C dX9_copy_104 rfl rfl ?_
                    obtain ⟨hb17, eh17⟩ := grd_some hf16
                    refine tw_iald (r := (53, 0)) C (ia_of rfl (by decide)) hb17 dX9_copy_105 ?_
                    refine tw_i2l C dX9_copy_106 ?_
                    refine tw_lcmp C dX9_copy_107 ?_
                    refine tw_if_le (tgt := 117) C dX9_copy_108 (by decide) (fun hc18 => ?_) (fun hc18 => ?_)
                    · have ht18 := ite_t hc18 eh17
                      refine tw_iconst (v := 0) C dX9_copy_117 (by decide) ?_
                      refine tw_istore (lv' := [(0, rv K (9, 0)), (1, .int a1), (2, .int a2), (3, .int a3), (4, .int a4), (5, .int a5), (6, .int (0 : Int32))]) C [1, 2, 3, 4, 5, 6, 0] dX9_copy_118 (by rw [hnL]; decide) rfl ?_
                      obtain ⟨σ3, hx19, hq19⟩ := obi_some ht18
                      have hJ19 : TW K 154 [(0, rv K (9, 0)), (3, .int a3), (4, .int a4), (5, .int a5)] [] σ3 := by
                        refine tw_iconst (v := 0) C dX9_copy_154 (by decide) ?_
                        refine tw_istore (lv' := [(0, rv K (9, 0)), (3, .int a3), (4, .int a4), (5, .int a5), (6, .int (0 : Int32))]) C [1, 2, 3, 4, 0] dX9_copy_155 (by rw [hnL]; decide) rfl ?_
                        refine lpF_ct (G := fun (q : Int32 × St) => match q with | (x3, σ6) => TW K 157 [(0, rv K (9, 0)), (3, .int a3), (4, .int a4), (5, .int a5), (6, .int x3)] [] σ6) ?_ hq19
                        rintro ⟨x3, σ6⟩ w27 hx27 hk27
                        show TW K 157 [(0, rv K (9, 0)), (3, .int a3), (4, .int a4), (5, .int a5), (6, .int x3)] [] σ6
                        refine tw_iload (i := 6) (z := 4) C dX9_copy_157 rfl ?_
                        refine tw_iload (i := 5) (z := 3) C dX9_copy_159 rfl ?_
                        refine tw_ic_ge (tgt := 192) C dX9_copy_161 (by decide) (fun hc28 => ?_) (fun hc28 => ?_)
                        · have ht28 := ite_t hc28 hx27
                          refine tw_iconst (v := 1) C dX9_copy_192 (by decide) ?_
                          have e29 := lp_x ht28 hk27
                          have e30 := bj_l e29 hy11
                          have e31 := bj_l e30 hy4
                          obtain ⟨rfl, rfl⟩ := pj2 (Option.some.inj e31)
                          exact tw_iret C hK rfl rfl dX9_copy_193
                        · have hf28 := ite_f hc28 hx27
                          refine tw_aload_n (i := 0) (z := 0) (r := (9, 0)) C dX9_copy_164 rfl rfl ?_
                          refine tw_getR (g := 54) (z := 0) (j' := 0) C fl_RX9_96 rfl (wcells_mem (f := 9) (j := 0) (by decide) (by decide)) rfl rfl dX9_copy_165 ?_
                          refine tw_bipush (v := 60) C dX9_copy_168 (by decide) ?_
                          refine tw_iload_n (i := 3) (z := 1) C dX9_copy_170 rfl rfl ?_
                          refine tw_imul C dX9_copy_171 ?_
                          refine tw_iload (i := 4) (z := 2) C dX9_copy_172 rfl ?_
                          refine tw_iadd C dX9_copy_174 ?_
                          refine tw_iload (i := 6) (z := 4) C dX9_copy_175 rfl ?_
                          refine tw_iadd C dX9_copy_177 ?_
                          refine tw_aload_n (i := 0) (z := 0) (r := (9, 0)) C dX9_copy_178 rfl rfl ?_
                          refine tw_getR (g := 55) (z := 0) (j' := 0) C fl_RX9_99 rfl (wcells_mem (f := 9) (j := 0) (by decide) (by decide)) rfl rfl dX9_copy_179 ?_
                          refine tw_iload (i := 6) (z := 4) C dX9_copy_182 rfl ?_
                          obtain ⟨hb32, eh32⟩ := grd_some hf28
                          refine tw_iald (r := (55, 0)) C (ia_of rfl (by decide)) hb32 dX9_copy_184 ?_
                          obtain ⟨hb33, eh33⟩ := grd_some eh32
                          obtain ⟨σ7, es34, eg34⟩ := bnd_ex eh33
                          refine tw_iast (r := (54, 0)) C (wa_of rfl (by decide) (by decide)) hb33 dX9_copy_185 ?_
                          rw [es34]
                          obtain ⟨x4, ex35, eh35⟩ := bnd_ex eg34
                          refine tw_iinc (z := 4) (v := x4) (lv' := [(0, rv K (9, 0)), (3, .int a3), (4, .int a4), (5, .int a5), (6, .int x4)]) C [1, 2, 3, 4, 0] dX9_copy_186 rfl ex35 (by rw [hnL]; decide) rfl ?_
                          refine tw_goto (tgt := 157) C dX9_copy_189 (by decide) ?_
                          have hz := lp_c eh35 hk27
                          exact hz
                      refine lpF_ct (G := fun (q : Int32 × St) => match q with | (x1, σ4) => TW K 120 [(0, rv K (9, 0)), (1, .int a1), (2, .int a2), (3, .int a3), (4, .int a4), (5, .int a5), (6, .int x1)] [] σ4) ?_ hx19
                      rintro ⟨x1, σ4⟩ w20 hx20 hk20
                      show TW K 120 [(0, rv K (9, 0)), (1, .int a1), (2, .int a2), (3, .int a3), (4, .int a4), (5, .int a5), (6, .int x1)] [] σ4
                      refine tw_iload (i := 6) (z := 6) C dX9_copy_120 rfl ?_
                      refine tw_iload (i := 5) (z := 5) C dX9_copy_122 rfl ?_
                      refine tw_ic_ge (tgt := 154) C dX9_copy_124 (by decide) (fun hc21 => ?_) (fun hc21 => ?_)
                      · have ht21 := ite_t hc21 hx20
                        refine tw_sub [0, 3, 4, 5] rfl ?_
                        have e22 := lp_x ht21 hk20
                        obtain rfl := (Option.some.inj e22)
                        exact hJ19
                      · have hf21 := ite_f hc21 hx20
                        refine tw_aload_n (i := 0) (z := 0) (r := (9, 0)) C dX9_copy_127 rfl rfl ?_
                        refine tw_getR (g := 55) (z := 0) (j' := 0) C fl_RX9_99 rfl (wcells_mem (f := 9) (j := 0) (by decide) (by decide)) rfl rfl dX9_copy_128 ?_
                        refine tw_iload (i := 6) (z := 6) C dX9_copy_131 rfl ?_
                        refine tw_aload_n (i := 0) (z := 0) (r := (9, 0)) C dX9_copy_133 rfl rfl ?_
                        refine tw_getR (g := 54) (z := 0) (j' := 0) C fl_RX9_96 rfl (wcells_mem (f := 9) (j := 0) (by decide) (by decide)) rfl rfl dX9_copy_134 ?_
                        refine tw_bipush (v := 60) C dX9_copy_137 (by decide) ?_
                        refine tw_iload_n (i := 1) (z := 1) C dX9_copy_139 rfl rfl ?_
                        refine tw_imul C dX9_copy_140 ?_
                        refine tw_iload_n (i := 2) (z := 2) C dX9_copy_141 rfl rfl ?_
                        refine tw_iadd C dX9_copy_142 ?_
                        refine tw_iload (i := 6) (z := 6) C dX9_copy_143 rfl ?_
                        refine tw_iadd C dX9_copy_145 ?_
                        obtain ⟨hb23, eh23⟩ := grd_some hf21
                        refine tw_iald (r := (54, 0)) C (ia_of rfl (by decide)) hb23 dX9_copy_146 ?_
                        obtain ⟨hb24, eh24⟩ := grd_some eh23
                        obtain ⟨σ5, es25, eg25⟩ := bnd_ex eh24
                        refine tw_iast (r := (55, 0)) C (wa_of rfl (by decide) (by decide)) hb24 dX9_copy_147 ?_
                        rw [es25]
                        obtain ⟨x2, ex26, eh26⟩ := bnd_ex eg25
                        refine tw_iinc (z := 6) (v := x2) (lv' := [(0, rv K (9, 0)), (1, .int a1), (2, .int a2), (3, .int a3), (4, .int a4), (5, .int a5), (6, .int x2)]) C [1, 2, 3, 4, 5, 6, 0] dX9_copy_148 rfl ex26 (by rw [hnL]; decide) rfl ?_
                        refine tw_goto (tgt := 120) C dX9_copy_151 (by decide) ?_
                        have hz := lp_c eh26 hk20
                        exact hz
                    · have hf18 := ite_f hc18 eh17
                      refine tw_sub [0] rfl ?_
                      exact hJ11 _ (Option.some.inj hf18).symm
          · have hf10 := ite_f hc10 eh9
            refine tw_aload_n (i := 0) (z := 0) (r := (9, 0)) C dX9_copy_56 rfl rfl ?_
            refine tw_iconst (v := 4) C dX9_copy_57 (by decide) ?_
            obtain ⟨⟨x6, σ9⟩, hv38, eh38⟩ := bnd_ex hf10
            refine tw_callV (As := [.int (4 : Int32)]) (rest := []) (r := (9, 0)) C hR (kX9_meets K.1 _ (by omega) _ (4 : Int32)  hv38) mi_X9_meets is_X9_meets se_X9_meets ml_RX9_199 (wcells_mem (f := 9) (j := 0) (by decide) (by decide)) rfl rfl rfl rfl (Nat.le_of_ble_eq_true rfl) dX9_copy_58 ?_
            show TW K 61 [(0, rv K (9, 0)), (1, .int a1), (2, .int a2), (3, .int a3), (4, .int a4), (5, .int a5)] [.int x6] σ9
            have e39 := bj_l eh38 hy4
            obtain ⟨rfl, rfl⟩ := pj2 (Option.some.inj e39)
            exact tw_iret C hK rfl rfl dX9_copy_61
        · have hf7 := ite_t hc7 eh6
          refine tw_sub [0] rfl ?_
          exact hJ4 _ (Option.some.inj hf7).symm
    · have hf2 := ite_f (b2i_z hc2) hf1
      refine tw_bipush (v := (-2)) C dX9_copy_14 (by decide) ?_
      obtain ⟨rfl, rfl⟩ := pj2 (Option.some.inj hf2)
      exact tw_iret C hK rfl rfl dX9_copy_16

set_option maxRecDepth 20000 in
def fX9_write (σ : St) (a1 : Int32) (a2 : Int32) (a3 : Int32) : Option (Int32 × St) :=
  if (fX9_isCode a1) = true then
    if (fX9_isCode a2) = true then
      if (fX9_isSheet a3) = true then
        grd (inb a3 4) (
        if (σ (51, 0) (tn a3)) = 0 then
          bnd (fX9_meets σ (1 : Int32)) (fun (x4, σ4) =>
          some (x4, σ4))
        else
          obi (fX9_partsOf σ a1 a2) (fun (x1, σ1) =>
          lpF (fun (q7 : Int32 × St) => match q7 with
          | (x2, σ2) =>
          if x1 ≤ x2 then
            some (.inr ((x2, σ2)))
          else
            grd (inb a3 4) (
            if (σ2 (53, 0) (tn a3)) ≤ x2 then
              some (.inr ((x2, σ2)))
            else
              grd (inb x2 6) (
              obi (fX9_keep σ2 a3 x2 (σ2 (43, 0) (tn x2))) (fun σ3 =>
              bnd (x2 + 1) (fun x3 =>
              some (.inl (x3, σ3))))))) ((0 : Int32), σ1)))
      else
        some ((-2 : Int32), σ)
    else
      some ((-2 : Int32), σ)
  else
    some ((-2 : Int32), σ)
set_option maxRecDepth 20000 in
set_option maxHeartbeats 4000000 in
theorem kX9_write (G : Gx) (d : Nat) (hdp : 10 ≤ d) (σ : St) (a1 : Int32) (a2 : Int32) (a3 : Int32)  {v0 : Int32} {σ' : St} (h : fX9_write σ a1 a2 a3 = some (v0, σ')) : MS G d yX9_write cX9_write 6 (some .int) [.ref (G.2.1 (9, 0)), .int a1, .int a2, .int a3] σ (some (.int v0)) σ' := by
  refine MS_of (by decide) (Nat.le_of_ble_eq_true rfl) rfl (fun K hG hnL C hR hK => ?_) (by omega)
  subst hG
  show TW K 0 [(0, rv K (9, 0)), (1, .int a1), (2, .int a2), (3, .int a3)] [] σ
  unfold fX9_write at h
  refine tw_iload_n (i := 1) (z := 1) C dX9_write_0 rfl rfl ?_
  refine tw_callS (As := [.int a1]) (rest := []) C hR (kX9_isCode K.1 _ (by omega) σ a1  rfl) mi_X9_isCode st_X9_isCode ml_RX9_110 rfl rfl (Nat.le_of_ble_eq_true rfl) dX9_write_1 ?_
  show TW K 4 [(0, rv K (9, 0)), (1, .int a1), (2, .int a2), (3, .int a3)] [.int (b2i (fX9_isCode a1))] σ
  refine tw_if_eq (tgt := 21) C dX9_write_4 (by decide) (fun hc1 => ?_) (fun hc1 => ?_)
  · have ht1 := ite_f (b2i_z hc1) h
    refine tw_bipush (v := (-2)) C dX9_write_21 (by decide) ?_
    obtain ⟨rfl, rfl⟩ := pj2 (Option.some.inj ht1)
    exact tw_iret C hK rfl rfl dX9_write_23
  · have hf1 := ite_t (b2i_nz hc1) h
    refine tw_iload_n (i := 2) (z := 2) C dX9_write_7 rfl rfl ?_
    refine tw_callS (As := [.int a2]) (rest := []) C hR (kX9_isCode K.1 _ (by omega) σ a2  rfl) mi_X9_isCode st_X9_isCode ml_RX9_110 rfl rfl (Nat.le_of_ble_eq_true rfl) dX9_write_8 ?_
    show TW K 11 [(0, rv K (9, 0)), (1, .int a1), (2, .int a2), (3, .int a3)] [.int (b2i (fX9_isCode a2))] σ
    refine tw_if_eq (tgt := 21) C dX9_write_11 (by decide) (fun hc2 => ?_) (fun hc2 => ?_)
    · have ht2 := ite_f (b2i_z hc2) hf1
      refine tw_bipush (v := (-2)) C dX9_write_21 (by decide) ?_
      obtain ⟨rfl, rfl⟩ := pj2 (Option.some.inj ht2)
      exact tw_iret C hK rfl rfl dX9_write_23
    · have hf2 := ite_t (b2i_nz hc2) hf1
      refine tw_iload_n (i := 3) (z := 3) C dX9_write_14 rfl rfl ?_
      refine tw_callS (As := [.int a3]) (rest := []) C hR (kX9_isSheet K.1 _ (by omega) σ a3  rfl) mi_X9_isSheet st_X9_isSheet ml_RX9_196 rfl rfl (Nat.le_of_ble_eq_true rfl) dX9_write_15 ?_
      show TW K 18 [(0, rv K (9, 0)), (1, .int a1), (2, .int a2), (3, .int a3)] [.int (b2i (fX9_isSheet a3))] σ
      refine tw_if_ne (tgt := 24) C dX9_write_18 (by decide) (fun hc3 => ?_) (fun hc3 => ?_)
      · have ht3 := ite_t (b2i_nz hc3) hf2
        refine tw_aload_n (i := 0) (z := 0) (r := (9, 0)) C dX9_write_24 rfl rfl ?_
        refine tw_getR (g := 51) (z := 0) (j' := 0) C fl_RX9_87 rfl (wcells_mem (f := 9) (j := 0) (by decide) (by decide)) rfl rfl dX9_write_25 ?_
        refine tw_iload_n (i := 3) (z := 3) C dX9_write_28 rfl rfl ?_
        obtain ⟨hb4, eh4⟩ := grd_some ht3
        refine tw_zald (r := (51, 0)) C rfl (wcells_mem (f := 51) (j := 0) (by decide) (by decide)) hb4 dX9_write_29 ?_
        refine tw_if_ne (tgt := 39) C dX9_write_30 (by decide) (fun hc5 => ?_) (fun hc5 => ?_)
        · have ht5 := ite_f hc5 eh4
          refine tw_aload_n (i := 0) (z := 0) (r := (9, 0)) C dX9_write_39 rfl rfl ?_
          refine tw_iload_n (i := 1) (z := 1) C dX9_write_40 rfl rfl ?_
          refine tw_iload_n (i := 2) (z := 2) C dX9_write_41 rfl rfl ?_
          obtain ⟨⟨x1, σ1⟩, hv6, eh6⟩ := obi_some ht5
          refine tw_callV (As := [.int a1, .int a2]) (rest := []) (r := (9, 0)) C hR (kX9_partsOf K.1 _ (by omega) _ a1 a2  hv6) mi_X9_partsOf is_X9_partsOf se_X9_partsOf ml_RX9_275 (wcells_mem (f := 9) (j := 0) (by decide) (by decide)) rfl rfl rfl rfl (Nat.le_of_ble_eq_true rfl) dX9_write_42 ?_
          show TW K 45 [(0, rv K (9, 0)), (1, .int a1), (2, .int a2), (3, .int a3)] [.int x1] σ1
          refine tw_istore (lv' := [(0, rv K (9, 0)), (1, .int a1), (2, .int a2), (3, .int a3), (4, .int x1)]) C [1, 2, 3, 4, 0] dX9_write_45 (by rw [hnL]; decide) rfl ?_
          refine tw_iconst (v := 0) C dX9_write_47 (by decide) ?_
          refine tw_istore (lv' := [(0, rv K (9, 0)), (1, .int a1), (2, .int a2), (3, .int a3), (4, .int x1), (5, .int (0 : Int32))]) C [1, 2, 3, 4, 5, 0] dX9_write_48 (by rw [hnL]; decide) rfl ?_
          refine tw_sub [0, 3, 4, 5] rfl ?_
          refine lpF_ct (G := fun (q : Int32 × St) => match q with | (x2, σ2) => TW K 50 [(0, rv K (9, 0)), (3, .int a3), (4, .int x1), (5, .int x2)] [] σ2) ?_ eh6
          rintro ⟨x2, σ2⟩ w7 hx7 hk7
          show TW K 50 [(0, rv K (9, 0)), (3, .int a3), (4, .int x1), (5, .int x2)] [] σ2
          refine tw_iload (i := 5) (z := 3) C dX9_write_50 rfl ?_
          refine tw_iload (i := 4) (z := 2) C dX9_write_52 rfl ?_
          refine tw_ic_ge (tgt := 88) C dX9_write_54 (by decide) (fun hc8 => ?_) (fun hc8 => ?_)
          · have ht8 := ite_t hc8 hx7
            refine tw_iload (i := 5) (z := 3) C dX9_write_88 rfl ?_
            have e9 := lp_x ht8 hk7
            obtain ⟨rfl, rfl⟩ := pj2 (Option.some.inj e9)
            exact tw_iret C hK rfl rfl dX9_write_90
          · have hf8 := ite_f hc8 hx7
            refine tw_iload (i := 5) (z := 3) C dX9_write_57 rfl ?_
            refine tw_aload_n (i := 0) (z := 0) (r := (9, 0)) C dX9_write_59 rfl rfl ?_
            refine tw_getR (g := 53) (z := 0) (j' := 0) C fl_RX9_93 rfl (wcells_mem (f := 9) (j := 0) (by decide) (by decide)) rfl rfl dX9_write_60 ?_
            refine tw_iload_n (i := 3) (z := 1) C dX9_write_63 rfl rfl ?_
            obtain ⟨hb10, eh10⟩ := grd_some hf8
            refine tw_iald (r := (53, 0)) C (ia_of rfl (by decide)) hb10 dX9_write_64 ?_
            refine tw_ic_ge (tgt := 88) C dX9_write_65 (by decide) (fun hc11 => ?_) (fun hc11 => ?_)
            · have ht11 := ite_t hc11 eh10
              refine tw_iload (i := 5) (z := 3) C dX9_write_88 rfl ?_
              have e12 := lp_x ht11 hk7
              obtain ⟨rfl, rfl⟩ := pj2 (Option.some.inj e12)
              exact tw_iret C hK rfl rfl dX9_write_90
            · have hf11 := ite_f hc11 eh10
              refine tw_aload_n (i := 0) (z := 0) (r := (9, 0)) C dX9_write_68 rfl rfl ?_
              refine tw_iload_n (i := 3) (z := 1) C dX9_write_69 rfl rfl ?_
              refine tw_iload (i := 5) (z := 3) C dX9_write_70 rfl ?_
              refine tw_aload_n (i := 0) (z := 0) (r := (9, 0)) C dX9_write_72 rfl rfl ?_
              refine tw_getR (g := 43) (z := 0) (j' := 0) C fl_RX9_53 rfl (wcells_mem (f := 9) (j := 0) (by decide) (by decide)) rfl rfl dX9_write_73 ?_
              refine tw_iload (i := 5) (z := 3) C dX9_write_76 rfl ?_
              obtain ⟨hb13, eh13⟩ := grd_some hf11
              refine tw_iald (r := (43, 0)) C (ia_of rfl (by decide)) hb13 dX9_write_78 ?_
              obtain ⟨σ3, hv14, eh14⟩ := obi_some eh13
              refine tw_callV (As := [.int a3, .int x2, .int (σ2 (43, 0) (tn x2))]) (rest := []) (r := (9, 0)) C hR (kX9_keep K.1 _ (by omega) _ a3 x2 (σ2 (43, 0) (tn x2))  hv14) mi_X9_keep is_X9_keep se_X9_keep ml_RX9_324 (wcells_mem (f := 9) (j := 0) (by decide) (by decide)) rfl rfl rfl rfl (Nat.le_of_ble_eq_true rfl) dX9_write_79 ?_
              show TW K 82 [(0, rv K (9, 0)), (3, .int a3), (4, .int x1), (5, .int x2)] [] σ3
              obtain ⟨x3, ex15, eh15⟩ := bnd_ex eh14
              refine tw_iinc (z := 3) (v := x3) (lv' := [(0, rv K (9, 0)), (3, .int a3), (4, .int x1), (5, .int x3)]) C [1, 2, 3, 0] dX9_write_82 rfl ex15 (by rw [hnL]; decide) rfl ?_
              refine tw_goto (tgt := 50) C dX9_write_85 (by decide) ?_
              have hz := lp_c eh15 hk7
              exact hz
        · have hf5 := ite_t hc5 eh4
          refine tw_aload_n (i := 0) (z := 0) (r := (9, 0)) C dX9_write_33 rfl rfl ?_
          refine tw_iconst (v := 1) C dX9_write_34 (by decide) ?_
          obtain ⟨⟨x4, σ4⟩, hv16, eh16⟩ := bnd_ex hf5
          refine tw_callV (As := [.int (1 : Int32)]) (rest := []) (r := (9, 0)) C hR (kX9_meets K.1 _ (by omega) _ (1 : Int32)  hv16) mi_X9_meets is_X9_meets se_X9_meets ml_RX9_199 (wcells_mem (f := 9) (j := 0) (by decide) (by decide)) rfl rfl rfl rfl (Nat.le_of_ble_eq_true rfl) dX9_write_35 ?_
          show TW K 38 [(0, rv K (9, 0)), (1, .int a1), (2, .int a2), (3, .int a3)] [.int x4] σ4
          obtain ⟨rfl, rfl⟩ := pj2 (Option.some.inj eh16)
          exact tw_iret C hK rfl rfl dX9_write_38
      · have hf3 := ite_f (b2i_z hc3) hf2
        refine tw_bipush (v := (-2)) C dX9_write_21 (by decide) ?_
        obtain ⟨rfl, rfl⟩ := pj2 (Option.some.inj hf3)
        exact tw_iret C hK rfl rfl dX9_write_23

set_option maxRecDepth 20000 in
def fX9_count (σ : St) (a1 : Int32) : Option (Int32) :=
  if a1 = 0 then
    some (σ (9, 0) 15)
  else
    if a1 = 1 then
      lpF (fun (q2 : Int32 × Int32) => match q2 with
      | (x1, x2) =>
      if (σ (9, 0) 15) ≤ x2 then
        some (.inr x1)
      else
        grd (inb x2 12) (
        bnd (if (σ (39, 0) (tn x2)) = 0 then
          (0 : Int32)
        else
          (1 : Int32)) (fun x3 =>
        bnd (x1 + x3) (fun x4 =>
        bnd (x2 + 1) (fun x5 =>
        some (.inl (x4, x5))))))) ((0 : Int32), (0 : Int32))
    else
      if a1 = 2 then
        some (σ (9, 0) 28)
      else
        if a1 = 3 then
          lpF (fun (q10 : Int32 × Int32) => match q10 with
          | (x6, x7) =>
          if (σ (9, 0) 28) ≤ x7 then
            some (.inr x6)
          else
            grd (inb x7 12) (
            bnd (if (σ (46, 0) (tn x7)) = 0 then
              (0 : Int32)
            else
              (1 : Int32)) (fun x8 =>
            bnd (x6 + x8) (fun x9 =>
            bnd (x7 + 1) (fun x10 =>
            some (.inl (x9, x10))))))) ((0 : Int32), (0 : Int32))
        else
          if a1 = 4 then
            lpF (fun (q18 : Int32 × Int32) => match q18 with
            | (x11, x12) =>
            if (11 : Int32) ≤ x12 then
              some (.inr x11)
            else
              grd (inb x12 11) (
              bnd (x11 + (σ (29, 0) (tn x12))) (fun x13 =>
              bnd (x12 + 1) (fun x14 =>
              some (.inl (x13, x14)))))) ((0 : Int32), (0 : Int32))
          else
            if a1 = 5 then
              some (σ (9, 0) 33)
            else
              if a1 = 6 then
                some (σ (9, 0) 34)
              else
                if a1 = 7 then
                  some (σ (9, 0) 35)
                else
                  if a1 = 8 then
                    some (σ (9, 0) 44)
                  else
                    some (-2 : Int32)
set_option maxRecDepth 20000 in
set_option maxHeartbeats 4000000 in
theorem kX9_count (G : Gx) (d : Nat) (hdp : 1 ≤ d) (σ : St) (a1 : Int32)  {v0 : Int32} (h : fX9_count σ a1 = some v0) : MS G d yX9_count cX9_count 4 (some .int) [.ref (G.2.1 (9, 0)), .int a1] σ (some (.int v0)) σ := by
  refine MS_of (by decide) (Nat.le_of_ble_eq_true rfl) rfl (fun K hG hnL C hR hK => ?_) (by omega)
  subst hG
  show TW K 0 [(0, rv K (9, 0)), (1, .int a1)] [] σ
  unfold fX9_count at h
  refine tw_iconst (v := 0) C dX9_count_0 (by decide) ?_
  refine tw_istore_n (lv' := [(0, rv K (9, 0)), (1, .int a1), (2, .int (0 : Int32))]) C [1, 2, 0] dX9_count_1 rfl (by rw [hnL]; decide) rfl ?_
  refine tw_iload_n (i := 1) (z := 1) C dX9_count_2 rfl rfl ?_
  by_cases hc1_0 : a1 = 0
  · have ht1_0 := ite_t hc1_0 h
    refine tw_tabZ (tgt := 52) C dX9_count_3 (0) (by rw [hc1_0]; decide) (by decide) (by decide) rfl (by decide) ?_
    refine tw_aload_n (i := 0) (z := 0) (r := (9, 0)) C dX9_count_52 rfl rfl ?_
    refine tw_getI C fl_RX9_193 rfl (wcells_mem (f := 9) (j := 0) (by decide) (by decide)) rfl dX9_count_53 ?_
    obtain rfl := (Option.some.inj ht1_0)
    exact tw_iret C hK rfl rfl dX9_count_56
  have hf1_0 := ite_f hc1_0 h
  by_cases hc1_1 : a1 = 1
  · have ht1_1 := ite_t hc1_1 hf1_0
    refine tw_tabZ (tgt := 57) C dX9_count_3 (1) (by rw [hc1_1]; decide) (by decide) (by decide) rfl (by decide) ?_
    refine tw_iconst (v := 0) C dX9_count_57 (by decide) ?_
    refine tw_istore_n (lv' := [(0, rv K (9, 0)), (1, .int a1), (2, .int (0 : Int32)), (3, .int (0 : Int32))]) C [1, 2, 3, 0] dX9_count_58 rfl (by rw [hnL]; decide) rfl ?_
    refine tw_sub [0, 2, 3] rfl ?_
    refine lpF_ct (G := fun (q : Int32 × Int32) => match q with | (x1, x2) => TW K 59 [(0, rv K (9, 0)), (2, .int x1), (3, .int x2)] [] σ) ?_ ht1_1
    rintro ⟨x1, x2⟩ w2 hx2 hk2
    show TW K 59 [(0, rv K (9, 0)), (2, .int x1), (3, .int x2)] [] σ
    refine tw_iload_n (i := 3) (z := 2) C dX9_count_59 rfl rfl ?_
    refine tw_aload_n (i := 0) (z := 0) (r := (9, 0)) C dX9_count_60 rfl rfl ?_
    refine tw_getI C fl_RX9_193 rfl (wcells_mem (f := 9) (j := 0) (by decide) (by decide)) rfl dX9_count_61 ?_
    refine tw_ic_ge (tgt := 90) C dX9_count_64 (by decide) (fun hc3 => ?_) (fun hc3 => ?_)
    · have ht3 := ite_t hc3 hx2
      refine tw_iload_n (i := 2) (z := 1) C dX9_count_90 rfl rfl ?_
      have e4 := lp_x ht3 hk2
      obtain rfl := (Option.some.inj e4)
      exact tw_iret C hK rfl rfl dX9_count_91
    · have hf3 := ite_f hc3 hx2
      refine tw_iload_n (i := 2) (z := 1) C dX9_count_67 rfl rfl ?_
      refine tw_aload_n (i := 0) (z := 0) (r := (9, 0)) C dX9_count_68 rfl rfl ?_
      refine tw_getR (g := 39) (z := 0) (j' := 0) C fl_RX9_41 rfl (wcells_mem (f := 9) (j := 0) (by decide) (by decide)) rfl rfl dX9_count_69 ?_
      refine tw_iload_n (i := 3) (z := 2) C dX9_count_72 rfl rfl ?_
      obtain ⟨hb5, eh5⟩ := grd_some hf3
      refine tw_zald (r := (39, 0)) C rfl (wcells_mem (f := 39) (j := 0) (by decide) (by decide)) hb5 dX9_count_73 ?_
      obtain ⟨x3, hx6, hq6⟩ := bnd_ex eh5
      have hJ6 : TW K 82 [(0, rv K (9, 0)), (3, .int x2)] [.int x3, .int x1] σ := by
        refine tw_iadd C dX9_count_82 ?_
        obtain ⟨x4, ex8, eh8⟩ := bnd_ex hq6
        refine tw_topi ex8.symm ?_
        refine tw_istore_n (lv' := [(0, rv K (9, 0)), (2, .int x4), (3, .int x2)]) C [1, 0, 2] dX9_count_83 rfl (by rw [hnL]; decide) rfl ?_
        obtain ⟨x5, ex9, eh9⟩ := bnd_ex eh8
        refine tw_iinc (z := 2) (v := x5) (lv' := [(0, rv K (9, 0)), (2, .int x4), (3, .int x5)]) C [1, 2, 0] dX9_count_84 rfl ex9 (by rw [hnL]; decide) rfl ?_
        refine tw_goto (tgt := 59) C dX9_count_87 (by decide) ?_
        have hz := lp_c eh9 hk2
        exact hz
      refine tw_if_eq (tgt := 81) C dX9_count_74 (by decide) (fun hc7 => ?_) (fun hc7 => ?_)
      · have ht7 := ite_t hc7 hx6
        refine tw_iconst (v := 0) C dX9_count_81 (by decide) ?_
        refine tw_sub [0, 2] rfl ?_
        obtain rfl := ht7
        exact hJ6
      · have hf7 := ite_f hc7 hx6
        refine tw_iconst (v := 1) C dX9_count_77 (by decide) ?_
        refine tw_goto (tgt := 82) C dX9_count_78 (by decide) ?_
        refine tw_sub [0, 2] rfl ?_
        obtain rfl := hf7
        exact hJ6
  have hf1_1 := ite_f hc1_1 hf1_0
  by_cases hc1_2 : a1 = 2
  · have ht1_2 := ite_t hc1_2 hf1_1
    refine tw_tabZ (tgt := 92) C dX9_count_3 (2) (by rw [hc1_2]; decide) (by decide) (by decide) rfl (by decide) ?_
    refine tw_aload_n (i := 0) (z := 0) (r := (9, 0)) C dX9_count_92 rfl rfl ?_
    refine tw_getI C fl_RX9_278 rfl (wcells_mem (f := 9) (j := 0) (by decide) (by decide)) rfl dX9_count_93 ?_
    obtain rfl := (Option.some.inj ht1_2)
    exact tw_iret C hK rfl rfl dX9_count_96
  have hf1_2 := ite_f hc1_2 hf1_1
  by_cases hc1_3 : a1 = 3
  · have ht1_3 := ite_t hc1_3 hf1_2
    refine tw_tabZ (tgt := 97) C dX9_count_3 (3) (by rw [hc1_3]; decide) (by decide) (by decide) rfl (by decide) ?_
    refine tw_iconst (v := 0) C dX9_count_97 (by decide) ?_
    refine tw_istore_n (lv' := [(0, rv K (9, 0)), (1, .int a1), (2, .int (0 : Int32)), (3, .int (0 : Int32))]) C [1, 2, 3, 0] dX9_count_98 rfl (by rw [hnL]; decide) rfl ?_
    refine tw_sub [0, 2, 3] rfl ?_
    refine lpF_ct (G := fun (q : Int32 × Int32) => match q with | (x6, x7) => TW K 99 [(0, rv K (9, 0)), (2, .int x6), (3, .int x7)] [] σ) ?_ ht1_3
    rintro ⟨x6, x7⟩ w10 hx10 hk10
    show TW K 99 [(0, rv K (9, 0)), (2, .int x6), (3, .int x7)] [] σ
    refine tw_iload_n (i := 3) (z := 2) C dX9_count_99 rfl rfl ?_
    refine tw_aload_n (i := 0) (z := 0) (r := (9, 0)) C dX9_count_100 rfl rfl ?_
    refine tw_getI C fl_RX9_278 rfl (wcells_mem (f := 9) (j := 0) (by decide) (by decide)) rfl dX9_count_101 ?_
    refine tw_ic_ge (tgt := 130) C dX9_count_104 (by decide) (fun hc11 => ?_) (fun hc11 => ?_)
    · have ht11 := ite_t hc11 hx10
      refine tw_iload_n (i := 2) (z := 1) C dX9_count_130 rfl rfl ?_
      have e12 := lp_x ht11 hk10
      obtain rfl := (Option.some.inj e12)
      exact tw_iret C hK rfl rfl dX9_count_131
    · have hf11 := ite_f hc11 hx10
      refine tw_iload_n (i := 2) (z := 1) C dX9_count_107 rfl rfl ?_
      refine tw_aload_n (i := 0) (z := 0) (r := (9, 0)) C dX9_count_108 rfl rfl ?_
      refine tw_getR (g := 46) (z := 0) (j' := 0) C fl_RX9_62 rfl (wcells_mem (f := 9) (j := 0) (by decide) (by decide)) rfl rfl dX9_count_109 ?_
      refine tw_iload_n (i := 3) (z := 2) C dX9_count_112 rfl rfl ?_
      obtain ⟨hb13, eh13⟩ := grd_some hf11
      refine tw_zald (r := (46, 0)) C rfl (wcells_mem (f := 46) (j := 0) (by decide) (by decide)) hb13 dX9_count_113 ?_
      obtain ⟨x8, hx14, hq14⟩ := bnd_ex eh13
      have hJ14 : TW K 122 [(0, rv K (9, 0)), (3, .int x7)] [.int x8, .int x6] σ := by
        refine tw_iadd C dX9_count_122 ?_
        obtain ⟨x9, ex16, eh16⟩ := bnd_ex hq14
        refine tw_topi ex16.symm ?_
        refine tw_istore_n (lv' := [(0, rv K (9, 0)), (2, .int x9), (3, .int x7)]) C [1, 0, 2] dX9_count_123 rfl (by rw [hnL]; decide) rfl ?_
        obtain ⟨x10, ex17, eh17⟩ := bnd_ex eh16
        refine tw_iinc (z := 2) (v := x10) (lv' := [(0, rv K (9, 0)), (2, .int x9), (3, .int x10)]) C [1, 2, 0] dX9_count_124 rfl ex17 (by rw [hnL]; decide) rfl ?_
        refine tw_goto (tgt := 99) C dX9_count_127 (by decide) ?_
        have hz := lp_c eh17 hk10
        exact hz
      refine tw_if_eq (tgt := 121) C dX9_count_114 (by decide) (fun hc15 => ?_) (fun hc15 => ?_)
      · have ht15 := ite_t hc15 hx14
        refine tw_iconst (v := 0) C dX9_count_121 (by decide) ?_
        refine tw_sub [0, 2] rfl ?_
        obtain rfl := ht15
        exact hJ14
      · have hf15 := ite_f hc15 hx14
        refine tw_iconst (v := 1) C dX9_count_117 (by decide) ?_
        refine tw_goto (tgt := 122) C dX9_count_118 (by decide) ?_
        refine tw_sub [0, 2] rfl ?_
        obtain rfl := hf15
        exact hJ14
  have hf1_3 := ite_f hc1_3 hf1_2
  by_cases hc1_4 : a1 = 4
  · have ht1_4 := ite_t hc1_4 hf1_3
    refine tw_tabZ (tgt := 132) C dX9_count_3 (4) (by rw [hc1_4]; decide) (by decide) (by decide) rfl (by decide) ?_
    refine tw_iconst (v := 0) C dX9_count_132 (by decide) ?_
    refine tw_istore_n (lv' := [(0, rv K (9, 0)), (1, .int a1), (2, .int (0 : Int32)), (3, .int (0 : Int32))]) C [1, 2, 3, 0] dX9_count_133 rfl (by rw [hnL]; decide) rfl ?_
    refine tw_sub [0, 2, 3] rfl ?_
    refine lpF_ct (G := fun (q : Int32 × Int32) => match q with | (x11, x12) => TW K 134 [(0, rv K (9, 0)), (2, .int x11), (3, .int x12)] [] σ) ?_ ht1_4
    rintro ⟨x11, x12⟩ w18 hx18 hk18
    show TW K 134 [(0, rv K (9, 0)), (2, .int x11), (3, .int x12)] [] σ
    refine tw_iload_n (i := 3) (z := 2) C dX9_count_134 rfl rfl ?_
    refine tw_bipush (v := 11) C dX9_count_135 (by decide) ?_
    refine tw_ic_ge (tgt := 155) C dX9_count_137 (by decide) (fun hc19 => ?_) (fun hc19 => ?_)
    · have ht19 := ite_t hc19 hx18
      refine tw_iload_n (i := 2) (z := 1) C dX9_count_155 rfl rfl ?_
      have e20 := lp_x ht19 hk18
      obtain rfl := (Option.some.inj e20)
      exact tw_iret C hK rfl rfl dX9_count_156
    · have hf19 := ite_f hc19 hx18
      refine tw_iload_n (i := 2) (z := 1) C dX9_count_140 rfl rfl ?_
      refine tw_aload_n (i := 0) (z := 0) (r := (9, 0)) C dX9_count_141 rfl rfl ?_
      refine tw_getR (g := 29) (z := 0) (j' := 0) C fl_RX9_7 rfl (wcells_mem (f := 9) (j := 0) (by decide) (by decide)) rfl rfl dX9_count_142 ?_
      refine tw_iload_n (i := 3) (z := 2) C dX9_count_145 rfl rfl ?_
      obtain ⟨hb21, eh21⟩ := grd_some hf19
      refine tw_iald (r := (29, 0)) C (ia_of rfl (by decide)) hb21 dX9_count_146 ?_
      refine tw_iadd C dX9_count_147 ?_
      obtain ⟨x13, ex22, eh22⟩ := bnd_ex eh21
      refine tw_topi ex22.symm ?_
      refine tw_istore_n (lv' := [(0, rv K (9, 0)), (2, .int x13), (3, .int x12)]) C [1, 0, 2] dX9_count_148 rfl (by rw [hnL]; decide) rfl ?_
      obtain ⟨x14, ex23, eh23⟩ := bnd_ex eh22
      refine tw_iinc (z := 2) (v := x14) (lv' := [(0, rv K (9, 0)), (2, .int x13), (3, .int x14)]) C [1, 2, 0] dX9_count_149 rfl ex23 (by rw [hnL]; decide) rfl ?_
      refine tw_goto (tgt := 134) C dX9_count_152 (by decide) ?_
      have hz := lp_c eh23 hk18
      exact hz
  have hf1_4 := ite_f hc1_4 hf1_3
  by_cases hc1_5 : a1 = 5
  · have ht1_5 := ite_t hc1_5 hf1_4
    refine tw_tabZ (tgt := 157) C dX9_count_3 (5) (by rw [hc1_5]; decide) (by decide) (by decide) rfl (by decide) ?_
    refine tw_aload_n (i := 0) (z := 0) (r := (9, 0)) C dX9_count_157 rfl rfl ?_
    refine tw_getI C fl_RX9_68 rfl (wcells_mem (f := 9) (j := 0) (by decide) (by decide)) rfl dX9_count_158 ?_
    obtain rfl := (Option.some.inj ht1_5)
    exact tw_iret C hK rfl rfl dX9_count_161
  have hf1_5 := ite_f hc1_5 hf1_4
  by_cases hc1_6 : a1 = 6
  · have ht1_6 := ite_t hc1_6 hf1_5
    refine tw_tabZ (tgt := 162) C dX9_count_3 (6) (by rw [hc1_6]; decide) (by decide) (by decide) rfl (by decide) ?_
    refine tw_aload_n (i := 0) (z := 0) (r := (9, 0)) C dX9_count_162 rfl rfl ?_
    refine tw_getI C fl_RX9_72 rfl (wcells_mem (f := 9) (j := 0) (by decide) (by decide)) rfl dX9_count_163 ?_
    obtain rfl := (Option.some.inj ht1_6)
    exact tw_iret C hK rfl rfl dX9_count_166
  have hf1_6 := ite_f hc1_6 hf1_5
  by_cases hc1_7 : a1 = 7
  · have ht1_7 := ite_t hc1_7 hf1_6
    refine tw_tabZ (tgt := 167) C dX9_count_3 (7) (by rw [hc1_7]; decide) (by decide) (by decide) rfl (by decide) ?_
    refine tw_aload_n (i := 0) (z := 0) (r := (9, 0)) C dX9_count_167 rfl rfl ?_
    refine tw_getI C fl_RX9_75 rfl (wcells_mem (f := 9) (j := 0) (by decide) (by decide)) rfl dX9_count_168 ?_
    obtain rfl := (Option.some.inj ht1_7)
    exact tw_iret C hK rfl rfl dX9_count_171
  have hf1_7 := ite_f hc1_7 hf1_6
  by_cases hc1_8 : a1 = 8
  · have ht1_8 := ite_t hc1_8 hf1_7
    refine tw_tabZ (tgt := 172) C dX9_count_3 (8) (by rw [hc1_8]; decide) (by decide) (by decide) rfl (by decide) ?_
    refine tw_aload_n (i := 0) (z := 0) (r := (9, 0)) C dX9_count_172 rfl rfl ?_
    refine tw_getI C fl_RX9_318 rfl (wcells_mem (f := 9) (j := 0) (by decide) (by decide)) rfl dX9_count_173 ?_
    obtain rfl := (Option.some.inj ht1_8)
    exact tw_iret C hK rfl rfl dX9_count_176
  have hf1_8 := ite_f hc1_8 hf1_7
  have hT1 : TW K 177 [(0, rv K (9, 0)), (1, .int a1), (2, .int (0 : Int32))] [] σ := by
    refine tw_bipush (v := (-2)) C dX9_count_177 (by decide) ?_
    obtain rfl := (Option.some.inj hf1_8)
    exact tw_iret C hK rfl rfl dX9_count_179
  have hn1_0 : ¬ (a1).toInt = 0 := lv_neT (k := 0) hc1_0 (by decide)
  have hn1_1 : ¬ (a1).toInt = 1 := lv_neT (k := 1) hc1_1 (by decide)
  have hn1_2 : ¬ (a1).toInt = 2 := lv_neT (k := 2) hc1_2 (by decide)
  have hn1_3 : ¬ (a1).toInt = 3 := lv_neT (k := 3) hc1_3 (by decide)
  have hn1_4 : ¬ (a1).toInt = 4 := lv_neT (k := 4) hc1_4 (by decide)
  have hn1_5 : ¬ (a1).toInt = 5 := lv_neT (k := 5) hc1_5 (by decide)
  have hn1_6 : ¬ (a1).toInt = 6 := lv_neT (k := 6) hc1_6 (by decide)
  have hn1_7 : ¬ (a1).toInt = 7 := lv_neT (k := 7) hc1_7 (by decide)
  have hn1_8 : ¬ (a1).toInt = 8 := lv_neT (k := 8) hc1_8 (by decide)
  rcases (show (a1).toInt < 0 ∨ 8 < (a1).toInt by omega) with hz | hz
  · exact tw_tabOut (tgt := 177) C dX9_count_3 (Or.inl hz) (by decide) hT1
  · exact tw_tabOut (tgt := 177) C dX9_count_3 (Or.inr hz) (by decide) hT1

