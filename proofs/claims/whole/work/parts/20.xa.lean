def rfn (h b m i : Nat) : Nat → Option Nat := fun j => if j < i then some (h + (b + m * j)) else none
theorem rfn_0 (h b m : Nat) : rfn h b m 0 = fun _ => none := by funext j; unfold rfn; rw [if_neg (by omega)]
theorem rfn_up (h b m i : Nat) : va_up (rfn h b m i) i (some (h + (b + m * i))) = rfn h b m (i + 1) := by
  funext j
  unfold rfn va_up
  by_cases c : j = i
  · subst c; simp
  · by_cases d : j < i
    · simp [c, d, show j < i + 1 by omega]
    · simp [c, d, show ¬ j < i + 1 by omega]
abbrev rent (G : Gx) (t0 N : Nat) (f : Nat → Option Nat) : va_E := .inl (G.2.2.1 t0, N, .inr (.inr (.inr (.inr f))))
theorem nl_RX8_9 : NL RX8 9 1 [.null, .null, .null, .int 0, .int 0, .int 0] := ⟨RX1, TX1, 6, tyX1, rfl, rfl, inw1, tyX1_ok, by decide +kernel, (inTw 108 (by decide +kernel) rfl), (inTw 239 (by decide +kernel) rfl), (inTw 92 (by decide +kernel) rfl)⟩
theorem mi_X1_init : MI yX1_init cX1_init 1 none 0 := ⟨(inTw 242 (by decide +kernel) rfl), (inTw 92 (by decide +kernel) rfl), by decide, by decide, by decide, by decide +kernel⟩
theorem is_X1_init : Cond.instanceMethod yX1_init ∈ Tw := (inTw 241 (by decide +kernel) rfl)
theorem mln_RX8_86 : Cond.methodLink RX8 86 yX1_init ∈ Tw := (inTw 240 (by decide +kernel) rfl)
theorem lp_codes {K : Kx} (C : Cx K cX8_init RX8) {h : Nat} (Y : Yx K h) {d : Nat} (hd : 4 ≤ d) (hR : RmOk K (d - 1)) (hRo : Rof K = rmc d 119 7818) (hnL : nLof K = 2) {F : Nat → va_E} {fs : List Value} (h0 : F 0 = .inr (8, fs)) (hf : fs[0]? = some (.ref (h + 1)))
    (hF : ∀ i, i < 11 → ∀ k e, ([.inr (1, [.ref (h + ((20 + 4 * i) + 1)), .ref (h + ((20 + 4 * i) + 2)), .ref (h + ((20 + 4 * i) + 3)), .int 0, .int (-1), .int 0]), .inl (K.1.2.2.1 1, 80, .inl (fun _ => 0)), .inl (K.1.2.2.1 0, 17, .inl (wpf)), .inl (K.1.2.2.1 0, 70, .inl (fun _ => (-1)))] : List va_E)[k]? = some e → F ((20 + 4 * i) + k) = e)
    (done : TC K h 63 6518 146 [(0, .ref (h + 0)), (1, .int (nI 11))] [] 64 (fE F 1 (rent K.1 3 11 (rfn h 20 4 11)))) :
    ∀ t i : Nat, i ≤ 11 → 11 - i < t → TC K h (19 + 4 * i) (4615 + 173 * i) 121 [(0, .ref (h + 0)), (1, .int (nI i))] [] (20 + 4 * i) (fE F 1 (rent K.1 3 11 (rfn h 20 4 i)))
  | 0, i, _, ht => by omega
  | t + 1, i, hi, ht => by
    refine tc_iload_n (i := 1) (z := 1) C dX8_init_121 rfl rfl ?_
    refine tc_bipush (v := nI 11) C dX8_init_122 (by decide) ?_
    refine tc_ic_ge (tgt := 146) C dX8_init_124 (by decide) (fun hc => ?_) (fun hc => ?_)
    · have e : i = 11 := by
        have := (nI_leI (a := 11) (b := i) (by decide) (by omega)).mp hc
        omega
      subst e
      exact done
    · have hlt : i < 11 := by
        rcases Nat.lt_or_ge i 11 with q | q
        · exact q
        · exact absurd ((nI_leI (a := 11) (b := i) (by decide) (by omega)).mpr q) hc
      refine tc_aload_n (i := 0) (z := 0) C dX8_init_127 rfl rfl ?_
      refine tc_getF C fl_RX8_11 (by omega) (by rw [fE_ne (by decide)]; exact h0) hf dX8_init_128 ?_
      refine tc_iload_n (i := 1) (z := 1) C dX8_init_131 rfl rfl ?_
      generalize hE1 : fE F 1 (rent K.1 3 11 (rfn h 20 4 i)) = E1
      refine tc_new (E' := uE E1 (20 + 4 * i) [.inr (1, [.null, .null, .null, .int 0, .int 0, .int 0])]) C nl_RX8_9 (by rw [hRo]; show _ ≤ 119; omega) (by rw [hRo]; show _ + 6 ≤ 7818; omega) dX8_init_132 (uE_at (k := 0) rfl) (fun o ho => uE_lt ho) ?_
      refine tc_dup C dX8_init_135 rfl ?_
      refine tc_callI C Y hR (kc_X1 K.1 Y.A (d - 1) (by omega) (20 + 4 * i) E1) mi_X1_init is_X1_init rfl mln_RX8_86 (Nat.le_of_ble_eq_true rfl) (by rw [hRo]; show _ ≤ 119; omega) (by rw [hRo]; show _ + 6 + 167 ≤ 7818; omega) dX8_init_136 ?_
      refine tc_aast (t0 := 3) (N := 11) (f := rfn h 20 4 i) (r := (RX1, TX1, 6)) (E' := fE (uE E1 (20 + 4 * i) [.inr (1, [.ref (h + ((20 + 4 * i) + 1)), .ref (h + ((20 + 4 * i) + 2)), .ref (h + ((20 + 4 * i) + 3)), .int 0, .int (-1), .int 0]), .inl (K.1.2.2.1 1, 80, .inl (fun _ => 0)), .inl (K.1.2.2.1 0, 17, .inl (wpf)), .inl (K.1.2.2.1 0, 70, .inl (fun _ => (-1)))]) 1 (rent K.1 3 11 (rfn h 20 4 (i + 1)))) C Y (o := 1) (o2 := (20 + 4 * i)) (by omega) (by rw [uE_lt (by omega), ← hE1, fE_at]) (fun _ => rfl) (by omega) (uE_at (k := 0) rfl) rfl (by rw [inb_nI (by omega)]; exact decide_eq_true hlt) dX8_init_139 (by rw [fE_at, show tn (nI i) = i from nI_clamp (by omega), rfn_up]) (fun o' ho' => fE_ne ho') ?_
      refine tc_iinc (lv' := [(0, .ref (h + 0)), (1, .int (nI (i + 1)))]) (z := 1) C [1, 0] dX8_init_140 rfl (nI_add i 1) (by rw [hnL]; decide) rfl ?_
      refine tc_goto (tgt := 121) C dX8_init_143 (by decide) ?_
      refine tc_eq (n' := 20 + 4 * (i + 1)) (ce' := 19 + 4 * (i + 1)) (sl' := 4615 + 173 * (i + 1)) (by omega) (by omega) (by show _ = _ + 6 + 167; omega) ?_
      refine tc_congr (E' := fE F 1 (rent K.1 3 11 (rfn h 20 4 (i + 1)))) (fun o ho => ?_) (lp_codes C Y hd hR hRo hnL h0 hf hF done t (i + 1) hlt (by omega))
      by_cases c : o = 1
      · subst c
        rw [fE_at, fE_at]
      · rw [fE_ne c, fE_ne c]
        by_cases q : o < (20 + 4 * i)
        · rw [uE_lt q, ← hE1, fE_ne c]
        · have hm : o - (20 + 4 * i) < 4 := by omega
          obtain ⟨kk, hkk⟩ : ∃ kk, o = (20 + 4 * i) + kk := ⟨o - (20 + 4 * i), by omega⟩
          subst hkk
          have hk2 : kk < 4 := by omega
          have hx : ∀ kk, kk < 4 → ∃ e, ([.inr (1, [.ref (h + ((20 + 4 * i) + 1)), .ref (h + ((20 + 4 * i) + 2)), .ref (h + ((20 + 4 * i) + 3)), .int 0, .int (-1), .int 0]), .inl (K.1.2.2.1 1, 80, .inl (fun _ => 0)), .inl (K.1.2.2.1 0, 17, .inl (wpf)), .inl (K.1.2.2.1 0, 70, .inl (fun _ => (-1)))] : List va_E)[kk]? = some e := fun kk hk => ⟨_, List.getElem?_eq_getElem hk⟩
          obtain ⟨e, he⟩ := hx kk hk2
          rw [hF i hlt kk e he]
          exact (uE_at he).symm
theorem nl_RX8_15 : NL RX8 15 3 [.null, .null, .int 0, .int 0] := ⟨RX3, TX3, 4, tyX3, rfl, rfl, inw3, tyX3_ok, by decide +kernel, (inTw 110 (by decide +kernel) rfl), (inTw 272 (by decide +kernel) rfl), (inTw 93 (by decide +kernel) rfl)⟩
theorem mi_X3_init : MI yX3_init cX3_init 1 none 0 := ⟨(inTw 275 (by decide +kernel) rfl), (inTw 93 (by decide +kernel) rfl), by decide, by decide, by decide, by decide +kernel⟩
theorem is_X3_init : Cond.instanceMethod yX3_init ∈ Tw := (inTw 274 (by decide +kernel) rfl)
theorem mln_RX8_87 : Cond.methodLink RX8 87 yX3_init ∈ Tw := (inTw 273 (by decide +kernel) rfl)
theorem lp_matches {K : Kx} (C : Cx K cX8_init RX8) {h : Nat} (Y : Yx K h) {d : Nat} (hd : 4 ≤ d) (hR : RmOk K (d - 1)) (hRo : Rof K = rmc d 119 7818) (hnL : nLof K = 2) {F : Nat → va_E} {fs : List Value} (h0 : F 0 = .inr (8, fs)) (hf : fs[1]? = some (.ref (h + 2)))
    (hF : ∀ i, i < 12 → ∀ k e, ([.inr (3, [.ref (h + ((64 + 3 * i) + 1)), .ref (h + ((64 + 3 * i) + 2)), .int 0, .int 0]), .inl (K.1.2.2.1 0, 40, .inl (fun _ => 0)), .inl (K.1.2.2.1 0, 40, .inl (fun _ => (-1)))] : List va_E)[k]? = some e → F ((64 + 3 * i) + k) = e)
    (done : TC K h 99 7526 173 [(0, .ref (h + 0)), (1, .int (nI 12))] [] 100 (fE F 2 (rent K.1 4 12 (rfn h 64 3 12)))) :
    ∀ t i : Nat, i ≤ 12 → 12 - i < t → TC K h (63 + 3 * i) (6518 + 84 * i) 148 [(0, .ref (h + 0)), (1, .int (nI i))] [] (64 + 3 * i) (fE F 2 (rent K.1 4 12 (rfn h 64 3 i)))
  | 0, i, _, ht => by omega
  | t + 1, i, hi, ht => by
    refine tc_iload_n (i := 1) (z := 1) C dX8_init_148 rfl rfl ?_
    refine tc_bipush (v := nI 12) C dX8_init_149 (by decide) ?_
    refine tc_ic_ge (tgt := 173) C dX8_init_151 (by decide) (fun hc => ?_) (fun hc => ?_)
    · have e : i = 12 := by
        have := (nI_leI (a := 12) (b := i) (by decide) (by omega)).mp hc
        omega
      subst e
      exact done
    · have hlt : i < 12 := by
        rcases Nat.lt_or_ge i 12 with q | q
        · exact q
        · exact absurd ((nI_leI (a := 12) (b := i) (by decide) (by omega)).mpr q) hc
      refine tc_aload_n (i := 0) (z := 0) C dX8_init_154 rfl rfl ?_
      refine tc_getF C fl_RX8_17 (by omega) (by rw [fE_ne (by decide)]; exact h0) hf dX8_init_155 ?_
      refine tc_iload_n (i := 1) (z := 1) C dX8_init_158 rfl rfl ?_
      generalize hE1 : fE F 2 (rent K.1 4 12 (rfn h 64 3 i)) = E1
      refine tc_new (E' := uE E1 (64 + 3 * i) [.inr (3, [.null, .null, .int 0, .int 0])]) C nl_RX8_15 (by rw [hRo]; show _ ≤ 119; omega) (by rw [hRo]; show _ + 4 ≤ 7818; omega) dX8_init_159 (uE_at (k := 0) rfl) (fun o ho => uE_lt ho) ?_
      refine tc_dup C dX8_init_162 rfl ?_
      refine tc_callI C Y hR (kc_X3 K.1 Y.A (d - 1) (by omega) (64 + 3 * i) E1) mi_X3_init is_X3_init rfl mln_RX8_87 (Nat.le_of_ble_eq_true rfl) (by rw [hRo]; show _ ≤ 119; omega) (by rw [hRo]; show _ + 4 + 80 ≤ 7818; omega) dX8_init_163 ?_
      refine tc_aast (t0 := 4) (N := 12) (f := rfn h 64 3 i) (r := (RX3, TX3, 4)) (E' := fE (uE E1 (64 + 3 * i) [.inr (3, [.ref (h + ((64 + 3 * i) + 1)), .ref (h + ((64 + 3 * i) + 2)), .int 0, .int 0]), .inl (K.1.2.2.1 0, 40, .inl (fun _ => 0)), .inl (K.1.2.2.1 0, 40, .inl (fun _ => (-1)))]) 2 (rent K.1 4 12 (rfn h 64 3 (i + 1)))) C Y (o := 2) (o2 := (64 + 3 * i)) (by omega) (by rw [uE_lt (by omega), ← hE1, fE_at]) (fun _ => rfl) (by omega) (uE_at (k := 0) rfl) rfl (by rw [inb_nI (by omega)]; exact decide_eq_true hlt) dX8_init_166 (by rw [fE_at, show tn (nI i) = i from nI_clamp (by omega), rfn_up]) (fun o' ho' => fE_ne ho') ?_
      refine tc_iinc (lv' := [(0, .ref (h + 0)), (1, .int (nI (i + 1)))]) (z := 1) C [1, 0] dX8_init_167 rfl (nI_add i 1) (by rw [hnL]; decide) rfl ?_
      refine tc_goto (tgt := 148) C dX8_init_170 (by decide) ?_
      refine tc_eq (n' := 64 + 3 * (i + 1)) (ce' := 63 + 3 * (i + 1)) (sl' := 6518 + 84 * (i + 1)) (by omega) (by omega) (by show _ = _ + 4 + 80; omega) ?_
      refine tc_congr (E' := fE F 2 (rent K.1 4 12 (rfn h 64 3 (i + 1)))) (fun o ho => ?_) (lp_matches C Y hd hR hRo hnL h0 hf hF done t (i + 1) hlt (by omega))
      by_cases c : o = 2
      · subst c
        rw [fE_at, fE_at]
      · rw [fE_ne c, fE_ne c]
        by_cases q : o < (64 + 3 * i)
        · rw [uE_lt q, ← hE1, fE_ne c]
        · have hm : o - (64 + 3 * i) < 3 := by omega
          obtain ⟨kk, hkk⟩ : ∃ kk, o = (64 + 3 * i) + kk := ⟨o - (64 + 3 * i), by omega⟩
          subst hkk
          have hk2 : kk < 3 := by omega
          have hx : ∀ kk, kk < 3 → ∃ e, ([.inr (3, [.ref (h + ((64 + 3 * i) + 1)), .ref (h + ((64 + 3 * i) + 2)), .int 0, .int 0]), .inl (K.1.2.2.1 0, 40, .inl (fun _ => 0)), .inl (K.1.2.2.1 0, 40, .inl (fun _ => (-1)))] : List va_E)[kk]? = some e := fun kk hk => ⟨_, List.getElem?_eq_getElem hk⟩
          obtain ⟨e, he⟩ := hx kk hk2
          rw [hF i hlt kk e he]
          exact (uE_at he).symm
theorem nl_RX8_21 : NL RX8 21 0 [.int 0, .int 0, .int 0] := ⟨RX0, TX0, 3, tyX0, rfl, rfl, inw0, tyX0_ok, by decide +kernel, (inTw 112 (by decide +kernel) rfl), (inTw 293 (by decide +kernel) rfl), (inTw 94 (by decide +kernel) rfl)⟩
theorem mi_X0_init : MI yX0_init cX0_init 1 none 0 := ⟨(inTw 296 (by decide +kernel) rfl), (inTw 94 (by decide +kernel) rfl), by decide, by decide, by decide, by decide +kernel⟩
theorem is_X0_init : Cond.instanceMethod yX0_init ∈ Tw := (inTw 295 (by decide +kernel) rfl)
theorem mln_RX8_88 : Cond.methodLinkNest RX8 88 yX0_init "ElevenCodes" ∈ nestWs := (inNw 294 (by decide +kernel) rfl)
theorem lp_clubs {K : Kx} (C : Cx K cX8_init RX8) {h : Nat} (Y : Yx K h) {d : Nat} (hd : 4 ≤ d) (hR : RmOk K (d - 1)) (hRo : Rof K = rmc d 119 7818) (hnL : nLof K = 2) {F : Nat → va_E} {fs : List Value} (h0 : F 0 = .inr (8, fs)) (hf : fs[2]? = some (.ref (h + 3)))
    (hF : ∀ i, i < 12 → ∀ k e, ([.inr (0, [.int 0, .int 0, .int 0])] : List va_E)[k]? = some e → F ((100 + 1 * i) + k) = e)
    (done : TC K h 111 7562 200 [(0, .ref (h + 0)), (1, .int (nI 12))] [] 112 (fE F 3 (rent K.1 5 12 (rfn h 100 1 12)))) :
    ∀ t i : Nat, i ≤ 12 → 12 - i < t → TC K h (99 + 1 * i) (7526 + 3 * i) 175 [(0, .ref (h + 0)), (1, .int (nI i))] [] (100 + 1 * i) (fE F 3 (rent K.1 5 12 (rfn h 100 1 i)))
  | 0, i, _, ht => by omega
  | t + 1, i, hi, ht => by
    refine tc_iload_n (i := 1) (z := 1) C dX8_init_175 rfl rfl ?_
    refine tc_bipush (v := nI 12) C dX8_init_176 (by decide) ?_
    refine tc_ic_ge (tgt := 200) C dX8_init_178 (by decide) (fun hc => ?_) (fun hc => ?_)
    · have e : i = 12 := by
        have := (nI_leI (a := 12) (b := i) (by decide) (by omega)).mp hc
        omega
      subst e
      exact done
    · have hlt : i < 12 := by
        rcases Nat.lt_or_ge i 12 with q | q
        · exact q
        · exact absurd ((nI_leI (a := 12) (b := i) (by decide) (by omega)).mpr q) hc
      refine tc_aload_n (i := 0) (z := 0) C dX8_init_181 rfl rfl ?_
      refine tc_getF C fl_RX8_23 (by omega) (by rw [fE_ne (by decide)]; exact h0) hf dX8_init_182 ?_
      refine tc_iload_n (i := 1) (z := 1) C dX8_init_185 rfl rfl ?_
      generalize hE1 : fE F 3 (rent K.1 5 12 (rfn h 100 1 i)) = E1
      refine tc_new (E' := uE E1 (100 + 1 * i) [.inr (0, [.int 0, .int 0, .int 0])]) C nl_RX8_21 (by rw [hRo]; show _ ≤ 119; omega) (by rw [hRo]; show _ + 3 ≤ 7818; omega) dX8_init_186 (uE_at (k := 0) rfl) (fun o ho => uE_lt ho) ?_
      refine tc_dup C dX8_init_189 rfl ?_
      refine tc_callIN C Y hR (kc_X0 K.1 Y.A (d - 1) (by omega) (100 + 1 * i) E1) mi_X0_init is_X0_init rfl mln_RX8_88 (Nat.le_of_ble_eq_true rfl) (by rw [hRo]; show _ ≤ 119; omega) (by rw [hRo]; show _ + 3 + 0 ≤ 7818; omega) dX8_init_190 ?_
      refine tc_aast (t0 := 5) (N := 12) (f := rfn h 100 1 i) (r := (RX0, TX0, 3)) (E' := fE (uE E1 (100 + 1 * i) [.inr (0, [.int 0, .int 0, .int 0])]) 3 (rent K.1 5 12 (rfn h 100 1 (i + 1)))) C Y (o := 3) (o2 := (100 + 1 * i)) (by omega) (by rw [uE_lt (by omega), ← hE1, fE_at]) (fun _ => rfl) (by omega) (uE_at (k := 0) rfl) rfl (by rw [inb_nI (by omega)]; exact decide_eq_true hlt) dX8_init_193 (by rw [fE_at, show tn (nI i) = i from nI_clamp (by omega), rfn_up]) (fun o' ho' => fE_ne ho') ?_
      refine tc_iinc (lv' := [(0, .ref (h + 0)), (1, .int (nI (i + 1)))]) (z := 1) C [1, 0] dX8_init_194 rfl (nI_add i 1) (by rw [hnL]; decide) rfl ?_
      refine tc_goto (tgt := 175) C dX8_init_197 (by decide) ?_
      refine tc_eq (n' := 100 + 1 * (i + 1)) (ce' := 99 + 1 * (i + 1)) (sl' := 7526 + 3 * (i + 1)) (by omega) (by omega) (by show _ = _ + 3 + 0; omega) ?_
      refine tc_congr (E' := fE F 3 (rent K.1 5 12 (rfn h 100 1 (i + 1)))) (fun o ho => ?_) (lp_clubs C Y hd hR hRo hnL h0 hf hF done t (i + 1) hlt (by omega))
      by_cases c : o = 3
      · subst c
        rw [fE_at, fE_at]
      · rw [fE_ne c, fE_ne c]
        by_cases q : o < (100 + 1 * i)
        · rw [uE_lt q, ← hE1, fE_ne c]
        · have hm : o - (100 + 1 * i) < 1 := by omega
          obtain ⟨kk, hkk⟩ : ∃ kk, o = (100 + 1 * i) + kk := ⟨o - (100 + 1 * i), by omega⟩
          subst hkk
          have hk2 : kk < 1 := by omega
          have hx : ∀ kk, kk < 1 → ∃ e, ([.inr (0, [.int 0, .int 0, .int 0])] : List va_E)[kk]? = some e := fun kk hk => ⟨_, List.getElem?_eq_getElem hk⟩
          obtain ⟨e, he⟩ := hx kk hk2
          rw [hF i hlt kk e he]
          exact (uE_at he).symm
theorem nl_RX8_27 : NL RX8 27 6 [.null, .int 0, .int 0, .int 0] := ⟨RX6, TX6, 4, tyX6, rfl, rfl, inw6, tyX6_ok, by decide +kernel, (inTw 114 (by decide +kernel) rfl), (inTw 308 (by decide +kernel) rfl), (inTw 95 (by decide +kernel) rfl)⟩
theorem mi_X6_init : MI yX6_init cX6_init 1 none 0 := ⟨(inTw 311 (by decide +kernel) rfl), (inTw 95 (by decide +kernel) rfl), by decide, by decide, by decide, by decide +kernel⟩
theorem is_X6_init : Cond.instanceMethod yX6_init ∈ Tw := (inTw 310 (by decide +kernel) rfl)
theorem mln_RX8_89 : Cond.methodLinkNest RX8 89 yX6_init "ElevenCodes" ∈ nestWs := (inNw 309 (by decide +kernel) rfl)
theorem lp_sheets {K : Kx} (C : Cx K cX8_init RX8) {h : Nat} (Y : Yx K h) {d : Nat} (hd : 4 ≤ d) (hR : RmOk K (d - 1)) (hRo : Rof K = rmc d 119 7818) (hnL : nLof K = 2) {F : Nat → va_E} {fs : List Value} (h0 : F 0 = .inr (8, fs)) (hf : fs[3]? = some (.ref (h + 4)))
    (hF : ∀ i, i < 4 → ∀ k e, ([.inr (6, [.ref (h + ((112 + 2 * i) + 1)), .int 1, .int 0, .int 0]), .inl (K.1.2.2.1 0, 60, .inl (fun _ => 0))] : List va_E)[k]? = some e → F ((112 + 2 * i) + k) = e)
    (done : TC K h 119 7818 226 [(0, .ref (h + 0)), (1, .int (nI 4))] [] 120 (fE F 4 (rent K.1 6 4 (rfn h 112 2 4)))) :
    ∀ t i : Nat, i ≤ 4 → 4 - i < t → TC K h (111 + 2 * i) (7562 + 64 * i) 202 [(0, .ref (h + 0)), (1, .int (nI i))] [] (112 + 2 * i) (fE F 4 (rent K.1 6 4 (rfn h 112 2 i)))
  | 0, i, _, ht => by omega
  | t + 1, i, hi, ht => by
    refine tc_iload_n (i := 1) (z := 1) C dX8_init_202 rfl rfl ?_
    refine tc_iconst (v := nI 4) C dX8_init_203 (by decide) ?_
    refine tc_ic_ge (tgt := 226) C dX8_init_204 (by decide) (fun hc => ?_) (fun hc => ?_)
    · have e : i = 4 := by
        have := (nI_leI (a := 4) (b := i) (by decide) (by omega)).mp hc
        omega
      subst e
      exact done
    · have hlt : i < 4 := by
        rcases Nat.lt_or_ge i 4 with q | q
        · exact q
        · exact absurd ((nI_leI (a := 4) (b := i) (by decide) (by omega)).mpr q) hc
      refine tc_aload_n (i := 0) (z := 0) C dX8_init_207 rfl rfl ?_
      refine tc_getF C fl_RX8_29 (by omega) (by rw [fE_ne (by decide)]; exact h0) hf dX8_init_208 ?_
      refine tc_iload_n (i := 1) (z := 1) C dX8_init_211 rfl rfl ?_
      generalize hE1 : fE F 4 (rent K.1 6 4 (rfn h 112 2 i)) = E1
      refine tc_new (E' := uE E1 (112 + 2 * i) [.inr (6, [.null, .int 0, .int 0, .int 0])]) C nl_RX8_27 (by rw [hRo]; show _ ≤ 119; omega) (by rw [hRo]; show _ + 4 ≤ 7818; omega) dX8_init_212 (uE_at (k := 0) rfl) (fun o ho => uE_lt ho) ?_
      refine tc_dup C dX8_init_215 rfl ?_
      refine tc_callIN C Y hR (kc_X6 K.1 Y.A (d - 1) (by omega) (112 + 2 * i) E1) mi_X6_init is_X6_init rfl mln_RX8_89 (Nat.le_of_ble_eq_true rfl) (by rw [hRo]; show _ ≤ 119; omega) (by rw [hRo]; show _ + 4 + 60 ≤ 7818; omega) dX8_init_216 ?_
      refine tc_aast (t0 := 6) (N := 4) (f := rfn h 112 2 i) (r := (RX6, TX6, 4)) (E' := fE (uE E1 (112 + 2 * i) [.inr (6, [.ref (h + ((112 + 2 * i) + 1)), .int 1, .int 0, .int 0]), .inl (K.1.2.2.1 0, 60, .inl (fun _ => 0))]) 4 (rent K.1 6 4 (rfn h 112 2 (i + 1)))) C Y (o := 4) (o2 := (112 + 2 * i)) (by omega) (by rw [uE_lt (by omega), ← hE1, fE_at]) (fun _ => rfl) (by omega) (uE_at (k := 0) rfl) rfl (by rw [inb_nI (by omega)]; exact decide_eq_true hlt) dX8_init_219 (by rw [fE_at, show tn (nI i) = i from nI_clamp (by omega), rfn_up]) (fun o' ho' => fE_ne ho') ?_
      refine tc_iinc (lv' := [(0, .ref (h + 0)), (1, .int (nI (i + 1)))]) (z := 1) C [1, 0] dX8_init_220 rfl (nI_add i 1) (by rw [hnL]; decide) rfl ?_
      refine tc_goto (tgt := 202) C dX8_init_223 (by decide) ?_
      refine tc_eq (n' := 112 + 2 * (i + 1)) (ce' := 111 + 2 * (i + 1)) (sl' := 7562 + 64 * (i + 1)) (by omega) (by omega) (by show _ = _ + 4 + 60; omega) ?_
      refine tc_congr (E' := fE F 4 (rent K.1 6 4 (rfn h 112 2 (i + 1)))) (fun o ho => ?_) (lp_sheets C Y hd hR hRo hnL h0 hf hF done t (i + 1) hlt (by omega))
      by_cases c : o = 4
      · subst c
        rw [fE_at, fE_at]
      · rw [fE_ne c, fE_ne c]
        by_cases q : o < (112 + 2 * i)
        · rw [uE_lt q, ← hE1, fE_ne c]
        · have hm : o - (112 + 2 * i) < 2 := by omega
          obtain ⟨kk, hkk⟩ : ∃ kk, o = (112 + 2 * i) + kk := ⟨o - (112 + 2 * i), by omega⟩
          subst hkk
          have hk2 : kk < 2 := by omega
          have hx : ∀ kk, kk < 2 → ∃ e, ([.inr (6, [.ref (h + ((112 + 2 * i) + 1)), .int 1, .int 0, .int 0]), .inl (K.1.2.2.1 0, 60, .inl (fun _ => 0))] : List va_E)[kk]? = some e := fun kk hk => ⟨_, List.getElem?_eq_getElem hk⟩
          obtain ⟨e, he⟩ := hx kk hk2
          rw [hF i hlt kk e he]
          exact (uE_at he).symm
