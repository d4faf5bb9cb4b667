/-! ===== the last cells as a list ===== -/
def uE (E : Nat → va_E) (n : Nat) (l : List va_E) : Nat → va_E := fun o => if o < n then E o else (l[o - n]?).getD (E o)
theorem uE_at {E : Nat → va_E} {n : Nat} {l : List va_E} {k : Nat} {e : va_E} (hk : l[k]? = some e) : uE E n l (n + k) = e := by
  unfold uE
  rw [if_neg (by omega), show n + k - n = k by omega, hk]
  rfl
theorem uE_lt {E : Nat → va_E} {n : Nat} {l : List va_E} {o : Nat} (ho : o < n) : uE E n l o = E o := if_pos ho
theorem uE_ge {E : Nat → va_E} {n : Nat} {l : List va_E} {o : Nat} (ho : n + l.length ≤ o) : uE E n l o = E o := by
  unfold uE
  rw [if_neg (by omega), List.getElem?_eq_none (by omega)]
  rfl
theorem uE_app (E : Nat → va_E) (n : Nat) (l lf : List va_E) : uE (uE E n l) (n + l.length) lf = uE E n (l ++ lf) := by
  funext o
  by_cases c : o < n + l.length
  · rw [uE_lt c]
    unfold uE
    by_cases d : o < n
    · rw [if_pos d, if_pos d]
    · rw [if_neg d, if_neg d, List.getElem?_append_left (by omega)]
  · have hd : ¬ o < n := by omega
    have e1 : uE E n l o = E o := uE_ge (by omega)
    unfold uE at e1 ⊢
    rw [e1, if_neg c, if_neg hd, List.getElem?_append_right (by omega), show o - n - l.length = o - (n + l.length) by omega]
theorem uE_push {E : Nat → va_E} {n : Nat} {l : List va_E} {e : va_E} {o : Nat} (ho : o < n + l.length) : uE E n (l ++ [e]) o = uE E n l o := by
  rw [← uE_app, uE_lt ho]
theorem uE_top {E : Nat → va_E} {n : Nat} {l : List va_E} {e : va_E} : uE E n (l ++ [e]) (n + l.length) = e := uE_at (by simp)
theorem uE_set {E : Nat → va_E} {n : Nat} {l : List va_E} {e : va_E} {k o : Nat} (ho : ¬ o = n + k) : uE E n (l.set k e) o = uE E n l o := by
  unfold uE
  by_cases d : o < n
  · rw [if_pos d, if_pos d]
  · rw [if_neg d, if_neg d, List.getElem?_set_ne (by omega)]
section TLs
variable {K : Kx} {cc : ByteArray} {own : String} {h ce sl pc : Nat} {ls lv' : List (Nat × Value)} {st rest : List Value} {n j j' : Nat} {E : Nat → va_E} {l l' : List va_E}
theorem tl_new (C : Cx K cc own) {idx f nf ce' sl' : Nat} {fs : List Value} (hN : NL own idx f fs) (hnf : nfl f = nf) (hlen : l.length = j) (hj : j + 1 = j') (hl : l ++ [.inr (f, fs)] = l') (hce : ce + 1 = ce') (hsl : sl + nf = sl') (hcR : ce' ≤ (Rof K).cells) (hsR : sl' ≤ (Rof K).slots) (hd : decode cc pc = .ok (.new idx, 3)) (k : TC K h ce' sl' (pc + 3) ls (.ref (h + (n + j)) :: st) (n + j') (uE E n l')) : TC K h ce sl pc ls st (n + j) (uE E n l) := by
  subst hnf; subst hlen; subst hj; subst hl; subst hce; subst hsl
  exact tc_new C hN hcR hsR hd uE_top (fun o ho => uE_push ho) k
theorem tl_newa (C : Cx K cc own) {atype : ArrayType} {ty : FieldType} {t0 N ce' sl' : Nat} {x : Int32} (hty : newarray.typeOf atype = ty) (harr : Cond.arrayClass ty ∈ Tw) (ht : ∀ cA, (tysO cA)[t0]? = some (cA t0, ty)) (hra : ∀ U cA, va_RA U cA ty → U.vm.findClass ("[" ++ ty.toString) = some cA) (hdef : defaultValue ty = .int 0)
    (hn : ¬ x < 0) (hN : x.toNatClampNeg = N) (hb : N * componentBytes ty ≤ 536870912) (hlen : l.length = j) (hj : j + 1 = j') (hl : l ++ [.inl (K.1.2.2.1 t0, N, .inl (fun _ => 0))] = l') (hce : ce + 1 = ce') (hsl : sl + N = sl') (hcR : ce' ≤ (Rof K).cells) (hsR : sl' ≤ (Rof K).slots) (hd : decode cc pc = .ok (.newarray atype, 2)) (k : TC K h ce' sl' (pc + 2) ls (.ref (h + (n + j)) :: st) (n + j') (uE E n l')) : TC K h ce sl pc ls (.int x :: st) (n + j) (uE E n l) := by
  subst hlen; subst hj; subst hl; subst hce; subst hsl
  exact tc_newa C hty harr ht hra hdef hn hN hb hcR hsR hd uE_top (fun o ho => uE_push ho) k
theorem tl_anew (C : Cx K cc own) (Y : Yx K h) {idx t0 N ce' sl' : Nat} {x : Int32} {Cn : String} (hcl : Cond.classLink own idx Cn ∈ Tw) (hov : Cn ∈ AOs) (ht : ∀ cA, (tysO cA)[t0]? = some (cA t0, .object Cn))
    (hn : ¬ x < 0) (hN : x.toNatClampNeg = N) (hb : N * 4 ≤ 536870912) (hlen : l.length = j) (hj : j + 1 = j') (hl : l ++ [.inl (K.1.2.2.1 t0, N, .inr (.inr (.inr (.inr (fun _ => none)))))] = l') (hce : ce + 1 = ce') (hsl : sl + N = sl') (hcR : ce' ≤ (Rof K).cells) (hsR : sl' ≤ (Rof K).slots) (hd : decode cc pc = .ok (.anewarray idx, 3)) (k : TC K h ce' sl' (pc + 3) ls (.ref (h + (n + j)) :: st) (n + j') (uE E n l')) : TC K h ce sl pc ls (.int x :: st) (n + j) (uE E n l) := by
  subst hlen; subst hj; subst hl; subst hce; subst hsl
  exact tc_anew C Y hcl hov ht hn hN hb hcR hsR hd uE_top (fun o ho => uE_push ho) k
theorem tl_clone (C : Cx K cc own) (Y : Yx K h) {d : Nat} (hR : RmOk K d) {idx ce' sl' : Nat} (hL : CL own idx) (hlen : l.length = j) (hj : j + 1 = j') (hl : l ++ [.inl (K.1.2.2.1 0, 17, .inl wpf)] = l') (hce : ce + 1 = ce') (hsl : sl + 17 = sl') (hcR : ce' ≤ (Rof K).cells) (hsR : sl' ≤ (Rof K).slots) (hst : (st.map fun v => v.category).sum ≤ 8) (hd : decode cc pc = .ok (.invokevirtual idx, 3))
    (k : TC K h ce' sl' (pc + 3) ls (.ref (h + (n + j)) :: st) (n + j') (uE E n l')) : TC K h ce sl pc ls (rv K wpr :: st) (n + j) (uE E n l) := by
  subst hlen; subst hj; subst hl; subst hce; subst hsl
  exact tc_clone C Y hR hL hcR hsR hst hd uE_top (fun o ho => uE_push ho) k
theorem tl_cast (C : Cx K cc own) {idx k : Nat} (hl : Cond.classLink own idx "[I" ∈ Tw) (hk : k < j) {x : vp_A} (he : l[k]? = some (.inl (K.1.2.2.1 0, x))) (hd : decode cc pc = .ok (.checkcast idx, 3)) (kk : TC K h ce sl (pc + 3) ls (.ref (h + (n + k)) :: st) (n + j) (uE E n l)) : TC K h ce sl pc ls (.ref (h + (n + k)) :: st) (n + j) (uE E n l) :=
  tc_cast C hl (Nat.add_lt_add_left hk n) (uE_at he) hd kk
theorem tl_getF (C : Cx K cc own) {idx f i k o : Nat} {ty : FieldType} {fs : List Value} {v : Value} (hF : FL own idx f i ty) (hko : n + k = o) (hk : k < j) (he : l[k]? = some (.inr (f, fs))) (hv : fs[i]? = some v) (hd : decode cc pc = .ok (.getfield idx, 3)) (kk : TC K h ce sl (pc + 3) ls (v :: st) (n + j) (uE E n l)) : TC K h ce sl pc ls (.ref (h + o) :: st) (n + j) (uE E n l) := by
  subst hko
  exact tc_getF C hF (Nat.add_lt_add_left hk n) (uE_at he) hv hd kk
theorem tl_put (C : Cx K cc own) (Y : Yx K h) {idx f i k o : Nat} {ty : FieldType} {fs : List Value} {v : Value} {fin : Bool} (hF : PL own idx f i ty fin) (hnm : nmOf K = "<init>") (hko : n + k = o) (hk : k < j) (hlen : l.length = j) (he : l[k]? = some (.inr (f, fs))) (hfl : i < fs.length) (hn : narrow ty v = v) (hfit : fits ty v = true) (hl : l.set k (.inr (f, fs.set i v)) = l') (hd : decode cc pc = .ok (.putfield idx, 3)) (kk : TC K h ce sl (pc + 3) ls st (n + j) (uE E n l')) : TC K h ce sl pc ls (v :: .ref (h + o) :: st) (n + j) (uE E n l) := by
  subst hko; subst hl; subst hlen
  exact tc_put C Y hF hnm (Nat.add_lt_add_left hk n) (uE_at he) hfl hn hfit hd (uE_at (by rw [List.getElem?_set_self hk])) (fun o' ho' => uE_set ho') kk
theorem tl_callI (C : Cx K cc own) (Y : Yx K h) {d : Nat} (hR : RmOk K d) {y : MethodName} {bytes : ByteArray} {maxL idx j0 m mc ms ce' sl' : Nat} {l0 lb lf : List va_E} (hM : MC K.1 h d y bytes maxL none [.ref (h + (n + j0))] (n + j0 + 1) (uE (uE E n l0) (n + j0) lb) none (n + j0 + m) (uE (uE E n l0) (n + j0) lf) mc ms) (hi : MI y bytes maxL none 0) (hin : Cond.instanceMethod y ∈ Tw) (hy : y.name = "<init>") (hl : Cond.methodLink own idx y ∈ Tw)
    (hl0 : l0.length = j0) (hj : j0 + 1 = j) (hj' : j0 + m = j') (hlb : l0 ++ lb = l) (hlf : l0 ++ lf = l') (hce : ce + mc = ce') (hsl : sl + ms = sl') (hcR : ce' ≤ (Rof K).cells) (hsR : sl' ≤ (Rof K).slots) (hW : (rest.map fun v => v.category).sum ≤ 8) (hd : decode cc pc = .ok (.invokespecial idx, 3)) (kk : TC K h ce' sl' (pc + 3) ls rest (n + j') (uE E n l')) : TC K h ce sl pc ls (.ref (h + (n + j0)) :: rest) (n + j) (uE E n l) := by
  subst hl0; subst hj; subst hj'; subst hlb; subst hlf; subst hce; subst hsl
  rw [uE_app, uE_app] at hM
  exact tc_callI C Y hR hM hi hin hy hl hW hcR hsR hd (tc_eq (by omega) rfl rfl kk)
theorem tl_callIN (C : Cx K cc own) (Y : Yx K h) {d : Nat} (hR : RmOk K d) {y : MethodName} {bytes : ByteArray} {maxL idx j0 m mc ms ce' sl' : Nat} {host : String} {l0 lb lf : List va_E} (hM : MC K.1 h d y bytes maxL none [.ref (h + (n + j0))] (n + j0 + 1) (uE (uE E n l0) (n + j0) lb) none (n + j0 + m) (uE (uE E n l0) (n + j0) lf) mc ms) (hi : MI y bytes maxL none 0) (hin : Cond.instanceMethod y ∈ Tw) (hy : y.name = "<init>") (hl : Cond.methodLinkNest own idx y host ∈ nestWs)
    (hl0 : l0.length = j0) (hj : j0 + 1 = j) (hj' : j0 + m = j') (hlb : l0 ++ lb = l) (hlf : l0 ++ lf = l') (hce : ce + mc = ce') (hsl : sl + ms = sl') (hcR : ce' ≤ (Rof K).cells) (hsR : sl' ≤ (Rof K).slots) (hW : (rest.map fun v => v.category).sum ≤ 8) (hd : decode cc pc = .ok (.invokespecial idx, 3)) (kk : TC K h ce' sl' (pc + 3) ls rest (n + j') (uE E n l')) : TC K h ce sl pc ls (.ref (h + (n + j0)) :: rest) (n + j) (uE E n l) := by
  subst hl0; subst hj; subst hj'; subst hlb; subst hlf; subst hce; subst hsl
  rw [uE_app, uE_app] at hM
  exact tc_callIN C Y hR hM hi hin hy hl hW hcR hsR hd (tc_eq (by omega) rfl rfl kk)
end TLs
/-! ===== Arrays.fill in the making ===== -/
def fE (E : Nat → va_E) (o : Nat) (e : va_E) : Nat → va_E := fun o' => if o' = o then e else E o'
theorem fE_at {E : Nat → va_E} {o : Nat} {e : va_E} : fE E o e o = e := if_pos rfl
theorem fE_ne {E : Nat → va_E} {o o' : Nat} {e : va_E} (hn : ¬ o' = o) : fE E o e o' = E o' := if_neg hn
def flf (f : Nat → Int32) (v : Int32) (k : Nat) : Nat → Int32 := fun j => if j < k then v else f j
theorem flf_0 (f : Nat → Int32) (v : Int32) : flf f v 0 = f := by funext j; unfold flf; rw [if_neg (by omega)]
theorem flf_upd (f : Nat → Int32) (v : Int32) (k : Nat) : upd (flf f v k) k v = flf f v (k + 1) := by
  funext j
  unfold flf upd
  by_cases c : j = k
  · subst c; simp
  · by_cases d : j < k
    · simp [c, d, show j < k + 1 by omega]
    · simp [c, d, show ¬ j < k + 1 by omega]
theorem at_row {D : va_G} {cl : List vw_C} {a : Nat} {cA : ClassId} {N : Nat} {f g : Nat → Int32} {H : Heap} (hfg : ∀ j, j < N → f j = g j) (h : va_at D cl (a, .inl (cA, N, .inl f)) H) : va_at D cl (a, .inl (cA, N, .inl g)) H := by
  have h1 : H[a]? = some (arrV cA N (fun j => .int (f j))) := h
  show H[a]? = some (arrV cA N (fun j => .int (g j)))
  rw [h1]
  unfold arrV
  congr 2
  apply Array.ext
  · simp
  · intro i h1 h2
    simp at h1 ⊢
    exact hfg i h1
theorem fill_loop {K : Kx} (C : Cx K cJ7_fill_53178 yJ7_fill_53178.cls) {h : Nat} (Y : Yx K h) (hnL : nLof K = 4) {o n N ce sl : Nat} {E : Nat → va_E} {f : Nat → Int32} {v : Int32} (ho : o < n) (hN : N < 2 ^ 31)
    (done : TC K h ce sl 20 [(0, .ref (h + o)), (1, .int v), (2, .int (nI N)), (3, .int (nI N))] [] n (fE E o (.inl (K.1.2.2.1 0, N, .inl (flf f v N))))) :
    ∀ t k : Nat, k ≤ N → N - k < t → TC K h ce sl 5 [(0, .ref (h + o)), (1, .int v), (2, .int (nI k)), (3, .int (nI N))] [] n (fE E o (.inl (K.1.2.2.1 0, N, .inl (flf f v k))))
  | 0, k, _, ht => by omega
  | t + 1, k, hk, ht => by
    refine tc_iload_n (i := 2) (z := 2) C dJ7_fill_53178_5 rfl rfl ?_
    refine tc_iload_n (i := 3) (z := 3) C dJ7_fill_53178_6 rfl rfl ?_
    refine tc_ic_ge (tgt := 20) C dJ7_fill_53178_7 (by decide) (fun hc => ?_) (fun hc => ?_)
    · have e : k = N := by
        have := (nI_leI (a := N) (b := k) hN (by omega)).mp hc
        omega
      subst e
      exact done
    · have hlt : k < N := by
        rcases Nat.lt_or_ge k N with q | q
        · exact q
        · exact absurd ((nI_leI (a := N) (b := k) hN (by omega)).mpr q) hc
      refine tc_aload_n (i := 0) (z := 0) C dJ7_fill_53178_10 rfl rfl ?_
      refine tc_iload_n (i := 2) (z := 2) C dJ7_fill_53178_11 rfl rfl ?_
      refine tc_iload_n (i := 1) (z := 1) C dJ7_fill_53178_12 rfl rfl ?_
      refine tc_iast (E' := fE E o (.inl (K.1.2.2.1 0, N, .inl (flf f v (k + 1))))) C Y ho fE_at (by rw [inb_nI (by omega)]; exact decide_eq_true hlt) dJ7_fill_53178_13 ?_ (fun o' ho' => by rw [fE_ne ho', fE_ne ho']) ?_
      · rw [fE_at, show tn (nI k) = k from nI_clamp (by omega), flf_upd]
      refine tc_iinc (lv' := [(0, .ref (h + o)), (1, .int v), (2, .int (nI (k + 1))), (3, .int (nI N))]) (z := 2) C [1, 2, 0, 3] dJ7_fill_53178_14 rfl (by rw [nI_succ]; rfl) (by rw [hnL]; decide) rfl ?_
      refine tc_goto (tgt := 5) C dJ7_fill_53178_17 (by decide) ?_
      exact fill_loop C Y hnL ho hN done t (k + 1) hlt (by omega)
theorem kc_fill (G : Gx) {h : Nat} (hA : ∀ q, h ≤ q → G.2.2.2.2.2 q) (d : Nat) (hd : 1 ≤ d) {o n N : Nat} {E E' : Nat → va_E} {f : Nat → Int32} {v : Int32} (ho : o < n) (hN : N < 2 ^ 31) (he : E o = .inl (G.2.2.1 0, N, .inl f)) (h1 : E' o = .inl (G.2.2.1 0, N, .inl (fun _ => v))) (h2 : ∀ o', ¬ o' = o → E' o' = E o') :
    MC G h d yJ7_fill_53178 cJ7_fill_53178 4 none [.ref (h + o), .int v] n E none n E' 0 0 := by
  refine MC_of hA (by decide) (Nat.le_of_ble_eq_true rfl) rfl (fun K hG hnL C hR hRo Y hnm hK => ?_) (by omega)
  subst hG
  show TC K h 0 0 0 [(0, .ref (h + o)), (1, .int v)] [] n E
  refine tc_iconst (v := 0) C dJ7_fill_53178_0 (by decide) ?_
  refine tc_istore_n (lv' := [(0, .ref (h + o)), (1, .int v), (2, .int 0)]) C [1, 2, 0] dJ7_fill_53178_1 rfl (by rw [hnL]; decide) rfl ?_
  refine tc_aload_n (i := 0) (z := 0) C dJ7_fill_53178_2 rfl rfl ?_
  refine tc_alen (v := nI N) C ho he rfl dJ7_fill_53178_3 ?_
  refine tc_istore_n (lv' := [(0, .ref (h + o)), (1, .int v), (2, .int 0), (3, .int (nI N))]) C [1, 2, 3, 0] dJ7_fill_53178_4 rfl (by rw [hnL]; decide) rfl ?_
  refine tc_congr (E' := fE E o (.inl (K.1.2.2.1 0, N, .inl (flf f v 0)))) (fun o' _ => ?_) ?_
  · by_cases c : o' = o
    · subst c
      rw [fE_at, flf_0, he]
    · rw [fE_ne c]
  refine fill_loop C Y hnL ho hN ?_ (N + 1) 0 (Nat.zero_le _) (by omega)
  refine tc_vret C hK rfl rfl rfl rfl dJ7_fill_53178_20 (fun G H o' ho' hG q => ?_)
  by_cases c : o' = o
  · subst c
    rw [fE_at] at q
    rw [h1]
    exact at_row (fun j hj => if_pos hj) (hG ▸ q)
  · rw [fE_ne c] at q
    rw [h2 o' c]
    exact q
