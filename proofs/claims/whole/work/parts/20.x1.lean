/-! ===== a world in the making: cells h, h+1 .. and what each holds ===== -/
def wsC (h n : Nat) (E : Nat → va_E) : va_W := (List.range n).map fun o => (h + o, E o)
theorem wsC_at {h n : Nat} {E : Nat → va_E} {k : Nat} {q : Nat × va_E} (hk : (wsC h n E)[k]? = some q) : k < n ∧ q = (h + k, E k) := by
  unfold wsC at hk
  rw [List.getElem?_map] at hk
  cases hr : (List.range n)[k]? with
  | none => rw [hr] at hk; cases hk
  | some o =>
    rw [hr] at hk
    have hl : k < n := by
      have := (List.getElem?_eq_some_iff.mp hr).1
      rwa [List.length_range] at this
    have : o = k := by
      rw [List.getElem?_range hl] at hr
      exact (Option.some.inj hr).symm
    subst this
    exact ⟨hl, (Option.some.inj hk).symm⟩
theorem wsC_of {h n : Nat} {E : Nat → va_E} {k : Nat} (hk : k < n) : (wsC h n E)[k]? = some (h + k, E k) := by
  unfold wsC
  rw [List.getElem?_map, List.getElem?_range hk]
  rfl
theorem wsC_D {A : Nat → Prop} {h : Nat} (hA : ∀ q, h ≤ q → A q) (n : Nat) (E : Nat → va_E) : va_D A (wsC h n E) := by
  refine ⟨fun i j x y hi hj he => ?_, fun k q hk => ?_⟩
  · obtain ⟨-, rfl⟩ := wsC_at hi
    obtain ⟨-, rfl⟩ := wsC_at hj
    have he' : h + i = h + j := he
    omega
  · obtain ⟨-, rfl⟩ := wsC_at hk
    exact hA _ (Nat.le_add_right _ _)
theorem wsC_set {h n : Nat} {E E' : Nat → va_E} {k : Nat} {e : va_E} (hk : k < n) (he : E' k = e) (ho : ∀ o, ¬ o = k → E' o = E o) : (wsC h n E).set k (h + k, e) = wsC h n E' := by
  apply List.ext_getElem?
  intro i
  by_cases c : i < n
  · rw [wsC_of c]
    by_cases d : i = k
    · subst d
      rw [List.getElem?_set_self (by unfold wsC; rw [List.length_map, List.length_range]; exact c), he]
    · rw [List.getElem?_set_ne (fun q => d q.symm), wsC_of c, ho i d]
  · rw [List.getElem?_eq_none (by rw [List.length_set]; unfold wsC; rw [List.length_map, List.length_range]; omega), List.getElem?_eq_none (by unfold wsC; rw [List.length_map, List.length_range]; omega)]
theorem wsC_push {h n : Nat} {E E' : Nat → va_E} {e : va_E} (he : E' n = e) (ho : ∀ o, o < n → E' o = E o) : wsC h n E ++ [(h + n, e)] = wsC h (n + 1) E' := by
  unfold wsC
  rw [List.range_succ, List.map_append]
  congr 1
  · apply List.map_congr_left
    intro o hn
    rw [ho o (List.mem_range.1 hn)]
  · rw [← he]
    rfl
def CW (G : Gx) (h n : Nat) (E : Nat → va_E) (H : Heap) : Prop := va_P (G.2.2.2.1, G.2.2.2.2.1) vwCl (wsC h n E) H ∧ H.size = h + n
def TC (K : Kx) (h ce sl : Nat) (pc : Nat) (ls : List (Nat × Value)) (st : List Value) (n : Nat) (E : Nat → va_E) : Prop := match K with
  | (G, p, e, R, s, m, args, below, meth, c, cells, slots, nL, Q) => ∀ (H : Heap) (locs : List Loc), CW G h n E H → va_S G.2.2.2.2.2 s.heap H locs → ∀ la : Array Slot, lv_has la nL ls → W p G.1 e R s m args below meth c H locs ce sl Q (F0 m pc la st)
section TCs
variable {K : Kx} {cc : ByteArray} {own : String} {h ce sl pc : Nat} {ls lv' : List (Nat × Value)} {st rest : List Value} {n : Nat} {E : Nat → va_E}
theorem tc_sub (ks : List Nat) (hl : lv_pick ls ks = lv') (k : TC K h ce sl pc lv' st n E) : TC K h ce sl pc ls st n E := by
  obtain ⟨G, p, e, R, s, m, args, below, meth, c, cells, slots, nL, Q⟩ := K
  exact fun H lo hP hS la hh => k H lo hP hS la (lv_sub hh ks hl)
theorem tc_topi {x y : Int32} (hxy : y = x) (k : TC K h ce sl pc ls (.int y :: st) n E) : TC K h ce sl pc ls (.int x :: st) n E := hxy ▸ k
theorem tc_iconst (C : Cx K cc own) {nn : Int} {v : Int32} (hd : decode cc pc = .ok (.iconst nn, 1)) (hv : Int32.ofInt nn = v) (k : TC K h ce sl (pc + 1) ls (.int v :: st) n E) : TC K h ce sl pc ls st n E := by
  obtain ⟨G, p, e, R, s, m, args, below, meth, c, cells, slots, nL, Q⟩ := K
  exact fun H lo hP hS la hh => lv_iconst C.1 C.2.1 hd hv (k H lo hP hS la hh)
theorem tc_bipush (C : Cx K cc own) {nn : Int} {v : Int32} (hd : decode cc pc = .ok (.bipush nn, 2)) (hv : (Int8.ofInt nn).toInt32 = v) (k : TC K h ce sl (pc + 2) ls (.int v :: st) n E) : TC K h ce sl pc ls st n E := by
  obtain ⟨G, p, e, R, s, m, args, below, meth, c, cells, slots, nL, Q⟩ := K
  exact fun H lo hP hS la hh => lv_bipush C.1 C.2.1 hd hv (k H lo hP hS la hh)
theorem tc_sipush (C : Cx K cc own) {nn : Int} {v : Int32} (hd : decode cc pc = .ok (.sipush nn, 3)) (hv : (Int16.ofInt nn).toInt32 = v) (k : TC K h ce sl (pc + 3) ls (.int v :: st) n E) : TC K h ce sl pc ls st n E := by
  obtain ⟨G, p, e, R, s, m, args, below, meth, c, cells, slots, nL, Q⟩ := K
  exact fun H lo hP hS la hh => lv_sipush C.1 C.2.1 hd hv (k H lo hP hS la hh)
theorem tc_iload_n (C : Cx K cc own) {q : Fin 4} {i z : Nat} {x : Int32} (hd : decode cc pc = .ok (.iload_n q, 1)) (hi : (q : Nat) = i) (hz : ls[z]? = some (i, .int x)) (k : TC K h ce sl (pc + 1) ls (.int x :: st) n E) : TC K h ce sl pc ls st n E := by
  obtain ⟨G, p, e, R, s, m, args, below, meth, c, cells, slots, nL, Q⟩ := K
  exact fun H lo hP hS la hh => lv_iload_n C.1 C.2.1 hd hi (lv_at hh z hz) (k H lo hP hS la hh)
theorem tc_istore_n (C : Cx K cc own) {q : Fin 4} {i : Nat} {x : Int32} (ks : List Nat) (hd : decode cc pc = .ok (.istore_n q, 1)) (hi : (q : Nat) = i) (hn : i < nLof K) (hl : lsOk ls i (.int x) lv' ks) (k : TC K h ce sl (pc + 1) lv' st n E) : TC K h ce sl pc ls (.int x :: st) n E := by
  obtain ⟨G, p, e, R, s, m, args, below, meth, c, cells, slots, nL, Q⟩ := K
  exact fun H lo hP hS la hh => lv_istore_n C.1 C.2.1 hd hi hh hn rfl (fun la' h' => k H lo hP hS la' (lv_sub h' ks hl))
theorem tc_iinc (C : Cx K cc own) {i z : Nat} {nn : Int} {x v : Int32} (ks : List Nat) (hd : decode cc pc = .ok (.iinc i nn, 3)) (hz : ls[z]? = some (i, .int x)) (hv : x + Int32.ofInt nn = v) (hn : i < nLof K) (hl : lsOk ls i (.int v) lv' ks) (k : TC K h ce sl (pc + 3) lv' st n E) : TC K h ce sl pc ls st n E := by
  obtain ⟨G, p, e, R, s, m, args, below, meth, c, cells, slots, nL, Q⟩ := K
  exact fun H lo hP hS la hh => lv_iinc C.1 C.2.1 hd hh hz hv hn rfl (fun la' h' => k H lo hP hS la' (lv_sub h' ks hl))
theorem tc_dup (C : Cx K cc own) {v : Value} (hd : decode cc pc = .ok (.dup, 1)) (hv : v.category = 1) (k : TC K h ce sl (pc + 1) ls (v :: v :: st) n E) : TC K h ce sl pc ls (v :: st) n E := by
  obtain ⟨G, p, e, R, s, m, args, below, meth, c, cells, slots, nL, Q⟩ := K
  exact fun H lo hP hS la hh => lv_dup C.1 C.2.1 hd hv (k H lo hP hS la hh)
theorem tc_goto (C : Cx K cc own) {off : Int} {tgt : Nat} (hd : decode cc pc = .ok (.goto off, 3)) (ht : (pc : Int) + off = (tgt : Int)) (k : TC K h ce sl tgt ls st n E) : TC K h ce sl pc ls st n E := by
  obtain ⟨G, p, e, R, s, m, args, below, meth, c, cells, slots, nL, Q⟩ := K
  exact fun H lo hP hS la hh => lv_goto C.1 C.2.1 hd ht (k H lo hP hS la hh)
theorem tc_iadd (C : Cx K cc own) {x y : Int32} (hd : decode cc pc = .ok (.iadd, 1)) (k : TC K h ce sl (pc + 1) ls (.int (x + y) :: st) n E) : TC K h ce sl pc ls (.int y :: .int x :: st) n E := by
  obtain ⟨G, p, e, R, s, m, args, below, meth, c, cells, slots, nL, Q⟩ := K
  exact fun H lo hP hS la hh => lv_iadd C.1 C.2.1 hd (k H lo hP hS la hh)
theorem tc_isub (C : Cx K cc own) {x y : Int32} (hd : decode cc pc = .ok (.isub, 1)) (k : TC K h ce sl (pc + 1) ls (.int (x - y) :: st) n E) : TC K h ce sl pc ls (.int y :: .int x :: st) n E := by
  obtain ⟨G, p, e, R, s, m, args, below, meth, c, cells, slots, nL, Q⟩ := K
  exact fun H lo hP hS la hh => lv_isub C.1 C.2.1 hd (k H lo hP hS la hh)
theorem tc_idiv (C : Cx K cc own) {x y : Int32} (hd : decode cc pc = .ok (.idiv, 1)) (hy : ¬ y = 0) (k : TC K h ce sl (pc + 1) ls (.int (x / y) :: st) n E) : TC K h ce sl pc ls (.int y :: .int x :: st) n E := by
  obtain ⟨G, p, e, R, s, m, args, below, meth, c, cells, slots, nL, Q⟩ := K
  exact fun H lo hP hS la hh => lv_idiv C.1 C.2.1 hd hy (k H lo hP hS la hh)
theorem tc_irem (C : Cx K cc own) {x y : Int32} (hd : decode cc pc = .ok (.irem, 1)) (hy : ¬ y = 0) (k : TC K h ce sl (pc + 1) ls (.int (irm x y) :: st) n E) : TC K h ce sl pc ls (.int y :: .int x :: st) n E := by
  obtain ⟨G, p, e, R, s, m, args, below, meth, c, cells, slots, nL, Q⟩ := K
  exact fun H lo hP hS la hh => lv_irem C.1 C.2.1 hd hy (k H lo hP hS la hh)
theorem tc_ic_ge (C : Cx K cc own) {x y : Int32} {off : Int} {tgt : Nat} (hd : decode cc pc = .ok (.if_icmp .ge off, 3)) (ht : (pc : Int) + off = (tgt : Int)) (kt : y ≤ x → TC K h ce sl tgt ls st n E) (kf : ¬ y ≤ x → TC K h ce sl (pc + 3) ls st n E) : TC K h ce sl pc ls (.int y :: .int x :: st) n E := by
  obtain ⟨G, p, e, R, s, m, args, below, meth, c, cells, slots, nL, Q⟩ := K
  exact fun H lo hP hS la hh => lv_icmp_ge C.1 C.2.1 hd ht (fun q => kt q H lo hP hS la hh) (fun q => kf q H lo hP hS la hh)
theorem tc_ic_ne (C : Cx K cc own) {x y : Int32} {off : Int} {tgt : Nat} (hd : decode cc pc = .ok (.if_icmp .ne off, 3)) (ht : (pc : Int) + off = (tgt : Int)) (kt : ¬ x = y → TC K h ce sl tgt ls st n E) (kf : x = y → TC K h ce sl (pc + 3) ls st n E) : TC K h ce sl pc ls (.int y :: .int x :: st) n E := by
  obtain ⟨G, p, e, R, s, m, args, below, meth, c, cells, slots, nL, Q⟩ := K
  exact fun H lo hP hS la hh => lv_icmp_ne C.1 C.2.1 hd ht (fun q => kt q H lo hP hS la hh) (fun q => kf q H lo hP hS la hh)
theorem tc_ic_lt (C : Cx K cc own) {x y : Int32} {off : Int} {tgt : Nat} (hd : decode cc pc = .ok (.if_icmp .lt off, 3)) (ht : (pc : Int) + off = (tgt : Int)) (kt : x < y → TC K h ce sl tgt ls st n E) (kf : ¬ x < y → TC K h ce sl (pc + 3) ls st n E) : TC K h ce sl pc ls (.int y :: .int x :: st) n E := by
  obtain ⟨G, p, e, R, s, m, args, below, meth, c, cells, slots, nL, Q⟩ := K
  exact fun H lo hP hS la hh => lv_icmp_lt C.1 C.2.1 hd ht (fun q => kt q H lo hP hS la hh) (fun q => kf q H lo hP hS la hh)
theorem tc_ic_gt (C : Cx K cc own) {x y : Int32} {off : Int} {tgt : Nat} (hd : decode cc pc = .ok (.if_icmp .gt off, 3)) (ht : (pc : Int) + off = (tgt : Int)) (kt : y < x → TC K h ce sl tgt ls st n E) (kf : ¬ y < x → TC K h ce sl (pc + 3) ls st n E) : TC K h ce sl pc ls (.int y :: .int x :: st) n E := by
  obtain ⟨G, p, e, R, s, m, args, below, meth, c, cells, slots, nL, Q⟩ := K
  exact fun H lo hP hS la hh => lv_icmp_gt C.1 C.2.1 hd ht (fun q => kt q H lo hP hS la hh) (fun q => kf q H lo hP hS la hh)
theorem tc_if_ne (C : Cx K cc own) {x : Int32} {off : Int} {tgt : Nat} (hd : decode cc pc = .ok (.ifCond .ne off, 3)) (ht : (pc : Int) + off = (tgt : Int)) (kt : ¬ x = 0 → TC K h ce sl tgt ls st n E) (kf : x = 0 → TC K h ce sl (pc + 3) ls st n E) : TC K h ce sl pc ls (.int x :: st) n E := by
  obtain ⟨G, p, e, R, s, m, args, below, meth, c, cells, slots, nL, Q⟩ := K
  exact fun H lo hP hS la hh => lv_if_ne C.1 C.2.1 hd ht (fun q => kt q H lo hP hS la hh) (fun q => kf q H lo hP hS la hh)
theorem tc_if_eq (C : Cx K cc own) {x : Int32} {off : Int} {tgt : Nat} (hd : decode cc pc = .ok (.ifCond .eq off, 3)) (ht : (pc : Int) + off = (tgt : Int)) (kt : x = 0 → TC K h ce sl tgt ls st n E) (kf : ¬ x = 0 → TC K h ce sl (pc + 3) ls st n E) : TC K h ce sl pc ls (.int x :: st) n E := by
  obtain ⟨G, p, e, R, s, m, args, below, meth, c, cells, slots, nL, Q⟩ := K
  exact fun H lo hP hS la hh => lv_if_eq C.1 C.2.1 hd ht (fun q => kt q H lo hP hS la hh) (fun q => kf q H lo hP hS la hh)
theorem tc_ic_le (C : Cx K cc own) {x y : Int32} {off : Int} {tgt : Nat} (hd : decode cc pc = .ok (.if_icmp .le off, 3)) (ht : (pc : Int) + off = (tgt : Int)) (kt : x ≤ y → TC K h ce sl tgt ls st n E) (kf : ¬ x ≤ y → TC K h ce sl (pc + 3) ls st n E) : TC K h ce sl pc ls (.int y :: .int x :: st) n E := by
  obtain ⟨G, p, e, R, s, m, args, below, meth, c, cells, slots, nL, Q⟩ := K
  exact fun H lo hP hS la hh => lv_icmp_le C.1 C.2.1 hd ht (fun q => kt q H lo hP hS la hh) (fun q => kf q H lo hP hS la hh)

theorem tc_ic_eq (C : Cx K cc own) {x y : Int32} {off : Int} {tgt : Nat} (hd : decode cc pc = .ok (.if_icmp .eq off, 3)) (ht : (pc : Int) + off = (tgt : Int)) (kt : x = y → TC K h ce sl tgt ls st n E) (kf : ¬ x = y → TC K h ce sl (pc + 3) ls st n E) : TC K h ce sl pc ls (.int y :: .int x :: st) n E := by
  obtain ⟨G, p, e, R, s, m, args, below, meth, c, cells, slots, nL, Q⟩ := K
  exact fun H lo hP hS la hh => lv_icmp_eq C.1 C.2.1 hd ht (fun q => kt q H lo hP hS la hh) (fun q => kf q H lo hP hS la hh)
theorem tc_iload (C : Cx K cc own) {i z : Nat} {x : Int32} (hd : decode cc pc = .ok (.iload i, 2)) (hz : ls[z]? = some (i, .int x)) (k : TC K h ce sl (pc + 2) ls (.int x :: st) n E) : TC K h ce sl pc ls st n E := by
  obtain ⟨G, p, e, R, s, m, args, below, meth, c, cells, slots, nL, Q⟩ := K
  exact fun H lo hP hS la hh => lv_iload C.1 C.2.1 hd (lv_at hh z hz) (k H lo hP hS la hh)
theorem tc_aload_n (C : Cx K cc own) {q : Fin 4} {i z a : Nat} (hd : decode cc pc = .ok (.aload_n q, 1)) (hi : (q : Nat) = i) (hz : ls[z]? = some (i, .ref a)) (k : TC K h ce sl (pc + 1) ls (.ref a :: st) n E) : TC K h ce sl pc ls st n E := by
  obtain ⟨G, p, e, R, s, m, args, below, meth, c, cells, slots, nL, Q⟩ := K
  exact fun H lo hP hS la hh => lv_aload_n C.1 C.2.1 hd hi (lv_at hh z hz) (k H lo hP hS la hh)
theorem tc_astore_n (C : Cx K cc own) {q : Fin 4} {i a : Nat} (ks : List Nat) (hd : decode cc pc = .ok (.astore_n q, 1)) (hi : (q : Nat) = i) (hn : i < nLof K) (hl : lsOk ls i (.ref a) lv' ks) (k : TC K h ce sl (pc + 1) lv' st n E) : TC K h ce sl pc ls (.ref a :: st) n E := by
  obtain ⟨G, p, e, R, s, m, args, below, meth, c, cells, slots, nL, Q⟩ := K
  exact fun H lo hP hS la hh => lv_astore_n C.1 C.2.1 hd hi hh hn rfl (fun la' h' => k H lo hP hS la' (lv_sub h' ks hl))
end TCs
