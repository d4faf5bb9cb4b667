theorem EF_model {G : Gx} {h w : Nat} (hα : G.2.1 = aF h w) : ∀ o, o < 120 + 28 → EF G o = uE (EF G) 120 [.inr (9, [.ref (h + (120 + 1)), .ref (h + (120 + 2)), .ref (h + (120 + 3)), .ref (h + (120 + 4)), .ref (h + (120 + 5)), .ref (h + (120 + 6)), .int 0, .int 0, .int 0, .ref (h + (120 + 7)), .int 0, .int 0, .int 0, .int 0, .int 0, .int 0, .ref (h + (120 + 8)), .ref (h + (120 + 9)), .ref (h + (120 + 10)), .ref (h + (120 + 11)), .int 0, .int 0, .int 0, .int 0, .ref (h + (120 + 12)), .ref (h + (120 + 13)), .ref (h + (120 + 14)), .ref (h + (120 + 15)), .int 0, .ref (h + (120 + 16)), .ref (h + (120 + 17)), .ref (h + (120 + 18)), .ref (h + (120 + 19)), .int 2, .int 3, .int 1, .ref (h + (120 + 20)), .ref (h + (120 + 21)), .ref (h + (120 + 22)), .ref (h + (120 + 23)), .ref (h + (120 + 24)), .ref (h + (120 + 25)), .ref (h + (120 + 26)), .ref (h + (120 + 27)), .int 0]), .inl (G.2.2.1 0, 11, .inl (fun _ => 0)), .inl (G.2.2.1 0, 880, .inl (fun _ => 0)), .inl (G.2.2.1 2, 11, .inl (fun _ => 0)), .inl (G.2.2.1 0, 11, .inl (fun _ => 0)), .inl (G.2.2.1 0, 187, .inl (fun _ => 0)), .inl (G.2.2.1 0, 308, .inl (fun _ => 0)), .inl (G.2.2.1 0, 17, .inl (fun _ => 0)), .inl (G.2.2.1 0, 12, .inl (fun _ => 0)), .inl (G.2.2.1 0, 480, .inl (fun _ => 0)), .inl (G.2.2.1 0, 480, .inl (fun _ => 0)), .inl (G.2.2.1 2, 12, .inl (fun _ => 0)), .inl (G.2.2.1 0, 63, .inl (fun _ => 0)), .inl (G.2.2.1 0, 17, .inl (fun _ => 0)), .inl (G.2.2.1 0, 17, .inl (fun _ => 0)), .inl (G.2.2.1 0, 6, .inl (fun _ => 0)), .inl (G.2.2.1 0, 12, .inl (fun _ => 0)), .inl (G.2.2.1 0, 12, .inl (fun _ => 0)), .inl (G.2.2.1 2, 12, .inl (fun _ => 0)), .inl (G.2.2.1 0, 17, .inl (gpl)), .inl (G.2.2.1 0, 144, .inl (gwy)), .inl (G.2.2.1 0, 4096, .inl (fun _ => 0)), .inl (G.2.2.1 0, 4096, .inl (fun _ => 0)), .inl (G.2.2.1 2, 4, .inl (fun _ => 0)), .inl (G.2.2.1 0, 4, .inl (fun _ => 0)), .inl (G.2.2.1 0, 4, .inl (fun _ => 0)), .inl (G.2.2.1 0, 240, .inl (fun _ => 0)), .inl (G.2.2.1 0, 60, .inl (fun _ => 0))] o := by
  intro o ho
  by_cases c : o < 120
  · rw [uE_lt c]
  have cs : o = 120 ∨ o = 121 ∨ o = 122 ∨ o = 123 ∨ o = 124 ∨ o = 125 ∨ o = 126 ∨ o = 127 ∨ o = 128 ∨ o = 129 ∨ o = 130 ∨ o = 131 ∨ o = 132 ∨ o = 133 ∨ o = 134 ∨ o = 135 ∨ o = 136 ∨ o = 137 ∨ o = 138 ∨ o = 139 ∨ o = 140 ∨ o = 141 ∨ o = 142 ∨ o = 143 ∨ o = 144 ∨ o = 145 ∨ o = 146 ∨ o = 147 := by omega
  rcases cs with rfl | rfl | rfl | rfl | rfl | rfl | rfl | rfl | rfl | rfl | rfl | rfl | rfl | rfl | rfl | rfl | rfl | rfl | rfl | rfl | rfl | rfl | rfl | rfl | rfl | rfl | rfl | rfl
  · exact (EF_at hα (show rOf 120 = _ from rfl) rfl).trans (uE_at (n := 120) (k := 0) rfl).symm
  · exact (EF_at hα (show rOf 121 = _ from rfl) rfl).trans (uE_at (n := 120) (k := 1) rfl).symm
  · exact (EF_at hα (show rOf 122 = _ from rfl) rfl).trans (uE_at (n := 120) (k := 2) rfl).symm
  · exact (EF_at hα (show rOf 123 = _ from rfl) rfl).trans (uE_at (n := 120) (k := 3) rfl).symm
  · exact (EF_at hα (show rOf 124 = _ from rfl) rfl).trans (uE_at (n := 120) (k := 4) rfl).symm
  · exact (EF_at hα (show rOf 125 = _ from rfl) rfl).trans (uE_at (n := 120) (k := 5) rfl).symm
  · exact (EF_at hα (show rOf 126 = _ from rfl) rfl).trans (uE_at (n := 120) (k := 6) rfl).symm
  · exact (EF_at hα (show rOf 127 = _ from rfl) rfl).trans (uE_at (n := 120) (k := 7) rfl).symm
  · exact (EF_at hα (show rOf 128 = _ from rfl) rfl).trans (uE_at (n := 120) (k := 8) rfl).symm
  · exact (EF_at hα (show rOf 129 = _ from rfl) rfl).trans (uE_at (n := 120) (k := 9) rfl).symm
  · exact (EF_at hα (show rOf 130 = _ from rfl) rfl).trans (uE_at (n := 120) (k := 10) rfl).symm
  · exact (EF_at hα (show rOf 131 = _ from rfl) rfl).trans (uE_at (n := 120) (k := 11) rfl).symm
  · exact (EF_at hα (show rOf 132 = _ from rfl) rfl).trans (uE_at (n := 120) (k := 12) rfl).symm
  · exact (EF_at hα (show rOf 133 = _ from rfl) rfl).trans (uE_at (n := 120) (k := 13) rfl).symm
  · exact (EF_at hα (show rOf 134 = _ from rfl) rfl).trans (uE_at (n := 120) (k := 14) rfl).symm
  · exact (EF_at hα (show rOf 135 = _ from rfl) rfl).trans (uE_at (n := 120) (k := 15) rfl).symm
  · exact (EF_at hα (show rOf 136 = _ from rfl) rfl).trans (uE_at (n := 120) (k := 16) rfl).symm
  · exact (EF_at hα (show rOf 137 = _ from rfl) rfl).trans (uE_at (n := 120) (k := 17) rfl).symm
  · exact (EF_at hα (show rOf 138 = _ from rfl) rfl).trans (uE_at (n := 120) (k := 18) rfl).symm
  · exact (EF_at hα (show rOf 139 = _ from rfl) rfl).trans (uE_at (n := 120) (k := 19) rfl).symm
  · exact (EF_at hα (show rOf 140 = _ from rfl) rfl).trans (uE_at (n := 120) (k := 20) rfl).symm
  · exact (EF_at hα (show rOf 141 = _ from rfl) rfl).trans (uE_at (n := 120) (k := 21) rfl).symm
  · exact (EF_at hα (show rOf 142 = _ from rfl) rfl).trans (uE_at (n := 120) (k := 22) rfl).symm
  · exact (EF_at hα (show rOf 143 = _ from rfl) rfl).trans (uE_at (n := 120) (k := 23) rfl).symm
  · exact (EF_at hα (show rOf 144 = _ from rfl) rfl).trans (uE_at (n := 120) (k := 24) rfl).symm
  · exact (EF_at hα (show rOf 145 = _ from rfl) rfl).trans (uE_at (n := 120) (k := 25) rfl).symm
  · exact (EF_at hα (show rOf 146 = _ from rfl) rfl).trans (uE_at (n := 120) (k := 26) rfl).symm
  · exact (EF_at hα (show rOf 147 = _ from rfl) rfl).trans (uE_at (n := 120) (k := 27) rfl).symm
theorem Rep_of {G : Gx} {h w : Nat} (hα : G.2.1 = aF h w) {H : Heap} (hC : CW G h 148 (EF G) H) : Rep G st0 H := by
  refine ⟨fun k x hx => ?_, fun i _ => rfl⟩
  obtain ⟨r, hr, rfl⟩ := wsO_at hx
  have hm := List.mem_of_getElem? hr
  obtain ⟨h1, h2⟩ := rOf_off r hm
  have h3 := hC.at h2 rfl
  have e1 : EF G (off r) = ent G.2.1 G.2.2.1 st0 r := by unfold EF; rw [h1]
  have e2 : G.2.1 r = h + off r := by
    rw [hα]
    have hl := (wcells_lt hm).1
    unfold aF
    split
    · omega
    · rfl
  rw [e1] at h3
  rw [e2]
  exact h3
theorem AD_of {G : Gx} {h w : Nat} (hα : G.2.1 = aF h w) (hA : ∀ q, h ≤ q → G.2.2.2.2.2 q) : AD G := by
  have e2 : ∀ r ∈ wcells, G.2.1 r = h + off r := by
    intro r hm
    rw [hα]
    have hl := (wcells_lt hm).1
    unfold aF
    split
    · omega
    · rfl
  refine ⟨fun r hr => ?_, fun r hr r' hr' he => ?_⟩
  · rw [e2 r hr]
    exact hA _ (Nat.le_add_right _ _)
  · rw [e2 r hr, e2 r' hr'] at he
    have : off r = off r' := by omega
    rw [← (rOf_off r hr).1, ← (rOf_off r' hr').1, this]
