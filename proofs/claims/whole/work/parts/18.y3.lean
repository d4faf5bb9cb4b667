/-! ===== the numbers of a new world ===== -/
def st0 : St := fun r k =>
  if r.1 = 1 then (if k = 4 then -1 else 0)
  else if r.1 = 6 then (if k = 1 then 1 else 0)
  else if r.1 = 8 then (if k = 12 then 2 else if k = 13 then 3 else if k = 14 then 1 else 0)
  else if r.1 = 9 then (if k = 33 then 2 else if k = 34 then 3 else if k = 35 then 1 else 0)
  else if r.1 = 11 then wpf k
  else if r.1 = 12 then -1
  else if r.1 = 14 then -1
  else if r.1 = 21 then 50
  else if r.1 = 27 then wpf k
  else if r.1 = 47 then fX9_plain (nI k)
  else if r.1 = 48 then (if k / 12 = k % 12 then 0 else 50)
  else if r.1 = 56 then wpf k
  else 0
theorem pl_wp : ∀ k, k < 17 → fX9_plain (nI k) = wpf k := by decide +kernel
theorem s0_z {f j k : Nat} (h : (f = 0 ∨ f = 3 ∨ f = 10 ∨ f = 13 ∨ f = 20) ∨ (28 < f ∧ f < 47) ∨ (48 < f ∧ f < 56)) : st0 (f, j) k = 0 := by
  unfold st0
  have e1 : ¬ f = 1 := by omega
  have e2 : ¬ f = 6 := by omega
  have e3 : ¬ f = 8 := by omega
  have e4 : ¬ f = 9 := by omega
  have e5 : ¬ f = 11 := by omega
  have e6 : ¬ f = 12 := by omega
  have e7 : ¬ f = 14 := by omega
  have e8 : ¬ f = 21 := by omega
  have e9 : ¬ f = 27 := by omega
  have ea : ¬ f = 47 := by omega
  have eb : ¬ f = 48 := by omega
  have ec : ¬ f = 56 := by omega
  simp only [e1, e2, e3, e4, e5, e6, e7, e8, e9, ea, eb, ec, if_false]
theorem Ib_st0 : Ib st0 := ⟨0, 0, 2, 3, 1, by omega, by omega, by omega, by omega, by omega, by omega, rfl, rfl, rfl, rfl, rfl, rfl, rfl, rfl, rfl, rfl, rfl⟩
theorem Ic_st0 : Ic st0 := by
  intro c _
  refine ⟨0, 0, 0, by omega, by omega, by omega, ?_, ?_, ?_, ?_, ?_, ?_, fun _ _ _ _ => rfl⟩
  · rw [s0_z (by simp)]; rfl
  · rw [s0_z (by simp)]; rfl
  · rw [s0_z (by simp)]; rfl
  · rw [s0_z (by simp)]; rfl
  · rw [s0_z (by simp)]; rfl
  · rw [s0_z (by simp)]; rfl
theorem Il_st0 : Il st0 := by
  intro k hk
  have a : st0 (27, 0) k = wpf k := rfl
  have b : st0 (47, 0) k = fX9_plain (nI k) := rfl
  rw [a, b, pl_wp k hk]
theorem Iw_st0 : Iw st0 := by
  intro a b ha hb hab
  have x : st0 (21, 0) (a * 12 + b) = 50 := rfl
  have y : st0 (48, 0) (12 * a + b) = if (12 * a + b) / 12 = (12 * a + b) % 12 then (0 : Int32) else 50 := rfl
  refine ⟨50, by omega, by rw [x]; rfl, ?_⟩
  rw [y, if_neg (by omega)]
  rfl
theorem Is_st0 : Is st0 := by
  intro s _
  refine ⟨1, 0, 0, by omega, by omega, by omega, rfl, ?_, rfl, ?_, rfl, ?_, fun i _ => ?_⟩
  · rw [s0_z (by simp)]; rfl
  · rw [s0_z (by simp)]; rfl
  · rw [s0_z (by simp)]; rfl
  · rw [s0_z (by simp), s0_z (by simp)]
theorem Im_st0 : Im st0 := by
  intro m _
  have v : ∀ k, st0 (14, m) k = -1 := fun _ => rfl
  refine ⟨0, 0, by omega, by omega, ?_, ?_, ?_, ?_, fun k hk => by omega, fun k _ => Or.inl (v k), fun _ _ _ _ => ⟨rfl, fun k _ => v k⟩⟩
  · rw [s0_z (by simp)]; rfl
  · rw [s0_z (by simp)]; rfl
  · rw [s0_z (by simp)]; rfl
  · rw [s0_z (by simp)]; rfl
theorem Iv_st0 : Iv st0 := ⟨Ib_st0, Ic_st0, Il_st0, Iw_st0, Is_st0, Im_st0⟩
theorem Id_st0 : Id st0 := by
  refine ⟨fun i _ => rfl, fun j _ => ⟨0, fun _ => 0, ⟨by omega, rfl, fun i hi => by omega⟩, ⟨rfl, fun i hi => by omega⟩, ⟨rfl, fun k _ => rfl, fun k _ => rfl⟩, Or.inl rfl⟩⟩
theorem Iy_st0 : Iy st0 := ⟨⟨Iv_st0, Id_st0⟩, wpf_ok⟩
