/-! the operations of 08, with the codes' piece beside -/
theorem ox_club {σ : St} (hI : Ix σ) (a1 a2 : Int32) : ∃ v σ1 σ2, fX8_club σ a1 a2 = some (v, σ1) ∧ fX9_club σ1 a1 a2 = some (v, σ2) ∧ Ix σ2 := by
  obtain ⟨v, σ1, σ2, e1, e2, h⟩ := op_club hI.1 a1 a2
  exact ⟨v, σ1, σ2, e1, e2, h, dep_Id.mv (mX9_club e2) (by decide) (dep_Id.mv (mX8_club e1) (by decide) hI.2)⟩
theorem ox_lose {σ : St} (hI : Ix σ) (a1 : Int32) : ∃ v σ1 σ2, fX8_lose σ a1 = some (v, σ1) ∧ fX9_lose σ1 a1 = some (v, σ2) ∧ Ix σ2 := by
  obtain ⟨v, σ1, σ2, e1, e2, h⟩ := op_lose hI.1 a1
  exact ⟨v, σ1, σ2, e1, e2, h, dep_Id.mv (mX9_lose e2) (by decide) (dep_Id.mv (mX8_lose e1) (by decide) hI.2)⟩
theorem ox_get {σ : St} (hI : Ix σ) (a1 a2 a3 : Int32) : ∃ v σ1 σ2, fX8_get σ a1 a2 a3 = some (v, σ1) ∧ fX9_get σ1 a1 a2 a3 = some (v, σ2) ∧ Ix σ2 := by
  obtain ⟨v, σ1, σ2, e1, e2, h⟩ := op_get hI.1 a1 a2 a3
  exact ⟨v, σ1, σ2, e1, e2, h, dep_Id.mv (mX9_get e2) (by decide) (dep_Id.mv (mX8_get e1) (by decide) hI.2)⟩
theorem ox_sheet {σ : St} (hI : Ix σ) (a1 a2 a3 : Int32) : ∃ v σ1 σ2, fX8_sheet σ a1 a2 a3 = some (v, σ1) ∧ fX9_sheet σ1 a1 a2 a3 = some (v, σ2) ∧ Ix σ2 := by
  obtain ⟨v, σ1, σ2, e1, e2, h⟩ := op_sheet hI.1 a1 a2 a3
  exact ⟨v, σ1, σ2, e1, e2, h, dep_Id.mv (mX9_sheet e2) (by decide) (dep_Id.mv (mX8_sheet e1) (by decide) hI.2)⟩
theorem ox_lay {σ : St} (hI : Ix σ) (a1 a2 a3 a4 : Int32) : ∃ v σ1 σ2, fX8_lay σ a1 a2 a3 a4 = some (v, σ1) ∧ fX9_lay σ1 a1 a2 a3 a4 = some (v, σ2) ∧ Ix σ2 := by
  obtain ⟨v, σ1, σ2, e1, e2, h⟩ := op_lay hI.1 a1 a2 a3 a4
  exact ⟨v, σ1, σ2, e1, e2, h, dep_Id.mv (mX9_lay e2) (by decide) (dep_Id.mv (mX8_lay e1) (by decide) hI.2)⟩
theorem ox_match {σ : St} (hI : Ix σ) (a1 a2 : Int32) : ∃ v σ1 σ2, fX8_match σ a1 a2 = some (v, σ1) ∧ fX9_match σ1 a1 a2 = some (v, σ2) ∧ Ix σ2 := by
  obtain ⟨v, σ1, σ2, e1, e2, h⟩ := op_match hI.1 a1 a2
  exact ⟨v, σ1, σ2, e1, e2, h, dep_Id.mv (mX9_match e2) (by decide) (dep_Id.mv (mX8_match e1) (by decide) hI.2)⟩
theorem ox_verdicts {σ : St} (hI : Ix σ) (a1 a2 : Int32) : ∃ v σ1 σ2, fX8_verdicts σ a1 a2 = some (v, σ1) ∧ fX9_verdicts σ1 a1 a2 = some (v, σ2) ∧ Ix σ2 := by
  obtain ⟨v, σ1, σ2, e1, e2, h⟩ := op_verdicts hI.1 a1 a2
  exact ⟨v, σ1, σ2, e1, e2, h, dep_Id.mv (mX9_verdicts e2) (by decide) (dep_Id.mv (mX8_verdicts e1) (by decide) hI.2)⟩
theorem ox_change {σ : St} (hI : Ix σ) (a1 a2 a3 : Int32) : ∃ v σ1 σ2, fX8_change σ a1 a2 a3 = some (v, σ1) ∧ fX9_change σ1 a1 a2 a3 = some (v, σ2) ∧ Ix σ2 := by
  obtain ⟨v, σ1, σ2, e1, e2, h⟩ := op_change hI.1 a1 a2 a3
  exact ⟨v, σ1, σ2, e1, e2, h, dep_Id.mv (mX9_change e2) (by decide) (dep_Id.mv (mX8_change e1) (by decide) hI.2)⟩
theorem ox_way {σ : St} (hI : Ix σ) (a1 a2 a3 : Int32) : ∃ v σ1 σ2, fX8_way σ a1 a2 a3 = some (v, σ1) ∧ fX9_way σ1 a1 a2 a3 = some (v, σ2) ∧ Ix σ2 := by
  obtain ⟨v, σ1, σ2, e1, e2, h⟩ := op_way hI.1 a1 a2 a3
  exact ⟨v, σ1, σ2, e1, e2, h, dep_Id.mv (mX9_way e2) (by decide) (dep_Id.mv (mX8_way e1) (by decide) hI.2)⟩
theorem ox_rule {σ : St} (hI : Ix σ) (a1 a2 : Int32) : ∃ v σ1 σ2, fX8_rule σ a1 a2 = (v, σ1) ∧ fX9_rule σ1 a1 a2 = (v, σ2) ∧ Ix σ2 := by
  obtain ⟨v, σ1, σ2, e1, e2, h⟩ := op_rule hI.1 a1 a2
  exact ⟨v, σ1, σ2, e1, e2, h, dep_Id.mv (mX9_rule e2) (by decide) (dep_Id.mv (mX8_rule e1) (by decide) hI.2)⟩
theorem ox_copy {σ : St} (hI : Ix σ) (a1 a2 a3 a4 a5 : Int32) : ∃ v σ1 σ2, fX8_copy σ a1 a2 a3 a4 a5 = some (v, σ1) ∧ fX9_copy σ1 a1 a2 a3 a4 a5 = some (v, σ2) ∧ Ix σ2 := by
  obtain ⟨v, σ1, σ2, e1, e2, h⟩ := op_copy hI.1 a1 a2 a3 a4 a5
  exact ⟨v, σ1, σ2, e1, e2, h, dep_Id.mv (mX9_copy e2) (by decide) (dep_Id.mv (mX8_copy e1) (by decide) hI.2)⟩
theorem ox_member {σ : St} (hI : Ix σ) (a1 : Int32) (b : Bool) : ∃ v σ1 σ2, fX8_member σ a1 b = some (v, σ1) ∧ fX9_member σ1 a1 b = some (v, σ2) ∧ Ix σ2 := by
  obtain ⟨v, σ1, σ2, e1, e2, h⟩ := op_member hI.1 a1 b
  exact ⟨v, σ1, σ2, e1, e2, h, dep_Id.mv (mX9_member e2) (by decide) (dep_Id.mv (mX8_member e1) (by decide) hI.2)⟩
