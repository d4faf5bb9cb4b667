/-! ===== the invariant with the law's items ===== -/
def Iy (σ : St) : Prop := Ix σ ∧ itOk (σ (27, 0))
theorem it27 {L : List Nat} {σ s : St} (h : itOk (σ (27, 0))) (hm : modi L σ s) (hL : ¬ 27 ∈ L) : itOk (s (27, 0)) := fun k hk => by
  rw [hm (27, 0) k (by rw [cod_a (by decide)]; exact hL)]
  exact h k hk
theorem oy_type {σ : St} (h : Iy σ) (a1 a2 : Int32) : ∃ v σ1 σ2, fX8_type σ a1 a2 = some (v, σ1) ∧ fX9_type σ1 a1 a2 = some (v, σ2) ∧ Iy σ2 := by
  obtain ⟨v, s1, s2, e1, e2, h2⟩ := op_type h.1 a1 a2
  exact ⟨v, s1, s2, e1, e2, h2, it27 (it27 h.2 (mX8_type e1) (by decide)) (mX9_type e2) (by decide)⟩
theorem oy_wipe {σ : St} (h : Iy σ) (a1 : Int32) : ∃ v σ1 σ2, fX8_wipe σ a1 = some (v, σ1) ∧ fX9_wipe σ1 a1 = some (v, σ2) ∧ Iy σ2 := by
  obtain ⟨v, s1, s2, e1, e2, h2⟩ := op_wipe h.1 a1
  exact ⟨v, s1, s2, e1, e2, h2, it27 (it27 h.2 (mX8_wipe e1) (by decide)) (mX9_wipe e2) (by decide)⟩
theorem oy_match {σ : St} (h : Iy σ) (a1 a2 : Int32) : ∃ v σ1 σ2, fX8_match σ a1 a2 = some (v, σ1) ∧ fX9_match σ1 a1 a2 = some (v, σ2) ∧ Iy σ2 := by
  obtain ⟨v, s1, s2, e1, e2, h2⟩ := ox_match h.1 a1 a2
  exact ⟨v, s1, s2, e1, e2, h2, it27 (it27 h.2 (mX8_match e1) (by decide)) (mX9_match e2) (by decide)⟩
theorem oy_verdicts {σ : St} (h : Iy σ) (a1 a2 : Int32) : ∃ v σ1 σ2, fX8_verdicts σ a1 a2 = some (v, σ1) ∧ fX9_verdicts σ1 a1 a2 = some (v, σ2) ∧ Iy σ2 := by
  obtain ⟨v, s1, s2, e1, e2, h2⟩ := ox_verdicts h.1 a1 a2
  exact ⟨v, s1, s2, e1, e2, h2, it27 (it27 h.2 (mX8_verdicts e1) (by decide)) (mX9_verdicts e2) (by decide)⟩
theorem oy_played {σ : St} (h : Iy σ) (a1 a2 a3 a4 a5 : Int32) : ∃ v σ1 σ2, fX8_played σ a1 a2 a3 a4 a5 = some (v, σ1) ∧ fX9_played σ1 a1 a2 a3 a4 a5 = some (v, σ2) ∧ Iy σ2 := by
  obtain ⟨v, s1, s2, e1, e2, h2⟩ := op_played h.1 a1 a2 a3 a4 a5
  exact ⟨v, s1, s2, e1, e2, h2, it27 (it27 h.2 (mX8_played e1) (by decide)) (mX9_played e2) (by decide)⟩
theorem oy_goes {σ : St} (h : Iy σ) (a1 a2 a3 : Int32) : ∃ v σ1 σ2, fX8_goes σ a1 a2 a3 = some (v, σ1) ∧ fX9_goes σ1 a1 a2 a3 = some (v, σ2) ∧ Iy σ2 := by
  obtain ⟨v, s1, s2, e1, e2, h2⟩ := op_goes h.1 a1 a2 a3
  exact ⟨v, s1, s2, e1, e2, h2, it27 (it27 h.2 (mX8_goes e1) (by decide)) (mX9_goes e2) (by decide)⟩
theorem oy_turned {σ : St} (h : Iy σ) (a1 a2 : Int32) : ∃ v σ1 σ2, fX8_turned σ a1 a2 = some (v, σ1) ∧ fX9_turned σ1 a1 a2 = some (v, σ2) ∧ Iy σ2 := by
  obtain ⟨v, s1, s2, e1, e2, h2⟩ := op_turned h.1 a1 a2
  exact ⟨v, s1, s2, e1, e2, h2, it27 (it27 h.2 (mX8_turned e1) (by decide)) (mX9_turned e2) (by decide)⟩
theorem oy_found {σ : St} (h : Iy σ) (a1 a2 : Int32) : ∃ v σ1 σ2, fX8_found σ a1 a2 = some (v, σ1) ∧ fX9_found σ1 a1 a2 = some (v, σ2) ∧ Iy σ2 := by
  obtain ⟨v, s1, s2, e1, e2, h2⟩ := op_found h.1 a1 a2
  exact ⟨v, s1, s2, e1, e2, h2, it27 (it27 h.2 (mX8_found e1) (by decide)) (mX9_found e2) (by decide)⟩
theorem oy_fits {σ : St} (h : Iy σ) (a1 a2 : Int32) : ∃ v σ1 σ2, fX8_fits σ a1 a2 = some (v, σ1) ∧ fX9_fits σ1 a1 a2 = some (v, σ2) ∧ Iy σ2 := by
  obtain ⟨v, s1, s2, e1, e2, h2⟩ := op_fits h.1 a1 a2
  exact ⟨v, s1, s2, e1, e2, h2, it27 (it27 h.2 (mX8_fits e1) (by decide)) (mX9_fits e2) (by decide)⟩
theorem oy_fitting {σ : St} (h : Iy σ) : ∃ v σ1 σ2, fX8_fitting σ  = some (v, σ1) ∧ fX9_fitting σ1  = some (v, σ2) ∧ Iy σ2 := by
  obtain ⟨v, s1, s2, e1, e2, h2⟩ := op_fitting h.1 
  exact ⟨v, s1, s2, e1, e2, h2, it27 (it27 h.2 (mX8_fitting e1) (by decide)) (mX9_fitting e2) (by decide)⟩
theorem oy_parts {σ : St} (h : Iy σ) (a1 a2 : Int32) : ∃ v σ1 σ2, fX8_parts σ a1 a2 = some (v, σ1) ∧ fX9_parts σ1 a1 a2 = some (v, σ2) ∧ Iy σ2 := by
  obtain ⟨v, s1, s2, e1, e2, h2⟩ := op_parts h.1 a1 a2
  exact ⟨v, s1, s2, e1, e2, h2, it27 (it27 h.2 (mX8_parts e1) (by decide)) (mX9_parts e2) (by decide)⟩
theorem oy_parting {σ : St} (h : Iy σ) (a1 a2 a3 : Int32) : ∃ v σ1 σ2, fX8_parting σ a1 a2 a3 = some (v, σ1) ∧ fX9_parting σ1 a1 a2 a3 = some (v, σ2) ∧ Iy σ2 := by
  obtain ⟨v, s1, s2, e1, e2, h2⟩ := op_parting h.1 a1 a2 a3
  exact ⟨v, s1, s2, e1, e2, h2, it27 (it27 h.2 (mX8_parting e1) (by decide)) (mX9_parting e2) (by decide)⟩
theorem oy_fewest {σ : St} (h : Iy σ) (a1 a2 : Int32) : ∃ v σ1 σ2, fX8_fewest σ a1 a2 = some (v, σ1) ∧ fX9_fewest σ1 a1 a2 = some (v, σ2) ∧ Iy σ2 := by
  obtain ⟨v, s1, s2, e1, e2, h2⟩ := op_fewest h.1 a1 a2
  exact ⟨v, s1, s2, e1, e2, h2, it27 (it27 h.2 (mX8_fewest e1) (by decide)) (mX9_fewest e2) (by decide)⟩
theorem oy_club {σ : St} (h : Iy σ) (a1 a2 : Int32) : ∃ v σ1 σ2, fX8_club σ a1 a2 = some (v, σ1) ∧ fX9_club σ1 a1 a2 = some (v, σ2) ∧ Iy σ2 := by
  obtain ⟨v, s1, s2, e1, e2, h2⟩ := ox_club h.1 a1 a2
  exact ⟨v, s1, s2, e1, e2, h2, it27 (it27 h.2 (mX8_club e1) (by decide)) (mX9_club e2) (by decide)⟩
theorem oy_change {σ : St} (h : Iy σ) (a1 a2 a3 : Int32) : ∃ v σ1 σ2, fX8_change σ a1 a2 a3 = some (v, σ1) ∧ fX9_change σ1 a1 a2 a3 = some (v, σ2) ∧ Iy σ2 := by
  obtain ⟨v, s1, s2, e1, e2, h2⟩ := ox_change h.1 a1 a2 a3
  exact ⟨v, s1, s2, e1, e2, h2, it27 (it27 h.2 (mX8_change e1) (by decide)) (mX9_change e2) (by decide)⟩
theorem oy_between {σ : St} (h : Iy σ) (a1 a2 a3 a4 : Int32) : ∃ v σ1 σ2, fX8_between σ a1 a2 a3 a4 = some (v, σ1) ∧ fX9_between σ1 a1 a2 a3 a4 = some (v, σ2) ∧ Iy σ2 := by
  obtain ⟨v, s1, s2, e1, e2, h2⟩ := op_between h.1 a1 a2 a3 a4
  exact ⟨v, s1, s2, e1, e2, h2, it27 (it27 h.2 (mX8_between e1) (by decide)) (mX9_between e2) (by decide)⟩
theorem oy_halves {σ : St} (h : Iy σ) (a1 a2 a3 a4 : Int32) : ∃ v σ1 σ2, fX8_halves σ a1 a2 a3 a4 = some (v, σ1) ∧ fX9_halves σ1 a1 a2 a3 a4 = some (v, σ2) ∧ Iy σ2 := by
  obtain ⟨v, s1, s2, e1, e2, h2⟩ := op_halves h.1 a1 a2 a3 a4
  exact ⟨v, s1, s2, e1, e2, h2, it27 (it27 h.2 (mX8_halves e1) (by decide)) (mX9_halves e2) (by decide)⟩
theorem oy_way {σ : St} (h : Iy σ) (a1 a2 a3 : Int32) : ∃ v σ1 σ2, fX8_way σ a1 a2 a3 = some (v, σ1) ∧ fX9_way σ1 a1 a2 a3 = some (v, σ2) ∧ Iy σ2 := by
  obtain ⟨v, s1, s2, e1, e2, h2⟩ := ox_way h.1 a1 a2 a3
  exact ⟨v, s1, s2, e1, e2, h2, it27 (it27 h.2 (mX8_way e1) (by decide)) (mX9_way e2) (by decide)⟩
theorem oy_draws {σ : St} (h : Iy σ) (a1 a2 : Int32) : ∃ v σ1 σ2, fX8_draws σ a1 a2 = some (v, σ1) ∧ fX9_draws σ1 a1 a2 = some (v, σ2) ∧ Iy σ2 := by
  obtain ⟨v, s1, s2, e1, e2, h2⟩ := op_draws h.1 a1 a2
  exact ⟨v, s1, s2, e1, e2, h2, it27 (it27 h.2 (mX8_draws e1) (by decide)) (mX9_draws e2) (by decide)⟩
theorem oy_mate {σ : St} (h : Iy σ) (a1 a2 a3 : Int32) : ∃ v σ1 σ2, fX8_mate σ a1 a2 a3 = some (v, σ1) ∧ fX9_mate σ1 a1 a2 a3 = some (v, σ2) ∧ Iy σ2 := by
  obtain ⟨v, s1, s2, e1, e2, h2⟩ := op_mate h.1 a1 a2 a3
  exact ⟨v, s1, s2, e1, e2, h2, it27 (it27 h.2 (mX8_mate e1) (by decide)) (mX9_mate e2) (by decide)⟩
theorem oy_cup {σ : St} (h : Iy σ) (a1 a2 : Int32) : ∃ v σ1 σ2, fX8_cup σ a1 a2 = some (v, σ1) ∧ fX9_cup σ1 a1 a2 = some (v, σ2) ∧ Iy σ2 := by
  obtain ⟨v, s1, s2, e1, e2, h2⟩ := op_cup h.1 a1 a2
  exact ⟨v, s1, s2, e1, e2, h2, it27 (it27 h.2 (mX8_cup e1) (by decide)) (mX9_cup e2) (by decide)⟩
theorem oy_sheet {σ : St} (h : Iy σ) (a1 a2 a3 : Int32) : ∃ v σ1 σ2, fX8_sheet σ a1 a2 a3 = some (v, σ1) ∧ fX9_sheet σ1 a1 a2 a3 = some (v, σ2) ∧ Iy σ2 := by
  obtain ⟨v, s1, s2, e1, e2, h2⟩ := ox_sheet h.1 a1 a2 a3
  exact ⟨v, s1, s2, e1, e2, h2, it27 (it27 h.2 (mX8_sheet e1) (by decide)) (mX9_sheet e2) (by decide)⟩
theorem oy_lose {σ : St} (h : Iy σ) (a1 : Int32) : ∃ v σ1 σ2, fX8_lose σ a1 = some (v, σ1) ∧ fX9_lose σ1 a1 = some (v, σ2) ∧ Iy σ2 := by
  obtain ⟨v, s1, s2, e1, e2, h2⟩ := ox_lose h.1 a1
  exact ⟨v, s1, s2, e1, e2, h2, it27 (it27 h.2 (mX8_lose e1) (by decide)) (mX9_lose e2) (by decide)⟩
theorem oy_lay {σ : St} (h : Iy σ) (a1 a2 a3 a4 : Int32) : ∃ v σ1 σ2, fX8_lay σ a1 a2 a3 a4 = some (v, σ1) ∧ fX9_lay σ1 a1 a2 a3 a4 = some (v, σ2) ∧ Iy σ2 := by
  obtain ⟨v, s1, s2, e1, e2, h2⟩ := ox_lay h.1 a1 a2 a3 a4
  exact ⟨v, s1, s2, e1, e2, h2, it27 (it27 h.2 (mX8_lay e1) (by decide)) (mX9_lay e2) (by decide)⟩
theorem oy_get {σ : St} (h : Iy σ) (a1 a2 a3 : Int32) : ∃ v σ1 σ2, fX8_get σ a1 a2 a3 = some (v, σ1) ∧ fX9_get σ1 a1 a2 a3 = some (v, σ2) ∧ Iy σ2 := by
  obtain ⟨v, s1, s2, e1, e2, h2⟩ := ox_get h.1 a1 a2 a3
  exact ⟨v, s1, s2, e1, e2, h2, it27 (it27 h.2 (mX8_get e1) (by decide)) (mX9_get e2) (by decide)⟩
theorem oy_copy {σ : St} (h : Iy σ) (a1 a2 a3 a4 a5 : Int32) : ∃ v σ1 σ2, fX8_copy σ a1 a2 a3 a4 a5 = some (v, σ1) ∧ fX9_copy σ1 a1 a2 a3 a4 a5 = some (v, σ2) ∧ Iy σ2 := by
  obtain ⟨v, s1, s2, e1, e2, h2⟩ := ox_copy h.1 a1 a2 a3 a4 a5
  exact ⟨v, s1, s2, e1, e2, h2, it27 (it27 h.2 (mX8_copy e1) (by decide)) (mX9_copy e2) (by decide)⟩
theorem oy_write {σ : St} (h : Iy σ) (a1 a2 a3 : Int32) : ∃ v σ1 σ2, fX8_write σ a1 a2 a3 = some (v, σ1) ∧ fX9_write σ1 a1 a2 a3 = some (v, σ2) ∧ Iy σ2 := by
  obtain ⟨v, s1, s2, e1, e2, h2⟩ := op_write h.1 a1 a2 a3
  exact ⟨v, s1, s2, e1, e2, h2, it27 (it27 h.2 (mX8_write e1) (by decide)) (mX9_write e2) (by decide)⟩
theorem oy_digest {σ : St} (h : Iy σ) : ∃ v σ1 σ2, fX8_digest σ  = some (v, σ1) ∧ fX9_digest σ1  = some (v, σ2) ∧ Iy σ2 := by
  obtain ⟨v, s1, s2, e1, e2, h2⟩ := op_digest h.1 
  exact ⟨v, s1, s2, e1, e2, h2, it27 (it27 h.2 (mX8_digest e1) (by decide)) (mX9_digest e2) (by decide)⟩
theorem oy_fault {σ : St} (h : Iy σ) (a1 : Int32) : ∃ v σ2, fX8_fault σ a1 = some v ∧ fX9_fault σ a1 = some (v, σ2) ∧ Iy σ2 := by
  obtain ⟨v, s2, e1, e2, h2⟩ := op_fault h.1 a1
  exact ⟨v, s2, e1, e2, h2, it27 h.2 (mX9_fault e2) (by decide)⟩
theorem oy_item {σ : St} (h : Iy σ) (a1 a2 : Int32) : ∃ v σ2, fX8_item σ a1 a2 = some v ∧ fX9_item σ a1 a2 = some (v, σ2) ∧ Iy σ2 := by
  obtain ⟨v, s2, e1, e2, h2⟩ := op_item h.1 a1 a2
  exact ⟨v, s2, e1, e2, h2, it27 h.2 (mX9_item e2) (by decide)⟩
theorem oy_why {σ : St} (h : Iy σ) (a1 a2 a3 : Int32) : ∃ v σ2, fX8_why σ a1 a2 a3 = some v ∧ fX9_why σ a1 a2 a3 = some (v, σ2) ∧ Iy σ2 := by
  obtain ⟨v, s2, e1, e2, h2⟩ := op_why h.1 a1 a2 a3
  exact ⟨v, s2, e1, e2, h2, it27 h.2 (mX9_why e2) (by decide)⟩
theorem oy_differ {σ : St} (h : Iy σ) (a1 a2 : Int32) : ∃ v σ2, fX8_differ σ a1 a2 = some v ∧ fX9_differ σ a1 a2 = some (v, σ2) ∧ Iy σ2 := by
  obtain ⟨v, s2, e1, e2, h2⟩ := op_differ h.1 a1 a2
  exact ⟨v, s2, e1, e2, h2, it27 h.2 (mX9_differ e2) (by decide)⟩
theorem oy_agree {σ : St} (h : Iy σ) (a1 a2 : Int32) : ∃ v σ2, fX8_agree σ a1 a2 = some v ∧ fX9_agree σ a1 a2 = some (v, σ2) ∧ Iy σ2 := by
  obtain ⟨v, s2, e1, e2, h2⟩ := op_agree h.1 a1 a2
  exact ⟨v, s2, e1, e2, h2, it27 h.2 (mX9_agree e2) (by decide)⟩
theorem oy_gives {σ : St} (h : Iy σ) (a1 a2 : Int32) : ∃ v σ2, fX8_gives σ a1 a2 = some v ∧ fX9_gives σ a1 a2 = some (v, σ2) ∧ Iy σ2 := by
  obtain ⟨v, s2, e1, e2, h2⟩ := op_gives h.1 a1 a2
  exact ⟨v, s2, e1, e2, h2, it27 h.2 (mX9_gives e2) (by decide)⟩
theorem oy_motion {σ : St} (h : Iy σ) (a1 a2 a3 : Int32) : ∃ v σ2, fX8_motion σ a1 a2 a3 = some v ∧ fX9_motion σ a1 a2 a3 = some (v, σ2) ∧ Iy σ2 := by
  obtain ⟨v, s2, e1, e2, h2⟩ := op_motion h.1 a1 a2 a3
  exact ⟨v, s2, e1, e2, h2, it27 h.2 (mX9_motion e2) (by decide)⟩
theorem oy_member {σ : St} (h : Iy σ) (a1 : Int32) (a2 : Bool) : ∃ v σ1 σ2, fX8_member σ a1 a2 = some (v, σ1) ∧ fX9_member σ1 a1 a2 = some (v, σ2) ∧ Iy σ2 := by
  obtain ⟨v, s1, s2, e1, e2, h2⟩ := ox_member h.1 a1 a2
  exact ⟨v, s1, s2, e1, e2, h2, it27 (it27 h.2 (mX8_member e1) (by decide)) (mX9_member e2) (by decide)⟩
theorem oy_rule {σ : St} (h : Iy σ) (a1 a2 : Int32) : ∃ v σ1 σ2, fX8_rule σ a1 a2 = (v, σ1) ∧ fX9_rule σ1 a1 a2 = (v, σ2) ∧ Iy σ2 := by
  obtain ⟨v, s1, s2, e1, e2, h2⟩ := ox_rule h.1 a1 a2
  exact ⟨v, s1, s2, e1, e2, h2, it27 (it27 h.2 (mX8_rule e1) (by decide)) (mX9_rule e2) (by decide)⟩
theorem oy_best {σ : St} (h : Iy σ) (a1 a2 a3 : Int32) : ∃ v σ1 σ2, fX8_best σ a1 a2 a3 = some (v, σ1) ∧ fX9_best σ1 a1 a2 a3 = some (v, σ2) ∧ Iy σ2 := by
  obtain ⟨v, s1, s2, e1, e2, h2⟩ := op_best h.1 h.2 a1 a2 a3
  exact ⟨v, s1, s2, e1, e2, h2, it27 (it27 h.2 (mX8_best e1) (by decide)) (mX9_best e2) (by decide)⟩
theorem oy_law {σ : St} (h : Iy σ) (a1 : Int32) : ∃ v, fX8_law σ a1 = some v ∧ fX9_law σ a1 = some v := op_law h.1.1 a1
theorem oy_count {σ : St} (h : Iy σ) (a1 : Int32) : ∃ v, fX8_count σ a1 = some v ∧ fX9_count σ a1 = some v := op_count h.1 a1
