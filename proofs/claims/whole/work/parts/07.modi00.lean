def modi (L : List Nat) (σ σ' : St) : Prop := ∀ r : Rf, ¬ r.1 ∈ L → σ' r = σ r
theorem modi.rf {L : List Nat} {σ : St} : modi L σ σ := fun _ _ => rfl
theorem modi.sr {L : List Nat} {σ σ1 : St} {r : Rf} {f : Nat → Int32} (h : modi L σ σ1) (hr : r.1 ∈ L) : modi L σ (sr σ1 r f) := fun r' hr' => by
  have hne : ¬ r' = r := fun e => hr' (by rw [e]; exact hr)
  rw [sr_ne σ1 f hne]
  exact h r' hr'
theorem modi.tr {L L' : List Nat} {σ σ1 σ2 : St} (h : modi L σ σ1) (h2 : modi L' σ1 σ2) (hs : ∀ x ∈ L', x ∈ L) : modi L σ σ2 := fun r hr => by
  rw [h2 r (fun q => hr (hs _ q)), h r hr]
theorem lp_md {α β : Type} {body : α → Option (α ⊕ β)} {I : α → Prop} {r : β} {P : Prop} (hb : ∀ a y, body a = some y → I a → (∀ a', y = .inl a' → I a' → P) → (∀ b, y = .inr b → b = r) → P) : ∀ {n : Nat} {a : α}, lp body n a = some r → I a → P
  | 0, a, h, _ => by simp [lp] at h
  | n + 1, a, h, hI => by
    unfold lp at h
    cases hq : body a with
    | none => rw [hq] at h; cases h
    | some y =>
      rw [hq] at h
      cases y with
      | inl a' => exact hb a _ hq hI (fun a'' e hI' => by cases e; exact lp_md hb h hI') (fun b e => by cases e)
      | inr b => exact hb a _ hq hI (fun a'' e _ => by cases e) (fun b' e => by cases e; exact Option.some.inj h)
