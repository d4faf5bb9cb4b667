def cod (r : Rf) (k : Nat) : Nat := if r.1 < 10 then 1000 + 100 * r.1 + k else r.1
/-- nothing changes but what L names: a slot of an object's family by 1000 + 100 f + slot, an array's family by its number -/
def modi (L : List Nat) (σ σ' : St) : Prop := ∀ (r : Rf) (k : Nat), ¬ cod r k ∈ L → σ' r k = σ r k
theorem modi.rf {L : List Nat} {σ : St} : modi L σ σ := fun _ _ _ => rfl
theorem modi.sr {L : List Nat} {σ σ1 : St} {r : Rf} {f : Nat → Int32} (h : modi L σ σ1) (h10 : ¬ r.1 < 10) (hr : r.1 ∈ L) : modi L σ (sr σ1 r f) := fun r' k hr' => by
  have hne : ¬ r' = r := fun e => hr' (by rw [e, cod, if_neg h10]; exact hr)
  rw [sr_ne σ1 f hne]
  exact h r' k hr'
theorem modi.su {L : List Nat} {σ σ1 : St} {r : Rf} {i : Nat} {v : Int32} (h : modi L σ σ1) (hr : cod r i ∈ L) : modi L σ (su σ1 r i v) := fun r' k hr' => by
  have e0 : ∀ q, (fun r' => if r' = r then upd (σ1 r) i v else σ1 r') q = (if q = r then upd (σ1 r) i v else σ1 q) := fun _ => rfl
  show (if r' = r then upd (σ1 r) i v else σ1 r') k = σ r' k
  by_cases e : r' = r
  · subst e
    have hk : ¬ k = i := fun e => hr' (e ▸ hr)
    simp only [if_pos, upd, if_neg hk]
    exact h r' k hr'
  · simp only [if_neg e]
    exact h r' k hr'
theorem modi.tr {L L' : List Nat} {σ σ1 σ2 : St} (h : modi L σ σ1) (h2 : modi L' σ1 σ2) (hs : ∀ x ∈ L', x ∈ L) : modi L σ σ2 := fun r k hr => by
  rw [h2 r k (fun q => hr (hs _ q)), h r k hr]
theorem lp_md {α β : Type} {body : α → Option (α ⊕ β)} {I : α → Prop} {r : β} {P : Prop} (hb : ∀ a y, body a = some y → I a → (∀ a', y = .inl a' → I a' → P) → (∀ b, y = .inr b → b = r) → P) : ∀ {n : Nat} {a : α}, lp body n a = some r → I a → P
  | 0, a, h, _ => by simp [lp] at h
  | n + 1, a, h, hI => by
    unfold lp at h
    cases hq : body a with
    | none => rw [hq] at h; cases h
    | some y =>
      rw [hq] at h
      cases y with
      | inl a' => exact hb a _ hq hI (fun a'' e hI' => by cases e; exact lp_md hb h hI') (fun b e => by cases e)
      | inr b => exact hb a _ hq hI (fun a'' e _ => by cases e) (fun b' e => by cases e; exact Option.some.inj h)
theorem lpF_md {α β : Type} {body : α → Option (α ⊕ β)} {I : α → Prop} {r : β} {P : Prop} (hb : ∀ a y, body a = some y → I a → (∀ a', y = .inl a' → I a' → P) → (∀ b, y = .inr b → b = r) → P) {a : α} (h : lpF body a = some r) (hI : I a) : P := lp_md hb h hI
