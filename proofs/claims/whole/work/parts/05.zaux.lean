theorem fit_b2i (b : Bool) : fits .boolean (.int (b2i b)) = true := by cases b <;> rfl
/-- a loop, with all its fuel -/
def lpF {α β : Type} (body : α → Option (α ⊕ β)) (a : α) : Option β := lp body FU a
theorem lpF_ct {α β : Type} {body : α → Option (α ⊕ β)} {G : α → Prop} {r : β} (hb : ∀ a y, body a = some y → lk G r y → G a) {a : α} (h : lpF body a = some r) : G a := lp_ct hb h
