theorem map_inl {α β : Type} {x : Option α} {r : α} (h : x.map (Sum.inl (β := β)) = some (.inl r)) : x = some r := by
  cases x with
  | none => cases h
  | some a => cases h; rfl
theorem map_inr {α β : Type} {x : Option α} {r : β} {C : Prop} (h : x.map (Sum.inl (β := β)) = some (.inr r)) : C := by
  cases x with
  | none => cases h
  | some a => cases h
