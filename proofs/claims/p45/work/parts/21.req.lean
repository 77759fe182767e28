abbrev rm_X7_requireArgument : Room := { frames := 0, cells := 0, slots := 0, locals := 0 }
set_option maxRecDepth 100000 in
theorem k_X7_requireArgument (l : Launch) (D : va_G) (cI cS cL : ClassId) (p0 : Int32) (h : ¬ p0 = 0) : CV l yX7_requireArgument cX7_requireArgument 1 none rm_X7_requireArgument D cI cS cL [.int p0] [] [] := by
  refine ent_v (by decide +kernel) (Nat.le_of_ble_eq_true rfl) ?_
  intro p e s m args below meth c A ls hx hb hr hml hlocks hg hown hK hP hD hS hA hl
  have hl : lv_has ls 1 [(0, .int p0)] := hl
  refine lv_iload_n hx hb dX7_requireArgument_0 rfl (lv_at hl 0 rfl) ?_
  refine lv_if_ne (tgt := 12) hx hb dX7_requireArgument_1 (by decide) (fun q => ?_) (fun q => absurd q h)
  exact ret_v hx hb hr hlocks hP hD hS dX7_requireArgument_12

abbrev rm_X7_requireIndex : Room := { frames := 0, cells := 0, slots := 0, locals := 0 }
set_option maxRecDepth 100000 in
theorem k_X7_requireIndex (l : Launch) (D : va_G) (cI cS cL : ClassId) (p0 : Int32) (h : ¬ p0 = 0) : CV l yX7_requireIndex cX7_requireIndex 1 none rm_X7_requireIndex D cI cS cL [.int p0] [] [] := by
  refine ent_v (by decide +kernel) (Nat.le_of_ble_eq_true rfl) ?_
  intro p e s m args below meth c A ls hx hb hr hml hlocks hg hown hK hP hD hS hA hl
  have hl : lv_has ls 1 [(0, .int p0)] := hl
  refine lv_iload_n hx hb dX7_requireIndex_0 rfl (lv_at hl 0 rfl) ?_
  refine lv_if_ne (tgt := 12) hx hb dX7_requireIndex_1 (by decide) (fun q => ?_) (fun q => absurd q h)
  exact ret_v hx hb hr hlocks hP hD hS dX7_requireIndex_12

abbrev rm_X7_requireState : Room := { frames := 0, cells := 0, slots := 0, locals := 0 }
set_option maxRecDepth 100000 in
theorem k_X7_requireState (l : Launch) (D : va_G) (cI cS cL : ClassId) (p0 : Int32) (h : ¬ p0 = 0) : CV l yX7_requireState cX7_requireState 1 none rm_X7_requireState D cI cS cL [.int p0] [] [] := by
  refine ent_v (by decide +kernel) (Nat.le_of_ble_eq_true rfl) ?_
  intro p e s m args below meth c A ls hx hb hr hml hlocks hg hown hK hP hD hS hA hl
  have hl : lv_has ls 1 [(0, .int p0)] := hl
  refine lv_iload_n hx hb dX7_requireState_0 rfl (lv_at hl 0 rfl) ?_
  refine lv_if_ne (tgt := 12) hx hb dX7_requireState_1 (by decide) (fun q => ?_) (fun q => absurd q h)
  exact ret_v hx hb hr hlocks hP hD hS dX7_requireState_12
