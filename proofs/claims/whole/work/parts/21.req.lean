abbrev rm_X7_requireArgument : Room := { frames := 0, cells := 0, slots := 0, locals := 0 }
abbrev rmt_X7_requireArgument : Room := { frames := 6, cells := 1, slots := 6, locals := 81 }
set_option maxRecDepth 100000 in
theorem k_X7_requireArgument (l : Launch) (D : va_G) (cI cS cL : ClassId) (p0 : Int32) (h : ¬ p0 = 0) : CV l yX7_requireArgument cX7_requireArgument 1 none rm_X7_requireArgument D cI cS cL [.int p0] [] [] := by
  refine ent_v (by decide +kernel) (Nat.le_of_ble_eq_true rfl) ?_
  intro p e s m args below meth c A ls hx hb hr hml hlocks hg hown hK hP hD hS hA hl
  have hl : lv_has ls 1 [(0, .int p0)] := hl
  refine lv_iload_n hx hb dX7_requireArgument_0 rfl (lv_at hl 0 rfl) ?_
  refine lv_if_ne (tgt := 12) hx hb dX7_requireArgument_1 (by decide) (fun q => ?_) (fun q => absurd q h)
  exact ret_v hx hb hr hlocks hP hD hS dX7_requireArgument_12
theorem at_X7_requireArgument_1 : ∀ w ∈ (vx_at0 RX7 241 "java/lang/IllegalArgumentException" ["java/lang/RuntimeException", "java/lang/Exception"]).filter goodWord, w ∈ GW := by decide +kernel
theorem at_X7_requireArgument_2 : ∀ w ∈ (vx_at0 RX7 241 "java/lang/IllegalArgumentException" ["java/lang/RuntimeException", "java/lang/Exception"]).filter (fun w => !goodWord w), w ∈ NW := by decide +kernel
theorem at_X7_requireArgument_3 : ∀ w ∈ Cond.classLink RX7 239 "java/lang/IllegalArgumentException" :: Cond.initialized "java/lang/IllegalArgumentException" :: vx_at0 RX7 241 "java/lang/IllegalArgumentException" ["java/lang/RuntimeException", "java/lang/Exception"], vx_ot w = true := by decide +kernel
set_option maxRecDepth 100000 in
theorem t_X7_requireArgument (l : Launch) (hlt : l.stackTraces = false) (D : va_G) (cI cS cL : ClassId) (p0 : Int32) (h : p0 = 0) : CTv l yX7_requireArgument cX7_requireArgument 1 none rmt_X7_requireArgument D cI cS cL [.int p0] [] "java/lang/IllegalArgumentException" := by
  refine ent_tv (by decide +kernel) (Nat.le_of_ble_eq_true rfl) ?_
  intro p e s m args below meth c A ls hx hb hr hml hlocks hg hown hK hP hD hS hA hl htab hZ
  have hown : s.vm.findClass RX7 = some m.cls := hown
  have hl : lv_has ls 1 [(0, .int p0)] := hl
  refine lv_iload_n hx hb dX7_requireArgument_0 rfl (lv_at hl 0 rfl) ?_
  refine lv_if_ne (tgt := 12) hx hb dX7_requireArgument_1 (by decide) (fun q => absurd h q) (fun q => ?_)
  exact vx_throw0 hx hb hlt (names := ["java/lang/RuntimeException", "java/lang/Exception"]) hown (by decide +kernel) (by decide +kernel) (hg _ gw_504) (hg _ gw_72) (vx_hat (fun w hw => hg w (at_X7_requireArgument_1 w hw)) at_X7_requireArgument_2 (fun w hw => kk_nest hK hw)) at_X7_requireArgument_3 hZ.1 hZ.2 hS (hl.1.trans hml.symm) dX7_requireArgument_4 dX7_requireArgument_7 dX7_requireArgument_8 dX7_requireArgument_11 (fun x hx => (htab x hx).elim) (by decide) (by decide) (by decide) (by decide) hlocks (fun t _ hz hk => ⟨(), trivial, ⟨rfl, (fun k q h => by simp at h), hD⟩, hz, fun q hq _ => hk q hq⟩) (fun z hz => nomatch hz) (by decide) (by decide)

abbrev rm_X7_requireIndex : Room := { frames := 0, cells := 0, slots := 0, locals := 0 }
abbrev rmt_X7_requireIndex : Room := { frames := 6, cells := 1, slots := 6, locals := 81 }
set_option maxRecDepth 100000 in
theorem k_X7_requireIndex (l : Launch) (D : va_G) (cI cS cL : ClassId) (p0 : Int32) (h : ¬ p0 = 0) : CV l yX7_requireIndex cX7_requireIndex 1 none rm_X7_requireIndex D cI cS cL [.int p0] [] [] := by
  refine ent_v (by decide +kernel) (Nat.le_of_ble_eq_true rfl) ?_
  intro p e s m args below meth c A ls hx hb hr hml hlocks hg hown hK hP hD hS hA hl
  have hl : lv_has ls 1 [(0, .int p0)] := hl
  refine lv_iload_n hx hb dX7_requireIndex_0 rfl (lv_at hl 0 rfl) ?_
  refine lv_if_ne (tgt := 12) hx hb dX7_requireIndex_1 (by decide) (fun q => ?_) (fun q => absurd q h)
  exact ret_v hx hb hr hlocks hP hD hS dX7_requireIndex_12
theorem at_X7_requireIndex_1 : ∀ w ∈ (vx_at0 RX7 244 "java/lang/IndexOutOfBoundsException" ["java/lang/RuntimeException", "java/lang/Exception"]).filter goodWord, w ∈ GW := by decide +kernel
theorem at_X7_requireIndex_2 : ∀ w ∈ (vx_at0 RX7 244 "java/lang/IndexOutOfBoundsException" ["java/lang/RuntimeException", "java/lang/Exception"]).filter (fun w => !goodWord w), w ∈ NW := by decide +kernel
theorem at_X7_requireIndex_3 : ∀ w ∈ Cond.classLink RX7 242 "java/lang/IndexOutOfBoundsException" :: Cond.initialized "java/lang/IndexOutOfBoundsException" :: vx_at0 RX7 244 "java/lang/IndexOutOfBoundsException" ["java/lang/RuntimeException", "java/lang/Exception"], vx_ot w = true := by decide +kernel
set_option maxRecDepth 100000 in
theorem t_X7_requireIndex (l : Launch) (hlt : l.stackTraces = false) (D : va_G) (cI cS cL : ClassId) (p0 : Int32) (h : p0 = 0) : CTv l yX7_requireIndex cX7_requireIndex 1 none rmt_X7_requireIndex D cI cS cL [.int p0] [] "java/lang/IndexOutOfBoundsException" := by
  refine ent_tv (by decide +kernel) (Nat.le_of_ble_eq_true rfl) ?_
  intro p e s m args below meth c A ls hx hb hr hml hlocks hg hown hK hP hD hS hA hl htab hZ
  have hown : s.vm.findClass RX7 = some m.cls := hown
  have hl : lv_has ls 1 [(0, .int p0)] := hl
  refine lv_iload_n hx hb dX7_requireIndex_0 rfl (lv_at hl 0 rfl) ?_
  refine lv_if_ne (tgt := 12) hx hb dX7_requireIndex_1 (by decide) (fun q => absurd h q) (fun q => ?_)
  exact vx_throw0 hx hb hlt (names := ["java/lang/RuntimeException", "java/lang/Exception"]) hown (by decide +kernel) (by decide +kernel) (hg _ gw_682) (hg _ gw_75) (vx_hat (fun w hw => hg w (at_X7_requireIndex_1 w hw)) at_X7_requireIndex_2 (fun w hw => kk_nest hK hw)) at_X7_requireIndex_3 hZ.1 hZ.2 hS (hl.1.trans hml.symm) dX7_requireIndex_4 dX7_requireIndex_7 dX7_requireIndex_8 dX7_requireIndex_11 (fun x hx => (htab x hx).elim) (by decide) (by decide) (by decide) (by decide) hlocks (fun t _ hz hk => ⟨(), trivial, ⟨rfl, (fun k q h => by simp at h), hD⟩, hz, fun q hq _ => hk q hq⟩) (fun z hz => nomatch hz) (by decide) (by decide)

abbrev rm_X7_requireState : Room := { frames := 0, cells := 0, slots := 0, locals := 0 }
abbrev rmt_X7_requireState : Room := { frames := 6, cells := 1, slots := 6, locals := 81 }
set_option maxRecDepth 100000 in
theorem k_X7_requireState (l : Launch) (D : va_G) (cI cS cL : ClassId) (p0 : Int32) (h : ¬ p0 = 0) : CV l yX7_requireState cX7_requireState 1 none rm_X7_requireState D cI cS cL [.int p0] [] [] := by
  refine ent_v (by decide +kernel) (Nat.le_of_ble_eq_true rfl) ?_
  intro p e s m args below meth c A ls hx hb hr hml hlocks hg hown hK hP hD hS hA hl
  have hl : lv_has ls 1 [(0, .int p0)] := hl
  refine lv_iload_n hx hb dX7_requireState_0 rfl (lv_at hl 0 rfl) ?_
  refine lv_if_ne (tgt := 12) hx hb dX7_requireState_1 (by decide) (fun q => ?_) (fun q => absurd q h)
  exact ret_v hx hb hr hlocks hP hD hS dX7_requireState_12
theorem at_X7_requireState_1 : ∀ w ∈ (vx_at0 RX7 247 "java/lang/IllegalStateException" ["java/lang/RuntimeException", "java/lang/Exception"]).filter goodWord, w ∈ GW := by decide +kernel
theorem at_X7_requireState_2 : ∀ w ∈ (vx_at0 RX7 247 "java/lang/IllegalStateException" ["java/lang/RuntimeException", "java/lang/Exception"]).filter (fun w => !goodWord w), w ∈ NW := by decide +kernel
theorem at_X7_requireState_3 : ∀ w ∈ Cond.classLink RX7 245 "java/lang/IllegalStateException" :: Cond.initialized "java/lang/IllegalStateException" :: vx_at0 RX7 247 "java/lang/IllegalStateException" ["java/lang/RuntimeException", "java/lang/Exception"], vx_ot w = true := by decide +kernel
set_option maxRecDepth 100000 in
theorem t_X7_requireState (l : Launch) (hlt : l.stackTraces = false) (D : va_G) (cI cS cL : ClassId) (p0 : Int32) (h : p0 = 0) : CTv l yX7_requireState cX7_requireState 1 none rmt_X7_requireState D cI cS cL [.int p0] [] "java/lang/IllegalStateException" := by
  refine ent_tv (by decide +kernel) (Nat.le_of_ble_eq_true rfl) ?_
  intro p e s m args below meth c A ls hx hb hr hml hlocks hg hown hK hP hD hS hA hl htab hZ
  have hown : s.vm.findClass RX7 = some m.cls := hown
  have hl : lv_has ls 1 [(0, .int p0)] := hl
  refine lv_iload_n hx hb dX7_requireState_0 rfl (lv_at hl 0 rfl) ?_
  refine lv_if_ne (tgt := 12) hx hb dX7_requireState_1 (by decide) (fun q => absurd h q) (fun q => ?_)
  exact vx_throw0 hx hb hlt (names := ["java/lang/RuntimeException", "java/lang/Exception"]) hown (by decide +kernel) (by decide +kernel) (hg _ gw_574) (hg _ gw_73) (vx_hat (fun w hw => hg w (at_X7_requireState_1 w hw)) at_X7_requireState_2 (fun w hw => kk_nest hK hw)) at_X7_requireState_3 hZ.1 hZ.2 hS (hl.1.trans hml.symm) dX7_requireState_4 dX7_requireState_7 dX7_requireState_8 dX7_requireState_11 (fun x hx => (htab x hx).elim) (by decide) (by decide) (by decide) (by decide) hlocks (fun t _ hz hk => ⟨(), trivial, ⟨rfl, (fun k q h => by simp at h), hD⟩, hz, fun q hq _ => hk q hq⟩) (fun z hz => nomatch hz) (by decide) (by decide)
