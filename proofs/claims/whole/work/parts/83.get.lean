theorem pb_caret {Z : Nat} : PB_caret Z Rel := by
  intro vCar vGoa vEag tN tF cN cF mP mS kCap kGap kCar kCop kGro kShr bN bF rCmd rLet rNum fCap fGap fCar fCop fGro fShr hX hC hR aTh aSm aLn aAt aWe aRm aBm aHa aS aSv aCm aRd aBy h
  have h1 := h.1
  obtain ⟨n, c, g, q, cp, l, hb, hv, he, hs, -⟩ := h1
  refine ⟨_, 0, rfl, ?_, h⟩
  unfold f_X8_caret
  rw [rd_1, tn_1, hs.2.1, show vCar = nI c from hv.2.1]
theorem pb_capacity {Z : Nat} : PB_capacity Z Rel := by
  intro vCar vGoa vEag tN tF cN cF mP mS kCap kGap kCar kCop kGro kShr bN bF rCmd rLet rNum fCap fGap fCar fCop fGro fShr hX hC hR aTh aSm aLn aAt aWe aRm aBm aHa aS aSv aCm aRd aBy h
  have h1 := h.1
  obtain ⟨n, c, g, q, cp, l, hb, hv, he, hs, -⟩ := h1
  refine ⟨_, 0, rfl, ?_, h⟩
  unfold f_X8_capacity
  rw [rd_3, tn_3, hs.2.2.2.1, show kCap = nI cp from hv.2.2.2.2.1]
theorem pb_gapStart {Z : Nat} : PB_gapStart Z Rel := by
  intro vCar vGoa vEag tN tF cN cF mP mS kCap kGap kCar kCop kGro kShr bN bF rCmd rLet rNum fCap fGap fCar fCop fGro fShr hX hC hR aTh aSm aLn aAt aWe aRm aBm aHa aS aSv aCm aRd aBy h
  have h1 := h.1
  obtain ⟨n, c, g, q, cp, l, hb, hv, he, hs, -⟩ := h1
  refine ⟨_, 0, rfl, ?_, h⟩
  unfold f_X8_gapStart
  rw [rd_2, tn_2, hs.2.2.1, show kGap = nI g from hv.2.2.1]
theorem pb_carried {Z : Nat} : PB_carried Z Rel := by
  intro vCar vGoa vEag tN tF cN cF mP mS kCap kGap kCar kCop kGro kShr bN bF rCmd rLet rNum fCap fGap fCar fCop fGro fShr hX hC hR aTh aSm aLn aAt aWe aRm aBm aHa aS aSv aCm aRd aBy h
  have h1 := h.1
  obtain ⟨n, c, g, q, cp, l, hb, hv, he, hs, -⟩ := h1
  refine ⟨_, 0, rfl, ?_, h⟩
  unfold f_X8_carried
  rw [rd_4, tn_4, hs.2.2.2.2.1]
theorem pb_copied {Z : Nat} : PB_copied Z Rel := by
  intro vCar vGoa vEag tN tF cN cF mP mS kCap kGap kCar kCop kGro kShr bN bF rCmd rLet rNum fCap fGap fCar fCop fGro fShr hX hC hR aTh aSm aLn aAt aWe aRm aBm aHa aS aSv aCm aRd aBy h
  have h1 := h.1
  obtain ⟨n, c, g, q, cp, l, hb, hv, he, hs, -⟩ := h1
  refine ⟨_, 0, rfl, ?_, h⟩
  unfold f_X8_copied
  rw [rd_5, tn_5, hs.2.2.2.2.2.1]
theorem pb_growths {Z : Nat} : PB_growths Z Rel := by
  intro vCar vGoa vEag tN tF cN cF mP mS kCap kGap kCar kCop kGro kShr bN bF rCmd rLet rNum fCap fGap fCar fCop fGro fShr hX hC hR aTh aSm aLn aAt aWe aRm aBm aHa aS aSv aCm aRd aBy h
  have h1 := h.1
  obtain ⟨n, c, g, q, cp, l, hb, hv, he, hs, -⟩ := h1
  refine ⟨_, 0, rfl, ?_, h⟩
  unfold f_X8_growths
  rw [rd_6, tn_6, hs.2.2.2.2.2.2.1]
theorem pb_shrinks {Z : Nat} : PB_shrinks Z Rel := by
  intro vCar vGoa vEag tN tF cN cF mP mS kCap kGap kCar kCop kGro kShr bN bF rCmd rLet rNum fCap fGap fCar fCop fGro fShr hX hC hR aTh aSm aLn aAt aWe aRm aBm aHa aS aSv aCm aRd aBy h
  have h1 := h.1
  obtain ⟨n, c, g, q, cp, l, hb, hv, he, hs, -⟩ := h1
  refine ⟨_, 0, rfl, ?_, h⟩
  unfold f_X8_shrinks
  rw [rd_7, tn_7, hs.2.2.2.2.2.2.2.1]
theorem pb_savedStates {Z : Nat} : PB_savedStates Z Rel := by
  intro vCar vGoa vEag tN tF cN cF mP mS kCap kGap kCar kCop kGro kShr bN bF rCmd rLet rNum fCap fGap fCar fCop fGro fShr hX hC hR aTh aSm aLn aAt aWe aRm aBm aHa aS aSv aCm aRd aBy h
  obtain ⟨cnt, x, h1, h2, h3, h4, -⟩ := h.2.1
  refine ⟨_, 0, rfl, ?_, h⟩
  unfold f_X8_savedStates
  rw [h3, h4]
theorem pb_room {Z : Nat} : PB_room Z Rel := by
  intro vCar vGoa vEag tN tF cN cF mP mS kCap kGap kCar kCop kGro kShr bN bF rCmd rLet rNum fCap fGap fCar fCop fGro fShr hX hC hR aTh aSm aLn aAt aWe aRm aBm aHa aS aSv aCm aRd aBy h
  have h1 := h.1
  obtain ⟨n, c, g, q, cp, l, hb, hv, he, hs, -⟩ := h1
  refine ⟨_, 0, rfl, ?_, h⟩
  unfold f_X8_room
  rw [rd_3, rd_0, tn_3, tn_0, hs.2.2.2.1, hs.1, show kCap = nI cp from hv.2.2.2.2.1, show tN = nI n from hv.1]
theorem pb_clearCommands {Z : Nat} : PB_clearCommands Z Rel := by
  intro vCar vGoa vEag tN tF cN cF mP mS kCap kGap kCar kCop kGro kShr bN bF rCmd rLet rNum fCap fGap fCar fCop fGro fShr hX hC hR aTh aSm aLn aAt aWe aRm aBm aHa aS aSv aCm aRd aBy h
  obtain ⟨L, h1, h2, h3, h4⟩ := h.2.2
  refine ⟨_, _, 0, _, rfl, ?_, h.1, h.2.1, ⟨0, by omega, rfl, rfl, fun i hi => absurd hi (by omega)⟩⟩
  unfold f_X8_clearCommands
  rw [h2, h3]
  rfl
