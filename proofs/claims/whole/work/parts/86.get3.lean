theorem pb_byteAt {Z : Nat} : PB_byteAt Z Rel := by
  intro p1 vCar vGoa vEag tN tF cN cF mP mS kCap kGap kCar kCop kGro kShr bN bF rCmd rLet rNum fCap fGap fCar fCop fGro fShr hX hC hR aTh aSm aLn aAt aWe aRm aBm aHa aS aSv aCm aRd aBy h
  have h1 := h.1
  obtain ⟨n, c, g, q, cp, l, hb, hv, he, hs, hm, ht, hc⟩ := h1
  obtain rfl : tN = nI n := hv.1
  have hin : p1 < 0 ∨ nI n ≤ p1 → f_X8_byteAt Z p1 aTh aS = some (0, 1) := fun hp => by
    unfold f_X8_byteAt
    rw [rd_0, tn_0, hs.1]
    have h2 : p1 < 0 ∨ nI n - 1 < p1 := by
      rcases hp with hp | hp
      · exact Or.inl hp
      · refine Or.inr ?_
        have e : (nI n - nI 1).toInt = (n : Int) - 1 := pk_sub_toInt (by omega) (by omega)
        rw [Int32.le_iff_toInt_le, nI_toInt (by omega)] at hp
        rw [show nI n - 1 = nI n - nI 1 from rfl, Int32.lt_iff_toInt_lt, e]
        omega
    rw [q_in_no h2, Option.bind_some, if_pos rfl]
    rfl
  rcases ix_cases p1 (n := n) (by omega) with hp | ⟨hp, hp2⟩ | ⟨j, hj, rfl⟩
  · refine Or.inr ⟨0, ?_, hin (Or.inl hp), h⟩
    unfold f_X7_byteAt
    rw [if_pos hp, if_pos rfl]
  · refine Or.inr ⟨0, ?_, hin (Or.inr hp2), h⟩
    unfold f_X7_byteAt
    rw [if_neg hp]
    show (if nI n ≤ p1 then _ else _) = _
    rw [if_pos hp2, if_pos rfl]
  · refine Or.inl ⟨aS (80 + j), ?_, ?_, h⟩
    · unfold f_X7_byteAt
      rw [if_neg (nI_pos (by omega))]
      show (if nI n ≤ nI j then _ else _) = _
      rw [if_neg (nI_ge hj (by omega)), if_neg c_01]
      unfold f_X7_byteAt_c26
      rw [q_at (by omega) (by omega) hj, Option.bind_some, ht j hj]
      rfl
    · unfold f_X8_byteAt
      rw [rd_0, tn_0, hs.1, show nI n - 1 = nI (n - 1) from z_sub (b := 1) (by omega), q_in_yes (nI_pos (by omega)) (nI_nlt (by omega) (by omega)), Option.bind_some, if_neg c_01, z_80, z_rd (by omega) (by omega), nI_clamp (by omega)]
theorem q_mark_no {Z : Nat} {p : Int32} (h : p < 0 ∨ 4 ≤ p) : f_X7_isMark Z p = some 0 := by
  unfold f_X7_isMark
  by_cases h1 : p < 0
  · rw [if_pos h1]
  · rw [if_neg h1, if_pos (h.resolve_left h1)]
theorem q_mark_yes {Z j : Nat} (h : j < 4) : f_X7_isMark Z (nI j) = some 1 := by
  unfold f_X7_isMark
  rw [if_neg (nI_pos (by omega)), if_neg (show ¬ (4 : Int32) ≤ nI j from nI_ge (b := 4) h (by omega))]
theorem r_mark_no {Z : Nat} {p : Int32} (h : p < 0 ∨ 4 ≤ p) : f_X8_isMark Z p = some 0 := by
  unfold f_X8_isMark
  have h2 : p < 0 ∨ 3 < p := h.imp id fun h => by
    rw [Int32.le_iff_toInt_le] at h
    rw [Int32.lt_iff_toInt_lt]
    have h3 : (4 : Int32).toInt = 4 := by decide
    have h4 : (3 : Int32).toInt = 3 := by decide
    omega
  rw [q_in_no h2, Option.bind_some, q_kb0]
theorem r_mark_yes {Z j : Nat} (h : j < 4) : f_X8_isMark Z (nI j) = some 1 := by
  unfold f_X8_isMark
  rw [q_in_yes (nI_pos (by omega)) (show ¬ (3 : Int32) < nI j from nI_nlt (a := 3) (by omega) (by omega)), Option.bind_some, q_kb1]
theorem q_posOf {Z j : Nat} {F : Nat → Int32} (h : j < 4) : f_X4_positionOf Z (nI j) F = some (F j) := by
  unfold f_X4_positionOf
  rw [q_mark_yes h, Option.bind_some, if_neg c_01, z_rd h (by omega), nI_clamp (by omega)]
theorem mk_cases (x : Int32) : (x < 0 ∨ 4 ≤ x) ∨ ∃ j, j < 4 ∧ x = nI j := by
  rcases ix_cases x (n := 4) (by omega) with h | ⟨-, h⟩ | h
  · exact Or.inl (Or.inl h)
  · exact Or.inl (Or.inr h)
  · exact Or.inr h
theorem pb_mark {Z : Nat} : PB_mark Z Rel := by
  intro p1 vCar vGoa vEag tN tF cN cF mP mS kCap kGap kCar kCop kGro kShr bN bF rCmd rLet rNum fCap fGap fCar fCop fGro fShr hX hC hR aTh aSm aLn aAt aWe aRm aBm aHa aS aSv aCm aRd aBy h
  have h1 := h.1
  obtain ⟨n, c, g, q, cp, l, hb, hv, he, hs, hm, ht, hc⟩ := h1
  rcases mk_cases p1 with hp | ⟨j, hj, rfl⟩
  · refine Or.inr ⟨0, ?_, ?_, h⟩
    · unfold f_X7_mark
      rw [q_mark_no hp, Option.bind_some, if_pos rfl]
    · unfold f_X8_mark
      rw [r_mark_no hp, Option.bind_some, if_pos rfl]
      rfl
  · refine Or.inl ⟨mP j, ?_, ?_, h⟩
    · unfold f_X7_mark
      rw [q_mark_yes hj, Option.bind_some, if_neg c_01]
      unfold f_X7_mark_c7
      rw [q_posOf hj]
      rfl
    · unfold f_X8_mark
      rw [r_mark_yes hj, Option.bind_some, if_neg c_01, z_12, z_rd (by omega) (by omega), nI_clamp (by omega), (hm j hj).1]
