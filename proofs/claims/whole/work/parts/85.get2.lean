theorem pb_columnOf {Z : Nat} (hZ : 300 ≤ Z) : PB_columnOf Z Rel := by
  intro p1 vCar vGoa vEag tN tF cN cF mP mS kCap kGap kCar kCop kGro kShr bN bF rCmd rLet rNum fCap fGap fCar fCop fGro fShr hX hC hR aTh aSm aLn aAt aWe aRm aBm aHa aS aSv aCm aRd aBy h
  have h1 := h.1
  obtain ⟨n, c, g, q, cp, l, hb, hv, he, hs, hm, ht, -⟩ := h1
  obtain rfl : tN = nI n := hv.1
  rcases pos_cases p1 (n := n) (by omega) with hp | ⟨j, hj, rfl⟩
  · refine Or.inr ⟨0, ?_, ?_, h⟩
    · unfold f_X7_columnOf
      rw [q_pos_no hp, Option.bind_some, if_pos rfl]
    · unfold f_X8_columnOf
      rw [r_pos_no hs.1 hp, Option.bind_some, if_pos rfl]
      rfl
  · refine Or.inl ⟨nI (j - lb (tx aS) j), ?_, ?_, h⟩
    · unfold f_X7_columnOf
      rw [q_pos_yes hj (by omega), Option.bind_some, if_neg c_01]
      unfold f_X7_columnOf_c8
      rw [q_lineBegin (by omega) (by omega) (by omega) hj, Option.bind_some, lb_congr j (fun i hi => (ht i (by omega)).symm), z_sub (lb_le _ _)]
      rfl
    · unfold f_X8_columnOf
      rw [r_pos_yes hs.1 hj (by omega), Option.bind_some, if_neg c_01, r_column (by omega) (by omega), Option.bind_some]
theorem ix_cases (x : Int32) {n : Nat} (hn : n < 2 ^ 30) : x < 0 ∨ (¬ x < 0 ∧ nI n ≤ x) ∨ ∃ j, j < n ∧ x = nI j := by
  rcases pk_ix x (n := n) (by omega) with h | h | h
  · exact Or.inl h
  · refine Or.inr (Or.inl ⟨fun h2 => ?_, h⟩)
    rw [Int32.le_iff_toInt_le, nI_toInt (by omega)] at h
    rw [Int32.lt_iff_toInt_lt] at h2
    have h3 : (0 : Int32).toInt = 0 := by decide
    omega
  · exact Or.inr (Or.inr h)
theorem q_at_no {Z : Nat} {x a : Int32} {L : Nat} {F : Nat → Int32} (h : x < 0 ∨ a ≤ x) : f_X0_at Z x L a F = some (-1) := by
  unfold f_X0_at
  by_cases h1 : x < 0
  · rw [if_pos h1]
  · rw [if_neg h1, if_pos (h.resolve_left h1)]
theorem ge_0 {x : Int32} (h : ¬ x < 0) : 0 ≤ x := by
  rw [Int32.lt_iff_toInt_lt] at h
  rw [Int32.le_iff_toInt_le]
  omega
theorem pb_clip {Z : Nat} : PB_clip Z Rel := by
  intro p1 vCar vGoa vEag tN tF cN cF mP mS kCap kGap kCar kCop kGro kShr bN bF rCmd rLet rNum fCap fGap fCar fCop fGro fShr hX hC hR aTh aSm aLn aAt aWe aRm aBm aHa aS aSv aCm aRd aBy h
  have h1 := h.1
  obtain ⟨n, c, g, q, cp, l, hb, hv, he, hs, hm, ht, hc⟩ := h1
  obtain rfl : cN = nI l := hv.2.2.2.2.2
  have h10 : aS 10 = nI l := hs.2.2.2.2.2.2.2.2.2.2
  rcases ix_cases p1 (n := l) (by omega) with hp | ⟨hp, hp2⟩ | ⟨j, hj, rfl⟩
  · refine Or.inr ⟨0, ?_, ?_, h⟩
    · unfold f_X7_clip
      rw [if_pos hp, if_pos rfl]
    · unfold f_X8_clip
      rw [if_neg (fun h => by rw [Int32.le_iff_toInt_le] at h; rw [Int32.lt_iff_toInt_lt] at hp; omega)]
      rfl
  · refine Or.inl ⟨-1, ?_, ?_, h⟩
    · unfold f_X7_clip
      rw [if_neg hp, if_neg c_01]
      unfold f_X7_clip_c12
      rw [q_at_no (Or.inr hp2), Option.bind_some]
      rfl
    · unfold f_X8_clip
      rw [if_pos (ge_0 hp), rd_10, tn_10, h10, if_pos hp2]
  · refine Or.inl ⟨aS (20 + j), ?_, ?_, h⟩
    · unfold f_X7_clip
      rw [if_neg (nI_pos (by omega)), if_neg c_01]
      unfold f_X7_clip_c12
      rw [q_at (by omega) (by omega) hj, Option.bind_some, hc j hj]
      rfl
    · unfold f_X8_clip
      rw [if_pos (nI_pos' (by omega)), rd_10, tn_10, h10, if_neg (nI_ge hj (by omega)), z_20, z_rd (by omega) (by omega), nI_clamp (by omega)]
