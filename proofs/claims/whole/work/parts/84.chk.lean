-- ===== the checks of arguments =====
theorem pos_cases (x : Int32) {n : Nat} (hn : n < 2 ^ 30) : (x < 0 ∨ nI n < x) ∨ ∃ j, j ≤ n ∧ x = nI j := by
  rcases pk_ix x (n := n + 1) (by omega) with h | h | ⟨j, h1, h2⟩
  · exact Or.inl (Or.inl h)
  · refine Or.inl (Or.inr ?_)
    rw [Int32.le_iff_toInt_le, nI_toInt (by omega)] at h
    rw [Int32.lt_iff_toInt_lt, nI_toInt (by omega)]
    omega
  · exact Or.inr ⟨j, by omega, h2⟩
theorem q_in_no {Z : Nat} {p a b : Int32} (h : p < a ∨ b < p) : f_X8_in Z p a b = some 0 := by
  unfold f_X8_in
  rcases h with h | h
  · rw [if_pos h]
  · by_cases h2 : p < a
    · rw [if_pos h2]
    · rw [if_neg h2, if_pos h]
theorem q_in_yes {Z : Nat} {p a b : Int32} (h1 : ¬ p < a) (h2 : ¬ b < p) : f_X8_in Z p a b = some 1 := by
  unfold f_X8_in
  rw [if_neg h1, if_neg h2]
theorem q_kb0 {α : Type} {k : Option α} : kb 0 k = k := if_pos (Or.inl rfl)
theorem q_kb1 {α : Type} {k : Option α} : kb 1 k = k := if_pos (Or.inr rfl)
theorem q_pos_no {Z : Nat} {p a : Int32} (h : p < 0 ∨ a < p) : f_X7_isPosition Z p a = some 0 := by
  unfold f_X7_isPosition
  rcases h with h | h
  · rw [if_pos h]
  · by_cases h2 : p < 0
    · rw [if_pos h2]
    · rw [if_neg h2]
      show (if a < p then some 0 else some 1) = _
      rw [if_pos h]
theorem q_pos_yes {Z j n : Nat} (h : j ≤ n) (hn : n < 2 ^ 30) : f_X7_isPosition Z (nI j) (nI n) = some 1 := by
  unfold f_X7_isPosition
  rw [if_neg (nI_pos (by omega))]
  show (if nI n < nI j then some 0 else some 1) = _
  rw [if_neg (nI_nlt h (by omega))]
theorem r_pos_no {Z : Nat} {p a : Int32} {s : Nat → Int32} (h0 : s 0 = a) (h : p < 0 ∨ a < p) : f_X8_isPosition Z p s = some 0 := by
  unfold f_X8_isPosition
  rw [rd_0, tn_0, h0, q_in_no h, Option.bind_some, q_kb0]
theorem r_pos_yes {Z j n : Nat} {s : Nat → Int32} (h0 : s 0 = nI n) (h : j ≤ n) (hn : n < 2 ^ 30) : f_X8_isPosition Z (nI j) s = some 1 := by
  unfold f_X8_isPosition
  rw [rd_0, tn_0, h0, q_in_yes (nI_pos (by omega)) (nI_nlt h (by omega)), Option.bind_some, q_kb1]
theorem c_01 : ¬ (1 : Int32) = 0 := by decide
theorem pb_lineOf {Z : Nat} (hZ : 300 ≤ Z) : PB_lineOf Z Rel := by
  intro p1 vCar vGoa vEag tN tF cN cF mP mS kCap kGap kCar kCop kGro kShr bN bF rCmd rLet rNum fCap fGap fCar fCop fGro fShr hX hC hR aTh aSm aLn aAt aWe aRm aBm aHa aS aSv aCm aRd aBy h
  have h1 := h.1
  obtain ⟨n, c, g, q, cp, l, hb, hv, he, hs, hm, ht, -⟩ := h1
  obtain rfl : tN = nI n := hv.1
  rcases pos_cases p1 (n := n) (by omega) with hp | ⟨j, hj, rfl⟩
  · refine Or.inr ⟨0, ?_, ?_, h⟩
    · unfold f_X7_lineOf
      rw [q_pos_no hp, Option.bind_some, if_pos rfl]
    · unfold f_X8_lineOf
      rw [r_pos_no hs.1 hp, Option.bind_some, if_pos rfl]
      rfl
  · refine Or.inl ⟨nI (brk (tx aS) j), ?_, ?_, h⟩
    · unfold f_X7_lineOf
      rw [q_pos_yes hj (by omega), Option.bind_some, if_neg c_01]
      unfold f_X7_lineOf_c8
      rw [q_breaksBefore (by omega) (by omega) (by omega) hj, Option.bind_some, brk_congr j (fun i hi => (ht i (by omega)).symm)]
      rfl
    · unfold f_X8_lineOf
      rw [r_pos_yes hs.1 hj (by omega), Option.bind_some, if_neg c_01, r_lineAt (by omega) (by omega), Option.bind_some]
theorem pb_lines {Z : Nat} (hZ : 300 ≤ Z) : PB_lines Z Rel := by
  intro vCar vGoa vEag tN tF cN cF mP mS kCap kGap kCar kCop kGro kShr bN bF rCmd rLet rNum fCap fGap fCar fCop fGro fShr hX hC hR aTh aSm aLn aAt aWe aRm aBm aHa aS aSv aCm aRd aBy h
  have h1 := h.1
  obtain ⟨n, c, g, q, cp, l, hb, hv, he, hs, hm, ht, -⟩ := h1
  obtain rfl : tN = nI n := hv.1
  refine ⟨nI (brk (tx aS) n + 1), 0, ?_, ?_, h⟩
  · unfold f_X7_lines
    rw [q_lineCount (by omega) (by omega) (by omega), Option.bind_some, brk_congr n (fun i hi => (ht i hi).symm)]
  · unfold f_X8_lines
    rw [rd_0, tn_0, hs.1, r_lineAt (by omega) (by omega), Option.bind_some, nI_1]
