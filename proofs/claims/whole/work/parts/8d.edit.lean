-- ===== checks =====
theorem bt_cases (Z : Nat) (p : Int32) : (f_X7_isByte Z p = some 0 ∧ f_X8_isByte Z p = some 0) ∨ (f_X7_isByte Z p = some 1 ∧ f_X8_isByte Z p = some 1) := by
  unfold f_X7_isByte f_X8_isByte f_X8_in
  by_cases h1 : p = 10
  · rw [if_pos h1, if_pos h1]
    exact Or.inr ⟨rfl, rfl⟩
  · rw [if_neg h1, if_neg h1]
    by_cases h2 : p < 32
    · rw [if_pos h2, Option.bind_some, if_pos rfl]
      exact Or.inl ⟨rfl, rfl⟩
    · rw [if_neg h2]
      by_cases h3 : 126 < p
      · rw [if_pos h3, Option.bind_some, if_pos rfl]
        exact Or.inl ⟨rfl, rfl⟩
      · rw [if_neg h3, Option.bind_some, if_neg c_01]
        exact Or.inr ⟨rfl, rfl⟩
theorem ct_cases (Z : Nat) (p : Int32) : (f_X7_isCount Z p = some 0 ∧ f_X8_in Z p 1 100 = some 0) ∨ (∃ k, 1 ≤ k ∧ k ≤ 100 ∧ p = nI k ∧ f_X7_isCount Z p = some 1 ∧ f_X8_in Z p 1 100 = some 1) := by
  unfold f_X7_isCount f_X8_in
  by_cases h2 : p < 1
  · rw [if_pos h2]
    exact Or.inl ⟨rfl, rfl⟩
  · rw [if_neg h2]
    by_cases h3 : 100 < p
    · rw [if_pos h3]
      exact Or.inl ⟨rfl, rfl⟩
    · rw [if_neg h3]
      rcases pos_cases p (n := 100) (by omega) with h | ⟨k, hk, rfl⟩
      · rcases h with h | h
        · exact absurd (show p < 1 from by rw [Int32.lt_iff_toInt_lt] at *; rw [show (0 : Int32).toInt = 0 from by decide] at h; rw [show (1 : Int32).toInt = 1 from by decide]; omega) h2
        · exact absurd h h3
      · refine Or.inr ⟨k, ?_, hk, rfl, rfl, rfl⟩
        rcases Nat.eq_zero_or_pos k with h | h
        · subst h
          exact absurd (by decide) h2
        · exact h
theorem q_fault {Z n k : Nat} (hn : n ≤ 256) (hk : k ≤ 256) : f_X6_insertFault Z (nI k) (nI n) = some (if n + k ≤ 256 then 0 else 1) := by
  unfold f_X6_insertFault f_X0_size
  rw [Option.bind_some, nI_add, l_256]
  by_cases h : n + k ≤ 256
  · rw [if_pos (nI_le h (by omega)), if_pos h]
  · rw [if_neg (nI_ge (by omega) (by omega)), if_neg h]
theorem r_room {Z n k : Nat} {s : Nat → Int32} (e0 : s 0 = nI n) (hn : n ≤ 256) (hk : k ≤ 256) : f_X8_hasRoom Z (nI k) s = some (if n + k ≤ 256 then 1 else 0) := by
  unfold f_X8_hasRoom
  rw [rd_0, tn_0, e0, nI_add, l_256]
  by_cases h : n + k ≤ 256
  · rw [if_neg (nI_nlt h (by omega)), if_pos h]
  · rw [if_pos (nI_lt (by omega) (by omega)), if_neg h]
theorem r_fails {Z : Nat} {a b : Int32} : f_X8_fails Z a b = some (0, a) := rfl
-- ===== type, fill =====
theorem pb_type {Z : Nat} (hZ : 2100 ≤ Z) : PB_type Z Rel := by
  intro p1 vCar vGoa vEag tN tF cN cF mP mS kCap kGap kCar kCop kGro kShr bN bF rCmd rLet rNum fCap fGap fCar fCop fGro fShr hX hC hR aTh aSm aLn aAt aWe aRm aBm aHa aS aSv aCm aRd aBy h
  obtain ⟨n, c, g, q, cp, l, ⟨rfl, rfl, rfl, rfl, rfl, rfl⟩, hN⟩ := rs_out h.1
  have hb1 : n ≤ 256 := hN.1.1
  have e0 : aS 0 = nI n := hN.2.2.1.1
  rcases bt_cases Z p1 with ⟨b1, b2⟩ | ⟨b1, b2⟩
  · refine Or.inr (Or.inl ⟨0, aSm, aBm, aS, aSv, aBy, ?_, ?_, h⟩)
    · unfold f_X7_type
      rw [b1, Option.bind_some, if_pos rfl]
    · unfold f_X8_type
      rw [b2, Option.bind_some, if_pos rfl]
      rfl
  · have f1 := q_fault (Z := Z) (k := 1) hb1 (by omega)
    have f2 := r_room (Z := Z) (k := 1) e0 hb1 (by omega)
    by_cases hr : n + 1 ≤ 256
    · rw [if_pos hr] at f1 f2
      obtain ⟨hX', hC', hR', aSm', aSv', i1, i2, i3⟩ := o_save hZ hN h.2.1
      obtain ⟨n', c', g', q', cp', tF', mP', kCar', kCop', kGro', s', aBy', j1, j2, j3, j4⟩ := o_insR (Z := Z) (vG := nI q) (p1 := p1) (aBm := aBm) (aBy := aBy) (k := 1) (by omega) hN (by omega) hr
      have e0' : s' 0 = nI n' := j4.2.2.1.1
      refine Or.inl ⟨nI n', nI c', nI q', nI n', tF', mP', nI cp', nI g', kCar', kCop', kGro', hX', hC', hR', aSm', nI 1, s', aSv', aBy', ?_, ?_, rs_in j4, i3, h.2.2⟩
      · unfold f_X7_type f_X7_type_c26
        rw [b1, Option.bind_some, if_neg c_01, l_1, f1, Option.bind_some, if_pos rfl, if_neg (show ¬ nI 1 = 0 from c_01), i1, Option.bind_some]
        dsimp only
        rw [j1, Option.bind_some]
        rfl
      · unfold f_X8_type
        rw [b2, Option.bind_some, if_neg c_01, l_1, f2, Option.bind_some, if_neg c_01, i2, Option.bind_some]
        dsimp only
        rw [j2, Option.bind_some]
        dsimp only
        rw [j3, Option.bind_some, rd_0, tn_0, e0']
    · rw [if_neg hr] at f1 f2
      refine Or.inr (Or.inr ⟨0, aSm, aBm, aS, aSv, aBy, ?_, ?_, h⟩)
      · unfold f_X7_type
        rw [b1, Option.bind_some, if_neg c_01, l_1, f1, Option.bind_some, if_neg c_01, if_pos rfl]
      · unfold f_X8_type
        rw [b2, Option.bind_some, if_neg c_01, l_1, f2, Option.bind_some, if_pos rfl]
        rfl
theorem pb_fill {Z : Nat} (hZ : 2100 ≤ Z) : PB_fill Z Rel := by
  intro p1 p2 vCar vGoa vEag tN tF cN cF mP mS kCap kGap kCar kCop kGro kShr bN bF rCmd rLet rNum fCap fGap fCar fCop fGro fShr hX hC hR aTh aSm aLn aAt aWe aRm aBm aHa aS aSv aCm aRd aBy h
  obtain ⟨n, c, g, q, cp, l, ⟨rfl, rfl, rfl, rfl, rfl, rfl⟩, hN⟩ := rs_out h.1
  have hb1 : n ≤ 256 := hN.1.1
  have e0 : aS 0 = nI n := hN.2.2.1.1
  rcases bt_cases Z p1 with ⟨b1, b2⟩ | ⟨b1, b2⟩
  · refine Or.inr (Or.inl ⟨0, aSm, aBm, aS, aSv, aBy, ?_, ?_, h⟩)
    · unfold f_X7_fill
      rw [b1, Option.bind_some, if_pos rfl, if_pos rfl]
    · unfold f_X8_fill
      rw [b2, Option.bind_some, if_pos rfl]
      rfl
  · rcases ct_cases Z p2 with ⟨d1, d2⟩ | ⟨k, hk1, hk2, rfl, d1, d2⟩
    · refine Or.inr (Or.inl ⟨0, aSm, aBm, aS, aSv, aBy, ?_, ?_, h⟩)
      · unfold f_X7_fill
        rw [b1, Option.bind_some, if_neg c_01, d1, Option.bind_some, if_pos rfl, if_pos rfl]
      · unfold f_X8_fill
        rw [b2, Option.bind_some, if_neg c_01, d2, Option.bind_some, if_pos rfl]
        rfl
    · have f1 := q_fault (Z := Z) (k := k) hb1 (by omega)
      have f2 := r_room (Z := Z) (k := k) e0 hb1 (by omega)
      by_cases hr : n + k ≤ 256
      · rw [if_pos hr] at f1 f2
        obtain ⟨hX', hC', hR', aSm', aSv', i1, i2, i3⟩ := o_save hZ hN h.2.1
        obtain ⟨n', c', g', q', cp', tF', mP', kCar', kCop', kGro', s', aBy', j1, j2, j3, j4⟩ := o_insR (Z := Z) (vG := nI q) (p1 := p1) (aBm := aBm) (aBy := aBy) (k := k) (by omega) hN hk2 hr
        have e0' : s' 0 = nI n' := j4.2.2.1.1
        refine Or.inl ⟨nI n', nI c', nI q', nI n', tF', mP', nI cp', nI g', kCar', kCop', kGro', hX', hC', hR', aSm', nI k, s', aSv', aBy', ?_, ?_, rs_in j4, i3, h.2.2⟩
        · unfold f_X7_fill f_X7_fill_c41
          rw [b1, Option.bind_some, if_neg c_01, d1, Option.bind_some, if_neg c_01, if_neg c_01, f1, Option.bind_some, if_pos rfl, if_neg c_01, i1, Option.bind_some]
          dsimp only
          rw [j1, Option.bind_some]
          rfl
        · unfold f_X8_fill
          rw [b2, Option.bind_some, if_neg c_01, d2, Option.bind_some, if_neg c_01, f2, Option.bind_some, if_neg c_01, i2, Option.bind_some]
          dsimp only
          rw [j2, Option.bind_some]
          dsimp only
          rw [j3, Option.bind_some, rd_0, tn_0, e0']
      · rw [if_neg hr] at f1 f2
        refine Or.inr (Or.inr ⟨0, aSm, aBm, aS, aSv, aBy, ?_, ?_, h⟩)
        · unfold f_X7_fill
          rw [b1, Option.bind_some, if_neg c_01, d1, Option.bind_some, if_neg c_01, if_neg c_01, f1, Option.bind_some, if_neg c_01, if_pos rfl]
        · unfold f_X8_fill
          rw [b2, Option.bind_some, if_neg c_01, d2, Option.bind_some, if_neg c_01, f2, Option.bind_some, if_pos rfl]
          rfl
-- ===== erase, backspace =====
theorem o_behind {Z n c g q cp l k : Nat} {e vG : Int32} {tF cF mP mS : Nat → Int32} {kCar kCop kGro kShr : Int32} {s : Nat → Int32} (hZ : 300 ≤ Z) (h : RN n c g q cp l e tF cF mP mS kCar kCop kGro kShr s) (hk : k ≤ 256) : ∃ r n' c' g' q' cp' tF' mP' kCar' kCop' kShr' s', f_X6_deleteBehind Z (nI k) (nI c) vG (nI n) tF mP (nI cp) (nI g) kCar kCop kShr = some (r, nI c', nI q', nI n', tF', mP', nI cp', nI g', kCar', kCop', kShr') ∧ f_X8_erases Z (nI k) s = some (r, s') ∧ RN n' c' g' q' cp' l e tF' cF mP' mS kCar' kCop' kGro kShr' s' := by
  have hb1 : n ≤ 256 := h.1.1
  have hb2 : c ≤ n := h.1.2.1
  have e0 : s 0 = nI n := h.2.2.1.1
  have e1 : s 1 = nI c := h.2.2.1.2.1
  have hm : c + mn (n - c) k ≤ n := by
    unfold mn
    split <;> omega
  obtain ⟨g', q', cp', tF', mP', kCar', kCop', kShr', s', i1, i2, i3⟩ := o_del (Z := Z) (vG := vG) (p := c) (k := mn (n - c) k) hZ h hm (Or.inl rfl)
  refine ⟨nI (mn (n - c) k), n - mn (n - c) k, c, g', q', cp', tF', mP', kCar', kCop', kShr', s', ?_, ?_, i3⟩
  · unfold f_X6_deleteBehind f_X0_size
    have e : (if nI (n - c) < nI k then nI (n - c) else nI k) = nI (mn (n - c) k) := by
      unfold mn
      by_cases x : n - c < k
      · rw [if_pos (nI_lt x (by omega)), if_pos (by omega)]
      · rw [if_neg (nI_nlt (by omega) (by omega))]
        by_cases y : n - c ≤ k
        · rw [if_pos y, show k = n - c by omega]
        · rw [if_neg y]
    rw [Option.bind_some, pk_sub hb2, e, kl, i1, Option.bind_some]
  · unfold f_X8_erases
    rw [rd_0, rd_1, tn_0, tn_1, e0, e1, kl, pk_sub hb2, rd_1]
    unfold mn at i2 ⊢
    by_cases y : n - c ≤ k
    · rw [if_pos y] at i2 ⊢
      rw [if_pos (nI_le y (by omega)), i2, Option.bind_some]
    · rw [if_neg y] at i2 ⊢
      rw [if_neg (nI_ge (by omega) (by omega)), rd_1, i2, Option.bind_some]
theorem o_before {Z n c g q cp l k : Nat} {e vG : Int32} {tF cF mP mS : Nat → Int32} {kCar kCop kGro kShr : Int32} {s : Nat → Int32} (hZ : 300 ≤ Z) (h : RN n c g q cp l e tF cF mP mS kCar kCop kGro kShr s) (hk : k ≤ 256) : ∃ r n' c' g' q' cp' tF' mP' kCar' kCop' kShr' s', f_X6_deleteBefore Z (nI k) (nI c) vG (nI n) tF mP (nI cp) (nI g) kCar kCop kShr = some (r, nI c', nI q', nI n', tF', mP', nI cp', nI g', kCar', kCop', kShr') ∧ f_X8_backs Z (nI k) s = some (r, s') ∧ RN n' c' g' q' cp' l e tF' cF mP' mS kCar' kCop' kGro kShr' s' := by
  have hb1 : n ≤ 256 := h.1.1
  have hb2 : c ≤ n := h.1.2.1
  have e1 : s 1 = nI c := h.2.2.1.2.1
  have hm : mn c k ≤ c := by
    unfold mn
    split <;> omega
  obtain ⟨g', q', cp', tF', mP', kCar', kCop', kShr', s', i1, i2, i3⟩ := o_del (Z := Z) (vG := vG) (p := c - mn c k) (k := mn c k) hZ h (by omega) (Or.inr (by omega))
  refine ⟨nI (mn c k), n - mn c k, c - mn c k, g', q', cp', tF', mP', kCar', kCop', kShr', s', ?_, ?_, i3⟩
  · unfold f_X6_deleteBefore
    have e : (if nI c < nI k then nI c else nI k) = nI (mn c k) := by
      unfold mn
      by_cases x : c < k
      · rw [if_pos (nI_lt x (by omega)), if_pos (by omega)]
      · rw [if_neg (nI_nlt (by omega) (by omega))]
        by_cases y : c ≤ k
        · rw [if_pos y, show k = c by omega]
        · rw [if_neg y]
    rw [e, kl, pk_sub hm, i1, Option.bind_some]
  · unfold f_X8_backs
    rw [rd_1, rd_1, tn_1, e1, kl, rd_1, rd_1]
    rw [← pk_sub hm] at i2
    unfold mn at i2 ⊢
    by_cases y : c ≤ k
    · rw [if_pos y] at i2 ⊢
      rw [if_pos (nI_le y (by omega)), i2, Option.bind_some]
    · rw [if_neg y] at i2 ⊢
      rw [if_neg (nI_ge (by omega) (by omega)), i2, Option.bind_some]
theorem pb_erase {Z : Nat} (hZ : 2100 ≤ Z) : PB_erase Z Rel := by
  intro p1 vCar vGoa vEag tN tF cN cF mP mS kCap kGap kCar kCop kGro kShr bN bF rCmd rLet rNum fCap fGap fCar fCop fGro fShr hX hC hR aTh aSm aLn aAt aWe aRm aBm aHa aS aSv aCm aRd aBy h
  obtain ⟨n, c, g, q, cp, l, ⟨rfl, rfl, rfl, rfl, rfl, rfl⟩, hN⟩ := rs_out h.1
  rcases ct_cases Z p1 with ⟨d1, d2⟩ | ⟨k, hk1, hk2, rfl, d1, d2⟩
  · refine Or.inr ⟨0, aSm, aS, aSv, ?_, ?_, h⟩
    · unfold f_X7_erase
      rw [d1, Option.bind_some, if_pos rfl]
    · unfold f_X8_erase
      rw [d2, Option.bind_some, if_pos rfl]
      rfl
  · obtain ⟨hX', hC', hR', aSm', aSv', i1, i2, i3⟩ := o_save hZ hN h.2.1
    obtain ⟨r, n', c', g', q', cp', tF', mP', kCar', kCop', kShr', s', j1, j2, j3⟩ := o_behind (Z := Z) (vG := nI q) (k := k) (by omega) hN (by omega)
    refine Or.inl ⟨r, nI c', nI q', nI n', tF', mP', nI cp', nI g', kCar', kCop', kShr', hX', hC', hR', aSm', s', aSv', ?_, ?_, rs_in j3, i3, h.2.2⟩
    · unfold f_X7_erase f_X7_erase_c7
      rw [d1, Option.bind_some, if_neg c_01, i1, Option.bind_some]
      dsimp only
      rw [j1, Option.bind_some]
      rfl
    · unfold f_X8_erase
      rw [d2, Option.bind_some, if_neg c_01, i2, Option.bind_some]
      dsimp only
      rw [j2, Option.bind_some]
theorem pb_backspace {Z : Nat} (hZ : 2100 ≤ Z) : PB_backspace Z Rel := by
  intro p1 vCar vGoa vEag tN tF cN cF mP mS kCap kGap kCar kCop kGro kShr bN bF rCmd rLet rNum fCap fGap fCar fCop fGro fShr hX hC hR aTh aSm aLn aAt aWe aRm aBm aHa aS aSv aCm aRd aBy h
  obtain ⟨n, c, g, q, cp, l, ⟨rfl, rfl, rfl, rfl, rfl, rfl⟩, hN⟩ := rs_out h.1
  rcases ct_cases Z p1 with ⟨d1, d2⟩ | ⟨k, hk1, hk2, rfl, d1, d2⟩
  · refine Or.inr ⟨0, aSm, aS, aSv, ?_, ?_, h⟩
    · unfold f_X7_backspace
      rw [d1, Option.bind_some, if_pos rfl]
    · unfold f_X8_backspace
      rw [d2, Option.bind_some, if_pos rfl]
      rfl
  · obtain ⟨hX', hC', hR', aSm', aSv', i1, i2, i3⟩ := o_save hZ hN h.2.1
    obtain ⟨r, n', c', g', q', cp', tF', mP', kCar', kCop', kShr', s', j1, j2, j3⟩ := o_before (Z := Z) (vG := nI q) (k := k) (by omega) hN (by omega)
    refine Or.inl ⟨r, nI c', nI q', nI n', tF', mP', nI cp', nI g', kCar', kCop', kShr', hX', hC', hR', aSm', s', aSv', ?_, ?_, rs_in j3, i3, h.2.2⟩
    · unfold f_X7_backspace f_X7_backspace_c7
      rw [d1, Option.bind_some, if_neg c_01, i1, Option.bind_some]
      dsimp only
      rw [j1, Option.bind_some]
      rfl
    · unfold f_X8_backspace
      rw [d2, Option.bind_some, if_neg c_01, i2, Option.bind_some]
      dsimp only
      rw [j2, Option.bind_some]
-- ===== moveTo, moveBy, moveInLine, up, down, setEager =====
theorem pb_moveTo {Z : Nat} (hZ : 2100 ≤ Z) : PB_moveTo Z Rel := by
  intro p1 vCar vGoa vEag tN tF cN cF mP mS kCap kGap kCar kCop kGro kShr bN bF rCmd rLet rNum fCap fGap fCar fCop fGro fShr hX hC hR aTh aSm aLn aAt aWe aRm aBm aHa aS aSv aCm aRd aBy h
  obtain ⟨n, c, g, q, cp, l, ⟨rfl, rfl, rfl, rfl, rfl, rfl⟩, hN⟩ := rs_out h.1
  have hb1 : n ≤ 256 := hN.1.1
  have e0 : aS 0 = nI n := hN.2.2.1.1
  rcases pos_cases p1 (n := n) (by omega) with hp | ⟨j, hj, rfl⟩
  · refine Or.inr ⟨0, aSm, aS, aSv, ?_, ?_, h⟩
    · unfold f_X7_moveTo
      rw [q_pos_no hp, Option.bind_some, if_pos rfl]
    · unfold f_X8_moveTo
      rw [r_pos_no e0 hp, Option.bind_some, if_pos rfl]
      rfl
  · obtain ⟨hX', hC', hR', aSm', aSv', i1, i2, i3⟩ := o_save hZ hN h.2.1
    obtain ⟨r, g', q', kCar', s', j1, j2, j3⟩ := o_move (Z := Z) (vC := nI c) (vG := nI q) (by omega) hN hj
    refine Or.inl ⟨r, nI j, nI q', nI g', kCar', hX', hC', hR', aSm', s', aSv', ?_, ?_, rs_in j3, i3, h.2.2⟩
    · unfold f_X7_moveTo f_X7_moveTo_c8
      rw [q_pos_yes hj (by omega), Option.bind_some, if_neg c_01, i1, Option.bind_some]
      dsimp only
      rw [j1, Option.bind_some]
      rfl
    · unfold f_X8_moveTo
      rw [r_pos_yes e0 hj (by omega), Option.bind_some, if_neg c_01, i2, Option.bind_some]
      dsimp only
      rw [j2, Option.bind_some]
theorem pb_moveInLine {Z : Nat} (hZ : 2100 ≤ Z) : PB_moveInLine Z Rel := by
  intro p1 vCar vGoa vEag tN tF cN cF mP mS kCap kGap kCar kCop kGro kShr bN bF rCmd rLet rNum fCap fGap fCar fCop fGro fShr hX hC hR aTh aSm aLn aAt aWe aRm aBm aHa aS aSv aCm aRd aBy h hp1
  obtain ⟨n, c, g, q, cp, l, ⟨rfl, rfl, rfl, rfl, rfl, rfl⟩, hN⟩ := rs_out h.1
  have hb1 : n ≤ 256 := hN.1.1
  have hb2 : c ≤ n := hN.1.2.1
  have e0 : aS 0 = nI n := hN.2.2.1.1
  have e1 : aS 1 = nI c := hN.2.2.1.2.1
  have ht := hN.2.2.2.2.1
  have hle := le'_in tF (n - c) c
  have hlb := lb_le tF c
  have hl1 : lb (tx aS) c = lb tF c := lb_congr _ (fun i hi => ht i (by omega))
  have hl2 : le' (tx aS) (n - c) c = le' tF (n - c) c := le'_congr _ _ (fun i hi => ht i (by omega))
  obtain ⟨hX', hC', hR', aSm', aSv', i1, i2, i3⟩ := o_save hZ hN h.2.1
  by_cases hz : p1 = 0
  · obtain ⟨r, g', q', kCar', s', j1, j2, j3⟩ := o_move (Z := Z) (vC := nI c) (vG := nI q) (p := lb tF c) (by omega) hN (by omega)
    refine ⟨nI (lb tF c), nI (lb tF c), nI q', nI g', kCar', hX', hC', hR', 0, aSm', s', aSv', ?_, ?_, rs_in j3, i3, h.2.2⟩
    · unfold f_X7_moveInLine
      rw [i1, Option.bind_some]
      dsimp only
      rw [q_lineBegin (by omega) (by omega) hb1 hb2, Option.bind_some, q_lineEnd (by omega) (by omega) hb1 hb2, Option.bind_some, if_pos hz, j1, Option.bind_some]
    · unfold f_X8_moveInLine
      rw [i2, Option.bind_some]
      dsimp only
      rw [if_pos hz, rd_1, tn_1, e1, r_startOf (by omega) (by omega), Option.bind_some, hl1, j2, Option.bind_some]
      dsimp only
      rw [rd_1, show s' 1 = nI (lb tF c) from j3.2.2.1.2.1]
  · obtain ⟨r, g', q', kCar', s', j1, j2, j3⟩ := o_move (Z := Z) (vC := nI c) (vG := nI q) (p := le' tF (n - c) c) (by omega) hN (by omega)
    refine ⟨nI (le' tF (n - c) c), nI (le' tF (n - c) c), nI q', nI g', kCar', hX', hC', hR', 0, aSm', s', aSv', ?_, ?_, rs_in j3, i3, h.2.2⟩
    · unfold f_X7_moveInLine
      rw [i1, Option.bind_some]
      dsimp only
      rw [q_lineBegin (by omega) (by omega) hb1 hb2, Option.bind_some, q_lineEnd (by omega) (by omega) hb1 hb2, Option.bind_some, if_neg hz, j1, Option.bind_some]
    · unfold f_X8_moveInLine
      rw [i2, Option.bind_some]
      dsimp only
      rw [if_neg hz, rd_1, tn_1, e1, r_endOf (by omega) e0 hb1 hb2, Option.bind_some, hl2, j2, Option.bind_some]
      dsimp only
      rw [rd_1, show s' 1 = nI (le' tF (n - c) c) from j3.2.2.1.2.1]
theorem pb_up {Z : Nat} (hZ : 2100 ≤ Z) : PB_up Z Rel := by
  intro vCar vGoa vEag tN tF cN cF mP mS kCap kGap kCar kCop kGro kShr bN bF rCmd rLet rNum fCap fGap fCar fCop fGro fShr hX hC hR aTh aSm aLn aAt aWe aRm aBm aHa aS aSv aCm aRd aBy h
  obtain ⟨n, c, g, q, cp, l, ⟨rfl, rfl, rfl, rfl, rfl, rfl⟩, hN⟩ := rs_out h.1
  have hb1 : n ≤ 256 := hN.1.1
  have hb2 : c ≤ n := hN.1.2.1
  have e1 : aS 1 = nI c := hN.2.2.1.2.1
  have ht := hN.2.2.2.2.1
  have hlb := lb_le tF c
  have hl1 : lb (tx aS) c = lb tF c := lb_congr _ (fun i hi => ht i (by omega))
  obtain ⟨hX', hC', hR', aSm', aSv', i1, i2, i3⟩ := o_save hZ hN h.2.1
  by_cases hz : lb tF c = 0
  · refine ⟨nI c, nI c, nI g, kCar, hX', hC', hR', 0, aSm', aS, aSv', ?_, ?_, rs_in hN, i3, h.2.2⟩
    · unfold f_X7_up f_X6_moveUp
      rw [i1, Option.bind_some]
      dsimp only
      rw [q_lineBegin (by omega) (by omega) hb1 hb2, Option.bind_some, hz, if_pos (by decide), Option.bind_some]
    · unfold f_X8_up
      rw [i2, Option.bind_some]
      dsimp only
      rw [rd_1, tn_1, e1, r_startOf (by omega) (by omega), Option.bind_some, hl1, hz, if_pos (by decide), rd_1]
  · obtain ⟨z, r, g', kCar', s', j1, j2, j3, j4⟩ := o_goal (Z := Z) (vC := nI c) (p := lb tF c - 1) (by omega) hN (by omega)
    have hl2 : lb (tx aS) (lb tF c - 1) = lb tF (lb tF c - 1) := lb_congr _ (fun i hi => ht i (by omega))
    have em : nI (lb tF c) - 1 = nI (lb tF c - 1) := pk_sub (b := 1) (by omega)
    refine ⟨nI z, nI z, nI g', kCar', hX', hC', hR', 0, aSm', s', aSv', ?_, ?_, rs_in j4, i3, h.2.2⟩
    · unfold f_X7_up f_X6_moveUp
      rw [i1, Option.bind_some]
      dsimp only
      rw [q_lineBegin (by omega) (by omega) hb1 hb2, Option.bind_some, if_neg (nI_nle (by omega) (by omega)), em, j1, Option.bind_some]
      rfl
    · unfold f_X8_up
      rw [i2, Option.bind_some]
      dsimp only
      rw [rd_1, tn_1, e1, r_startOf (by omega) (by omega), Option.bind_some, hl1, if_neg (nI_nle (by omega) (by omega)), em, r_startOf (by omega) (by omega), Option.bind_some, hl2, j2, Option.bind_some, j3, Option.bind_some]
      dsimp only
      rw [rd_1, show s' 1 = nI z from j4.2.2.1.2.1]
theorem pb_down {Z : Nat} (hZ : 2100 ≤ Z) : PB_down Z Rel := by
  intro vCar vGoa vEag tN tF cN cF mP mS kCap kGap kCar kCop kGro kShr bN bF rCmd rLet rNum fCap fGap fCar fCop fGro fShr hX hC hR aTh aSm aLn aAt aWe aRm aBm aHa aS aSv aCm aRd aBy h
  obtain ⟨n, c, g, q, cp, l, ⟨rfl, rfl, rfl, rfl, rfl, rfl⟩, hN⟩ := rs_out h.1
  have hb1 : n ≤ 256 := hN.1.1
  have hb2 : c ≤ n := hN.1.2.1
  have e0 : aS 0 = nI n := hN.2.2.1.1
  have e1 : aS 1 = nI c := hN.2.2.1.2.1
  have ht := hN.2.2.2.2.1
  have hle := le'_in tF (n - c) c
  have hl2 : le' (tx aS) (n - c) c = le' tF (n - c) c := le'_congr _ _ (fun i hi => ht i (by omega))
  obtain ⟨hX', hC', hR', aSm', aSv', i1, i2, i3⟩ := o_save hZ hN h.2.1
  by_cases hz : n ≤ le' tF (n - c) c
  · refine ⟨nI c, nI c, nI g, kCar, hX', hC', hR', 0, aSm', aS, aSv', ?_, ?_, rs_in hN, i3, h.2.2⟩
    · unfold f_X7_down f_X6_moveDown f_X0_size
      rw [i1, Option.bind_some]
      dsimp only
      rw [q_lineEnd (by omega) (by omega) hb1 hb2, Option.bind_some, Option.bind_some, if_pos (nI_le hz (by omega)), Option.bind_some]
    · unfold f_X8_down
      rw [i2, Option.bind_some]
      dsimp only
      rw [rd_1, tn_1, e1, r_endOf (by omega) e0 hb1 hb2, Option.bind_some, hl2, rd_0, tn_0, e0, if_pos (nI_le hz (by omega)), rd_1]
  · have hbr : tF (le' tF (n - c) c) = 10 := le_brk _ _ (by omega)
    obtain ⟨z, r, g', kCar', s', j1, j2, j3, j4⟩ := o_goal (Z := Z) (vC := nI c) (p := le' tF (n - c) c + 1) (by omega) hN (by omega)
    rw [lb_brk hbr] at j2
    refine ⟨nI z, nI z, nI g', kCar', hX', hC', hR', 0, aSm', s', aSv', ?_, ?_, rs_in j4, i3, h.2.2⟩
    · unfold f_X7_down f_X6_moveDown f_X0_size
      rw [i1, Option.bind_some]
      dsimp only
      rw [q_lineEnd (by omega) (by omega) hb1 hb2, Option.bind_some, Option.bind_some, if_neg (nI_ge (by omega) (by omega)), nI_1, j1, Option.bind_some]
      rfl
    · unfold f_X8_down
      rw [i2, Option.bind_some]
      dsimp only
      rw [rd_1, tn_1, e1, r_endOf (by omega) e0 hb1 hb2, Option.bind_some, hl2, rd_0, tn_0, e0, if_neg (nI_ge (by omega) (by omega)), nI_1, j2, Option.bind_some, j3, Option.bind_some]
      dsimp only
      rw [rd_1, show s' 1 = nI z from j4.2.2.1.2.1]
theorem pb_setEager {Z : Nat} (hZ : 2100 ≤ Z) : PB_setEager Z Rel := by
  intro p1 vCar vGoa vEag tN tF cN cF mP mS kCap kGap kCar kCop kGro kShr bN bF rCmd rLet rNum fCap fGap fCar fCop fGro fShr hX hC hR aTh aSm aLn aAt aWe aRm aBm aHa aS aSv aCm aRd aBy h hp1
  obtain ⟨n, c, g, q, cp, l, ⟨rfl, rfl, rfl, rfl, rfl, rfl⟩, hN⟩ := rs_out h.1
  have hb1 : n ≤ 256 := hN.1.1
  have hb2 : c ≤ n := hN.1.2.1
  have hb3 : g ≤ n := hN.1.2.2.1
  have e1 : aS 1 = nI c := hN.2.2.1.2.1
  have e2 : aS 2 = nI g := hN.2.2.1.2.2.1
  have e4 : aS 4 = kCar := hN.2.2.1.2.2.2.2.1
  obtain ⟨hX', hC', hR', aSm', aSv', i1, i2, i3⟩ := o_save hZ hN h.2.1
  have hE := rn_eager hN hp1
  rcases hp1 with rfl | rfl
  · refine ⟨0, 0, nI g, kCar, hX', hC', hR', 0, aSm', _, aSv', ?_, ?_, rs_in hE, i3, h.2.2⟩
    · unfold f_X7_setEager f_X6_letGapFollow
      rw [i1, Option.bind_some]
      dsimp only
      rw [q_kb0, if_pos rfl, Option.bind_some]
    · unfold f_X8_setEager
      rw [i2, Option.bind_some]
      dsimp only
      rw [if_pos rfl, rd_9, tn_9, kl, if_pos rfl]
  · have hG := rn_gap (kCar' := kCar + nI (dst c g)) hE hb2
    refine ⟨nI (dst c g), 1, nI c, kCar + nI (dst c g), hX', hC', hR', 0, aSm', _, aSv', ?_, ?_, rs_in hG, i3, h.2.2⟩
    · unfold f_X7_setEager f_X6_letGapFollow
      rw [i1, Option.bind_some]
      dsimp only
      rw [q_kb1, if_neg c_01, q_moveGap (by omega) (by omega), Option.bind_some, Option.bind_some]
    · unfold f_X8_setEager
      rw [i2, Option.bind_some]
      dsimp only
      rw [if_neg c_01, rd_9, tn_9, kl, if_neg c_01, rd_1, tn_1, pk_un (by omega), e1, r_movesGap (g := g) (by rw [pk_un (by omega), e2]) (by omega) (by omega), Option.bind_some, pk_un (by omega), e4]
