-- ===== moveBy =====
theorem mb_cases (v : Int32) {n : Nat} (hn : n ≤ 256) : ∃ t, t ≤ n ∧ (if 0 < (if v < nI n then v else nI n) then (if v < nI n then v else nI n) else 0) = nI t ∧ ((0 ≤ v ∧ v ≤ nI n ∧ v = nI t) ∨ (0 ≤ v ∧ ¬ v ≤ nI n ∧ t = n) ∨ (¬ 0 ≤ v ∧ t = 0)) := by
  rcases pos_cases v (n := n) (by omega) with (h | h) | ⟨j, hj, rfl⟩
  · have h1 : v < nI n := by
      rw [Int32.lt_iff_toInt_lt] at *
      rw [show (0 : Int32).toInt = 0 from by decide] at h
      rw [nI_toInt (by omega)]
      omega
    have h2 : ¬ (0 : Int32) < v := by
      rw [Int32.lt_iff_toInt_lt] at *
      omega
    refine ⟨0, by omega, ?_, Or.inr (Or.inr ⟨Int32.not_le.mpr h, rfl⟩)⟩
    rw [if_pos h1, if_neg h2]
    rfl
  · have h1 : ¬ v < nI n := by
      rw [Int32.lt_iff_toInt_lt] at *
      omega
    have h3 : (0 : Int32) ≤ v := by
      rw [Int32.lt_iff_toInt_lt, nI_toInt (by omega)] at h
      rw [Int32.le_iff_toInt_le, show (0 : Int32).toInt = 0 from by decide]
      omega
    refine ⟨n, Nat.le_refl _, ?_, Or.inr (Or.inl ⟨h3, Int32.not_le.mpr h, rfl⟩)⟩
    rw [if_neg h1]
    rcases Nat.eq_zero_or_pos n with w | w
    · subst w
      rfl
    · rw [if_pos (show (0 : Int32) < nI n from nI_lt (a := 0) w (by omega))]
  · refine ⟨j, hj, ?_, Or.inl ⟨nI_pos' (by omega), nI_le hj (by omega), rfl⟩⟩
    have e : (if nI j < nI n then nI j else nI n) = nI j := by
      by_cases w : j < n
      · rw [if_pos (nI_lt w (by omega))]
      · rw [if_neg (nI_nlt (by omega) (by omega)), show n = j by omega]
    rw [e]
    rcases Nat.eq_zero_or_pos j with w | w
    · subst w
      rfl
    · rw [if_pos (show (0 : Int32) < nI j from nI_lt (a := 0) w (by omega))]
theorem pb_moveBy {Z : Nat} (hZ : 2100 ≤ Z) : PB_moveBy Z Rel := by
  intro p1 vCar vGoa vEag tN tF cN cF mP mS kCap kGap kCar kCop kGro kShr bN bF rCmd rLet rNum fCap fGap fCar fCop fGro fShr hX hC hR aTh aSm aLn aAt aWe aRm aBm aHa aS aSv aCm aRd aBy h
  obtain ⟨n, c, g, q, cp, l, ⟨rfl, rfl, rfl, rfl, rfl, rfl⟩, hN⟩ := rs_out h.1
  have hb1 : n ≤ 256 := hN.1.1
  have hb2 : c ≤ n := hN.1.2.1
  have e0 : aS 0 = nI n := hN.2.2.1.1
  have e1 : aS 1 = nI c := hN.2.2.1.2.1
  by_cases hr : p1 < -100 ∨ 100 < p1
  · refine Or.inr ⟨0, aSm, aS, aSv, ?_, ?_, h⟩
    · unfold f_X7_moveBy
      by_cases h1 : p1 < -100
      · rw [if_pos h1, if_pos rfl]
      · rw [if_neg h1, if_pos (hr.resolve_left h1), if_pos rfl]
    · unfold f_X8_moveBy
      rw [q_in_no hr, Option.bind_some, if_pos rfl]
      rfl
  · have r1 : ¬ p1 < -100 := fun a => hr (Or.inl a)
    have r2 : ¬ 100 < p1 := fun a => hr (Or.inr a)
    obtain ⟨hX', hC', hR', aSm', aSv', i1, i2, i3⟩ := o_save hZ hN h.2.1
    obtain ⟨t, t1, t2, t3⟩ := mb_cases (nI c + p1) hb1
    obtain ⟨r, g', q', kCar', s', j1, j2, j3⟩ := o_move (Z := Z) (vC := nI c) (vG := nI q) (by omega) hN t1
    have e1' : s' 1 = nI t := j3.2.2.1.2.1
    refine Or.inl ⟨nI t, nI t, nI q', nI g', kCar', hX', hC', hR', aSm', s', aSv', ?_, ?_, rs_in j3, i3, h.2.2⟩
    · unfold f_X7_moveBy f_X7_moveBy_c20 f_X0_size
      rw [if_neg r1, if_neg r2, if_neg c_01, i1, Option.bind_some]
      dsimp only
      rw [Option.bind_some, kl, kl, t2, j1, Option.bind_some]
      rfl
    · unfold f_X8_moveBy
      rw [q_in_yes r1 r2, Option.bind_some, if_neg c_01, i2, Option.bind_some]
      dsimp only
      rw [rd_1, tn_1, e1, kl]
      rcases t3 with ⟨a, b, d⟩ | ⟨a, b, rfl⟩ | ⟨a, rfl⟩
      · rw [if_pos a, rd_0, tn_0, e0, if_pos b, d, j2, Option.bind_some]
        dsimp only
        rw [rd_1, e1']
      · rw [if_pos a, rd_0, tn_0, e0, if_neg b, rd_0, j2, Option.bind_some]
        dsimp only
        rw [rd_1, e1']
      · rw [if_neg a, show f_X8_movesAnew Z 0 aS = some (r, s') from j2, Option.bind_some]
        dsimp only
        rw [rd_1, e1']
-- ===== setMark, copy, cut, paste =====
theorem in01 {x : Int32} (h0 : ¬ x = 0) (h1 : ¬ x = 1) : x < 0 ∨ 1 < x := by
  rcases pos_cases x (n := 1) (by omega) with h | ⟨j, hj, rfl⟩
  · exact h
  · rcases (show j = 0 ∨ j = 1 by omega) with rfl | rfl
    · exact absurd rfl h0
    · exact absurd rfl h1
theorem q_place {Z j : Nat} {v sd : Int32} {P S : Nat → Int32} (h : j < 4) : f_X4_place Z (nI j) v sd P S = some (upd P j v, upd S j sd) := by
  unfold f_X4_place
  rw [q_mark_yes h, Option.bind_some, if_neg c_01, z_rd h (by omega), kl, z_rd h (by omega), kl, nI_clamp (by omega)]
theorem pb_setMark {Z : Nat} (hZ : 2100 ≤ Z) : PB_setMark Z Rel := by
  intro p1 p2 vCar vGoa vEag tN tF cN cF mP mS kCap kGap kCar kCop kGro kShr bN bF rCmd rLet rNum fCap fGap fCar fCop fGro fShr hX hC hR aTh aSm aLn aAt aWe aRm aBm aHa aS aSv aCm aRd aBy h
  obtain ⟨n, c, g, q, cp, l, ⟨rfl, rfl, rfl, rfl, rfl, rfl⟩, hN⟩ := rs_out h.1
  have hb2 : c ≤ n := hN.1.2.1
  have e1 : aS 1 = nI c := hN.2.2.1.2.1
  rcases mk_cases p1 with hp | ⟨j, hj, rfl⟩
  · refine Or.inr (Or.inl ⟨0, aSm, aS, aSv, ?_, ?_, h⟩)
    · unfold f_X7_setMark
      rw [q_mark_no hp, Option.bind_some, if_pos rfl]
    · unfold f_X8_setMark
      rw [r_mark_no hp, Option.bind_some, if_pos rfl]
      rfl
  · have hm1 : aS (12 + j) = mP j := (hN.2.2.2.1 j hj).1
    by_cases hs : p2 = 0 ∨ p2 = 1
    · obtain ⟨hX', hC', hR', aSm', aSv', i1, i2, i3⟩ := o_save hZ hN h.2.1
      have hM := rn_mark (sd := p2) hN hj hb2
      refine Or.inl ⟨mP j, upd mP j (nI c), upd mS j p2, hX', hC', hR', aSm', _, aSv', ?_, ?_, rs_in hM, i3, h.2.2⟩
      · unfold f_X7_setMark f_X7_setMark_c24
        rw [q_mark_yes hj, Option.bind_some, if_neg c_01]
        rcases hs with hs | hs
        · rw [if_pos hs, if_neg c_01, i1, Option.bind_some]
          dsimp only
          rw [q_posOf hj, Option.bind_some, q_place hj, Option.bind_some]
          rfl
        · rw [if_neg (fun a => c_01 (hs.symm.trans a)), if_pos hs, if_neg c_01, i1, Option.bind_some]
          dsimp only
          rw [q_posOf hj, Option.bind_some, q_place hj, Option.bind_some]
          rfl
      · unfold f_X8_setMark
        have hin : f_X8_in Z p2 0 1 = some 1 := by
          rcases hs with rfl | rfl
          · exact q_in_yes (by decide) (by decide)
          · exact q_in_yes (by decide) (by decide)
        rw [r_mark_yes hj, Option.bind_some, if_neg c_01, hin, Option.bind_some, if_neg c_01, i2, Option.bind_some]
        dsimp only
        rw [z_12, z_16, z_rd (by omega) (by omega), kl, rd_1, z_rd (by omega) (by omega), kl, z_rd (by omega) (by omega), kl, tn_1, e1, nI_clamp (by omega), nI_clamp (by omega), hm1]
    · refine Or.inr (Or.inr ⟨0, aSm, aS, aSv, ?_, ?_, h⟩)
      · unfold f_X7_setMark
        rw [q_mark_yes hj, Option.bind_some, if_neg c_01, if_neg (fun a => hs (Or.inl a)), if_neg (fun a => hs (Or.inr a)), if_pos rfl]
      · unfold f_X8_setMark
        rw [r_mark_yes hj, Option.bind_some, if_neg c_01, q_in_no (in01 (fun a => hs (Or.inl a)) (fun a => hs (Or.inr a))), Option.bind_some, if_pos rfl]
        rfl
theorem n20 : ¬ nI 2 = 0 := by decide
theorem n30 : ¬ nI 3 = 0 := by decide
theorem pb_copy {Z : Nat} (hZ : 2100 ≤ Z) : PB_copy Z Rel := by
  intro p1 vCar vGoa vEag tN tF cN cF mP mS kCap kGap kCar kCop kGro kShr bN bF rCmd rLet rNum fCap fGap fCar fCop fGro fShr hX hC hR aTh aSm aLn aAt aWe aRm aBm aHa aS aSv aCm aRd aBy h
  obtain ⟨n, c, g, q, cp, l, ⟨rfl, rfl, rfl, rfl, rfl, rfl⟩, hN⟩ := rs_out h.1
  rcases mk_cases p1 with hp | ⟨j, hj, rfl⟩
  · refine Or.inr (Or.inl ⟨0, aSm, aS, aSv, ?_, ?_, h⟩)
    · unfold f_X7_copy
      rw [q_mark_no hp, Option.bind_some, if_pos rfl]
    · unfold f_X8_copy
      rw [r_mark_no hp, Option.bind_some, if_pos rfl]
      rfl
  · obtain ⟨f, f1, f2, f3⟩ := o_region (Z := Z) hN hj
    have bad : ¬ nI f = 0 → f_X7_copy Z (nI j) (nI c) (nI q) vEag (nI n) tF (nI l) cF mP mS (nI cp) (nI g) kCar kCop kGro kShr hX hC hR = some (.inr "java/lang/IllegalStateException") ∧ f_X8_copy Z (nI j) aTh aSm aS aSv = some (0, 2, aSm, aS, aSv) := fun hf => by
      constructor
      · unfold f_X7_copy
        rw [q_mark_yes hj, Option.bind_some, if_neg c_01, f1, Option.bind_some, if_neg hf, if_pos rfl]
      · unfold f_X8_copy
        rw [r_mark_yes hj, Option.bind_some, if_neg c_01, f2, Option.bind_some, if_neg hf]
        rfl
    rcases f3 with ⟨rfl, p, hp, hm, hd⟩ | rfl | rfl
    · obtain ⟨hX', hC', hR', aSm', aSv', i1, i2, i3⟩ := o_save hZ hN h.2.1
      obtain ⟨cF', s', j1, j2, j3⟩ := o_copy (Z := Z) (cN := nI l) (by omega) hN hj hp hm hd
      refine Or.inl ⟨nI (dst p c), nI (dst p c), cF', hX', hC', hR', aSm', s', aSv', ?_, ?_, rs_in j3, i3, h.2.2⟩
      · unfold f_X7_copy f_X7_copy_c26 f_X0_size
        rw [q_mark_yes hj, Option.bind_some, if_neg c_01, f1, Option.bind_some, if_pos nI_0, if_neg c_01, i1, Option.bind_some]
        dsimp only
        rw [j1, Option.bind_some]
        rfl
      · unfold f_X8_copy
        rw [r_mark_yes hj, Option.bind_some, if_neg c_01, f2, Option.bind_some, if_pos nI_0, i2, Option.bind_some]
        dsimp only
        rw [j2, Option.bind_some, rd_10, tn_10, show s' 10 = nI (dst p c) from j3.2.2.1.2.2.2.2.2.2.2.2.2.2]
    · exact Or.inr (Or.inr ⟨0, aSm, aS, aSv, (bad n20).1, (bad n20).2, h⟩)
    · exact Or.inr (Or.inr ⟨0, aSm, aS, aSv, (bad n30).1, (bad n30).2, h⟩)
theorem pb_cut {Z : Nat} (hZ : 2100 ≤ Z) : PB_cut Z Rel := by
  intro p1 vCar vGoa vEag tN tF cN cF mP mS kCap kGap kCar kCop kGro kShr bN bF rCmd rLet rNum fCap fGap fCar fCop fGro fShr hX hC hR aTh aSm aLn aAt aWe aRm aBm aHa aS aSv aCm aRd aBy h
  obtain ⟨n, c, g, q, cp, l, ⟨rfl, rfl, rfl, rfl, rfl, rfl⟩, hN⟩ := rs_out h.1
  rcases mk_cases p1 with hp | ⟨j, hj, rfl⟩
  · refine Or.inr (Or.inl ⟨0, aSm, aS, aSv, ?_, ?_, h⟩)
    · unfold f_X7_cut
      rw [q_mark_no hp, Option.bind_some, if_pos rfl]
    · unfold f_X8_cut
      rw [r_mark_no hp, Option.bind_some, if_pos rfl]
      rfl
  · obtain ⟨f, f1, f2, f3⟩ := o_region (Z := Z) hN hj
    have bad : ¬ nI f = 0 → f_X7_cut Z (nI j) (nI c) (nI q) vEag (nI n) tF (nI l) cF mP mS (nI cp) (nI g) kCar kCop kGro kShr hX hC hR = some (.inr "java/lang/IllegalStateException") ∧ f_X8_cut Z (nI j) aTh aSm aS aSv = some (0, 2, aSm, aS, aSv) := fun hf => by
      constructor
      · unfold f_X7_cut
        rw [q_mark_yes hj, Option.bind_some, if_neg c_01, f1, Option.bind_some, if_neg hf, if_pos rfl]
      · unfold f_X8_cut
        rw [r_mark_yes hj, Option.bind_some, if_neg c_01, f2, Option.bind_some, if_neg hf]
        rfl
    rcases f3 with ⟨rfl, p, hp, hm, hd⟩ | rfl | rfl
    · obtain ⟨hX', hC', hR', aSm', aSv', i1, i2, i3⟩ := o_save hZ hN h.2.1
      obtain ⟨n', c', g', q', cp', l', tF', cF', mP', kCar', kCop', kShr', s', j1, j2, j3⟩ := o_cut (Z := Z) (cN := nI l) (vG := nI q) (by omega) hN hj hp hm hd
      refine Or.inl ⟨nI l', nI c', nI q', nI n', tF', nI l', cF', mP', nI cp', nI g', kCar', kCop', kShr', hX', hC', hR', aSm', s', aSv', ?_, ?_, rs_in j3, i3, h.2.2⟩
      · unfold f_X7_cut f_X7_cut_c26 f_X0_size
        rw [q_mark_yes hj, Option.bind_some, if_neg c_01, f1, Option.bind_some, if_pos nI_0, if_neg c_01, i1, Option.bind_some]
        dsimp only
        rw [j1, Option.bind_some]
        rfl
      · unfold f_X8_cut
        rw [r_mark_yes hj, Option.bind_some, if_neg c_01, f2, Option.bind_some, if_pos nI_0, i2, Option.bind_some]
        dsimp only
        rw [j2, Option.bind_some, rd_10, tn_10, show s' 10 = nI l' from j3.2.2.1.2.2.2.2.2.2.2.2.2.2]
    · exact Or.inr (Or.inr ⟨0, aSm, aS, aSv, (bad n20).1, (bad n20).2, h⟩)
    · exact Or.inr (Or.inr ⟨0, aSm, aS, aSv, (bad n30).1, (bad n30).2, h⟩)
theorem n0_ne {l : Nat} (h : 0 < l) (h2 : l ≤ 256) : ¬ nI l = 0 := nI_ne0 h (by omega)
theorem pb_paste {Z : Nat} (hZ : 2100 ≤ Z) : PB_paste Z Rel := by
  intro vCar vGoa vEag tN tF cN cF mP mS kCap kGap kCar kCop kGro kShr bN bF rCmd rLet rNum fCap fGap fCar fCop fGro fShr hX hC hR aTh aSm aLn aAt aWe aRm aBm aHa aS aSv aCm aRd aBy h
  obtain ⟨n, c, g, q, cp, l, ⟨rfl, rfl, rfl, rfl, rfl, rfl⟩, hN⟩ := rs_out h.1
  have hb1 : n ≤ 256 := hN.1.1
  have hb5 : l ≤ 60 := hN.1.2.2.2.2.1
  have e0 : aS 0 = nI n := hN.2.2.1.1
  have e10 : aS 10 = nI l := hN.2.2.1.2.2.2.2.2.2.2.2.2.2
  rcases Nat.eq_zero_or_pos l with hl | hl
  · refine Or.inr ⟨0, aSm, aBm, aS, aSv, aBy, ?_, ?_, h⟩
    · subst hl
      unfold f_X7_paste f_X6_pasteFault f_X0_size
      rw [Option.bind_some, if_pos nI_0, Option.bind_some, if_neg (by decide), if_pos rfl]
    · subst hl
      unfold f_X8_paste
      rw [rd_10, tn_10, e10, if_pos nI_0]
      rfl
  · have f1 := q_fault (Z := Z) (k := l) hb1 (by omega)
    have f2 := r_room (Z := Z) (k := l) e0 hb1 (by omega)
    have hl0 := n0_ne hl (by omega)
    by_cases hr : n + l ≤ 256
    · rw [if_pos hr] at f1 f2
      obtain ⟨hX', hC', hR', aSm', aSv', i1, i2, i3⟩ := o_save hZ hN h.2.1
      obtain ⟨n', c', g', q', cp', tF', mP', kCar', kCop', kGro', s', aBy', j1, j2, j3⟩ := o_paste (Z := Z) (vG := nI q) (aBm := aBm) (aBy := aBy) (by omega) hN hr
      have e0' : s' 0 = nI n' := j3.2.2.1.1
      refine Or.inl ⟨nI n', nI c', nI q', nI n', tF', mP', nI cp', nI g', kCar', kCop', kGro', hX', hC', hR', aSm', nI l, s', aSv', aBy', ?_, ?_, rs_in j3, i3, h.2.2⟩
      · unfold f_X7_paste f_X6_pasteFault f_X0_size f_X7_paste_c18
        rw [Option.bind_some, if_neg hl0, Option.bind_some, f1, Option.bind_some, Option.bind_some, if_pos rfl, if_neg c_01, i1, Option.bind_some]
        dsimp only
        unfold f_X0_size
        rw [Option.bind_some, j1, Option.bind_some]
        rfl
      · unfold f_X8_paste
        rw [rd_10, tn_10, e10, if_neg hl0, rd_10, f2, Option.bind_some, if_neg c_01, i2, Option.bind_some]
        dsimp only
        rw [j2, Option.bind_some]
        dsimp only
        rw [rd_0, tn_0, e0']
    · rw [if_neg hr] at f1 f2
      refine Or.inr ⟨0, aSm, aBm, aS, aSv, aBy, ?_, ?_, h⟩
      · unfold f_X7_paste f_X6_pasteFault f_X0_size
        rw [Option.bind_some, if_neg hl0, Option.bind_some, f1, Option.bind_some, Option.bind_some, if_neg c_01, if_pos rfl]
      · unfold f_X8_paste
        rw [rd_10, tn_10, e10, if_neg hl0, rd_10, f2, Option.bind_some, if_pos rfl]
        rfl
-- ===== undo =====
theorem pb_undo {Z : Nat} (hZ : 2100 ≤ Z) : PB_undo Z Rel := by
  intro vCar vGoa vEag tN tF cN cF mP mS kCap kGap kCar kCop kGro kShr bN bF rCmd rLet rNum fCap fGap fCar fCop fGro fShr hX hC hR aTh aSm aLn aAt aWe aRm aBm aHa aS aSv aCm aRd aBy h
  obtain ⟨cnt, x, h1, h2, rfl, rfl, rfl, h3⟩ := h.2.1
  rcases Nat.eq_zero_or_pos cnt with hc | hc
  · subst hc
    refine Or.inr ⟨0, nI 0, aS, ?_, ?_, h⟩
    · unfold f_X7_undo f_X2_count
      rw [Option.bind_some, if_pos (by decide), if_pos rfl]
    · unfold f_X8_undo
      rw [if_pos nI_0]
      rfl
  · obtain ⟨x1, x2, x3, x4, x5, x6, x7, x8, x9, x10, x11, x12, x13, x14, x15, hX', s', i1, i2, i3, i4⟩ := o_undo (Z := Z) (th := 0) (σ := (vCar, vGoa, vEag, tN, tF, cN, cF, mP, mS, kCap, kGap, kCar, kCop, kGro, kShr)) (s := aS) hZ hc h1 h2 h3
    refine Or.inl ⟨nI (cnt - 1), x1, x2, x3, x4, x5, x6, x7, x8, x9, x10, x11, x12, x13, x14, x15, hX', nI (cnt - 1), nI (cnt - 1), s', ?_, ?_, i3, i4, h.2.2⟩
    · unfold f_X7_undo f_X2_count f_X7_undo_c18
      rw [Option.bind_some, if_neg (nI_nle hc (by omega)), if_neg c_01]
      show ((f_X2_restore Z (nI x) (nI cnt) hR vCar vGoa vEag tN tF cN cF mP mS kCap kGap kCar kCop kGro kShr).bind _).map _ = _
      rw [show f_X2_restore Z (nI x) (nI cnt) hR vCar vGoa vEag tN tF cN cF mP mS kCap kGap kCar kCop kGro kShr = _ from i1, Option.bind_some]
      rfl
    · unfold f_X8_undo
      rw [if_neg (nI_ne0 hc (by omega)), kl, show nI cnt - 1 = nI (cnt - 1) from pk_sub (b := 1) (by omega)]
      exact i2
