-- ===== a row becomes the state =====
theorem q_mkasg {Z : Nat} {oP oS : Nat → Int32} : ∀ (N m : Nat) (P S : Nat → Int32), m ≤ 4 → 4 < N + m → (∀ i, i < m → P i = oP i ∧ S i = oS i) → ∃ P' S', f_X4_assign_l2 Z oP oS N (nI m) P S = some (P', S') ∧ ∀ i, i < 4 → P' i = oP i ∧ S' i = oS i := by
  intro N
  induction N with
  | zero => intro m P S h1 h2; omega
  | succ N ih =>
    intro m P S h1 h2 h3
    show ∃ P' S', f_X4_assign_b2 Z oP oS _ (nI m) P S = _ ∧ _
    unfold f_X4_assign_b2
    rcases Nat.lt_or_ge m 4 with h | h
    · rw [l_4, if_neg (nI_ge h (by omega)), z_rd h (by omega), z_rd h (by omega), nI_clamp (by omega)]
      unfold f_X4_place
      rw [q_mark_yes h, Option.bind_some, if_neg c_01, z_rd h (by omega), kl, z_rd h (by omega), kl, Option.bind_some]
      dsimp only
      rw [kl, nI_clamp (by omega), nI_1]
      refine ih (m + 1) _ _ (by omega) (by omega) (fun i hi => ?_)
      by_cases y : i = m
      · rw [y, pk_us, pk_us]
        exact ⟨rfl, rfl⟩
      · rw [pk_un y, pk_un y]
        exact h3 i (by omega)
    · obtain rfl : m = 4 := by omega
      exact ⟨P, S, by rw [l_4, if_pos (nI_le (Nat.le_refl _) (by omega))], h3⟩
theorem q_asg {Z n c g q cp l : Nat} {e : Int32} {tF cF mP mS : Nat → Int32} {kCar kCop kGro kShr : Int32} {s : Nat → Int32} {x1 x2 x3 x4 x6 x10 x11 x12 x13 x14 x15 : Int32} {x5 x7 x8 x9 : Nat → Int32} (hZ : 300 ≤ Z) (h : RN n c g q cp l e tF cF mP mS kCar kCop kGro kShr s) : ∃ tF' cF' mP' mS', f_X6_assign Z x1 x2 x3 x4 x5 x6 x7 x8 x9 x10 x11 x12 x13 x14 x15 (nI c) (nI q) e (nI n) tF (nI l) cF mP mS (nI cp) (nI g) kCar kCop kGro kShr = some (nI c, nI q, e, nI n, tF', nI l, cF', mP', mS', nI cp, nI g, kCar, kCop, kGro, kShr) ∧ RN n c g q cp l e tF' cF' mP' mS' kCar kCop kGro kShr s := by
  obtain ⟨⟨hb1, hb2, hb3, hb4, hb5, hb6, hb7⟩, he, hs, hm, ht, hcl⟩ := h
  obtain ⟨P', S', i1, i2⟩ := q_mkasg (Z := Z) (oP := mP) (oS := mS) Z 0 x8 x9 (by omega) (by omega) (fun i hi => absurd hi (by omega))
  refine ⟨va_cpy tF x5 0 0 n, va_cpy cF x7 0 0 l, P', S', ?_, ⟨hb1, hb2, hb3, hb4, hb5, hb6, hb7⟩, he, hs, fun m hm' => ?_, fun i hi => ?_, fun i hi => ?_⟩
  · unfold f_X6_assign f_X0_size f_X3_assign f_X4_assign
    rw [Option.bind_some, show (0 : Int32) = nI 0 from rfl, q_assign (by omega) (by omega) (by omega) hb1 hb1, Option.bind_some]
    dsimp only
    rw [Option.bind_some, q_assign (by omega) (by omega) (by omega) hb5 hb5, Option.bind_some]
    dsimp only
    rw [i1, Option.bind_some]
    dsimp only
    rw [Option.bind_some]
    exact if_pos he
  · rw [(i2 m hm').1, (i2 m hm').2]
    exact hm m hm'
  · rw [ht i hi, pk_cpy_in (by omega) (by omega), Nat.zero_add, Nat.sub_zero]
  · rw [hcl i hi, pk_cpy_in (by omega) (by omega), Nat.zero_add, Nat.sub_zero]
theorem rs_congr {σ : StT} {s s' : Nat → Int32} (h : RS σ s) (hs : ∀ i, i < 344 → s' i = s i) : RS σ s' := by
  obtain ⟨n, c, g, q, cp, l, hb, hv, he, ⟨e0, e1, e2, e3, e4, e5, e6, e7, e8, e9, e10⟩, hm, ht, hc⟩ := h
  refine ⟨n, c, g, q, cp, l, hb, hv, he, ⟨by rw [hs _ (by omega), e0], by rw [hs _ (by omega), e1], by rw [hs _ (by omega), e2], by rw [hs _ (by omega), e3], by rw [hs _ (by omega), e4], by rw [hs _ (by omega), e5], by rw [hs _ (by omega), e6], by rw [hs _ (by omega), e7], by rw [hs _ (by omega), e8], by rw [hs _ (by omega), e9], by rw [hs _ (by omega), e10]⟩, fun m hm' => ?_, fun i hi => ?_, fun i hi => ?_⟩
  · rw [hs _ (by omega), hs _ (by omega)]
    exact hm m hm'
  · rw [hs _ (by omega)]
    exact ht i hi
  · rw [hs _ (by omega)]
    exact hc i hi
-- ===== saving =====
theorem z_min6 {cnt : Nat} (h : cnt ≤ 6) : (if (6 : Int32) < nI cnt + 1 then 6 else nI cnt + 1) = nI (if cnt = 6 then 6 else cnt + 1) := by
  rw [l_6, nI_1]
  by_cases x : cnt = 6
  · subst x
    rfl
  · rw [if_neg (nI_nlt (by omega) (by omega)), if_neg x]
theorem q_save {Z n c g q cp l x cnt : Nat} {e : Int32} {tF cF mP mS : Nat → Int32} {kCar kCop kGro kShr : Int32} {s : Nat → Int32} {hR : Nat → StT} (hZ : 300 ≤ Z) (h : RN n c g q cp l e tF cF mP mS kCar kCop kGro kShr s) (hx : x ≤ 6) (hc : cnt ≤ 6) : ∃ σ', RS σ' s ∧ f_X2_save Z (nI x) (nI cnt) hR (nI c) (nI q) e (nI n) tF (nI l) cF mP mS (nI cp) (nI g) kCar kCop kGro kShr = some (nI ((if x = 6 then 0 else x) + 1), nI (if cnt = 6 then 6 else cnt + 1), va_up hR (if x = 6 then 0 else x) σ') := by
  unfold f_X2_save
  by_cases y : x = 6
  · subst y
    rw [if_pos rfl, if_pos (show nI 6 = (6 : Int32) from rfl), show (0 : Int32) = nI 0 from rfl, z_rd (by omega) (by omega), kl, nI_clamp (by omega)]
    obtain ⟨tF', cF', mP', mS', i1, i2⟩ := q_asg (Z := Z) (x1 := s_vCar (hR 0)) (x2 := s_vGoa (hR 0)) (x3 := s_vEag (hR 0)) (x4 := s_tN (hR 0)) (x5 := s_tF (hR 0)) (x6 := s_cN (hR 0)) (x7 := s_cF (hR 0)) (x8 := s_mP (hR 0)) (x9 := s_mS (hR 0)) (x10 := s_kCap (hR 0)) (x11 := s_kGap (hR 0)) (x12 := s_kCar (hR 0)) (x13 := s_kCop (hR 0)) (x14 := s_kGro (hR 0)) (x15 := s_kShr (hR 0)) hZ h
    refine ⟨_, rs_in i2, ?_⟩
    rw [i1, Option.bind_some]
    dsimp only [kl]
    rw [z_min6 hc, nI_1]
  · rw [if_neg (by rw [l_6, nI_eq (by omega) (by omega)]; omega), if_neg y, z_rd (by omega) (by omega), kl, nI_clamp (by omega)]
    obtain ⟨tF', cF', mP', mS', i1, i2⟩ := q_asg (Z := Z) (x1 := s_vCar (hR x)) (x2 := s_vGoa (hR x)) (x3 := s_vEag (hR x)) (x4 := s_tN (hR x)) (x5 := s_tF (hR x)) (x6 := s_cN (hR x)) (x7 := s_cF (hR x)) (x8 := s_mP (hR x)) (x9 := s_mS (hR x)) (x10 := s_kCap (hR x)) (x11 := s_kGap (hR x)) (x12 := s_kCar (hR x)) (x13 := s_kCop (hR x)) (x14 := s_kGro (hR x)) (x15 := s_kShr (hR x)) hZ h
    refine ⟨_, rs_in i2, ?_⟩
    rw [i1, Option.bind_some]
    dsimp only [kl]
    rw [z_min6 hc, nI_1]
theorem r_sv52 {Z cnt : Nat} {s : Nat → Int32} (hc : cnt ≤ 5) : ∀ (N x : Nat) (F : Nat → Int32), x ≤ 344 → 344 < N + x → ∃ F', f_X8_saves_l52 Z s N (nI x) (nI cnt) F = some (nI (cnt + 1), F') ∧ ∀ i, F' i = if 344 * cnt + x ≤ i ∧ i < 344 * cnt + 344 then s (i - 344 * cnt) else F i := by
  intro N
  induction N with
  | zero => intro x F h1 h2; omega
  | succ N ih =>
    intro x F h1 h2
    show ∃ F', f_X8_saves_b52 Z s _ (nI x) (nI cnt) F = _ ∧ _
    unfold f_X8_saves_b52
    rcases Nat.lt_or_ge x 344 with h | h
    · obtain ⟨F', i1, i2⟩ := ih (x + 1) (upd F (344 * cnt + x) (s x)) (by omega) (by omega)
      refine ⟨F', ?_, fun i => ?_⟩
      · rw [l_344, if_neg (nI_ge h (by omega)), z_rd h (by omega), pk_mul, nI_add, z_rd (by omega) (by omega), kl, kl, nI_clamp (by omega), nI_clamp (by omega), nI_1]
        exact i1
      · rw [i2]
        unfold upd
        by_cases a : i = 344 * cnt + x
        · subst a
          rw [if_neg (by omega), if_pos rfl, if_pos (by omega), show 344 * cnt + x - 344 * cnt = x by omega]
        · by_cases b : 344 * cnt + (x + 1) ≤ i ∧ i < 344 * cnt + 344
          · rw [if_pos b, if_pos (by omega)]
          · rw [if_neg b, if_neg a, if_neg (by omega)]
    · obtain rfl : x = 344 := by omega
      refine ⟨F, ?_, fun i => ?_⟩
      · rw [l_344, if_pos (nI_le (Nat.le_refl _) (by omega)), kl, nI_1]
      · rw [if_neg (by omega)]
theorem r_sv11 {Z : Nat} {s : Nat → Int32} : ∀ (N x : Nat) (F : Nat → Int32), x ≤ 1720 → 1720 < N + x → ∃ F', f_X8_saves_l11 Z s N (nI x) (nI 6) F = f_X8_saves_l52 Z s Z (nI 0) (nI 5) F' ∧ ∀ i, F' i = if x ≤ i ∧ i < 1720 then F (i + 344) else F i := by
  intro N
  induction N with
  | zero => intro x F h1 h2; omega
  | succ N ih =>
    intro x F h1 h2
    show ∃ F', f_X8_saves_b11 Z s _ (nI x) (nI 6) F = _ ∧ _
    unfold f_X8_saves_b11
    rcases Nat.lt_or_ge x 1720 with h | h
    · obtain ⟨F', i1, i2⟩ := ih (x + 1) (upd F x (F (x + 344))) (by omega) (by omega)
      refine ⟨F', ?_, fun i => ?_⟩
      · rw [l_1720, if_neg (nI_ge h (by omega)), l_344, nI_add, z_rd (by omega) (by omega), z_rd (by omega) (by omega), kl, kl, nI_clamp (by omega), nI_clamp (by omega), nI_1]
        exact i1
      · rw [i2]
        unfold upd
        by_cases a : i = x
        · subst a
          rw [if_neg (by omega), if_pos rfl, if_pos (by omega)]
        · by_cases b : x + 1 ≤ i ∧ i < 1720
          · rw [if_pos b, if_neg (by omega), if_pos (by omega)]
          · rw [if_neg b, if_neg a, if_neg (by omega)]
    · obtain rfl : x = 1720 := by omega
      refine ⟨F, ?_, fun i => ?_⟩
      · rw [l_1720, if_pos (nI_le (Nat.le_refl _) (by omega)), kl, nI_pred]
        rfl
      · rw [if_neg (by omega)]
theorem o_save {Z n c g q cp l : Nat} {e : Int32} {tF cF mP mS : Nat → Int32} {kCar kCop kGro kShr : Int32} {s : Nat → Int32} {hX hC aSm : Int32} {hR : Nat → StT} {aSv : Nat → Int32} (hZ : 2100 ≤ Z) (h : RN n c g q cp l e tF cF mP mS kCar kCop kGro kShr s) (hH : RH hX hC hR aSm aSv) : ∃ hX' hC' hR' aSm' aSv', f_X2_save Z hX hC hR (nI c) (nI q) e (nI n) tF (nI l) cF mP mS (nI cp) (nI g) kCar kCop kGro kShr = some (hX', hC', hR') ∧ f_X8_saves Z aSm s aSv = some (aSm', aSv') ∧ RH hX' hC' hR' aSm' aSv' := by
  obtain ⟨cnt, x, h1, h2, rfl, rfl, rfl, h3⟩ := hH
  obtain ⟨σ', i1, i2⟩ := q_save (Z := Z) (hR := hR) (by omega) h h2 h1
  by_cases y : cnt = 6
  · subst y
    obtain ⟨F1, j1, j2⟩ := r_sv11 (Z := Z) (s := s) Z 0 aSv (by omega) (by omega)
    obtain ⟨F2, k1, k2⟩ := r_sv52 (Z := Z) (s := s) (cnt := 5) (by omega) Z 0 F1 (by omega) (by omega)
    refine ⟨_, _, _, nI 6, F2, i2, ?_, 6, (if x = 6 then 0 else x) + 1, by omega, by split <;> omega, rfl, rfl, rfl, fun j hj => ?_⟩
    · unfold f_X8_saves
      rw [l_6, if_pos rfl]
      show f_X8_saves_l11 Z s Z (nI 0) (nI 6) aSv = _
      rw [j1, k1]
    · by_cases w : j = 5
      · subst w
        rw [show ((if x = 6 then 0 else x) + 1 + 12 - 6 + 5) % 6 = (if x = 6 then 0 else x) from by split <;> omega, va_up_self]
        exact rs_congr i1 (fun i hi => by rw [k2, if_pos (by omega), show 344 * 5 + i - 344 * 5 = i by omega])
      · rw [show ((if x = 6 then 0 else x) + 1 + 12 - 6 + j) % 6 = (x + 12 - 6 + (j + 1)) % 6 from by split <;> omega, va_up_ne _ _ (by split <;> omega)]
        exact rs_congr (h3 (j + 1) (by omega)) (fun i hi => by rw [k2, if_neg (by omega), j2, if_pos (by omega), show 344 * j + i + 344 = 344 * (j + 1) + i by omega])
  · obtain ⟨F2, k1, k2⟩ := r_sv52 (Z := Z) (s := s) (cnt := cnt) (by omega) Z 0 aSv (by omega) (by omega)
    rw [if_neg y] at i2
    refine ⟨_, _, _, nI (cnt + 1), F2, i2, ?_, cnt + 1, (if x = 6 then 0 else x) + 1, by omega, by split <;> omega, rfl, rfl, rfl, fun j hj => ?_⟩
    · unfold f_X8_saves
      rw [l_6, if_neg (by rw [nI_eq (by omega) (by omega)]; omega)]
      show f_X8_saves_l52 Z s Z (nI 0) (nI cnt) aSv = _
      rw [k1]
    · by_cases w : j = cnt
      · subst w
        rw [show ((if x = 6 then 0 else x) + 1 + 12 - (j + 1) + j) % 6 = (if x = 6 then 0 else x) from by split <;> omega, va_up_self]
        exact rs_congr i1 (fun i hi => by rw [k2, if_pos (by omega), show 344 * j + i - 344 * j = i by omega])
      · rw [show ((if x = 6 then 0 else x) + 1 + 12 - (cnt + 1) + j) % 6 = (x + 12 - cnt + j) % 6 from by split <;> omega, va_up_ne _ _ (by split <;> omega)]
        exact rs_congr (h3 j (by omega)) (fun i hi => by rw [k2, if_neg (by omega)])
-- ===== undo =====
theorem r_undoL {Z m : Nat} {th : Int32} {aSv : Nat → Int32} (hm : m ≤ 5) : ∀ (N x : Nat) (F : Nat → Int32), x ≤ 344 → 344 < N + x → ∃ F', f_X8_undo_l30 Z aSv N (nI x) th (nI m) F = some (nI m, th, nI m, F') ∧ ∀ i, F' i = if x ≤ i ∧ i < 344 then aSv (344 * m + i) else F i := by
  intro N
  induction N with
  | zero => intro x F h1 h2; omega
  | succ N ih =>
    intro x F h1 h2
    show ∃ F', f_X8_undo_b30 Z aSv _ (nI x) th (nI m) F = _ ∧ _
    unfold f_X8_undo_b30
    rcases Nat.lt_or_ge x 344 with h | h
    · obtain ⟨F', i1, i2⟩ := ih (x + 1) (upd F x (aSv (344 * m + x))) (by omega) (by omega)
      refine ⟨F', ?_, fun i => ?_⟩
      · rw [l_344, if_neg (nI_ge h (by omega)), pk_mul, nI_add, z_rd (by omega) (by omega), z_rd h (by omega), kl, kl, nI_clamp (by omega), nI_clamp (by omega), nI_1]
        exact i1
      · rw [i2]
        unfold upd
        by_cases a : i = x
        · subst a
          rw [if_neg (by omega), if_pos rfl, if_pos (by omega)]
        · by_cases b : x + 1 ≤ i ∧ i < 344
          · rw [if_pos b, if_pos (by omega)]
          · rw [if_neg b, if_neg a, if_neg (by omega)]
    · obtain rfl : x = 344 := by omega
      refine ⟨F, ?_, fun i => ?_⟩
      · rw [l_344, if_pos (nI_le (Nat.le_refl _) (by omega))]
      · rw [if_neg (by omega)]
theorem o_undo {Z cnt x : Nat} {th : Int32} {σ : StT} {hR : Nat → StT} {s aSv : Nat → Int32} (hZ : 2100 ≤ Z) (hc0 : 0 < cnt) (hc : cnt ≤ 6) (hx : x ≤ 6) (h : ∀ j, j < cnt → RS (hR ((x + 12 - cnt + j) % 6)) (fun i => aSv (344 * j + i))) : ∃ x1 x2 x3 x4 x5 x6 x7 x8 x9 x10 x11 x12 x13 x14 x15 hX' s', f_X2_restore Z (nI x) (nI cnt) hR (s_vCar σ) (s_vGoa σ) (s_vEag σ) (s_tN σ) (s_tF σ) (s_cN σ) (s_cF σ) (s_mP σ) (s_mS σ) (s_kCap σ) (s_kGap σ) (s_kCar σ) (s_kCop σ) (s_kGro σ) (s_kShr σ) = some (hX', nI (cnt - 1), x1, x2, x3, x4, x5, x6, x7, x8, x9, x10, x11, x12, x13, x14, x15) ∧ f_X8_undo_l30 Z aSv Z 0 th (nI (cnt - 1)) s = some (nI (cnt - 1), th, nI (cnt - 1), s') ∧ RS (x1, x2, x3, x4, x5, x6, x7, x8, x9, x10, x11, x12, x13, x14, x15) s' ∧ RH hX' (nI (cnt - 1)) hR (nI (cnt - 1)) aSv := by
  obtain ⟨F', i1, i2⟩ := r_undoL (Z := Z) (m := cnt - 1) (th := th) (aSv := aSv) (by omega) Z 0 s (by omega) (by omega)
  have key : ∀ y : Nat, y ≤ 5 → (x + 11) % 6 = y → ∃ x1 x2 x3 x4 x5 x6 x7 x8 x9 x10 x11 x12 x13 x14 x15, f_X6_assign Z (s_vCar σ) (s_vGoa σ) (s_vEag σ) (s_tN σ) (s_tF σ) (s_cN σ) (s_cF σ) (s_mP σ) (s_mS σ) (s_kCap σ) (s_kGap σ) (s_kCar σ) (s_kCop σ) (s_kGro σ) (s_kShr σ) (s_vCar (hR y)) (s_vGoa (hR y)) (s_vEag (hR y)) (s_tN (hR y)) (s_tF (hR y)) (s_cN (hR y)) (s_cF (hR y)) (s_mP (hR y)) (s_mS (hR y)) (s_kCap (hR y)) (s_kGap (hR y)) (s_kCar (hR y)) (s_kCop (hR y)) (s_kGro (hR y)) (s_kShr (hR y)) = some (x1, x2, x3, x4, x5, x6, x7, x8, x9, x10, x11, x12, x13, x14, x15) ∧ RS (x1, x2, x3, x4, x5, x6, x7, x8, x9, x10, x11, x12, x13, x14, x15) F' ∧ RH (nI y) (nI (cnt - 1)) hR (nI (cnt - 1)) aSv := fun y hy e => by
    have h1 := h (cnt - 1) (by omega)
    rw [show (x + 12 - cnt + (cnt - 1)) % 6 = y by omega] at h1
    have h2 : RS (hR y) F' := rs_congr h1 (fun i hi => by rw [i2, if_pos (by omega)])
    have h3 : RS (s_vCar (hR y), s_vGoa (hR y), s_vEag (hR y), s_tN (hR y), s_tF (hR y), s_cN (hR y), s_cF (hR y), s_mP (hR y), s_mS (hR y), s_kCap (hR y), s_kGap (hR y), s_kCar (hR y), s_kCop (hR y), s_kGro (hR y), s_kShr (hR y)) F' := h2
    obtain ⟨n, c, g, q, cp, l, ⟨a1, a2, a3, a4, a5, a6⟩, hN⟩ := rs_out h3
    obtain ⟨tF', cF', mP', mS', k1, k2⟩ := q_asg (Z := Z) (x1 := s_vCar σ) (x2 := s_vGoa σ) (x3 := s_vEag σ) (x4 := s_tN σ) (x5 := s_tF σ) (x6 := s_cN σ) (x7 := s_cF σ) (x8 := s_mP σ) (x9 := s_mS σ) (x10 := s_kCap σ) (x11 := s_kGap σ) (x12 := s_kCar σ) (x13 := s_kCop σ) (x14 := s_kGro σ) (x15 := s_kShr σ) (by omega) hN
    refine ⟨_, _, _, _, _, _, _, _, _, _, _, _, _, _, _, ?_, rs_in k2, cnt - 1, y, by omega, by omega, rfl, rfl, rfl, fun j hj => ?_⟩
    · rw [a1, a2, a3, a4, a5, a6]
      exact k1
    · rw [show (y + 12 - (cnt - 1) + j) % 6 = (x + 12 - cnt + j) % 6 by omega]
      exact h j (by omega)
  unfold f_X2_restore
  by_cases w : x = 0
  · subst w
    obtain ⟨x1, x2, x3, x4, x5, x6, x7, x8, x9, x10, x11, x12, x13, x14, x15, k1, k2, k3⟩ := key 5 (by omega) (by omega)
    refine ⟨x1, x2, x3, x4, x5, x6, x7, x8, x9, x10, x11, x12, x13, x14, x15, nI 5, F', ?_, i1, k2, k3⟩
    rw [if_pos (by decide), kl, kl, show (6 : Int32) - 1 = nI 5 from rfl, z_rd (by omega) (by omega), kl, nI_clamp (by omega), k1, Option.bind_some]
    dsimp only
    rw [show nI cnt - 1 = nI (cnt - 1) from pk_sub (b := 1) (by omega)]
  · obtain ⟨x1, x2, x3, x4, x5, x6, x7, x8, x9, x10, x11, x12, x13, x14, x15, k1, k2, k3⟩ := key (x - 1) (by omega) (by omega)
    refine ⟨x1, x2, x3, x4, x5, x6, x7, x8, x9, x10, x11, x12, x13, x14, x15, nI (x - 1), F', ?_, i1, k2, k3⟩
    rw [if_neg (nI_nle (by omega) (by omega)), kl, kl, show nI x - 1 = nI (x - 1) from pk_sub (b := 1) (by omega), z_rd (by omega) (by omega), kl, nI_clamp (by omega), k1, Option.bind_some]
    dsimp only
    rw [show nI cnt - 1 = nI (cnt - 1) from pk_sub (b := 1) (by omega)]
