-- ===== a row becomes the state =====
theorem q_mkasg {Z : Nat} {oP oS : Nat → Int32} : ∀ (N m : Nat) (P S : Nat → Int32), m ≤ 4 → 4 < N + m → (∀ i, i < m → P i = oP i ∧ S i = oS i) → ∃ P' S', f_X4_assign_l2 Z oP oS N (nI m) P S = some (P', S') ∧ ∀ i, i < 4 → P' i = oP i ∧ S' i = oS i := by
  intro N
  induction N with
  | zero => intro m P S h1 h2; omega
  | succ N ih =>
    intro m P S h1 h2 h3
    show ∃ P' S', f_X4_assign_b2 Z oP oS _ (nI m) P S = _ ∧ _
    unfold f_X4_assign_b2
    rcases Nat.lt_or_ge m 4 with h | h
    · rw [l_4, if_neg (nI_ge h (by omega)), z_rd h (by omega), z_rd h (by omega), nI_clamp (by omega)]
      unfold f_X4_place
      rw [q_mark_yes h, Option.bind_some, if_neg c_01, z_rd h (by omega), kl, z_rd h (by omega), kl, Option.bind_some]
      dsimp only
      rw [kl, nI_clamp (by omega), nI_1]
      refine ih (m + 1) _ _ (by omega) (by omega) (fun i hi => ?_)
      by_cases y : i = m
      · rw [y, pk_us, pk_us]
        exact ⟨rfl, rfl⟩
      · rw [pk_un y, pk_un y]
        exact h3 i (by omega)
    · obtain rfl : m = 4 := by omega
      exact ⟨P, S, by rw [l_4, if_pos (nI_le (Nat.le_refl _) (by omega))], h3⟩
theorem q_asg {Z n c g q cp l : Nat} {e : Int32} {tF cF mP mS : Nat → Int32} {kCar kCop kGro kShr : Int32} {s : Nat → Int32} {x1 x2 x3 x4 x6 x10 x11 x12 x13 x14 x15 : Int32} {x5 x7 x8 x9 : Nat → Int32} (hZ : 300 ≤ Z) (h : RN n c g q cp l e tF cF mP mS kCar kCop kGro kShr s) : ∃ tF' cF' mP' mS', f_X6_assign Z x1 x2 x3 x4 x5 x6 x7 x8 x9 x10 x11 x12 x13 x14 x15 (nI c) (nI q) e (nI n) tF (nI l) cF mP mS (nI cp) (nI g) kCar kCop kGro kShr = some (nI c, nI q, e, nI n, tF', nI l, cF', mP', mS', nI cp, nI g, kCar, kCop, kGro, kShr) ∧ RN n c g q cp l e tF' cF' mP' mS' kCar kCop kGro kShr s := by
  obtain ⟨⟨hb1, hb2, hb3, hb4, hb5, hb6, hb7⟩, he, hs, hm, ht, hcl⟩ := h
  obtain ⟨P', S', i1, i2⟩ := q_mkasg (Z := Z) (oP := mP) (oS := mS) Z 0 x8 x9 (by omega) (by omega) (fun i hi => absurd hi (by omega))
  refine ⟨va_cpy tF x5 0 0 n, va_cpy cF x7 0 0 l, P', S', ?_, ⟨hb1, hb2, hb3, hb4, hb5, hb6, hb7⟩, he, hs, fun m hm' => ?_, fun i hi => ?_, fun i hi => ?_⟩
  · unfold f_X6_assign f_X0_size f_X3_assign f_X4_assign
    rw [Option.bind_some, show (0 : Int32) = nI 0 from rfl, q_assign (by omega) (by omega) (by omega) hb1 hb1, Option.bind_some]
    dsimp only
    rw [Option.bind_some, q_assign (by omega) (by omega) (by omega) hb5 hb5, Option.bind_some]
    dsimp only
    rw [i1, Option.bind_some]
    dsimp only
    rw [Option.bind_some]
    exact if_pos he
  · rw [(i2 m hm').1, (i2 m hm').2]
    exact hm m hm'
  · rw [ht i hi, pk_cpy_in (by omega) (by omega), Nat.zero_add, Nat.sub_zero]
  · rw [hcl i hi, pk_cpy_in (by omega) (by omega), Nat.zero_add, Nat.sub_zero]
theorem rs_congr {σ : StT} {s s' : Nat → Int32} (h : RS σ s) (hs : ∀ i, i < 344 → s' i = s i) : RS σ s' := by
  obtain ⟨n, c, g, q, cp, l, hb, hv, he, ⟨e0, e1, e2, e3, e4, e5, e6, e7, e8, e9, e10⟩, hm, ht, hc⟩ := h
  refine ⟨n, c, g, q, cp, l, hb, hv, he, ⟨by rw [hs _ (by omega), e0], by rw [hs _ (by omega), e1], by rw [hs _ (by omega), e2], by rw [hs _ (by omega), e3], by rw [hs _ (by omega), e4], by rw [hs _ (by omega), e5], by rw [hs _ (by omega), e6], by rw [hs _ (by omega), e7], by rw [hs _ (by omega), e8], by rw [hs _ (by omega), e9], by rw [hs _ (by omega), e10]⟩, fun m hm' => ?_, fun i hi => ?_, fun i hi => ?_⟩
  · rw [hs _ (by omega), hs _ (by omega)]
    exact hm m hm'
  · rw [hs _ (by omega)]
    exact ht i hi
  · rw [hs _ (by omega)]
    exact hc i hi
-- ===== saving =====
theorem z_min6 {cnt : Nat} (h : cnt ≤ 6) : (if (6 : Int32) < nI cnt + 1 then 6 else nI cnt + 1) = nI (if cnt = 6 then 6 else cnt + 1) := by
  rw [l_6, nI_1]
  by_cases x : cnt = 6
  · subst x
    rfl
  · rw [if_neg (nI_nlt (by omega) (by omega)), if_neg x]
theorem q_save {Z n c g q cp l x cnt : Nat} {e : Int32} {tF cF mP mS : Nat → Int32} {kCar kCop kGro kShr : Int32} {s : Nat → Int32} {hR : Nat → StT} (hZ : 300 ≤ Z) (h : RN n c g q cp l e tF cF mP mS kCar kCop kGro kShr s) (hx : x ≤ 6) (hc : cnt ≤ 6) : ∃ σ', RS σ' s ∧ f_X2_save Z (nI x) (nI cnt) hR (nI c) (nI q) e (nI n) tF (nI l) cF mP mS (nI cp) (nI g) kCar kCop kGro kShr = some (nI ((if x = 6 then 0 else x) + 1), nI (if cnt = 6 then 6 else cnt + 1), va_up hR (if x = 6 then 0 else x) σ') := by
  unfold f_X2_save
  by_cases y : x = 6
  · subst y
    rw [if_pos rfl, if_pos (show nI 6 = (6 : Int32) from rfl), show (0 : Int32) = nI 0 from rfl, z_rd (by omega) (by omega), kl, nI_clamp (by omega)]
    obtain ⟨tF', cF', mP', mS', i1, i2⟩ := q_asg (Z := Z) (x1 := s_vCar (hR 0)) (x2 := s_vGoa (hR 0)) (x3 := s_vEag (hR 0)) (x4 := s_tN (hR 0)) (x5 := s_tF (hR 0)) (x6 := s_cN (hR 0)) (x7 := s_cF (hR 0)) (x8 := s_mP (hR 0)) (x9 := s_mS (hR 0)) (x10 := s_kCap (hR 0)) (x11 := s_kGap (hR 0)) (x12 := s_kCar (hR 0)) (x13 := s_kCop (hR 0)) (x14 := s_kGro (hR 0)) (x15 := s_kShr (hR 0)) hZ h
    refine ⟨_, rs_in i2, ?_⟩
    rw [i1, Option.bind_some]
    dsimp only [kl]
    rw [z_min6 hc, nI_1]
  · rw [if_neg (by rw [l_6, nI_eq (by omega) (by omega)]; omega), if_neg y, z_rd (by omega) (by omega), kl, nI_clamp (by omega)]
    obtain ⟨tF', cF', mP', mS', i1, i2⟩ := q_asg (Z := Z) (x1 := s_vCar (hR x)) (x2 := s_vGoa (hR x)) (x3 := s_vEag (hR x)) (x4 := s_tN (hR x)) (x5 := s_tF (hR x)) (x6 := s_cN (hR x)) (x7 := s_cF (hR x)) (x8 := s_mP (hR x)) (x9 := s_mS (hR x)) (x10 := s_kCap (hR x)) (x11 := s_kGap (hR x)) (x12 := s_kCar (hR x)) (x13 := s_kCop (hR x)) (x14 := s_kGro (hR x)) (x15 := s_kShr (hR x)) hZ h
    refine ⟨_, rs_in i2, ?_⟩
    rw [i1, Option.bind_some]
    dsimp only [kl]
    rw [z_min6 hc, nI_1]
-- ===== undo =====
-- ===== checks =====
theorem q_fault {Z n k : Nat} (hn : n ≤ 256) (hk : k ≤ 256) : f_X6_insertFault Z (nI k) (nI n) = some (if n + k ≤ 256 then 0 else 1) := by
  unfold f_X6_insertFault f_X0_size
  rw [Option.bind_some, nI_add, l_256]
  by_cases h : n + k ≤ 256
  · rw [if_pos (nI_le h (by omega)), if_pos h]
  · rw [if_neg (nI_ge (by omega) (by omega)), if_neg h]
-- ===== type, fill =====
-- ===== erase, backspace =====
-- ===== moveTo, moveBy, moveInLine, up, down, setEager =====
-- ===== moveBy =====
theorem mb_cases (v : Int32) {n : Nat} (hn : n ≤ 256) : ∃ t, t ≤ n ∧ (if 0 < (if v < nI n then v else nI n) then (if v < nI n then v else nI n) else 0) = nI t ∧ ((0 ≤ v ∧ v ≤ nI n ∧ v = nI t) ∨ (0 ≤ v ∧ ¬ v ≤ nI n ∧ t = n) ∨ (¬ 0 ≤ v ∧ t = 0)) := by
  rcases pos_cases v (n := n) (by omega) with (h | h) | ⟨j, hj, rfl⟩
  · have h1 : v < nI n := by
      rw [Int32.lt_iff_toInt_lt] at *
      rw [show (0 : Int32).toInt = 0 from by decide] at h
      rw [nI_toInt (by omega)]
      omega
    have h2 : ¬ (0 : Int32) < v := by
      rw [Int32.lt_iff_toInt_lt] at *
      omega
    refine ⟨0, by omega, ?_, Or.inr (Or.inr ⟨Int32.not_le.mpr h, rfl⟩)⟩
    rw [if_pos h1, if_neg h2]
    rfl
  · have h1 : ¬ v < nI n := by
      rw [Int32.lt_iff_toInt_lt] at *
      omega
    have h3 : (0 : Int32) ≤ v := by
      rw [Int32.lt_iff_toInt_lt, nI_toInt (by omega)] at h
      rw [Int32.le_iff_toInt_le, show (0 : Int32).toInt = 0 from by decide]
      omega
    refine ⟨n, Nat.le_refl _, ?_, Or.inr (Or.inl ⟨h3, Int32.not_le.mpr h, rfl⟩)⟩
    rw [if_neg h1]
    rcases Nat.eq_zero_or_pos n with w | w
    · subst w
      rfl
    · rw [if_pos (show (0 : Int32) < nI n from nI_lt (a := 0) w (by omega))]
  · refine ⟨j, hj, ?_, Or.inl ⟨nI_pos' (by omega), nI_le hj (by omega), rfl⟩⟩
    have e : (if nI j < nI n then nI j else nI n) = nI j := by
      by_cases w : j < n
      · rw [if_pos (nI_lt w (by omega))]
      · rw [if_neg (nI_nlt (by omega) (by omega)), show n = j by omega]
    rw [e]
    rcases Nat.eq_zero_or_pos j with w | w
    · subst w
      rfl
    · rw [if_pos (show (0 : Int32) < nI j from nI_lt (a := 0) w (by omega))]
-- ===== setMark, copy, cut, paste =====
theorem in01 {x : Int32} (h0 : ¬ x = 0) (h1 : ¬ x = 1) : x < 0 ∨ 1 < x := by
  rcases pos_cases x (n := 1) (by omega) with h | ⟨j, hj, rfl⟩
  · exact h
  · rcases (show j = 0 ∨ j = 1 by omega) with rfl | rfl
    · exact absurd rfl h0
    · exact absurd rfl h1
theorem q_place {Z j : Nat} {v sd : Int32} {P S : Nat → Int32} (h : j < 4) : f_X4_place Z (nI j) v sd P S = some (upd P j v, upd S j sd) := by
  unfold f_X4_place
  rw [q_mark_yes h, Option.bind_some, if_neg c_01, z_rd h (by omega), kl, z_rd h (by omega), kl, nI_clamp (by omega)]
theorem n20 : ¬ nI 2 = 0 := by decide
theorem n30 : ¬ nI 3 = 0 := by decide
theorem n0_ne {l : Nat} (h : 0 < l) (h2 : l ≤ 256) : ¬ nI l = 0 := nI_ne0 h (by omega)
-- ===== undo =====
-- ===== digest =====
def hfo (F : Nat → Int32) : Nat → Nat → Int64 → Int64
  | 0, _, h => h
  | k + 1, i, h => hfo F k (i + 1) (31 * h + (F i).toInt64)
theorem hfo_congr {F G : Nat → Int32} : ∀ (k i : Nat) (h : Int64), (∀ j, j < i + k → F j = G j) → hfo F k i h = hfo G k i h
  | 0, _, _, _ => rfl
  | k + 1, i, h, hj => by
    unfold hfo
    rw [hj i (by omega)]
    exact hfo_congr k (i + 1) _ (fun j h2 => hj j (by omega))
theorem q_hashOn {Z n L : Nat} {p0 : Int64} {F : Nat → Int32} (hn : n ≤ L) (hL : L < 2 ^ 30) : ∀ (N k i : Nat) (h : Int64), i + k = n → k < N → f_X6_hashOn_l5 Z p0 L (nI n) F N h (nI i) = some (hfo F k i h) := by
  intro N
  induction N with
  | zero => intro k i h h1 h2; omega
  | succ N ih =>
    intro k i h h1 h2
    show f_X6_hashOn_b5 Z p0 L (nI n) F _ h (nI i) = _
    unfold f_X6_hashOn_b5 f_X0_size
    rw [Option.bind_some]
    rcases k with _ | k
    · rw [if_pos (nI_le (by omega) (by omega))]
      rfl
    · rw [if_neg (nI_ge (by omega) (by omega)), q_at (by omega) hn (by omega), Option.bind_some, kl, kl, nI_1]
      exact ih k (i + 1) _ (by omega) (by omega)
theorem o_hashOn {Z n L : Nat} {h : Int64} {F : Nat → Int32} (hZ : n < Z) (hn : n ≤ L) (hL : L < 2 ^ 30) : f_X6_hashOn Z h L (nI n) F = some (hfo F n 0 h) := q_hashOn hn hL Z n 0 h (by omega) hZ
theorem q_hm {Z : Nat} {vCar vEag tN cN kCap kGap kCar kCop kGro kShr : Int32} {tF cF mP : Nat → Int32} : ∀ (N k i : Nat) (h : Int64), i + k = 4 → k < N → f_X6_hash_l164 Z vCar vEag tN tF cN cF mP kCap kGap kCar kCop kGro kShr N h (nI i) = ((f_X6_hashOn Z (hfo mP k i h) 256 tN tF).bind fun r2 => (f_X0_size Z 60 cN).bind fun r3 => (f_X6_hashOn Z ((31 * r2) + ((r3 : Int32).toInt64)) 60 cN cF).bind fun r4 => some r4) := by
  intro N
  induction N with
  | zero => intro k i h h1 h2; omega
  | succ N ih =>
    intro k i h h1 h2
    show f_X6_hash_b164 Z vCar vEag tN tF cN cF mP kCap kGap kCar kCop kGro kShr _ h (nI i) = _
    unfold f_X6_hash_b164
    rcases k with _ | k
    · rw [l_4, if_pos (nI_le (by omega) (by omega))]
      rfl
    · rw [l_4, if_neg (nI_ge (by omega) (by omega)), q_posOf (by omega), Option.bind_some, kl, kl, nI_1]
      exact ih k (i + 1) _ (by omega) (by omega)
