-- ===== operations, with their numbers =====
theorem o_del {Z n c g q cp l p k : Nat} {e vG : Int32} {tF cF mP mS : Nat → Int32} {kCar kCop kGro kShr : Int32} {s : Nat → Int32} (hZ : 300 ≤ Z) (h : RN n c g q cp l e tF cF mP mS kCar kCop kGro kShr s) (hp : p + k ≤ n) (hcp : c = p ∨ c = p + k) : ∃ g' q' cp' tF' mP' kCar' kCop' kShr' s', (((k = 0 ∧ cp' = cp ∧ kShr' = kShr ∧ kCop' = kCop) ∨ (0 < k ∧ cp' = sC 5 cp (n - k) ∧ kShr' = kShr + nI (sT 5 cp (n - k)) ∧ kCop' = kCop + nI (sT 5 cp (n - k) * (n - k)))) ∧ (∀ i, i < n - k → tF' i = if i < p then tF i else tF (i + k))) ∧ f_X6_deletePart Z (nI p) (nI k) (nI c) vG (nI n) tF mP (nI cp) (nI g) kCar kCop kShr = some (nI p, nI q', nI (n - k), tF', mP', nI cp', nI g', kCar', kCop', kShr') ∧ f_X8_deletes Z (nI p) (nI k) s = some s' ∧ RN (n - k) p g' q' cp' l e tF' cF mP' mS kCar' kCop' kGro kShr' s' := by
  have h0 := h
  obtain ⟨⟨hb1, hb2, hb3, hb4, hb5, hb6, hb7⟩, he, ⟨e0, e1, e2, e3, e4, e5, e6, e7, e8, e9, e10⟩, hm, ht, hcl⟩ := h
  have h8 := cap_in hb7
  rcases Nat.eq_zero_or_pos k with hk | hk
  · subst hk
    obtain rfl : c = p := by omega
    refine ⟨g, c - lb tF c, cp, tF, mP, kCar, kCop, kShr, upd s 8 (nI (c - lb (tx s) c)), ⟨Or.inl ⟨rfl, rfl, rfl, rfl⟩, fun i hi => by split <;> rfl⟩, ?_, ?_, ⟨by omega, by omega, by omega, by omega, hb5, by omega, hb7⟩, he, ⟨?_, e1, e2, e3, e4, e5, e6, e7, ?_, e9, e10⟩, ?_, ?_, ?_⟩
    · unfold f_X6_deletePart
      rw [l_0, if_pos (nI_le (by omega) (by omega)), q_col (by omega) hb1 hb2, Option.bind_some, Nat.sub_zero]
    · unfold f_X8_deletes
      rw [l_0, if_pos rfl, r_goal (by omega) e1 (by omega), Option.bind_some]
    · exact e0
    · rw [pk_us]
      exact congrArg (fun x => nI (c - x)) (lb_congr _ (fun i hi => ht i (by omega)))
    · intro m hm'
      rw [pk_un (by omega), pk_un (by omega)]
      exact hm m hm'
    · intro i hi
      rw [pk_un (by omega)]
      exact ht i hi
    · intro i hi
      rw [pk_un (by omega)]
      exact hcl i hi
  · obtain ⟨s1, a1, a2⟩ := r_down (Z := Z) hp hb1 Z p (upd (upd s 4 (s 4 + nI (dst c g))) 2 (nI c)) (by omega) (by omega) (by omega) e0
    obtain ⟨s2, b1, b2⟩ := r_zero (Z := Z) (p := p) (k := k) (n := n) (by omega) hb1 Z (n - k) s1 (by omega) (by omega) (by rw [a2, if_pos rfl])
    obtain ⟨s3, c1, c2⟩ := r_dmarks (Z := Z) (p := p) (k := k) Z 0 s2 (by omega) (by omega)
    have lo : ∀ i, i < 12 → 0 < i → s3 i = upd (upd s 4 (s 4 + nI (dst c g))) 2 (nI c) i := fun i hi hi2 => by rw [c2, if_neg (by omega), b2, if_neg (by omega), a2, if_neg (by omega), if_neg (by omega)]
    have l0 : s3 0 = nI (n - k) := by rw [c2, if_neg (by omega), b2, if_neg (by omega), a2, if_pos rfl]
    have hi16 : ∀ i, 16 ≤ i → i < 80 → s3 i = s i := fun i h1 h2 => by rw [c2, if_neg (by omega), b2, if_neg (by omega), a2, if_neg (by omega), if_neg (by omega), pk_un (by omega), pk_un (by omega)]
    have hmk : ∀ m, m < 4 → s3 (12 + m) = mD p k (mP m) := fun m hm' => by rw [c2, if_pos (by omega), b2, if_neg (by omega), a2, if_neg (by omega), if_neg (by omega), pk_un (by omega), pk_un (by omega), (hm m hm').1]
    have htx : ∀ i, i < n - k → s3 (80 + i) = va_cpy tF tF (p + k) p (n - (p + k)) i := fun i hi => by
      rw [c2, if_neg (by omega), b2, if_neg (by omega), a2, if_neg (by omega)]
      by_cases x : p ≤ i
      · rw [if_pos (by omega), pk_un (by omega), pk_un (by omega), pk_cpy_in x (by omega), show 80 + i + k = 80 + (p + k + (i - p)) by omega, ht _ (by omega)]
      · rw [if_neg (by omega), pk_un (by omega), pk_un (by omega), pk_cpy_out (by omega), ht _ (by omega)]
    obtain ⟨s4, d1, d2, d3, d4, d5⟩ := r_shrink (Z := Z) (n := n - k) (p1 := nI p) (p2 := nI k) (by omega) 5 Z cp (upd (upd s3 1 (nI p)) 2 (nI p)) (by omega) hb7 (by omega) (by rw [pk_un (by omega), pk_un (by omega), l0]) (by rw [pk_un (by omega), pk_un (by omega), lo 3 (by omega) (by omega), pk_un (by omega), pk_un (by omega), e3])
    obtain ⟨mP', f1, f2⟩ := q_dmarks (Z := Z) (p := p) (k := k) Z 0 mP (by omega) (by omega)
    obtain ⟨g1, g2⟩ := s_ok (n := n - k) 5 cp hb7 (by omega)
    have s4t : ∀ i, i < n - k → s4 (80 + i) = va_cpy tF tF (p + k) p (n - (p + k)) i := fun i hi => by rw [d5 _ (by omega) (by omega) (by omega), pk_un (by omega), pk_un (by omega), htx i hi]
    refine ⟨p, p - lb (va_cpy tF tF (p + k) p (n - (p + k))) p, sC 5 cp (n - k), va_cpy tF tF (p + k) p (n - (p + k)), mP', kCar + nI (dst c g), kCop + nI (sT 5 cp (n - k) * (n - k)), kShr + nI (sT 5 cp (n - k)), upd s4 8 (nI (p - lb (tx s4) p)), ⟨Or.inr ⟨hk, rfl, rfl, rfl⟩, fun i hi => ?_⟩, ?_, ?_, ⟨by omega, by omega, by omega, by omega, hb5, g2, g1⟩, he, ⟨?_, ?_, ?_, ?_, ?_, ?_, ?_, ?_, ?_, ?_, ?_⟩, fun m hm' => ⟨?_, ?_, ?_⟩, fun i hi => ?_, fun i hi => ?_⟩
    · by_cases x : i < p
      · rw [if_pos x, pk_cpy_out (by omega)]
      · rw [if_neg x, pk_cpy_in (by omega) (by omega), show p + k + (i - p) = i + k by omega]
    · unfold f_X6_deletePart
      rw [l_0, if_neg (nI_ge hk (by omega)), q_close (by omega) hp (by omega), Option.bind_some]
      dsimp only
      unfold f_X0_size f_X3_deleteAt f_X4_shiftForDeletion
      rw [Option.bind_some, q_moveGap (by omega) (by omega), Option.bind_some]
      show ((f_X3_deleteAt_l14 Z (nI c) (nI p) (nI (n - k)) Z (nI 0) (nI cp) (nI p) _ kCop kShr).bind _) = _
      rw [q_shrink (by omega) 5 0 Z cp kCop kShr rfl (by omega) hb7, Option.bind_some]
      show ((f_X4_shiftForDeletion_l2 Z (nI p) (nI k) Z (nI 0) mP).bind _) = _
      rw [f1, Option.bind_some, q_col (by omega) (by omega) (by omega), Option.bind_some]
    · unfold f_X8_deletes
      rw [l_0, if_neg (by rw [nI_eq (by omega) (by omega)]; omega), rd_1, tn_1, e1, r_movesGap e2 (by omega) (by omega), Option.bind_some]
      show f_X8_deletes_l22 Z (nI p) (nI k) Z (nI p) _ = _
      rw [a1, b1]
      show f_X8_deletes_l107 Z (nI p) (nI k) Z (nI 0) s2 = _
      rw [c1, d1, r_goal (c := p) (by omega) (by rw [d5 1 (by omega) (by omega) (by omega), pk_un (by omega), pk_us]) (by omega), Option.bind_some]
    · rw [pk_un (by omega), d5 _ (by omega) (by omega) (by omega), pk_un (by omega), pk_un (by omega), l0]
    · rw [pk_un (by omega), d5 _ (by omega) (by omega) (by omega), pk_un (by omega), pk_us]
    · rw [pk_un (by omega), d5 _ (by omega) (by omega) (by omega), pk_us]
    · rw [pk_un (by omega), d2]
    · rw [pk_un (by omega), d5 _ (by omega) (by omega) (by omega), pk_un (by omega), pk_un (by omega), lo _ (by omega) (by omega), pk_un (by omega), pk_us, e4]
    · rw [pk_un (by omega), d3, pk_un (by omega), pk_un (by omega), lo _ (by omega) (by omega), pk_un (by omega), pk_un (by omega), e5]
    · rw [pk_un (by omega), d5 _ (by omega) (by omega) (by omega), pk_un (by omega), pk_un (by omega), lo _ (by omega) (by omega), pk_un (by omega), pk_un (by omega), e6]
    · rw [pk_un (by omega), d4, pk_un (by omega), pk_un (by omega), lo _ (by omega) (by omega), pk_un (by omega), pk_un (by omega), e7]
    · rw [pk_us]
      exact congrArg (fun x => nI (p - x)) (lb_congr _ (fun i hi => s4t i (by omega)))
    · rw [pk_un (by omega), d5 _ (by omega) (by omega) (by omega), pk_un (by omega), pk_un (by omega), lo _ (by omega) (by omega), pk_un (by omega), pk_un (by omega), e9]
    · rw [pk_un (by omega), d5 _ (by omega) (by omega) (by omega), pk_un (by omega), pk_un (by omega), lo _ (by omega) (by omega), pk_un (by omega), pk_un (by omega), e10]
    · rw [pk_un (by omega), d5 _ (by omega) (by omega) (by omega), pk_un (by omega), pk_un (by omega), hmk m hm', f2 m hm', if_pos (by omega)]
    · rw [pk_un (by omega), d5 _ (by omega) (by omega) (by omega), pk_un (by omega), pk_un (by omega), hi16 _ (by omega) (by omega), (hm m hm').2.1]
    · rw [f2 m hm', if_pos (by omega)]
      exact mD_in hb1 hp (hm m hm').2.2
    · rw [pk_un (by omega), s4t i hi]
    · rw [pk_un (by omega), d5 _ (by omega) (by omega) (by omega), pk_un (by omega), pk_un (by omega), hi16 _ (by omega) (by omega), hcl i hi]

theorem o_moves {Z n c g q cp l p : Nat} {e : Int32} {tF cF mP mS : Nat → Int32} {kCar kCop kGro kShr : Int32} {s : Nat → Int32} (h : RN n c g q cp l e tF cF mP mS kCar kCop kGro kShr s) (hp : p ≤ n) : ∃ r g' kCar' s', (∃ a, a ≤ 256 ∧ r = nI a) ∧ f_X6_letGapFollow Z (nI p) e (nI g) kCar = some (r, nI g', kCar') ∧ f_X8_moves Z (nI p) s = some (r, s') ∧ RN n p g' q cp l e tF cF mP mS kCar' kCop kGro kShr s' := by
  have h1 := rn_caret h hp
  have h2 := rn_gap (kCar' := kCar + nI (dst p g)) h1 hp
  obtain ⟨⟨hb1, hb2, hb3, hb4, hb5, hb6, hb7⟩, he, ⟨e0, e1, e2, e3, e4, e5, e6, e7, e8, e9, e10⟩, hm, ht, hcl⟩ := h
  unfold f_X6_letGapFollow f_X8_moves
  rw [rd_1, tn_1, kl, rd_9, tn_9, pk_un (by omega), e9]
  rcases he with rfl | rfl
  · refine ⟨0, g, kCar, _, ⟨0, by omega, rfl⟩, ?_, ?_, h1⟩
    · rw [if_pos rfl]
    · rw [if_neg c_10]
  · refine ⟨nI (dst p g), p, kCar + nI (dst p g), _, ⟨dst p g, by unfold dst; split <;> omega, rfl⟩, ?_, ?_, h2⟩
    · rw [if_neg c_01, q_moveGap (by omega) (by omega), Option.bind_some]
    · rw [if_pos rfl, r_movesGap (g := g) (by rw [pk_un (by omega), e2]) (by omega) (by omega), Option.bind_some, pk_un (by omega), e4]
theorem o_move {Z n c g q cp l p : Nat} {e vC vG : Int32} {tF cF mP mS : Nat → Int32} {kCar kCop kGro kShr : Int32} {s : Nat → Int32} (hZ : 300 ≤ Z) (h : RN n c g q cp l e tF cF mP mS kCar kCop kGro kShr s) (hp : p ≤ n) : ∃ r g' q' kCar' s', (∃ a, a ≤ 256 ∧ r = nI a) ∧ f_X6_moveCaret Z (nI p) vC vG e (nI n) tF (nI g) kCar = some (r, nI p, nI q', nI g', kCar') ∧ f_X8_movesAnew Z (nI p) s = some (r, s') ∧ RN n p g' q' cp l e tF cF mP mS kCar' kCop kGro kShr s' := by
  obtain ⟨r, g', kCar', s', i0, i1, i2, i3⟩ := o_moves (Z := Z) h hp
  have hb1 : n ≤ 256 := h.1.1
  have e1 : s' 1 = nI p := i3.2.2.1.2.1
  have ht := i3.2.2.2.2.1
  have hl : lb (tx s') p = lb tF p := lb_congr _ (fun i hi => ht i (by omega))
  refine ⟨r, g', p - lb tF p, kCar', _, i0, ?_, ?_, rn_goal i3 (by omega)⟩
  · unfold f_X6_moveCaret
    rw [q_col (by omega) hb1 hp, Option.bind_some, i1, Option.bind_some]
  · unfold f_X8_movesAnew
    rw [i2, Option.bind_some]
    dsimp only
    rw [r_goal (by omega) e1 (by omega), Option.bind_some, hl]
theorem o_goal {Z n c g q cp l p : Nat} {e vC : Int32} {tF cF mP mS : Nat → Int32} {kCar kCop kGro kShr : Int32} {s : Nat → Int32} (hZ : 300 ≤ Z) (h : RN n c g q cp l e tF cF mP mS kCar kCop kGro kShr s) (hp : p ≤ n) : ∃ z r g' kCar' s', z ≤ n ∧ f_X6_moveToGoal Z (nI p) vC (nI q) e (nI n) tF (nI g) kCar = some (nI z, nI g', kCar') ∧ f_X8_goalFrom Z (nI (lb tF p)) s = some (nI z) ∧ f_X8_moves Z (nI z) s = some (r, s') ∧ RN n z g' q cp l e tF cF mP mS kCar' kCop kGro kShr s' := by
  have hle := le'_in tF (n - p) p
  have hlb := lb_le tF p
  have hz : mn (le' tF (n - p) p) (lb tF p + q) ≤ n := by
    unfold mn
    split <;> omega
  obtain ⟨r, g', kCar', s', -, i1, i2, i3⟩ := o_moves (Z := Z) h hz
  obtain ⟨⟨hb1, hb2, hb3, hb4, hb5, hb6, hb7⟩, he, ⟨e0, e1, e2, e3, e4, e5, e6, e7, e8, e9, e10⟩, hm, ht, hcl⟩ := h
  refine ⟨_, r, g', kCar', s', hz, ?_, ?_, i2, i3⟩
  · unfold f_X6_moveToGoal
    rw [q_lineBegin (by omega) (by omega) hb1 hp, Option.bind_some, kl, q_lineEnd (by omega) (by omega) hb1 hp, Option.bind_some, kl, nI_add]
    have e : (if nI (le' tF (n - p) p) < nI (lb tF p + q) then nI (le' tF (n - p) p) else nI (lb tF p + q)) = nI (mn (le' tF (n - p) p) (lb tF p + q)) := by
      unfold mn
      by_cases x : le' tF (n - p) p < lb tF p + q
      · rw [if_pos (nI_lt x (by omega)), if_pos (by omega)]
      · rw [if_neg (nI_nlt (by omega) (by omega))]
        by_cases y : le' tF (n - p) p ≤ lb tF p + q
        · rw [if_pos y, show lb tF p + q = le' tF (n - p) p by omega]
        · rw [if_neg y]
    rw [e, i1, Option.bind_some]
  · unfold f_X8_goalFrom
    rw [r_endOf (n := n) (by omega) e0 hb1 (by omega), Option.bind_some, rd_8, rd_8, tn_8, e8, nI_add, show le' (tx s) (n - lb tF p) (lb tF p) = le' tF (n - p) p from by rw [← le_lb p hp]; exact le'_congr _ _ (fun i hi => ht i (by omega))]
    unfold mn
    by_cases x : le' tF (n - p) p ≤ lb tF p + q
    · rw [if_pos (nI_le x (by omega)), if_pos x]
    · rw [if_neg (nI_ge (by omega) (by omega)), if_neg x]
theorem q_region {Z j p c : Nat} {mP : Nat → Int32} (hj : j < 4) (hp : p ≤ 256) (hc : c ≤ 256) (hm : mP j = nI p) (hd : dst p c ≤ 60) : f_X6_regionFault Z (nI j) (nI c) mP = some 0 := by
  have hm1 : ¬ nI p = -1 := by
    rw [z_eqm (by omega)]
    exact id
  unfold f_X6_regionFault
  rw [q_posOf hj, Option.bind_some, hm, if_neg hm1, q_abs (by omega) (by omega), kl, l_60, if_pos (nI_le hd (by omega))]
theorem o_copy {Z n c g q cp l j p : Nat} {e cN : Int32} {tF cF mP mS : Nat → Int32} {kCar kCop kGro kShr : Int32} {s : Nat → Int32} (hZ : 300 ≤ Z) (h : RN n c g q cp l e tF cF mP mS kCar kCop kGro kShr s) (hj : j < 4) (hp : p ≤ n) (hm : mP j = nI p) (hd : dst p c ≤ 60) : ∃ cF' s', (∀ i, i < dst p c → cF' i = tF (mn p c + i)) ∧ f_X6_copyRegion Z (nI j) (nI c) (nI n) tF cN cF mP = some (nI (dst p c), cF') ∧ f_X8_clips Z (nI j) s = some s' ∧ RN n c g q cp (dst p c) e tF cF' mP mS kCar kCop kGro kShr s' := by
  obtain ⟨⟨hb1, hb2, hb3, hb4, hb5, hb6, hb7⟩, he, ⟨e0, e1, e2, e3, e4, e5, e6, e7, e8, e9, e10⟩, hmk, ht, hcl⟩ := h
  have hak : mn p c + dst p c ≤ n := by
    rcases Nat.le_total p c with x | x
    · obtain ⟨a, b⟩ := mn_dst.1 x
      omega
    · obtain ⟨a, b⟩ := mn_dst.2 x
      omega
  obtain ⟨s', i1, i2⟩ := r_clipL (Z := Z) (a := mn p c) (k := dst p c) (p1 := nI j) hd (by omega) Z 0 (upd s 10 (nI (dst p c))) (by omega) (by omega) pk_us
  have o : ∀ i, (i < 20 ∨ 80 ≤ i) → i ≠ 10 → s' i = s i := fun i hi h2 => by rw [i2, if_neg (by omega), pk_un h2]
  refine ⟨va_cpy tF cF (mn p c) 0 (dst p c), s', fun i hi => by rw [pk_cpy_in (by omega) (by omega), Nat.sub_zero], ?_, ?_, ⟨hb1, hb2, hb3, hb4, hd, hb6, hb7⟩, he, ⟨by rw [o _ (by omega) (by omega), e0], by rw [o _ (by omega) (by omega), e1], by rw [o _ (by omega) (by omega), e2], by rw [o _ (by omega) (by omega), e3], by rw [o _ (by omega) (by omega), e4], by rw [o _ (by omega) (by omega), e5], by rw [o _ (by omega) (by omega), e6], by rw [o _ (by omega) (by omega), e7], by rw [o _ (by omega) (by omega), e8], by rw [o _ (by omega) (by omega), e9], by rw [i2, if_neg (by omega), pk_us]⟩, fun m hm' => ?_, fun i hi => ?_, fun i hi => ?_⟩
  · unfold f_X6_copyRegion
    rw [q_posOf hj, Option.bind_some, hm, kl, kl, q_minP (by omega) (by omega), q_maxP (by omega) (by omega), q_assign (by omega) (by omega) hak hb1 hd, Option.bind_some]
  · unfold f_X8_clips f_X8_region
    rw [z_12, z_rd (by omega) (by omega), nI_clamp (by omega), (hmk j hj).1, hm, rd_1, tn_1, e1, rd_1, kl, rd_1, z_rd (by omega) (by omega), r_size (by omega) (by omega), Option.bind_some, Option.bind_some, rd_10, kl, tn_10, z_rd (by omega) (by omega), kl, Option.bind_some, rd_10, kl]
    rcases Nat.lt_or_ge p c with x | x
    · obtain ⟨a, b⟩ := mn_dst.1 (Nat.le_of_lt x)
      rw [if_neg (nI_ge x (by omega))]
      rw [a] at i1
      exact i1
    · obtain ⟨a, b⟩ := mn_dst.2 x
      rw [if_pos (nI_le x (by omega))]
      rw [a] at i1
      exact i1
  · rw [o _ (by omega) (by omega), o _ (by omega) (by omega)]
    exact hmk m hm'
  · rw [o _ (by omega) (by omega)]
    exact ht i hi
  · rw [i2, if_pos (by omega), if_neg (by omega), pk_un (by omega), pk_cpy_in (by omega) (by omega), show 80 + mn p c + (20 + i - 20) = 80 + (mn p c + (i - 0)) by omega, ht _ (by omega)]
theorem o_cut {Z n c g q cp l j p : Nat} {e cN vG : Int32} {tF cF mP mS : Nat → Int32} {kCar kCop kGro kShr : Int32} {s : Nat → Int32} (hZ : 300 ≤ Z) (h : RN n c g q cp l e tF cF mP mS kCar kCop kGro kShr s) (hj : j < 4) (hp : p ≤ n) (hm : mP j = nI p) (hd : dst p c ≤ 60) : ∃ g' q' cp' tF' cF' mP' kCar' kCop' kShr' s', (((dst p c = 0 ∧ cp' = cp ∧ kShr' = kShr ∧ kCop' = kCop) ∨ (0 < dst p c ∧ cp' = sC 5 cp (n - dst p c) ∧ kShr' = kShr + nI (sT 5 cp (n - dst p c)) ∧ kCop' = kCop + nI (sT 5 cp (n - dst p c) * (n - dst p c)))) ∧ (∀ i, i < n - dst p c → tF' i = if i < mn p c then tF i else tF (i + dst p c))) ∧ (∀ i, i < dst p c → cF' i = tF (mn p c + i)) ∧ f_X6_cutRegion Z (nI j) (nI c) vG (nI n) tF cN cF mP (nI cp) (nI g) kCar kCop kShr = some (nI (mn p c), nI q', nI (n - dst p c), tF', nI (dst p c), cF', mP', nI cp', nI g', kCar', kCop', kShr') ∧ f_X8_cuts Z (nI j) s = some s' ∧ RN (n - dst p c) (mn p c) g' q' cp' (dst p c) e tF' cF' mP' mS kCar' kCop' kGro kShr' s' := by
  obtain ⟨cF', s1, a0, a1, a2, a3⟩ := o_copy (Z := Z) (cN := cN) hZ h hj hp hm hd
  have hb2 : c ≤ n := h.1.2.1
  have hb1 : n ≤ 256 := h.1.1
  have hak : mn p c + dst p c ≤ n := by
    rcases Nat.le_total p c with x | x
    · obtain ⟨a, b⟩ := mn_dst.1 x
      omega
    · obtain ⟨a, b⟩ := mn_dst.2 x
      omega
  obtain ⟨g', q', cp', tF', mP', kCar', kCop', kShr', s', b0, b1, b2, b3⟩ := o_del (Z := Z) (vG := vG) (p := mn p c) (k := dst p c) hZ a3 hak (by
    rcases Nat.le_total p c with x | x
    · obtain ⟨a, b⟩ := mn_dst.1 x
      omega
    · obtain ⟨a, b⟩ := mn_dst.2 x
      omega)
  refine ⟨g', q', cp', tF', cF', mP', kCar', kCop', kShr', s', b0, a0, ?_, ?_, b3⟩
  · unfold f_X6_cutRegion f_X0_size
    rw [a1, Option.bind_some]
    dsimp only
    rw [q_posOf hj, Option.bind_some, hm, kl, q_minP (by omega) (by omega), Option.bind_some, b1, Option.bind_some]
  · unfold f_X8_cuts
    have e1 : s1 1 = nI c := a3.2.2.1.2.1
    have e10 : s1 10 = nI (dst p c) := a3.2.2.1.2.2.2.2.2.2.2.2.2.2
    have m1 : s1 (12 + j) = nI p := (a3.2.2.2.1 j hj).1.trans hm
    rw [a2, Option.bind_some, z_12, z_rd (by omega) (by omega), nI_clamp (by omega), m1, rd_1, tn_1, e1, rd_1, rd_10, tn_10, e10, z_rd (by omega) (by omega), rd_10]
    rcases Nat.lt_or_ge p c with x | x
    · obtain ⟨a, b⟩ := mn_dst.1 (Nat.le_of_lt x)
      rw [if_neg (nI_ge x (by omega))]
      rw [a] at b2
      rw [b2, Option.bind_some]
    · obtain ⟨a, b⟩ := mn_dst.2 x
      rw [if_pos (nI_le x (by omega))]
      rw [a] at b2
      rw [b2, Option.bind_some]
theorem o_insR {Z n c g q cp l k : Nat} {e vG p1 aBm : Int32} {tF cF mP mS aBy : Nat → Int32} {kCar kCop kGro kShr : Int32} {s : Nat → Int32} (hZ : 300 ≤ Z) (h : RN n c g q cp l e tF cF mP mS kCar kCop kGro kShr s) (hk : k ≤ 100) (hn : n + k ≤ 256) : ∃ q' tF' mP' kCar' kCop' s' aBy', (∀ i, i < n + k → tF' i = insT c k tF (fun _ => p1) i) ∧ f_X6_insertRepeated Z p1 (nI k) (nI c) vG (nI n) tF mP mS (nI cp) (nI g) kCar kCop kGro = some (nI (c + k), nI q', nI (n + k), tF', mP', nI (gC 5 cp n k), nI (c + k), kCar', kCop', kGro + nI (gT 5 cp n k)) ∧ f_X8_fillsBytes Z p1 (nI k) aBm aBy = some (nI k, aBy') ∧ f_X8_inserts Z (nI k) s aBy' = some s' ∧ RN (n + k) (c + k) (c + k) q' (gC 5 cp n k) l e tF' cF mP' mS kCar' kCop' (kGro + nI (gT 5 cp n k)) kShr s' := by
  have hb := h.1
  obtain ⟨aBy', i1, i2⟩ := o_fill (Z := Z) (k := k) (v := p1) (aBm := aBm) (aBy := aBy) hZ hk
  obtain ⟨s', j1, j2⟩ := r_inserts (Z := Z) (aBy := aBy') hZ h hk hn
  obtain ⟨mP', k1, k2⟩ := q_insR (Z := Z) (p1 := p1) (vG := vG) (tF := tF) (mP := mP) (mS := mS) (kCar := kCar) (kCop := kCop) (kGro := kGro) hZ hb.2.1 hb.2.2.1 hn hb.2.2.2.2.2.2 hb.2.2.2.2.2.1
  exact ⟨_, _, _, _, _, s', aBy', ins_txt hb.2.1, k2, i1, j1, rn_ins (B := fun _ => p1) h hn i2 k1 j2⟩
theorem o_insP {Z n c g q cp l k p o Lo : Nat} {e vG : Int32} {G tF cF mP mS aBy : Nat → Int32} {kCar kCop kGro kShr : Int32} {s : Nat → Int32} (hZ : 300 ≤ Z) (h : RN n c g q cp l e tF cF mP mS kCar kCop kGro kShr s) (hk : k ≤ 100) (hn : n + k ≤ 256) (hp : p + k ≤ o) (ho : o ≤ Lo) (hLo : Lo < 2 ^ 30) (hB : ∀ i, i < k → aBy i = G (p + i)) : ∃ q' tF' mP' kCar' kCop' s', (∀ i, i < n + k → tF' i = insT c k tF (fun j => G (p + j)) i) ∧ f_X6_insertPart Z (nI p) (nI k) Lo (nI c) vG (nI n) tF mP mS (nI cp) (nI g) kCar kCop kGro (nI o) G = some (nI (c + k), nI q', nI (n + k), tF', mP', nI (gC 5 cp n k), nI (c + k), kCar', kCop', kGro + nI (gT 5 cp n k)) ∧ f_X8_inserts Z (nI k) s aBy = some s' ∧ RN (n + k) (c + k) (c + k) q' (gC 5 cp n k) l e tF' cF mP' mS kCar' kCop' (kGro + nI (gT 5 cp n k)) kShr s' := by
  have hb := h.1
  obtain ⟨s', j1, j2⟩ := r_inserts (Z := Z) (aBy := aBy) hZ h hk hn
  obtain ⟨mP', k1, k2⟩ := q_insP (Z := Z) (p := p) (o := o) (Lo := Lo) (G := G) (vG := vG) (tF := tF) (mP := mP) (mS := mS) (kCar := kCar) (kCop := kCop) (kGro := kGro) hZ hb.2.1 hb.2.2.1 hn hb.2.2.2.2.2.2 hb.2.2.2.2.2.1 hp ho hLo
  exact ⟨_, _, _, _, _, s', ins_txt hb.2.1, k2, j1, rn_ins (B := fun j => G (p + j)) h hn hB k1 j2⟩
theorem o_paste {Z n c g q cp l : Nat} {e vG aBm : Int32} {tF cF mP mS aBy : Nat → Int32} {kCar kCop kGro kShr : Int32} {s : Nat → Int32} (hZ : 300 ≤ Z) (h : RN n c g q cp l e tF cF mP mS kCar kCop kGro kShr s) (hn : n + l ≤ 256) : ∃ q' tF' mP' kCar' kCop' s' aBy', (∀ i, i < n + l → tF' i = insT c l tF cF i) ∧ f_X6_insertPart_s Z 0 (nI l) (nI c) vG (nI n) tF (nI l) cF mP mS (nI cp) (nI g) kCar kCop kGro = some (nI (c + l), nI q', nI (n + l), tF', mP', nI (gC 5 cp n l), nI (c + l), kCar', kCop', kGro + nI (gT 5 cp n l)) ∧ f_X8_pastes Z aBm s aBy = some (nI l, s', aBy') ∧ RN (n + l) (c + l) (c + l) q' (gC 5 cp n l) l e tF' cF mP' mS kCar' kCop' (kGro + nI (gT 5 cp n l)) kShr s' := by
  have hl : l ≤ 60 := h.1.2.2.2.2.1
  have e10 : s 10 = nI l := h.2.2.1.2.2.2.2.2.2.2.2.2.2
  have hcl := h.2.2.2.2.2
  obtain ⟨aBy', i1, i2⟩ := r_pasteL (Z := Z) (l := l) (s := s) hl Z 0 aBy (by omega) (by omega) (fun i hi => absurd hi (by omega))
  obtain ⟨q', tF', mP', kCar', kCop', s', j0, j1, j2, j3⟩ := o_insP (Z := Z) (p := 0) (o := l) (Lo := 60) (G := cF) (aBy := aBy') (vG := vG) hZ h (k := l) (by omega) hn (by omega) hl (by omega) (fun i hi => by rw [i2 i hi, hcl i hi, Nat.zero_add])
  refine ⟨q', tF', mP', kCar', kCop', s', aBy', fun i hi => by rw [j0 i hi]; unfold insT; simp only [Nat.zero_add], ?_, ?_, j3⟩
  · rw [ps_eq]
    exact j1
  · unfold f_X8_pastes
    rw [rd_10, tn_10, e10, kl]
    show f_X8_pastes_l13 Z Z (nI 0) (nI l) s aBy = _
    rw [i1, j2, Option.bind_some]

theorem o_behind {Z n c g q cp l k : Nat} {e vG : Int32} {tF cF mP mS : Nat → Int32} {kCar kCop kGro kShr : Int32} {s : Nat → Int32} (hZ : 300 ≤ Z) (h : RN n c g q cp l e tF cF mP mS kCar kCop kGro kShr s) (hk : k ≤ 256) : ∃ m p g' q' cp' tF' mP' kCar' kCop' kShr' s', (p + m ≤ n ∧ ((m = 0 ∧ cp' = cp ∧ kShr' = kShr ∧ kCop' = kCop) ∨ (0 < m ∧ cp' = sC 5 cp (n - m) ∧ kShr' = kShr + nI (sT 5 cp (n - m)) ∧ kCop' = kCop + nI (sT 5 cp (n - m) * (n - m)))) ∧ (∀ i, i < n - m → tF' i = if i < p then tF i else tF (i + m))) ∧ f_X6_deleteBehind Z (nI k) (nI c) vG (nI n) tF mP (nI cp) (nI g) kCar kCop kShr = some (nI m, nI p, nI q', nI (n - m), tF', mP', nI cp', nI g', kCar', kCop', kShr') ∧ f_X8_erases Z (nI k) s = some (nI m, s') ∧ RN (n - m) p g' q' cp' l e tF' cF mP' mS kCar' kCop' kGro kShr' s' := by
  have hb1 : n ≤ 256 := h.1.1
  have hb2 : c ≤ n := h.1.2.1
  have e0 : s 0 = nI n := h.2.2.1.1
  have e1 : s 1 = nI c := h.2.2.1.2.1
  have hm : c + mn (n - c) k ≤ n := by
    unfold mn
    split <;> omega
  obtain ⟨g', q', cp', tF', mP', kCar', kCop', kShr', s', i0, i1, i2, i3⟩ := o_del (Z := Z) (vG := vG) (p := c) (k := mn (n - c) k) hZ h hm (Or.inl rfl)
  refine ⟨mn (n - c) k, c, g', q', cp', tF', mP', kCar', kCop', kShr', s', ⟨hm, i0⟩, ?_, ?_, i3⟩
  · unfold f_X6_deleteBehind f_X0_size
    have e : (if nI (n - c) < nI k then nI (n - c) else nI k) = nI (mn (n - c) k) := by
      unfold mn
      by_cases x : n - c < k
      · rw [if_pos (nI_lt x (by omega)), if_pos (by omega)]
      · rw [if_neg (nI_nlt (by omega) (by omega))]
        by_cases y : n - c ≤ k
        · rw [if_pos y, show k = n - c by omega]
        · rw [if_neg y]
    rw [Option.bind_some, pk_sub hb2, e, kl, i1, Option.bind_some]
  · unfold f_X8_erases
    rw [rd_0, rd_1, tn_0, tn_1, e0, e1, kl, pk_sub hb2, rd_1]
    unfold mn at i2 ⊢
    by_cases y : n - c ≤ k
    · rw [if_pos y] at i2 ⊢
      rw [if_pos (nI_le y (by omega)), i2, Option.bind_some]
    · rw [if_neg y] at i2 ⊢
      rw [if_neg (nI_ge (by omega) (by omega)), rd_1, i2, Option.bind_some]
theorem o_before {Z n c g q cp l k : Nat} {e vG : Int32} {tF cF mP mS : Nat → Int32} {kCar kCop kGro kShr : Int32} {s : Nat → Int32} (hZ : 300 ≤ Z) (h : RN n c g q cp l e tF cF mP mS kCar kCop kGro kShr s) (hk : k ≤ 256) : ∃ m p g' q' cp' tF' mP' kCar' kCop' kShr' s', (p + m ≤ n ∧ ((m = 0 ∧ cp' = cp ∧ kShr' = kShr ∧ kCop' = kCop) ∨ (0 < m ∧ cp' = sC 5 cp (n - m) ∧ kShr' = kShr + nI (sT 5 cp (n - m)) ∧ kCop' = kCop + nI (sT 5 cp (n - m) * (n - m)))) ∧ (∀ i, i < n - m → tF' i = if i < p then tF i else tF (i + m))) ∧ f_X6_deleteBefore Z (nI k) (nI c) vG (nI n) tF mP (nI cp) (nI g) kCar kCop kShr = some (nI m, nI p, nI q', nI (n - m), tF', mP', nI cp', nI g', kCar', kCop', kShr') ∧ f_X8_backs Z (nI k) s = some (nI m, s') ∧ RN (n - m) p g' q' cp' l e tF' cF mP' mS kCar' kCop' kGro kShr' s' := by
  have hb1 : n ≤ 256 := h.1.1
  have hb2 : c ≤ n := h.1.2.1
  have e1 : s 1 = nI c := h.2.2.1.2.1
  have hm : mn c k ≤ c := by
    unfold mn
    split <;> omega
  obtain ⟨g', q', cp', tF', mP', kCar', kCop', kShr', s', i0, i1, i2, i3⟩ := o_del (Z := Z) (vG := vG) (p := c - mn c k) (k := mn c k) hZ h (by omega) (Or.inr (by omega))
  refine ⟨mn c k, c - mn c k, g', q', cp', tF', mP', kCar', kCop', kShr', s', ⟨by omega, i0⟩, ?_, ?_, i3⟩
  · unfold f_X6_deleteBefore
    have e : (if nI c < nI k then nI c else nI k) = nI (mn c k) := by
      unfold mn
      by_cases x : c < k
      · rw [if_pos (nI_lt x (by omega)), if_pos (by omega)]
      · rw [if_neg (nI_nlt (by omega) (by omega))]
        by_cases y : c ≤ k
        · rw [if_pos y, show k = c by omega]
        · rw [if_neg y]
    rw [e, kl, pk_sub hm, i1, Option.bind_some]
  · unfold f_X8_backs
    rw [rd_1, rd_1, tn_1, e1, kl, rd_1, rd_1]
    rw [← pk_sub hm] at i2
    unfold mn at i2 ⊢
    by_cases y : c ≤ k
    · rw [if_pos y] at i2 ⊢
      rw [if_pos (nI_le y (by omega)), i2, Option.bind_some]
    · rw [if_neg y] at i2 ⊢
      rw [if_neg (nI_ge (by omega) (by omega)), i2, Option.bind_some]
