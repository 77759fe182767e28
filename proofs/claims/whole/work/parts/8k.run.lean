-- ===== one command, executed =====
theorem r_lettersL {Z L p m : Nat} {F G s : Nat → Int32} (hL : L ≤ 60) (hG : ∀ i, i < L → G i = F i) (hp : p + m ≤ L) : ∀ (N x : Nat) (B : Nat → Int32), x ≤ m → m < N + x → (∀ i, i < x → B i = F (p + i)) → ∃ B', f_X8_insertsLetters_l7 Z (nI p) (nI m) G N (nI x) (nI m) s B = ((f_X8_insertsIf Z (nI m) s B').bind fun (r2, aS_2) => some (r2, nI m, aS_2, B')) ∧ ∀ i, i < m → B' i = F (p + i) := by
  intro N
  induction N with
  | zero => intro x B h1 h2; omega
  | succ N ih =>
    intro x B h1 h2 h3
    show ∃ B', f_X8_insertsLetters_b7 Z (nI p) (nI m) G _ (nI x) (nI m) s B = _ ∧ _
    unfold f_X8_insertsLetters_b7
    rcases Nat.lt_or_ge x m with h | h
    · rw [if_neg (nI_ge h (by omega)), nI_add, z_rd (by omega) (by omega), z_rd (by omega) (by omega), kl, kl, nI_clamp (by omega), nI_clamp (by omega), nI_1]
      refine ih (x + 1) _ (by omega) (by omega) (fun i hi => ?_)
      by_cases y : i = x
      · rw [y, pk_us, hG _ (by omega)]
      · rw [pk_un y, h3 i (by omega)]
    · obtain rfl : x = m := by omega
      exact ⟨B, if_pos (nI_le (Nat.le_refl _) (by omega)), h3⟩
theorem r_insIf_no {Z n k : Nat} {s B : Nat → Int32} (e0 : s 0 = nI n) (hn : n ≤ 256) (hk : k ≤ 256) (h : ¬ n + k ≤ 256) : f_X8_insertsIf Z (nI k) s B = some (1, s) := by
  unfold f_X8_insertsIf
  rw [r_room e0 hn hk, if_neg h, Option.bind_some, if_pos rfl]
theorem r_insIf_yes {Z n k : Nat} {s B s' : Nat → Int32} (e0 : s 0 = nI n) (hn : n ≤ 256) (hk : k ≤ 256) (h : n + k ≤ 256) (hi : f_X8_inserts Z (nI k) s B = some s') : f_X8_insertsIf Z (nI k) s B = some (0, s') := by
  unfold f_X8_insertsIf
  rw [r_room e0 hn hk, if_pos h, Option.bind_some, if_neg c_01, hi, Option.bind_some]
theorem o_exec {Z L k a a' n c g q cp l : Nat} {e sg v lt nm aBm : Int32} {F G rd tF cF mP mS aBy : Nat → Int32} {kCar kCop kGro kShr : Int32} {s : Nat → Int32} (hZ : 300 ≤ Z) (hL : L ≤ 60) (hG : ∀ i, i < L → G i = F i) (hk : k ≤ 30) (h : RN n c g q cp l e tF cF mP mS kCar kCop kGro kShr s) (hc : CmdOK Z L F a a' sg v lt nm) (r0 : rd (3 * k) = sg) (r1 : rd (3 * k + 1) = v) (r2 : rd (3 * k + 2) = nI (a + 1)) :
    ∃ f : Nat, f ≤ 5 ∧ f_X1_faultOn Z sg lt nm (nI c) (nI n) (nI l) mP = some (nI f) ∧
      ((f = 0 ∧ ∃ n' c' g' q' cp' l' tF' cF' mP' mS' kCar' kCop' kGro' kShr' s' aBm' aBy', f_X1_execute Z (nI a') (nI L) F sg lt nm (nI c) (nI q) e (nI n) tF (nI l) cF mP mS (nI cp) (nI g) kCar kCop kGro kShr = some (nI c', nI q', nI n', tF', nI l', cF', mP', mS', nI cp', nI g', kCar', kCop', kGro', kShr') ∧ f_X8_executes Z (nI (3 * k)) aBm s G rd aBy = some (0, aBm', s', aBy') ∧ RN n' c' g' q' cp' l' e tF' cF' mP' mS' kCar' kCop' kGro' kShr' s') ∨
       (0 < f ∧ ∃ aBm' aBy', f_X8_executes Z (nI (3 * k)) aBm s G rd aBy = some (nI f, aBm', s, aBy'))) := by
  have hb1 : n ≤ 256 := h.1.1
  have hb2 : c ≤ n := h.1.2.1
  have hb5 : l ≤ 60 := h.1.2.2.2.2.1
  have e0 : s 0 = nI n := h.2.2.1.1
  have e1 : s 1 = nI c := h.2.2.1.2.1
  have e10 : s 10 = nI l := h.2.2.1.2.2.2.2.2.2.2.2.2.2
  obtain ⟨c1, c2, -, hK, -⟩ := hc
  have cod : ∀ x : Nat, x ≤ 256 → n + x ≤ 256 → (some (if n + x ≤ 256 then (0 : Int32) else 1)) = some (nI 0) := fun x _ hx => by rw [if_pos hx]; rfl
  have cod' : ∀ x : Nat, x ≤ 256 → ¬ n + x ≤ 256 → (some (if n + x ≤ 256 then (0 : Int32) else 1)) = some (nI 1) := fun x _ hx => by rw [if_neg hx]; rfl
  generalize hE : f_X8_executes Z (nI (3 * k)) aBm s G rd aBy = E
  unfold f_X8_executes at hE
  rw [nI_1, nI_2, z_rd (i := 3 * k + 1) (by omega) (by omega), kl, z_rd (i := 3 * k) (by omega) (by omega), z_rd (i := 3 * k + 2) (by omega) (by omega), nI_clamp (n := 3 * k) (by omega), nI_clamp (n := 3 * k + 1) (by omega), nI_clamp (n := 3 * k + 2) (by omega), r0, r1, r2] at hE
  subst hE
  rcases hK with ⟨rfl, m, m1, m2, rfl, rfl, rfl, rfl⟩ | ⟨hs, rfl, m, m1, m2, rfl, rfl⟩ | ⟨rfl, rfl, m, m2, rfl, rfl⟩ | ⟨hs, rfl, m, m2, rfl, rfl⟩ | ⟨hs, rfl, rfl⟩
  · -- letters
    obtain ⟨B', b1, b2⟩ := r_lettersL (Z := Z) (s := s) (m := m) (p := a + 1) hL hG (by omega) Z 0 aBy (by omega) (by omega) (fun i hi => absurd hi (by omega))
    have b1 : f_X8_insertsLetters Z (nI (a + 1)) (nI m) aBm s G aBy = _ := b1
    unfold f_X1_faultOn
    rw [if_pos rfl, if_pos rfl, q_fault hb1 (by omega), Option.bind_some, b1]
    by_cases hr : n + m ≤ 256
    · obtain ⟨n', c', g', q', cp', tF', mP', kCar', kCop', kGro', s', j1, j2, j3⟩ := o_insP (Z := Z) (vG := nI q) (G := F) (aBy := B') (p := a + 1) (o := L) (Lo := 60) (k := m) hZ h (by omega) hr (by omega) hL (by omega) b2
      refine ⟨0, by omega, cod m (by omega) hr, Or.inl ⟨rfl, n', c', g', q', cp', l, tF', cF, mP', mS, kCar', kCop', kGro', kShr, s', nI m, B', ?_, ?_, j3⟩⟩
      · unfold f_X1_execute
        rw [if_pos rfl, show nI (a + 1 + m) - nI m = nI (a + 1) from by rw [pk_sub (by omega), Nat.add_sub_cancel], j1, Option.bind_some]
      · rw [r_insIf_yes e0 hb1 (by omega) hr j2]
        rfl
    · refine ⟨1, by omega, cod' m (by omega) hr, Or.inr ⟨by omega, nI m, B', ?_⟩⟩
      rw [r_insIf_no e0 hb1 (by omega) hr]
      rfl
  · rcases hs with rfl | rfl
    · obtain ⟨r, n', c', g', q', cp', tF', mP', kCar', kCop', kShr', s', j1, j2, j3⟩ := o_behind (Z := Z) (vG := nI q) (k := m) hZ h (by omega)
      refine ⟨0, by omega, rfl, Or.inl ⟨rfl, n', c', g', q', cp', l, tF', cF, mP', mS, kCar', kCop', kGro, kShr', s', aBm, aBy, ?_, ?_, j3⟩⟩
      · unfold f_X1_execute
        rw [if_neg (by decide), if_pos rfl, j1, Option.bind_some]
      · rw [if_neg (by decide), if_pos rfl, j2, Option.bind_some]
    · obtain ⟨r, n', c', g', q', cp', tF', mP', kCar', kCop', kShr', s', j1, j2, j3⟩ := o_before (Z := Z) (vG := nI q) (k := m) hZ h (by omega)
      refine ⟨0, by omega, rfl, Or.inl ⟨rfl, n', c', g', q', cp', l, tF', cF, mP', mS, kCar', kCop', kGro, kShr', s', aBm, aBy, ?_, ?_, j3⟩⟩
      · unfold f_X1_execute
        rw [if_neg (by decide), if_neg (by decide), if_pos rfl, j1, Option.bind_some]
      · rw [if_neg (by decide), if_neg (by decide), if_pos rfl, j2, Option.bind_some]
  · have fo : f_X1_faultOn Z 64 0 (nI m) (nI c) (nI n) (nI l) mP = some (if nI m ≤ nI n then 0 else 5) := by
      unfold f_X1_faultOn f_X6_positionFault f_X0_size
      rw [if_neg (by decide), if_pos rfl, Option.bind_some]
      by_cases w : nI m ≤ nI n
      · rw [if_pos w, if_pos w]
        rfl
      · rw [if_neg w, if_neg w]
        rfl
    rw [if_neg (by decide), if_neg (by decide), if_neg (by decide), if_pos rfl]
    unfold f_X8_movesIf
    by_cases hm : m ≤ n
    · obtain ⟨r, g', q', kCar', s', j1, j2, j3⟩ := o_move (Z := Z) (vC := nI c) (vG := nI q) hZ h hm
      refine ⟨0, by omega, fo.trans (by rw [if_pos (nI_le hm (by omega))]; rfl), Or.inl ⟨rfl, n, m, g', q', cp, l, tF, cF, mP, mS, kCar', kCop, kGro, kShr, s', aBm, aBy, ?_, ?_, j3⟩⟩
      · unfold f_X1_execute
        rw [if_neg (by decide), if_neg (by decide), if_neg (by decide), if_pos rfl, j1, Option.bind_some]
      · rw [r_pos_yes e0 hm (by omega), Option.bind_some, if_neg c_01, j2, Option.bind_some]
        rfl
    · refine ⟨5, by omega, fo.trans (by rw [if_neg (nI_ge (by omega) (by omega))]; rfl), Or.inr ⟨by omega, aBm, aBy, ?_⟩⟩
      rw [r_pos_no e0 (Or.inr (nI_lt (by omega) (by omega))), Option.bind_some, if_pos rfl]
      rfl
  · rcases hs with rfl | rfl
    · refine ⟨0, by omega, rfl, Or.inl ⟨rfl, n, c, g, q, cp, l, tF, cF, upd mP m (nI c), upd mS m 1, kCar, kCop, kGro, kShr, _, aBm, aBy, ?_, ?_, rn_mark (sd := 1) (j := m) h (by omega) hb2⟩⟩
      · unfold f_X1_execute
        rw [if_neg (by decide), if_neg (by decide), if_neg (by decide), if_neg (by decide), if_pos rfl, q_place (by omega), Option.bind_some]
      · rw [if_neg (by decide), if_neg (by decide), if_neg (by decide), if_neg (by decide), if_pos rfl, rd_1, z_12, z_rd (by omega) (by omega), kl, z_16, z_rd (by omega) (by omega), kl, tn_1, e1, nI_clamp (by omega), nI_clamp (by omega)]
    · obtain ⟨f, f1, f2, f3⟩ := o_region (Z := Z) h (show m < 4 by omega)
      have fo : f_X1_faultOn Z 120 0 (nI m) (nI c) (nI n) (nI l) mP = some (nI f) := by
        unfold f_X1_faultOn
        rw [if_neg (by decide), if_neg (by decide), if_neg (by decide), if_neg (by decide), if_pos rfl, f1, Option.bind_some]
      rw [if_neg (by decide), if_neg (by decide), if_neg (by decide), if_neg (by decide), if_neg (by decide), if_neg (by decide), if_pos rfl]
      unfold f_X8_cutsIf
      rw [f2, Option.bind_some]
      rcases f3 with ⟨rfl, p, hp, hm, hd⟩ | rfl | rfl
      · obtain ⟨n', c', g', q', cp', l', tF', cF', mP', kCar', kCop', kShr', s', j1, j2, j3⟩ := o_cut (Z := Z) (cN := nI l) (vG := nI q) hZ h (by omega) hp hm hd
        refine ⟨0, by omega, fo, Or.inl ⟨rfl, n', c', g', q', cp', l', tF', cF', mP', mS, kCar', kCop', kGro, kShr', s', aBm, aBy, ?_, ?_, j3⟩⟩
        · unfold f_X1_execute
          rw [if_neg (by decide), if_neg (by decide), if_neg (by decide), if_neg (by decide), if_neg (by decide), if_neg (by decide), if_neg (by decide), if_pos rfl, j1, Option.bind_some]
        · rw [if_pos nI_0, j2, Option.bind_some]
          rfl
      · refine ⟨2, by omega, fo, Or.inr ⟨by omega, aBm, aBy, ?_⟩⟩
        rw [if_neg n20]
        rfl
      · refine ⟨3, by omega, fo, Or.inr ⟨by omega, aBm, aBy, ?_⟩⟩
        rw [if_neg n30]
        rfl
  · rcases hs with rfl | rfl
    · rw [if_neg (by decide), if_neg (by decide), if_neg (by decide), if_neg (by decide), if_neg (by decide), if_pos rfl]
      have fo : f_X1_faultOn Z 110 0 (-1) (nI c) (nI n) (nI l) mP = some (if n + 1 ≤ 256 then 0 else 1) := by
        unfold f_X1_faultOn
        rw [if_neg (by decide), if_neg (by decide), if_pos rfl, show f_X6_insertFault Z 1 (nI n) = _ from q_fault (k := 1) hb1 (by omega), Option.bind_some]
      obtain ⟨B', b1, b2⟩ := o_fill (Z := Z) (k := 1) (v := 10) (aBm := aBm) (aBy := aBy) hZ (by omega)
      rw [show f_X8_fillsBytes Z 10 1 aBm aBy = _ from b1, Option.bind_some]
      dsimp only
      by_cases hr : n + 1 ≤ 256
      · obtain ⟨n', c', g', q', cp', tF', mP', kCar', kCop', kGro', s', B2, j1, j2, j3, j4⟩ := o_insR (Z := Z) (vG := nI q) (p1 := 10) (aBm := aBm) (aBy := aBy) (k := 1) hZ h (by omega) hr
        obtain rfl : B' = B2 := (Prod.mk.inj (Option.some.inj (b1.symm.trans j2))).2
        refine ⟨0, by omega, fo.trans (cod 1 (by omega) hr), Or.inl ⟨rfl, n', c', g', q', cp', l, tF', cF, mP', mS, kCar', kCop', kGro', kShr, s', nI 1, B', ?_, ?_, j4⟩⟩
        · unfold f_X1_execute
          rw [if_neg (by decide), if_neg (by decide), if_neg (by decide), if_neg (by decide), if_neg (by decide), if_pos rfl, show f_X6_insertRepeated Z 10 1 (nI c) (nI q) (nI n) tF mP mS (nI cp) (nI g) kCar kCop kGro = _ from j1, Option.bind_some]
        · rw [r_insIf_yes e0 hb1 (by omega) hr j3]
          rfl
      · refine ⟨1, by omega, fo.trans (cod' 1 (by omega) hr), Or.inr ⟨by omega, nI 1, B', ?_⟩⟩
        rw [r_insIf_no e0 hb1 (by omega) hr]
        rfl
    · rw [if_neg (by decide), if_neg (by decide), if_neg (by decide), if_neg (by decide), if_neg (by decide), if_neg (by decide), if_neg (by decide)]
      unfold f_X8_pastesIf
      rw [rd_10, tn_10, e10, rd_10]
      have fo : f_X1_faultOn Z 112 0 (-1) (nI c) (nI n) (nI l) mP = f_X6_pasteFault Z (nI n) (nI l) := by
        unfold f_X1_faultOn
        rw [if_neg (by decide), if_neg (by decide), if_neg (by decide), if_pos rfl]
        cases f_X6_pasteFault Z (nI n) (nI l) <;> rfl
      unfold f_X6_pasteFault f_X0_size at fo
      rw [Option.bind_some] at fo
      rcases Nat.eq_zero_or_pos l with hl | hl
      · subst hl
        refine ⟨4, by omega, fo.trans (if_pos nI_0), Or.inr ⟨by omega, aBm, aBy, ?_⟩⟩
        rw [if_pos nI_0]
        rfl
      · have hl0 := n0_ne hl (by omega)
        rw [if_neg hl0, Option.bind_some, q_fault hb1 (by omega), Option.bind_some] at fo
        rw [if_neg hl0, r_room e0 hb1 (by omega), Option.bind_some]
        by_cases hr : n + l ≤ 256
        · obtain ⟨n', c', g', q', cp', tF', mP', kCar', kCop', kGro', s', B', j1, j2, j3⟩ := o_paste (Z := Z) (vG := nI q) (aBm := aBm) (aBy := aBy) hZ h hr
          refine ⟨0, by omega, fo.trans (cod l (by omega) hr), Or.inl ⟨rfl, n', c', g', q', cp', l, tF', cF, mP', mS, kCar', kCop', kGro', kShr, s', nI l, B', ?_, ?_, j3⟩⟩
          · unfold f_X1_execute f_X0_size
            rw [if_neg (by decide), if_neg (by decide), if_neg (by decide), if_neg (by decide), if_neg (by decide), if_neg (by decide), if_pos rfl, Option.bind_some, j1, Option.bind_some]
          · rw [if_pos hr, if_neg c_01, j2, Option.bind_some]
            rfl
        · refine ⟨1, by omega, fo.trans (cod' l (by omega) hr), Or.inr ⟨by omega, aBm, aBy, ?_⟩⟩
          rw [if_neg hr, if_pos rfl]
          rfl
-- ===== the class's loop =====
theorem end_yes {Z L i : Nat} {F : Nat → Int32} (hL : L ≤ 60) (h : i = L ∨ (i < L ∧ F i = 59)) : f_X1_isEndOfCommand Z (nI i) (nI L) F = some 1 := by
  unfold f_X1_isEndOfCommand f_X0_size
  rw [Option.bind_some]
  by_cases w : i = L
  · rw [if_pos (by rw [w])]
  · obtain ⟨h1, h2⟩ := h.resolve_left w
    rw [if_neg (by rw [nI_eq (by omega) (by omega)]; exact w), q_at (by omega) hL h1, Option.bind_some, if_pos h2]
theorem end_no {Z L i : Nat} {F : Nat → Int32} (hL : L ≤ 60) (h1 : i < L) (h2 : F i ≠ 59) : f_X1_isEndOfCommand Z (nI i) (nI L) F = some 0 := by
  unfold f_X1_isEndOfCommand f_X0_size
  rw [Option.bind_some, if_neg (by rw [nI_eq (by omega) (by omega)]; omega), q_at (by omega) hL h1, Option.bind_some, if_neg h2]
theorem ex_step {Z L a N : Nat} {F : Nat → Int32} {e x2 c l n c1 l1 n1 : Int32} {xa xb xc xe xi xj xk xl xm xn : Int32} {xd xf xg xh : Nat → Int32} (hL : L ≤ 60) (ha : a < L) (h : f_X5_accept Z (F a) c l n = some (1, c1, l1, n1)) (hn : f_X1_isEndOfCommand Z (nI (a + 1)) (nI L) F = some 0) : f_X1_executeOn_l11 Z (nI L) F e (N + 1) x2 (nI a) c l n xa xb xc xd xe xf xg xh xi xj xk xl xm xn = f_X1_executeOn_l11 Z (nI L) F e N x2 (nI (a + 1)) c1 l1 n1 xa xb xc xd xe xf xg xh xi xj xk xl xm xn := by
  show f_X1_executeOn_b11 Z (nI L) F e _ x2 (nI a) c l n xa xb xc xd xe xf xg xh xi xj xk xl xm xn = _
  unfold f_X1_executeOn_b11 f_X0_size
  rw [Option.bind_some, if_neg (nI_ge ha (by omega)), q_at (by omega) hL ha, Option.bind_some, h, Option.bind_some]
  dsimp only
  rw [nI_1, hn, Option.bind_some, if_pos rfl, kl]
theorem ex_last {Z L a N : Nat} {F : Nat → Int32} {e x2 c l n c1 l1 n1 : Int32} {xa xb xc xe xi xj xk xl xm xn : Int32} {xd xf xg xh : Nat → Int32} (hL : L ≤ 60) (ha : a < L) (h : f_X5_accept Z (F a) c l n = some (1, c1, l1, n1)) (hn : f_X1_isEndOfCommand Z (nI (a + 1)) (nI L) F = some 1) : f_X1_executeOn_l11 Z (nI L) F e (N + 1) x2 (nI a) c l n xa xb xc xd xe xf xg xh xi xj xk xl xm xn = ((f_X1_faultOn Z c1 l1 n1 xa xc xe xg).bind fun r8 => if r8 = 0 then (f_X1_execute Z (nI (a + 1)) (nI L) F c1 l1 n1 xa xb e xc xd xe xf xg xh xi xj xk xl xm xn).bind fun (ya, yb, yc, yd, ye, yf, yg, yh, yi, yj, yk, yl, ym, yn) => f_X1_executeOn_l11 Z (nI L) F e N (x2 + 1) (nI (a + 1)) c1 l1 n1 ya yb yc yd ye yf yg yh yi yj yk yl ym yn else some ((10 * x2) + r8, c1, l1, n1, xa, xb, xc, xd, xe, xf, xg, xh, xi, xj, xk, xl, xm, xn)) := by
  show f_X1_executeOn_b11 Z (nI L) F e _ x2 (nI a) c l n xa xb xc xd xe xf xg xh xi xj xk xl xm xn = _
  unfold f_X1_executeOn_b11 f_X0_size
  rw [Option.bind_some, if_neg (nI_ge ha (by omega)), q_at (by omega) hL ha, Option.bind_some, h, Option.bind_some]
  dsimp only
  rw [nI_1, hn, Option.bind_some, if_neg c_01]
  rfl
theorem ex_scan {Z L : Nat} {F : Nat → Int32} {e x2 : Int32} {xa xb xc xe xi xj xk xl xm xn : Int32} {xd xf xg xh : Nat → Int32} (hL : L ≤ 60) : ∀ (k a : Nat) (c l n c1 l1 n1 : Int32), Scan Z F (k + 1) a c l n c1 l1 n1 → a + (k + 1) ≤ L → (a + (k + 1) = L ∨ (a + (k + 1) < L ∧ F (a + (k + 1)) = 59)) → ∀ N, f_X1_executeOn_l11 Z (nI L) F e (N + (k + 1)) x2 (nI a) c l n xa xb xc xd xe xf xg xh xi xj xk xl xm xn = ((f_X1_faultOn Z c1 l1 n1 xa xc xe xg).bind fun r8 => if r8 = 0 then (f_X1_execute Z (nI (a + (k + 1))) (nI L) F c1 l1 n1 xa xb e xc xd xe xf xg xh xi xj xk xl xm xn).bind fun (ya, yb, yc, yd, ye, yf, yg, yh, yi, yj, yk, yl, ym, yn) => f_X1_executeOn_l11 Z (nI L) F e N (x2 + 1) (nI (a + (k + 1))) c1 l1 n1 ya yb yc yd ye yf yg yh yi yj yk yl ym yn else some ((10 * x2) + r8, c1, l1, n1, xa, xb, xc, xd, xe, xf, xg, xh, xi, xj, xk, xl, xm, xn))
  | 0, a, c, l, n, c1, l1, n1, ⟨_, c2, l2, n2, h2, h3, h4, h5⟩, hk, hend, N => by
    subst h3 h4 h5
    exact ex_last hL (by omega) h2 (end_yes hL hend)
  | k + 1, a, c, l, n, c1, l1, n1, ⟨_, c2, l2, n2, h2, h3⟩, hk, hend, N => by
    have h59 : F (a + 1) ≠ 59 := h3.1
    have ih := ex_scan (e := e) (x2 := x2) (xa := xa) (xb := xb) (xc := xc) (xd := xd) (xe := xe) (xf := xf) (xg := xg) (xh := xh) (xi := xi) (xj := xj) (xk := xk) (xl := xl) (xm := xm) (xn := xn) hL k (a + 1) c2 l2 n2 c1 l1 n1 h3 (by omega) (by rw [show a + 1 + (k + 1) = a + (k + 1 + 1) by omega]; exact hend) N
    rw [show a + 1 + (k + 1) = a + (k + 1 + 1) by omega] at ih
    rw [← ih]
    exact ex_step (N := N + (k + 1)) hL (by omega) h2 (end_no hL (by omega) h59)
theorem ex_end {Z L N : Nat} {F : Nat → Int32} {e x2 c l n : Int32} {xa xb xc xe xi xj xk xl xm xn : Int32} {xd xf xg xh : Nat → Int32} (hL : L ≤ 60) : f_X1_executeOn_l11 Z (nI L) F e (N + 1) x2 (nI L) c l n xa xb xc xd xe xf xg xh xi xj xk xl xm xn = some (0, c, l, n, xa, xb, xc, xd, xe, xf, xg, xh, xi, xj, xk, xl, xm, xn) := by
  show f_X1_executeOn_b11 Z (nI L) F e _ x2 (nI L) c l n xa xb xc xd xe xf xg xh xi xj xk xl xm xn = _
  unfold f_X1_executeOn_b11 f_X0_size
  rw [Option.bind_some, if_pos (nI_le (Nat.le_refl _) (by omega))]
theorem ch_len {Z L : Nat} {F rd : Nat → Int32} : ∀ (cc k a : Nat), Chain Z L F rd cc k a → a + 2 * cc ≤ L
  | 0, k, a, h => by
    have h : a = L := h
    omega
  | cc + 1, k, a, ⟨_, _, a', lt, nm, h1, _, h2⟩ => by
    have := ch_len cc (k + 1) a' h2
    have := h1.1
    omega
-- ===== both loops =====
theorem o_run {Z L : Nat} {F G rd sv : Nat → Int32} {e th sm ln at' we : Int32} (hZ : 300 ≤ Z) (hL : L ≤ 60) (hG : ∀ i, i < L → G i = F i) : ∀ (cc k a a' n c g q cp l : Nat) (lt nm kCar kCop kGro kShr aBm : Int32) (tF cF mP mS s aBy : Nat → Int32), 2 * k ≤ a → CmdOK Z L F a a' (rd (3 * k)) (rd (3 * k + 1)) lt nm → rd (3 * k + 2) = nI (a + 1) → Chain Z L F rd cc (k + 1) a' → RN n c g q cp l e tF cF mP mS kCar kCop kGro kShr s → ∀ N M : Nat, L < N + a → cc + 3 ≤ M →
    ∃ r rc rl rn n' c' g' q' cp' l' tF' cF' mP' mS' kCar' kCop' kGro' kShr' s' aBm' aBy', f_X1_executeOn_l11 Z (nI L) F e N (nI k) (nI a) (-1) 0 (-1) (nI c) (nI q) (nI n) tF (nI l) cF mP mS (nI cp) (nI g) kCar kCop kGro kShr = some (r, rc, rl, rn, nI c', nI q', nI n', tF', nI l', cF', mP', mS', nI cp', nI g', kCar', kCop', kGro', kShr') ∧ f_X8_run_l26 Z G M (nI k) 0 th sm ln at' we (nI (k + 1 + cc)) aBm s sv rd aBy = some (r, th, sm, 0, at', we, nI (k + 1 + cc), aBm', s', sv, rd, aBy') ∧ RN n' c' g' q' cp' l' e tF' cF' mP' mS' kCar' kCop' kGro' kShr' s' := by
  intro cc
  induction cc with
  | zero =>
    intro k a a' n c g q cp l lt nm kCar kCop kGro kShr aBm tF cF mP mS s aBy hka hc hr2 hch hN N M hNa hM
    obtain rfl : a' = L := hch
    have hlt := hc.1
    obtain ⟨f, f0, f1, f2⟩ := o_exec (Z := Z) (aBm := aBm) (aBy := aBy) hZ hL hG (by omega) hN hc rfl rfl hr2
    have hs := ex_scan (e := e) (x2 := nI k) (xa := nI c) (xb := nI q) (xc := nI n) (xd := tF) (xe := nI l) (xf := cF) (xg := mP) (xh := mS) (xi := nI cp) (xj := nI g) (xk := kCar) (xl := kCop) (xm := kGro) (xn := kShr) hL (a' - a - 1) a _ _ _ _ _ _ (by rw [show a' - a - 1 + 1 = a' - a by omega]; exact hc.2.2.1) (by omega) (Or.inl (by omega)) (N - (a' - a))
    rw [show N - (a' - a) + (a' - a - 1 + 1) = N by omega, show a + (a' - a - 1 + 1) = a' by omega, f1, Option.bind_some] at hs
    obtain ⟨M, rfl⟩ : ∃ m, M = m + 1 + 1 := ⟨M - 2, by omega⟩
    have hr : f_X8_run_l26 Z G (M + 1 + 1) (nI k) 0 th sm ln at' we (nI (k + 1 + 0)) aBm s sv rd aBy = ((f_X8_executes Z (nI (3 * k)) aBm s G rd aBy).bind fun (r5, aBm_5, aS_5, aBy_5) => if r5 = 0 then f_X8_run_l26 Z G (M + 1) (nI (k + 1)) r5 th sm ln at' we (nI (k + 1 + 0)) aBm_5 aS_5 sv rd aBy_5 else f_X8_run_l26 Z G (M + 1) (nI k) r5 th sm ln at' we (nI (k + 1 + 0)) aBm_5 aS_5 sv rd aBy_5) := by
      show f_X8_run_b26 Z G _ (nI k) 0 th sm ln at' we (nI (k + 1 + 0)) aBm s sv rd aBy = _
      unfold f_X8_run_b26
      rw [if_neg (nI_ge (by omega) (by omega)), if_pos rfl, l_3, pk_mul]
      simp only [kl, nI_1, Int32.add_zero]
    rcases f2 with ⟨rfl, n', c', g', q', cp', l', tF', cF', mP', mS', kCar', kCop', kGro', kShr', s', aBm', aBy', j1, j2, j3⟩ | ⟨hf, aBm', aBy', j2⟩
    · rw [if_pos nI_0, j1, Option.bind_some] at hs
      refine ⟨0, rd (3 * k), lt, nm, n', c', g', q', cp', l', tF', cF', mP', mS', kCar', kCop', kGro', kShr', s', aBm', aBy', hs.trans ?_, ?_, j3⟩
      · dsimp only
        rw [show N - (a' - a) = N - (a' - a) - 1 + 1 by omega]
        exact ex_end hL
      · rw [hr, j2, Option.bind_some]
        dsimp only
        rw [if_pos rfl]
        show f_X8_run_b26 Z G _ (nI (k + 1)) 0 th sm ln at' we (nI (k + 1 + 0)) aBm' s' sv rd aBy' = _
        unfold f_X8_run_b26
        rw [if_pos (nI_le (by omega) (by omega)), if_pos rfl]
    · have hf0 : ¬ nI f = 0 := nI_ne0 hf (by omega)
      rw [if_neg hf0] at hs
      refine ⟨_, _, _, _, n, c, g, q, cp, l, tF, cF, mP, mS, kCar, kCop, kGro, kShr, s, aBm', aBy', hs, ?_, hN⟩
      rw [hr, j2, Option.bind_some]
      dsimp only
      rw [if_neg hf0]
      show f_X8_run_b26 Z G _ (nI k) (nI f) th sm ln at' we (nI (k + 1 + 0)) aBm' s sv rd aBy' = _
      unfold f_X8_run_b26
      rw [if_neg (nI_ge (by omega) (by omega)), if_neg hf0, if_neg hf0]
  | succ cc ih =>
    intro k a a' n c g q cp l lt nm kCar kCop kGro kShr aBm tF cF mP mS s aBy hka hc hr2 hch hN N M hNa hM
    obtain ⟨b1, b2, a2, lt2, nm2, b3, b4, b5⟩ := hch
    have hlt := hc.1
    have hcl := ch_len (cc + 1) (k + 1) a' ⟨b1, b2, a2, lt2, nm2, b3, b4, b5⟩
    have h59 : F (a' + 1) ≠ 59 := by
      have q1 := b3.2.2.1
      have q2 := b3.1
      rw [show a2 - (a' + 1) = a2 - (a' + 1) - 1 + 1 by omega] at q1
      exact q1.1
    have hL2 : a' + 1 < L := by
      have := b3.1
      have := b3.2.1
      omega
    obtain ⟨f, f0, f1, f2⟩ := o_exec (Z := Z) (aBm := aBm) (aBy := aBy) hZ hL hG (by omega) hN hc rfl rfl hr2
    have hs := ex_scan (e := e) (x2 := nI k) (xa := nI c) (xb := nI q) (xc := nI n) (xd := tF) (xe := nI l) (xf := cF) (xg := mP) (xh := mS) (xi := nI cp) (xj := nI g) (xk := kCar) (xl := kCop) (xm := kGro) (xn := kShr) hL (a' - a - 1) a _ _ _ _ _ _ (by rw [show a' - a - 1 + 1 = a' - a by omega]; exact hc.2.2.1) (by omega) (Or.inr (by rw [show a + (a' - a - 1 + 1) = a' by omega]; exact ⟨b1, b2⟩)) (N - (a' - a))
    rw [show N - (a' - a) + (a' - a - 1 + 1) = N by omega, show a + (a' - a - 1 + 1) = a' by omega, f1, Option.bind_some] at hs
    obtain ⟨M, rfl⟩ : ∃ m, M = m + 1 + 1 := ⟨M - 2, by omega⟩
    have hr : f_X8_run_l26 Z G (M + 1 + 1) (nI k) 0 th sm ln at' we (nI (k + 1 + (cc + 1))) aBm s sv rd aBy = ((f_X8_executes Z (nI (3 * k)) aBm s G rd aBy).bind fun (r5, aBm_5, aS_5, aBy_5) => if r5 = 0 then f_X8_run_l26 Z G (M + 1) (nI (k + 1)) r5 th sm ln at' we (nI (k + 1 + (cc + 1))) aBm_5 aS_5 sv rd aBy_5 else f_X8_run_l26 Z G (M + 1) (nI k) r5 th sm ln at' we (nI (k + 1 + (cc + 1))) aBm_5 aS_5 sv rd aBy_5) := by
      show f_X8_run_b26 Z G _ (nI k) 0 th sm ln at' we (nI (k + 1 + (cc + 1))) aBm s sv rd aBy = _
      unfold f_X8_run_b26
      rw [if_neg (nI_ge (by omega) (by omega)), if_pos rfl, l_3, pk_mul]
      simp only [kl, nI_1, Int32.add_zero]
    rcases f2 with ⟨rfl, n', c', g', q', cp', l', tF', cF', mP', mS', kCar', kCop', kGro', kShr', s', aBm', aBy', j1, j2, j3⟩ | ⟨hf, aBm', aBy', j2⟩
    · rw [if_pos nI_0, j1, Option.bind_some] at hs
      have hs : f_X1_executeOn_l11 Z (nI L) F e N (nI k) (nI a) (-1) 0 (-1) (nI c) (nI q) (nI n) tF (nI l) cF mP mS (nI cp) (nI g) kCar kCop kGro kShr = f_X1_executeOn_l11 Z (nI L) F e (N - (a' - a)) (nI k + 1) (nI a') (rd (3 * k)) lt nm (nI c') (nI q') (nI n') tF' (nI l') cF' mP' mS' (nI cp') (nI g') kCar' kCop' kGro' kShr' := hs
      rw [show N - (a' - a) = N - (a' - a) - 1 + 1 by omega, nI_1, ex_step hL b1 (by rw [b2]; exact sep_ok hc.2.2.2.2.2.2 hc.2.2.2.2.1) (end_no hL hL2 h59)] at hs
      obtain ⟨r, rc, rl, rn, n2, c2, g2, q2, cp2, l2, tF2, cF2, mP2, mS2, kCar2, kCop2, kGro2, kShr2, s2, aBm2, aBy2, k1, k2, k3⟩ := ih (k + 1) (a' + 1) a2 n' c' g' q' cp' l' lt2 nm2 kCar' kCop' kGro' kShr' aBm' tF' cF' mP' mS' s' aBy' (by omega) b3 b4 b5 j3 (N - (a' - a) - 1) (M + 1) (by omega) (by omega)
      refine ⟨r, rc, rl, rn, n2, c2, g2, q2, cp2, l2, tF2, cF2, mP2, mS2, kCar2, kCop2, kGro2, kShr2, s2, aBm2, aBy2, hs.trans k1, ?_, k3⟩
      rw [hr, j2, Option.bind_some]
      dsimp only
      rw [if_pos rfl, show k + 1 + (cc + 1) = k + 1 + 1 + cc by omega]
      exact k2
    · have hf0 : ¬ nI f = 0 := nI_ne0 hf (by omega)
      rw [if_neg hf0] at hs
      refine ⟨_, _, _, _, n, c, g, q, cp, l, tF, cF, mP, mS, kCar, kCop, kGro, kShr, s, aBm', aBy', hs, ?_, hN⟩
      rw [hr, j2, Option.bind_some]
      dsimp only
      rw [if_neg hf0]
      show f_X8_run_b26 Z G _ (nI k) (nI f) th sm ln at' we (nI (k + 1 + (cc + 1))) aBm' s sv rd aBy' = _
      unfold f_X8_run_b26
      rw [if_neg (nI_ge (by omega) (by omega)), if_neg hf0, if_neg hf0]
theorem pb_run {Z : Nat} (hZ : 2100 ≤ Z) : PB_run Z Rel := by
  intro vCar vGoa vEag tN tF cN cF mP mS kCap kGap kCar kCop kGro kShr bN bF rCmd rLet rNum fCap fGap fCar fCop fGro fShr hX hC hR aTh aSm aLn aAt aWe aRm aBm aHa aS aSv aCm aRd aBy h
  obtain ⟨n, c, g, q, cp, l, ⟨rfl, rfl, rfl, rfl, rfl, rfl⟩, hN⟩ := rs_out h.1
  obtain ⟨L, h1, rfl, rfl, h4⟩ := h.2.2
  rcases o_reads (Z := Z) (L := L) (F := bF) (G := aCm) (rd := aRd) (at' := aAt) (we := aWe) (rmx := aRm) (x := rCmd) (y := rLet) (z := rNum) (by omega) h1 (fun i hi => (h4 i hi).symm) with ⟨rd', cc, a', lt, nm, xc, xl, xn, i1, i2, i3, i4, i5, i6⟩ | ⟨a', rm', rd', xc, xl, xn, i1, i2, i3, i4⟩
  · obtain ⟨hX', hC', hR', aSm', aSv', j1, j2, j3⟩ := o_save hZ hN h.2.1
    have hcl := ch_len cc 1 a' i4
    obtain ⟨r, rc, rl, rn, n', c', g', q', cp', l', tF', cF', mP', mS', kCar', kCop', kGro', kShr', s', aBm', aBy', k1, k2, k3⟩ := o_run (Z := Z) (F := bF) (G := aCm) (rd := rd') (sv := aSv') (th := 0) (sm := aSm') (ln := nI L) (at' := nI L) (we := 1) (by omega) h1 (fun i hi => (h4 i hi).symm) cc 0 0 a' n c g q cp l lt nm kCar kCop kGro kShr aBm tF cF mP mS aS aBy (by omega) i2 i3 i4 hN Z Z (by omega) (by omega)
    have comp : f_X1_isComplete Z (nI L) bF rCmd rLet rNum = some (1, xc, xl, xn) := by
      unfold f_X1_isComplete f_X0_size
      rw [i5, Option.bind_some]
      dsimp only
      rw [Option.bind_some, if_pos rfl, i6, Option.bind_some, if_neg c_01]
    rw [show 0 + 1 + cc = cc + 1 by omega] at k2
    refine Or.inl ⟨r, nI c', nI q', nI n', tF', nI l', cF', mP', mS', nI cp', nI g', kCar', kCop', kGro', kShr', 0, rc, rl, rn, hX', hC', hR', aSm', 0, nI L, 1, nI (cc + 1), aBm', s', aSv', rd', aBy', ?_, ?_, rs_in k3, j3, 0, by omega, rfl, rfl, fun i hi => absurd hi (by omega)⟩
    · unfold f_X7_run f_X7_run_c10 f_X1_executeOn f_X5_restart f_X0_clear
      rw [comp, Option.bind_some]
      dsimp only
      rw [if_neg c_01, j1, Option.bind_some]
      dsimp only
      rw [Option.bind_some]
      dsimp only
      rw [show f_X1_executeOn_l11 Z (nI L) bF vEag Z 0 0 (-1) 0 (-1) (nI c) (nI q) (nI n) tF (nI l) cF mP mS (nI cp) (nI g) kCar kCop kGro kShr = _ from k1, Option.bind_some]
      rfl
    · unfold f_X8_run
      rw [i1, Option.bind_some]
      dsimp only
      rw [if_neg c_01, j2, Option.bind_some]
      exact k2
  · have comp : f_X1_isComplete Z (nI L) bF rCmd rLet rNum = some (0, xc, xl, xn) := by
      unfold f_X1_isComplete f_X0_size
      rw [i3, Option.bind_some]
      dsimp only
      rw [Option.bind_some]
      by_cases w : a' = L
      · rw [if_pos (by rw [w]), i4 w, Option.bind_some, if_pos rfl]
      · rw [if_neg (by rw [nI_eq (by omega) (by omega)]; exact w)]
    refine Or.inr ⟨xc, xl, xn, 0, aSm, nI L, nI a', 0, rm', aBm, aS, aSv, rd', aBy, ?_, ?_, h⟩
    · unfold f_X7_run
      rw [comp, Option.bind_some]
      dsimp only
      rw [if_pos rfl]
    · unfold f_X8_run
      rw [i1, Option.bind_some]
      dsimp only
      rw [if_pos rfl]
      rfl
