-- ===== the class's reader over a text =====
theorem ff_scan {Z L : Nat} {F : Nat → Int32} (hL : L ≤ 60) : ∀ (k a : Nat) (c l n c' l' n' : Int32), Scan Z F k a c l n c' l' n' → a + k ≤ L → ∀ N, f_X1_firstFault_l9 Z (nI L) F (N + k) (nI a) c l n = f_X1_firstFault_l9 Z (nI L) F N (nI (a + k)) c' l' n'
  | 0, a, c, l, n, c', l', n', ⟨h1, h2, h3⟩, _, N => by
    subst h1 h2 h3
    rfl
  | k + 1, a, c, l, n, c', l', n', ⟨_, c1, l1, n1, h2, h3⟩, hk, N => by
    have ih := ff_scan hL k (a + 1) c1 l1 n1 c' l' n' h3 (by omega) N
    rw [show a + (k + 1) = a + 1 + k by omega, ← ih]
    show f_X1_firstFault_b9 Z (nI L) F _ (nI a) c l n = _
    unfold f_X1_firstFault_b9 f_X0_size
    rw [Option.bind_some, if_neg (nI_ge (by omega) (by omega)), q_at (by omega) hL (by omega), Option.bind_some, h2, Option.bind_some]
    dsimp only
    rw [if_neg c_01, kl, nI_1]
    rfl
theorem ff_no {Z L a N : Nat} {F : Nat → Int32} {c l n x y z : Int32} (hL : L ≤ 60) (ha : a < L) (h : f_X5_accept Z (F a) c l n = some (0, x, y, z)) : f_X1_firstFault_l9 Z (nI L) F (N + 1) (nI a) c l n = some (nI a, x, y, z) := by
  show f_X1_firstFault_b9 Z (nI L) F _ (nI a) c l n = _
  unfold f_X1_firstFault_b9 f_X0_size
  rw [Option.bind_some, if_neg (nI_ge ha (by omega)), q_at (by omega) hL ha, Option.bind_some, h, Option.bind_some]
  dsimp only
  rw [if_pos rfl]
theorem ff_yes {Z L a N : Nat} {F : Nat → Int32} {c l n x y z : Int32} (hL : L ≤ 60) (ha : a < L) (h : f_X5_accept Z (F a) c l n = some (1, x, y, z)) : f_X1_firstFault_l9 Z (nI L) F (N + 1) (nI a) c l n = f_X1_firstFault_l9 Z (nI L) F N (nI (a + 1)) x y z := by
  show f_X1_firstFault_b9 Z (nI L) F _ (nI a) c l n = _
  unfold f_X1_firstFault_b9 f_X0_size
  rw [Option.bind_some, if_neg (nI_ge ha (by omega)), q_at (by omega) hL ha, Option.bind_some, h, Option.bind_some]
  dsimp only
  rw [if_neg c_01, kl, nI_1]
theorem ff_end {Z L N : Nat} {F : Nat → Int32} {c l n : Int32} (hL : L ≤ 60) : f_X1_firstFault_l9 Z (nI L) F (N + 1) (nI L) c l n = some (nI L, c, l, n) := by
  show f_X1_firstFault_b9 Z (nI L) F _ (nI L) c l n = _
  unfold f_X1_firstFault_b9 f_X0_size
  rw [Option.bind_some, if_pos (nI_le (Nat.le_refl _) (by omega)), Option.bind_some]
theorem ff_bad {Z L a N : Nat} {F : Nat → Int32} {c l n : Int32} (hL : L ≤ 60) (ha : a ≤ L) (h : Bad Z L F a c l n) : ∃ c' l' n', f_X1_firstFault_l9 Z (nI L) F (N + 1) (nI a) c l n = some (nI a, c', l', n') ∧ (a = L → f_X5_isAtEnd Z c' l' n' = some 0) := by
  rcases Nat.lt_or_ge a L with w | w
  · obtain ⟨x, y, z, e⟩ := h.1 w
    exact ⟨x, y, z, ff_no hL w e, fun q => absurd q (by omega)⟩
  · obtain rfl : a = L := by omega
    exact ⟨c, l, n, ff_end hL, fun _ => h.2 w⟩
-- ===== the commands of a text, one behind the other =====
def Chain (Z L : Nat) (F rd : Nat → Int32) : Nat → Nat → Nat → Prop
  | 0, _, a => a = L
  | c + 1, k, a => a < L ∧ F a = 59 ∧ ∃ a' lt nm, CmdOK Z L F (a + 1) a' (rd (3 * k)) (rd (3 * k + 1)) lt nm ∧ rd (3 * k + 2) = nI (a + 2) ∧ Chain Z L F rd c (k + 1) a'
theorem rl_stop {Z L N : Nat} {G rd : Nat → Int32} {x y : Int32} : f_X8_reads_l14 Z (nI L) G (N + 1) x 0 y rd = some (0, x, 0, y, rd) := by
  show f_X8_reads_b14 Z (nI L) G _ x 0 y rd = _
  unfold f_X8_reads_b14
  rw [if_pos rfl, q_kb0]
theorem o_readsL {Z L : Nat} {F G : Nat → Int32} (hZ : 300 ≤ Z) (hL : L ≤ 60) (hG : ∀ i, i < L → G i = F i) : ∀ (N a rm : Nat) (rd : Nat → Int32) (c l n : Int32), a ≤ L → EndOk Z L F a c l n → 2 * rm ≤ a + 1 → L < N + a →
    (∃ rm' rd' cc, f_X8_reads_l14 Z (nI L) G N (nI a) 1 (nI rm) rd = some (1, nI L, 1, nI rm', rd') ∧ (∀ i, i < 3 * rm → rd' i = rd i) ∧ rm' = rm + cc ∧ Chain Z L F rd' cc rm a ∧ ∀ M, L < M + a → ∃ c' l' n', f_X1_firstFault_l9 Z (nI L) F M (nI a) c l n = some (nI L, c', l', n') ∧ f_X5_isAtEnd Z c' l' n' = some 1) ∨
    (∃ a' rm' rd', f_X8_reads_l14 Z (nI L) G N (nI a) 1 (nI rm) rd = some (0, nI a', 0, nI rm', rd') ∧ a' ≤ L ∧ ∀ M, L < M + a → ∃ c' l' n', f_X1_firstFault_l9 Z (nI L) F M (nI a) c l n = some (nI a', c', l', n') ∧ (a' = L → f_X5_isAtEnd Z c' l' n' = some 0)) := by
  intro N
  induction N with
  | zero => intro a rm rd c l n h1 h2 h3 h4; omega
  | succ N ih =>
    intro a rm rd c l n h1 h2 h3 h4
    rcases Nat.lt_or_ge a L with ha | ha
    · obtain ⟨e1, e2, e3⟩ := h2
      by_cases h59 : F a = 59
      · have hb : f_X8_reads_l14 Z (nI L) G (N + 1) (nI a) 1 (nI rm) rd = (f_X8_readsCommand Z (nI L) (nI (a + 1)) 1 (nI rm) G rd).bind fun (aAt, aWe, aRm, aRd) => f_X8_reads_l14 Z (nI L) G N aAt aWe aRm aRd := by
          show f_X8_reads_b14 Z (nI L) G _ (nI a) 1 (nI rm) rd = _
          unfold f_X8_reads_b14
          rw [if_neg c_01, if_neg (nI_ge ha (by omega)), sign_in hL ha, hG a ha, Option.bind_some, if_pos h59, if_neg c_01, kl, if_neg c_01, nI_1]
        have hff : ∀ M, f_X1_firstFault_l9 Z (nI L) F (M + 1) (nI a) c l n = f_X1_firstFault_l9 Z (nI L) F M (nI (a + 1)) (-1) 0 (-1) := fun M => ff_yes hL ha (by rw [h59]; exact sep_ok e3 e1)
        rcases o_read (Z := Z) (F := F) (G := G) (a := a + 1) (rm := rm) (rd := rd) (we := 1) hZ hL hG (by omega) (by omega) with ⟨a', sg, v, lt, nm, rd1, i1, i2, i3, i4, i5, i6⟩ | ⟨a', k, c1, l1, n1, rd1, i1, i2, i3, i4, i5, i6⟩
        · rw [i1, Option.bind_some] at hb
          have hb : f_X8_reads_l14 Z (nI L) G (N + 1) (nI a) 1 (nI rm) rd = f_X8_reads_l14 Z (nI L) G N (nI a') 1 (nI (rm + 1)) rd1 := hb
          have hk : a + 1 + (a' - (a + 1)) = a' := by have := i2.1; omega
          have hs := ff_scan hL (a' - (a + 1)) (a + 1) _ _ _ _ _ _ i2.2.2.1 (by have := i2.2.1; omega)
          rw [hk] at hs
          have hlt := i2.1
          have step : ∀ M, L < M + a → ∃ M', L < M' + a' ∧ f_X1_firstFault_l9 Z (nI L) F M (nI a) c l n = f_X1_firstFault_l9 Z (nI L) F M' (nI a') sg lt nm := fun M hM => by
            refine ⟨M - 1 - (a' - (a + 1)), by have := i2.2.1; omega, ?_⟩
            have h9 := i2.2.1
            rw [← hs, ← hff, show M - 1 - (a' - (a + 1)) + (a' - (a + 1)) + 1 = M by omega]
          rcases ih a' (rm + 1) rd1 sg lt nm i2.2.1 i2.2.2.2.2 (by omega) (by omega) with ⟨rm', rd', cc, j1, j2, j3, j4, j5⟩ | ⟨a2, rm', rd', j1, j2, j3⟩
          · refine Or.inl ⟨rm', rd', cc + 1, hb.trans j1, fun i hi => by rw [j2 i (by omega), i6 i hi], by omega, ⟨ha, h59, a', lt, nm, ?_, ?_, j4⟩, fun M hM => ?_⟩
            · rw [j2 (3 * rm) (by omega), j2 (3 * rm + 1) (by omega), i3, i4]
              exact i2
            · rw [j2 (3 * rm + 2) (by omega), i5]
            · obtain ⟨M', m1, m2⟩ := step M hM
              rw [m2]
              exact j5 M' m1
          · refine Or.inr ⟨a2, rm', rd', hb.trans j1, j2, fun M hM => ?_⟩
            obtain ⟨M', m1, m2⟩ := step M hM
            rw [m2]
            exact j3 M' m1
        · rw [i1, Option.bind_some] at hb
          have hb : f_X8_reads_l14 Z (nI L) G (N + 1) (nI a) 1 (nI rm) rd = f_X8_reads_l14 Z (nI L) G N (nI a') 0 (nI rm) rd1 := hb
          obtain ⟨N, rfl⟩ : ∃ m, N = m + 1 := ⟨N - 1, by omega⟩
          rw [rl_stop] at hb
          refine Or.inr ⟨a', rm, rd1, hb, i3, fun M hM => ?_⟩
          have hs := ff_scan hL k (a + 1) _ _ _ _ _ _ i4 (by omega)
          have e := hs (M - 1 - k - 1 + 1)
          rw [← hff, show M - 1 - k - 1 + 1 + k + 1 = M by omega] at e
          rw [e, ← i2]
          exact ff_bad hL i3 i5
      · refine Or.inr ⟨a, rm, rd, ?_, h1, fun M hM => ?_⟩
        · obtain ⟨N, rfl⟩ : ∃ m, N = m + 1 := ⟨N - 1, by omega⟩
          show f_X8_reads_b14 Z (nI L) G _ (nI a) 1 (nI rm) rd = _
          unfold f_X8_reads_b14
          rw [if_neg c_01, if_neg (nI_ge ha (by omega)), sign_in hL ha, hG a ha, Option.bind_some, if_neg h59, if_pos rfl, kl, if_pos rfl, Int32.add_zero]
          exact rl_stop
        · obtain ⟨M, rfl⟩ : ∃ m, M = m + 1 := ⟨M - 1, by omega⟩
          obtain ⟨x, y, z, e⟩ := e2 ha h59
          exact ⟨x, y, z, ff_no hL ha e, fun q => absurd q (by omega)⟩
    · obtain rfl : a = L := by omega
      refine Or.inl ⟨rm, rd, 0, ?_, fun _ _ => rfl, rfl, rfl, fun M hM => ?_⟩
      · show f_X8_reads_b14 Z (nI a) G _ (nI a) 1 (nI rm) rd = _
        unfold f_X8_reads_b14
        rw [if_neg c_01, if_pos (nI_le (Nat.le_refl _) (by omega)), q_kb1]
      · obtain ⟨M, rfl⟩ : ∃ m, M = m + 1 := ⟨M - 1, by omega⟩
        exact ⟨c, l, n, ff_end hL, h2.1⟩
theorem o_reads {Z L : Nat} {F G rd : Nat → Int32} {at' we rmx x y z : Int32} (hZ : 300 ≤ Z) (hL : L ≤ 60) (hG : ∀ i, i < L → G i = F i) :
    (∃ rd' cc a' lt nm c l n, f_X8_reads Z (nI L) at' we rmx G rd = some (1, nI L, 1, nI (cc + 1), rd') ∧ CmdOK Z L F 0 a' (rd' 0) (rd' 1) lt nm ∧ rd' 2 = nI 1 ∧ Chain Z L F rd' cc 1 a' ∧ f_X1_firstFault Z (nI L) F x y z = some (nI L, c, l, n) ∧ f_X5_isAtEnd Z c l n = some 1) ∨
    (∃ a' rm' rd' c l n, f_X8_reads Z (nI L) at' we rmx G rd = some (0, nI a', 0, rm', rd') ∧ a' ≤ L ∧ f_X1_firstFault Z (nI L) F x y z = some (nI a', c, l, n) ∧ (a' = L → f_X5_isAtEnd Z c l n = some 0)) := by
  have hf : f_X1_firstFault Z (nI L) F x y z = f_X1_firstFault_l9 Z (nI L) F Z (nI 0) (-1) 0 (-1) := rfl
  have hr : f_X8_reads Z (nI L) at' we rmx G rd = (f_X8_readsCommand Z (nI L) (nI 0) we (nI 0) G rd).bind fun (aAt, aWe, aRm, aRd) => f_X8_reads_l14 Z (nI L) G Z aAt aWe aRm aRd := rfl
  rw [hf, hr]
  rcases o_read (Z := Z) (F := F) (G := G) (a := 0) (rm := 0) (rd := rd) (we := we) hZ hL hG (by omega) (by omega) with ⟨a', sg, v, lt, nm, rd1, i1, i2, i3, i4, i5, i6⟩ | ⟨a', k, c1, l1, n1, rd1, i1, i2, i3, i4, i5, i6⟩
  · rw [i1, Option.bind_some]
    dsimp only
    have h9 := i2.2.1
    have h8 := i2.1
    have hs := ff_scan hL (a' - 0) 0 _ _ _ _ _ _ i2.2.2.1 (by omega) (Z - a')
    rw [show 0 + (a' - 0) = a' by omega, show Z - a' + (a' - 0) = Z by omega] at hs
    rw [hs]
    rcases o_readsL hZ hL hG Z a' 1 rd1 sg lt nm h9 i2.2.2.2.2 (by omega) (by omega) with ⟨rm', rd', cc, j1, j2, j3, j4, j5⟩ | ⟨a2, rm', rd', j1, j2, j3⟩
    · obtain ⟨c, l, n, k1, k2⟩ := j5 (Z - a') (by omega)
      refine Or.inl ⟨rd', cc, a', lt, nm, c, l, n, ?_, ?_, ?_, j4, k1, k2⟩
      · rw [show cc + 1 = rm' by omega]
        exact j1
      · rw [j2 0 (by omega), j2 1 (by omega), show rd1 0 = sg from i3, show rd1 1 = v from i4]
        exact i2
      · rw [j2 2 (by omega)]
        exact i5
    · obtain ⟨c, l, n, k1, k2⟩ := j3 (Z - a') (by omega)
      exact Or.inr ⟨a2, nI rm', rd', c, l, n, j1, j2, k1, k2⟩
  · rw [i1, Option.bind_some]
    dsimp only
    have hs := ff_scan hL k 0 _ _ _ _ _ _ i4 (by omega) (Z - k - 1 + 1)
    rw [show Z - k - 1 + 1 + k = Z by omega, show 0 + k = a' by omega] at hs
    obtain ⟨c, l, n, k1, k2⟩ := ff_bad (N := Z - k - 1) hL i3 i5
    refine Or.inr ⟨a', nI 0, rd1, c, l, n, ?_, i3, hs.trans k1, k2⟩
    have e := rl_stop (Z := Z) (L := L) (N := Z - 1) (G := G) (rd := rd1) (x := nI a') (y := nI 0)
    rwa [show Z - 1 + 1 = Z by omega] at e
theorem pb_firstError {Z : Nat} (hZ : 300 ≤ Z) : PB_firstError Z Rel := by
  intro vCar vGoa vEag tN tF cN cF mP mS kCap kGap kCar kCop kGro kShr bN bF rCmd rLet rNum fCap fGap fCar fCop fGro fShr hX hC hR aTh aSm aLn aAt aWe aRm aBm aHa aS aSv aCm aRd aBy h
  obtain ⟨L, h1, rfl, rfl, h4⟩ := h.2.2
  rcases o_reads (Z := Z) (L := L) (F := bF) (G := aCm) (rd := aRd) (at' := aAt) (we := aWe) (rmx := aRm) (x := rCmd) (y := rLet) (z := rNum) hZ h1 (fun i hi => (h4 i hi).symm) with ⟨rd', cc, a', lt, nm, c, l, n, i1, -, -, -, i5, -⟩ | ⟨a', rm', rd', c, l, n, i1, i2, i3, -⟩
  · refine ⟨nI L, c, l, n, 0, nI L, 1, nI (cc + 1), rd', ?_, ?_, h⟩
    · unfold f_X7_firstError
      rw [i5, Option.bind_some]
    · unfold f_X8_firstError
      rw [i1, Option.bind_some]
      dsimp only
      rw [if_neg c_01]
  · refine ⟨nI a', c, l, n, 0, nI a', 0, rm', rd', ?_, ?_, h⟩
    · unfold f_X7_firstError
      rw [i3, Option.bind_some]
    · unfold f_X8_firstError
      rw [i1, Option.bind_some]
      dsimp only
      rw [if_pos rfl]
