-- ===== literals, capacities, the relation with its numbers =====
theorem l_0 : (0 : Int32) = nI 0 := rfl
theorem l_1 : (1 : Int32) = nI 1 := rfl
theorem l_2 : (2 : Int32) = nI 2 := rfl
theorem l_3 : (3 : Int32) = nI 3 := rfl
theorem l_4 : (4 : Int32) = nI 4 := rfl
theorem l_5 : (5 : Int32) = nI 5 := rfl
theorem l_6 : (6 : Int32) = nI 6 := rfl
theorem l_7 : (7 : Int32) = nI 7 := rfl
theorem l_8 : (8 : Int32) = nI 8 := rfl
theorem l_9 : (9 : Int32) = nI 9 := rfl
theorem l_10 : (10 : Int32) = nI 10 := rfl
theorem l_12 : (12 : Int32) = nI 12 := rfl
theorem l_16 : (16 : Int32) = nI 16 := rfl
theorem l_20 : (20 : Int32) = nI 20 := rfl
theorem l_31 : (31 : Int32) = nI 31 := rfl
theorem l_60 : (60 : Int32) = nI 60 := rfl
theorem l_80 : (80 : Int32) = nI 80 := rfl
theorem l_100 : (100 : Int32) = nI 100 := rfl
theorem l_256 : (256 : Int32) = nI 256 := rfl
theorem l_344 : (344 : Int32) = nI 344 := rfl
theorem l_1720 : (1720 : Int32) = nI 1720 := rfl
theorem upd_e {f : Nat → Int32} {k j : Nat} {x : Int32} (h : j = k) : upd f k x j = x := if_pos h
def CAP (c : Nat) : Prop := c = 8 ∨ c = 16 ∨ c = 32 ∨ c = 64 ∨ c = 128 ∨ c = 256
theorem cap_in {c : Nat} (h : CAP c) : 8 ≤ c ∧ c ≤ 256 := by
  unfold CAP at h
  omega
theorem cap_dbl {c : Nat} (h : CAP c) (h2 : c < 256) : CAP (c * 2) := by
  unfold CAP at *
  omega
theorem cap_half {c : Nat} (h : CAP c) (h2 : 8 < c) : CAP (c / 2) ∧ c / 4 * 4 = c := by
  unfold CAP at *
  omega
def RN (n c g q cp l : Nat) (e : Int32) (tF cF mP mS : Nat → Int32) (kCar kCop kGro kShr : Int32) (s : Nat → Int32) : Prop := (n ≤ 256 ∧ c ≤ n ∧ g ≤ n ∧ q ≤ 256 ∧ l ≤ 60 ∧ n ≤ cp ∧ CAP cp) ∧ (e = 0 ∨ e = 1) ∧ (s 0 = nI n ∧ s 1 = nI c ∧ s 2 = nI g ∧ s 3 = nI cp ∧ s 4 = kCar ∧ s 5 = kCop ∧ s 6 = kGro ∧ s 7 = kShr ∧ s 8 = nI q ∧ s 9 = e ∧ s 10 = nI l) ∧ (∀ m, m < 4 → s (12 + m) = mP m ∧ s (16 + m) = mS m ∧ (mP m = -1 ∨ ∃ p, p ≤ n ∧ mP m = nI p)) ∧ (∀ i, i < n → s (80 + i) = tF i) ∧ (∀ i, i < l → s (20 + i) = cF i)
theorem rs_out {vCar vGoa vEag tN cN kCap kGap kCar kCop kGro kShr : Int32} {tF cF mP mS s : Nat → Int32} (h : RS (vCar, vGoa, vEag, tN, tF, cN, cF, mP, mS, kCap, kGap, kCar, kCop, kGro, kShr) s) : ∃ n c g q cp l : Nat, (tN = nI n ∧ vCar = nI c ∧ kGap = nI g ∧ vGoa = nI q ∧ kCap = nI cp ∧ cN = nI l) ∧ RN n c g q cp l vEag tF cF mP mS kCar kCop kGro kShr s := by
  obtain ⟨n, c, g, q, cp, l, hb, hv, he, hs, hm, ht, hc⟩ := h
  exact ⟨n, c, g, q, cp, l, hv, hb, he, hs, hm, ht, hc⟩
theorem rs_in {n c g q cp l : Nat} {e : Int32} {tF cF mP mS : Nat → Int32} {kCar kCop kGro kShr : Int32} {s : Nat → Int32} (h : RN n c g q cp l e tF cF mP mS kCar kCop kGro kShr s) : RS (nI c, nI q, e, nI n, tF, nI l, cF, mP, mS, nI cp, nI g, kCar, kCop, kGro, kShr) s := by
  obtain ⟨hb, he, hs, hm, ht, hc⟩ := h
  exact ⟨n, c, g, q, cp, l, hb, ⟨rfl, rfl, rfl, rfl, rfl, rfl⟩, he, hs, hm, ht, hc⟩
-- ===== the gap moves =====
def dst (p g : Nat) : Nat := if g ≤ p then p - g else g - p
theorem q_moveGap {Z p g : Nat} {k : Int32} (hp : p < 2 ^ 30) (hg : g < 2 ^ 30) : f_X3_moveGap Z (nI p) (nI g) k = some (nI (dst p g), nI p, k + nI (dst p g)) := by
  unfold f_X3_moveGap dst kl
  by_cases h : g ≤ p
  · rw [if_pos h, pk_sub h, if_pos (nI_pos' (by omega))]
  · have h2 : ¬ (0 : Int32) ≤ nI p - nI g := by
      rw [Int32.not_le]
      exact pk_sneg hg (by omega)
    rw [if_neg h, if_neg h2, Int32.zero_sub, Int32.neg_sub, pk_sub (by omega)]
theorem r_size {Z p g : Nat} (hp : p < 2 ^ 30) (hg : g < 2 ^ 30) : f_X8_size Z (nI g - nI p) = some (nI (dst p g)) := by
  unfold f_X8_size dst
  by_cases h : p ≤ g
  · rw [pk_sub h, if_pos (nI_pos' (by omega))]
    by_cases h2 : g ≤ p
    · rw [if_pos h2, show p - g = g - p by omega]
    · rw [if_neg h2]
  · have h2 : ¬ (0 : Int32) ≤ nI g - nI p := by
      rw [Int32.not_le]
      exact pk_sneg hp (by omega)
    rw [if_neg h2, if_pos (by omega), Int32.neg_sub, pk_sub (by omega)]
theorem r_movesGap {Z p g : Nat} {s : Nat → Int32} (h2 : s 2 = nI g) (hp : p < 2 ^ 30) (hg : g < 2 ^ 30) : f_X8_movesGap Z (nI p) s = some (nI (dst p g), upd (upd s 4 (s 4 + nI (dst p g))) 2 (nI p)) := by
  unfold f_X8_movesGap
  simp (disch := omega) only [l_0, l_1, l_2, l_3, l_4, l_5, l_6, l_7, l_8, l_9, l_10, l_12, l_16, l_20, l_80, l_60, nI_add, pk_mul, pk_sub, z_rd, nI_clamp, z_le, z_lt, z_eq, kl, Option.bind_some, h2, r_size hp hg]
theorem q_col {Z n c : Nat} {F : Nat → Int32} (hZ : c < Z) (hn : n ≤ 256) (hc : c ≤ n) : f_X6_caretColumn Z (nI c) (nI n) F = some (nI (c - lb F c)) := by
  unfold f_X6_caretColumn
  rw [q_lineBegin hZ (by omega) hn hc, Option.bind_some, z_sub (lb_le _ _)]
theorem r_goal {Z c : Nat} {s : Nat → Int32} (hZ : c < Z) (h1 : s 1 = nI c) (hc : c ≤ 256) : f_X8_setsGoal Z s = some (upd s 8 (nI (c - lb (tx s) c))) := by
  unfold f_X8_setsGoal
  simp (disch := omega) only [l_0, l_1, l_2, l_3, l_4, l_5, l_6, l_7, l_8, l_9, l_10, l_12, l_16, l_20, l_80, l_60, nI_add, pk_mul, pk_sub, z_rd, nI_clamp, z_le, z_lt, z_eq, kl, Option.bind_some, h1, r_column hZ hc]
-- ===== Bytes: put, open, close, assign =====
theorem q_put {Z i n L : Nat} {v : Int32} {F : Nat → Int32} (hL : L < 2 ^ 31) (hn : n ≤ L) (h : i < n) : f_X0_put Z (nI i) v L (nI n) F = some (upd F i v) := by
  unfold f_X0_put
  rw [if_neg (nI_pos (by omega)), if_neg (nI_ge h (by omega)), z_rd (by omega) hL, kl, nI_clamp (by omega)]
theorem z_kc {α : Type} {a b m n0 n1 : Nat} {k : Option α} (h1 : a + m ≤ n0) (h2 : b + m ≤ n1) (h3 : n0 < 2 ^ 31) (h4 : n1 < 2 ^ 31) : kc (nI a) (nI b) (nI m) n0 n1 k = k := by
  unfold kc
  rw [nI_clamp (by omega), nI_clamp (by omega), nI_clamp (by omega)]
  exact if_pos ⟨nI_pos (by omega), nI_pos (by omega), nI_pos (by omega), h1, h2⟩
theorem q_open {Z c k n L : Nat} {F : Nat → Int32} (hL : L < 2 ^ 30) (hc : c ≤ n) (hn : n + k ≤ L) : f_X0_open Z (nI c) (nI k) L (nI n) F = some (nI (n + k), va_cpy F F c (c + k) (n - c)) := by
  unfold f_X0_open
  rw [if_neg (nI_pos (by omega)), show Int32.ofNat L = nI L from rfl, pk_sub (by omega), if_neg (nI_nlt (by omega) (by omega))]
  unfold f_X0_open_c23
  rw [if_neg c_01, if_neg (nI_pos (by omega)), if_neg (nI_nlt hc (by omega)), nI_add, pk_sub hc, z_kc (by omega) (by omega) (by omega) (by omega), kl, kl, nI_clamp (by omega), nI_clamp (by omega), nI_clamp (by omega), nI_add]
theorem q_close {Z p k n L : Nat} {F : Nat → Int32} (hL : L < 2 ^ 30) (hk : p + k ≤ n) (hn : n ≤ L) : f_X0_close Z (nI p) (nI k) L (nI n) F = some (nI (n - k), va_cpy F F (p + k) p (n - (p + k))) := by
  unfold f_X0_close
  rw [if_neg (nI_pos (by omega)), if_neg (nI_pos (by omega)), pk_sub (by omega), if_neg (nI_nlt (by omega) (by omega)), kl, nI_add, pk_sub (by omega), z_kc (by omega) (by omega) (by omega) (by omega), kl, kl, nI_clamp (by omega), nI_clamp (by omega), nI_clamp (by omega), pk_sub (by omega)]
theorem q_assign {Z p k m L Lo : Nat} {gN : Int32} {F G : Nat → Int32} (hL : L < 2 ^ 30) (hLo : Lo < 2 ^ 30) (hk : p + k ≤ m) (hm : m ≤ Lo) (hk2 : k ≤ L) : f_X0_assign Z (nI p) (nI k) L Lo gN F (nI m) G = some (nI k, va_cpy G F p 0 k) := by
  unfold f_X0_assign
  rw [if_neg (nI_pos (by omega)), if_neg (nI_pos (by omega)), pk_sub (by omega), if_neg (nI_nlt (by omega) (by omega))]
  unfold f_X0_assign_c23
  rw [if_neg c_01, show Int32.ofNat L = nI L from rfl, if_neg (nI_nlt hk2 (by omega)), show (0 : Int32) = nI 0 from rfl, z_kc (by omega) (by omega) (by omega) (by omega), kl, nI_clamp (by omega), nI_clamp (by omega), nI_clamp (by omega)]

-- ===== growing =====
def gC : Nat → Nat → Nat → Nat → Nat
  | 0, cp, _, _ => cp
  | d + 1, cp, n, k => if n + k ≤ cp then cp else gC d (cp * 2) n k
def gT : Nat → Nat → Nat → Nat → Nat
  | 0, _, _, _ => 0
  | d + 1, cp, n, k => if n + k ≤ cp then 0 else gT d (cp * 2) n k + 1
theorem two_d {cp d : Nat} (h : 256 ≤ cp * 2 ^ (d + 1)) : 256 ≤ cp * 2 * 2 ^ d := by
  rwa [Nat.mul_assoc, ← Nat.pow_succ']
theorem g_ok {n k : Nat} (hn : n + k ≤ 256) : ∀ (d cp : Nat), CAP cp → 256 ≤ cp * 2 ^ d → CAP (gC d cp n k) ∧ n + k ≤ gC d cp n k
  | 0, cp, h, h2 => by
    unfold gC
    exact ⟨h, by omega⟩
  | d + 1, cp, h, h2 => by
    unfold gC
    by_cases hc : n + k ≤ cp
    · rw [if_pos hc]
      exact ⟨h, hc⟩
    · rw [if_neg hc]
      exact g_ok hn d (cp * 2) (cap_dbl h (by omega)) (two_d h2)
theorem cop_step {x : Int32} {t n : Nat} : x + nI n + nI (t * n) = x + nI ((t + 1) * n) := by
  rw [Int32.add_assoc, nI_add, Nat.succ_mul, Nat.add_comm]
theorem gro_step {x : Int32} {t : Nat} : x + 1 + nI t = x + nI (t + 1) := by
  rw [Int32.add_assoc, l_1, nI_add, Nat.add_comm]
theorem add_n0 {x : Int32} : x + nI 0 = x := Int32.add_zero x
theorem q_grow {Z n k g : Nat} {p1 kCar : Int32} (hn : n + k ≤ 256) : ∀ (d i N cp : Nat) (cop gro : Int32), i + d = 5 → d < N → CAP cp → n ≤ cp → 256 ≤ cp * 2 ^ d → f_X3_insertAt_l9 Z p1 (nI k) (nI n) N (nI i) (nI cp) (nI g) kCar cop gro = some (nI (gC d cp n k), nI (g + k), kCar, cop + nI (gT d cp n k * n), gro + nI (gT d cp n k)) := by
  intro d
  induction d with
  | zero =>
    intro i N cp cop gro h1 h2 h3 h4 h5
    obtain ⟨N, rfl⟩ : ∃ M, N = M + 1 := ⟨N - 1, by omega⟩
    show f_X3_insertAt_b9 Z p1 (nI k) (nI n) _ (nI i) (nI cp) (nI g) kCar cop gro = _
    unfold f_X3_insertAt_b9 gC gT
    rw [l_5, if_pos (nI_le (by omega) (by omega)), kl, nI_add, Nat.zero_mul, add_n0, add_n0]
  | succ d ih =>
    intro i N cp cop gro h1 h2 h3 h4 h5
    obtain ⟨N, rfl⟩ : ∃ M, N = M + 1 := ⟨N - 1, by omega⟩
    show f_X3_insertAt_b9 Z p1 (nI k) (nI n) _ (nI i) (nI cp) (nI g) kCar cop gro = _
    unfold f_X3_insertAt_b9 gC gT
    have hc8 := cap_in h3
    rw [l_5, if_neg (nI_ge (by omega) (by omega)), pk_sub h4]
    by_cases hc : n + k ≤ cp
    · rw [if_pos (nI_le (by omega) (by omega)), kl, nI_add, if_pos hc, if_pos hc, Nat.zero_mul, add_n0, add_n0]
    · rw [if_neg (nI_ge (by omega) (by omega)), kl, kl, kl, kl, if_neg hc, if_neg hc, ← cop_step, ← gro_step, l_2, pk_mul, nI_1]
      exact ih (i + 1) N (cp * 2) _ _ (by omega) (by omega) (cap_dbl h3 (by omega)) (by omega) (two_d h5)
theorem q_insertAt {Z p g cp n k : Nat} {kCar cop gro : Int32} (hZ : 300 ≤ Z) (hp : p ≤ 256) (hg : g ≤ 256) (hn : n + k ≤ 256) (h3 : CAP cp) (h4 : n ≤ cp) : f_X3_insertAt Z (nI p) (nI k) (nI n) (nI cp) (nI g) kCar cop gro = some (nI (gC 5 cp n k), nI (p + k), kCar + nI (dst p g), cop + nI (gT 5 cp n k * n), gro + nI (gT 5 cp n k)) := by
  unfold f_X3_insertAt
  rw [q_moveGap (by omega) (by omega), Option.bind_some]
  have h8 := cap_in h3
  exact q_grow hn 5 0 Z cp cop gro rfl (by omega) h3 h4 (by omega)
theorem r_grow {Z n k : Nat} {x1 : Int32} {aBy : Nat → Int32} (hn : n + k ≤ 256) : ∀ (d N cp : Nat) (s : Nat → Int32), d < N → CAP cp → n ≤ cp → 256 ≤ cp * 2 ^ d → s 0 = nI n → s 3 = nI cp → ∃ s', f_X8_inserts_l13 Z (nI k) aBy N x1 s = f_X8_inserts_l81 Z (nI k) aBy Z x1 (nI n - 1) s' ∧ s' 3 = nI (gC d cp n k) ∧ s' 5 = s 5 + nI (gT d cp n k * n) ∧ s' 6 = s 6 + nI (gT d cp n k) ∧ ∀ i, i ≠ 3 → i ≠ 5 → i ≠ 6 → s' i = s i := by
  intro d
  induction d with
  | zero =>
    intro N cp s h2 h3 h4 h5 e0 e3
    obtain ⟨N, rfl⟩ : ∃ M, N = M + 1 := ⟨N - 1, by omega⟩
    refine ⟨s, ?_, ?_, ?_, ?_, fun i _ _ _ => rfl⟩
    · show f_X8_inserts_b13 Z (nI k) aBy _ x1 s = _
      unfold f_X8_inserts_b13
      have h8 := cap_in h3
      rw [l_3, l_0, z_rd (by omega) (by omega), z_rd (by omega) (by omega), nI_clamp (by omega), nI_clamp (by omega), e3, e0, pk_sub h4, if_pos (nI_le (by omega) (by omega)), z_rd (by omega) (by omega), kl]
    · unfold gC
      exact e3
    · unfold gT
      rw [Nat.zero_mul, add_n0]
    · unfold gT
      rw [add_n0]
  | succ d ih =>
    intro N cp s h2 h3 h4 h5 e0 e3
    obtain ⟨N, rfl⟩ : ∃ M, N = M + 1 := ⟨N - 1, by omega⟩
    have hc8 := cap_in h3
    show ∃ s', f_X8_inserts_b13 Z (nI k) aBy _ x1 s = _ ∧ _
    unfold f_X8_inserts_b13 gC gT
    rw [l_3, l_0, z_rd (by omega) (by omega), z_rd (by omega) (by omega), nI_clamp (by omega), nI_clamp (by omega), e3, e0, pk_sub h4]
    by_cases hc : n + k ≤ cp
    · refine ⟨s, ?_, ?_, ?_, ?_, fun i _ _ _ => rfl⟩
      · rw [if_pos (nI_le (by omega) (by omega)), z_rd (by omega) (by omega), kl]
      · rw [if_pos hc]
        exact e3
      · rw [if_pos hc, Nat.zero_mul, add_n0]
      · rw [if_pos hc, add_n0]
    · have e : upd (upd (upd s 3 (nI (cp * 2))) 5 (s 5 + nI n)) 6 (s 6 + 1) = upd (upd (upd s 3 (nI (cp * 2))) 5 (s 5 + nI n)) 6 (s 6 + 1) := rfl
      obtain ⟨s', i1, i2, i3, i4, i5⟩ := ih N (cp * 2) (upd (upd (upd s 3 (nI (cp * 2))) 5 (s 5 + nI n)) 6 (s 6 + 1)) (by omega) (cap_dbl h3 (by omega)) (by omega) (two_d h5) e0 rfl
      refine ⟨s', ?_, ?_, ?_, ?_, fun i a b c => ?_⟩
      · rw [if_neg (nI_ge (by omega) (by omega)), ← i1]
        simp (disch := omega) only [l_0, l_1, l_2, l_3, l_4, l_5, l_6, l_7, l_8, l_9, l_10, l_12, l_16, l_20, l_80, l_60, nI_add, pk_mul, pk_sub, z_rd, nI_clamp, z_le, z_lt, z_eq, kl, Option.bind_some, pk_us, pk_un, upd_e, e0, e3]
      · rw [if_neg hc]
        exact i2
      · rw [if_neg hc, i3, ← cop_step]
        rfl
      · rw [if_neg hc, i4, ← gro_step]
        rfl
      · rw [i5 i a b c, pk_un c, pk_un b, pk_un a]
-- ===== the text moves up =====
theorem pred_lt {c : Nat} (hc : c < 2 ^ 30) : nI c - 1 < nI c := by
  rw [Int32.lt_iff_toInt_lt, l_1, pk_sub_toInt hc (by omega), nI_toInt (by omega)]
  omega
theorem m1_sub {x : Int32} : x + (-1) = x - 1 := (Int32.sub_eq_add_neg x 1).symm
theorem r_up {Z c k : Nat} {aBy : Nat → Int32} : ∀ (N m : Nat) (s : Nat → Int32), c ≤ m → m < N + c → m + k ≤ 256 → ∃ s', f_X8_inserts_l81 Z (nI k) aBy N (nI c) (nI m - 1) s = f_X8_inserts_l117 Z (nI k) aBy Z (nI c) 0 s' ∧ ∀ i, s' i = if 80 + c + k ≤ i ∧ i < 80 + m + k then s (i - k) else s i := by
  intro N
  induction N with
  | zero => intro m s h1 h2 h3; omega
  | succ N ih =>
    intro m s h1 h2 h3
    show ∃ s', f_X8_inserts_b81 Z (nI k) aBy _ (nI c) (nI m - 1) s = _ ∧ _
    unfold f_X8_inserts_b81
    rcases Nat.lt_or_ge c m with h | h
    · obtain ⟨m, rfl⟩ : ∃ j, m = j + 1 := ⟨m - 1, by omega⟩
      obtain ⟨s', i1, i2⟩ := ih m (upd s (80 + m + k) (s (80 + m))) (by omega) (by omega) (by omega)
      refine ⟨s', ?_, fun i => ?_⟩
      · rw [nI_pred, if_neg (nI_nlt (by omega) (by omega)), ← i1, m1_sub]
        simp (disch := omega) only [l_0, l_1, l_2, l_3, l_4, l_5, l_6, l_7, l_8, l_9, l_10, l_12, l_16, l_20, l_80, l_60, nI_add, pk_mul, pk_sub, z_rd, nI_clamp, z_le, z_lt, z_eq, kl, Option.bind_some, pk_us, pk_un, upd_e]
      · rw [i2]
        unfold upd
        by_cases a : i = 80 + m + k
        · subst a
          rw [if_neg (by omega), if_pos rfl, if_pos (by omega), show 80 + m + k - k = 80 + m by omega]
        · by_cases b : 80 + c + k ≤ i ∧ i < 80 + m + k
          · rw [if_pos b, if_neg (by omega), if_pos (by omega)]
          · rw [if_neg b, if_neg a, if_neg (by omega)]
    · refine ⟨s, ?_, fun i => ?_⟩
      · obtain rfl : m = c := by omega
        rw [if_pos (pred_lt (by omega))]
      · rw [if_neg (by omega)]
theorem r_put {Z c k n : Nat} {aBy : Nat → Int32} (hk : k ≤ 100) (hc : c ≤ n) (hn : n + k ≤ 256) : ∀ (N i : Nat) (s : Nat → Int32), i ≤ k → k < N + i → ∃ s' rec, f_X8_inserts_l117 Z (nI k) aBy N (nI c) (nI i) s = f_X8_inserts_b117 Z (nI k) aBy rec (nI c) (nI k) s' ∧ ∀ j, s' j = if 80 + c + i ≤ j ∧ j < 80 + c + k then aBy (j - 80 - c) else s j := by
  intro N
  induction N with
  | zero => intro i s h1 h2; omega
  | succ N ih =>
    intro i s h1 h2
    rcases Nat.lt_or_ge i k with h | h
    · obtain ⟨s', rec, i1, i2⟩ := ih (i + 1) (upd s (80 + c + i) (aBy i)) (by omega) (by omega)
      refine ⟨s', rec, ?_, fun j => ?_⟩
      · rw [← i1]
        show f_X8_inserts_b117 Z (nI k) aBy _ (nI c) (nI i) s = _
        unfold f_X8_inserts_b117
        rw [if_neg (nI_ge h (by omega))]
        simp (disch := omega) only [l_0, l_1, l_2, l_3, l_4, l_5, l_6, l_7, l_8, l_9, l_10, l_12, l_16, l_20, l_80, l_60, nI_add, pk_mul, pk_sub, z_rd, nI_clamp, z_le, z_lt, z_eq, kl, Option.bind_some, pk_us, pk_un, upd_e]
      · rw [i2]
        unfold upd
        by_cases a : j = 80 + c + i
        · subst a
          rw [if_neg (by omega), if_pos rfl, if_pos (by omega), show 80 + c + i - 80 - c = i by omega]
        · by_cases b : 80 + c + (i + 1) ≤ j ∧ j < 80 + c + k
          · rw [if_pos b, if_pos (by omega)]
          · rw [if_neg b, if_neg a, if_neg (by omega)]
    · obtain rfl : i = k := by omega
      exact ⟨s, _, rfl, fun j => by rw [if_neg (by omega)]⟩
-- ===== marks =====
def mI (c k : Nat) (v sd : Int32) : Int32 := if nI c < v ∨ (v = nI c ∧ sd = 1) then v + nI k else v
theorem ngt_m1 {c : Nat} (hc : c < 2 ^ 31) : ¬ nI c < -1 := by
  rw [Int32.lt_iff_toInt_lt, nI_toInt hc, show (-1 : Int32).toInt = -1 from by decide]
  omega
theorem mI_m1 {c k : Nat} {sd : Int32} (hc : c < 2 ^ 31) : mI c k (-1) sd = -1 := by
  unfold mI
  rw [if_neg]
  rintro (h | ⟨h, -⟩)
  · exact ngt_m1 hc h
  · exact cast (z_eqm hc) h.symm
theorem c_10 : ¬ (0 : Int32) = 1 := by decide
theorem q_marks {Z c k : Nat} {mS : Nat → Int32} (hc : c < 2 ^ 30) : ∀ (N m : Nat) (F : Nat → Int32), m ≤ 4 → 4 < N + m → ∃ F', f_X4_shiftForInsertion_l2 Z (nI c) (nI k) mS N (nI m) F = some F' ∧ ∀ i, i < 4 → F' i = if m ≤ i then mI c k (F i) (mS i) else F i := by
  intro N
  induction N with
  | zero => intro m F h1 h2; omega
  | succ N ih =>
    intro m F h1 h2
    show ∃ F', f_X4_shiftForInsertion_b2 Z (nI c) (nI k) mS _ (nI m) F = _ ∧ _
    unfold f_X4_shiftForInsertion_b2
    rcases Nat.lt_or_ge m 4 with h | h
    · have go : ∀ G : Nat → Int32, (∀ i, G i = if i = m then mI c k (F m) (mS m) else F i) → ∃ F', f_X4_shiftForInsertion_l2 Z (nI c) (nI k) mS N (nI (m + 1)) G = some F' ∧ ∀ i, i < 4 → F' i = if m ≤ i then mI c k (F i) (mS i) else F i := fun G hG => by
        obtain ⟨F', i1, i2⟩ := ih (m + 1) G (by omega) (by omega)
        refine ⟨F', i1, fun i hi => ?_⟩
        rw [i2 i hi, hG]
        by_cases a : i = m
        · subst a
          rw [if_neg (by omega), if_pos rfl, if_pos (by omega)]
        · rw [if_neg a]
          by_cases b : m + 1 ≤ i
          · rw [if_pos b, if_pos (by omega)]
          · rw [if_neg b, if_neg (by omega)]
      have hu : mI c k (F m) (mS m) = F m + nI k → ∀ i, upd F m (F m + nI k) i = if i = m then mI c k (F m) (mS m) else F i := fun e i => by
        unfold upd
        rw [e]
      have hs : mI c k (F m) (mS m) = F m → ∀ i, F i = if i = m then mI c k (F m) (mS m) else F i := fun e i => by
        rw [e]
        by_cases a : i = m
        · rw [if_pos a, a]
        · rw [if_neg a]
      rw [l_4, if_neg (nI_ge h (by omega))]
      simp (disch := omega) only [z_rd, nI_clamp, kl, nI_1]
      by_cases h1 : F m = nI c
      · by_cases h2 : mS m = 1
        · rw [if_pos h1, if_pos h2, if_neg (show ¬ nI c < F m by rw [h1]; exact nI_nlt (Nat.le_refl _) (by omega)), if_neg c_01]
          exact go _ (hu (if_pos (Or.inr ⟨h1, h2⟩)))
        · rw [if_pos h1, if_neg h2, if_neg (show ¬ nI c < F m by rw [h1]; exact nI_nlt (Nat.le_refl _) (by omega)), if_pos trivial]
          exact go _ (hs (if_neg (by rintro (a | ⟨-, a⟩); exact nI_nlt (Nat.le_refl _) (by omega) (h1 ▸ a); exact h2 a)))
      · rw [if_neg h1]
        by_cases h2 : nI c < F m
        · rw [if_pos h2]
          exact go _ (hu (if_pos (Or.inl h2)))
        · rw [if_neg h2, if_pos trivial]
          exact go _ (hs (if_neg (by rintro (a | ⟨a, -⟩); exact h2 a; exact h1 a)))
    · obtain rfl : m = 4 := by omega
      refine ⟨F, ?_, fun i hi => ?_⟩
      · rw [l_4, if_pos (nI_le (Nat.le_refl _) (by omega))]
      · rw [if_neg (by omega)]
theorem r_marks {Z c k : Nat} (hc : c < 2 ^ 30) : ∀ (N m : Nat) (s : Nat → Int32), m ≤ 4 → 4 < N + m → ∃ s', f_X8_movesMarks_l2 Z (nI c) (nI k) N (nI m) s = some s' ∧ ∀ i, s' i = if 12 + m ≤ i ∧ i < 16 then mI c k (s i) (s (i + 4)) else s i := by
  intro N
  induction N with
  | zero => intro m s h1 h2; omega
  | succ N ih =>
    intro m s h1 h2
    show ∃ s', f_X8_movesMarks_b2 Z (nI c) (nI k) _ (nI m) s = _ ∧ _
    unfold f_X8_movesMarks_b2
    rcases Nat.lt_or_ge m 4 with h | h
    · have go : ∀ v : Int32, v = mI c k (s (12 + m)) (s (16 + m)) → ∃ s', f_X8_movesMarks_l2 Z (nI c) (nI k) N (nI (m + 1)) (upd s (12 + m) v) = some s' ∧ ∀ i, s' i = if 12 + m ≤ i ∧ i < 16 then mI c k (s i) (s (i + 4)) else s i := fun v hv => by
        obtain ⟨s', i1, i2⟩ := ih (m + 1) (upd s (12 + m) v) (by omega) (by omega)
        refine ⟨s', i1, fun i => ?_⟩
        rw [i2 i]
        unfold upd
        by_cases a : i = 12 + m
        · subst a
          rw [if_neg (by omega), if_pos rfl, if_pos (by omega), hv, show 12 + m + 4 = 16 + m by omega]
        · by_cases b : 12 + (m + 1) ≤ i ∧ i < 16
          · rw [if_pos b, if_neg a, if_neg (by omega), if_pos (by omega)]
          · rw [if_neg b, if_neg a, if_neg (by omega)]
      rw [l_4, if_neg (nI_ge h (by omega))]
      simp (disch := omega) only [z_12, z_16, z_rd, nI_clamp, kl, nI_1]
      by_cases h0 : s (12 + m) = -1
      · rw [if_pos h0, if_pos trivial]
        exact go _ (by rw [h0, mI_m1 (by omega)])
      · rw [if_neg h0]
        by_cases h2 : nI c < s (12 + m)
        · rw [if_pos h2, if_neg c_01]
          exact go _ (if_pos (Or.inl h2)).symm
        · rw [if_neg h2]
          by_cases h1 : s (12 + m) = nI c
          · rw [if_pos h1]
            by_cases h3 : s (16 + m) = 1
            · rw [if_pos h3, if_neg c_01]
              exact go _ (if_pos (Or.inr ⟨h1, h3⟩)).symm
            · rw [if_neg h3, if_pos trivial]
              exact go _ (if_neg (by rintro (a | ⟨-, a⟩); exact h2 a; exact h3 a)).symm
          · rw [if_neg h1, if_pos trivial]
            exact go _ (if_neg (by rintro (a | ⟨a, -⟩); exact h2 a; exact h1 a)).symm
    · obtain rfl : m = 4 := by omega
      refine ⟨s, ?_, fun i => ?_⟩
      · rw [l_4, if_pos (nI_le (Nat.le_refl _) (by omega))]
      · rw [if_neg (by omega)]

