-- ===== literals, capacities, the relation with its numbers =====
theorem l_0 : (0 : Int32) = nI 0 := rfl
theorem l_1 : (1 : Int32) = nI 1 := rfl
theorem l_2 : (2 : Int32) = nI 2 := rfl
theorem l_3 : (3 : Int32) = nI 3 := rfl
theorem l_4 : (4 : Int32) = nI 4 := rfl
theorem l_5 : (5 : Int32) = nI 5 := rfl
theorem l_6 : (6 : Int32) = nI 6 := rfl
theorem l_7 : (7 : Int32) = nI 7 := rfl
theorem l_8 : (8 : Int32) = nI 8 := rfl
theorem l_9 : (9 : Int32) = nI 9 := rfl
theorem l_10 : (10 : Int32) = nI 10 := rfl
theorem l_12 : (12 : Int32) = nI 12 := rfl
theorem l_16 : (16 : Int32) = nI 16 := rfl
theorem l_20 : (20 : Int32) = nI 20 := rfl
theorem l_31 : (31 : Int32) = nI 31 := rfl
theorem l_60 : (60 : Int32) = nI 60 := rfl
theorem l_80 : (80 : Int32) = nI 80 := rfl
theorem l_100 : (100 : Int32) = nI 100 := rfl
theorem l_256 : (256 : Int32) = nI 256 := rfl
theorem l_344 : (344 : Int32) = nI 344 := rfl
theorem l_1720 : (1720 : Int32) = nI 1720 := rfl
theorem upd_e {f : Nat → Int32} {k j : Nat} {x : Int32} (h : j = k) : upd f k x j = x := if_pos h
def CAP (c : Nat) : Prop := c = 8 ∨ c = 16 ∨ c = 32 ∨ c = 64 ∨ c = 128 ∨ c = 256
theorem cap_in {c : Nat} (h : CAP c) : 8 ≤ c ∧ c ≤ 256 := by
  unfold CAP at h
  omega
theorem cap_dbl {c : Nat} (h : CAP c) (h2 : c < 256) : CAP (c * 2) := by
  unfold CAP at *
  omega
theorem cap_half {c : Nat} (h : CAP c) (h2 : 8 < c) : CAP (c / 2) ∧ c / 4 * 4 = c := by
  unfold CAP at *
  omega
def RN (n c g q cp l : Nat) (e : Int32) (tF cF mP mS : Nat → Int32) (kCar kCop kGro kShr : Int32) (s : Nat → Int32) : Prop := (n ≤ 256 ∧ c ≤ n ∧ g ≤ n ∧ q ≤ 256 ∧ l ≤ 60 ∧ n ≤ cp ∧ CAP cp) ∧ (e = 0 ∨ e = 1) ∧ (s 0 = nI n ∧ s 1 = nI c ∧ s 2 = nI g ∧ s 3 = nI cp ∧ s 4 = kCar ∧ s 5 = kCop ∧ s 6 = kGro ∧ s 7 = kShr ∧ s 8 = nI q ∧ s 9 = e ∧ s 10 = nI l) ∧ (∀ m, m < 4 → s (12 + m) = mP m ∧ s (16 + m) = mS m ∧ (mP m = -1 ∨ ∃ p, p ≤ n ∧ mP m = nI p)) ∧ (∀ i, i < n → s (80 + i) = tF i) ∧ (∀ i, i < l → s (20 + i) = cF i)
theorem rs_out {vCar vGoa vEag tN cN kCap kGap kCar kCop kGro kShr : Int32} {tF cF mP mS s : Nat → Int32} (h : RS (vCar, vGoa, vEag, tN, tF, cN, cF, mP, mS, kCap, kGap, kCar, kCop, kGro, kShr) s) : ∃ n c g q cp l : Nat, (tN = nI n ∧ vCar = nI c ∧ kGap = nI g ∧ vGoa = nI q ∧ kCap = nI cp ∧ cN = nI l) ∧ RN n c g q cp l vEag tF cF mP mS kCar kCop kGro kShr s := by
  obtain ⟨n, c, g, q, cp, l, hb, hv, he, hs, hm, ht, hc⟩ := h
  exact ⟨n, c, g, q, cp, l, hv, hb, he, hs, hm, ht, hc⟩
theorem rs_in {n c g q cp l : Nat} {e : Int32} {tF cF mP mS : Nat → Int32} {kCar kCop kGro kShr : Int32} {s : Nat → Int32} (h : RN n c g q cp l e tF cF mP mS kCar kCop kGro kShr s) : RS (nI c, nI q, e, nI n, tF, nI l, cF, mP, mS, nI cp, nI g, kCar, kCop, kGro, kShr) s := by
  obtain ⟨hb, he, hs, hm, ht, hc⟩ := h
  exact ⟨n, c, g, q, cp, l, hb, ⟨rfl, rfl, rfl, rfl, rfl, rfl⟩, he, hs, hm, ht, hc⟩
-- ===== the gap moves =====
def dst (p g : Nat) : Nat := if g ≤ p then p - g else g - p
theorem q_moveGap {Z p g : Nat} {k : Int32} (hp : p < 2 ^ 30) (hg : g < 2 ^ 30) : f_X3_moveGap Z (nI p) (nI g) k = some (nI (dst p g), nI p, k + nI (dst p g)) := by
  unfold f_X3_moveGap dst kl
  by_cases h : g ≤ p
  · rw [if_pos h, pk_sub h, if_pos (nI_pos' (by omega))]
  · have h2 : ¬ (0 : Int32) ≤ nI p - nI g := by
      rw [Int32.not_le]
      exact pk_sneg hg (by omega)
    rw [if_neg h, if_neg h2, Int32.zero_sub, Int32.neg_sub, pk_sub (by omega)]
theorem r_size {Z p g : Nat} (hp : p < 2 ^ 30) (hg : g < 2 ^ 30) : f_X8_size Z (nI g - nI p) = some (nI (dst p g)) := by
  unfold f_X8_size dst
  by_cases h : p ≤ g
  · rw [pk_sub h, if_pos (nI_pos' (by omega))]
    by_cases h2 : g ≤ p
    · rw [if_pos h2, show p - g = g - p by omega]
    · rw [if_neg h2]
  · have h2 : ¬ (0 : Int32) ≤ nI g - nI p := by
      rw [Int32.not_le]
      exact pk_sneg hp (by omega)
    rw [if_neg h2, if_pos (by omega), Int32.neg_sub, pk_sub (by omega)]
theorem r_movesGap {Z p g : Nat} {s : Nat → Int32} (h2 : s 2 = nI g) (hp : p < 2 ^ 30) (hg : g < 2 ^ 30) : f_X8_movesGap Z (nI p) s = some (nI (dst p g), upd (upd s 4 (s 4 + nI (dst p g))) 2 (nI p)) := by
  unfold f_X8_movesGap
  simp (disch := omega) only [l_0, l_1, l_2, l_3, l_4, l_5, l_6, l_7, l_8, l_9, l_10, l_12, l_16, l_20, l_80, l_60, nI_add, pk_mul, pk_sub, z_rd, nI_clamp, z_le, z_lt, z_eq, kl, Option.bind_some, h2, r_size hp hg]
theorem q_col {Z n c : Nat} {F : Nat → Int32} (hZ : c < Z) (hn : n ≤ 256) (hc : c ≤ n) : f_X6_caretColumn Z (nI c) (nI n) F = some (nI (c - lb F c)) := by
  unfold f_X6_caretColumn
  rw [q_lineBegin hZ (by omega) hn hc, Option.bind_some, z_sub (lb_le _ _)]
theorem r_goal {Z c : Nat} {s : Nat → Int32} (hZ : c < Z) (h1 : s 1 = nI c) (hc : c ≤ 256) : f_X8_setsGoal Z s = some (upd s 8 (nI (c - lb (tx s) c))) := by
  unfold f_X8_setsGoal
  simp (disch := omega) only [l_0, l_1, l_2, l_3, l_4, l_5, l_6, l_7, l_8, l_9, l_10, l_12, l_16, l_20, l_80, l_60, nI_add, pk_mul, pk_sub, z_rd, nI_clamp, z_le, z_lt, z_eq, kl, Option.bind_some, h1, r_column hZ hc]
-- ===== Bytes: put, open, close, assign =====
theorem q_put {Z i n L : Nat} {v : Int32} {F : Nat → Int32} (hL : L < 2 ^ 31) (hn : n ≤ L) (h : i < n) : f_X0_put Z (nI i) v L (nI n) F = some (upd F i v) := by
  unfold f_X0_put
  rw [if_neg (nI_pos (by omega)), if_neg (nI_ge h (by omega)), z_rd (by omega) hL, kl, nI_clamp (by omega)]
theorem z_kc {α : Type} {a b m n0 n1 : Nat} {k : Option α} (h1 : a + m ≤ n0) (h2 : b + m ≤ n1) (h3 : n0 < 2 ^ 31) (h4 : n1 < 2 ^ 31) : kc (nI a) (nI b) (nI m) n0 n1 k = k := by
  unfold kc
  rw [nI_clamp (by omega), nI_clamp (by omega), nI_clamp (by omega)]
  exact if_pos ⟨nI_pos (by omega), nI_pos (by omega), nI_pos (by omega), h1, h2⟩
theorem q_open {Z c k n L : Nat} {F : Nat → Int32} (hL : L < 2 ^ 30) (hc : c ≤ n) (hn : n + k ≤ L) : f_X0_open Z (nI c) (nI k) L (nI n) F = some (nI (n + k), va_cpy F F c (c + k) (n - c)) := by
  unfold f_X0_open
  rw [if_neg (nI_pos (by omega)), show Int32.ofNat L = nI L from rfl, pk_sub (by omega), if_neg (nI_nlt (by omega) (by omega))]
  unfold f_X0_open_c23
  rw [if_neg c_01, if_neg (nI_pos (by omega)), if_neg (nI_nlt hc (by omega)), nI_add, pk_sub hc, z_kc (by omega) (by omega) (by omega) (by omega), kl, kl, nI_clamp (by omega), nI_clamp (by omega), nI_clamp (by omega), nI_add]
theorem q_close {Z p k n L : Nat} {F : Nat → Int32} (hL : L < 2 ^ 30) (hk : p + k ≤ n) (hn : n ≤ L) : f_X0_close Z (nI p) (nI k) L (nI n) F = some (nI (n - k), va_cpy F F (p + k) p (n - (p + k))) := by
  unfold f_X0_close
  rw [if_neg (nI_pos (by omega)), if_neg (nI_pos (by omega)), pk_sub (by omega), if_neg (nI_nlt (by omega) (by omega)), kl, nI_add, pk_sub (by omega), z_kc (by omega) (by omega) (by omega) (by omega), kl, kl, nI_clamp (by omega), nI_clamp (by omega), nI_clamp (by omega), pk_sub (by omega)]
theorem q_assign {Z p k m L Lo : Nat} {gN : Int32} {F G : Nat → Int32} (hL : L < 2 ^ 30) (hLo : Lo < 2 ^ 30) (hk : p + k ≤ m) (hm : m ≤ Lo) (hk2 : k ≤ L) : f_X0_assign Z (nI p) (nI k) L Lo gN F (nI m) G = some (nI k, va_cpy G F p 0 k) := by
  unfold f_X0_assign
  rw [if_neg (nI_pos (by omega)), if_neg (nI_pos (by omega)), pk_sub (by omega), if_neg (nI_nlt (by omega) (by omega))]
  unfold f_X0_assign_c23
  rw [if_neg c_01, show Int32.ofNat L = nI L from rfl, if_neg (nI_nlt hk2 (by omega)), show (0 : Int32) = nI 0 from rfl, z_kc (by omega) (by omega) (by omega) (by omega), kl, nI_clamp (by omega), nI_clamp (by omega), nI_clamp (by omega)]
