-- ===== numbers =====
theorem z_lt {a b : Nat} (ha : a < 2 ^ 31) (hb : b < 2 ^ 31) : (nI a < nI b) = (a < b) := propext (nI_ltI ha hb)
theorem z_le {a b : Nat} (ha : a < 2 ^ 31) (hb : b < 2 ^ 31) : (nI a ≤ nI b) = (a ≤ b) := propext (nI_leI ha hb)
theorem z_eq {a b : Nat} (ha : a < 2 ^ 31) (hb : b < 2 ^ 31) : (nI a = nI b) = (a = b) := propext (nI_eq ha hb)
theorem z_lt0 {a : Nat} (ha : a < 2 ^ 31) : (nI a < 0) = False := eq_false (nI_pos ha)
theorem z_le0 {a : Nat} (ha : a < 2 ^ 31) : (nI a ≤ 0) = (a = 0) := by
  rw [show (0 : Int32) = nI 0 from rfl, z_le ha (by omega)]
  exact propext (by omega)
theorem z_eqm {a : Nat} (ha : a < 2 ^ 31) : (nI a = -1) = False := by
  refine eq_false fun h => ?_
  have h1 := congrArg Int32.toInt h
  rw [nI_toInt ha] at h1
  have h2 : (-1 : Int32).toInt = -1 := by decide
  rw [h2] at h1
  omega
theorem z_sub {a b : Nat} (h : b ≤ a) : nI a - nI b = nI (a - b) := pk_sub h
theorem z_rd {α : Type} {i n : Nat} {k : Option α} (h : i < n) (hn : n < 2 ^ 31) : rd (nI i) n k = k := rd_in (vp_in_nI h hn)
theorem z_m1 {a : Nat} (h : 0 < a) : nI a + (-1) = nI (a - 1) := sb_m1 h
-- ===== Bytes =====
theorem q_at {Z i n L : Nat} {F : Nat → Int32} (hL : L < 2 ^ 31) (hn : n ≤ L) (h : i < n) : f_X0_at Z (nI i) L (nI n) F = some (F i) := by
  unfold f_X0_at
  rw [if_neg (nI_pos (by omega)), if_neg (nI_ge h (by omega)), z_rd (by omega) hL, nI_clamp (by omega)]
theorem q_at' {Z i n L : Nat} {F : Nat → Int32} (hi : i < 2 ^ 31) (hn : n < 2 ^ 31) (h : n ≤ i) : f_X0_at Z (nI i) L (nI n) F = some (-1) := by
  unfold f_X0_at
  rw [if_neg (nI_pos hi), if_pos (nI_le h hi)]
/-- the line breaks before p -/
def brk (F : Nat → Int32) : Nat → Nat
  | 0 => 0
  | p + 1 => brk F p + if F p = 10 then 1 else 0
theorem brk_le (F : Nat → Int32) : ∀ p, brk F p ≤ p
  | 0 => Nat.le_refl 0
  | p + 1 => by
    have := brk_le F p
    unfold brk
    split <;> omega
theorem brk_congr {F G : Nat → Int32} : ∀ p, (∀ i, i < p → F i = G i) → brk F p = brk G p
  | 0, _ => rfl
  | p + 1, h => by
    unfold brk
    rw [brk_congr p (fun i hi => h i (by omega)), h p (by omega)]
theorem q_breaks {Z n L p : Nat} {F : Nat → Int32} (hL : L < 2 ^ 30) (hn : n ≤ L) (hp : p ≤ n) : ∀ (N i : Nat), i ≤ p → p < N + i → f_X0_breaksBefore_l4 Z (nI p) L (nI n) F N (nI (brk F i)) (nI i) = some (nI (brk F p)) := by
  intro N
  induction N with
  | zero => intro i h1 h2; omega
  | succ N ih =>
    intro i h1 h2
    show f_X0_breaksBefore_b4 Z (nI p) L (nI n) F (f_X0_breaksBefore_l4 Z (nI p) L (nI n) F N) (nI (brk F i)) (nI i) = _
    unfold f_X0_breaksBefore_b4
    rcases Nat.lt_or_ge i p with h | h
    · rw [if_neg (nI_ge h (by omega)), q_at (by omega) hn (by omega), Option.bind_some]
      have hb : brk F (i + 1) = brk F i + if F i = 10 then 1 else 0 := rfl
      by_cases hF : F i = 10
      · rw [if_pos hF, kl, kl, nI_1, nI_1]
        have := ih (i + 1) (by omega) (by omega)
        rwa [hb, if_pos hF] at this
      · rw [if_neg hF, kl, nI_1]
        have := ih (i + 1) (by omega) (by omega)
        rwa [hb, if_neg hF] at this
    · have : i = p := by omega
      subst this
      rw [if_pos (nI_le (Nat.le_refl _) (by omega))]
theorem q_breaksBefore {Z n L p : Nat} {F : Nat → Int32} (hZ : p < Z) (hL : L < 2 ^ 30) (hn : n ≤ L) (hp : p ≤ n) : f_X0_breaksBefore Z (nI p) L (nI n) F = some (nI (brk F p)) :=
  q_breaks hL hn hp Z 0 (Nat.zero_le _) (by omega)
theorem q_lineCount {Z n L : Nat} {F : Nat → Int32} (hZ : n < Z) (hL : L < 2 ^ 30) (hn : n ≤ L) : f_X0_lineCount Z L (nI n) F = some (nI (brk F n + 1)) := by
  unfold f_X0_lineCount
  rw [q_breaksBefore hZ hL hn (Nat.le_refl _), Option.bind_some, nI_1]
/-- where the line of p begins -/
def lb (F : Nat → Int32) : Nat → Nat
  | 0 => 0
  | p + 1 => if F p = 10 then p + 1 else lb F p
theorem lb_le (F : Nat → Int32) : ∀ p, lb F p ≤ p
  | 0 => Nat.le_refl 0
  | p + 1 => by
    have := lb_le F p
    unfold lb
    split <;> omega
theorem lb_congr {F G : Nat → Int32} : ∀ p, (∀ i, i < p → F i = G i) → lb F p = lb G p
  | 0, _ => rfl
  | p + 1, h => by
    unfold lb
    rw [lb_congr p (fun i hi => h i (by omega)), h p (by omega)]
theorem q_lb {Z n L : Nat} {p : Int32} {F : Nat → Int32} (hL : L < 2 ^ 30) (hn : n ≤ L) : ∀ (N i : Nat), i ≤ n → i < N → f_X0_lineBegin_l2 Z p L (nI n) F N (nI i) = some (nI (lb F i)) := by
  intro N
  induction N with
  | zero => intro i h1 h2; omega
  | succ N ih =>
    intro i h1 h2
    show f_X0_lineBegin_b2 Z p L (nI n) F (f_X0_lineBegin_l2 Z p L (nI n) F N) (nI i) = _
    unfold f_X0_lineBegin_b2
    rcases i with _ | i
    · rw [if_pos (by decide)]; rfl
    · rw [if_neg (nI_nle (by omega) (by omega)), nI_pred, q_at (by omega) hn (by omega), Option.bind_some]
      unfold lb
      by_cases hF : F i = 10
      · rw [if_pos hF, if_pos hF]
      · rw [if_neg hF, if_neg hF, kl, z_m1 (by omega)]
        exact ih i (by omega) (by omega)
theorem q_lineBegin {Z n L p : Nat} {F : Nat → Int32} (hZ : p < Z) (hL : L < 2 ^ 30) (hn : n ≤ L) (hp : p ≤ n) : f_X0_lineBegin Z (nI p) L (nI n) F = some (nI (lb F p)) := q_lb hL hn Z p hp hZ
