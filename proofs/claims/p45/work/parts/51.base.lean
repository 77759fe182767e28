-- ===== numbers =====
theorem z_lt {a b : Nat} (ha : a < 2 ^ 31) (hb : b < 2 ^ 31) : (nI a < nI b) = (a < b) := propext (nI_ltI ha hb)
theorem z_le {a b : Nat} (ha : a < 2 ^ 31) (hb : b < 2 ^ 31) : (nI a ≤ nI b) = (a ≤ b) := propext (nI_leI ha hb)
theorem z_eq {a b : Nat} (ha : a < 2 ^ 31) (hb : b < 2 ^ 31) : (nI a = nI b) = (a = b) := propext (nI_eq ha hb)
theorem z_lt0 {a : Nat} (ha : a < 2 ^ 31) : (nI a < 0) = False := eq_false (nI_pos ha)
theorem z_le0 {a : Nat} (ha : a < 2 ^ 31) : (nI a ≤ 0) = (a = 0) := by
  rw [show (0 : Int32) = nI 0 from rfl, z_le ha (by omega)]
  exact propext (by omega)
theorem z_eqm {a : Nat} (ha : a < 2 ^ 31) : (nI a = -1) = False := by
  refine eq_false fun h => ?_
  have h1 := congrArg Int32.toInt h
  rw [nI_toInt ha] at h1
  have h2 : (-1 : Int32).toInt = -1 := by decide
  rw [h2] at h1
  omega
theorem z_sub {a b : Nat} (h : b ≤ a) : nI a - nI b = nI (a - b) := pk_sub h
theorem z_rd {α : Type} {i n : Nat} {k : Option α} (h : i < n) (hn : n < 2 ^ 31) : rd (nI i) n k = k := rd_in (vp_in_nI h hn)
theorem z_m1 {a : Nat} (h : 0 < a) : nI a + (-1) = nI (a - 1) := sb_m1 h
-- ===== Bytes =====
theorem q_at {Z i n L : Nat} {F : Nat → Int32} (hL : L < 2 ^ 31) (hn : n ≤ L) (h : i < n) : f_X0_at Z (nI i) L (nI n) F = some (F i) := by
  unfold f_X0_at
  rw [if_neg (nI_pos (by omega)), if_neg (nI_ge h (by omega)), z_rd (by omega) hL, nI_clamp (by omega)]
theorem q_at' {Z i n L : Nat} {F : Nat → Int32} (hi : i < 2 ^ 31) (hn : n < 2 ^ 31) (h : n ≤ i) : f_X0_at Z (nI i) L (nI n) F = some (-1) := by
  unfold f_X0_at
  rw [if_neg (nI_pos hi), if_pos (nI_le h hi)]
/-- the line breaks before p -/
def brk (F : Nat → Int32) : Nat → Nat
  | 0 => 0
  | p + 1 => brk F p + if F p = 10 then 1 else 0
theorem brk_le (F : Nat → Int32) : ∀ p, brk F p ≤ p
  | 0 => Nat.le_refl 0
  | p + 1 => by
    have := brk_le F p
    unfold brk
    split <;> omega
theorem brk_congr {F G : Nat → Int32} : ∀ p, (∀ i, i < p → F i = G i) → brk F p = brk G p
  | 0, _ => rfl
  | p + 1, h => by
    unfold brk
    rw [brk_congr p (fun i hi => h i (by omega)), h p (by omega)]
theorem q_breaks {Z n L p : Nat} {F : Nat → Int32} (hL : L < 2 ^ 30) (hn : n ≤ L) (hp : p ≤ n) : ∀ (N i : Nat), i ≤ p → p < N + i → f_X0_breaksBefore_l4 Z (nI p) L (nI n) F N (nI (brk F i)) (nI i) = some (nI (brk F p)) := by
  intro N
  induction N with
  | zero => intro i h1 h2; omega
  | succ N ih =>
    intro i h1 h2
    show f_X0_breaksBefore_b4 Z (nI p) L (nI n) F (f_X0_breaksBefore_l4 Z (nI p) L (nI n) F N) (nI (brk F i)) (nI i) = _
    unfold f_X0_breaksBefore_b4
    rcases Nat.lt_or_ge i p with h | h
    · rw [if_neg (nI_ge h (by omega)), q_at (by omega) hn (by omega), Option.bind_some]
      have hb : brk F (i + 1) = brk F i + if F i = 10 then 1 else 0 := rfl
      by_cases hF : F i = 10
      · rw [if_pos hF, kl, kl, nI_1, nI_1]
        have := ih (i + 1) (by omega) (by omega)
        rwa [hb, if_pos hF] at this
      · rw [if_neg hF, kl, nI_1]
        have := ih (i + 1) (by omega) (by omega)
        rwa [hb, if_neg hF] at this
    · have : i = p := by omega
      subst this
      rw [if_pos (nI_le (Nat.le_refl _) (by omega))]
theorem q_breaksBefore {Z n L p : Nat} {F : Nat → Int32} (hZ : p < Z) (hL : L < 2 ^ 30) (hn : n ≤ L) (hp : p ≤ n) : f_X0_breaksBefore Z (nI p) L (nI n) F = some (nI (brk F p)) :=
  q_breaks hL hn hp Z 0 (Nat.zero_le _) (by omega)
theorem q_lineCount {Z n L : Nat} {F : Nat → Int32} (hZ : n < Z) (hL : L < 2 ^ 30) (hn : n ≤ L) : f_X0_lineCount Z L (nI n) F = some (nI (brk F n + 1)) := by
  unfold f_X0_lineCount
  rw [q_breaksBefore hZ hL hn (Nat.le_refl _), Option.bind_some, nI_1]
/-- where the line of p begins -/
def lb (F : Nat → Int32) : Nat → Nat
  | 0 => 0
  | p + 1 => if F p = 10 then p + 1 else lb F p
theorem lb_le (F : Nat → Int32) : ∀ p, lb F p ≤ p
  | 0 => Nat.le_refl 0
  | p + 1 => by
    have := lb_le F p
    unfold lb
    split <;> omega
theorem lb_congr {F G : Nat → Int32} : ∀ p, (∀ i, i < p → F i = G i) → lb F p = lb G p
  | 0, _ => rfl
  | p + 1, h => by
    unfold lb
    rw [lb_congr p (fun i hi => h i (by omega)), h p (by omega)]
theorem q_lb {Z n L : Nat} {p : Int32} {F : Nat → Int32} (hL : L < 2 ^ 30) (hn : n ≤ L) : ∀ (N i : Nat), i ≤ n → i < N → f_X0_lineBegin_l2 Z p L (nI n) F N (nI i) = some (nI (lb F i)) := by
  intro N
  induction N with
  | zero => intro i h1 h2; omega
  | succ N ih =>
    intro i h1 h2
    show f_X0_lineBegin_b2 Z p L (nI n) F (f_X0_lineBegin_l2 Z p L (nI n) F N) (nI i) = _
    unfold f_X0_lineBegin_b2
    rcases i with _ | i
    · rw [if_pos (by decide)]; rfl
    · rw [if_neg (nI_nle (by omega) (by omega)), nI_pred, q_at (by omega) hn (by omega), Option.bind_some]
      unfold lb
      by_cases hF : F i = 10
      · rw [if_pos hF, if_pos hF]
      · rw [if_neg hF, if_neg hF, kl, z_m1 (by omega)]
        exact ih i (by omega) (by omega)
theorem q_lineBegin {Z n L p : Nat} {F : Nat → Int32} (hZ : p < Z) (hL : L < 2 ^ 30) (hn : n ≤ L) (hp : p ≤ n) : f_X0_lineBegin Z (nI p) L (nI n) F = some (nI (lb F p)) := q_lb hL hn Z p hp hZ

-- ===== constants of the reference =====
theorem rd_0 {α : Type} {k : Option α} : rd 0 344 k = k := rd_in (show ¬ ((0 : Int32) < 0 ∨ 344 ≤ (0 : Int32).toNatClampNeg) by decide)
theorem tn_0 : Int32.toNatClampNeg 0 = 0 := by decide
theorem rd_1 {α : Type} {k : Option α} : rd 1 344 k = k := rd_in (show ¬ ((1 : Int32) < 0 ∨ 344 ≤ (1 : Int32).toNatClampNeg) by decide)
theorem tn_1 : Int32.toNatClampNeg 1 = 1 := by decide
theorem rd_2 {α : Type} {k : Option α} : rd 2 344 k = k := rd_in (show ¬ ((2 : Int32) < 0 ∨ 344 ≤ (2 : Int32).toNatClampNeg) by decide)
theorem tn_2 : Int32.toNatClampNeg 2 = 2 := by decide
theorem rd_3 {α : Type} {k : Option α} : rd 3 344 k = k := rd_in (show ¬ ((3 : Int32) < 0 ∨ 344 ≤ (3 : Int32).toNatClampNeg) by decide)
theorem tn_3 : Int32.toNatClampNeg 3 = 3 := by decide
theorem rd_4 {α : Type} {k : Option α} : rd 4 344 k = k := rd_in (show ¬ ((4 : Int32) < 0 ∨ 344 ≤ (4 : Int32).toNatClampNeg) by decide)
theorem tn_4 : Int32.toNatClampNeg 4 = 4 := by decide
theorem rd_5 {α : Type} {k : Option α} : rd 5 344 k = k := rd_in (show ¬ ((5 : Int32) < 0 ∨ 344 ≤ (5 : Int32).toNatClampNeg) by decide)
theorem tn_5 : Int32.toNatClampNeg 5 = 5 := by decide
theorem rd_6 {α : Type} {k : Option α} : rd 6 344 k = k := rd_in (show ¬ ((6 : Int32) < 0 ∨ 344 ≤ (6 : Int32).toNatClampNeg) by decide)
theorem tn_6 : Int32.toNatClampNeg 6 = 6 := by decide
theorem rd_7 {α : Type} {k : Option α} : rd 7 344 k = k := rd_in (show ¬ ((7 : Int32) < 0 ∨ 344 ≤ (7 : Int32).toNatClampNeg) by decide)
theorem tn_7 : Int32.toNatClampNeg 7 = 7 := by decide
theorem rd_8 {α : Type} {k : Option α} : rd 8 344 k = k := rd_in (show ¬ ((8 : Int32) < 0 ∨ 344 ≤ (8 : Int32).toNatClampNeg) by decide)
theorem tn_8 : Int32.toNatClampNeg 8 = 8 := by decide
theorem rd_9 {α : Type} {k : Option α} : rd 9 344 k = k := rd_in (show ¬ ((9 : Int32) < 0 ∨ 344 ≤ (9 : Int32).toNatClampNeg) by decide)
theorem tn_9 : Int32.toNatClampNeg 9 = 9 := by decide
theorem rd_10 {α : Type} {k : Option α} : rd 10 344 k = k := rd_in (show ¬ ((10 : Int32) < 0 ∨ 344 ≤ (10 : Int32).toNatClampNeg) by decide)
theorem tn_10 : Int32.toNatClampNeg 10 = 10 := by decide
theorem z_80 (a : Nat) : 80 + nI a = nI (80 + a) := nI_add 80 a
theorem z_20 (a : Nat) : 20 + nI a = nI (20 + a) := nI_add 20 a
theorem z_12 (a : Nat) : 12 + nI a = nI (12 + a) := nI_add 12 a
theorem z_16 (a : Nat) : 16 + nI a = nI (16 + a) := nI_add 16 a
theorem z_p0 (a : Nat) : nI a + 0 = nI a := nI_add a 0
/-- the text of the reference's row -/
abbrev tx (s : Nat → Int32) : Nat → Int32 := fun i => s (80 + i)
abbrev cx (s : Nat → Int32) : Nat → Int32 := fun i => s (20 + i)
theorem r_lb {Z : Nat} {p : Int32} {s : Nat → Int32} : ∀ (N i : Nat), i ≤ 256 → i < N → f_X8_startOf_l2 Z p s N (nI i) = some (nI (lb (tx s) i)) := by
  intro N
  induction N with
  | zero => intro i h1 h2; omega
  | succ N ih =>
    intro i h1 h2
    show f_X8_startOf_b2 Z p s (f_X8_startOf_l2 Z p s N) (nI i) = _
    unfold f_X8_startOf_b2
    rcases i with _ | i
    · rw [if_pos (by decide)]; rfl
    · rw [if_neg (nI_nle (by omega) (by omega)), z_80, show 80 + (i + 1) = (80 + i) + 1 by omega, nI_pred, z_rd (by omega) (by omega), nI_clamp (by omega)]
      unfold lb
      by_cases hF : s (80 + i) = 10
      · rw [if_pos hF, if_pos hF]
      · rw [if_neg hF, if_neg hF, kl, z_m1 (by omega)]
        exact ih i (by omega) (by omega)
theorem r_startOf {Z p : Nat} {s : Nat → Int32} (hZ : p < Z) (hp : p ≤ 256) : f_X8_startOf Z (nI p) s = some (nI (lb (tx s) p)) := r_lb Z p hp hZ
theorem r_column {Z p : Nat} {s : Nat → Int32} (hZ : p < Z) (hp : p ≤ 256) : f_X8_column Z (nI p) s = some (nI (p - lb (tx s) p)) := by
  unfold f_X8_column
  rw [r_startOf hZ hp, Option.bind_some, z_sub (lb_le _ _)]
theorem r_brk {Z p : Nat} {s : Nat → Int32} (hp : p ≤ 256) : ∀ (N i : Nat), i ≤ p → p < N + i → f_X8_lineAt_l4 Z (nI p) s N (nI (brk (tx s) i)) (nI i) = some (nI (brk (tx s) p)) := by
  intro N
  induction N with
  | zero => intro i h1 h2; omega
  | succ N ih =>
    intro i h1 h2
    show f_X8_lineAt_b4 Z (nI p) s (f_X8_lineAt_l4 Z (nI p) s N) (nI (brk (tx s) i)) (nI i) = _
    unfold f_X8_lineAt_b4
    rcases Nat.lt_or_ge i p with h | h
    · rw [if_neg (nI_ge h (by omega)), z_80, z_rd (by omega) (by omega), nI_clamp (by omega)]
      have hb : brk (tx s) (i + 1) = brk (tx s) i + if s (80 + i) = 10 then 1 else 0 := rfl
      by_cases hF : s (80 + i) = 10
      · rw [if_pos hF, kl, kl, nI_1, nI_1]
        have := ih (i + 1) (by omega) (by omega)
        rwa [hb, if_pos hF] at this
      · rw [if_neg hF, kl, kl, z_p0, nI_1]
        have := ih (i + 1) (by omega) (by omega)
        rwa [hb, if_neg hF] at this
    · have : i = p := by omega
      subst this
      rw [if_pos (nI_le (Nat.le_refl _) (by omega))]
theorem r_lineAt {Z p : Nat} {s : Nat → Int32} (hZ : p < Z) (hp : p ≤ 256) : f_X8_lineAt Z (nI p) s = some (nI (brk (tx s) p)) := r_brk hp Z 0 (Nat.zero_le _) (by omega)
/-- where the line of p ends, k bytes looked at -/
def le' (F : Nat → Int32) : Nat → Nat → Nat
  | 0, p => p
  | k + 1, p => if F p = 10 then p else le' F k (p + 1)
theorem le'_in (F : Nat → Int32) : ∀ k p, p ≤ le' F k p ∧ le' F k p ≤ p + k
  | 0, p => ⟨Nat.le_refl _, Nat.le_refl _⟩
  | k + 1, p => by
    have := le'_in F k (p + 1)
    unfold le'
    split <;> omega
theorem le'_congr {F G : Nat → Int32} : ∀ k p, (∀ i, i < p + k → F i = G i) → le' F k p = le' G k p
  | 0, _, _ => rfl
  | k + 1, p, h => by
    unfold le'
    rw [le'_congr k (p + 1) (fun i hi => h i (by omega)), h p (by omega)]
theorem q_le {Z n L : Nat} {p : Int32} {F : Nat → Int32} (hL : L < 2 ^ 30) (hn : n ≤ L) : ∀ (N k i : Nat), i + k = n → k < N → f_X0_lineEnd_l2 Z p L (nI n) F N (nI i) = some (nI (le' F k i)) := by
  intro N
  induction N with
  | zero => intro k i h1 h2; omega
  | succ N ih =>
    intro k i h1 h2
    show f_X0_lineEnd_b2 Z p L (nI n) F (f_X0_lineEnd_l2 Z p L (nI n) F N) (nI i) = _
    unfold f_X0_lineEnd_b2
    rcases k with _ | k
    · rw [if_pos (nI_le (by omega) (by omega))]; rfl
    · rw [if_neg (nI_ge (by omega) (by omega)), q_at (by omega) hn (by omega), Option.bind_some]
      unfold le'
      by_cases hF : F i = 10
      · rw [if_pos hF, if_pos hF]
      · rw [if_neg hF, if_neg hF, kl, nI_1]
        exact ih k (i + 1) (by omega) (by omega)
theorem q_lineEnd {Z n L p : Nat} {F : Nat → Int32} (hZ : n < Z) (hL : L < 2 ^ 30) (hn : n ≤ L) (hp : p ≤ n) : f_X0_lineEnd Z (nI p) L (nI n) F = some (nI (le' F (n - p) p)) := q_le hL hn Z (n - p) p (by omega) (by omega)
theorem r_le {Z n : Nat} {p : Int32} {s : Nat → Int32} (h0 : s 0 = nI n) (hn : n ≤ 256) : ∀ (N k i : Nat), i + k = n → k < N → f_X8_endOf_l2 Z p s N (nI i) = some (nI (le' (tx s) k i)) := by
  intro N
  induction N with
  | zero => intro k i h1 h2; omega
  | succ N ih =>
    intro k i h1 h2
    show f_X8_endOf_b2 Z p s (f_X8_endOf_l2 Z p s N) (nI i) = _
    unfold f_X8_endOf_b2
    rw [rd_0, tn_0, h0]
    rcases k with _ | k
    · rw [if_pos (nI_le (by omega) (by omega))]; rfl
    · rw [if_neg (nI_ge (by omega) (by omega)), z_80, z_rd (by omega) (by omega), nI_clamp (by omega)]
      unfold le'
      by_cases hF : s (80 + i) = 10
      · rw [if_pos hF, if_pos hF]
      · rw [if_neg hF, if_neg hF, kl, nI_1]
        exact ih k (i + 1) (by omega) (by omega)
theorem r_endOf {Z n p : Nat} {s : Nat → Int32} (hZ : n < Z) (h0 : s 0 = nI n) (hn : n ≤ 256) (hp : p ≤ n) : f_X8_endOf Z (nI p) s = some (nI (le' (tx s) (n - p) p)) := r_le h0 hn Z (n - p) p (by omega) (by omega)

-- ===== the relation between the class's fields and the reference's =====
def RS (σ : StT) (s : Nat → Int32) : Prop := ∃ n c g q cp l : Nat, (n ≤ 256 ∧ c ≤ n ∧ g ≤ n ∧ q ≤ 256 ∧ l ≤ 60 ∧ n ≤ cp ∧ (cp = 8 ∨ cp = 16 ∨ cp = 32 ∨ cp = 64 ∨ cp = 128 ∨ cp = 256)) ∧ (s_tN σ = nI n ∧ s_vCar σ = nI c ∧ s_kGap σ = nI g ∧ s_vGoa σ = nI q ∧ s_kCap σ = nI cp ∧ s_cN σ = nI l) ∧ (s_vEag σ = 0 ∨ s_vEag σ = 1) ∧ (s 0 = nI n ∧ s 1 = nI c ∧ s 2 = nI g ∧ s 3 = nI cp ∧ s 4 = s_kCar σ ∧ s 5 = s_kCop σ ∧ s 6 = s_kGro σ ∧ s 7 = s_kShr σ ∧ s 8 = nI q ∧ s 9 = s_vEag σ ∧ s 10 = nI l) ∧ (∀ m, m < 4 → s (12 + m) = s_mP σ m ∧ s (16 + m) = s_mS σ m ∧ (s_mP σ m = -1 ∨ ∃ p, p ≤ n ∧ s_mP σ m = nI p)) ∧ (∀ i, i < n → s (80 + i) = s_tF σ i) ∧ (∀ i, i < l → s (20 + i) = s_cF σ i)
-- ===== the checks of arguments =====
theorem pos_cases (x : Int32) {n : Nat} (hn : n < 2 ^ 30) : (x < 0 ∨ nI n < x) ∨ ∃ j, j ≤ n ∧ x = nI j := by
  rcases pk_ix x (n := n + 1) (by omega) with h | h | ⟨j, h1, h2⟩
  · exact Or.inl (Or.inl h)
  · refine Or.inl (Or.inr ?_)
    rw [Int32.le_iff_toInt_le, nI_toInt (by omega)] at h
    rw [Int32.lt_iff_toInt_lt, nI_toInt (by omega)]
    omega
  · exact Or.inr ⟨j, by omega, h2⟩
theorem q_kb0 {α : Type} {k : Option α} : kb 0 k = k := if_pos (Or.inl rfl)
theorem q_kb1 {α : Type} {k : Option α} : kb 1 k = k := if_pos (Or.inr rfl)
theorem q_pos_no {Z : Nat} {p a : Int32} (h : p < 0 ∨ a < p) : f_X7_isPosition Z p a = some 0 := by
  unfold f_X7_isPosition
  rcases h with h | h
  · rw [if_pos h]
  · by_cases h2 : p < 0
    · rw [if_pos h2]
    · rw [if_neg h2]
      show (if a < p then some 0 else some 1) = _
      rw [if_pos h]
theorem q_pos_yes {Z j n : Nat} (h : j ≤ n) (hn : n < 2 ^ 30) : f_X7_isPosition Z (nI j) (nI n) = some 1 := by
  unfold f_X7_isPosition
  rw [if_neg (nI_pos (by omega))]
  show (if nI n < nI j then some 0 else some 1) = _
  rw [if_neg (nI_nlt h (by omega))]
theorem c_01 : ¬ (1 : Int32) = 0 := by decide
theorem ix_cases (x : Int32) {n : Nat} (hn : n < 2 ^ 30) : x < 0 ∨ (¬ x < 0 ∧ nI n ≤ x) ∨ ∃ j, j < n ∧ x = nI j := by
  rcases pk_ix x (n := n) (by omega) with h | h | h
  · exact Or.inl h
  · refine Or.inr (Or.inl ⟨fun h2 => ?_, h⟩)
    rw [Int32.le_iff_toInt_le, nI_toInt (by omega)] at h
    rw [Int32.lt_iff_toInt_lt] at h2
    have h3 : (0 : Int32).toInt = 0 := by decide
    omega
  · exact Or.inr (Or.inr h)
theorem q_at_no {Z : Nat} {x a : Int32} {L : Nat} {F : Nat → Int32} (h : x < 0 ∨ a ≤ x) : f_X0_at Z x L a F = some (-1) := by
  unfold f_X0_at
  by_cases h1 : x < 0
  · rw [if_pos h1]
  · rw [if_neg h1, if_pos (h.resolve_left h1)]
theorem ge_0 {x : Int32} (h : ¬ x < 0) : 0 ≤ x := by
  rw [Int32.lt_iff_toInt_lt] at h
  rw [Int32.le_iff_toInt_le]
  omega
theorem q_mark_no {Z : Nat} {p : Int32} (h : p < 0 ∨ 4 ≤ p) : f_X7_isMark Z p = some 0 := by
  unfold f_X7_isMark
  by_cases h1 : p < 0
  · rw [if_pos h1]
  · rw [if_neg h1, if_pos (h.resolve_left h1)]
theorem q_mark_yes {Z j : Nat} (h : j < 4) : f_X7_isMark Z (nI j) = some 1 := by
  unfold f_X7_isMark
  rw [if_neg (nI_pos (by omega)), if_neg (show ¬ (4 : Int32) ≤ nI j from nI_ge (b := 4) h (by omega))]
theorem q_posOf {Z j : Nat} {F : Nat → Int32} (h : j < 4) : f_X4_positionOf Z (nI j) F = some (F j) := by
  unfold f_X4_positionOf
  rw [q_mark_yes h, Option.bind_some, if_neg c_01, z_rd h (by omega), nI_clamp (by omega)]
theorem mk_cases (x : Int32) : (x < 0 ∨ 4 ≤ x) ∨ ∃ j, j < 4 ∧ x = nI j := by
  rcases ix_cases x (n := 4) (by omega) with h | ⟨-, h⟩ | h
  · exact Or.inl (Or.inl h)
  · exact Or.inl (Or.inr h)
  · exact Or.inr h
