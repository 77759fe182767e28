-- ===== constants of the reference =====
theorem rd_0 {α : Type} {k : Option α} : rd 0 344 k = k := rd_in (show ¬ ((0 : Int32) < 0 ∨ 344 ≤ (0 : Int32).toNatClampNeg) by decide)
theorem tn_0 : Int32.toNatClampNeg 0 = 0 := by decide
theorem rd_1 {α : Type} {k : Option α} : rd 1 344 k = k := rd_in (show ¬ ((1 : Int32) < 0 ∨ 344 ≤ (1 : Int32).toNatClampNeg) by decide)
theorem tn_1 : Int32.toNatClampNeg 1 = 1 := by decide
theorem rd_2 {α : Type} {k : Option α} : rd 2 344 k = k := rd_in (show ¬ ((2 : Int32) < 0 ∨ 344 ≤ (2 : Int32).toNatClampNeg) by decide)
theorem tn_2 : Int32.toNatClampNeg 2 = 2 := by decide
theorem rd_3 {α : Type} {k : Option α} : rd 3 344 k = k := rd_in (show ¬ ((3 : Int32) < 0 ∨ 344 ≤ (3 : Int32).toNatClampNeg) by decide)
theorem tn_3 : Int32.toNatClampNeg 3 = 3 := by decide
theorem rd_4 {α : Type} {k : Option α} : rd 4 344 k = k := rd_in (show ¬ ((4 : Int32) < 0 ∨ 344 ≤ (4 : Int32).toNatClampNeg) by decide)
theorem tn_4 : Int32.toNatClampNeg 4 = 4 := by decide
theorem rd_5 {α : Type} {k : Option α} : rd 5 344 k = k := rd_in (show ¬ ((5 : Int32) < 0 ∨ 344 ≤ (5 : Int32).toNatClampNeg) by decide)
theorem tn_5 : Int32.toNatClampNeg 5 = 5 := by decide
theorem rd_6 {α : Type} {k : Option α} : rd 6 344 k = k := rd_in (show ¬ ((6 : Int32) < 0 ∨ 344 ≤ (6 : Int32).toNatClampNeg) by decide)
theorem tn_6 : Int32.toNatClampNeg 6 = 6 := by decide
theorem rd_7 {α : Type} {k : Option α} : rd 7 344 k = k := rd_in (show ¬ ((7 : Int32) < 0 ∨ 344 ≤ (7 : Int32).toNatClampNeg) by decide)
theorem tn_7 : Int32.toNatClampNeg 7 = 7 := by decide
theorem rd_8 {α : Type} {k : Option α} : rd 8 344 k = k := rd_in (show ¬ ((8 : Int32) < 0 ∨ 344 ≤ (8 : Int32).toNatClampNeg) by decide)
theorem tn_8 : Int32.toNatClampNeg 8 = 8 := by decide
theorem rd_9 {α : Type} {k : Option α} : rd 9 344 k = k := rd_in (show ¬ ((9 : Int32) < 0 ∨ 344 ≤ (9 : Int32).toNatClampNeg) by decide)
theorem tn_9 : Int32.toNatClampNeg 9 = 9 := by decide
theorem rd_10 {α : Type} {k : Option α} : rd 10 344 k = k := rd_in (show ¬ ((10 : Int32) < 0 ∨ 344 ≤ (10 : Int32).toNatClampNeg) by decide)
theorem tn_10 : Int32.toNatClampNeg 10 = 10 := by decide
theorem z_80 (a : Nat) : 80 + nI a = nI (80 + a) := nI_add 80 a
theorem z_20 (a : Nat) : 20 + nI a = nI (20 + a) := nI_add 20 a
theorem z_12 (a : Nat) : 12 + nI a = nI (12 + a) := nI_add 12 a
theorem z_16 (a : Nat) : 16 + nI a = nI (16 + a) := nI_add 16 a
theorem z_p0 (a : Nat) : nI a + 0 = nI a := nI_add a 0
/-- the text of the reference's row -/
abbrev tx (s : Nat → Int32) : Nat → Int32 := fun i => s (80 + i)
abbrev cx (s : Nat → Int32) : Nat → Int32 := fun i => s (20 + i)
theorem r_lb {Z : Nat} {p : Int32} {s : Nat → Int32} : ∀ (N i : Nat), i ≤ 256 → i < N → f_X8_startOf_l2 Z p s N (nI i) = some (nI (lb (tx s) i)) := by
  intro N
  induction N with
  | zero => intro i h1 h2; omega
  | succ N ih =>
    intro i h1 h2
    show f_X8_startOf_b2 Z p s (f_X8_startOf_l2 Z p s N) (nI i) = _
    unfold f_X8_startOf_b2
    rcases i with _ | i
    · rw [if_pos (by decide)]; rfl
    · rw [if_neg (nI_nle (by omega) (by omega)), z_80, show 80 + (i + 1) = (80 + i) + 1 by omega, nI_pred, z_rd (by omega) (by omega), nI_clamp (by omega)]
      unfold lb
      by_cases hF : s (80 + i) = 10
      · rw [if_pos hF, if_pos hF]
      · rw [if_neg hF, if_neg hF, kl, z_m1 (by omega)]
        exact ih i (by omega) (by omega)
theorem r_startOf {Z p : Nat} {s : Nat → Int32} (hZ : p < Z) (hp : p ≤ 256) : f_X8_startOf Z (nI p) s = some (nI (lb (tx s) p)) := r_lb Z p hp hZ
theorem r_column {Z p : Nat} {s : Nat → Int32} (hZ : p < Z) (hp : p ≤ 256) : f_X8_column Z (nI p) s = some (nI (p - lb (tx s) p)) := by
  unfold f_X8_column
  rw [r_startOf hZ hp, Option.bind_some, z_sub (lb_le _ _)]
theorem r_brk {Z p : Nat} {s : Nat → Int32} (hp : p ≤ 256) : ∀ (N i : Nat), i ≤ p → p < N + i → f_X8_lineAt_l4 Z (nI p) s N (nI (brk (tx s) i)) (nI i) = some (nI (brk (tx s) p)) := by
  intro N
  induction N with
  | zero => intro i h1 h2; omega
  | succ N ih =>
    intro i h1 h2
    show f_X8_lineAt_b4 Z (nI p) s (f_X8_lineAt_l4 Z (nI p) s N) (nI (brk (tx s) i)) (nI i) = _
    unfold f_X8_lineAt_b4
    rcases Nat.lt_or_ge i p with h | h
    · rw [if_neg (nI_ge h (by omega)), z_80, z_rd (by omega) (by omega), nI_clamp (by omega)]
      have hb : brk (tx s) (i + 1) = brk (tx s) i + if s (80 + i) = 10 then 1 else 0 := rfl
      by_cases hF : s (80 + i) = 10
      · rw [if_pos hF, kl, kl, nI_1, nI_1]
        have := ih (i + 1) (by omega) (by omega)
        rwa [hb, if_pos hF] at this
      · rw [if_neg hF, kl, kl, z_p0, nI_1]
        have := ih (i + 1) (by omega) (by omega)
        rwa [hb, if_neg hF] at this
    · have : i = p := by omega
      subst this
      rw [if_pos (nI_le (Nat.le_refl _) (by omega))]
theorem r_lineAt {Z p : Nat} {s : Nat → Int32} (hZ : p < Z) (hp : p ≤ 256) : f_X8_lineAt Z (nI p) s = some (nI (brk (tx s) p)) := r_brk hp Z 0 (Nat.zero_le _) (by omega)
/-- where the line of p ends, k bytes looked at -/
def le' (F : Nat → Int32) : Nat → Nat → Nat
  | 0, p => p
  | k + 1, p => if F p = 10 then p else le' F k (p + 1)
theorem le'_in (F : Nat → Int32) : ∀ k p, p ≤ le' F k p ∧ le' F k p ≤ p + k
  | 0, p => ⟨Nat.le_refl _, Nat.le_refl _⟩
  | k + 1, p => by
    have := le'_in F k (p + 1)
    unfold le'
    split <;> omega
theorem le'_congr {F G : Nat → Int32} : ∀ k p, (∀ i, i < p + k → F i = G i) → le' F k p = le' G k p
  | 0, _, _ => rfl
  | k + 1, p, h => by
    unfold le'
    rw [le'_congr k (p + 1) (fun i hi => h i (by omega)), h p (by omega)]
theorem q_le {Z n L : Nat} {p : Int32} {F : Nat → Int32} (hL : L < 2 ^ 30) (hn : n ≤ L) : ∀ (N k i : Nat), i + k = n → k < N → f_X0_lineEnd_l2 Z p L (nI n) F N (nI i) = some (nI (le' F k i)) := by
  intro N
  induction N with
  | zero => intro k i h1 h2; omega
  | succ N ih =>
    intro k i h1 h2
    show f_X0_lineEnd_b2 Z p L (nI n) F (f_X0_lineEnd_l2 Z p L (nI n) F N) (nI i) = _
    unfold f_X0_lineEnd_b2
    rcases k with _ | k
    · rw [if_pos (nI_le (by omega) (by omega))]; rfl
    · rw [if_neg (nI_ge (by omega) (by omega)), q_at (by omega) hn (by omega), Option.bind_some]
      unfold le'
      by_cases hF : F i = 10
      · rw [if_pos hF, if_pos hF]
      · rw [if_neg hF, if_neg hF, kl, nI_1]
        exact ih k (i + 1) (by omega) (by omega)
theorem q_lineEnd {Z n L p : Nat} {F : Nat → Int32} (hZ : n < Z) (hL : L < 2 ^ 30) (hn : n ≤ L) (hp : p ≤ n) : f_X0_lineEnd Z (nI p) L (nI n) F = some (nI (le' F (n - p) p)) := q_le hL hn Z (n - p) p (by omega) (by omega)
theorem r_le {Z n : Nat} {p : Int32} {s : Nat → Int32} (h0 : s 0 = nI n) (hn : n ≤ 256) : ∀ (N k i : Nat), i + k = n → k < N → f_X8_endOf_l2 Z p s N (nI i) = some (nI (le' (tx s) k i)) := by
  intro N
  induction N with
  | zero => intro k i h1 h2; omega
  | succ N ih =>
    intro k i h1 h2
    show f_X8_endOf_b2 Z p s (f_X8_endOf_l2 Z p s N) (nI i) = _
    unfold f_X8_endOf_b2
    rw [rd_0, tn_0, h0]
    rcases k with _ | k
    · rw [if_pos (nI_le (by omega) (by omega))]; rfl
    · rw [if_neg (nI_ge (by omega) (by omega)), z_80, z_rd (by omega) (by omega), nI_clamp (by omega)]
      unfold le'
      by_cases hF : s (80 + i) = 10
      · rw [if_pos hF, if_pos hF]
      · rw [if_neg hF, if_neg hF, kl, nI_1]
        exact ih k (i + 1) (by omega) (by omega)
theorem r_endOf {Z n p : Nat} {s : Nat → Int32} (hZ : n < Z) (h0 : s 0 = nI n) (hn : n ≤ 256) (hp : p ≤ n) : f_X8_endOf Z (nI p) s = some (nI (le' (tx s) (n - p) p)) := r_le h0 hn Z (n - p) p (by omega) (by omega)
