-- ===== lines by their numbers =====
theorem brk_le' {F : Nat → Int32} : ∀ k b, brk F (le' F k b) = brk F b
  | 0, _ => rfl
  | k + 1, b => by
    unfold le'
    by_cases hF : F b = 10
    · rw [if_pos hF]
    · rw [if_neg hF, brk_le' k (b + 1)]
      show brk F b + (if F b = 10 then 1 else 0) = _
      rw [if_neg hF, Nat.add_zero]
def bol (F : Nat → Int32) (n : Nat) : Nat → Nat
  | 0 => 0
  | k + 1 => le' F (n - bol F n k) (bol F n k) + 1
theorem bol_ok {F : Nat → Int32} {n : Nat} : ∀ k, k ≤ brk F n → bol F n k ≤ n ∧ brk F (bol F n k) = k
  | 0, _ => ⟨Nat.zero_le _, rfl⟩
  | k + 1, h => by
    obtain ⟨h1, h2⟩ := bol_ok (F := F) (n := n) k (by omega)
    have h3 := le'_in F (n - bol F n k) (bol F n k)
    have h4 := brk_le' (F := F) (n - bol F n k) (bol F n k)
    have h5 : le' F (n - bol F n k) (bol F n k) < n := by
      rcases Nat.lt_or_ge (le' F (n - bol F n k) (bol F n k)) n with w | w
      · exact w
      · have e : le' F (n - bol F n k) (bol F n k) = n := by omega
        rw [e] at h4
        omega
    have h6 := le_brk (F := F) (n - bol F n k) (bol F n k) (by omega)
    unfold bol
    refine ⟨by omega, ?_⟩
    show brk F (le' F (n - bol F n k) (bol F n k)) + (if F (le' F (n - bol F n k) (bol F n k)) = 10 then 1 else 0) = _
    rw [if_pos h6, h4, h2]
theorem bol_congr {F G : Nat → Int32} {n : Nat} (h : ∀ i, i < n → F i = G i) : ∀ k, k ≤ brk F n → bol F n k = bol G n k
  | 0, _ => rfl
  | k + 1, hk => by
    have h1 := (bol_ok (F := F) (n := n) k (by omega)).1
    unfold bol
    rw [bol_congr h k (by omega)] at h1 ⊢
    rw [le'_congr _ _ (fun i hi => h i (by omega))]
theorem q_bol {Z n L p : Nat} {F : Nat → Int32} (hZ : n < Z) (hL : L < 2 ^ 30) (hn : n ≤ L) (hp : p ≤ brk F n) (hp2 : p < 2 ^ 30) : ∀ (N i : Nat), i ≤ p → p < N + i → f_X0_beginOfLine_l4 Z (nI p) L (nI n) F N (nI (bol F n i)) (nI i) = some (nI (bol F n p)) := by
  intro N
  induction N with
  | zero => intro i h1 h2; omega
  | succ N ih =>
    intro i h1 h2
    show f_X0_beginOfLine_b4 Z (nI p) L (nI n) F _ (nI (bol F n i)) (nI i) = _
    unfold f_X0_beginOfLine_b4
    rcases Nat.lt_or_ge i p with h | h
    · rw [if_neg (nI_ge h (by omega)), q_lineEnd hZ hL hn (bol_ok i (by omega)).1, Option.bind_some, kl, kl, nI_1, nI_1]
      exact ih (i + 1) (by omega) (by omega)
    · obtain rfl : i = p := by omega
      rw [if_pos (nI_le (Nat.le_refl _) (by omega))]
theorem r_bol {Z n p : Nat} {s : Nat → Int32} (hZ : n < Z) (e0 : s 0 = nI n) (hn : n ≤ 256) (hp : p ≤ brk (tx s) n) (hp2 : p < 2 ^ 30) : ∀ (N i : Nat), i ≤ p → p < N + i → f_X8_beginning_l4 Z (nI p) s N (nI (bol (tx s) n i)) (nI i) = some (nI (bol (tx s) n p)) := by
  intro N
  induction N with
  | zero => intro i h1 h2; omega
  | succ N ih =>
    intro i h1 h2
    show f_X8_beginning_b4 Z (nI p) s _ (nI (bol (tx s) n i)) (nI i) = _
    unfold f_X8_beginning_b4
    rcases Nat.lt_or_ge i p with h | h
    · rw [if_neg (nI_ge h (by omega)), r_endOf hZ e0 hn (bol_ok i (by omega)).1, Option.bind_some, kl, kl, nI_1, nI_1]
      exact ih (i + 1) (by omega) (by omega)
    · obtain rfl : i = p := by omega
      rw [if_pos (nI_le (Nat.le_refl _) (by omega))]
theorem lt_1 {p : Int32} {m : Nat} (hm : m < 2 ^ 30) : nI m < p → nI (m + 1) ≤ p := by
  rw [Int32.lt_iff_toInt_lt, Int32.le_iff_toInt_le, nI_toInt (by omega), nI_toInt (by omega)]
  omega
theorem line_cases {Z n : Nat} {p : Int32} {F s : Nat → Int32} (hZ : 300 ≤ Z) (e0 : s 0 = nI n) (hn : n ≤ 256) (ht : ∀ i, i < n → tx s i = F i) : (f_X7_isLine Z p (nI n) F = some 0 ∧ f_X8_isLine Z p s = some 0) ∨ ∃ j, j ≤ brk (tx s) n ∧ p = nI j ∧ f_X7_isLine Z p (nI n) F = some 1 ∧ f_X8_isLine Z p s = some 1 := by
  have hb := brk_le (tx s) n
  have hc : brk F n = brk (tx s) n := brk_congr n (fun i hi => (ht i hi).symm)
  unfold f_X7_isLine f_X8_isLine
  rw [q_lineCount (by omega) (by omega) hn, Option.bind_some, hc, rd_0, tn_0, e0, r_lineAt (by omega) hn, Option.bind_some]
  rcases pos_cases p (n := brk (tx s) n) (by omega) with h | ⟨j, hj, rfl⟩
  · refine Or.inl ⟨?_, by rw [q_in_no h, Option.bind_some, q_kb0]⟩
    by_cases h1 : p < 0
    · rw [if_pos h1]
    · rw [if_neg h1, if_pos (lt_1 (by omega) (h.resolve_left h1))]
  · refine Or.inr ⟨j, hj, rfl, ?_, ?_⟩
    · rw [if_neg (nI_pos (by omega)), if_neg (nI_ge (by omega) (by omega))]
    · rw [q_in_yes (nI_pos (by omega)) (nI_nlt hj (by omega)), Option.bind_some, q_kb1]
theorem pb_lineStart {Z : Nat} (hZ : 300 ≤ Z) : PB_lineStart Z Rel := by
  intro p1 vCar vGoa vEag tN tF cN cF mP mS kCap kGap kCar kCop kGro kShr bN bF rCmd rLet rNum fCap fGap fCar fCop fGro fShr hX hC hR aTh aSm aLn aAt aWe aRm aBm aHa aS aSv aCm aRd aBy h
  obtain ⟨n, c, g, q, cp, l, ⟨rfl, rfl, rfl, rfl, rfl, rfl⟩, hN⟩ := rs_out h.1
  have hb1 : n ≤ 256 := hN.1.1
  have e0 : aS 0 = nI n := hN.2.2.1.1
  have ht : ∀ i, i < n → tx aS i = tF i := hN.2.2.2.2.1
  have hb := brk_le (tx aS) n
  have hc : brk tF n = brk (tx aS) n := brk_congr n (fun i hi => (ht i hi).symm)
  rcases line_cases (Z := Z) (p := p1) hZ e0 hb1 ht with ⟨d1, d2⟩ | ⟨j, hj, rfl, d1, d2⟩
  · refine Or.inr ⟨0, ?_, ?_, h⟩
    · unfold f_X7_lineStart
      rw [d1, Option.bind_some, if_pos rfl]
    · unfold f_X8_lineStart
      rw [d2, Option.bind_some, if_pos rfl]
      rfl
  · refine Or.inl ⟨nI (bol tF n j), ?_, ?_, h⟩
    · unfold f_X7_lineStart f_X7_lineStart_c8 f_X0_beginOfLine
      rw [d1, Option.bind_some, if_neg c_01, show (0 : Int32) = nI (bol tF n 0) from rfl, show nI (bol tF n 0) = nI (bol tF n 0) from rfl]
      have e := q_bol (Z := Z) (n := n) (L := 256) (F := tF) (p := j) (by omega) (by omega) hb1 (by omega) (by omega) Z 0 (by omega) (by omega)
      rw [show f_X0_beginOfLine_l4 Z (nI j) 256 (nI n) tF Z (nI (bol tF n 0)) (nI (bol tF n 0)) = _ from e]
      rfl
    · unfold f_X8_lineStart f_X8_beginning
      have e := r_bol (Z := Z) (n := n) (s := aS) (p := j) (by omega) e0 hb1 hj (by omega) Z 0 (by omega) (by omega)
      rw [d2, Option.bind_some, if_neg c_01, show f_X8_beginning_l4 Z (nI j) aS Z 0 0 = _ from e, Option.bind_some, bol_congr (fun i hi => (ht i hi).symm) j (by omega)]
theorem pb_lineLength {Z : Nat} (hZ : 300 ≤ Z) : PB_lineLength Z Rel := by
  intro p1 vCar vGoa vEag tN tF cN cF mP mS kCap kGap kCar kCop kGro kShr bN bF rCmd rLet rNum fCap fGap fCar fCop fGro fShr hX hC hR aTh aSm aLn aAt aWe aRm aBm aHa aS aSv aCm aRd aBy h
  obtain ⟨n, c, g, q, cp, l, ⟨rfl, rfl, rfl, rfl, rfl, rfl⟩, hN⟩ := rs_out h.1
  have hb1 : n ≤ 256 := hN.1.1
  have e0 : aS 0 = nI n := hN.2.2.1.1
  have ht : ∀ i, i < n → tx aS i = tF i := hN.2.2.2.2.1
  have hb := brk_le (tx aS) n
  have hc : brk tF n = brk (tx aS) n := brk_congr n (fun i hi => (ht i hi).symm)
  rcases line_cases (Z := Z) (p := p1) hZ e0 hb1 ht with ⟨d1, d2⟩ | ⟨j, hj, rfl, d1, d2⟩
  · refine Or.inr ⟨0, ?_, ?_, h⟩
    · unfold f_X7_lineLength
      rw [d1, Option.bind_some, if_pos rfl]
    · unfold f_X8_lineLength
      rw [d2, Option.bind_some, if_pos rfl]
      rfl
  · have hj2 : j ≤ brk tF n := by omega
    have hbn := (bol_ok (F := tF) (n := n) j hj2).1
    have hle := le'_in tF (n - bol tF n j) (bol tF n j)
    have hbc := bol_congr (fun i hi => (ht i hi).symm) j hj2
    refine Or.inl ⟨nI (le' tF (n - bol tF n j) (bol tF n j) - bol tF n j), ?_, ?_, h⟩
    · unfold f_X7_lineLength f_X7_lineLength_c8 f_X0_beginOfLine
      have e := q_bol (Z := Z) (n := n) (L := 256) (F := tF) (p := j) (by omega) (by omega) hb1 (by omega) (by omega) Z 0 (by omega) (by omega)
      rw [d1, Option.bind_some, if_neg c_01, show f_X0_beginOfLine_l4 Z (nI j) 256 (nI n) tF Z 0 0 = _ from e, Option.bind_some, q_lineEnd (by omega) (by omega) hb1 hbn, Option.bind_some, pk_sub hle.1]
      rfl
    · unfold f_X8_lineLength f_X8_beginning
      have e := r_bol (Z := Z) (n := n) (s := aS) (p := j) (by omega) e0 hb1 hj (by omega) Z 0 (by omega) (by omega)
      rw [d2, Option.bind_some, if_neg c_01, show f_X8_beginning_l4 Z (nI j) aS Z 0 0 = _ from e, Option.bind_some, ← hbc, r_endOf (by omega) e0 hb1 hbn, Option.bind_some, Option.bind_some, le'_congr _ _ (fun i hi => ht i (by omega)), pk_sub hle.1]
-- ===== cell =====
theorem pb_cell {Z : Nat} : PB_cell Z Rel := by
  intro p1 vCar vGoa vEag tN tF cN cF mP mS kCap kGap kCar kCop kGro kShr bN bF rCmd rLet rNum fCap fGap fCar fCop fGro fShr hX hC hR aTh aSm aLn aAt aWe aRm aBm aHa aS aSv aCm aRd aBy h
  obtain ⟨n, c, g, q, cp, l, ⟨rfl, rfl, rfl, rfl, rfl, rfl⟩, hN⟩ := rs_out h.1
  obtain ⟨⟨hb1, hb2, hb3, hb4, hb5, hb6, hb7⟩, he, ⟨e0, e1, e2, e3, e4, e5, e6, e7, e8, e9, e10⟩, hm, ht, hcl⟩ := hN
  have h8 := cap_in hb7
  have ecp : nI cp - 1 = nI (cp - 1) := pk_sub (b := 1) (by omega)
  have hin : p1 < 0 ∨ nI cp ≤ p1 → f_X8_cell Z p1 aTh aS = some (0, 1) := fun hp => by
    unfold f_X8_cell
    rw [rd_3, tn_3, e3, ecp, q_in_no (hp.imp id (fun a => by rw [Int32.le_iff_toInt_le, nI_toInt (by omega)] at a; rw [Int32.lt_iff_toInt_lt, nI_toInt (by omega)]; omega)), Option.bind_some, if_pos rfl]
    rfl
  rcases ix_cases p1 (n := cp) (by omega) with hp | ⟨hp, hp2⟩ | ⟨j, hj, rfl⟩
  · refine Or.inr ⟨0, ?_, hin (Or.inl hp), h⟩
    unfold f_X7_cell
    rw [if_pos hp, if_pos rfl]
  · refine Or.inr ⟨0, ?_, hin (Or.inr hp2), h⟩
    unfold f_X7_cell
    rw [if_neg hp, if_pos hp2, if_pos rfl]
  · have k1 : ∀ r, f_X6_cellAt Z (nI j) (nI n) tF (nI cp) (nI g) = some r → f_X7_cell Z (nI j) (nI n) tF (nI cp) (nI g) = some (.inl r) := fun r hr => by
      unfold f_X7_cell f_X7_cell_c26
      rw [if_neg (nI_pos (by omega)), if_neg (nI_ge hj (by omega)), if_neg c_01, hr]
      rfl
    unfold f_X8_cell
    rw [rd_3, rd_3, tn_3, e3, ecp, q_in_yes (nI_pos (by omega)) (nI_nlt (by omega) (by omega)), Option.bind_some, if_neg c_01, rd_0, tn_0, e0, pk_sub hb6, kl, rd_2, rd_2, tn_2, e2, nI_add, z_80]
    unfold f_X6_cellAt f_X0_size at k1
    rw [Option.bind_some, pk_sub hb6, kl, nI_add] at k1
    by_cases a : g ≤ j
    · rw [if_pos (nI_le a (by omega))] at k1 ⊢
      by_cases b : g + (cp - n) ≤ j
      · rw [if_pos (nI_le b (by omega))] at k1 ⊢
        rw [pk_sub (by omega), q_at (by omega) (by omega) (by omega), Option.bind_some] at k1
        refine Or.inl ⟨_, k1 _ rfl, ?_, h⟩
        rw [pk_sub (by omega), z_rd (by omega) (by omega), nI_clamp (by omega), show 80 + j - (cp - n) = 80 + (j - (cp - n)) by omega, ht _ (by omega)]
      · rw [if_neg (nI_ge (by omega) (by omega))] at k1 ⊢
        exact Or.inl ⟨_, k1 _ rfl, rfl, h⟩
    · rw [if_neg (nI_ge (by omega) (by omega))] at k1 ⊢
      rw [q_at (by omega) (by omega) (by omega), Option.bind_some] at k1
      refine Or.inl ⟨_, k1 _ rfl, ?_, h⟩
      rw [z_rd (by omega) (by omega), nI_clamp (by omega), ht _ (by omega)]
-- ===== find =====
theorem o_has {Z n l p L : Nat} {F G s : Nat → Int32} (hp : p + l ≤ n) (hn : n ≤ 256) (hL : n ≤ L) (hL2 : L < 2 ^ 30) (hl : l ≤ 60) (e10 : s 10 = nI l) (ht : ∀ i, i < n → s (80 + i) = F i) (hc : ∀ i, i < l → s (20 + i) = G i) : ∀ (N i M : Nat), i ≤ l → l < N + i → l + 1 < M + i → ∃ b : Int32, (b = 0 ∨ b = 1) ∧ f_X0_hasAt_l2 Z (nI p) L 60 (nI n) F (nI l) G N (nI i) = some b ∧ f_X8_isFound_l36 Z (nI p) s M 1 (nI i) = some b := by
  intro N
  induction N with
  | zero => intro i M h1 h2; omega
  | succ N ih =>
    intro i M h1 h2 h3
    obtain ⟨M, rfl⟩ : ∃ m, M = m + 1 := ⟨M - 1, by omega⟩
    show ∃ b : Int32, (b = 0 ∨ b = 1) ∧ f_X0_hasAt_b2 Z (nI p) L 60 (nI n) F (nI l) G _ (nI i) = some b ∧ f_X8_isFound_b36 Z (nI p) s _ 1 (nI i) = some b
    unfold f_X0_hasAt_b2 f_X8_isFound_b36
    rw [rd_10, tn_10, e10]
    rcases Nat.lt_or_ge i l with h | h
    · rw [if_neg (nI_ge h (by omega)), if_neg (nI_ge h (by omega)), if_neg c_01, nI_add, q_at (by omega) hL (by omega), Option.bind_some, q_at (by omega) hl h, Option.bind_some, z_80, nI_add, z_20, z_rd (by omega) (by omega), z_rd (by omega) (by omega), nI_clamp (by omega), nI_clamp (by omega), show 80 + p + i = 80 + (p + i) by omega, ht _ (by omega), hc _ h]
      by_cases e : F (p + i) = G i
      · rw [if_pos e, if_pos e, kl, kl, nI_1]
        exact ih (i + 1) M (by omega) (by omega) (by omega)
      · refine ⟨0, Or.inl rfl, ?_, ?_⟩
        · rw [if_neg e]
        · rw [if_neg e, kl, nI_1]
          obtain ⟨M, rfl⟩ : ∃ m, M = m + 1 := ⟨M - 1, by omega⟩
          show f_X8_isFound_b36 Z (nI p) s _ 0 (nI (i + 1)) = some 0
          unfold f_X8_isFound_b36
          rw [rd_10, q_kb0, if_pos rfl]
          split <;> rfl
    · obtain rfl : i = l := by omega
      refine ⟨1, Or.inr rfl, ?_, ?_⟩
      · rw [if_pos (nI_le (Nat.le_refl _) (by omega))]
      · rw [if_pos (nI_le (Nat.le_refl _) (by omega)), q_kb1]
theorem r_miss {Z p : Nat} {s : Nat → Int32} : ∀ N, 0 < N → f_X8_isFound_l36 Z (nI p) s N 0 0 = some 0 := by
  intro N hN
  obtain ⟨N, rfl⟩ : ∃ m, N = m + 1 := ⟨N - 1, by omega⟩
  show f_X8_isFound_b36 Z (nI p) s _ 0 0 = some 0
  unfold f_X8_isFound_b36
  rw [rd_10, q_kb0, if_pos rfl]
  split <;> rfl
theorem r_none {Z n p0 : Nat} {s : Nat → Int32} {th : Int32} (e0 : s 0 = nI n) (hn : n ≤ 256) : ∀ (N p : Nat), p ≤ n → n < N + p → (∀ p', p ≤ p' → p' < n → f_X8_isFound Z (nI p') s = some 0) → f_X8_find_l21 Z (nI p0) s N (nI p) th = some (-1, th) := by
  intro N
  induction N with
  | zero => intro p h1 h2; omega
  | succ N ih =>
    intro p h1 h2 h3
    show f_X8_find_b21 Z (nI p0) s _ (nI p) th = _
    unfold f_X8_find_b21
    rw [rd_0, tn_0, e0]
    rcases Nat.lt_or_ge p n with h | h
    · rw [if_neg (nI_ge h (by omega)), h3 p (Nat.le_refl _) h, Option.bind_some, if_pos rfl, kl, nI_1]
      exact ih (p + 1) (by omega) (by omega) (fun p' a b => h3 p' (by omega) b)
    · rw [if_pos (nI_le h (by omega))]
theorem o_find {Z n l p0 L : Nat} {F G s : Nat → Int32} {th : Int32} (hZ : 300 ≤ Z) (hn : n ≤ 256) (hL : n ≤ L) (hL2 : L < 2 ^ 30) (hl0 : 0 < l) (hl : l ≤ 60) (e0 : s 0 = nI n) (e10 : s 10 = nI l) (ht : ∀ i, i < n → s (80 + i) = F i) (hc : ∀ i, i < l → s (20 + i) = G i) : ∀ (N p : Nat), p ≤ n → n < N + p → ∃ r, f_X0_firstPlaceOf_l11 Z (nI p0) L 60 (nI n) F (nI l) G N (nI p) = some r ∧ f_X8_find_l21 Z (nI p0) s N (nI p) th = some (r, th) := by
  have out : ∀ p, n < p + l → p ≤ n → f_X8_isFound Z (nI p) s = some 0 := fun p h h2 => by
    unfold f_X8_isFound
    rw [rd_10, rd_10, tn_10, e10, rd_0, tn_0, e0, if_neg (nI_nle hl0 (by omega)), nI_add, if_pos (nI_lt h (by omega))]
    exact r_miss Z (by omega)
  intro N
  induction N with
  | zero => intro p h1 h2; omega
  | succ N ih =>
    intro p h1 h2
    rcases Nat.lt_or_ge n (p + l) with h | h
    · refine ⟨-1, ?_, r_none e0 hn (N + 1) p h1 h2 (fun p' a b => out p' (by omega) (by omega))⟩
      show f_X0_firstPlaceOf_b11 Z (nI p0) L 60 (nI n) F (nI l) G _ (nI p) = _
      unfold f_X0_firstPlaceOf_b11
      rw [if_pos]
      rw [Int32.lt_iff_toInt_lt, pk_sub_toInt (by omega) (by omega), nI_toInt (by omega)]
      omega
    · obtain ⟨b, hb, b1, b2⟩ := o_has (Z := Z) (L := L) (F := F) (G := G) h hn hL hL2 hl e10 ht hc Z 0 Z (by omega) (by omega) (by omega)
      show ∃ r, f_X0_firstPlaceOf_b11 Z (nI p0) L 60 (nI n) F (nI l) G _ (nI p) = some r ∧ f_X8_find_b21 Z (nI p0) s _ (nI p) th = some (r, th)
      unfold f_X0_firstPlaceOf_b11 f_X8_find_b21 f_X0_hasAt f_X8_isFound
      rw [pk_sub (by omega), if_neg (nI_nlt (by omega) (by omega)), show f_X0_hasAt_l2 Z (nI p) L 60 (nI n) F (nI l) G Z 0 = _ from b1, Option.bind_some, rd_0, tn_0, e0, if_neg (nI_ge (by omega) (by omega)), rd_10, rd_10, tn_10, e10, rd_0, if_neg (nI_nle hl0 (by omega)), nI_add, if_neg (nI_nlt h (by omega)), show f_X8_isFound_l36 Z (nI p) s Z 1 0 = _ from b2, Option.bind_some]
      rcases hb with rfl | rfl
      · rw [if_pos rfl, if_pos rfl, kl, kl, nI_1]
        exact ih (p + 1) (by omega) (by omega)
      · rw [if_neg c_01, if_neg c_01]
        exact ⟨_, rfl, rfl⟩
theorem pb_find {Z : Nat} (hZ : 300 ≤ Z) : PB_find Z Rel := by
  intro p1 vCar vGoa vEag tN tF cN cF mP mS kCap kGap kCar kCop kGro kShr bN bF rCmd rLet rNum fCap fGap fCar fCop fGro fShr hX hC hR aTh aSm aLn aAt aWe aRm aBm aHa aS aSv aCm aRd aBy h
  obtain ⟨n, c, g, q, cp, l, ⟨rfl, rfl, rfl, rfl, rfl, rfl⟩, hN⟩ := rs_out h.1
  obtain ⟨⟨hb1, hb2, hb3, hb4, hb5, hb6, hb7⟩, he, ⟨e0, e1, e2, e3, e4, e5, e6, e7, e8, e9, e10⟩, hm, ht, hcl⟩ := hN
  rcases pos_cases p1 (n := n) (by omega) with hp | ⟨j, hj, rfl⟩
  · refine Or.inr ⟨0, ?_, ?_, h⟩
    · unfold f_X7_find
      rw [q_pos_no hp, Option.bind_some, if_pos rfl]
    · unfold f_X8_find
      rw [r_pos_no e0 hp, Option.bind_some, if_pos rfl]
      rfl
  · unfold f_X7_find f_X7_find_c8 f_X8_find f_X0_firstPlaceOf
    rw [q_pos_yes hj (by omega), r_pos_yes e0 hj (by omega), Option.bind_some, Option.bind_some, if_neg c_01, if_neg c_01]
    rcases Nat.eq_zero_or_pos l with hl | hl
    · subst hl
      refine Or.inl ⟨-1, ?_, r_none e0 hb1 Z j hj (by omega) (fun p' a b => ?_), h⟩
      · rw [if_pos nI_0]
        rfl
      · unfold f_X8_isFound
        rw [rd_10, tn_10, e10, if_pos (by decide)]
        exact r_miss Z (by omega)
    · obtain ⟨r, r1, r2⟩ := o_find (Z := Z) (p0 := j) (L := 256) (F := tF) (G := cF) (th := 0) hZ hb1 hb1 (by omega) hl hb5 e0 e10 ht hcl Z j hj (by omega)
      refine Or.inl ⟨r, ?_, r2, h⟩
      rw [if_neg (nI_ne0 hl (by omega)), r1]
      rfl
-- ===== append =====
theorem ap_cases (p : Int32) : (p ≤ 32 ∨ 126 < p) ∧ (p < 33 ∨ 126 < p) ∨ (¬ p ≤ 32 ∧ ¬ 126 < p ∧ ¬ p < 33) := by
  have h1 : p ≤ 32 ↔ p < 33 := by
    rw [Int32.le_iff_toInt_le, Int32.lt_iff_toInt_lt, show (32 : Int32).toInt = 32 from by decide, show (33 : Int32).toInt = 33 from by decide]
    omega
  by_cases a : p < 33
  · exact Or.inl ⟨Or.inl (h1.mpr a), Or.inl a⟩
  · by_cases b : 126 < p
    · exact Or.inl ⟨Or.inr b, Or.inr b⟩
    · exact Or.inr ⟨fun x => a (h1.mp x), b, a⟩
theorem pb_append {Z : Nat} : PB_append Z Rel := by
  intro p1 vCar vGoa vEag tN tF cN cF mP mS kCap kGap kCar kCop kGro kShr bN bF rCmd rLet rNum fCap fGap fCar fCop fGro fShr hX hC hR aTh aSm aLn aAt aWe aRm aBm aHa aS aSv aCm aRd aBy h
  obtain ⟨L, h1, rfl, rfl, h4⟩ := h.2.2
  rcases ap_cases p1 with ⟨a1, a2⟩ | ⟨a1, a2, a3⟩
  · refine Or.inr (Or.inl ⟨0, nI L, aCm, ?_, ?_, h⟩)
    · unfold f_X7_append
      by_cases x : p1 ≤ 32
      · rw [if_pos x, if_pos rfl]
      · rw [if_neg x, if_pos (a1.resolve_left x), if_pos rfl]
    · unfold f_X8_append
      rw [q_in_no a2, Option.bind_some, if_pos rfl]
      rfl
  · by_cases x : L = 60
    · subst x
      refine Or.inr (Or.inr ⟨0, nI 60, aCm, ?_, ?_, h⟩)
      · unfold f_X7_append f_X0_size
        rw [if_neg a1, if_neg a2, if_neg c_01, Option.bind_some, if_pos (by decide), if_pos rfl]
      · unfold f_X8_append
        rw [q_in_yes a3 a2, Option.bind_some, if_neg c_01, if_pos (show nI 60 = (60 : Int32) from rfl)]
        rfl
    · refine Or.inl ⟨nI (L + 1), nI (L + 1), upd (va_cpy bF bF L (L + 1) (L - L)) L p1, nI (L + 1), upd aCm L p1, ?_, ?_, h.1, h.2.1, L + 1, by omega, rfl, rfl, fun i hi => ?_⟩
      · unfold f_X7_append f_X0_size f_X7_append_c43 f_X0_add
        rw [if_neg a1, if_neg a2, if_neg c_01, Option.bind_some, l_60, if_neg (nI_ge (by omega) (by omega)), if_neg c_01, l_1, q_open (by omega) (Nat.le_refl _) (by omega), Option.bind_some]
        dsimp only
        rw [show nI (L + 1) - nI 1 = nI L from pk_sub (b := 1) (by omega), q_put (by omega) (by omega) (by omega)]
        rfl
      · unfold f_X8_append
        rw [q_in_yes a3 a2, Option.bind_some, if_neg c_01, if_neg (by rw [l_60, nI_eq (by omega) (by omega)]; exact x), z_rd (by omega) (by omega), kl, kl, nI_clamp (by omega), nI_1]
      · by_cases y : i = L
        · rw [y, pk_us, pk_us]
        · rw [pk_un y, pk_un y, pk_cpy_out (by omega)]
          exact h4 i (by omega)
-- ===== costs =====
theorem r_growing {Z n k : Nat} {p0 : Int32} (hn : n + k ≤ 256) : ∀ (d N cp : Nat) (x : Int32), d < N → CAP cp → n ≤ cp → 256 ≤ cp * 2 ^ d → f_X8_growing_l5 Z p0 (nI n) (nI k) N x (nI cp) = some (x + nI (gT d cp n k * n)) := by
  intro d
  induction d with
  | zero =>
    intro N cp x h2 h3 h4 h5
    obtain ⟨N, rfl⟩ : ∃ M, N = M + 1 := ⟨N - 1, by omega⟩
    show f_X8_growing_b5 Z p0 (nI n) (nI k) _ x (nI cp) = _
    unfold f_X8_growing_b5 gT
    have h8 := cap_in h3
    rw [pk_sub h4, if_pos (nI_le (by omega) (by omega)), Nat.zero_mul, add_n0]
  | succ d ih =>
    intro N cp x h2 h3 h4 h5
    obtain ⟨N, rfl⟩ : ∃ M, N = M + 1 := ⟨N - 1, by omega⟩
    have hc8 := cap_in h3
    show f_X8_growing_b5 Z p0 (nI n) (nI k) _ x (nI cp) = _
    unfold f_X8_growing_b5 gT
    rw [pk_sub h4]
    by_cases hc : n + k ≤ cp
    · rw [if_pos (nI_le (by omega) (by omega)), if_pos hc, Nat.zero_mul, add_n0]
    · rw [if_neg (nI_ge (by omega) (by omega)), kl, kl, if_neg hc, ← cop_step, l_2, pk_mul]
      exact ih N (cp * 2) _ (by omega) (cap_dbl h3 (by omega)) (by omega) (two_d h5)
theorem o_growing {Z n k cp : Nat} (hZ : 300 ≤ Z) (hn : n + k ≤ 256) (h3 : CAP cp) (h4 : n ≤ cp) : f_X8_growing Z (nI cp) (nI n) (nI k) = some (nI (gT 5 cp n k * n)) := by
  have h8 := cap_in h3
  unfold f_X8_growing
  rw [r_growing hn 5 Z cp 0 (by omega) h3 h4 (by omega), Int32.zero_add]
theorem cost1 {a b x y : Int32} : a + x + (b + y) - (a + b) = x + y := by
  rw [show a + x + (b + y) = x + y + (a + b) by ac_rfl, Int32.add_sub_cancel]
theorem cost2 {a b x y z w : Int32} : a + x + z + (b + y + w) - (a + b) = x + y + z + w := by
  rw [show a + x + z + (b + y + w) = x + y + z + w + (a + b) by ac_rfl, Int32.add_sub_cancel]
theorem pb_costOf {Z : Nat} (hZ : 300 ≤ Z) : PB_costOf Z Rel := by
  intro p1 p2 vCar vGoa vEag tN tF cN cF mP mS kCap kGap kCar kCop kGro kShr bN bF rCmd rLet rNum fCap fGap fCar fCop fGro fShr hX hC hR aTh aSm aLn aAt aWe aRm aBm aHa aS aSv aCm aRd aBy h
  obtain ⟨n, c, g, q, cp, l, ⟨rfl, rfl, rfl, rfl, rfl, rfl⟩, hN⟩ := rs_out h.1
  obtain ⟨⟨hb1, hb2, hb3, hb4, hb5, hb6, hb7⟩, he, ⟨e0, e1, e2, e3, e4, e5, e6, e7, e8, e9, e10⟩, hm, ht, hcl⟩ := hN
  rcases pos_cases p1 (n := n) (by omega) with hp | ⟨j, hj, rfl⟩
  · refine Or.inr (Or.inl ⟨0, ?_, ?_, h⟩)
    · unfold f_X7_costOf
      rw [q_pos_no hp, Option.bind_some, if_pos rfl]
    · unfold f_X8_costOf
      rw [r_pos_no e0 hp, Option.bind_some, if_pos rfl]
      rfl
  · rcases ct_cases Z p2 with ⟨d1, d2⟩ | ⟨k, hk1, hk2, rfl, d1, d2⟩
    · refine Or.inr (Or.inr ⟨0, ?_, ?_, h⟩)
      · unfold f_X7_costOf
        rw [q_pos_yes hj (by omega), Option.bind_some, if_neg c_01, d1, Option.bind_some, if_pos rfl]
      · unfold f_X8_costOf
        rw [r_pos_yes e0 hj (by omega), Option.bind_some, if_neg c_01, d2, Option.bind_some, if_pos rfl]
        rfl
    · have f1 := q_fault (Z := Z) (k := k) hb1 (by omega)
      have f2 := r_room (Z := Z) (k := k) e0 hb1 (by omega)
      by_cases hr : n + k ≤ 256
      · rw [if_pos hr] at f1 f2
        refine Or.inl ⟨nI (dst j g) + nI (gT 5 cp n k * n), nI (gC 5 cp n k), nI (j + k), kCar + nI (dst j g), kCop + nI (gT 5 cp n k * n), kGro + nI (gT 5 cp n k), kShr, ?_, ?_, h⟩
        · unfold f_X7_costOf f_X7_costOf_c15 f_X3_assign f_X0_size f_X3_cost
          rw [q_pos_yes hj (by omega), Option.bind_some, if_neg c_01, d1, Option.bind_some, if_neg c_01, f1, Option.bind_some, if_pos rfl, Option.bind_some]
          dsimp only
          rw [Option.bind_some, q_insertAt hZ (by omega) (by omega) hr hb7 hb6, Option.bind_some]
          dsimp only
          rw [Option.bind_some, Option.bind_some, cost1]
          rfl
        · unfold f_X8_costOf
          rw [r_pos_yes e0 hj (by omega), Option.bind_some, if_neg c_01, d2, Option.bind_some, if_neg c_01, f2, Option.bind_some, if_neg c_01, rd_2, tn_2, e2, r_size (by omega) (by omega), Option.bind_some, rd_3, tn_3, e3, rd_0, tn_0, e0, o_growing hZ hr hb7 hb6, Option.bind_some]
      · rw [if_neg hr] at f1 f2
        refine Or.inl ⟨-1, fCap, fGap, fCar, fCop, fGro, fShr, ?_, ?_, h⟩
        · unfold f_X7_costOf f_X7_costOf_c15
          rw [q_pos_yes hj (by omega), Option.bind_some, if_neg c_01, d1, Option.bind_some, if_neg c_01, f1, Option.bind_some, if_neg c_01]
          rfl
        · unfold f_X8_costOf
          rw [r_pos_yes e0 hj (by omega), Option.bind_some, if_neg c_01, d2, Option.bind_some, if_neg c_01, f2, Option.bind_some, if_pos rfl]
theorem pb_costOfTwo {Z : Nat} (hZ : 300 ≤ Z) : PB_costOfTwo Z Rel := by
  intro p1 p2 vCar vGoa vEag tN tF cN cF mP mS kCap kGap kCar kCop kGro kShr bN bF rCmd rLet rNum fCap fGap fCar fCop fGro fShr hX hC hR aTh aSm aLn aAt aWe aRm aBm aHa aS aSv aCm aRd aBy h
  obtain ⟨n, c, g, q, cp, l, ⟨rfl, rfl, rfl, rfl, rfl, rfl⟩, hN⟩ := rs_out h.1
  obtain ⟨⟨hb1, hb2, hb3, hb4, hb5, hb6, hb7⟩, he, ⟨e0, e1, e2, e3, e4, e5, e6, e7, e8, e9, e10⟩, hm, ht, hcl⟩ := hN
  have h8 := cap_in hb7
  rcases pos_cases p1 (n := n) (by omega) with hp | ⟨a, ha, rfl⟩
  · refine Or.inr ⟨0, ?_, ?_, h⟩
    · unfold f_X7_costOfTwo
      rw [q_pos_no hp, Option.bind_some, if_pos rfl, if_pos rfl]
    · unfold f_X8_costOfTwo
      rw [r_pos_no e0 hp, Option.bind_some, if_pos rfl]
      rfl
  · rcases pos_cases p2 (n := n) (by omega) with hp | ⟨b, hb, rfl⟩
    · refine Or.inr ⟨0, ?_, ?_, h⟩
      · unfold f_X7_costOfTwo
        rw [q_pos_yes ha (by omega), Option.bind_some, if_neg c_01, q_pos_no hp, Option.bind_some, if_pos rfl, if_pos rfl]
      · unfold f_X8_costOfTwo
        rw [r_pos_yes e0 ha (by omega), Option.bind_some, if_neg c_01, r_pos_no e0 hp, Option.bind_some, if_pos rfl]
        rfl
    · have f1 : f_X6_insertFault Z 2 (nI n) = _ := q_fault (Z := Z) (k := 2) hb1 (by omega)
      have f2 : f_X8_hasRoom Z 2 aS = _ := r_room (Z := Z) (k := 2) e0 hb1 (by omega)
      by_cases hr : n + 2 ≤ 256
      · rw [if_pos hr] at f1 f2
        obtain ⟨g1, g2⟩ := g_ok (n := n) (k := 1) (by omega) 5 cp hb7 (by omega)
        have key : ∀ t : Nat, t ≤ 256 → f_X7_costOfTwo_c49 Z (nI a) (nI b) (nI n) (nI cp) (nI g) kCar kCop kGro kShr (nI t) fCap fGap fCar fCop fGro fShr = some (nI (dst a g) + nI (gT 5 cp n 1 * n) + nI (dst t (a + 1)) + nI (gT 5 (gC 5 cp n 1) (n + 1) 1 * (n + 1)), nI (gC 5 (gC 5 cp n 1) (n + 1) 1), nI (t + 1), kCar + nI (dst a g) + nI (dst t (a + 1)), kCop + nI (gT 5 cp n 1 * n) + nI (gT 5 (gC 5 cp n 1) (n + 1) 1 * (n + 1)), kGro + nI (gT 5 cp n 1) + nI (gT 5 (gC 5 cp n 1) (n + 1) 1), kShr) := fun t ht' => by
          unfold f_X7_costOfTwo_c49 f_X3_assign f_X0_size f_X3_cost
          rw [Option.bind_some]
          dsimp only
          rw [Option.bind_some, l_1, q_insertAt hZ (by omega) (by omega) (by omega) hb7 hb6, Option.bind_some]
          dsimp only
          rw [Option.bind_some, nI_add, q_insertAt hZ (by omega) (by omega) (by omega) g1 g2, Option.bind_some]
          dsimp only
          rw [Option.bind_some, Option.bind_some, cost2]
        have hcap : (if nI cp = nI n then 2 * nI cp else nI cp) = nI (gC 5 cp n 1) := by
          unfold gC
          by_cases x : n + 1 ≤ cp
          · rw [if_pos x, if_neg (by rw [nI_eq (by omega) (by omega)]; omega)]
          · rw [if_neg x]
            unfold gC
            rw [if_pos (show n + 1 ≤ cp * 2 by omega), if_pos (by rw [nI_eq (by omega) (by omega)]; omega), l_2, pk_mul, Nat.mul_comm]
        have rkey : ∀ t : Nat, t ≤ 256 → (f_X8_size Z (nI (a + 1) - nI t)) = some (nI (dst t (a + 1))) := fun t ht' => r_size (by omega) (by omega)
        have gr2 : f_X8_growing Z (nI (gC 5 cp n 1)) (nI (n + 1)) 1 = _ := o_growing (Z := Z) (n := n + 1) (k := 1) hZ (by omega) g1 g2
        have gr1 : f_X8_growing Z (nI cp) (nI n) 1 = _ := o_growing (Z := Z) (n := n) (k := 1) hZ (by omega) hb7 hb6
        by_cases w : b < a
        · refine Or.inl ⟨nI (dst a g) + nI (gT 5 cp n 1 * n) + nI (dst b (a + 1)) + nI (gT 5 (gC 5 cp n 1) (n + 1) 1 * (n + 1)), nI (gC 5 (gC 5 cp n 1) (n + 1) 1), nI (b + 1), kCar + nI (dst a g) + nI (dst b (a + 1)), kCop + nI (gT 5 cp n 1 * n) + nI (gT 5 (gC 5 cp n 1) (n + 1) 1 * (n + 1)), kGro + nI (gT 5 cp n 1) + nI (gT 5 (gC 5 cp n 1) (n + 1) 1), kShr, ?_, ?_, h⟩
          · unfold f_X7_costOfTwo f_X7_costOfTwo_c24
            rw [q_pos_yes ha (by omega), Option.bind_some, if_neg c_01, q_pos_yes hb (by omega), Option.bind_some, if_neg c_01, if_neg c_01, f1, Option.bind_some, if_pos rfl, if_pos (nI_lt w (by omega)), key b (by omega)]
            rfl
          · unfold f_X8_costOfTwo
            rw [r_pos_yes e0 ha (by omega), Option.bind_some, if_neg c_01, r_pos_yes e0 hb (by omega), Option.bind_some, if_neg c_01, f2, Option.bind_some, if_neg c_01, rd_3, tn_3, e3, rd_0, tn_0, e0, gr1, Option.bind_some, rd_3, rd_0]
            by_cases x : nI cp = nI n
            · rw [if_pos x] at hcap ⊢
              rw [rd_3, kl, if_pos (nI_lt w (by omega)), rd_2, tn_2, e2, r_size (by omega) (by omega), Option.bind_some, nI_1, rkey b (by omega), Option.bind_some, rd_0, nI_1, hcap, gr2, Option.bind_some]
            · rw [if_neg x] at hcap ⊢
              rw [rd_3, kl, if_pos (nI_lt w (by omega)), rd_2, tn_2, e2, r_size (by omega) (by omega), Option.bind_some, nI_1, rkey b (by omega), Option.bind_some, rd_0, nI_1, hcap, gr2, Option.bind_some]
        · refine Or.inl ⟨nI (dst a g) + nI (gT 5 cp n 1 * n) + nI (dst (b + 1) (a + 1)) + nI (gT 5 (gC 5 cp n 1) (n + 1) 1 * (n + 1)), nI (gC 5 (gC 5 cp n 1) (n + 1) 1), nI (b + 1 + 1), kCar + nI (dst a g) + nI (dst (b + 1) (a + 1)), kCop + nI (gT 5 cp n 1 * n) + nI (gT 5 (gC 5 cp n 1) (n + 1) 1 * (n + 1)), kGro + nI (gT 5 cp n 1) + nI (gT 5 (gC 5 cp n 1) (n + 1) 1), kShr, ?_, ?_, h⟩
          · unfold f_X7_costOfTwo f_X7_costOfTwo_c24
            rw [q_pos_yes ha (by omega), Option.bind_some, if_neg c_01, q_pos_yes hb (by omega), Option.bind_some, if_neg c_01, if_neg c_01, f1, Option.bind_some, if_pos rfl, if_neg (nI_nlt (by omega) (by omega)), nI_1, key (b + 1) (by omega)]
            rfl
          · unfold f_X8_costOfTwo
            rw [r_pos_yes e0 ha (by omega), Option.bind_some, if_neg c_01, r_pos_yes e0 hb (by omega), Option.bind_some, if_neg c_01, f2, Option.bind_some, if_neg c_01, rd_3, tn_3, e3, rd_0, tn_0, e0, gr1, Option.bind_some, rd_3, rd_0]
            by_cases x : nI cp = nI n
            · rw [if_pos x] at hcap ⊢
              rw [rd_3, kl, if_neg (nI_nlt (by omega) (by omega)), kl, rd_2, tn_2, e2, r_size (by omega) (by omega), Option.bind_some, nI_1, nI_1, rkey (b + 1) (by omega), Option.bind_some, rd_0, nI_1, hcap, gr2, Option.bind_some]
            · rw [if_neg x] at hcap ⊢
              rw [rd_3, kl, if_neg (nI_nlt (by omega) (by omega)), kl, rd_2, tn_2, e2, r_size (by omega) (by omega), Option.bind_some, nI_1, nI_1, rkey (b + 1) (by omega), Option.bind_some, rd_0, nI_1, hcap, gr2, Option.bind_some]
      · rw [if_neg hr] at f1 f2
        refine Or.inl ⟨-1, fCap, fGap, fCar, fCop, fGro, fShr, ?_, ?_, h⟩
        · unfold f_X7_costOfTwo f_X7_costOfTwo_c24
          rw [q_pos_yes ha (by omega), Option.bind_some, if_neg c_01, q_pos_yes hb (by omega), Option.bind_some, if_neg c_01, if_neg c_01, f1, Option.bind_some, if_neg c_01]
          rfl
        · unfold f_X8_costOfTwo
          rw [r_pos_yes e0 ha (by omega), Option.bind_some, if_neg c_01, r_pos_yes e0 hb (by omega), Option.bind_some, if_neg c_01, f2, Option.bind_some, if_pos rfl]
