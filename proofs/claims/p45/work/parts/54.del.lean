-- ===== shrinking =====
def sC : Nat → Nat → Nat → Nat
  | 0, cp, _ => cp
  | d + 1, cp, n => if 8 < cp ∧ n ≤ cp / 4 then sC d (cp / 2) n else cp
def sT : Nat → Nat → Nat → Nat
  | 0, _, _ => 0
  | d + 1, cp, n => if 8 < cp ∧ n ≤ cp / 4 then sT d (cp / 2) n + 1 else 0
theorem s_ok {n : Nat} : ∀ (d cp : Nat), CAP cp → n ≤ cp → CAP (sC d cp n) ∧ n ≤ sC d cp n
  | 0, cp, h, h2 => ⟨h, h2⟩
  | d + 1, cp, h, h2 => by
    unfold sC
    by_cases hc : 8 < cp ∧ n ≤ cp / 4
    · rw [if_pos hc]
      exact s_ok d (cp / 2) (cap_half h hc.1).1 (by omega)
    · rw [if_neg hc]
      exact ⟨h, h2⟩
theorem q_shrink {Z n : Nat} {p1 p2 G C : Int32} (hn : n ≤ 256) : ∀ (d i N cp : Nat) (cop shr : Int32), i + d = 5 → d < N → CAP cp → f_X3_deleteAt_l14 Z p1 p2 (nI n) N (nI i) (nI cp) G C cop shr = some (nI (sC d cp n), G, C, cop + nI (sT d cp n * n), shr + nI (sT d cp n)) := by
  intro d
  induction d with
  | zero =>
    intro i N cp cop shr h1 h2 h3
    obtain ⟨N, rfl⟩ : ∃ M, N = M + 1 := ⟨N - 1, by omega⟩
    show f_X3_deleteAt_b14 Z p1 p2 (nI n) _ (nI i) (nI cp) G C cop shr = _
    unfold f_X3_deleteAt_b14 sC sT
    rw [l_5, if_pos (nI_le (by omega) (by omega)), Nat.zero_mul, add_n0, add_n0]
  | succ d ih =>
    intro i N cp cop shr h1 h2 h3
    obtain ⟨N, rfl⟩ : ∃ M, N = M + 1 := ⟨N - 1, by omega⟩
    show f_X3_deleteAt_b14 Z p1 p2 (nI n) _ (nI i) (nI cp) G C cop shr = _
    unfold f_X3_deleteAt_b14 sC sT f_X3_isTooLarge
    have hc8 := cap_in h3
    rw [l_5, if_neg (nI_ge (by omega) (by omega)), l_8, l_4, pk_div (by omega) (by omega) (by omega)]
    by_cases hc : 8 < cp ∧ n ≤ cp / 4
    · rw [if_neg (nI_ge (by omega) (by omega)), if_neg (nI_nlt (by omega) (by omega)), Option.bind_some, if_neg c_01, kl, kl, kl, kl, if_pos hc, if_pos hc, ← cop_step, ← gro_step, l_2, pk_div (by omega) (by omega) (by omega), nI_1]
      exact ih (i + 1) N (cp / 2) _ _ (by omega) (by omega) (cap_half h3 hc.1).1
    · rw [if_neg hc, if_neg hc, Nat.zero_mul, add_n0, add_n0]
      by_cases h8 : cp ≤ 8
      · rw [if_pos (nI_le (by omega) (by omega)), Option.bind_some, if_pos rfl]
      · rw [if_neg (nI_ge (by omega) (by omega)), if_pos (nI_lt (by omega) (by omega)), Option.bind_some, if_pos rfl]
theorem r_shrink {Z n : Nat} {p1 p2 : Int32} (hn : n ≤ 256) : ∀ (d N cp : Nat) (s : Nat → Int32), d < N → CAP cp → cp ≤ 8 * 2 ^ d → s 0 = nI n → s 3 = nI cp → ∃ s', f_X8_deletes_l183 Z p1 p2 N s = (f_X8_setsGoal Z s').bind (fun a => some a) ∧ s' 3 = nI (sC d cp n) ∧ s' 5 = s 5 + nI (sT d cp n * n) ∧ s' 7 = s 7 + nI (sT d cp n) ∧ ∀ i, i ≠ 3 → i ≠ 5 → i ≠ 7 → s' i = s i := by
  intro d
  induction d with
  | zero =>
    intro N cp s h2 h3 h4 e0 e3
    obtain ⟨N, rfl⟩ : ∃ M, N = M + 1 := ⟨N - 1, by omega⟩
    refine ⟨s, ?_, e3, ?_, ?_, fun i _ _ _ => rfl⟩
    · show f_X8_deletes_b183 Z p1 p2 _ s = _
      unfold f_X8_deletes_b183
      have h8 := cap_in h3
      rw [l_3, z_rd (by omega) (by omega), nI_clamp (by omega), e3, l_8, if_pos (nI_le (by omega) (by omega))]
    · unfold sT
      rw [Nat.zero_mul, add_n0]
    · unfold sT
      rw [add_n0]
  | succ d ih =>
    intro N cp s h2 h3 h4 e0 e3
    obtain ⟨N, rfl⟩ : ∃ M, N = M + 1 := ⟨N - 1, by omega⟩
    have hc8 := cap_in h3
    show ∃ s', f_X8_deletes_b183 Z p1 p2 _ s = _ ∧ _
    unfold f_X8_deletes_b183 sC sT
    by_cases hc : 8 < cp ∧ n ≤ cp / 4
    · have hh := cap_half h3 hc.1
      obtain ⟨s', i1, i2, i3, i4, i5⟩ := ih N (cp / 2) (upd (upd (upd s 3 (nI (cp / 2))) 5 (s 5 + nI n)) 7 (s 7 + 1)) (by omega) hh.1 (by rw [Nat.pow_succ] at h4; omega) e0 rfl
      refine ⟨s', ?_, ?_, ?_, ?_, fun i a b c => ?_⟩
      · rw [← i1]
        simp (disch := omega) only [l_0, l_1, l_2, l_3, l_4, l_5, l_6, l_7, l_8, l_9, l_10, l_12, l_16, l_20, l_80, l_60, nI_add, pk_mul, pk_sub, z_rd, nI_clamp, z_le, z_lt, z_eq, kl, Option.bind_some, pk_us, pk_un, upd_e, e0, e3, pk_div]
        rw [if_neg (by omega), if_neg (by omega)]
      · rw [if_pos hc]
        exact i2
      · rw [if_pos hc, i3, ← cop_step]
        rfl
      · rw [if_pos hc, i4, ← gro_step]
        rfl
      · rw [i5 i a b c, pk_un c, pk_un b, pk_un a]
    · refine ⟨s, ?_, ?_, ?_, ?_, fun i _ _ _ => rfl⟩
      · rw [l_3, z_rd (by omega) (by omega), nI_clamp (by omega), e3, l_8]
        by_cases h8 : cp ≤ 8
        · rw [if_pos (nI_le (by omega) (by omega))]
        · rw [if_neg (nI_ge (by omega) (by omega)), l_0, z_rd (by omega) (by omega), z_rd (by omega) (by omega), nI_clamp (by omega), e0, l_4, pk_mul, if_pos (nI_lt (by omega) (by omega))]
      · rw [if_neg hc]
        exact e3
      · rw [if_neg hc, Nat.zero_mul, add_n0]
      · rw [if_neg hc, add_n0]
-- ===== the text moves down =====
theorem r_down {Z p k n : Nat} (hp : p + k ≤ n) (hn : n ≤ 256) : ∀ (N x : Nat) (s : Nat → Int32), p ≤ x → x ≤ n - k → n - k < N + x → s 0 = nI n → ∃ s', f_X8_deletes_l22 Z (nI p) (nI k) N (nI x) s = f_X8_deletes_l77 Z (nI p) (nI k) Z (nI (n - k)) s' ∧ ∀ i, s' i = if i = 0 then nI (n - k) else if 80 + x ≤ i ∧ i < 80 + (n - k) then s (i + k) else s i := by
  intro N
  induction N with
  | zero => intro x s h1 h2 h3; omega
  | succ N ih =>
    intro x s h1 h2 h3 e0
    show ∃ s', f_X8_deletes_b22 Z (nI p) (nI k) _ (nI x) s = _ ∧ _
    unfold f_X8_deletes_b22
    rcases Nat.lt_or_ge x (n - k) with h | h
    · obtain ⟨s', i1, i2⟩ := ih (x + 1) (upd s (80 + x) (s (80 + x + k))) (by omega) (by omega) (by omega) (by rw [pk_un (by omega), e0])
      refine ⟨s', ?_, fun i => ?_⟩
      · rw [← i1]
        simp (disch := omega) only [l_0, l_1, l_2, l_3, l_4, l_5, l_6, l_7, l_8, l_9, l_10, l_12, l_16, l_20, l_80, l_60, nI_add, pk_mul, pk_sub, z_rd, nI_clamp, z_le, z_lt, z_eq, kl, Option.bind_some, pk_us, pk_un, upd_e, e0]
        rw [if_neg (by omega)]
      · rw [i2]
        unfold upd
        by_cases z : i = 0
        · rw [if_pos z, if_pos z]
        · rw [if_neg z, if_neg z]
          by_cases a : i = 80 + x
          · subst a
            rw [if_neg (by omega), if_pos rfl, if_pos (by omega)]
          · by_cases b : 80 + (x + 1) ≤ i ∧ i < 80 + (n - k)
            · rw [if_pos b, if_neg (by omega), if_pos (by omega)]
            · rw [if_neg b, if_neg a, if_neg (by omega)]
    · obtain rfl : x = n - k := by omega
      refine ⟨upd s 0 (nI (n - k)), ?_, fun i => ?_⟩
      · simp (disch := omega) only [l_0, l_1, l_2, l_3, l_4, l_5, l_6, l_7, l_8, l_9, l_10, l_12, l_16, l_20, l_80, l_60, nI_add, pk_mul, pk_sub, z_rd, nI_clamp, z_le, z_lt, z_eq, kl, Option.bind_some, pk_us, pk_un, upd_e, e0]
        rw [if_pos (by omega)]
      · unfold upd
        by_cases z : i = 0
        · rw [if_pos z, if_pos z]
        · rw [if_neg z, if_neg z, if_neg (by omega)]
theorem r_zero {Z p k n : Nat} (hk : k ≤ n) (hn : n ≤ 256) : ∀ (N x : Nat) (s : Nat → Int32), x ≤ n → n < N + x → s 0 = nI (n - k) → ∃ s', f_X8_deletes_l77 Z (nI p) (nI k) N (nI x) s = f_X8_deletes_l107 Z (nI p) (nI k) Z 0 s' ∧ ∀ i, s' i = if 80 + x ≤ i ∧ i < 80 + n then 0 else s i := by
  intro N
  induction N with
  | zero => intro x s h1 h2; omega
  | succ N ih =>
    intro x s h1 h2 e0
    show ∃ s', f_X8_deletes_b77 Z (nI p) (nI k) _ (nI x) s = _ ∧ _
    unfold f_X8_deletes_b77
    rw [rd_0, tn_0, e0, nI_add, Nat.sub_add_cancel hk]
    rcases Nat.lt_or_ge x n with h | h
    · obtain ⟨s', i1, i2⟩ := ih (x + 1) (upd s (80 + x) 0) (by omega) (by omega) (by rw [pk_un (by omega), e0])
      refine ⟨s', ?_, fun i => ?_⟩
      · rw [← i1, if_neg (nI_ge h (by omega)), z_80, z_rd (by omega) (by omega), kl, kl, nI_clamp (by omega), nI_1]
      · rw [i2]
        unfold upd
        by_cases a : i = 80 + x
        · subst a
          rw [if_neg (by omega), if_pos rfl, if_pos (by omega)]
        · by_cases b : 80 + (x + 1) ≤ i ∧ i < 80 + n
          · rw [if_pos b, if_pos (by omega)]
          · rw [if_neg b, if_neg a, if_neg (by omega)]
    · obtain rfl : x = n := by omega
      refine ⟨s, ?_, fun i => ?_⟩
      · rw [if_pos (nI_le (Nat.le_refl _) (by omega))]
      · rw [if_neg (by omega)]
-- ===== marks =====
def mD (p k : Nat) (v : Int32) : Int32 := if v ≤ nI p then v else if nI p < v - nI k then v - nI k else nI p
theorem q_dmarks {Z p k : Nat} : ∀ (N m : Nat) (F : Nat → Int32), m ≤ 4 → 4 < N + m → ∃ F', f_X4_shiftForDeletion_l2 Z (nI p) (nI k) N (nI m) F = some F' ∧ ∀ i, i < 4 → F' i = if m ≤ i then mD p k (F i) else F i := by
  intro N
  induction N with
  | zero => intro m F h1 h2; omega
  | succ N ih =>
    intro m F h1 h2
    show ∃ F', f_X4_shiftForDeletion_b2 Z (nI p) (nI k) _ (nI m) F = _ ∧ _
    unfold f_X4_shiftForDeletion_b2
    rcases Nat.lt_or_ge m 4 with h | h
    · have go : ∀ G : Nat → Int32, (∀ i, G i = if i = m then mD p k (F m) else F i) → ∃ F', f_X4_shiftForDeletion_l2 Z (nI p) (nI k) N (nI (m + 1)) G = some F' ∧ ∀ i, i < 4 → F' i = if m ≤ i then mD p k (F i) else F i := fun G hG => by
        obtain ⟨F', i1, i2⟩ := ih (m + 1) G (by omega) (by omega)
        refine ⟨F', i1, fun i hi => ?_⟩
        rw [i2 i hi, hG]
        by_cases a : i = m
        · subst a
          rw [if_neg (by omega), if_pos rfl, if_pos (by omega)]
        · rw [if_neg a]
          by_cases b : m + 1 ≤ i
          · rw [if_pos b, if_pos (by omega)]
          · rw [if_neg b, if_neg (by omega)]
      rw [l_4, if_neg (nI_ge h (by omega))]
      simp (disch := omega) only [z_rd, nI_clamp, kl, nI_1]
      by_cases h1 : F m ≤ nI p
      · rw [if_pos h1]
        refine go _ fun i => ?_
        by_cases a : i = m
        · rw [if_pos a, a]
          unfold mD
          rw [if_pos h1]
        · rw [if_neg a]
      · rw [if_neg h1]
        refine go _ fun i => ?_
        unfold upd mD
        rw [if_neg h1]
    · obtain rfl : m = 4 := by omega
      refine ⟨F, ?_, fun i hi => ?_⟩
      · rw [l_4, if_pos (nI_le (Nat.le_refl _) (by omega))]
      · rw [if_neg (by omega)]
theorem r_dmarks {Z p k : Nat} : ∀ (N m : Nat) (s : Nat → Int32), m ≤ 4 → 4 < N + m → ∃ s', f_X8_deletes_l107 Z (nI p) (nI k) N (nI m) s = f_X8_deletes_l183 Z (nI p) (nI k) Z (upd (upd s' 1 (nI p)) 2 (nI p)) ∧ ∀ i, s' i = if 12 + m ≤ i ∧ i < 16 then mD p k (s i) else s i := by
  intro N
  induction N with
  | zero => intro m s h1 h2; omega
  | succ N ih =>
    intro m s h1 h2
    show ∃ s', f_X8_deletes_b107 Z (nI p) (nI k) _ (nI m) s = _ ∧ _
    unfold f_X8_deletes_b107
    rcases Nat.lt_or_ge m 4 with h | h
    · have go : ∀ v : Int32, v = mD p k (s (12 + m)) → ∃ s', f_X8_deletes_l107 Z (nI p) (nI k) N (nI (m + 1)) (upd s (12 + m) v) = f_X8_deletes_l183 Z (nI p) (nI k) Z (upd (upd s' 1 (nI p)) 2 (nI p)) ∧ ∀ i, s' i = if 12 + m ≤ i ∧ i < 16 then mD p k (s i) else s i := fun v hv => by
        obtain ⟨s', i1, i2⟩ := ih (m + 1) (upd s (12 + m) v) (by omega) (by omega)
        refine ⟨s', i1, fun i => ?_⟩
        rw [i2 i]
        unfold upd
        by_cases a : i = 12 + m
        · subst a
          rw [if_neg (by omega), if_pos rfl, if_pos (by omega), hv]
        · by_cases b : 12 + (m + 1) ≤ i ∧ i < 16
          · rw [if_pos b, if_neg a, if_pos (by omega)]
          · rw [if_neg b, if_neg a, if_neg (by omega)]
      rw [l_4, if_neg (nI_ge h (by omega))]
      simp (disch := omega) only [z_12, z_rd, nI_clamp, kl, nI_1]
      by_cases h1 : s (12 + m) - nI k ≤ nI p
      · rw [if_pos h1]
        by_cases h2 : s (12 + m) ≤ nI p
        · rw [if_pos h2]
          exact go _ (by unfold mD; rw [if_pos h2])
        · rw [if_neg h2]
          exact go _ (by unfold mD; rw [if_neg h2, if_neg (by rw [← Int32.not_le]; exact fun a => a h1)])
      · rw [if_neg h1]
        by_cases h2 : s (12 + m) ≤ nI p
        · rw [if_pos h2]
          exact go _ (by unfold mD; rw [if_pos h2])
        · rw [if_neg h2]
          exact go _ (by unfold mD; rw [if_neg h2, if_pos (Int32.not_le.mp h1)])
    · obtain rfl : m = 4 := by omega
      refine ⟨s, ?_, fun i => ?_⟩
      · rw [l_4, if_pos (nI_le (Nat.le_refl _) (by omega)), rd_1, tn_1, kl, rd_2, tn_2, kl]
      · rw [if_neg (by omega)]
theorem m1_le {c : Nat} (hc : c < 2 ^ 31) : (-1 : Int32) ≤ nI c := by
  rw [Int32.le_iff_toInt_le, nI_toInt hc, show (-1 : Int32).toInt = -1 from by decide]
  omega
theorem mD_in {n p k : Nat} {v : Int32} (hn : n ≤ 256) (hp : p + k ≤ n) (h : v = -1 ∨ ∃ j, j ≤ n ∧ v = nI j) : mD p k v = -1 ∨ ∃ j, j ≤ n - k ∧ mD p k v = nI j := by
  rcases h with rfl | ⟨j, hj, rfl⟩
  · refine Or.inl ?_
    unfold mD
    rw [if_pos (m1_le (by omega))]
  · refine Or.inr ?_
    unfold mD
    by_cases h1 : j ≤ p
    · rw [if_pos (nI_le h1 (by omega))]
      exact ⟨j, by omega, rfl⟩
    · rw [if_neg (nI_ge (by omega) (by omega))]
      by_cases h2 : k ≤ j
      · rw [pk_sub h2]
        by_cases h3 : p < j - k
        · rw [if_pos (nI_lt h3 (by omega))]
          exact ⟨j - k, by omega, rfl⟩
        · rw [if_neg (nI_nlt (by omega) (by omega))]
          exact ⟨p, by omega, rfl⟩
      · have h4 : nI j - nI k < 0 := pk_sneg (by omega) (by omega)
        rw [if_neg (fun h5 => by
          rw [Int32.lt_iff_toInt_lt, nI_toInt (by omega)] at h5
          rw [Int32.lt_iff_toInt_lt, show (0 : Int32).toInt = 0 from by decide] at h4
          omega)]
        exact ⟨p, by omega, rfl⟩
-- ===== deletion, both =====
