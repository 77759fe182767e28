-- ===== holds =====
section HOLDS
variable {vCar kCap kGap : Int32} {tF mP : Nat → Int32}
theorem h_breaks {n : Nat} (hn : n ≤ 256) : ∀ (N i : Nat), i ≤ n → n < N + i → f_L_holds_l233 4000 vCar (nI n) tF mP kCap kGap N (nI n) (nI (brk tF i)) (nI i) = some 1 := by
  intro N
  induction N with
  | zero => intro i h1 h2; omega
  | succ N ih =>
    intro i h1 h2
    show f_L_holds_b233 4000 vCar (nI n) tF mP kCap kGap (f_L_holds_l233 4000 vCar (nI n) tF mP kCap kGap N) (nI n) (nI (brk tF i)) (nI i) = _
    unfold f_L_holds_b233
    rcases Nat.lt_or_ge i n with h | h
    · rw [if_neg (nI_ge h (by omega)), x_byte h hn, Option.bind_some]
      have hb : brk tF (i + 1) = brk tF i + if tF i = 10 then 1 else 0 := rfl
      have := ih (i + 1) (by omega) (by omega)
      rw [hb] at this
      by_cases hF : tF i = 10
      · rw [if_pos hF] at this ⊢
        rw [kl, kl, nI_1, nI_1]
        exact this
      · rw [if_neg hF] at this ⊢
        rw [kl, kl, z_p0, nI_1]
        exact this
    · obtain rfl : i = n := by omega
      rw [if_pos (nI_le (Nat.le_refl _) (by omega)), x_lines (by omega) hn, Option.bind_some, nI_1, if_pos rfl, x_lineOf (by omega) (Nat.le_refl _) hn, Option.bind_some, if_pos rfl]
theorem h_marks {n : Nat} (hn : n ≤ 256) (hm : ∀ m, m < 4 → mP m = -1 ∨ ∃ p, p ≤ n ∧ mP m = nI p) : ∀ (N m : Nat), m ≤ 4 → 4 < N + m → f_L_holds_l193 4000 vCar (nI n) tF mP kCap kGap N (nI n) (nI m) = some 1 := by
  intro N
  induction N with
  | zero => intro i h1 h2; omega
  | succ N ih =>
    intro m h1 h2
    show f_L_holds_b193 4000 vCar (nI n) tF mP kCap kGap (f_L_holds_l193 4000 vCar (nI n) tF mP kCap kGap N) (nI n) (nI m) = _
    unfold f_L_holds_b193
    rcases Nat.lt_or_ge m 4 with h | h
    · have a1 : ¬ mP m < -1 := by
        rcases hm m h with e | ⟨p, hp, e⟩
        · rw [e]
          decide
        · rw [e, Int32.lt_iff_toInt_lt, nI_toInt (by omega), show (-1 : Int32).toInt = -1 from by decide]
          omega
      have a2 : mP m ≤ nI n := by
        rcases hm m h with e | ⟨p, hp, e⟩
        · rw [e]
          exact m1_le (by omega)
        · rw [e]
          exact nI_le hp (by omega)
      rw [l_4, if_neg (nI_ge h (by omega)), x_mark h, Option.bind_some, if_neg a1, Option.bind_some, if_pos a2, kl, nI_1]
      exact ih (m + 1) (by omega) (by omega)
    · obtain rfl : m = 4 := by omega
      rw [l_4, if_pos (nI_le (Nat.le_refl _) (by omega))]
      exact h_breaks hn 4000 0 (by omega) (by omega)
end HOLDS
theorem h_cells {n g cp : Nat} {vCar : Int32} {tF mP : Nat → Int32} (hn : n ≤ 256) (hcp : cp ≤ 256) (hg : g ≤ n) (hnc : n ≤ cp) (hm : ∀ m, m < 4 → mP m = -1 ∨ ∃ p, p ≤ n ∧ mP m = nI p) : ∀ (N k : Nat), k ≤ cp → cp < N + k → f_L_holds_l126 4000 vCar (nI n) tF mP (nI cp) (nI g) N (nI n) (nI cp) (nI g) (nI (cp - n)) (nI k) = some 1 := by
  intro N
  induction N with
  | zero => intro i h1 h2; omega
  | succ N ih =>
    intro k h1 h2
    show f_L_holds_b126 4000 vCar (nI n) tF mP (nI cp) (nI g) (f_L_holds_l126 4000 vCar (nI n) tF mP (nI cp) (nI g) N) (nI n) (nI cp) (nI g) (nI (cp - n)) (nI k) = _
    unfold f_L_holds_b126
    rcases Nat.lt_or_ge k cp with h | h
    · have hc := x_cell (Z := 4000) (tF := tF) h hn hcp hg hnc
      unfold cellV at hc
      rw [if_neg (nI_ge h (by omega))]
      by_cases a : k < g
      · rw [if_pos a] at hc
        rw [if_neg (nI_ge a (by omega)), x_byte (by omega) hn, Option.bind_some, hc, Option.bind_some, if_pos rfl, kl, nI_1]
        exact ih (k + 1) (by omega) (by omega)
      · rw [if_neg a] at hc
        rw [if_pos (nI_le (by omega) (by omega)), nI_add]
        by_cases b : k < g + (cp - n)
        · rw [if_pos b] at hc
          rw [if_neg (nI_ge b (by omega)), hc, Option.bind_some, if_pos rfl, kl, nI_1]
          exact ih (k + 1) (by omega) (by omega)
        · rw [if_neg b] at hc
          rw [if_pos (nI_le (by omega) (by omega)), pk_sub (by omega), x_byte (by omega) hn, Option.bind_some, hc, Option.bind_some, if_pos rfl, kl, nI_1]
          exact ih (k + 1) (by omega) (by omega)
    · obtain rfl : k = cp := by omega
      rw [if_pos (nI_le (Nat.le_refl _) (by omega))]
      exact h_marks hn hm 4000 0 (by omega) (by omega)
theorem h_holds {B : Nat} {vCar : Int32} {vGoa : Int32} {vEag : Int32} {tN : Int32} {tF : Nat → Int32} {cN : Int32} {cF : Nat → Int32} {mP : Nat → Int32} {mS : Nat → Int32} {kCap : Int32} {kGap : Int32} {kCar : Int32} {kCop : Int32} {kGro : Int32} {kShr : Int32} {hX hC : Int32} {hR : Nat → StT} {s : Nat → Int32} {S : List (Nat → Int32)} (G : GS B vCar vGoa vEag tN tF cN cF mP mS kCap kGap kCar kCop kGro kShr hX hC hR s S) : f_L_holds 4000 vCar tN tF mP kCap kGap = some 1 := by
  obtain ⟨n, c, g, q, cp, l, ⟨rfl, rfl, rfl, rfl, rfl, rfl⟩, hN⟩ := rs_out G.1
  obtain ⟨z1, -⟩ := ki_out hN G.2.1
  obtain ⟨⟨hb1, hb2, hb3, hb4, hb5, hb6, hb7⟩, he, -, hm, -, -⟩ := hN
  have h8 := cap_in hb7
  have k89 : f_L_holds_c89 4000 (nI c) (nI n) tF mP (nI cp) (nI g) (nI n) (nI cp) (nI g) (nI (cp - n)) = some 1 := by
    unfold f_L_holds_c89 f_X7_caret
    rw [pk_sub hb6, if_pos rfl, if_neg (nI_pos (by omega)), if_neg (nI_nlt hb3 (by omega)), Option.bind_some, if_neg (nI_pos (by omega)), Option.bind_some, if_pos (nI_le hb2 (by omega))]
    exact h_cells hb1 h8.2 hb3 hb6 (fun m h => (hm m h).2.2) 4000 0 (by omega) (by omega)
  have k59 : f_L_holds_c59 4000 (nI c) (nI n) tF mP (nI cp) (nI g) (nI n) (nI cp) (nI g) (nI (cp - n)) = some 1 := by
    unfold f_L_holds_c59 f_L_holds_c64
    rw [if_neg c_01, if_neg (nI_nlt hb6 (by omega)), l_8, l_4, pk_mul]
    by_cases h : cp ≤ 8
    · rw [if_pos (nI_le h (by omega))]
      exact k89
    · rw [if_neg (nI_ge (by omega) (by omega)), if_neg (nI_ge (by omega) (by omega))]
      exact k89
  unfold f_L_holds f_X7_length f_X7_capacity f_X7_gapStart f_X7_room f_X0_size
  rw [Option.bind_some, Option.bind_some, Option.bind_some, Option.bind_some, Option.bind_some, Option.bind_some, pk_sub hb6]
  unfold CAP at hb7
  rcases hb7 with rfl | rfl | rfl | rfl | rfl | rfl
  · rw [if_pos (by decide)]
    exact k59
  · rw [if_neg (by decide), if_pos (by decide)]
    exact k59
  · rw [if_neg (by decide), if_neg (by decide), if_pos (by decide)]
    exact k59
  · rw [if_neg (by decide), if_neg (by decide), if_neg (by decide), if_pos (by decide)]
    exact k59
  · rw [if_neg (by decide), if_neg (by decide), if_neg (by decide), if_neg (by decide), if_pos (by decide)]
    exact k59
  · rw [if_neg (by decide), if_neg (by decide), if_neg (by decide), if_neg (by decide), if_neg (by decide), if_pos (by decide)]
    exact k59
