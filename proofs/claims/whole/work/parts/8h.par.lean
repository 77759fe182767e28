-- ===== the reader of commands =====
def Scan (Z : Nat) (F : Nat → Int32) : Nat → Nat → Int32 → Int32 → Int32 → Int32 → Int32 → Int32 → Prop
  | 0, _, c, l, n, c', l', n' => c = c' ∧ l = l' ∧ n = n'
  | k + 1, a, c, l, n, c', l', n' => F a ≠ 59 ∧ ∃ c1 l1 n1, f_X5_accept Z (F a) c l n = some (1, c1, l1, n1) ∧ Scan Z F k (a + 1) c1 l1 n1 c' l' n'
def Bad (Z L : Nat) (F : Nat → Int32) (a : Nat) (c l n : Int32) : Prop := (a < L → ∃ x y z, f_X5_accept Z (F a) c l n = some (0, x, y, z)) ∧ (L ≤ a → f_X5_isAtEnd Z c l n = some 0)
def EndOk (Z L : Nat) (F : Nat → Int32) (a : Nat) (c l n : Int32) : Prop := f_X5_isAtEnd Z c l n = some 1 ∧ (a < L → F a ≠ 59 → ∃ x y z, f_X5_accept Z (F a) c l n = some (0, x, y, z)) ∧ c ≠ -1
theorem sign_in {Z L a : Nat} {G : Nat → Int32} (hL : L ≤ 60) (h : a < L) : f_X8_sign Z (nI L) (nI a) G = some (G a) := by
  unfold f_X8_sign
  rw [if_neg (nI_ge h (by omega)), z_rd (by omega) (by omega), nI_clamp (by omega)]
theorem sign_out {Z L a : Nat} {G : Nat → Int32} (ha : a ≤ 1000) (h : L ≤ a) : f_X8_sign Z (nI L) (nI a) G = some 0 := by
  unfold f_X8_sign
  rw [if_pos (nI_le h (by omega))]
-- letters
theorem lt_yes {Z m : Nat} {x : Int32} (h1 : ¬ x < 97) (h2 : ¬ 122 < x) (hm : m < 20) : x ≠ 59 ∧ f_X5_accept Z x 43 (nI m) (-1) = some (1, 43, nI (m + 1), -1) := by
  have h59 : x ≠ 59 := fun e => h1 (by rw [e]; decide)
  refine ⟨h59, ?_⟩
  unfold f_X5_accept f_X5_acceptLetter
  rw [if_neg (by decide), if_neg h59, if_pos rfl, if_neg h1, if_neg h2, if_neg (by rw [show (20 : Int32) = nI 20 from rfl, nI_eq (by omega) (by omega)]; omega), kl, Option.bind_some]
  dsimp only
  rw [q_kb1, nI_1]
theorem lt_no {Z m : Nat} {x : Int32} (h : x < 97 ∨ 122 < x ∨ m = 20) (h59 : x ≠ 59) : f_X5_accept Z x 43 (nI m) (-1) = some (0, 43, nI m, -1) := by
  unfold f_X5_accept f_X5_acceptLetter
  rw [if_neg (by decide), if_neg h59, if_pos rfl]
  by_cases h1 : x < 97
  · rw [if_pos h1, Option.bind_some]
    rfl
  · rw [if_neg h1]
    by_cases h2 : 122 < x
    · rw [if_pos h2, Option.bind_some]
      rfl
    · rw [if_neg h2, if_pos (by rw [(h.resolve_left h1).resolve_left h2]; rfl), Option.bind_some]
      rfl
theorem at_end_plus {Z m : Nat} {n : Int32} (hm : m ≤ 20) : f_X5_isAtEnd Z 43 (nI m) n = some (if m = 0 then 0 else 1) := by
  unfold f_X5_isAtEnd
  rw [if_neg (by decide), if_pos rfl]
  by_cases h : m = 0
  · rw [if_pos h, h, if_pos (by decide)]
  · rw [if_neg h, if_neg (nI_nle (by omega) (by omega))]
theorem o_letters {Z L : Nat} {F G : Nat → Int32} {we : Int32} (hL : L ≤ 60) (hG : ∀ i, i < L → G i = F i) : ∀ (N m a : Nat), m ≤ 20 → a ≤ L → 20 < N + m → ∃ k, a + k ≤ L ∧ m + k ≤ 20 ∧ f_X8_letters_l2 Z (nI L) G N (nI m) (nI a) we = some (nI (m + k), nI (a + k), if m + k = 0 then 0 else 1) ∧ Scan Z F k a 43 (nI m) (-1) 43 (nI (m + k)) (-1) ∧ (a + k < L → F (a + k) ≠ 59 → ∃ x y z, f_X5_accept Z (F (a + k)) 43 (nI (m + k)) (-1) = some (0, x, y, z)) := by
  intro N
  induction N with
  | zero => intro m a h1 h2 h3; omega
  | succ N ih =>
    intro m a h1 h2 h3
    have stop : (a < L → F a < 97 ∨ 122 < F a ∨ m = 20) → f_X8_letters_l2 Z (nI L) G (N + 1) (nI m) (nI a) we = some (nI m, nI a, if m = 0 then 0 else 1) → ∃ k, a + k ≤ L ∧ m + k ≤ 20 ∧ f_X8_letters_l2 Z (nI L) G (N + 1) (nI m) (nI a) we = some (nI (m + k), nI (a + k), if m + k = 0 then 0 else 1) ∧ Scan Z F k a 43 (nI m) (-1) 43 (nI (m + k)) (-1) ∧ (a + k < L → F (a + k) ≠ 59 → ∃ x y z, f_X5_accept Z (F (a + k)) 43 (nI (m + k)) (-1) = some (0, x, y, z)) := fun e1 e2 =>
      ⟨0, h2, h1, e2, ⟨rfl, rfl, rfl⟩, fun h4 h5 => ⟨_, _, _, lt_no (e1 h4) h5⟩⟩
    have fin : (if nI m ≤ 0 then some (nI m, nI a, (0 : Int32)) else some (nI m, nI a, 1)) = some (nI m, nI a, if m = 0 then 0 else 1) := by
      by_cases h : m = 0
      · rw [if_pos h, h, if_pos (by decide)]
      · rw [if_neg h, if_neg (nI_nle (by omega) (by omega))]
    rcases Nat.lt_or_ge m 20 with hm | hm
    · rcases Nat.lt_or_ge a L with ha | ha
      · by_cases hx : F a < 97 ∨ 122 < F a
        · refine stop (fun _ => hx.imp id Or.inl) ?_
          show f_X8_letters_b2 Z (nI L) G _ (nI m) (nI a) we = _
          unfold f_X8_letters_b2
          rw [l_20, if_neg (nI_ge hm (by omega)), sign_in hL ha, Option.bind_some, hG a ha, q_in_no hx, Option.bind_some, if_pos rfl, fin]
        · obtain ⟨k, i1, i2, i3, i4, i5⟩ := ih (m + 1) (a + 1) (by omega) (by omega) (by omega)
          have y := lt_yes (Z := Z) (m := m) (x := F a) (fun q => hx (Or.inl q)) (fun q => hx (Or.inr q)) hm
          rw [show a + 1 + k = a + (k + 1) by omega, show m + 1 + k = m + (k + 1) by omega] at *
          refine ⟨k + 1, i1, i2, ?_, ⟨y.1, _, _, _, y.2, i4⟩, i5⟩
          rw [← i3]
          show f_X8_letters_b2 Z (nI L) G _ (nI m) (nI a) we = _
          unfold f_X8_letters_b2
          rw [l_20, if_neg (nI_ge hm (by omega)), sign_in hL ha, Option.bind_some, hG a ha, q_in_yes (fun q => hx (Or.inl q)) (fun q => hx (Or.inr q)), Option.bind_some, if_neg c_01, kl, kl, nI_1, nI_1]
      · refine stop (fun h => absurd h (by omega)) ?_
        show f_X8_letters_b2 Z (nI L) G _ (nI m) (nI a) we = _
        unfold f_X8_letters_b2
        rw [l_20, if_neg (nI_ge hm (by omega)), sign_out (by omega) ha, Option.bind_some, q_in_no (Or.inl (by decide)), Option.bind_some, if_pos rfl, fin]
    · obtain rfl : m = 20 := by omega
      refine stop (fun _ => Or.inr (Or.inr rfl)) ?_
      show f_X8_letters_b2 Z (nI L) G _ (nI 20) (nI a) we = _
      unfold f_X8_letters_b2
      rw [l_20, if_pos (nI_le (Nat.le_refl _) (by omega)), fin]
-- numbers
theorem fig_cases (x : Int32) : (x < 48 ∨ 57 < x) ∨ (¬ x < 48 ∧ ¬ 57 < x ∧ ∃ d, d ≤ 9 ∧ x = nI (48 + d)) := by
  by_cases h1 : x < 48
  · exact Or.inl (Or.inl h1)
  · by_cases h2 : 57 < x
    · exact Or.inl (Or.inr h2)
    · refine Or.inr ⟨h1, h2, ?_⟩
      rcases pos_cases x (n := 57) (by omega) with (h | h) | ⟨j, hj, rfl⟩
      · exact absurd (show x < 48 from by rw [Int32.lt_iff_toInt_lt] at *; rw [show (0 : Int32).toInt = 0 from by decide] at h; rw [show (48 : Int32).toInt = 48 from by decide]; omega) h1
      · exact absurd h h2
      · rcases Nat.lt_or_ge j 48 with w | w
        · exact absurd (show nI j < nI 48 from nI_lt w (by omega)) h1
        · exact ⟨j - 48, by omega, by rw [show 48 + (j - 48) = j by omega]⟩
theorem dg_gen {Z : Nat} {x sg lt nm : Int32} (h1 : sg ≠ -1) (h2 : x ≠ 59) (h3 : sg ≠ 43) : f_X5_accept Z x sg lt nm = (f_X5_acceptDigit Z x sg nm).bind fun (r4, n4) => kb r4 (some (r4, sg, lt, n4)) := by
  unfold f_X5_accept
  rw [if_neg h1, if_neg h2, if_neg h3]
theorem dg_no {Z : Nat} {x sg lt nm : Int32} (h1 : sg ≠ -1) (h2 : x ≠ 59) (h3 : sg ≠ 43) (hx : x < 48 ∨ 57 < x) : f_X5_accept Z x sg lt nm = some (0, sg, lt, nm) := by
  have e : ∀ y, f_X5_acceptDigit_c12 Z x sg y nm = some (0, nm) := fun y => by
    unfold f_X5_acceptDigit_c12
    by_cases h : x < 48
    · rw [if_pos h]
    · rw [if_neg h, if_pos (hx.resolve_left h)]
  rw [dg_gen h1 h2 h3]
  unfold f_X5_acceptDigit
  by_cases h : nm = 0
  · rw [if_pos h, e, Option.bind_some]
    rfl
  · rw [if_neg h, e, Option.bind_some]
    rfl
theorem dg_zero {Z : Nat} {x sg lt : Int32} (h1 : sg ≠ -1) (h2 : x ≠ 59) (h3 : sg ≠ 43) : f_X5_accept Z x sg lt 0 = some (0, sg, lt, 0) := by
  rw [dg_gen h1 h2 h3]
  unfold f_X5_acceptDigit f_X5_acceptDigit_c12
  rw [if_pos rfl]
  by_cases h : x < 48
  · rw [if_pos h, Option.bind_some]
    rfl
  · rw [if_neg h]
    by_cases h5 : 57 < x
    · rw [if_pos h5, Option.bind_some]
      rfl
    · rw [if_neg h5, if_neg c_01, Option.bind_some]
      rfl
theorem dg_next {Z v d lo hi : Nat} {sg lt : Int32} (h1 : sg ≠ -1) (h3 : sg ≠ 43) (hl : f_X5_leastNumber Z sg = some (nI lo)) (hg : f_X5_greatestNumber Z sg = some (nI hi)) (hlo : lo ≤ 1) (hhi : hi ≤ 256) (hv : 0 < v) (hv2 : v ≤ hi) (hd : d ≤ 9) (a1 : ¬ nI (48 + d) < 48) (a2 : ¬ 57 < nI (48 + d)) : f_X5_accept Z (nI (48 + d)) sg lt (nI v) = if 10 * v + d ≤ hi then some (1, sg, lt, nI (10 * v + d)) else some (0, sg, lt, nI v) := by
  have h2 : nI (48 + d) ≠ 59 := fun e => a2 (by rw [e]; decide)
  rw [dg_gen h1 h2 h3]
  unfold f_X5_acceptDigit f_X5_acceptDigit_c12
  rw [if_neg (nI_ne0 hv (by omega)), if_neg a1, if_neg a2, if_pos rfl, if_pos (show (0 : Int32) < nI v from nI_lt (a := 0) hv (by omega)), kl, kl, show (10 : Int32) * nI v + nI (48 + d) - 48 = nI (10 * v + d) from by rw [l_10, pk_mul, nI_add, show (48 : Int32) = nI 48 from rfl, pk_sub (by omega), show 10 * v + (48 + d) - 48 = 10 * v + d by omega], hl, Option.bind_some, if_neg (nI_nlt (by omega) (by omega)), hg, Option.bind_some]
  by_cases w : 10 * v + d ≤ hi
  · rw [if_pos (nI_le w (by omega)), if_pos w, Option.bind_some]
    rfl
  · rw [if_neg (nI_ge (by omega) (by omega)), if_neg w, Option.bind_some]
    rfl
theorem dg_first {Z d lo hi : Nat} {sg lt : Int32} (h1 : sg ≠ -1) (h3 : sg ≠ 43) (hl : f_X5_leastNumber Z sg = some (nI lo)) (hg : f_X5_greatestNumber Z sg = some (nI hi)) (hlo : lo ≤ 1) (hhi : hi ≤ 256) (hd : d ≤ 9) (a1 : ¬ nI (48 + d) < 48) (a2 : ¬ 57 < nI (48 + d)) : f_X5_accept Z (nI (48 + d)) sg lt (-1) = if lo ≤ d ∧ d ≤ hi then some (1, sg, lt, nI d) else some (0, sg, lt, -1) := by
  have h2 : nI (48 + d) ≠ 59 := fun e => a2 (by rw [e]; decide)
  rw [dg_gen h1 h2 h3]
  unfold f_X5_acceptDigit f_X5_acceptDigit_c12
  rw [if_neg (by decide), if_neg a1, if_neg a2, if_pos rfl, if_neg (by decide), kl, kl, show (10 : Int32) * 0 + nI (48 + d) - 48 = nI d from by rw [l_10, l_0, pk_mul, nI_add, show (48 : Int32) = nI 48 from rfl, pk_sub (by omega), show 10 * 0 + (48 + d) - 48 = d by omega], hl, Option.bind_some]
  by_cases w : lo ≤ d
  · rw [if_neg (nI_nlt w (by omega)), hg, Option.bind_some]
    by_cases w2 : d ≤ hi
    · rw [if_pos (nI_le w2 (by omega)), if_pos ⟨w, w2⟩, Option.bind_some]
      rfl
    · rw [if_neg (nI_ge (by omega) (by omega)), if_neg (fun q => w2 q.2), Option.bind_some]
      rfl
  · rw [if_pos (nI_lt (by omega) (by omega)), if_neg (fun q => w q.1), Option.bind_some]
    rfl
theorem at_end_num {Z v : Nat} {sg lt : Int32} (h1 : sg ≠ -1) (h3 : sg ≠ 43) (h4 : sg ≠ 110) (h5 : sg ≠ 112) (hv : v ≤ 256) : f_X5_isAtEnd Z sg lt (nI v) = some 1 ∧ f_X5_isAtEnd Z sg lt (-1) = some 0 := by
  unfold f_X5_isAtEnd
  rw [if_neg h1, if_neg h3, if_neg h4, if_neg h5, if_neg h1, if_neg h3, if_neg h4, if_neg h5, if_neg (by rw [z_eqm (by omega)]; exact id), if_pos rfl]
  exact ⟨rfl, rfl⟩
theorem fig_in {Z L a : Nat} {G : Nat → Int32} {b : Int32} (hL : L ≤ 60) (h : a < L) (hb : f_X8_in Z (G a) 48 57 = some b) (hb2 : b = 0 ∨ b = 1) : f_X8_isFigure Z (nI L) (nI a) G = some b := by
  unfold f_X8_isFigure
  rw [sign_in hL h, Option.bind_some, hb, Option.bind_some]
  exact if_pos hb2
theorem fig_out {Z L a : Nat} {G : Nat → Int32} (ha : a ≤ 1000) (h : L ≤ a) : f_X8_isFigure Z (nI L) (nI a) G = some 0 := by
  unfold f_X8_isFigure
  rw [sign_out ha h, Option.bind_some, q_in_no (Or.inl (by decide)), Option.bind_some, q_kb0]
theorem o_numL {Z L lo hi : Nat} {F G : Nat → Int32} {sg p1 : Int32} (hL : L ≤ 60) (hG : ∀ i, i < L → G i = F i) (h1 : sg ≠ -1) (h3 : sg ≠ 43) (hl : f_X5_leastNumber Z sg = some (nI lo)) (hg : f_X5_greatestNumber Z sg = some (nI hi)) (hlo : lo ≤ 1) (hhi : hi ≤ 256) : ∀ (N v a : Nat), v ≤ hi → lo ≤ v → a ≤ L → L < N + a → ∃ v' k, a + k ≤ L ∧ lo ≤ v' ∧ v' ≤ hi ∧ f_X8_number_l83 Z p1 (nI hi) (nI L) G N (nI v) (nI a) 1 = some (nI v', nI (a + k), 1) ∧ Scan Z F k a sg 0 (nI v) sg 0 (nI v') ∧ (a + k < L → F (a + k) ≠ 59 → ∃ x y z, f_X5_accept Z (F (a + k)) sg 0 (nI v') = some (0, x, y, z)) := by
  intro N
  induction N with
  | zero => intro v a i1 i2 i3 i4; omega
  | succ N ih =>
    intro v a i1 i2 i3 i4
    have stop : (a < L → F a ≠ 59 → ∃ x y z, f_X5_accept Z (F a) sg 0 (nI v) = some (0, x, y, z)) → f_X8_number_l83 Z p1 (nI hi) (nI L) G (N + 1) (nI v) (nI a) 1 = some (nI v, nI a, 1) → ∃ v' k, a + k ≤ L ∧ lo ≤ v' ∧ v' ≤ hi ∧ f_X8_number_l83 Z p1 (nI hi) (nI L) G (N + 1) (nI v) (nI a) 1 = some (nI v', nI (a + k), 1) ∧ Scan Z F k a sg 0 (nI v) sg 0 (nI v') ∧ (a + k < L → F (a + k) ≠ 59 → ∃ x y z, f_X5_accept Z (F (a + k)) sg 0 (nI v') = some (0, x, y, z)) := fun e1 e2 =>
      ⟨v, 0, i3, i2, i1, e2, ⟨rfl, rfl, rfl⟩, e1⟩
    rcases Nat.eq_zero_or_pos v with hv | hv
    · subst hv
      refine stop (fun _ h59 => ⟨_, _, _, dg_zero h1 h59 h3⟩) ?_
      show f_X8_number_b83 Z p1 (nI hi) (nI L) G _ (nI 0) (nI a) 1 = _
      unfold f_X8_number_b83
      rw [if_neg c_01, if_pos (by decide)]
    · rcases Nat.lt_or_ge a L with ha | ha
      · rcases fig_cases (F a) with hx | ⟨a1, a2, d, hd, hx⟩
        · refine stop (fun _ h59 => ⟨_, _, _, dg_no h1 h59 h3 hx⟩) ?_
          show f_X8_number_b83 Z p1 (nI hi) (nI L) G _ (nI v) (nI a) 1 = _
          unfold f_X8_number_b83
          rw [if_neg c_01, if_neg (nI_nle hv (by omega)), fig_in hL ha (by rw [hG a ha]; exact q_in_no hx) (Or.inl rfl), Option.bind_some, if_pos rfl]
        · have hn := dg_next (Z := Z) (lt := 0) h1 h3 hl hg hlo hhi hv i1 hd (hx ▸ a1) (hx ▸ a2)
          have es : (10 : Int32) * nI v + nI (48 + d) - 48 = nI (10 * v + d) := by rw [l_10, pk_mul, nI_add, show (48 : Int32) = nI 48 from rfl, pk_sub (by omega), show 10 * v + (48 + d) - 48 = 10 * v + d by omega]
          by_cases w : 10 * v + d ≤ hi
          · rw [if_pos w] at hn
            obtain ⟨v', k, j1, j2, j3, j4, j5, j6⟩ := ih (10 * v + d) (a + 1) w (by omega) (by omega) (by omega)
            rw [show a + 1 + k = a + (k + 1) by omega] at *
            refine ⟨v', k + 1, j1, j2, j3, ?_, ⟨by rw [hx]; exact fun e => (hx ▸ a2) (by rw [e]; decide), sg, 0, nI (10 * v + d), by rw [hx]; exact hn, j5⟩, j6⟩
            rw [← j4]
            show f_X8_number_b83 Z p1 (nI hi) (nI L) G _ (nI v) (nI a) 1 = _
            unfold f_X8_number_b83
            rw [if_neg c_01, if_neg (nI_nle hv (by omega)), fig_in hL ha (by rw [hG a ha]; exact q_in_yes a1 a2) (Or.inr rfl), Option.bind_some, if_neg c_01, sign_in hL ha, hG a ha, hx, Option.bind_some, es, if_neg (nI_nlt w (by omega)), Option.bind_some, es, kl, kl, nI_1]
          · rw [if_neg w] at hn
            refine stop (fun _ _ => by rw [hx]; exact ⟨_, _, _, hn⟩) ?_
            show f_X8_number_b83 Z p1 (nI hi) (nI L) G _ (nI v) (nI a) 1 = _
            unfold f_X8_number_b83
            rw [if_neg c_01, if_neg (nI_nle hv (by omega)), fig_in hL ha (by rw [hG a ha]; exact q_in_yes a1 a2) (Or.inr rfl), Option.bind_some, if_neg c_01, sign_in hL ha, hG a ha, hx, Option.bind_some, es, if_pos (nI_lt (by omega) (by omega))]
      · refine stop (fun h => absurd h (by omega)) ?_
        show f_X8_number_b83 Z p1 (nI hi) (nI L) G _ (nI v) (nI a) 1 = _
        unfold f_X8_number_b83
        rw [if_neg c_01, if_neg (nI_nle hv (by omega)), fig_out (by omega) ha, Option.bind_some, if_pos rfl]
theorem sep_bad {Z : Nat} {c l n : Int32} (hc : c ≠ -1) (h : f_X5_isAtEnd Z c l n = some 0) : f_X5_accept Z 59 c l n = some (0, c, l, n) := by
  unfold f_X5_accept f_X5_acceptSeparator
  rw [if_neg hc, if_pos rfl, h, Option.bind_some, if_pos rfl, Option.bind_some]
  rfl
theorem sep_ok {Z : Nat} {c l n : Int32} (hc : c ≠ -1) (h : f_X5_isAtEnd Z c l n = some 1) : f_X5_accept Z 59 c l n = some (1, -1, 0, -1) := by
  unfold f_X5_accept f_X5_acceptSeparator f_X5_restart
  rw [if_neg hc, if_pos rfl, h, Option.bind_some, if_neg c_01, Option.bind_some]
  rfl
theorem o_number {Z L lo hi a : Nat} {F G : Nat → Int32} {sg : Int32} (hZ : 300 ≤ Z) (hL : L ≤ 60) (hG : ∀ i, i < L → G i = F i) (h1 : sg ≠ -1) (h3 : sg ≠ 43) (h4 : sg ≠ 110) (h5 : sg ≠ 112) (hl : f_X5_leastNumber Z sg = some (nI lo)) (hg : f_X5_greatestNumber Z sg = some (nI hi)) (hlo : lo ≤ 1) (hhi : hi ≤ 256) (ha : a ≤ L) : (∃ v k, a + k ≤ L ∧ lo ≤ v ∧ v ≤ hi ∧ f_X8_number Z (nI lo) (nI hi) (nI L) (nI a) 1 G = some (nI v, nI (a + k), 1) ∧ Scan Z F k a sg 0 (-1) sg 0 (nI v) ∧ EndOk Z L F (a + k) sg 0 (nI v)) ∨ (∃ r, f_X8_number Z (nI lo) (nI hi) (nI L) (nI a) 1 G = some (r, nI a, 0) ∧ Bad Z L F a sg 0 (-1)) := by
  have hend := (at_end_num (Z := Z) (v := 0) (lt := 0) h1 h3 h4 h5 (by omega)).2
  have c50 : ∃ r, f_X8_number_c50 Z (nI lo) (nI hi) (nI L) G (nI a) 1 = some (r, nI a, 0) := by
    unfold f_X8_number_c50 f_X8_number_c51 f_X8_number_c79
    obtain ⟨N, hN⟩ : ∃ N, Z = N + 1 := ⟨Z - 1, by omega⟩
    have e : ∀ x y, f_X8_number_l83 Z (nI lo) (nI hi) (nI L) G Z x y 0 = some (x, y, 0) := fun x y => by
      conv => lhs; arg 6; rw [hN]
      show f_X8_number_b83 Z (nI lo) (nI hi) (nI L) G _ x y 0 = _
      unfold f_X8_number_b83
      rw [if_pos rfl]
    rw [q_kb0]
    rcases Nat.lt_or_ge a L with h | h
    · rw [sign_in hL h, Option.bind_some, kl, if_pos rfl, kl, e, Int32.add_zero]
      exact ⟨_, rfl⟩
    · rw [sign_out (by omega) h, Option.bind_some, kl, if_pos rfl, kl, e, Int32.add_zero]
      exact ⟨_, rfl⟩
  obtain ⟨r, c50⟩ := c50
  have badof : (a < L → F a ≠ 59 → ∃ x y z, f_X5_accept Z (F a) sg 0 (-1) = some (0, x, y, z)) → Bad Z L F a sg 0 (-1) := fun h =>
    ⟨fun h2 => by
      by_cases w : F a = 59
      · rw [w]
        exact ⟨_, _, _, sep_bad h1 hend⟩
      · exact h h2 w, fun _ => hend⟩
  unfold f_X8_number
  rw [if_neg c_01]
  rcases Nat.lt_or_ge a L with h | h
  · rcases fig_cases (F a) with hx | ⟨a1, a2, d, hd, hx⟩
    · refine Or.inr ⟨r, ?_, badof (fun _ h59 => ⟨_, _, _, dg_no h1 h59 h3 hx⟩)⟩
      rw [fig_in hL h (by rw [hG a h]; exact q_in_no hx) (Or.inl rfl), Option.bind_some, if_pos rfl, c50]
    · have hf := dg_first (Z := Z) (lt := 0) h1 h3 hl hg hlo hhi hd (hx ▸ a1) (hx ▸ a2)
      have e48 : nI (48 + d) - 48 = nI d := by rw [show (48 : Int32) = nI 48 from rfl, pk_sub (by omega), show 48 + d - 48 = d by omega]
      have ec : (if (1 : Int32) ≤ nI lo then f_X8_number_c32 Z (nI lo) (nI hi) (nI L) G (nI d) 1 (nI a) 1 else f_X8_number_c32 Z (nI lo) (nI hi) (nI L) G (nI d) 0 (nI a) 1) = f_X8_number_c32 Z (nI lo) (nI hi) (nI L) G (nI d) (nI lo) (nI a) 1 := by
        rcases (show lo = 0 ∨ lo = 1 by omega) with rfl | rfl
        · rw [if_neg (by decide)]
          rfl
        · rw [if_pos (by decide)]
          rfl
      rw [fig_in hL h (by rw [hG a h]; exact q_in_yes a1 a2) (Or.inr rfl), Option.bind_some, if_neg c_01, sign_in hL h, hG a h, hx, Option.bind_some, e48, ec]
      unfold f_X8_number_c32
      by_cases w : lo ≤ d
      · rw [if_neg (nI_nlt w (by omega)), sign_in hL h, hG a h, hx, Option.bind_some, e48]
        by_cases w2 : d ≤ hi
        · rw [if_pos ⟨w, w2⟩] at hf
          obtain ⟨v', k, j1, j2, j3, j4, j5, j6⟩ := o_numL (Z := Z) (p1 := nI lo) hL hG h1 h3 hl hg hlo hhi Z d (a + 1) w2 w (by omega) (by omega)
          rw [show a + 1 + k = a + (k + 1) by omega] at *
          refine Or.inl ⟨v', k + 1, j1, j2, j3, ?_, ⟨by rw [hx]; exact fun e => (hx ▸ a2) (by rw [e]; decide), sg, 0, nI d, by rw [hx]; exact hf, j5⟩, (at_end_num h1 h3 h4 h5 (by omega)).1, j6, h1⟩
          rw [if_neg (nI_nlt w2 (by omega))]
          unfold f_X8_number_c51 f_X8_number_c79
          rw [q_kb1, sign_in hL h, hG a h, hx, Option.bind_some, kl, e48, if_neg c_01, kl, nI_1, j4]
        · rw [if_neg (fun q => w2 q.2)] at hf
          refine Or.inr ⟨r, ?_, badof (fun _ _ => by rw [hx]; exact ⟨_, _, _, hf⟩)⟩
          rw [if_pos (nI_lt (by omega) (by omega)), c50]
      · rw [if_neg (fun q => w q.1)] at hf
        refine Or.inr ⟨r, ?_, badof (fun _ _ => by rw [hx]; exact ⟨_, _, _, hf⟩)⟩
        rw [if_pos (nI_lt (by omega) (by omega)), c50]
  · refine Or.inr ⟨r, ?_, badof (fun h2 => absurd h2 (by omega))⟩
    rw [fig_out (by omega) h, Option.bind_some, if_pos rfl, c50]
