-- ===== one field of the reference's row changes =====
theorem rn_caret {n c g q cp l p : Nat} {e : Int32} {tF cF mP mS : Nat → Int32} {kCar kCop kGro kShr : Int32} {s : Nat → Int32} (h : RN n c g q cp l e tF cF mP mS kCar kCop kGro kShr s) (hp : p ≤ n) : RN n p g q cp l e tF cF mP mS kCar kCop kGro kShr (upd s 1 (nI p)) := by
  obtain ⟨⟨hb1, hb2, hb3, hb4, hb5, hb6, hb7⟩, he, ⟨e0, e1, e2, e3, e4, e5, e6, e7, e8, e9, e10⟩, hm, ht, hcl⟩ := h
  refine ⟨⟨hb1, hp, hb3, hb4, hb5, hb6, hb7⟩, he, ⟨e0, rfl, e2, e3, e4, e5, e6, e7, e8, e9, e10⟩, fun m hm' => ?_, fun i hi => ?_, fun i hi => ?_⟩
  · rw [pk_un (by omega), pk_un (by omega)]
    exact hm m hm'
  · rw [pk_un (by omega)]
    exact ht i hi
  · rw [pk_un (by omega)]
    exact hcl i hi
theorem rn_goal {n c g q cp l q' : Nat} {e : Int32} {tF cF mP mS : Nat → Int32} {kCar kCop kGro kShr : Int32} {s : Nat → Int32} (h : RN n c g q cp l e tF cF mP mS kCar kCop kGro kShr s) (hq : q' ≤ 256) : RN n c g q' cp l e tF cF mP mS kCar kCop kGro kShr (upd s 8 (nI q')) := by
  obtain ⟨⟨hb1, hb2, hb3, hb4, hb5, hb6, hb7⟩, he, ⟨e0, e1, e2, e3, e4, e5, e6, e7, e8, e9, e10⟩, hm, ht, hcl⟩ := h
  refine ⟨⟨hb1, hb2, hb3, hq, hb5, hb6, hb7⟩, he, ⟨e0, e1, e2, e3, e4, e5, e6, e7, rfl, e9, e10⟩, fun m hm' => ?_, fun i hi => ?_, fun i hi => ?_⟩
  · rw [pk_un (by omega), pk_un (by omega)]
    exact hm m hm'
  · rw [pk_un (by omega)]
    exact ht i hi
  · rw [pk_un (by omega)]
    exact hcl i hi
theorem rn_eager {n c g q cp l : Nat} {e e' : Int32} {tF cF mP mS : Nat → Int32} {kCar kCop kGro kShr : Int32} {s : Nat → Int32} (h : RN n c g q cp l e tF cF mP mS kCar kCop kGro kShr s) (he' : e' = 0 ∨ e' = 1) : RN n c g q cp l e' tF cF mP mS kCar kCop kGro kShr (upd s 9 e') := by
  obtain ⟨⟨hb1, hb2, hb3, hb4, hb5, hb6, hb7⟩, he, ⟨e0, e1, e2, e3, e4, e5, e6, e7, e8, e9, e10⟩, hm, ht, hcl⟩ := h
  refine ⟨⟨hb1, hb2, hb3, hb4, hb5, hb6, hb7⟩, he', ⟨e0, e1, e2, e3, e4, e5, e6, e7, e8, rfl, e10⟩, fun m hm' => ?_, fun i hi => ?_, fun i hi => ?_⟩
  · rw [pk_un (by omega), pk_un (by omega)]
    exact hm m hm'
  · rw [pk_un (by omega)]
    exact ht i hi
  · rw [pk_un (by omega)]
    exact hcl i hi
theorem rn_gap {n c g q cp l p : Nat} {e : Int32} {tF cF mP mS : Nat → Int32} {kCar kCop kGro kShr kCar' : Int32} {s : Nat → Int32} (h : RN n c g q cp l e tF cF mP mS kCar kCop kGro kShr s) (hp : p ≤ n) : RN n c p q cp l e tF cF mP mS kCar' kCop kGro kShr (upd (upd s 4 kCar') 2 (nI p)) := by
  obtain ⟨⟨hb1, hb2, hb3, hb4, hb5, hb6, hb7⟩, he, ⟨e0, e1, e2, e3, e4, e5, e6, e7, e8, e9, e10⟩, hm, ht, hcl⟩ := h
  refine ⟨⟨hb1, hb2, hp, hb4, hb5, hb6, hb7⟩, he, ⟨e0, e1, rfl, e3, rfl, e5, e6, e7, e8, e9, e10⟩, fun m hm' => ?_, fun i hi => ?_, fun i hi => ?_⟩
  · rw [pk_un (by omega), pk_un (by omega), pk_un (by omega), pk_un (by omega)]
    exact hm m hm'
  · rw [pk_un (by omega), pk_un (by omega)]
    exact ht i hi
  · rw [pk_un (by omega), pk_un (by omega)]
    exact hcl i hi
theorem rn_mark {n c g q cp l j p : Nat} {e sd : Int32} {tF cF mP mS : Nat → Int32} {kCar kCop kGro kShr : Int32} {s : Nat → Int32} (h : RN n c g q cp l e tF cF mP mS kCar kCop kGro kShr s) (hj : j < 4) (hp : p ≤ n) : RN n c g q cp l e tF cF (upd mP j (nI p)) (upd mS j sd) kCar kCop kGro kShr (upd (upd s (12 + j) (nI p)) (16 + j) sd) := by
  obtain ⟨⟨hb1, hb2, hb3, hb4, hb5, hb6, hb7⟩, he, ⟨e0, e1, e2, e3, e4, e5, e6, e7, e8, e9, e10⟩, hm, ht, hcl⟩ := h
  have o : ∀ i, (i < 12 ∨ 20 ≤ i) → upd (upd s (12 + j) (nI p)) (16 + j) sd i = s i := fun i hi => by rw [pk_un (by omega), pk_un (by omega)]
  refine ⟨⟨hb1, hb2, hb3, hb4, hb5, hb6, hb7⟩, he, ⟨by rw [o _ (by omega), e0], by rw [o _ (by omega), e1], by rw [o _ (by omega), e2], by rw [o _ (by omega), e3], by rw [o _ (by omega), e4], by rw [o _ (by omega), e5], by rw [o _ (by omega), e6], by rw [o _ (by omega), e7], by rw [o _ (by omega), e8], by rw [o _ (by omega), e9], by rw [o _ (by omega), e10]⟩, fun m hm' => ?_, fun i hi => ?_, fun i hi => ?_⟩
  · by_cases a : m = j
    · subst a
      rw [pk_un (by omega), pk_us, pk_us, pk_us, pk_us]
      exact ⟨rfl, rfl, Or.inr ⟨p, hp, rfl⟩⟩
    · rw [pk_un (by omega), pk_un (by omega), pk_un (by omega), pk_un (by omega), pk_un (by omega), pk_un (by omega)]
      exact hm m hm'
  · rw [o _ (by omega)]
    exact ht i hi
  · rw [o _ (by omega)]
    exact hcl i hi
-- ===== moves =====
-- ===== up and down =====
theorem le_lb {n : Nat} {F : Nat → Int32} : ∀ p, p ≤ n → le' F (n - lb F p) (lb F p) = le' F (n - p) p
  | 0, _ => rfl
  | p + 1, h => by
    unfold lb
    by_cases hF : F p = 10
    · rw [if_pos hF]
    · rw [if_neg hF, le_lb p (by omega), show n - p = (n - (p + 1)) + 1 by omega]
      show (if F p = 10 then p else le' F (n - (p + 1)) (p + 1)) = _
      rw [if_neg hF]
theorem le_brk {F : Nat → Int32} : ∀ k p, le' F k p < p + k → F (le' F k p) = 10
  | 0, p, h => absurd h (by unfold le'; omega)
  | k + 1, p, h => by
    unfold le' at h ⊢
    by_cases hF : F p = 10
    · rw [if_pos hF]
      exact hF
    · rw [if_neg hF] at h ⊢
      exact le_brk k (p + 1) (by omega)
theorem lb_brk {F : Nat → Int32} {p : Nat} (h : F p = 10) : lb F (p + 1) = p + 1 := if_pos h
def mn (a b : Nat) : Nat := if a ≤ b then a else b
-- ===== regions =====
theorem q_abs {p g : Nat} (hp : p < 2 ^ 30) (hg : g < 2 ^ 30) : (if 0 ≤ nI p - nI g then nI p - nI g else 0 - (nI p - nI g)) = nI (dst p g) := by
  have h := q_moveGap (Z := 0) (k := 0) hp hg
  unfold f_X3_moveGap kl at h
  exact (Prod.mk.inj (Option.some.inj h)).1
theorem r_clipL {Z a k : Nat} {p1 : Int32} (hk : k ≤ 60) (ha : a + k ≤ 256) : ∀ (N x : Nat) (s : Nat → Int32), x ≤ 60 → 60 < N + x → s 10 = nI k → ∃ s', f_X8_clips_l51 Z p1 N (nI a) (nI x) s = some s' ∧ ∀ i, s' i = if 20 + x ≤ i ∧ i < 80 then (if k ≤ i - 20 then 0 else s (80 + a + (i - 20))) else s i := by
  intro N
  induction N with
  | zero => intro x s h1 h2; omega
  | succ N ih =>
    intro x s h1 h2 e10
    show ∃ s', f_X8_clips_b51 Z p1 _ (nI a) (nI x) s = _ ∧ _
    unfold f_X8_clips_b51
    rcases Nat.lt_or_ge x 60 with h | h
    · have go : ∀ v : Int32, v = (if k ≤ x then 0 else s (80 + a + x)) → ∃ s', f_X8_clips_l51 Z p1 N (nI a) (nI (x + 1)) (upd s (20 + x) v) = some s' ∧ ∀ i, s' i = if 20 + x ≤ i ∧ i < 80 then (if k ≤ i - 20 then 0 else s (80 + a + (i - 20))) else s i := fun v hv => by
        obtain ⟨s', i1, i2⟩ := ih (x + 1) (upd s (20 + x) v) (by omega) (by omega) (by rw [pk_un (by omega), e10])
        refine ⟨s', i1, fun i => ?_⟩
        rw [i2]
        unfold upd
        by_cases y : i = 20 + x
        · subst y
          rw [if_neg (by omega), if_pos rfl, if_pos (by omega), hv, show 20 + x - 20 = x by omega]
        · by_cases b : 20 + (x + 1) ≤ i ∧ i < 80
          · rw [if_pos b, if_neg (show ¬ 80 + a + (i - 20) = 20 + x by omega), if_pos (show 20 + x ≤ i ∧ i < 80 by omega)]
          · rw [if_neg b, if_neg y, if_neg (by omega)]
      rw [l_60, if_neg (nI_ge h (by omega)), rd_10, tn_10, e10]
      by_cases y : k ≤ x
      · rw [if_pos (nI_le y (by omega)), z_20, z_rd (by omega) (by omega), kl, kl, nI_clamp (by omega), nI_1]
        exact go _ (by rw [if_pos y])
      · rw [if_neg (nI_ge (by omega) (by omega)), z_80, nI_add, z_rd (by omega) (by omega), z_20, z_rd (by omega) (by omega), kl, kl, nI_clamp (by omega), nI_clamp (by omega), nI_1]
        exact go _ (by rw [if_neg y])
    · obtain rfl : x = 60 := by omega
      refine ⟨s, ?_, fun i => ?_⟩
      · rw [l_60, if_pos (nI_le (Nat.le_refl _) (by omega))]
      · rw [if_neg (by omega)]
theorem mn_dst {p c : Nat} : (p ≤ c → mn p c = p ∧ p + dst p c = c) ∧ (c ≤ p → mn p c = c ∧ c + dst p c = p) := by
  unfold mn dst
  refine ⟨fun h => ⟨if_pos h, ?_⟩, fun h => ⟨?_, ?_⟩⟩
  · split <;> omega
  · split <;> omega
  · split <;> omega
theorem q_minP {p c : Nat} (hp : p ≤ 256) (hc : c ≤ 256) : (if nI c < nI p then nI c else nI p) = nI (mn p c) := by
  unfold mn
  by_cases x : c < p
  · rw [if_pos (nI_lt x (by omega)), if_neg (by omega)]
  · rw [if_neg (nI_nlt (by omega) (by omega)), if_pos (by omega)]
theorem q_maxP {p c : Nat} (hp : p ≤ 256) (hc : c ≤ 256) : (if nI p < nI c then nI c else nI p) - nI (mn p c) = nI (dst p c) := by
  by_cases x : p < c
  · obtain ⟨a, b⟩ := mn_dst.1 (Nat.le_of_lt x)
    rw [if_pos (nI_lt x (by omega)), a, pk_sub (by omega), show c - p = dst p c by omega]
  · obtain ⟨a, b⟩ := mn_dst.2 (Nat.not_lt.mp x)
    rw [if_neg (nI_nlt (by omega) (by omega)), a, pk_sub (by omega), show p - c = dst p c by omega]
-- ===== bytes laid ready =====
theorem r_fill {Z k : Nat} {v aBm : Int32} (hk : k ≤ 100) : ∀ (N x : Nat) (F : Nat → Int32), x ≤ k → k < N + x → (∀ i, i < x → F i = v) → ∃ F', f_X8_fillsBytes_l7 Z v (nI k) N (nI x) aBm F = some (aBm, F') ∧ ∀ i, i < k → F' i = v := by
  intro N
  induction N with
  | zero => intro x F h1 h2; omega
  | succ N ih =>
    intro x F h1 h2 h3
    show ∃ F', f_X8_fillsBytes_b7 Z v (nI k) _ (nI x) aBm F = _ ∧ _
    unfold f_X8_fillsBytes_b7
    rcases Nat.lt_or_ge x k with h | h
    · rw [if_neg (nI_ge h (by omega)), z_rd (by omega) (by omega), kl, kl, nI_clamp (by omega), nI_1]
      refine ih (x + 1) _ (by omega) (by omega) (fun i hi => ?_)
      by_cases y : i = x
      · rw [y, pk_us]
      · rw [pk_un y, h3 i (by omega)]
    · obtain rfl : x = k := by omega
      exact ⟨F, if_pos (nI_le (Nat.le_refl _) (by omega)), h3⟩
theorem o_fill {Z k : Nat} {v aBm : Int32} {aBy : Nat → Int32} (hZ : 300 ≤ Z) (hk : k ≤ 100) : ∃ F', f_X8_fillsBytes Z v (nI k) aBm aBy = some (nI k, F') ∧ ∀ i, i < k → F' i = v :=
  r_fill hk Z 0 aBy (by omega) (by omega) (fun i hi => absurd hi (by omega))
theorem r_pasteL {Z l : Nat} {s : Nat → Int32} (hl : l ≤ 60) : ∀ (N x : Nat) (F : Nat → Int32), x ≤ l → l < N + x → (∀ i, i < x → F i = s (20 + i)) → ∃ F', f_X8_pastes_l13 Z N (nI x) (nI l) s F = (f_X8_inserts Z (nI l) s F').bind (fun a => some (nI l, a, F')) ∧ ∀ i, i < l → F' i = s (20 + i) := by
  intro N
  induction N with
  | zero => intro x F h1 h2; omega
  | succ N ih =>
    intro x F h1 h2 h3
    show ∃ F', f_X8_pastes_b13 Z _ (nI x) (nI l) s F = _ ∧ _
    unfold f_X8_pastes_b13
    rcases Nat.lt_or_ge x l with h | h
    · rw [if_neg (nI_ge h (by omega)), z_20, z_rd (by omega) (by omega), z_rd (by omega) (by omega), kl, kl, nI_clamp (by omega), nI_clamp (by omega), nI_1]
      refine ih (x + 1) _ (by omega) (by omega) (fun i hi => ?_)
      by_cases y : i = x
      · rw [y, pk_us]
      · rw [pk_un y, h3 i (by omega)]
    · obtain rfl : x = l := by omega
      exact ⟨F, if_pos (nI_le (Nat.le_refl _) (by omega)), h3⟩
