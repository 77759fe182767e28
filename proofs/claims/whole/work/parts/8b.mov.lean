-- ===== one field of the reference's row changes =====
theorem rn_caret {n c g q cp l p : Nat} {e : Int32} {tF cF mP mS : Nat → Int32} {kCar kCop kGro kShr : Int32} {s : Nat → Int32} (h : RN n c g q cp l e tF cF mP mS kCar kCop kGro kShr s) (hp : p ≤ n) : RN n p g q cp l e tF cF mP mS kCar kCop kGro kShr (upd s 1 (nI p)) := by
  obtain ⟨⟨hb1, hb2, hb3, hb4, hb5, hb6, hb7⟩, he, ⟨e0, e1, e2, e3, e4, e5, e6, e7, e8, e9, e10⟩, hm, ht, hcl⟩ := h
  refine ⟨⟨hb1, hp, hb3, hb4, hb5, hb6, hb7⟩, he, ⟨e0, rfl, e2, e3, e4, e5, e6, e7, e8, e9, e10⟩, fun m hm' => ?_, fun i hi => ?_, fun i hi => ?_⟩
  · rw [pk_un (by omega), pk_un (by omega)]
    exact hm m hm'
  · rw [pk_un (by omega)]
    exact ht i hi
  · rw [pk_un (by omega)]
    exact hcl i hi
theorem rn_goal {n c g q cp l q' : Nat} {e : Int32} {tF cF mP mS : Nat → Int32} {kCar kCop kGro kShr : Int32} {s : Nat → Int32} (h : RN n c g q cp l e tF cF mP mS kCar kCop kGro kShr s) (hq : q' ≤ 256) : RN n c g q' cp l e tF cF mP mS kCar kCop kGro kShr (upd s 8 (nI q')) := by
  obtain ⟨⟨hb1, hb2, hb3, hb4, hb5, hb6, hb7⟩, he, ⟨e0, e1, e2, e3, e4, e5, e6, e7, e8, e9, e10⟩, hm, ht, hcl⟩ := h
  refine ⟨⟨hb1, hb2, hb3, hq, hb5, hb6, hb7⟩, he, ⟨e0, e1, e2, e3, e4, e5, e6, e7, rfl, e9, e10⟩, fun m hm' => ?_, fun i hi => ?_, fun i hi => ?_⟩
  · rw [pk_un (by omega), pk_un (by omega)]
    exact hm m hm'
  · rw [pk_un (by omega)]
    exact ht i hi
  · rw [pk_un (by omega)]
    exact hcl i hi
theorem rn_eager {n c g q cp l : Nat} {e e' : Int32} {tF cF mP mS : Nat → Int32} {kCar kCop kGro kShr : Int32} {s : Nat → Int32} (h : RN n c g q cp l e tF cF mP mS kCar kCop kGro kShr s) (he' : e' = 0 ∨ e' = 1) : RN n c g q cp l e' tF cF mP mS kCar kCop kGro kShr (upd s 9 e') := by
  obtain ⟨⟨hb1, hb2, hb3, hb4, hb5, hb6, hb7⟩, he, ⟨e0, e1, e2, e3, e4, e5, e6, e7, e8, e9, e10⟩, hm, ht, hcl⟩ := h
  refine ⟨⟨hb1, hb2, hb3, hb4, hb5, hb6, hb7⟩, he', ⟨e0, e1, e2, e3, e4, e5, e6, e7, e8, rfl, e10⟩, fun m hm' => ?_, fun i hi => ?_, fun i hi => ?_⟩
  · rw [pk_un (by omega), pk_un (by omega)]
    exact hm m hm'
  · rw [pk_un (by omega)]
    exact ht i hi
  · rw [pk_un (by omega)]
    exact hcl i hi
theorem rn_gap {n c g q cp l p : Nat} {e : Int32} {tF cF mP mS : Nat → Int32} {kCar kCop kGro kShr kCar' : Int32} {s : Nat → Int32} (h : RN n c g q cp l e tF cF mP mS kCar kCop kGro kShr s) (hp : p ≤ n) : RN n c p q cp l e tF cF mP mS kCar' kCop kGro kShr (upd (upd s 4 kCar') 2 (nI p)) := by
  obtain ⟨⟨hb1, hb2, hb3, hb4, hb5, hb6, hb7⟩, he, ⟨e0, e1, e2, e3, e4, e5, e6, e7, e8, e9, e10⟩, hm, ht, hcl⟩ := h
  refine ⟨⟨hb1, hb2, hp, hb4, hb5, hb6, hb7⟩, he, ⟨e0, e1, rfl, e3, rfl, e5, e6, e7, e8, e9, e10⟩, fun m hm' => ?_, fun i hi => ?_, fun i hi => ?_⟩
  · rw [pk_un (by omega), pk_un (by omega), pk_un (by omega), pk_un (by omega)]
    exact hm m hm'
  · rw [pk_un (by omega), pk_un (by omega)]
    exact ht i hi
  · rw [pk_un (by omega), pk_un (by omega)]
    exact hcl i hi
theorem rn_mark {n c g q cp l j p : Nat} {e sd : Int32} {tF cF mP mS : Nat → Int32} {kCar kCop kGro kShr : Int32} {s : Nat → Int32} (h : RN n c g q cp l e tF cF mP mS kCar kCop kGro kShr s) (hj : j < 4) (hp : p ≤ n) : RN n c g q cp l e tF cF (upd mP j (nI p)) (upd mS j sd) kCar kCop kGro kShr (upd (upd s (12 + j) (nI p)) (16 + j) sd) := by
  obtain ⟨⟨hb1, hb2, hb3, hb4, hb5, hb6, hb7⟩, he, ⟨e0, e1, e2, e3, e4, e5, e6, e7, e8, e9, e10⟩, hm, ht, hcl⟩ := h
  have o : ∀ i, (i < 12 ∨ 20 ≤ i) → upd (upd s (12 + j) (nI p)) (16 + j) sd i = s i := fun i hi => by rw [pk_un (by omega), pk_un (by omega)]
  refine ⟨⟨hb1, hb2, hb3, hb4, hb5, hb6, hb7⟩, he, ⟨by rw [o _ (by omega), e0], by rw [o _ (by omega), e1], by rw [o _ (by omega), e2], by rw [o _ (by omega), e3], by rw [o _ (by omega), e4], by rw [o _ (by omega), e5], by rw [o _ (by omega), e6], by rw [o _ (by omega), e7], by rw [o _ (by omega), e8], by rw [o _ (by omega), e9], by rw [o _ (by omega), e10]⟩, fun m hm' => ?_, fun i hi => ?_, fun i hi => ?_⟩
  · by_cases a : m = j
    · subst a
      rw [pk_un (by omega), pk_us, pk_us, pk_us, pk_us]
      exact ⟨rfl, rfl, Or.inr ⟨p, hp, rfl⟩⟩
    · rw [pk_un (by omega), pk_un (by omega), pk_un (by omega), pk_un (by omega), pk_un (by omega), pk_un (by omega)]
      exact hm m hm'
  · rw [o _ (by omega)]
    exact ht i hi
  · rw [o _ (by omega)]
    exact hcl i hi
-- ===== moves =====
theorem o_moves {Z n c g q cp l p : Nat} {e : Int32} {tF cF mP mS : Nat → Int32} {kCar kCop kGro kShr : Int32} {s : Nat → Int32} (h : RN n c g q cp l e tF cF mP mS kCar kCop kGro kShr s) (hp : p ≤ n) : ∃ r g' kCar' s', f_X6_letGapFollow Z (nI p) e (nI g) kCar = some (r, nI g', kCar') ∧ f_X8_moves Z (nI p) s = some (r, s') ∧ RN n p g' q cp l e tF cF mP mS kCar' kCop kGro kShr s' := by
  have h1 := rn_caret h hp
  have h2 := rn_gap (kCar' := kCar + nI (dst p g)) h1 hp
  obtain ⟨⟨hb1, hb2, hb3, hb4, hb5, hb6, hb7⟩, he, ⟨e0, e1, e2, e3, e4, e5, e6, e7, e8, e9, e10⟩, hm, ht, hcl⟩ := h
  unfold f_X6_letGapFollow f_X8_moves
  rw [rd_1, tn_1, kl, rd_9, tn_9, pk_un (by omega), e9]
  rcases he with rfl | rfl
  · refine ⟨0, g, kCar, _, ?_, ?_, h1⟩
    · rw [if_pos rfl]
    · rw [if_neg c_10]
  · refine ⟨nI (dst p g), p, kCar + nI (dst p g), _, ?_, ?_, h2⟩
    · rw [if_neg c_01, q_moveGap (by omega) (by omega), Option.bind_some]
    · rw [if_pos rfl, r_movesGap (g := g) (by rw [pk_un (by omega), e2]) (by omega) (by omega), Option.bind_some, pk_un (by omega), e4]
theorem o_move {Z n c g q cp l p : Nat} {e vC vG : Int32} {tF cF mP mS : Nat → Int32} {kCar kCop kGro kShr : Int32} {s : Nat → Int32} (hZ : 300 ≤ Z) (h : RN n c g q cp l e tF cF mP mS kCar kCop kGro kShr s) (hp : p ≤ n) : ∃ r g' q' kCar' s', f_X6_moveCaret Z (nI p) vC vG e (nI n) tF (nI g) kCar = some (r, nI p, nI q', nI g', kCar') ∧ f_X8_movesAnew Z (nI p) s = some (r, s') ∧ RN n p g' q' cp l e tF cF mP mS kCar' kCop kGro kShr s' := by
  obtain ⟨r, g', kCar', s', i1, i2, i3⟩ := o_moves (Z := Z) h hp
  have hb1 : n ≤ 256 := h.1.1
  have e1 : s' 1 = nI p := i3.2.2.1.2.1
  have ht := i3.2.2.2.2.1
  have hl : lb (tx s') p = lb tF p := lb_congr _ (fun i hi => ht i (by omega))
  refine ⟨r, g', p - lb tF p, kCar', _, ?_, ?_, rn_goal i3 (by omega)⟩
  · unfold f_X6_moveCaret
    rw [q_col (by omega) hb1 hp, Option.bind_some, i1, Option.bind_some]
  · unfold f_X8_movesAnew
    rw [i2, Option.bind_some]
    dsimp only
    rw [r_goal (by omega) e1 (by omega), Option.bind_some, hl]
-- ===== up and down =====
theorem le_lb {n : Nat} {F : Nat → Int32} : ∀ p, p ≤ n → le' F (n - lb F p) (lb F p) = le' F (n - p) p
  | 0, _ => rfl
  | p + 1, h => by
    unfold lb
    by_cases hF : F p = 10
    · rw [if_pos hF]
    · rw [if_neg hF, le_lb p (by omega), show n - p = (n - (p + 1)) + 1 by omega]
      show (if F p = 10 then p else le' F (n - (p + 1)) (p + 1)) = _
      rw [if_neg hF]
theorem le_brk {F : Nat → Int32} : ∀ k p, le' F k p < p + k → F (le' F k p) = 10
  | 0, p, h => absurd h (by unfold le'; omega)
  | k + 1, p, h => by
    unfold le' at h ⊢
    by_cases hF : F p = 10
    · rw [if_pos hF]
      exact hF
    · rw [if_neg hF] at h ⊢
      exact le_brk k (p + 1) (by omega)
theorem lb_brk {F : Nat → Int32} {p : Nat} (h : F p = 10) : lb F (p + 1) = p + 1 := if_pos h
def mn (a b : Nat) : Nat := if a ≤ b then a else b
theorem o_goal {Z n c g q cp l p : Nat} {e vC : Int32} {tF cF mP mS : Nat → Int32} {kCar kCop kGro kShr : Int32} {s : Nat → Int32} (hZ : 300 ≤ Z) (h : RN n c g q cp l e tF cF mP mS kCar kCop kGro kShr s) (hp : p ≤ n) : ∃ z r g' kCar' s', f_X6_moveToGoal Z (nI p) vC (nI q) e (nI n) tF (nI g) kCar = some (nI z, nI g', kCar') ∧ f_X8_goalFrom Z (nI (lb tF p)) s = some (nI z) ∧ f_X8_moves Z (nI z) s = some (r, s') ∧ RN n z g' q cp l e tF cF mP mS kCar' kCop kGro kShr s' := by
  have hle := le'_in tF (n - p) p
  have hlb := lb_le tF p
  have hz : mn (le' tF (n - p) p) (lb tF p + q) ≤ n := by
    unfold mn
    split <;> omega
  obtain ⟨r, g', kCar', s', i1, i2, i3⟩ := o_moves (Z := Z) h hz
  obtain ⟨⟨hb1, hb2, hb3, hb4, hb5, hb6, hb7⟩, he, ⟨e0, e1, e2, e3, e4, e5, e6, e7, e8, e9, e10⟩, hm, ht, hcl⟩ := h
  refine ⟨_, r, g', kCar', s', ?_, ?_, i2, i3⟩
  · unfold f_X6_moveToGoal
    rw [q_lineBegin (by omega) (by omega) hb1 hp, Option.bind_some, kl, q_lineEnd (by omega) (by omega) hb1 hp, Option.bind_some, kl, nI_add]
    have e : (if nI (le' tF (n - p) p) < nI (lb tF p + q) then nI (le' tF (n - p) p) else nI (lb tF p + q)) = nI (mn (le' tF (n - p) p) (lb tF p + q)) := by
      unfold mn
      by_cases x : le' tF (n - p) p < lb tF p + q
      · rw [if_pos (nI_lt x (by omega)), if_pos (by omega)]
      · rw [if_neg (nI_nlt (by omega) (by omega))]
        by_cases y : le' tF (n - p) p ≤ lb tF p + q
        · rw [if_pos y, show lb tF p + q = le' tF (n - p) p by omega]
        · rw [if_neg y]
    rw [e, i1, Option.bind_some]
  · unfold f_X8_goalFrom
    rw [r_endOf (n := n) (by omega) e0 hb1 (by omega), Option.bind_some, rd_8, rd_8, tn_8, e8, nI_add, show le' (tx s) (n - lb tF p) (lb tF p) = le' tF (n - p) p from by rw [← le_lb p hp]; exact le'_congr _ _ (fun i hi => ht i (by omega))]
    unfold mn
    by_cases x : le' tF (n - p) p ≤ lb tF p + q
    · rw [if_pos (nI_le x (by omega)), if_pos x]
    · rw [if_neg (nI_ge (by omega) (by omega)), if_neg x]
-- ===== regions =====
theorem q_abs {p g : Nat} (hp : p < 2 ^ 30) (hg : g < 2 ^ 30) : (if 0 ≤ nI p - nI g then nI p - nI g else 0 - (nI p - nI g)) = nI (dst p g) := by
  have h := q_moveGap (Z := 0) (k := 0) hp hg
  unfold f_X3_moveGap kl at h
  exact (Prod.mk.inj (Option.some.inj h)).1
theorem o_region {Z n c g q cp l j : Nat} {e : Int32} {tF cF mP mS : Nat → Int32} {kCar kCop kGro kShr : Int32} {s : Nat → Int32} (h : RN n c g q cp l e tF cF mP mS kCar kCop kGro kShr s) (hj : j < 4) : ∃ f : Nat, f_X6_regionFault Z (nI j) (nI c) mP = some (nI f) ∧ f_X8_noRegion Z (nI j) s = some (nI f) ∧ ((f = 0 ∧ ∃ p, p ≤ n ∧ mP j = nI p ∧ dst p c ≤ 60) ∨ f = 2 ∨ f = 3) := by
  obtain ⟨⟨hb1, hb2, hb3, hb4, hb5, hb6, hb7⟩, he, ⟨e0, e1, e2, e3, e4, e5, e6, e7, e8, e9, e10⟩, hm, ht, hcl⟩ := h
  obtain ⟨m1, m2, m3⟩ := hm j hj
  unfold f_X6_regionFault f_X8_noRegion f_X8_region
  rw [q_posOf hj, Option.bind_some, z_12, z_rd (by omega) (by omega), nI_clamp (by omega), m1, rd_1, tn_1, e1, z_rd (by omega) (by omega)]
  rcases m3 with m3 | ⟨p, hp, m3⟩
  · rw [m3]
    exact ⟨2, if_pos rfl, if_pos rfl, Or.inr (Or.inl rfl)⟩
  · have hd : dst p c ≤ 256 := by
      unfold dst
      split <;> omega
    have hm1 : ¬ nI p = -1 := by
      rw [z_eqm (by omega)]
      exact id
    rw [m3, if_neg hm1, if_neg hm1, q_abs (by omega) (by omega), kl, r_size (by omega) (by omega), Option.bind_some, Option.bind_some, l_60]
    by_cases x : dst p c ≤ 60
    · refine ⟨0, ?_, ?_, Or.inl ⟨rfl, p, hp, rfl, x⟩⟩
      · rw [if_pos (nI_le x (by omega))]
        rfl
      · rw [if_pos (nI_le x (by omega))]
        rfl
    · refine ⟨3, ?_, ?_, Or.inr (Or.inr rfl)⟩
      · rw [if_neg (nI_ge (by omega) (by omega))]
        rfl
      · rw [if_neg (nI_ge (by omega) (by omega))]
        rfl
theorem r_clipL {Z a k : Nat} {p1 : Int32} (hk : k ≤ 60) (ha : a + k ≤ 256) : ∀ (N x : Nat) (s : Nat → Int32), x ≤ 60 → 60 < N + x → s 10 = nI k → ∃ s', f_X8_clips_l51 Z p1 N (nI a) (nI x) s = some s' ∧ ∀ i, s' i = if 20 + x ≤ i ∧ i < 80 then (if k ≤ i - 20 then 0 else s (80 + a + (i - 20))) else s i := by
  intro N
  induction N with
  | zero => intro x s h1 h2; omega
  | succ N ih =>
    intro x s h1 h2 e10
    show ∃ s', f_X8_clips_b51 Z p1 _ (nI a) (nI x) s = _ ∧ _
    unfold f_X8_clips_b51
    rcases Nat.lt_or_ge x 60 with h | h
    · have go : ∀ v : Int32, v = (if k ≤ x then 0 else s (80 + a + x)) → ∃ s', f_X8_clips_l51 Z p1 N (nI a) (nI (x + 1)) (upd s (20 + x) v) = some s' ∧ ∀ i, s' i = if 20 + x ≤ i ∧ i < 80 then (if k ≤ i - 20 then 0 else s (80 + a + (i - 20))) else s i := fun v hv => by
        obtain ⟨s', i1, i2⟩ := ih (x + 1) (upd s (20 + x) v) (by omega) (by omega) (by rw [pk_un (by omega), e10])
        refine ⟨s', i1, fun i => ?_⟩
        rw [i2]
        unfold upd
        by_cases y : i = 20 + x
        · subst y
          rw [if_neg (by omega), if_pos rfl, if_pos (by omega), hv, show 20 + x - 20 = x by omega]
        · by_cases b : 20 + (x + 1) ≤ i ∧ i < 80
          · rw [if_pos b, if_neg (show ¬ 80 + a + (i - 20) = 20 + x by omega), if_pos (show 20 + x ≤ i ∧ i < 80 by omega)]
          · rw [if_neg b, if_neg y, if_neg (by omega)]
      rw [l_60, if_neg (nI_ge h (by omega)), rd_10, tn_10, e10]
      by_cases y : k ≤ x
      · rw [if_pos (nI_le y (by omega)), z_20, z_rd (by omega) (by omega), kl, kl, nI_clamp (by omega), nI_1]
        exact go _ (by rw [if_pos y])
      · rw [if_neg (nI_ge (by omega) (by omega)), z_80, nI_add, z_rd (by omega) (by omega), z_20, z_rd (by omega) (by omega), kl, kl, nI_clamp (by omega), nI_clamp (by omega), nI_1]
        exact go _ (by rw [if_neg y])
    · obtain rfl : x = 60 := by omega
      refine ⟨s, ?_, fun i => ?_⟩
      · rw [l_60, if_pos (nI_le (Nat.le_refl _) (by omega))]
      · rw [if_neg (by omega)]
theorem mn_dst {p c : Nat} : (p ≤ c → mn p c = p ∧ p + dst p c = c) ∧ (c ≤ p → mn p c = c ∧ c + dst p c = p) := by
  unfold mn dst
  refine ⟨fun h => ⟨if_pos h, ?_⟩, fun h => ⟨?_, ?_⟩⟩
  · split <;> omega
  · split <;> omega
  · split <;> omega
theorem q_minP {p c : Nat} (hp : p ≤ 256) (hc : c ≤ 256) : (if nI c < nI p then nI c else nI p) = nI (mn p c) := by
  unfold mn
  by_cases x : c < p
  · rw [if_pos (nI_lt x (by omega)), if_neg (by omega)]
  · rw [if_neg (nI_nlt (by omega) (by omega)), if_pos (by omega)]
theorem q_maxP {p c : Nat} (hp : p ≤ 256) (hc : c ≤ 256) : (if nI p < nI c then nI c else nI p) - nI (mn p c) = nI (dst p c) := by
  by_cases x : p < c
  · obtain ⟨a, b⟩ := mn_dst.1 (Nat.le_of_lt x)
    rw [if_pos (nI_lt x (by omega)), a, pk_sub (by omega), show c - p = dst p c by omega]
  · obtain ⟨a, b⟩ := mn_dst.2 (Nat.not_lt.mp x)
    rw [if_neg (nI_nlt (by omega) (by omega)), a, pk_sub (by omega), show p - c = dst p c by omega]
theorem o_copy {Z n c g q cp l j p : Nat} {e cN : Int32} {tF cF mP mS : Nat → Int32} {kCar kCop kGro kShr : Int32} {s : Nat → Int32} (hZ : 300 ≤ Z) (h : RN n c g q cp l e tF cF mP mS kCar kCop kGro kShr s) (hj : j < 4) (hp : p ≤ n) (hm : mP j = nI p) (hd : dst p c ≤ 60) : ∃ cF' s', f_X6_copyRegion Z (nI j) (nI c) (nI n) tF cN cF mP = some (nI (dst p c), cF') ∧ f_X8_clips Z (nI j) s = some s' ∧ RN n c g q cp (dst p c) e tF cF' mP mS kCar kCop kGro kShr s' := by
  obtain ⟨⟨hb1, hb2, hb3, hb4, hb5, hb6, hb7⟩, he, ⟨e0, e1, e2, e3, e4, e5, e6, e7, e8, e9, e10⟩, hmk, ht, hcl⟩ := h
  have hak : mn p c + dst p c ≤ n := by
    rcases Nat.le_total p c with x | x
    · obtain ⟨a, b⟩ := mn_dst.1 x
      omega
    · obtain ⟨a, b⟩ := mn_dst.2 x
      omega
  obtain ⟨s', i1, i2⟩ := r_clipL (Z := Z) (a := mn p c) (k := dst p c) (p1 := nI j) hd (by omega) Z 0 (upd s 10 (nI (dst p c))) (by omega) (by omega) pk_us
  have o : ∀ i, (i < 20 ∨ 80 ≤ i) → i ≠ 10 → s' i = s i := fun i hi h2 => by rw [i2, if_neg (by omega), pk_un h2]
  refine ⟨va_cpy tF cF (mn p c) 0 (dst p c), s', ?_, ?_, ⟨hb1, hb2, hb3, hb4, hd, hb6, hb7⟩, he, ⟨by rw [o _ (by omega) (by omega), e0], by rw [o _ (by omega) (by omega), e1], by rw [o _ (by omega) (by omega), e2], by rw [o _ (by omega) (by omega), e3], by rw [o _ (by omega) (by omega), e4], by rw [o _ (by omega) (by omega), e5], by rw [o _ (by omega) (by omega), e6], by rw [o _ (by omega) (by omega), e7], by rw [o _ (by omega) (by omega), e8], by rw [o _ (by omega) (by omega), e9], by rw [i2, if_neg (by omega), pk_us]⟩, fun m hm' => ?_, fun i hi => ?_, fun i hi => ?_⟩
  · unfold f_X6_copyRegion
    rw [q_posOf hj, Option.bind_some, hm, kl, kl, q_minP (by omega) (by omega), q_maxP (by omega) (by omega), q_assign (by omega) (by omega) hak hb1 hd, Option.bind_some]
  · unfold f_X8_clips f_X8_region
    rw [z_12, z_rd (by omega) (by omega), nI_clamp (by omega), (hmk j hj).1, hm, rd_1, tn_1, e1, rd_1, kl, rd_1, z_rd (by omega) (by omega), r_size (by omega) (by omega), Option.bind_some, Option.bind_some, rd_10, kl, tn_10, z_rd (by omega) (by omega), kl, Option.bind_some, rd_10, kl]
    rcases Nat.lt_or_ge p c with x | x
    · obtain ⟨a, b⟩ := mn_dst.1 (Nat.le_of_lt x)
      rw [if_neg (nI_ge x (by omega))]
      rw [a] at i1
      exact i1
    · obtain ⟨a, b⟩ := mn_dst.2 x
      rw [if_pos (nI_le x (by omega))]
      rw [a] at i1
      exact i1
  · rw [o _ (by omega) (by omega), o _ (by omega) (by omega)]
    exact hmk m hm'
  · rw [o _ (by omega) (by omega)]
    exact ht i hi
  · rw [i2, if_pos (by omega), if_neg (by omega), pk_un (by omega), pk_cpy_in (by omega) (by omega), show 80 + mn p c + (20 + i - 20) = 80 + (mn p c + (i - 0)) by omega, ht _ (by omega)]
theorem o_cut {Z n c g q cp l j p : Nat} {e cN vG : Int32} {tF cF mP mS : Nat → Int32} {kCar kCop kGro kShr : Int32} {s : Nat → Int32} (hZ : 300 ≤ Z) (h : RN n c g q cp l e tF cF mP mS kCar kCop kGro kShr s) (hj : j < 4) (hp : p ≤ n) (hm : mP j = nI p) (hd : dst p c ≤ 60) : ∃ n' c' g' q' cp' l' tF' cF' mP' kCar' kCop' kShr' s', f_X6_cutRegion Z (nI j) (nI c) vG (nI n) tF cN cF mP (nI cp) (nI g) kCar kCop kShr = some (nI c', nI q', nI n', tF', nI l', cF', mP', nI cp', nI g', kCar', kCop', kShr') ∧ f_X8_cuts Z (nI j) s = some s' ∧ RN n' c' g' q' cp' l' e tF' cF' mP' mS kCar' kCop' kGro kShr' s' := by
  obtain ⟨cF', s1, a1, a2, a3⟩ := o_copy (Z := Z) (cN := cN) hZ h hj hp hm hd
  have hb2 : c ≤ n := h.1.2.1
  have hb1 : n ≤ 256 := h.1.1
  have hak : mn p c + dst p c ≤ n := by
    rcases Nat.le_total p c with x | x
    · obtain ⟨a, b⟩ := mn_dst.1 x
      omega
    · obtain ⟨a, b⟩ := mn_dst.2 x
      omega
  obtain ⟨g', q', cp', tF', mP', kCar', kCop', kShr', s', b1, b2, b3⟩ := o_del (Z := Z) (vG := vG) (p := mn p c) (k := dst p c) hZ a3 hak (by
    rcases Nat.le_total p c with x | x
    · obtain ⟨a, b⟩ := mn_dst.1 x
      omega
    · obtain ⟨a, b⟩ := mn_dst.2 x
      omega)
  refine ⟨n - dst p c, mn p c, g', q', cp', dst p c, tF', cF', mP', kCar', kCop', kShr', s', ?_, ?_, b3⟩
  · unfold f_X6_cutRegion f_X0_size
    rw [a1, Option.bind_some]
    dsimp only
    rw [q_posOf hj, Option.bind_some, hm, kl, q_minP (by omega) (by omega), Option.bind_some, b1, Option.bind_some]
  · unfold f_X8_cuts
    have e1 : s1 1 = nI c := a3.2.2.1.2.1
    have e10 : s1 10 = nI (dst p c) := a3.2.2.1.2.2.2.2.2.2.2.2.2.2
    have m1 : s1 (12 + j) = nI p := (a3.2.2.2.1 j hj).1.trans hm
    rw [a2, Option.bind_some, z_12, z_rd (by omega) (by omega), nI_clamp (by omega), m1, rd_1, tn_1, e1, rd_1, rd_10, tn_10, e10, z_rd (by omega) (by omega), rd_10]
    rcases Nat.lt_or_ge p c with x | x
    · obtain ⟨a, b⟩ := mn_dst.1 (Nat.le_of_lt x)
      rw [if_neg (nI_ge x (by omega))]
      rw [a] at b2
      rw [b2, Option.bind_some]
    · obtain ⟨a, b⟩ := mn_dst.2 x
      rw [if_pos (nI_le x (by omega))]
      rw [a] at b2
      rw [b2, Option.bind_some]
-- ===== bytes laid ready =====
theorem r_fill {Z k : Nat} {v aBm : Int32} (hk : k ≤ 100) : ∀ (N x : Nat) (F : Nat → Int32), x ≤ k → k < N + x → (∀ i, i < x → F i = v) → ∃ F', f_X8_fillsBytes_l7 Z v (nI k) N (nI x) aBm F = some (aBm, F') ∧ ∀ i, i < k → F' i = v := by
  intro N
  induction N with
  | zero => intro x F h1 h2; omega
  | succ N ih =>
    intro x F h1 h2 h3
    show ∃ F', f_X8_fillsBytes_b7 Z v (nI k) _ (nI x) aBm F = _ ∧ _
    unfold f_X8_fillsBytes_b7
    rcases Nat.lt_or_ge x k with h | h
    · rw [if_neg (nI_ge h (by omega)), z_rd (by omega) (by omega), kl, kl, nI_clamp (by omega), nI_1]
      refine ih (x + 1) _ (by omega) (by omega) (fun i hi => ?_)
      by_cases y : i = x
      · rw [y, pk_us]
      · rw [pk_un y, h3 i (by omega)]
    · obtain rfl : x = k := by omega
      exact ⟨F, if_pos (nI_le (Nat.le_refl _) (by omega)), h3⟩
theorem o_fill {Z k : Nat} {v aBm : Int32} {aBy : Nat → Int32} (hZ : 300 ≤ Z) (hk : k ≤ 100) : ∃ F', f_X8_fillsBytes Z v (nI k) aBm aBy = some (nI k, F') ∧ ∀ i, i < k → F' i = v :=
  r_fill hk Z 0 aBy (by omega) (by omega) (fun i hi => absurd hi (by omega))
theorem r_pasteL {Z l : Nat} {s : Nat → Int32} (hl : l ≤ 60) : ∀ (N x : Nat) (F : Nat → Int32), x ≤ l → l < N + x → (∀ i, i < x → F i = s (20 + i)) → ∃ F', f_X8_pastes_l13 Z N (nI x) (nI l) s F = (f_X8_inserts Z (nI l) s F').bind (fun a => some (nI l, a, F')) ∧ ∀ i, i < l → F' i = s (20 + i) := by
  intro N
  induction N with
  | zero => intro x F h1 h2; omega
  | succ N ih =>
    intro x F h1 h2 h3
    show ∃ F', f_X8_pastes_b13 Z _ (nI x) (nI l) s F = _ ∧ _
    unfold f_X8_pastes_b13
    rcases Nat.lt_or_ge x l with h | h
    · rw [if_neg (nI_ge h (by omega)), z_20, z_rd (by omega) (by omega), z_rd (by omega) (by omega), kl, kl, nI_clamp (by omega), nI_clamp (by omega), nI_1]
      refine ih (x + 1) _ (by omega) (by omega) (fun i hi => ?_)
      by_cases y : i = x
      · rw [y, pk_us]
      · rw [pk_un y, h3 i (by omega)]
    · obtain rfl : x = l := by omega
      exact ⟨F, if_pos (nI_le (Nat.le_refl _) (by omega)), h3⟩
theorem o_insR {Z n c g q cp l k : Nat} {e vG p1 aBm : Int32} {tF cF mP mS aBy : Nat → Int32} {kCar kCop kGro kShr : Int32} {s : Nat → Int32} (hZ : 300 ≤ Z) (h : RN n c g q cp l e tF cF mP mS kCar kCop kGro kShr s) (hk : k ≤ 100) (hn : n + k ≤ 256) : ∃ n' c' g' q' cp' tF' mP' kCar' kCop' kGro' s' aBy', f_X6_insertRepeated Z p1 (nI k) (nI c) vG (nI n) tF mP mS (nI cp) (nI g) kCar kCop kGro = some (nI c', nI q', nI n', tF', mP', nI cp', nI g', kCar', kCop', kGro') ∧ f_X8_fillsBytes Z p1 (nI k) aBm aBy = some (nI k, aBy') ∧ f_X8_inserts Z (nI k) s aBy' = some s' ∧ RN n' c' g' q' cp' l e tF' cF mP' mS kCar' kCop' kGro' kShr s' := by
  have hb := h.1
  obtain ⟨aBy', i1, i2⟩ := o_fill (Z := Z) (k := k) (v := p1) (aBm := aBm) (aBy := aBy) hZ hk
  obtain ⟨s', j1, j2⟩ := r_inserts (Z := Z) (aBy := aBy') hZ h hk hn
  obtain ⟨mP', k1, k2⟩ := q_insR (Z := Z) (p1 := p1) (vG := vG) (tF := tF) (mP := mP) (mS := mS) (kCar := kCar) (kCop := kCop) (kGro := kGro) hZ hb.2.1 hb.2.2.1 hn hb.2.2.2.2.2.2 hb.2.2.2.2.2.1
  exact ⟨_, _, _, _, _, _, _, _, _, _, s', aBy', k2, i1, j1, rn_ins (B := fun _ => p1) h hn i2 k1 j2⟩
theorem o_insP {Z n c g q cp l k p o Lo : Nat} {e vG : Int32} {G tF cF mP mS aBy : Nat → Int32} {kCar kCop kGro kShr : Int32} {s : Nat → Int32} (hZ : 300 ≤ Z) (h : RN n c g q cp l e tF cF mP mS kCar kCop kGro kShr s) (hk : k ≤ 100) (hn : n + k ≤ 256) (hp : p + k ≤ o) (ho : o ≤ Lo) (hLo : Lo < 2 ^ 30) (hB : ∀ i, i < k → aBy i = G (p + i)) : ∃ n' c' g' q' cp' tF' mP' kCar' kCop' kGro' s', f_X6_insertPart Z (nI p) (nI k) Lo (nI c) vG (nI n) tF mP mS (nI cp) (nI g) kCar kCop kGro (nI o) G = some (nI c', nI q', nI n', tF', mP', nI cp', nI g', kCar', kCop', kGro') ∧ f_X8_inserts Z (nI k) s aBy = some s' ∧ RN n' c' g' q' cp' l e tF' cF mP' mS kCar' kCop' kGro' kShr s' := by
  have hb := h.1
  obtain ⟨s', j1, j2⟩ := r_inserts (Z := Z) (aBy := aBy) hZ h hk hn
  obtain ⟨mP', k1, k2⟩ := q_insP (Z := Z) (p := p) (o := o) (Lo := Lo) (G := G) (vG := vG) (tF := tF) (mP := mP) (mS := mS) (kCar := kCar) (kCop := kCop) (kGro := kGro) hZ hb.2.1 hb.2.2.1 hn hb.2.2.2.2.2.2 hb.2.2.2.2.2.1 hp ho hLo
  exact ⟨_, _, _, _, _, _, _, _, _, _, s', k2, j1, rn_ins (B := fun j => G (p + j)) h hn hB k1 j2⟩
theorem o_paste {Z n c g q cp l : Nat} {e vG aBm : Int32} {tF cF mP mS aBy : Nat → Int32} {kCar kCop kGro kShr : Int32} {s : Nat → Int32} (hZ : 300 ≤ Z) (h : RN n c g q cp l e tF cF mP mS kCar kCop kGro kShr s) (hn : n + l ≤ 256) : ∃ n' c' g' q' cp' tF' mP' kCar' kCop' kGro' s' aBy', f_X6_insertPart_s Z 0 (nI l) (nI c) vG (nI n) tF (nI l) cF mP mS (nI cp) (nI g) kCar kCop kGro = some (nI c', nI q', nI n', tF', mP', nI cp', nI g', kCar', kCop', kGro') ∧ f_X8_pastes Z aBm s aBy = some (nI l, s', aBy') ∧ RN n' c' g' q' cp' l e tF' cF mP' mS kCar' kCop' kGro' kShr s' := by
  have hl : l ≤ 60 := h.1.2.2.2.2.1
  have e10 : s 10 = nI l := h.2.2.1.2.2.2.2.2.2.2.2.2.2
  have hcl := h.2.2.2.2.2
  obtain ⟨aBy', i1, i2⟩ := r_pasteL (Z := Z) (l := l) (s := s) hl Z 0 aBy (by omega) (by omega) (fun i hi => absurd hi (by omega))
  obtain ⟨n', c', g', q', cp', tF', mP', kCar', kCop', kGro', s', j1, j2, j3⟩ := o_insP (Z := Z) (p := 0) (o := l) (Lo := 60) (G := cF) (aBy := aBy') (vG := vG) hZ h (k := l) (by omega) hn (by omega) hl (by omega) (fun i hi => by rw [i2 i hi, hcl i hi, Nat.zero_add])
  refine ⟨n', c', g', q', cp', tF', mP', kCar', kCop', kGro', s', aBy', ?_, ?_, j3⟩
  · rw [ps_eq]
    exact j1
  · unfold f_X8_pastes
    rw [rd_10, tn_10, e10, kl]
    show f_X8_pastes_l13 Z Z (nI 0) (nI l) s aBy = _
    rw [i1, j2, Option.bind_some]
