-- ===== what the property needs besides: no needless room, few growths, no byte below 0 =====
def KI (B : Nat) (s : Nat → Int32) : Prop := ∃ n cp l a b : Nat, (n ≤ 256 ∧ cp ≤ 256 ∧ l ≤ 60) ∧ (s 0 = nI n ∧ s 3 = nI cp ∧ s 10 = nI l ∧ s 6 = nI a ∧ s 7 = nI b) ∧ (cp = 8 ∨ cp < 4 * n) ∧ a + b ≤ B ∧ (∀ i, i < n → 0 ≤ s (80 + i)) ∧ (∀ i, i < l → 0 ≤ s (20 + i))
theorem ki_mono {B B' : Nat} {s : Nat → Int32} (h : KI B s) (hB : B ≤ B') : KI B' s := by
  obtain ⟨n, cp, l, a, b, h1, h2, h3, h4, h5⟩ := h
  exact ⟨n, cp, l, a, b, h1, h2, h3, by omega, h5⟩
def KN (B n cp l : Nat) (tF cF : Nat → Int32) (kGro kShr : Int32) : Prop := (cp = 8 ∨ cp < 4 * n) ∧ (∃ a b, kGro = nI a ∧ kShr = nI b ∧ a + b ≤ B) ∧ (∀ i, i < n → 0 ≤ tF i) ∧ (∀ i, i < l → 0 ≤ cF i)
theorem ki_out {B n c g q cp l : Nat} {e : Int32} {tF cF mP mS : Nat → Int32} {kCar kCop kGro kShr : Int32} {s : Nat → Int32} (h : RN n c g q cp l e tF cF mP mS kCar kCop kGro kShr s) (k : KI B s) : KN B n cp l tF cF kGro kShr := by
  obtain ⟨⟨hb1, hb2, hb3, hb4, hb5, hb6, hb7⟩, he, ⟨e0, e1, e2, e3, e4, e5, e6, e7, e8, e9, e10⟩, hm, ht, hcl⟩ := h
  obtain ⟨n', cp', l', a, b, ⟨x1, x2, x3⟩, ⟨y0, y3, y10, y6, y7⟩, z1, z2, z3, z4⟩ := k
  have h8 := cap_in hb7
  obtain rfl : n = n' := (nI_eq (by omega) (by omega)).mp (e0.symm.trans y0)
  obtain rfl : cp = cp' := (nI_eq (by omega) (by omega)).mp (e3.symm.trans y3)
  obtain rfl : l = l' := (nI_eq (by omega) (by omega)).mp (e10.symm.trans y10)
  exact ⟨z1, ⟨a, b, e6.symm.trans y6, e7.symm.trans y7, z2⟩, fun i hi => by rw [← ht i hi]; exact z3 i hi, fun i hi => by rw [← hcl i hi]; exact z4 i hi⟩
theorem ki_in {B n c g q cp l : Nat} {e : Int32} {tF cF mP mS : Nat → Int32} {kCar kCop kGro kShr : Int32} {s : Nat → Int32} (h : RN n c g q cp l e tF cF mP mS kCar kCop kGro kShr s) (k : KN B n cp l tF cF kGro kShr) : KI B s := by
  obtain ⟨⟨hb1, hb2, hb3, hb4, hb5, hb6, hb7⟩, he, ⟨e0, e1, e2, e3, e4, e5, e6, e7, e8, e9, e10⟩, hm, ht, hcl⟩ := h
  obtain ⟨z1, ⟨a, b, y6, y7, z2⟩, z3, z4⟩ := k
  have h8 := cap_in hb7
  exact ⟨n, cp, l, a, b, ⟨hb1, h8.2, hb5⟩, ⟨e0, e3, e10, e6.trans y6, e7.trans y7⟩, z1, z2, fun i hi => by rw [ht i hi]; exact z3 i hi, fun i hi => by rw [hcl i hi]; exact z4 i hi⟩
theorem gC_in {n k : Nat} : ∀ (d cp : Nat), gC d cp n k = cp ∨ gC d cp n k < 2 * (n + k)
  | 0, cp => Or.inl rfl
  | d + 1, cp => by
    unfold gC
    by_cases h : n + k ≤ cp
    · rw [if_pos h]
      exact Or.inl rfl
    · rw [if_neg h]
      rcases gC_in (n := n) (k := k) d (cp * 2) with w | w
      · exact Or.inr (by omega)
      · exact Or.inr w
theorem gT_in {n k : Nat} : ∀ (d cp : Nat), gT d cp n k ≤ d
  | 0, cp => Nat.le_refl _
  | d + 1, cp => by
    unfold gT
    split
    · omega
    · have := gT_in (n := n) (k := k) d (cp * 2)
      omega
theorem sT_in {n : Nat} : ∀ (d cp : Nat), sT d cp n ≤ d
  | 0, cp => Nat.le_refl _
  | d + 1, cp => by
    unfold sT
    split
    · have := sT_in (n := n) d (cp / 2)
      omega
    · omega
theorem sC_in {n : Nat} : ∀ (d cp : Nat), CAP cp → cp ≤ 8 * 2 ^ d → sC d cp n = 8 ∨ sC d cp n < 4 * n
  | 0, cp, h, h2 => by
    have := cap_in h
    unfold sC
    exact Or.inl (by omega)
  | d + 1, cp, h, h2 => by
    have h8 := cap_in h
    unfold sC
    by_cases hc : 8 < cp ∧ n ≤ cp / 4
    · rw [if_pos hc]
      exact sC_in (n := n) d (cp / 2) (cap_half h hc.1).1 (by rw [Nat.pow_succ] at h2; omega)
    · rw [if_neg hc]
      by_cases x : 8 < cp
      · have := (cap_half h x).2
        exact Or.inr (by omega)
      · exact Or.inl (by omega)
theorem kn_ins {B n cp l k : Nat} {tF cF tF' F : Nat → Int32} {c : Nat} {kGro kShr : Int32} (h : KN B n cp l tF cF kGro kShr) (hc : c ≤ n) (ht : ∀ i, i < n + k → tF' i = insT c k tF F i) (hF : ∀ i, i < k → 0 ≤ F i) : KN (B + 5) (n + k) (gC 5 cp n k) l tF' cF (kGro + nI (gT 5 cp n k)) kShr := by
  obtain ⟨z1, ⟨a, b, y6, y7, z2⟩, z3, z4⟩ := h
  have h1 := gC_in (n := n) (k := k) 5 cp
  have h2 := gT_in (n := n) (k := k) 5 cp
  refine ⟨by omega, ⟨a + gT 5 cp n k, b, by rw [y6, nI_add], y7, by omega⟩, fun i hi => ?_, z4⟩
  rw [ht i hi]
  unfold insT
  by_cases x : i < c
  · rw [if_pos x]
    exact z3 i (by omega)
  · rw [if_neg x]
    by_cases y : i < c + k
    · rw [if_pos y]
      exact hF _ (by omega)
    · rw [if_neg y]
      exact z3 _ (by omega)
theorem kn_del {B n cp l p k cp' : Nat} {tF cF tF' : Nat → Int32} {kGro kShr kShr' kCop kCop' : Int32} (h : KN B n cp l tF cF kGro kShr) (hcp : CAP cp) (hp : p + k ≤ n) (hX : ((k = 0 ∧ cp' = cp ∧ kShr' = kShr ∧ kCop' = kCop) ∨ (0 < k ∧ cp' = sC 5 cp (n - k) ∧ kShr' = kShr + nI (sT 5 cp (n - k)) ∧ kCop' = kCop + nI (sT 5 cp (n - k) * (n - k)))) ∧ (∀ i, i < n - k → tF' i = if i < p then tF i else tF (i + k))) : KN (B + 5) (n - k) cp' l tF' cF kGro kShr' := by
  obtain ⟨z1, ⟨a, b, y6, y7, z2⟩, z3, z4⟩ := h
  obtain ⟨h1, ht⟩ := hX
  have h8 := cap_in hcp
  have h2 := sT_in (n := n - k) 5 cp
  have h3 := sC_in (n := n - k) 5 cp hcp (by omega)
  have hT : ∀ i, i < n - k → 0 ≤ tF' i := fun i hi => by
    rw [ht i hi]
    split
    · exact z3 _ (by omega)
    · exact z3 _ (by omega)
  rcases h1 with ⟨rfl, rfl, rfl, -⟩ | ⟨w, rfl, rfl, -⟩
  · exact ⟨by omega, ⟨a, b, y6, y7, by omega⟩, hT, z4⟩
  · exact ⟨h3, ⟨a, b + sT 5 cp (n - k), y6, by rw [y7, nI_add], by omega⟩, hT, z4⟩
-- ===== the history, the last row first =====
def HH (B : Nat) (hX hC : Int32) (hR : Nat → StT) (S : List (Nat → Int32)) : Prop := ∃ x : Nat, x ≤ 6 ∧ S.length ≤ 6 ∧ hC = nI S.length ∧ hX = nI x ∧ ∀ (j : Nat) (t : Nat → Int32), S[j]? = some t → RS (hR ((x + 11 - j) % 6)) t ∧ KI B t
def GS (B : Nat) (vCar : Int32) (vGoa : Int32) (vEag : Int32) (tN : Int32) (tF : Nat → Int32) (cN : Int32) (cF : Nat → Int32) (mP : Nat → Int32) (mS : Nat → Int32) (kCap : Int32) (kGap : Int32) (kCar : Int32) (kCop : Int32) (kGro : Int32) (kShr : Int32) (hX hC : Int32) (hR : Nat → StT) (s : Nat → Int32) (S : List (Nat → Int32)) : Prop := RS (vCar, vGoa, vEag, tN, tF, cN, cF, mP, mS, kCap, kGap, kCar, kCop, kGro, kShr) s ∧ KI B s ∧ HH B hX hC hR S
theorem hh_mono {B B' : Nat} {hX hC : Int32} {hR : Nat → StT} {S : List (Nat → Int32)} (h : HH B hX hC hR S) (hB : B ≤ B') : HH B' hX hC hR S := by
  obtain ⟨x, h1, h2, h3, h4, h5⟩ := h
  exact ⟨x, h1, h2, h3, h4, fun j t ht => ⟨(h5 j t ht).1, ki_mono (h5 j t ht).2 hB⟩⟩
theorem gs_mono {B B' : Nat} {vCar : Int32} {vGoa : Int32} {vEag : Int32} {tN : Int32} {tF : Nat → Int32} {cN : Int32} {cF : Nat → Int32} {mP : Nat → Int32} {mS : Nat → Int32} {kCap : Int32} {kGap : Int32} {kCar : Int32} {kCop : Int32} {kGro : Int32} {kShr : Int32} {hX hC : Int32} {hR : Nat → StT} {s : Nat → Int32} {S : List (Nat → Int32)} (h : GS B vCar vGoa vEag tN tF cN cF mP mS kCap kGap kCar kCop kGro kShr hX hC hR s S) (hB : B ≤ B') : GS B' vCar vGoa vEag tN tF cN cF mP mS kCap kGap kCar kCop kGro kShr hX hC hR s S := ⟨h.1, ki_mono h.2.1 hB, hh_mono h.2.2 hB⟩
theorem hh_save {Z B n c g q cp l : Nat} {e : Int32} {tF cF mP mS : Nat → Int32} {kCar kCop kGro kShr : Int32} {s : Nat → Int32} {hX hC : Int32} {hR : Nat → StT} {S : List (Nat → Int32)} (hZ : 300 ≤ Z) (h : RN n c g q cp l e tF cF mP mS kCar kCop kGro kShr s) (k : KI B s) (hH : HH B hX hC hR S) (hS : S.length ≤ 5) : ∃ hX' hC' hR', f_X2_save Z hX hC hR (nI c) (nI q) e (nI n) tF (nI l) cF mP mS (nI cp) (nI g) kCar kCop kGro kShr = some (hX', hC', hR') ∧ HH B hX' hC' hR' (s :: S) := by
  obtain ⟨x, h1, h2, rfl, rfl, h5⟩ := hH
  obtain ⟨σ', i1, i2⟩ := q_save (Z := Z) (hR := hR) hZ h h1 h2
  rw [if_neg (show ¬ S.length = 6 by omega)] at i2
  refine ⟨_, _, _, i2, (if x = 6 then 0 else x) + 1, by split <;> omega, by simp only [List.length_cons]; omega, rfl, rfl, fun j t ht => ?_⟩
  rcases j with _ | j
  · obtain rfl : s = t := Option.some.inj ht
    rw [show ((if x = 6 then 0 else x) + 1 + 11 - 0) % 6 = (if x = 6 then 0 else x) from by split <;> omega, va_up_self]
    exact ⟨i1, k⟩
  · have ht : S[j]? = some t := ht
    have hj : j < S.length := (List.getElem?_eq_some_iff.mp ht).1
    rw [show ((if x = 6 then 0 else x) + 1 + 11 - (j + 1)) % 6 = (x + 11 - j) % 6 from by split <;> omega, va_up_ne _ _ (by split <;> omega)]
    exact h5 j t ht
theorem hh_undo {Z B : Nat} {σ : StT} {hX hC : Int32} {hR : Nat → StT} {t : Nat → Int32} {S : List (Nat → Int32)} (hZ : 300 ≤ Z) (hH : HH B hX hC hR (t :: S)) : ∃ x1 x2 x3 x4 x5 x6 x7 x8 x9 x10 x11 x12 x13 x14 x15 hX', hC = nI (S.length + 1) ∧ S.length ≤ 5 ∧ f_X2_restore Z hX hC hR (s_vCar σ) (s_vGoa σ) (s_vEag σ) (s_tN σ) (s_tF σ) (s_cN σ) (s_cF σ) (s_mP σ) (s_mS σ) (s_kCap σ) (s_kGap σ) (s_kCar σ) (s_kCop σ) (s_kGro σ) (s_kShr σ) = some (hX', nI S.length, x1, x2, x3, x4, x5, x6, x7, x8, x9, x10, x11, x12, x13, x14, x15) ∧ RS (x1, x2, x3, x4, x5, x6, x7, x8, x9, x10, x11, x12, x13, x14, x15) t ∧ KI B t ∧ HH B hX' (nI S.length) hR S := by
  obtain ⟨x, h1, h2, rfl, rfl, h5⟩ := hH
  have hlen : S.length ≤ 5 := by
    simp only [List.length_cons] at h2
    omega
  obtain ⟨r1, r2⟩ := h5 0 t rfl
  have key : ∀ y : Nat, y ≤ 5 → (x + 11) % 6 = y → ∃ x1 x2 x3 x4 x5 x6 x7 x8 x9 x10 x11 x12 x13 x14 x15, f_X6_assign Z (s_vCar σ) (s_vGoa σ) (s_vEag σ) (s_tN σ) (s_tF σ) (s_cN σ) (s_cF σ) (s_mP σ) (s_mS σ) (s_kCap σ) (s_kGap σ) (s_kCar σ) (s_kCop σ) (s_kGro σ) (s_kShr σ) (s_vCar (hR y)) (s_vGoa (hR y)) (s_vEag (hR y)) (s_tN (hR y)) (s_tF (hR y)) (s_cN (hR y)) (s_cF (hR y)) (s_mP (hR y)) (s_mS (hR y)) (s_kCap (hR y)) (s_kGap (hR y)) (s_kCar (hR y)) (s_kCop (hR y)) (s_kGro (hR y)) (s_kShr (hR y)) = some (x1, x2, x3, x4, x5, x6, x7, x8, x9, x10, x11, x12, x13, x14, x15) ∧ RS (x1, x2, x3, x4, x5, x6, x7, x8, x9, x10, x11, x12, x13, x14, x15) t ∧ HH B (nI y) (nI S.length) hR S := fun y hy e => by
    rw [show (x + 11 - 0) % 6 = y by omega] at r1
    have h3 : RS (s_vCar (hR y), s_vGoa (hR y), s_vEag (hR y), s_tN (hR y), s_tF (hR y), s_cN (hR y), s_cF (hR y), s_mP (hR y), s_mS (hR y), s_kCap (hR y), s_kGap (hR y), s_kCar (hR y), s_kCop (hR y), s_kGro (hR y), s_kShr (hR y)) t := r1
    obtain ⟨n, c, g, q, cp, l, ⟨a1, a2, a3, a4, a5, a6⟩, hN⟩ := rs_out h3
    obtain ⟨tF', cF', mP', mS', k1, k2⟩ := q_asg (Z := Z) (x1 := s_vCar σ) (x2 := s_vGoa σ) (x3 := s_vEag σ) (x4 := s_tN σ) (x5 := s_tF σ) (x6 := s_cN σ) (x7 := s_cF σ) (x8 := s_mP σ) (x9 := s_mS σ) (x10 := s_kCap σ) (x11 := s_kGap σ) (x12 := s_kCar σ) (x13 := s_kCop σ) (x14 := s_kGro σ) (x15 := s_kShr σ) hZ hN
    refine ⟨_, _, _, _, _, _, _, _, _, _, _, _, _, _, _, ?_, rs_in k2, y, by omega, by omega, rfl, rfl, fun j u hu => ?_⟩
    · rw [a1, a2, a3, a4, a5, a6]
      exact k1
    · have hj : j < S.length := (List.getElem?_eq_some_iff.mp hu).1
      have := h5 (j + 1) u hu
      rw [show (y + 11 - j) % 6 = (x + 11 - (j + 1)) % 6 by omega]
      exact this
  have el : nI (t :: S).length = nI (S.length + 1) := by rw [List.length_cons]
  have em : nI (S.length + 1) - 1 = nI S.length := pk_sub (b := 1) (by omega)
  rw [el]
  unfold f_X2_restore
  by_cases w : x = 0
  · subst w
    obtain ⟨x1, x2, x3, x4, x5, x6, x7, x8, x9, x10, x11, x12, x13, x14, x15, k1, k2, k3⟩ := key 5 (by omega) (by omega)
    refine ⟨x1, x2, x3, x4, x5, x6, x7, x8, x9, x10, x11, x12, x13, x14, x15, nI 5, rfl, hlen, ?_, k2, r2, k3⟩
    rw [if_pos (by decide), kl, kl, show (6 : Int32) - 1 = nI 5 from rfl, z_rd (by omega) (by omega), kl, nI_clamp (by omega), k1, Option.bind_some]
    dsimp only
    rw [em]
  · obtain ⟨x1, x2, x3, x4, x5, x6, x7, x8, x9, x10, x11, x12, x13, x14, x15, k1, k2, k3⟩ := key (x - 1) (by omega) (by omega)
    refine ⟨x1, x2, x3, x4, x5, x6, x7, x8, x9, x10, x11, x12, x13, x14, x15, nI (x - 1), rfl, hlen, ?_, k2, r2, k3⟩
    rw [if_neg (nI_nle (by omega) (by omega)), kl, kl, show nI x - 1 = nI (x - 1) from pk_sub (b := 1) (by omega), z_rd (by omega) (by omega), kl, nI_clamp (by omega), k1, Option.bind_some]
    dsimp only
    rw [em]
