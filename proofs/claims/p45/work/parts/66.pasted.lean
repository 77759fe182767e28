-- ===== isPasted: behind cut() paste() makes the text as it was =====
section PASTED
variable {B : Nat} {vCar : Int32} {vGoa : Int32} {vEag : Int32} {tN : Int32} {tF : Nat → Int32} {cN : Int32} {cF : Nat → Int32} {mP : Nat → Int32} {mS : Nat → Int32} {kCap : Int32} {kGap : Int32} {kCar : Int32} {kCop : Int32} {kGro : Int32} {kShr : Int32} {hX hC : Int32} {hR : Nat → StT} {aF : Nat → Int32} {s : Nat → Int32} {S : List (Nat → Int32)}
theorem p_fill {n j : Nat} {x4 : Int32} (hn : n ≤ 64) (en : tN = nI n) : ∀ (N i : Nat) (aF : Nat → Int32), i ≤ n → n < N + i → (∀ k, k < i → aF k = tF k) → ∃ aF' rec, (∀ k, k < n → aF' k = tF k) ∧ f_L_isPasted_l78 4000 (nI j) N (nI n) x4 (nI i) vCar vGoa vEag tN tF cN cF mP mS kCap kGap kCar kCop kGro kShr hX hC hR aF = f_L_isPasted_b78 4000 (nI j) rec (nI n) x4 (nI n) vCar vGoa vEag tN tF cN cF mP mS kCap kGap kCar kCop kGro kShr hX hC hR aF' := by
  intro N
  induction N with
  | zero => intro i aF h1 h2; omega
  | succ N ih =>
    intro i aF h1 h2 h3
    rcases Nat.lt_or_ge i n with h | h
    · obtain ⟨aF', rec, k1, k2⟩ := ih (i + 1) (upd aF i (tF i)) (by omega) (by omega) (fun k hk => by
        by_cases y : k = i
        · rw [y, pk_us]
        · rw [pk_un y, h3 k (by omega)])
      refine ⟨aF', rec, k1, ?_⟩
      rw [← k2]
      show f_L_isPasted_b78 4000 (nI j) (f_L_isPasted_l78 4000 (nI j) N) (nI n) x4 (nI i) vCar vGoa vEag tN tF cN cF mP mS kCap kGap kCar kCop kGro kShr hX hC hR aF = _
      unfold f_L_isPasted_b78
      rw [if_neg (nI_ge h (by omega)), en, x_byte h (by omega), Option.bind_some, z_rd (by omega) (by omega), kl, kl, nI_clamp (by omega), nI_1]
    · obtain rfl : i = n := by omega
      exact ⟨aF, _, h3, rfl⟩
theorem p_look {B : Nat} {t1 t2 : Nat → Int32} (H : HH B hX hC hR (t1 :: t2 :: S)) {n j : Nat} (hn : n ≤ 64) (en : tN = nI n) : ∀ (N i : Nat), i ≤ n → n < N + i → (∀ k, k < n → tF k = aF k) → ∃ vCar' vGoa' vEag' tN' tF' cN' cF' mP' mS' kCap' kGap' kCar' kCop' kGro' kShr' hX' hC' hR', f_L_isPasted_l183 4000 (nI j) N (nI n) 1 (nI i) vCar vGoa vEag tN tF cN cF mP mS kCap kGap kCar kCop kGro kShr hX hC hR aF = some (1, vCar', vGoa', vEag', tN', tF', cN', cF', mP', mS', kCap', kGap', kCar', kCop', kGro', kShr', hX', hC', hR', aF) ∧ GS B vCar' vGoa' vEag' tN' tF' cN' cF' mP' mS' kCap' kGap' kCar' kCop' kGro' kShr' hX' hC' hR' t2 S := by
  intro N
  induction N with
  | zero => intro i h1 h2; omega
  | succ N ih =>
    intro i h1 h2 h3
    rcases Nat.lt_or_ge i n with h | h
    · have := ih (i + 1) (by omega) (by omega) h3
      show ∃ vCar' vGoa' vEag' tN' tF' cN' cF' mP' mS' kCap' kGap' kCar' kCop' kGro' kShr' hX' hC' hR', f_L_isPasted_b183 4000 (nI j) (f_L_isPasted_l183 4000 (nI j) N) (nI n) 1 (nI i) vCar vGoa vEag tN tF cN cF mP mS kCap kGap kCar kCop kGro kShr hX hC hR aF = some (1, vCar', vGoa', vEag', tN', tF', cN', cF', mP', mS', kCap', kGap', kCar', kCop', kGro', kShr', hX', hC', hR', aF) ∧ GS B vCar' vGoa' vEag' tN' tF' cN' cF' mP' mS' kCap' kGap' kCar' kCop' kGro' kShr' hX' hC' hR' t2 S
      unfold f_L_isPasted_b183
      rw [if_neg (nI_ge h (by omega)), if_neg c_01, en, x_byte h (by omega), Option.bind_some, z_rd (by omega) (by omega), nI_clamp (by omega), if_pos (h3 i h), kl, nI_1]
      rw [en] at this
      exact this
    · obtain rfl : i = n := by omega
      show ∃ vCar' vGoa' vEag' tN' tF' cN' cF' mP' mS' kCap' kGap' kCar' kCop' kGro' kShr' hX' hC' hR', f_L_isPasted_b183 4000 (nI j) (f_L_isPasted_l183 4000 (nI j) N) (nI i) 1 (nI i) vCar vGoa vEag tN tF cN cF mP mS kCap kGap kCar kCop kGro kShr hX hC hR aF = some (1, vCar', vGoa', vEag', tN', tF', cN', cF', mP', mS', kCap', kGap', kCar', kCop', kGro', kShr', hX', hC', hR', aF) ∧ GS B vCar' vGoa' vEag' tN' tF' cN' cF' mP' mS' kCap' kGap' kCar' kCop' kGro' kShr' hX' hC' hR' t2 S
      unfold f_L_isPasted_b183
      obtain ⟨x1, x2, x3, x4, x5, x6, x7, x8, x9, x10, x11, x12, x13, x14, x15, hX1, -, -, u1, G1⟩ := a_undo (B := B) (vCar := vCar) (vGoa := vGoa) (vEag := vEag) (tN := tN) (tF := tF) (cN := cN) (cF := cF) (mP := mP) (mS := mS) (kCap := kCap) (kGap := kGap) (kCar := kCar) (kCop := kCop) (kGro := kGro) (kShr := kShr) H
      obtain ⟨y1, y2, y3, y4, y5, y6, y7, y8, y9, y10, y11, y12, y13, y14, y15, hX2, -, -, u2, G2⟩ := a_undo (B := B) (vCar := x1) (vGoa := x2) (vEag := x3) (tN := x4) (tF := x5) (cN := x6) (cF := x7) (mP := x8) (mS := x9) (kCap := x10) (kGap := x11) (kCar := x12) (kCop := x13) (kGro := x14) (kShr := x15) G1.2.2
      refine ⟨y1, y2, y3, y4, y5, y6, y7, y8, y9, y10, y11, y12, y13, y14, y15, hX2, nI S.length, hR, ?_, G2⟩
      rw [if_pos (nI_le (Nat.le_refl _) (by omega)), u1]
      show ((nx (f_X7_undo 4000 x1 x2 x3 x4 x5 x6 x7 x8 x9 x10 x11 x12 x13 x14 x15 hX1 (nI (t2 :: S).length) hR)).bind _) = _
      rw [u2]
      exact q_kb1
theorem p_text {n m d : Nat} {tF tF1 cF1 tF2 : Nat → Int32} (hmd : m + d ≤ n) (h1 : ∀ i, i < n - d → tF1 i = if i < m then tF i else tF (i + d)) (h2 : ∀ i, i < d → cF1 i = tF (m + i)) (h3 : ∀ i, i < n - d + d → tF2 i = insT m d tF1 cF1 i) : ∀ i, i < n → tF2 i = tF i := fun i hi => by
  rw [h3 i (by omega)]
  unfold insT
  by_cases x : i < m
  · rw [if_pos x, h1 i (by omega), if_pos x]
  · rw [if_neg x]
    by_cases y : i < m + d
    · rw [if_pos y, h2 _ (by omega), show m + (i - m) = i by omega]
    · rw [if_neg y, h1 _ (by omega), if_neg (by omega), show i - d + d = i by omega]
theorem p_c53 (G : GS B vCar vGoa vEag tN tF cN cF mP mS kCap kGap kCar kCop kGro kShr hX hC hR s S) (hS : S.length ≤ 4) (hB : B ≤ 100000) {j : Nat} (hj : j < 4) {p c : Nat} (hp : p ≤ 256) (em : mP j = nI p) (hc : c ≤ 256) (ec : vCar = nI c) : ∃ vCar' vGoa' vEag' tN' tF' cN' cF' mP' mS' kCap' kGap' kCar' kCop' kGro' kShr' hX' hC' hR' aF', f_L_isPasted_c53 4000 (nI j) tN (nI (dst p c)) vCar vGoa vEag tN tF cN cF mP mS kCap kGap kCar kCop kGro kShr hX hC hR aF = some (1, vCar', vGoa', vEag', tN', tF', cN', cF', mP', mS', kCap', kGap', kCar', kCop', kGro', kShr', hX', hC', hR', aF') ∧ GS (B + 10) vCar' vGoa' vEag' tN' tF' cN' cF' mP' mS' kCap' kGap' kCar' kCop' kGro' kShr' hX' hC' hR' s S := by
  have hd2 : dst p c ≤ 256 := by
    unfold dst
    split <;> omega
  have nop : ∃ vCar' vGoa' vEag' tN' tF' cN' cF' mP' mS' kCap' kGap' kCar' kCop' kGro' kShr' hX' hC' hR' aF', (some (1, vCar, vGoa, vEag, tN, tF, cN, cF, mP, mS, kCap, kGap, kCar, kCop, kGro, kShr, hX, hC, hR, aF) : Option (Int32 × Int32 × Int32 × Int32 × Int32 × (Nat → Int32) × Int32 × (Nat → Int32) × (Nat → Int32) × (Nat → Int32) × Int32 × Int32 × Int32 × Int32 × Int32 × Int32 × Int32 × Int32 × (Nat → StT) × (Nat → Int32))) = some (1, vCar', vGoa', vEag', tN', tF', cN', cF', mP', mS', kCap', kGap', kCar', kCop', kGro', kShr', hX', hC', hR', aF') ∧ GS (B + 10) vCar' vGoa' vEag' tN' tF' cN' cF' mP' mS' kCap' kGap' kCar' kCop' kGro' kShr' hX' hC' hR' s S := ⟨vCar, vGoa, vEag, tN, tF, cN, cF, mP, mS, kCap, kGap, kCar, kCop, kGro, kShr, hX, hC, hR, aF, rfl, gs_mono G (by omega)⟩
  unfold f_L_isPasted_c53
  by_cases h60 : dst p c ≤ 60
  · rw [l_60, if_neg (nI_nlt h60 (by omega))]
    rcases Nat.eq_zero_or_pos (dst p c) with h0 | h0
    · rw [h0, if_pos nI_0]
      exact nop
    · rw [if_neg (n0_ne h0 hd2)]
      by_cases h64 : tN ≤ 64
      · rw [if_pos h64]
        obtain ⟨n, cp, cp', s1, vGoa1, tF1, cF1, mP1, kGap1, kCar1, kCop1, kShr1, hX1, hC1, hR1, -, m2, G1, en, hn256, hmd, ⟨t0, t1⟩, t2⟩ := a_cut G (by omega) hj ec hc em hp h60
        have hn : n ≤ 64 := by
          rw [en, show (64 : Int32) = nI 64 from rfl, nI_leI (by omega) (by omega)] at h64
          exact h64
        obtain ⟨aF', rec, f1, f2⟩ := p_fill (vCar := vCar) (vGoa := vGoa) (vEag := vEag) (tN := tN) (tF := tF) (cN := cN) (cF := cF) (mP := mP) (mS := mS) (kCap := kCap) (kGap := kGap) (kCar := kCar) (kCop := kCop) (kGro := kGro) (kShr := kShr) (hX := hX) (hC := hC) (hR := hR) (j := j) (x4 := nI (dst p c)) hn en 4000 0 aF (by omega) (by omega) (fun k hk => absurd hk (by omega))
        obtain ⟨s2, vCar2, vGoa2, tF2, mP2, kCap2, kGap2, kCar2, kCop2, kGro2, hX2, hC2, hR2, -, m3, G2, t3⟩ := a_paste G1 (by simp only [List.length_cons]; omega) (n := n - dst p c) (c := mn p c) (l := dst p c) rfl (by omega) rfl (by omega) rfl h60 h0 (by omega)
        rw [show n - dst p c + dst p c = n by omega] at m3 G2
        have htx := p_text hmd t1 t2 t3
        obtain ⟨vCar', vGoa', vEag', tN', tF', cN', cF', mP', mS', kCap', kGap', kCar', kCop', kGro', kShr', hX', hC', hR', k1, k2⟩ := p_look (vCar := vCar2) (vGoa := vGoa2) (vEag := vEag) (tN := nI n) (tF := tF2) (cN := nI (dst p c)) (cF := cF1) (mP := mP2) (mS := mS) (kCap := kCap2) (kGap := kGap2) (kCar := kCar2) (kCop := kCop2) (kGro := kGro2) (kShr := kShr1) (aF := aF') G2.2.2 (j := j) hn rfl 4000 0 (by omega) (by omega) (fun k hk => by rw [htx k hk, f1 k hk])
        have k165 : f_L_isPasted_c165 4000 (nI j) (nI n) (nI (mn p c)) vGoa1 vEag (nI (n - dst p c)) tF1 (nI (dst p c)) cF1 mP1 mS (nI cp') kGap1 kCar1 kCop1 kGro kShr1 hX1 hC1 hR1 aF' = some (1, vCar', vGoa', vEag', tN', tF', cN', cF', mP', mS', kCap', kGap', kCar', kCop', kGro', kShr', hX', hC', hR', aF') := by
          unfold f_L_isPasted_c165
          rw [m3]
          show (if nI n = nI n then f_L_isPasted_c178 4000 (nI j) (nI n) 1 vCar2 vGoa2 vEag (nI n) tF2 (nI (dst p c)) cF1 mP2 mS kCap2 kGap2 kCar2 kCop2 kGro2 kShr1 hX2 hC2 hR2 aF' else _) = _
          rw [if_pos rfl]
          exact k1
        refine ⟨vCar', vGoa', vEag', tN', tF', cN', cF', mP', mS', kCap', kGap', kCar', kCop', kGro', kShr', hX', hC', hR', aF', ?_, gs_mono k2 (by omega)⟩
        rw [show f_L_isPasted_l78 4000 (nI j) 4000 tN (nI (dst p c)) 0 vCar vGoa vEag tN tF cN cF mP mS kCap kGap kCar kCop kGro kShr hX hC hR aF = f_L_isPasted_l78 4000 (nI j) 4000 (nI n) (nI (dst p c)) (nI 0) vCar vGoa vEag tN tF cN cF mP mS kCap kGap kCar kCop kGro kShr hX hC hR aF from by rw [en]; rfl, f2]
        unfold f_L_isPasted_b78 f_X7_copied f_X7_growths f_X7_shrinks f_X7_length f_X0_size
        rw [if_pos (nI_le (Nat.le_refl _) (by omega)), Option.bind_some, Option.bind_some, Option.bind_some, kl, m2]
        show (if nI (dst p c) = nI (dst p c) then _ else _) = _
        rw [if_pos rfl, Option.bind_some, Option.bind_some, pk_sub (by omega), if_pos rfl, Option.bind_some, Option.bind_some]
        obtain ⟨a, b, ea, eb, hab⟩ : ∃ a b, kGro = nI a ∧ kShr = nI b ∧ a + b ≤ B := by
          obtain ⟨n', c', g', q', cp', l', ⟨rfl, rfl, rfl, rfl, rfl, rfl⟩, hN⟩ := rs_out G.1
          exact (ki_out hN G.2.1).2.1
        rcases t0 with ⟨w, -⟩ | ⟨-, -, e1, e2⟩
        · omega
        · have hT := sT_in (n := n - dst p c) 5 cp
          by_cases hz : sT 5 cp (n - dst p c) = 0
          · rw [hz] at e1 e2
            rw [Nat.zero_mul, add_n0] at e2
            rw [add_n0] at e1
            have : ¬ kGro + kShr < kGro + kShr1 := by
              rw [e1, ea, eb, nI_add]
              exact nI_nlt (Nat.le_refl _) (by omega)
            rw [if_neg this, Option.bind_some, if_pos e2]
            exact k165
          · have : kGro + kShr < kGro + kShr1 := by
              rw [e1, ea, eb, nI_add, nI_add, nI_add]
              exact nI_lt (by omega) (by omega)
            rw [if_pos this]
            exact k165
      · rw [if_neg h64]
        exact nop
  · rw [l_60, if_pos (nI_lt (by omega) (by omega))]
    exact nop
theorem h_pasted (G : GS B vCar vGoa vEag tN tF cN cF mP mS kCap kGap kCar kCop kGro kShr hX hC hR s S) (hS : S.length ≤ 4) (hB : B ≤ 100000) {j : Nat} (hj : j < 4) : ∃ vCar' vGoa' vEag' tN' tF' cN' cF' mP' mS' kCap' kGap' kCar' kCop' kGro' kShr' hX' hC' hR' aF', f_L_isPasted 4000 (nI j) vCar vGoa vEag tN tF cN cF mP mS kCap kGap kCar kCop kGro kShr hX hC hR aF = some (1, vCar', vGoa', vEag', tN', tF', cN', cF', mP', mS', kCap', kGap', kCar', kCop', kGro', kShr', hX', hC', hR', aF') ∧ GS (B + 10) vCar' vGoa' vEag' tN' tF' cN' cF' mP' mS' kCap' kGap' kCar' kCop' kGro' kShr' hX' hC' hR' s S := by
  obtain ⟨e1, m⟩ := g_mk G hj
  obtain ⟨c, hc, ec, es⟩ := g_car G
  unfold f_L_isPasted f_X7_length f_X7_caret f_X0_size
  rw [Option.bind_some, Option.bind_some, x_mark hj, Option.bind_some]
  rcases m with m | ⟨p, hp, m⟩
  · rw [m, if_neg (by decide)]
    unfold f_L_isPasted_c53
    rw [if_pos (by decide)]
    exact ⟨vCar, vGoa, vEag, tN, tF, cN, cF, mP, mS, kCap, kGap, kCar, kCop, kGro, kShr, hX, hC, hR, aF, rfl, gs_mono G (by omega)⟩
  · have key := p_c53 (aF := aF) G hS hB hj hp m hc ec
    rw [if_pos (by rw [m]; exact nI_pos' (by omega)), Option.bind_some, Option.bind_some]
    have hd : dst p c = if c ≤ p then p - c else c - p := rfl
    by_cases h : c ≤ p
    · rw [if_pos h] at hd
      rw [if_pos (by rw [m, ec]; exact nI_le h (by omega)), Option.bind_some, Option.bind_some, show mP j - vCar = nI (dst p c) from by rw [m, ec, pk_sub h, hd]]
      exact key
    · rw [if_neg h] at hd
      rw [if_neg (by rw [m, ec]; exact nI_ge (by omega) (by omega)), Option.bind_some, Option.bind_some, show vCar - mP j = nI (dst p c) from by rw [m, ec, pk_sub (by omega), hd]]
      exact key
end PASTED
