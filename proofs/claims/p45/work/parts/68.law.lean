-- ===== the law's turn =====
theorem lg_same {x : Int64} : lg_cmp x x = 0 := by simp [lg_cmp]
abbrev RecT : Type := Int32 → Int32 → Int32 → Int32 → Int32 → (Nat → Int32) → Int32 → (Nat → Int32) → (Nat → Int32) → (Nat → Int32) → Int32 → Int32 → Int32 → Int32 → Int32 → Int32 → Int32 → Int32 → (Nat → StT) → (Nat → Int32) → Option Int32
def RecOK (T : Nat) (x3 : Int32) (rec : RecT) : Prop := ∀ (vCar : Int32) (vGoa : Int32) (vEag : Int32) (tN : Int32) (tF : Nat → Int32) (cN : Int32) (cF : Nat → Int32) (mP : Nat → Int32) (mS : Nat → Int32) (kCap : Int32) (kGap : Int32) (kCar : Int32) (kCop : Int32) (kGro : Int32) (kShr : Int32) (hX : Int32) (hC : Int32) (hR : Nat → StT) (aF s : Nat → Int32) (S : List (Nat → Int32)), GS T vCar vGoa vEag tN tF cN cF mP mS kCap kGap kCar kCop kGro kShr hX hC hR s S → rec (x3 + 1) vCar vGoa vEag tN tF cN cF mP mS kCap kGap kCar kCop kGro kShr hX hC hR aF = some 1
section LAW
variable {B T : Nat} {vCar : Int32} {vGoa : Int32} {vEag : Int32} {tN : Int32} {tF : Nat → Int32} {cN : Int32} {cF : Nat → Int32} {mP : Nat → Int32} {mS : Nat → Int32} {kCap : Int32} {kGap : Int32} {kCar : Int32} {kCop : Int32} {kGro : Int32} {kShr : Int32} {hX hC : Int32} {hR : Nat → StT} {aF : Nat → Int32} {s : Nat → Int32} {S : List (Nat → Int32)} {CE : Int32 → Option Int32} {rec : RecT} {x3 : Int32}
theorem l_198 (G : GS B vCar vGoa vEag tN tF cN cF mP mS kCap kGap kCar kCop kGro kShr hX hC hR s S) (hT : T ≤ 100000) (hB : B + 10 ≤ T) (hrec : RecOK T x3 rec) {x5 : Int32} : f_L_law_c198 4000 CE rec x3 x5 vCar vGoa vEag tN tF cN cF mP mS kCap kGap kCar kCop kGro kShr hX hC hR aF = some 1 := by
  obtain ⟨hs1, hs2⟩ := x_saved G.2.2
  have stay : f_L_law_c238 4000 CE rec x3 vCar vGoa vEag tN tF cN cF mP mS kCap kGap kCar kCop kGro kShr hX hC hR aF = some 1 := hrec vCar vGoa vEag tN tF cN cF mP mS kCap kGap kCar kCop kGro kShr hX hC hR aF s S (gs_mono G (by omega))
  unfold f_L_law_c198
  rw [h_holds G, Option.bind_some, if_neg c_01]
  unfold kz
  rw [if_neg (show ¬ (3 : Int32) = 0 by decide)]
  by_cases h : x3 - x3 / 3 * 3 = 2
  · rw [if_pos h, hs1, Option.bind_some]
    by_cases h5 : 5 ≤ S.length
    · rw [if_pos (show (5 : Int32) ≤ nI S.length from nI_le (a := 5) h5 (by omega))]
      exact stay
    · obtain ⟨j, hj, ej⟩ := lw_in (x5 >>> (5 &&& 31)) (m := 4) (by omega) (by omega)
      obtain ⟨vCar', vGoa', vEag', tN', tF', cN', cF', mP', mS', kCap', kGap', kCar', kCop', kGro', kShr', hX', hC', hR', aF', k1, k2⟩ := h_pasted (aF := aF) G (by omega) (by omega) hj
      rw [if_neg (show ¬ (5 : Int32) ≤ nI S.length from nI_ge (b := 5) (by omega) (by omega)), show f_L_low 4000 (x5 >>> (5 &&& 31)) 4 = some (LW (x5 >>> (5 &&& 31)) (nI 4)) from q_low (m := 4) (by omega) (by omega), Option.bind_some, ej, k1, Option.bind_some]
      dsimp only
      rw [if_neg c_01]
      exact hrec vCar' vGoa' vEag' tN' tF' cN' cF' mP' mS' kCap' kGap' kCar' kCop' kGro' kShr' hX' hC' hR' aF' s S (gs_mono k2 hB)
  · rw [if_neg h]
    exact stay
theorem l_137a (G : GS B vCar vGoa vEag tN tF cN cF mP mS kCap kGap kCar kCop kGro kShr hX hC hR s S) (hT : T ≤ 100000) (hB : B + 10 ≤ T) (hrec : RecOK T x3 rec) {x4 x5 x6 : Int32} {x7 x10 : Int64} : f_L_law_c137 4000 CE rec x3 x4 x5 x6 x7 (-9) x10 vCar vGoa vEag tN tF cN cF mP mS kCap kGap kCar kCop kGro kShr hX hC hR aF = some 1 := by
  unfold f_L_law_c137
  rw [if_pos rfl]
  exact l_198 G hT hB hrec
theorem l_137b {s' : Nat → Int32} {v w r : Int32} (G : GS (B + 5) vCar vGoa vEag tN tF cN cF mP mS kCap kGap kCar kCop kGro kShr hX hC hR s' (s :: S)) (hg : gA v w s = some (r, some s')) (hr : ¬ r = -9) (hT : T ≤ 100000) (hB : B + 20 ≤ T) (hrec : RecOK T x3 rec) : f_L_law_c137 4000 CE rec x3 v w (nI S.length) (DG s) r (DG s') vCar vGoa vEag tN tF cN cF mP mS kCap kGap kCar kCop kGro kShr hX hC hR aF = some 1 := by
  unfold f_L_law_c137
  rw [if_neg hr]
  by_cases hb : ((v >>> (10 &&& 31)) &&& 1) = 0
  · rw [if_pos hb]
    obtain ⟨x1, x2, x3', x4, x5, x6, x7, x8, x9, x10, x11, x12, x13, x14, x15, hX1, -, hS, u1, G1⟩ := a_undo (vCar := vCar) (vGoa := vGoa) (vEag := vEag) (tN := tN) (tF := tF) (cN := cN) (cF := cF) (mP := mP) (mS := mS) (kCap := kCap) (kGap := kGap) (kCar := kCar) (kCop := kCop) (kGro := kGro) (kShr := kShr) G.2.2
    obtain ⟨r', o, vCar', vGoa', vEag', tN', tF', cN', cF', mP', mS', kCap', kGap', kCar', kCop', kGro', kShr', hX', hC', hR', g1, f1, hc⟩ := act_ok G1 hS v w
    rw [hg] at g1
    have g2 := Option.some.inj g1
    obtain rfl : r = r' := congrArg Prod.fst g2
    obtain rfl : some s' = o := congrArg Prod.snd g2
    rcases hc with ⟨hc, -⟩ | ⟨s2, hc, -, G2⟩
    · cases hc
    · obtain rfl : s' = s2 := Option.some.inj hc
      rw [u1]
      show (if nI S.length = nI S.length then (f_X7_digest 4000 x1 x3' x4 x5 x6 x7 x8 x10 x11 x12 x13 x14 x15).bind _ else _) = _
      rw [if_pos rfl, x_digest (by omega) G1.1, Option.bind_some, if_pos lg_same, f1, Option.bind_some]
      dsimp only
      rw [if_pos rfl, x_digest (by omega) G2.1, Option.bind_some, if_pos lg_same]
      exact l_198 G2 hT (by omega) hrec
  · rw [if_neg hb]
    exact l_198 G hT (by omega) hrec
theorem l_69 (G : GS B vCar vGoa vEag tN tF cN cF mP mS kCap kGap kCar kCop kGro kShr hX hC hR s S) (hS : S.length ≤ 5) (hT : T ≤ 100000) (hB : B + 20 ≤ T) (hrec : RecOK T x3 rec) {v w : Int32} : f_L_law_c69 4000 CE rec x3 v w vCar vGoa vEag tN tF cN cF mP mS kCap kGap kCar kCop kGro kShr hX hC hR aF = some 1 := by
  obtain ⟨hs1, hs2⟩ := x_saved G.2.2
  obtain ⟨r, o, vCar', vGoa', vEag', tN', tF', cN', cF', mP', mS', kCap', kGap', kCar', kCop', kGro', kShr', hX', hC', hR', g1, f1, hc⟩ := act_ok G hS v w
  unfold f_L_law_c69
  rw [hs1, Option.bind_some, x_digest (by omega) G.1, Option.bind_some, f1, Option.bind_some]
  dsimp only
  rcases hc with ⟨-, rfl, G2⟩ | ⟨s', rfl, hr, G2⟩
  · rw [x_digest (by omega) G2.1, Option.bind_some, if_pos rfl, if_pos lg_same, (x_saved G2.2.2).1, Option.bind_some, if_pos rfl]
    exact l_137a G2 hT (by omega) hrec
  · rw [x_digest (by omega) G2.1, Option.bind_some, if_neg hr, (x_saved G2.2.2).1, Option.bind_some, if_pos (show nI (s :: S).length = nI S.length + 1 by rw [nI_1]; rfl)]
    exact l_137b G2 g1 hr hT hB hrec
theorem l_37 (G : GS B vCar vGoa vEag tN tF cN cF mP mS kCap kGap kCar kCop kGro kShr hX hC hR s S) (hT : T ≤ 100000) (hB : B + 20 ≤ T) (hrec : RecOK T x3 rec) {v w : Int32} (hw : CE ((2 * x3) + 1) = some w) : f_L_law_c37 4000 CE rec x3 v vCar vGoa vEag tN tF cN cF mP mS kCap kGap kCar kCop kGro kShr hX hC hR aF = some 1 := by
  obtain ⟨hs1, hs2⟩ := x_saved G.2.2
  unfold f_L_law_c37
  rw [hw, Option.bind_some, hs1, Option.bind_some]
  by_cases h6 : S.length = 6
  · rw [if_pos (by rw [h6]; rfl)]
    match S, h6, G with
    | t1 :: t2 :: S2, h6, G =>
      obtain ⟨x1, x2, x3', x4, x5, x6, x7, x8, x9, x10, x11, x12, x13, x14, x15, hX1, -, -, u1, G1⟩ := a_undo (vCar := vCar) (vGoa := vGoa) (vEag := vEag) (tN := tN) (tF := tF) (cN := cN) (cF := cF) (mP := mP) (mS := mS) (kCap := kCap) (kGap := kGap) (kCar := kCar) (kCop := kCop) (kGro := kGro) (kShr := kShr) G.2.2
      obtain ⟨y1, y2, y3, y4, y5, y6, y7, y8, y9, y10, y11, y12, y13, y14, y15, hX2, -, -, u2, G2⟩ := a_undo (vCar := x1) (vGoa := x2) (vEag := x3') (tN := x4) (tF := x5) (cN := x6) (cF := x7) (mP := x8) (mS := x9) (kCap := x10) (kGap := x11) (kCar := x12) (kCop := x13) (kGro := x14) (kShr := x15) G1.2.2
      rw [u1]
      show ((nx (f_X7_undo 4000 x1 x2 x3' x4 x5 x6 x7 x8 x9 x10 x11 x12 x13 x14 x15 hX1 (nI (t2 :: S2).length) hR)).bind _) = _
      rw [u2]
      exact l_69 G2 (by simp only [List.length_cons] at h6; omega) hT hB hrec
  · rw [if_neg (show ¬ nI S.length = 6 by rw [l_6, nI_eq (by omega) (by omega)]; exact h6)]
    exact l_69 G (by omega) hT hB hrec
end LAW
theorem l_15 {CE : Int32 → Option Int32} (hCE : ∀ k, k ≤ 80 → ∃ r, CE (nI k) = some r) : ∀ (N t : Nat), t ≤ 36 → 36 < N + t → ∀ (vCar : Int32) (vGoa : Int32) (vEag : Int32) (tN : Int32) (tF : Nat → Int32) (cN : Int32) (cF : Nat → Int32) (mP : Nat → Int32) (mS : Nat → Int32) (kCap : Int32) (kGap : Int32) (kCar : Int32) (kCop : Int32) (kGro : Int32) (kShr : Int32) (hX : Int32) (hC : Int32) (hR : Nat → StT) (aF s : Nat → Int32) (S : List (Nat → Int32)), GS (20 * t) vCar vGoa vEag tN tF cN cF mP mS kCap kGap kCar kCop kGro kShr hX hC hR s S → f_L_law_l15 4000 CE N (nI t) vCar vGoa vEag tN tF cN cF mP mS kCap kGap kCar kCop kGro kShr hX hC hR aF = some 1 := by
  intro N
  induction N with
  | zero => intro t h1 h2; omega
  | succ N ih =>
    intro t h1 h2 vCar vGoa vEag tN tF cN cF mP mS kCap kGap kCar kCop kGro kShr hX hC hR aF s S G
    show f_L_law_b15 4000 CE (f_L_law_l15 4000 CE N) (nI t) vCar vGoa vEag tN tF cN cF mP mS kCap kGap kCar kCop kGro kShr hX hC hR aF = some 1
    unfold f_L_law_b15
    rcases Nat.lt_or_ge t 36 with h | h
    · rw [if_neg (show ¬ (36 : Int32) ≤ nI t from nI_ge (b := 36) h (by omega))]
      have hrec : RecOK (20 * t + 20) (nI t) (f_L_law_l15 4000 CE N) := fun vCar vGoa vEag tN tF cN cF mP mS kCap kGap kCar kCop kGro kShr hX hC hR aF s S G => by
        rw [nI_1]
        exact ih (t + 1) (by omega) (by omega) vCar vGoa vEag tN tF cN cF mP mS kCap kGap kCar kCop kGro kShr hX hC hR aF s S G
      have e2 : (2 : Int32) * nI t = nI (2 * t) := by rw [l_2, pk_mul]
      obtain ⟨v, hv⟩ := hCE (2 * t) (by omega)
      obtain ⟨w, hw⟩ := hCE (2 * t + 1) (by omega)
      have hw2 : CE ((2 * nI t) + 1) = some w := by rw [e2, nI_1]; exact hw
      by_cases ht : 2 ≤ t
      · rw [if_pos (show (2 : Int32) ≤ nI t from nI_le (a := 2) ht (by omega)), show CE (2 * nI t) = some v from by rw [e2]; exact hv, Option.bind_some]
        exact l_37 G (by omega) (by omega) hrec hw2
      · rw [if_neg (show ¬ (2 : Int32) ≤ nI t from nI_ge (b := 2) (by omega) (by omega))]
        exact l_37 G (by omega) (by omega) hrec hw2
    · rw [if_pos (show (36 : Int32) ≤ nI t from nI_le (a := 36) h (by omega))]
theorem rs0 : RS (0, 0, 0, 0, (fun _ => 0), 0, (fun _ => 0), mP0, (fun _ => 0), 8, 0, 0, 0, 0, 0) s0 := by
  refine ⟨0, 0, 0, 0, 8, 0, ⟨by omega, by omega, by omega, by omega, by omega, by omega, Or.inl rfl⟩, ⟨rfl, rfl, rfl, rfl, rfl, rfl⟩, Or.inl rfl, ⟨rfl, rfl, rfl, rfl, rfl, rfl, rfl, rfl, rfl, rfl, rfl⟩, fun m hm => ?_, fun i hi => absurd hi (by omega), fun i hi => absurd hi (by omega)⟩
  have : m = 0 ∨ m = 1 ∨ m = 2 ∨ m = 3 := by omega
  rcases this with rfl | rfl | rfl | rfl <;> exact ⟨rfl, rfl, Or.inl rfl⟩
theorem gs0 : GS 0 0 0 0 0 (fun _ => 0) 0 (fun _ => 0) mP0 (fun _ => 0) 8 0 0 0 0 0 0 0 (fun _ => st0) s0 [] :=
  ⟨rs0, ⟨0, 8, 0, 0, 0, ⟨by omega, by omega, by omega⟩, ⟨rfl, rfl, rfl, rfl, rfl⟩, Or.inl rfl, by omega, fun i hi => absurd hi (by omega), fun i hi => absurd hi (by omega)⟩, ⟨0, by omega, by simp, rfl, rfl, fun j t h => by simp at h⟩⟩
theorem ce_ok {L : Nat} (hL : L ≤ 260) (xs : Nat → Int32) : ∀ k, k ≤ 80 → ∃ r, f_L_cell L xs (nI k) = some r := fun k hk => by
  unfold f_L_cell
  rcases Nat.lt_or_ge k L with h | h
  · rw [if_neg (show ¬ Int32.ofNat L ≤ nI k from nI_ge h (by omega)), z_rd h (by omega)]
    exact ⟨_, rfl⟩
  · rw [if_pos (show Int32.ofNat L ≤ nI k from nI_le h (by omega))]
    exact ⟨_, rfl⟩
