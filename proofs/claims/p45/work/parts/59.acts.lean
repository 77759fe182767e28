-- ===== what a call does to the reference's row: pure functions of the row =====
def mFill (p k : Int32) (s : Nat → Int32) : Option (Int32 × (Nat → Int32)) := (f_X8_fillsBytes 4000 p k 0 (fun _ => 0)).bind fun a => (f_X8_inserts 4000 k s a.2).map fun s' => (s' 0, s')
def mMoveBy (k : Int32) (s : Nat → Int32) : Option (Int32 × (Nat → Int32)) := (f_X8_movesAnew 4000 (if 0 < (if s 1 + k < s 0 then s 1 + k else s 0) then (if s 1 + k < s 0 then s 1 + k else s 0) else 0) s).map fun a => (a.2 1, a.2)
def mUp (s : Nat → Int32) : Option (Int32 × (Nat → Int32)) := (f_X8_startOf 4000 (s 1) s).bind fun b => if b ≤ 0 then some (s 1, s) else (f_X8_startOf 4000 (b - 1) s).bind fun t => (f_X8_goalFrom 4000 t s).bind fun z => (f_X8_moves 4000 z s).map fun a => (a.2 1, a.2)
def mDown (s : Nat → Int32) : Option (Int32 × (Nat → Int32)) := (f_X8_endOf 4000 (s 1) s).bind fun e => if s 0 ≤ e then some (s 1, s) else (f_X8_goalFrom 4000 (e + 1) s).bind fun z => (f_X8_moves 4000 z s).map fun a => (a.2 1, a.2)
def mLine (e : Int32) (s : Nat → Int32) : Option (Int32 × (Nat → Int32)) := (if e = 0 then f_X8_startOf 4000 (s 1) s else f_X8_endOf 4000 (s 1) s).bind fun p => (f_X8_movesAnew 4000 p s).map fun a => (a.2 1, a.2)
def mEager (e : Int32) (s : Nat → Int32) : Option (Int32 × (Nat → Int32)) := if e = 0 then some (0, upd s 9 0) else f_X8_movesGap 4000 (s 1) (upd s 9 1)
def mMark (j : Nat) (sd : Int32) (s : Nat → Int32) : Option (Int32 × (Nat → Int32)) := some (s (12 + j), upd (upd s (12 + j) (s 1)) (16 + j) sd)
def mCopy (j : Nat) (s : Nat → Int32) : Option (Int32 × (Nat → Int32)) := (f_X8_clips 4000 (nI j) s).map fun s' => (s' 10, s')
def mCut (j : Nat) (s : Nat → Int32) : Option (Int32 × (Nat → Int32)) := (f_X8_cuts 4000 (nI j) s).map fun s' => (s' 10, s')
def mPaste (s : Nat → Int32) : Option (Int32 × (Nat → Int32)) := (f_X8_pastes 4000 0 s (fun _ => 0)).map fun a => (a.2.1 0, a.2.1)
def NN (r : Int32) : Prop := ∃ a : Nat, a < 2 ^ 30 ∧ r = nI a
theorem q_byte {Z : Nat} {p : Int32} (h : p = 10 ∨ (¬ p < 32 ∧ ¬ 126 < p)) : f_X7_isByte Z p = some 1 := by
  unfold f_X7_isByte
  rcases h with h | ⟨h1, h2⟩
  · rw [if_pos h]
  · by_cases h0 : p = 10
    · rw [if_pos h0]
    · rw [if_neg h0, if_neg h1, if_neg h2]
theorem q_count {Z k : Nat} (h1 : 1 ≤ k) (h2 : k ≤ 100) : f_X7_isCount Z (nI k) = some 1 := by
  unfold f_X7_isCount
  rw [l_1, if_neg (nI_nlt h1 (by omega)), l_100, if_neg (nI_nlt h2 (by omega))]
section ACTS
variable {B : Nat} {vCar : Int32} {vGoa : Int32} {vEag : Int32} {tN : Int32} {tF : Nat → Int32} {cN : Int32} {cF : Nat → Int32} {mP : Nat → Int32} {mS : Nat → Int32} {kCap : Int32} {kGap : Int32} {kCar : Int32} {kCop : Int32} {kGro : Int32} {kShr : Int32} {hX hC : Int32} {hR : Nat → StT} {s : Nat → Int32} {S : List (Nat → Int32)}
theorem a_type (G : GS B vCar vGoa vEag tN tF cN cF mP mS kCap kGap kCar kCop kGro kShr hX hC hR s S) (hS : S.length ≤ 5) {p1 : Int32} (hp : f_X7_isByte 4000 p1 = some 1) (hp0 : 0 ≤ p1) (hr : ¬ tN = 256) : ∃ r s' vCar' vGoa' tN' tF' mP' kCap' kGap' kCar' kCop' kGro' hX' hC' hR', mFill p1 (nI 1) s = some (r, s') ∧ f_X7_type 4000 p1 vCar vGoa vEag tN tF cN cF mP mS kCap kGap kCar kCop kGro kShr hX hC hR = some (.inl (r, vCar', vGoa', tN', tF', mP', kCap', kGap', kCar', kCop', kGro', hX', hC', hR')) ∧ GS (B + 5) vCar' vGoa' vEag tN' tF' cN cF mP' mS kCap' kGap' kCar' kCop' kGro' kShr hX' hC' hR' s' (s :: S) ∧ NN r := by
  obtain ⟨n, c, g, q, cp, l, ⟨rfl, rfl, rfl, rfl, rfl, rfl⟩, hN⟩ := rs_out G.1
  have hK := ki_out hN G.2.1
  have hb1 : n ≤ 256 := hN.1.1
  have hb2 : c ≤ n := hN.1.2.1
  have hn : n + 1 ≤ 256 := by
    rw [l_256, nI_eq (by omega) (by omega)] at hr
    omega
  obtain ⟨hX', hC', hR', i1, i3⟩ := hh_save (Z := 4000) (by omega) hN G.2.1 G.2.2 hS
  obtain ⟨q', tF', mP', kCar', kCop', s', aBy', t0, j1, j2, j3, j4⟩ := o_insR (Z := 4000) (vG := nI q) (p1 := p1) (aBm := 0) (aBy := fun _ => 0) (k := 1) (by omega) hN (by omega) hn
  have f1 := q_fault (Z := 4000) (k := 1) hb1 (by omega)
  rw [if_pos hn] at f1
  refine ⟨nI (n + 1), s', _, _, _, _, _, _, _, _, _, _, _, _, _, ?_, ?_, ⟨rs_in j4, ki_in j4 (kn_ins hK hb2 t0 (fun _ _ => hp0)), hh_mono i3 (by omega)⟩, n + 1, by omega, rfl⟩
  · unfold mFill
    rw [j2, Option.bind_some]
    dsimp only
    rw [j3, Option.map_some, show s' 0 = nI (n + 1) from j4.2.2.1.1]
  · unfold f_X7_type f_X7_type_c26
    rw [hp, Option.bind_some, if_neg c_01, l_1, f1, Option.bind_some, if_pos rfl, if_neg (show ¬ nI 1 = 0 from c_01), i1, Option.bind_some]
    dsimp only
    rw [j1, Option.bind_some]
    rfl
theorem a_fill (G : GS B vCar vGoa vEag tN tF cN cF mP mS kCap kGap kCar kCop kGro kShr hX hC hR s S) (hS : S.length ≤ 5) {p1 : Int32} {k : Nat} (hp : f_X7_isByte 4000 p1 = some 1) (hp0 : 0 ≤ p1) (hk1 : 1 ≤ k) (hk2 : k ≤ 100) (hr : tN + nI k ≤ 256) : ∃ r s' vCar' vGoa' tN' tF' mP' kCap' kGap' kCar' kCop' kGro' hX' hC' hR', mFill p1 (nI k) s = some (r, s') ∧ f_X7_fill 4000 p1 (nI k) vCar vGoa vEag tN tF cN cF mP mS kCap kGap kCar kCop kGro kShr hX hC hR = some (.inl (r, vCar', vGoa', tN', tF', mP', kCap', kGap', kCar', kCop', kGro', hX', hC', hR')) ∧ GS (B + 5) vCar' vGoa' vEag tN' tF' cN cF mP' mS kCap' kGap' kCar' kCop' kGro' kShr hX' hC' hR' s' (s :: S) ∧ NN r := by
  obtain ⟨n, c, g, q, cp, l, ⟨rfl, rfl, rfl, rfl, rfl, rfl⟩, hN⟩ := rs_out G.1
  have hK := ki_out hN G.2.1
  have hb1 : n ≤ 256 := hN.1.1
  have hb2 : c ≤ n := hN.1.2.1
  have hn : n + k ≤ 256 := by
    rw [nI_add, l_256, nI_leI (by omega) (by omega)] at hr
    exact hr
  obtain ⟨hX', hC', hR', i1, i3⟩ := hh_save (Z := 4000) (by omega) hN G.2.1 G.2.2 hS
  obtain ⟨q', tF', mP', kCar', kCop', s', aBy', t0, j1, j2, j3, j4⟩ := o_insR (Z := 4000) (vG := nI q) (p1 := p1) (aBm := 0) (aBy := fun _ => 0) (k := k) (by omega) hN hk2 hn
  have f1 := q_fault (Z := 4000) (k := k) hb1 (by omega)
  rw [if_pos hn] at f1
  refine ⟨nI (n + k), s', _, _, _, _, _, _, _, _, _, _, _, _, _, ?_, ?_, ⟨rs_in j4, ki_in j4 (kn_ins hK hb2 t0 (fun _ _ => hp0)), hh_mono i3 (by omega)⟩, n + k, by omega, rfl⟩
  · unfold mFill
    rw [j2, Option.bind_some]
    dsimp only
    rw [j3, Option.map_some, show s' 0 = nI (n + k) from j4.2.2.1.1]
  · unfold f_X7_fill f_X7_fill_c41
    rw [hp, Option.bind_some, if_neg c_01, q_count hk1 hk2, Option.bind_some, if_neg c_01, if_neg c_01, f1, Option.bind_some, if_pos rfl, if_neg c_01, i1, Option.bind_some]
    dsimp only
    rw [j1, Option.bind_some]
    rfl
theorem a_erase (G : GS B vCar vGoa vEag tN tF cN cF mP mS kCap kGap kCar kCop kGro kShr hX hC hR s S) (hS : S.length ≤ 5) {k : Nat} (hk1 : 1 ≤ k) (hk2 : k ≤ 100) : ∃ r s' vCar' vGoa' tN' tF' mP' kCap' kGap' kCar' kCop' kShr' hX' hC' hR', f_X8_erases 4000 (nI k) s = some (r, s') ∧ f_X7_erase 4000 (nI k) vCar vGoa vEag tN tF cN cF mP mS kCap kGap kCar kCop kGro kShr hX hC hR = some (.inl (r, vCar', vGoa', tN', tF', mP', kCap', kGap', kCar', kCop', kShr', hX', hC', hR')) ∧ GS (B + 5) vCar' vGoa' vEag tN' tF' cN cF mP' mS kCap' kGap' kCar' kCop' kGro kShr' hX' hC' hR' s' (s :: S) ∧ NN r := by
  obtain ⟨n, c, g, q, cp, l, ⟨rfl, rfl, rfl, rfl, rfl, rfl⟩, hN⟩ := rs_out G.1
  have hK := ki_out hN G.2.1
  have hb1 : n ≤ 256 := hN.1.1
  obtain ⟨hX', hC', hR', i1, i3⟩ := hh_save (Z := 4000) (by omega) hN G.2.1 G.2.2 hS
  obtain ⟨m, p, g', q', cp', tF', mP', kCar', kCop', kShr', s', ⟨t1, t2⟩, j1, j2, j3⟩ := o_behind (Z := 4000) (vG := nI q) (k := k) (by omega) hN (by omega)
  refine ⟨nI m, s', _, _, _, _, _, _, _, _, _, _, _, _, _, j2, ?_, ⟨rs_in j3, ki_in j3 (kn_del hK hN.1.2.2.2.2.2.2 t1 t2), hh_mono i3 (by omega)⟩, m, by omega, rfl⟩
  unfold f_X7_erase f_X7_erase_c7
  rw [q_count hk1 hk2, Option.bind_some, if_neg c_01, i1, Option.bind_some]
  dsimp only
  rw [j1, Option.bind_some]
  rfl
theorem a_back (G : GS B vCar vGoa vEag tN tF cN cF mP mS kCap kGap kCar kCop kGro kShr hX hC hR s S) (hS : S.length ≤ 5) {k : Nat} (hk1 : 1 ≤ k) (hk2 : k ≤ 100) : ∃ r s' vCar' vGoa' tN' tF' mP' kCap' kGap' kCar' kCop' kShr' hX' hC' hR', f_X8_backs 4000 (nI k) s = some (r, s') ∧ f_X7_backspace 4000 (nI k) vCar vGoa vEag tN tF cN cF mP mS kCap kGap kCar kCop kGro kShr hX hC hR = some (.inl (r, vCar', vGoa', tN', tF', mP', kCap', kGap', kCar', kCop', kShr', hX', hC', hR')) ∧ GS (B + 5) vCar' vGoa' vEag tN' tF' cN cF mP' mS kCap' kGap' kCar' kCop' kGro kShr' hX' hC' hR' s' (s :: S) ∧ NN r := by
  obtain ⟨n, c, g, q, cp, l, ⟨rfl, rfl, rfl, rfl, rfl, rfl⟩, hN⟩ := rs_out G.1
  have hK := ki_out hN G.2.1
  have hb1 : n ≤ 256 := hN.1.1
  obtain ⟨hX', hC', hR', i1, i3⟩ := hh_save (Z := 4000) (by omega) hN G.2.1 G.2.2 hS
  obtain ⟨m, p, g', q', cp', tF', mP', kCar', kCop', kShr', s', ⟨t1, t2⟩, j1, j2, j3⟩ := o_before (Z := 4000) (vG := nI q) (k := k) (by omega) hN (by omega)
  refine ⟨nI m, s', _, _, _, _, _, _, _, _, _, _, _, _, _, j2, ?_, ⟨rs_in j3, ki_in j3 (kn_del hK hN.1.2.2.2.2.2.2 t1 t2), hh_mono i3 (by omega)⟩, m, by omega, rfl⟩
  unfold f_X7_backspace f_X7_backspace_c7
  rw [q_count hk1 hk2, Option.bind_some, if_neg c_01, i1, Option.bind_some]
  dsimp only
  rw [j1, Option.bind_some]
  rfl
theorem kn_5 {n cp l : Nat} {tF cF : Nat → Int32} {kGro kShr : Int32} (h : KN B n cp l tF cF kGro kShr) : KN (B + 5) n cp l tF cF kGro kShr := by
  obtain ⟨z1, ⟨a, b, y6, y7, z2⟩, z⟩ := h
  exact ⟨z1, ⟨a, b, y6, y7, by omega⟩, z⟩
theorem a_moveTo (G : GS B vCar vGoa vEag tN tF cN cF mP mS kCap kGap kCar kCop kGro kShr hX hC hR s S) (hS : S.length ≤ 5) {j : Nat} (hj : nI j ≤ tN) (hj2 : j < 2 ^ 30) : ∃ r s' vCar' vGoa' kGap' kCar' hX' hC' hR', f_X8_movesAnew 4000 (nI j) s = some (r, s') ∧ f_X7_moveTo 4000 (nI j) vCar vGoa vEag tN tF cN cF mP mS kCap kGap kCar kCop kGro kShr hX hC hR = some (.inl (r, vCar', vGoa', kGap', kCar', hX', hC', hR')) ∧ GS (B + 5) vCar' vGoa' vEag tN tF cN cF mP mS kCap kGap' kCar' kCop kGro kShr hX' hC' hR' s' (s :: S) ∧ NN r := by
  obtain ⟨n, c, g, q, cp, l, ⟨rfl, rfl, rfl, rfl, rfl, rfl⟩, hN⟩ := rs_out G.1
  have hK := ki_out hN G.2.1
  have hb1 : n ≤ 256 := hN.1.1
  rw [nI_leI (by omega) (by omega)] at hj
  obtain ⟨hX', hC', hR', i1, i3⟩ := hh_save (Z := 4000) (by omega) hN G.2.1 G.2.2 hS
  obtain ⟨r, g', q', kCar', s', ⟨a, a1, rfl⟩, j1, j2, j3⟩ := o_move (Z := 4000) (vC := nI c) (vG := nI q) (by omega) hN hj
  refine ⟨nI a, s', _, _, _, _, _, _, _, j2, ?_, ⟨rs_in j3, ki_in j3 (kn_5 hK), hh_mono i3 (by omega)⟩, a, by omega, rfl⟩
  unfold f_X7_moveTo f_X7_moveTo_c8
  rw [q_pos_yes hj (by omega), Option.bind_some, if_neg c_01, i1, Option.bind_some]
  dsimp only
  rw [j1, Option.bind_some]
  rfl
theorem a_moveBy (G : GS B vCar vGoa vEag tN tF cN cF mP mS kCap kGap kCar kCop kGro kShr hX hC hR s S) (hS : S.length ≤ 5) {p1 : Int32} (r1 : ¬ p1 < -100) (r2 : ¬ 100 < p1) : ∃ r s' vCar' vGoa' kGap' kCar' hX' hC' hR', mMoveBy p1 s = some (r, s') ∧ f_X7_moveBy 4000 p1 vCar vGoa vEag tN tF cN cF mP mS kCap kGap kCar kCop kGro kShr hX hC hR = some (.inl (r, vCar', vGoa', kGap', kCar', hX', hC', hR')) ∧ GS (B + 5) vCar' vGoa' vEag tN tF cN cF mP mS kCap kGap' kCar' kCop kGro kShr hX' hC' hR' s' (s :: S) ∧ NN r := by
  obtain ⟨n, c, g, q, cp, l, ⟨rfl, rfl, rfl, rfl, rfl, rfl⟩, hN⟩ := rs_out G.1
  have hK := ki_out hN G.2.1
  have hb1 : n ≤ 256 := hN.1.1
  have e0 : s 0 = nI n := hN.2.2.1.1
  have e1 : s 1 = nI c := hN.2.2.1.2.1
  obtain ⟨hX', hC', hR', i1, i3⟩ := hh_save (Z := 4000) (by omega) hN G.2.1 G.2.2 hS
  obtain ⟨t, t1, t2, -⟩ := mb_cases (nI c + p1) hb1
  obtain ⟨r, g', q', kCar', s', -, j1, j2, j3⟩ := o_move (Z := 4000) (vC := nI c) (vG := nI q) (by omega) hN t1
  refine ⟨nI t, s', nI t, _, _, _, _, _, _, ?_, ?_, ⟨rs_in j3, ki_in j3 (kn_5 hK), hh_mono i3 (by omega)⟩, t, by omega, rfl⟩
  · unfold mMoveBy
    rw [e0, e1, t2, j2, Option.map_some]
    dsimp only
    rw [show s' 1 = nI t from j3.2.2.1.2.1]
  · unfold f_X7_moveBy f_X7_moveBy_c20 f_X0_size
    rw [if_neg r1, if_neg r2, if_neg c_01, i1, Option.bind_some]
    dsimp only
    rw [Option.bind_some, kl, kl, t2, j1, Option.bind_some]
    rfl
theorem a_line (G : GS B vCar vGoa vEag tN tF cN cF mP mS kCap kGap kCar kCop kGro kShr hX hC hR s S) (hS : S.length ≤ 5) {p1 : Int32} : ∃ r s' vCar' vGoa' kGap' kCar' hX' hC' hR', mLine p1 s = some (r, s') ∧ f_X7_moveInLine 4000 p1 vCar vGoa vEag tN tF cN cF mP mS kCap kGap kCar kCop kGro kShr hX hC hR = some (r, vCar', vGoa', kGap', kCar', hX', hC', hR') ∧ GS (B + 5) vCar' vGoa' vEag tN tF cN cF mP mS kCap kGap' kCar' kCop kGro kShr hX' hC' hR' s' (s :: S) ∧ NN r := by
  obtain ⟨n, c, g, q, cp, l, ⟨rfl, rfl, rfl, rfl, rfl, rfl⟩, hN⟩ := rs_out G.1
  have hK := ki_out hN G.2.1
  have hb1 : n ≤ 256 := hN.1.1
  have hb2 : c ≤ n := hN.1.2.1
  have e0 : s 0 = nI n := hN.2.2.1.1
  have e1 : s 1 = nI c := hN.2.2.1.2.1
  have ht := hN.2.2.2.2.1
  have hle := le'_in tF (n - c) c
  have hlb := lb_le tF c
  have hl1 : lb (tx s) c = lb tF c := lb_congr _ (fun i hi => ht i (by omega))
  have hl2 : le' (tx s) (n - c) c = le' tF (n - c) c := le'_congr _ _ (fun i hi => ht i (by omega))
  obtain ⟨hX', hC', hR', i1, i3⟩ := hh_save (Z := 4000) (by omega) hN G.2.1 G.2.2 hS
  by_cases hz : p1 = 0
  · obtain ⟨r, g', q', kCar', s', -, j1, j2, j3⟩ := o_move (Z := 4000) (vC := nI c) (vG := nI q) (p := lb tF c) (by omega) hN (by omega)
    refine ⟨nI (lb tF c), s', nI (lb tF c), _, _, _, _, _, _, ?_, ?_, ⟨rs_in j3, ki_in j3 (kn_5 hK), hh_mono i3 (by omega)⟩, lb tF c, by omega, rfl⟩
    · unfold mLine
      rw [if_pos hz, e1, r_startOf (by omega) (by omega), Option.bind_some, hl1, j2, Option.map_some]
      dsimp only
      rw [show s' 1 = nI (lb tF c) from j3.2.2.1.2.1]
    · unfold f_X7_moveInLine
      rw [i1, Option.bind_some]
      dsimp only
      rw [q_lineBegin (by omega) (by omega) hb1 hb2, Option.bind_some, q_lineEnd (by omega) (by omega) hb1 hb2, Option.bind_some, if_pos hz, j1, Option.bind_some]
  · obtain ⟨r, g', q', kCar', s', -, j1, j2, j3⟩ := o_move (Z := 4000) (vC := nI c) (vG := nI q) (p := le' tF (n - c) c) (by omega) hN (by omega)
    refine ⟨nI (le' tF (n - c) c), s', nI (le' tF (n - c) c), _, _, _, _, _, _, ?_, ?_, ⟨rs_in j3, ki_in j3 (kn_5 hK), hh_mono i3 (by omega)⟩, le' tF (n - c) c, by omega, rfl⟩
    · unfold mLine
      rw [if_neg hz, e1, r_endOf (by omega) e0 hb1 hb2, Option.bind_some, hl2, j2, Option.map_some]
      dsimp only
      rw [show s' 1 = nI (le' tF (n - c) c) from j3.2.2.1.2.1]
    · unfold f_X7_moveInLine
      rw [i1, Option.bind_some]
      dsimp only
      rw [q_lineBegin (by omega) (by omega) hb1 hb2, Option.bind_some, q_lineEnd (by omega) (by omega) hb1 hb2, Option.bind_some, if_neg hz, j1, Option.bind_some]
theorem a_up (G : GS B vCar vGoa vEag tN tF cN cF mP mS kCap kGap kCar kCop kGro kShr hX hC hR s S) (hS : S.length ≤ 5) : ∃ r s' vCar' kGap' kCar' hX' hC' hR', mUp s = some (r, s') ∧ f_X7_up 4000 vCar vGoa vEag tN tF cN cF mP mS kCap kGap kCar kCop kGro kShr hX hC hR = some (r, vCar', kGap', kCar', hX', hC', hR') ∧ GS (B + 5) vCar' vGoa vEag tN tF cN cF mP mS kCap kGap' kCar' kCop kGro kShr hX' hC' hR' s' (s :: S) ∧ NN r := by
  obtain ⟨n, c, g, q, cp, l, ⟨rfl, rfl, rfl, rfl, rfl, rfl⟩, hN⟩ := rs_out G.1
  have hK := ki_out hN G.2.1
  have hb1 : n ≤ 256 := hN.1.1
  have hb2 : c ≤ n := hN.1.2.1
  have e1 : s 1 = nI c := hN.2.2.1.2.1
  have ht := hN.2.2.2.2.1
  have hlb := lb_le tF c
  have hl1 : lb (tx s) c = lb tF c := lb_congr _ (fun i hi => ht i (by omega))
  obtain ⟨hX', hC', hR', i1, i3⟩ := hh_save (Z := 4000) (by omega) hN G.2.1 G.2.2 hS
  by_cases hz : lb tF c = 0
  · refine ⟨nI c, s, nI c, nI g, kCar, hX', hC', hR', ?_, ?_, ⟨rs_in hN, ki_in hN (kn_5 hK), hh_mono i3 (by omega)⟩, c, by omega, rfl⟩
    · unfold mUp
      rw [e1, r_startOf (by omega) (by omega), Option.bind_some, hl1, hz, if_pos (by decide)]
    · unfold f_X7_up f_X6_moveUp
      rw [i1, Option.bind_some]
      dsimp only
      rw [q_lineBegin (by omega) (by omega) hb1 hb2, Option.bind_some, hz, if_pos (by decide), Option.bind_some]
  · obtain ⟨z, r, g', kCar', s', hzn, j1, j2, j3, j4⟩ := o_goal (Z := 4000) (vC := nI c) (p := lb tF c - 1) (by omega) hN (by omega)
    have hl2 : lb (tx s) (lb tF c - 1) = lb tF (lb tF c - 1) := lb_congr _ (fun i hi => ht i (by omega))
    have em : nI (lb tF c) - 1 = nI (lb tF c - 1) := pk_sub (b := 1) (by omega)
    refine ⟨nI z, s', nI z, nI g', kCar', hX', hC', hR', ?_, ?_, ⟨rs_in j4, ki_in j4 (kn_5 hK), hh_mono i3 (by omega)⟩, z, by omega, rfl⟩
    · unfold mUp
      rw [e1, r_startOf (by omega) (by omega), Option.bind_some, hl1, if_neg (nI_nle (by omega) (by omega)), em, r_startOf (by omega) (by omega), Option.bind_some, hl2, j2, Option.bind_some, j3, Option.map_some]
      dsimp only
      rw [show s' 1 = nI z from j4.2.2.1.2.1]
    · unfold f_X7_up f_X6_moveUp
      rw [i1, Option.bind_some]
      dsimp only
      rw [q_lineBegin (by omega) (by omega) hb1 hb2, Option.bind_some, if_neg (nI_nle (by omega) (by omega)), em, j1, Option.bind_some]
      rfl
theorem a_down (G : GS B vCar vGoa vEag tN tF cN cF mP mS kCap kGap kCar kCop kGro kShr hX hC hR s S) (hS : S.length ≤ 5) : ∃ r s' vCar' kGap' kCar' hX' hC' hR', mDown s = some (r, s') ∧ f_X7_down 4000 vCar vGoa vEag tN tF cN cF mP mS kCap kGap kCar kCop kGro kShr hX hC hR = some (r, vCar', kGap', kCar', hX', hC', hR') ∧ GS (B + 5) vCar' vGoa vEag tN tF cN cF mP mS kCap kGap' kCar' kCop kGro kShr hX' hC' hR' s' (s :: S) ∧ NN r := by
  obtain ⟨n, c, g, q, cp, l, ⟨rfl, rfl, rfl, rfl, rfl, rfl⟩, hN⟩ := rs_out G.1
  have hK := ki_out hN G.2.1
  have hb1 : n ≤ 256 := hN.1.1
  have hb2 : c ≤ n := hN.1.2.1
  have e0 : s 0 = nI n := hN.2.2.1.1
  have e1 : s 1 = nI c := hN.2.2.1.2.1
  have ht := hN.2.2.2.2.1
  have hle := le'_in tF (n - c) c
  have hl2 : le' (tx s) (n - c) c = le' tF (n - c) c := le'_congr _ _ (fun i hi => ht i (by omega))
  obtain ⟨hX', hC', hR', i1, i3⟩ := hh_save (Z := 4000) (by omega) hN G.2.1 G.2.2 hS
  by_cases hz : n ≤ le' tF (n - c) c
  · refine ⟨nI c, s, nI c, nI g, kCar, hX', hC', hR', ?_, ?_, ⟨rs_in hN, ki_in hN (kn_5 hK), hh_mono i3 (by omega)⟩, c, by omega, rfl⟩
    · unfold mDown
      rw [e1, r_endOf (by omega) e0 hb1 hb2, Option.bind_some, hl2, e0, if_pos (nI_le hz (by omega))]
    · unfold f_X7_down f_X6_moveDown f_X0_size
      rw [i1, Option.bind_some]
      dsimp only
      rw [q_lineEnd (by omega) (by omega) hb1 hb2, Option.bind_some, Option.bind_some, if_pos (nI_le hz (by omega)), Option.bind_some]
  · have hbr : tF (le' tF (n - c) c) = 10 := le_brk _ _ (by omega)
    obtain ⟨z, r, g', kCar', s', hzn, j1, j2, j3, j4⟩ := o_goal (Z := 4000) (vC := nI c) (p := le' tF (n - c) c + 1) (by omega) hN (by omega)
    rw [lb_brk hbr] at j2
    refine ⟨nI z, s', nI z, nI g', kCar', hX', hC', hR', ?_, ?_, ⟨rs_in j4, ki_in j4 (kn_5 hK), hh_mono i3 (by omega)⟩, z, by omega, rfl⟩
    · unfold mDown
      rw [e1, r_endOf (by omega) e0 hb1 hb2, Option.bind_some, hl2, e0, if_neg (nI_ge (by omega) (by omega)), nI_1, j2, Option.bind_some, j3, Option.map_some]
      dsimp only
      rw [show s' 1 = nI z from j4.2.2.1.2.1]
    · unfold f_X7_down f_X6_moveDown f_X0_size
      rw [i1, Option.bind_some]
      dsimp only
      rw [q_lineEnd (by omega) (by omega) hb1 hb2, Option.bind_some, Option.bind_some, if_neg (nI_ge (by omega) (by omega)), nI_1, j1, Option.bind_some]
      rfl
theorem a_eager (G : GS B vCar vGoa vEag tN tF cN cF mP mS kCap kGap kCar kCop kGro kShr hX hC hR s S) (hS : S.length ≤ 5) {p1 : Int32} (hp1 : p1 = 0 ∨ p1 = 1) : ∃ r s' vEag' kGap' kCar' hX' hC' hR', mEager p1 s = some (r, s') ∧ f_X7_setEager 4000 p1 vCar vGoa vEag tN tF cN cF mP mS kCap kGap kCar kCop kGro kShr hX hC hR = some (r, vEag', kGap', kCar', hX', hC', hR') ∧ GS (B + 5) vCar vGoa vEag' tN tF cN cF mP mS kCap kGap' kCar' kCop kGro kShr hX' hC' hR' s' (s :: S) ∧ NN r := by
  obtain ⟨n, c, g, q, cp, l, ⟨rfl, rfl, rfl, rfl, rfl, rfl⟩, hN⟩ := rs_out G.1
  have hK := ki_out hN G.2.1
  have hb1 : n ≤ 256 := hN.1.1
  have hb2 : c ≤ n := hN.1.2.1
  have hb3 : g ≤ n := hN.1.2.2.1
  have e1 : s 1 = nI c := hN.2.2.1.2.1
  have e2 : s 2 = nI g := hN.2.2.1.2.2.1
  have e4 : s 4 = kCar := hN.2.2.1.2.2.2.2.1
  obtain ⟨hX', hC', hR', i1, i3⟩ := hh_save (Z := 4000) (by omega) hN G.2.1 G.2.2 hS
  have hE := rn_eager hN hp1
  have hd : dst c g ≤ 256 := by
    unfold dst
    split <;> omega
  rcases hp1 with rfl | rfl
  · refine ⟨0, upd s 9 0, 0, nI g, kCar, hX', hC', hR', ?_, ?_, ⟨rs_in hE, ki_in hE (kn_5 hK), hh_mono i3 (by omega)⟩, 0, by omega, rfl⟩
    · unfold mEager
      rw [if_pos rfl]
    · unfold f_X7_setEager f_X6_letGapFollow
      rw [i1, Option.bind_some]
      dsimp only
      rw [q_kb0, if_pos rfl, Option.bind_some]
  · have hG := rn_gap (kCar' := kCar + nI (dst c g)) hE hb2
    refine ⟨nI (dst c g), _, 1, nI c, kCar + nI (dst c g), hX', hC', hR', ?_, ?_, ⟨rs_in hG, ki_in hG (kn_5 hK), hh_mono i3 (by omega)⟩, dst c g, by omega, rfl⟩
    · unfold mEager
      rw [if_neg c_01, e1, r_movesGap (g := g) (by rw [pk_un (by omega), e2]) (by omega) (by omega), pk_un (by omega), e4]
    · unfold f_X7_setEager f_X6_letGapFollow
      rw [i1, Option.bind_some]
      dsimp only
      rw [q_kb1, if_neg c_01, q_moveGap (by omega) (by omega), Option.bind_some, Option.bind_some]
theorem a_mark (G : GS B vCar vGoa vEag tN tF cN cF mP mS kCap kGap kCar kCop kGro kShr hX hC hR s S) (hS : S.length ≤ 5) {j : Nat} {p2 : Int32} (hj : j < 4) (hs : p2 = 0 ∨ p2 = 1) : ∃ s' mP' mS' hX' hC' hR', mMark j p2 s = some (mP j, s') ∧ f_X7_setMark 4000 (nI j) p2 vCar vGoa vEag tN tF cN cF mP mS kCap kGap kCar kCop kGro kShr hX hC hR = some (.inl (mP j, mP', mS', hX', hC', hR')) ∧ GS (B + 5) vCar vGoa vEag tN tF cN cF mP' mS' kCap kGap kCar kCop kGro kShr hX' hC' hR' s' (s :: S) := by
  obtain ⟨n, c, g, q, cp, l, ⟨rfl, rfl, rfl, rfl, rfl, rfl⟩, hN⟩ := rs_out G.1
  have hK := ki_out hN G.2.1
  have hb2 : c ≤ n := hN.1.2.1
  have e1 : s 1 = nI c := hN.2.2.1.2.1
  have hm1 : s (12 + j) = mP j := (hN.2.2.2.1 j hj).1
  obtain ⟨hX', hC', hR', i1, i3⟩ := hh_save (Z := 4000) (by omega) hN G.2.1 G.2.2 hS
  have hM := rn_mark (sd := p2) hN hj hb2
  refine ⟨_, upd mP j (nI c), upd mS j p2, hX', hC', hR', ?_, ?_, ⟨rs_in hM, ki_in hM (kn_5 hK), hh_mono i3 (by omega)⟩⟩
  · unfold mMark
    rw [hm1, e1]
  · unfold f_X7_setMark f_X7_setMark_c24
    rw [q_mark_yes hj, Option.bind_some, if_neg c_01]
    rcases hs with hs | hs
    · rw [if_pos hs, if_neg c_01, i1, Option.bind_some]
      dsimp only
      rw [q_posOf hj, Option.bind_some, q_place hj, Option.bind_some]
      rfl
    · rw [if_neg (fun a => c_01 (hs.symm.trans a)), if_pos hs, if_neg c_01, i1, Option.bind_some]
      dsimp only
      rw [q_posOf hj, Option.bind_some, q_place hj, Option.bind_some]
      rfl
theorem dst_n {n p c : Nat} (hp : p ≤ n) (hc : c ≤ n) : mn p c + dst p c ≤ n := by
  rcases Nat.le_total p c with x | x
  · obtain ⟨a, b⟩ := mn_dst.1 x
    omega
  · obtain ⟨a, b⟩ := mn_dst.2 x
    omega
theorem a_copy (G : GS B vCar vGoa vEag tN tF cN cF mP mS kCap kGap kCar kCop kGro kShr hX hC hR s S) (hS : S.length ≤ 5) {j p c : Nat} (hj : j < 4) (hc : vCar = nI c) (hcb : c ≤ 256) (hm : mP j = nI p) (hpb : p ≤ 256) (hd : dst p c ≤ 60) : ∃ r s' cN' cF' hX' hC' hR', mCopy j s = some (r, s') ∧ f_X7_copy 4000 (nI j) vCar vGoa vEag tN tF cN cF mP mS kCap kGap kCar kCop kGro kShr hX hC hR = some (.inl (r, cN', cF', hX', hC', hR')) ∧ GS (B + 5) vCar vGoa vEag tN tF cN' cF' mP mS kCap kGap kCar kCop kGro kShr hX' hC' hR' s' (s :: S) ∧ NN r := by
  obtain ⟨n, c', g, q, cp, l, ⟨rfl, rfl, rfl, rfl, rfl, rfl⟩, hN⟩ := rs_out G.1
  obtain rfl : c' = c := (nI_eq (by have := hN.1.1; have := hN.1.2.1; omega) (by omega)).mp hc
  have hK := ki_out hN G.2.1
  have hb1 : n ≤ 256 := hN.1.1
  have hb2 : c' ≤ n := hN.1.2.1
  have hp : p ≤ n := by
    rcases (hN.2.2.2.1 j hj).2.2 with h | ⟨p', h1, h2⟩
    · rw [hm] at h
      exact (cast (z_eqm (by omega)) h).elim
    · rw [hm, nI_eq (by omega) (by omega)] at h2
      omega
  have hak := dst_n hp hb2
  obtain ⟨hX', hC', hR', i1, i3⟩ := hh_save (Z := 4000) (by omega) hN G.2.1 G.2.2 hS
  obtain ⟨cF', s', t0, j1, j2, j3⟩ := o_copy (Z := 4000) (cN := nI l) (by omega) hN hj hp hm hd
  obtain ⟨z1, z2, z3, z4⟩ := kn_5 hK
  refine ⟨nI (dst p c'), s', nI (dst p c'), cF', hX', hC', hR', ?_, ?_, ⟨rs_in j3, ki_in j3 ⟨z1, z2, z3, fun i hi => by rw [t0 i hi]; exact z3 _ (by omega)⟩, hh_mono i3 (by omega)⟩, dst p c', by omega, rfl⟩
  · unfold mCopy
    rw [j2, Option.map_some, show s' 10 = nI (dst p c') from j3.2.2.1.2.2.2.2.2.2.2.2.2.2]
  · unfold f_X7_copy f_X7_copy_c26 f_X0_size
    rw [q_mark_yes hj, Option.bind_some, if_neg c_01, q_region hj (by omega) (by omega) hm hd, Option.bind_some, if_pos rfl, if_neg c_01, i1, Option.bind_some]
    dsimp only
    rw [j1, Option.bind_some]
    rfl
theorem a_cut (G : GS B vCar vGoa vEag tN tF cN cF mP mS kCap kGap kCar kCop kGro kShr hX hC hR s S) (hS : S.length ≤ 5) {j p c : Nat} (hj : j < 4) (hc : vCar = nI c) (hcb : c ≤ 256) (hm : mP j = nI p) (hpb : p ≤ 256) (hd : dst p c ≤ 60) : ∃ n cp cp' s' vGoa' tF' cF' mP' kGap' kCar' kCop' kShr' hX' hC' hR', mCut j s = some (nI (dst p c), s') ∧ f_X7_cut 4000 (nI j) vCar vGoa vEag tN tF cN cF mP mS kCap kGap kCar kCop kGro kShr hX hC hR = some (.inl (nI (dst p c), nI (mn p c), vGoa', nI (n - dst p c), tF', nI (dst p c), cF', mP', nI cp', kGap', kCar', kCop', kShr', hX', hC', hR')) ∧ GS (B + 5) (nI (mn p c)) vGoa' vEag (nI (n - dst p c)) tF' (nI (dst p c)) cF' mP' mS (nI cp') kGap' kCar' kCop' kGro kShr' hX' hC' hR' s' (s :: S) ∧ tN = nI n ∧ n ≤ 256 ∧ mn p c + dst p c ≤ n ∧ (((dst p c = 0 ∧ cp' = cp ∧ kShr' = kShr ∧ kCop' = kCop) ∨ (0 < dst p c ∧ cp' = sC 5 cp (n - dst p c) ∧ kShr' = kShr + nI (sT 5 cp (n - dst p c)) ∧ kCop' = kCop + nI (sT 5 cp (n - dst p c) * (n - dst p c)))) ∧ (∀ i, i < n - dst p c → tF' i = if i < mn p c then tF i else tF (i + dst p c))) ∧ (∀ i, i < dst p c → cF' i = tF (mn p c + i)) := by
  obtain ⟨n, c', g, q, cp, l, ⟨rfl, rfl, rfl, rfl, rfl, rfl⟩, hN⟩ := rs_out G.1
  obtain rfl : c' = c := (nI_eq (by have := hN.1.1; have := hN.1.2.1; omega) (by omega)).mp hc
  have hK := ki_out hN G.2.1
  have hb1 : n ≤ 256 := hN.1.1
  have hb2 : c' ≤ n := hN.1.2.1
  have hp : p ≤ n := by
    rcases (hN.2.2.2.1 j hj).2.2 with h | ⟨p', h1, h2⟩
    · rw [hm] at h
      exact (cast (z_eqm (by omega)) h).elim
    · rw [hm, nI_eq (by omega) (by omega)] at h2
      omega
  have hak := dst_n hp hb2
  obtain ⟨hX', hC', hR', i1, i3⟩ := hh_save (Z := 4000) (by omega) hN G.2.1 G.2.2 hS
  obtain ⟨g', q', cp', tF', cF', mP', kCar', kCop', kShr', s', t0, t1, j1, j2, j3⟩ := o_cut (Z := 4000) (cN := nI l) (vG := nI q) (by omega) hN hj hp hm hd
  obtain ⟨z1, z2, z3, -⟩ := kn_del hK hN.1.2.2.2.2.2.2 hak t0
  refine ⟨n, cp, cp', s', nI q', tF', cF', mP', nI g', kCar', kCop', kShr', hX', hC', hR', ?_, ?_, ⟨rs_in j3, ki_in j3 ⟨z1, z2, z3, fun i hi => by rw [t1 i hi]; exact hK.2.2.1 _ (by omega)⟩, hh_mono i3 (by omega)⟩, rfl, hb1, hak, t0, t1⟩
  · unfold mCut
    rw [j2, Option.map_some, show s' 10 = nI (dst p c') from j3.2.2.1.2.2.2.2.2.2.2.2.2.2]
  · unfold f_X7_cut f_X7_cut_c26 f_X0_size
    rw [q_mark_yes hj, Option.bind_some, if_neg c_01, q_region hj (by omega) (by omega) hm hd, Option.bind_some, if_pos rfl, if_neg c_01, i1, Option.bind_some]
    dsimp only
    rw [j1, Option.bind_some]
    rfl
theorem a_paste (G : GS B vCar vGoa vEag tN tF cN cF mP mS kCap kGap kCar kCop kGro kShr hX hC hR s S) (hS : S.length ≤ 5) {n c l : Nat} (hn : tN = nI n) (hnb : n ≤ 256) (hc : vCar = nI c) (hcb : c ≤ 256) (hl : cN = nI l) (hlb : l ≤ 60) (hl0 : 0 < l) (hr : n + l ≤ 256) : ∃ s' vCar' vGoa' tF' mP' kCap' kGap' kCar' kCop' kGro' hX' hC' hR', mPaste s = some (nI (n + l), s') ∧ f_X7_paste 4000 vCar vGoa vEag tN tF cN cF mP mS kCap kGap kCar kCop kGro kShr hX hC hR = some (.inl (nI (n + l), vCar', vGoa', nI (n + l), tF', mP', kCap', kGap', kCar', kCop', kGro', hX', hC', hR')) ∧ GS (B + 5) vCar' vGoa' vEag (nI (n + l)) tF' cN cF mP' mS kCap' kGap' kCar' kCop' kGro' kShr hX' hC' hR' s' (s :: S) ∧ (∀ i, i < n + l → tF' i = insT c l tF cF i) := by
  obtain ⟨n', c', g, q, cp, l', ⟨rfl, rfl, rfl, rfl, rfl, rfl⟩, hN⟩ := rs_out G.1
  obtain rfl : n' = n := (nI_eq (by have := hN.1.1; omega) (by omega)).mp hn
  obtain rfl : c' = c := (nI_eq (by have := hN.1.1; have := hN.1.2.1; omega) (by omega)).mp hc
  obtain rfl : l' = l := (nI_eq (by have := hN.1.2.2.2.2.1; omega) (by omega)).mp hl
  have hK := ki_out hN G.2.1
  have hb2 : c' ≤ n' := hN.1.2.1
  obtain ⟨hX', hC', hR', i1, i3⟩ := hh_save (Z := 4000) (by omega) hN G.2.1 G.2.2 hS
  obtain ⟨q', tF', mP', kCar', kCop', s', aBy', t0, j1, j2, j3⟩ := o_paste (Z := 4000) (vG := nI q) (aBm := 0) (aBy := fun _ => 0) (by omega) hN hr
  have f1 := q_fault (Z := 4000) (k := l') hnb (by omega)
  rw [if_pos hr] at f1
  have hl1 := n0_ne hl0 (by omega)
  refine ⟨s', _, _, tF', mP', _, _, kCar', kCop', _, hX', hC', hR', ?_, ?_, ⟨rs_in j3, ki_in j3 (kn_ins hK hb2 t0 hK.2.2.2), hh_mono i3 (by omega)⟩, t0⟩
  · unfold mPaste
    rw [j2, Option.map_some]
    dsimp only
    rw [show s' 0 = nI (n' + l') from j3.2.2.1.1]
  · unfold f_X7_paste f_X6_pasteFault f_X0_size f_X7_paste_c18
    rw [Option.bind_some, if_neg hl1, Option.bind_some, f1, Option.bind_some, Option.bind_some, if_pos rfl, if_neg c_01, i1, Option.bind_some]
    dsimp only
    unfold f_X0_size
    rw [Option.bind_some, j1, Option.bind_some]
    rfl
theorem a_undo {t : Nat → Int32} (H : HH B hX hC hR (t :: S)) : ∃ x1 x2 x3 x4 x5 x6 x7 x8 x9 x10 x11 x12 x13 x14 x15 hX', hC = nI (S.length + 1) ∧ S.length ≤ 5 ∧ f_X7_undo 4000 vCar vGoa vEag tN tF cN cF mP mS kCap kGap kCar kCop kGro kShr hX hC hR = some (.inl (nI S.length, x1, x2, x3, x4, x5, x6, x7, x8, x9, x10, x11, x12, x13, x14, x15, hX', nI S.length)) ∧ GS B x1 x2 x3 x4 x5 x6 x7 x8 x9 x10 x11 x12 x13 x14 x15 hX' (nI S.length) hR t S := by
  obtain ⟨x1, x2, x3, x4, x5, x6, x7, x8, x9, x10, x11, x12, x13, x14, x15, hX', rfl, hl, i1, i2, i3, i4⟩ := hh_undo (Z := 4000) (σ := (vCar, vGoa, vEag, tN, tF, cN, cF, mP, mS, kCap, kGap, kCar, kCop, kGro, kShr)) (by omega) H
  refine ⟨x1, x2, x3, x4, x5, x6, x7, x8, x9, x10, x11, x12, x13, x14, x15, hX', rfl, hl, ?_, i2, i3, i4⟩
  unfold f_X7_undo f_X2_count f_X7_undo_c18
  rw [Option.bind_some, if_neg (nI_nle (by omega) (by omega)), if_neg c_01]
  show ((f_X2_restore 4000 hX (nI (S.length + 1)) hR vCar vGoa vEag tN tF cN cF mP mS kCap kGap kCar kCop kGro kShr).bind _).map _ = _
  rw [show f_X2_restore 4000 hX (nI (S.length + 1)) hR vCar vGoa vEag tN tF cN cF mP mS kCap kGap kCar kCop kGro kShr = _ from i1, Option.bind_some]
  rfl
end ACTS
