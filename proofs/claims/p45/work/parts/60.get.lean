-- ===== calls that read =====
theorem x_mark {Z j : Nat} {mP : Nat → Int32} (hj : j < 4) : nx (f_X7_mark Z (nI j) mP) = some (mP j) := by
  unfold f_X7_mark f_X7_mark_c7
  rw [q_mark_yes hj, Option.bind_some, if_neg c_01, q_posOf hj]
  rfl
theorem x_clip {Z i l : Nat} {cF : Nat → Int32} (hi : i < l) (hl : l ≤ 60) : nx (f_X7_clip Z (nI i) (nI l) cF) = some (cF i) := by
  unfold f_X7_clip f_X7_clip_c12
  rw [if_neg (nI_pos (by omega)), if_neg c_01, q_at (by omega) (by omega) hi]
  rfl
theorem x_clipE {Z l : Nat} {cF : Nat → Int32} (hl : l ≤ 60) : nx (f_X7_clip Z (nI l) (nI l) cF) = some (-1) := by
  unfold f_X7_clip f_X7_clip_c12
  rw [if_neg (nI_pos (by omega)), if_neg c_01, q_at' (by omega) (by omega) (Nat.le_refl _)]
  rfl
theorem x_byte {Z i n : Nat} {tF : Nat → Int32} (hi : i < n) (hn : n ≤ 256) : nx (f_X7_byteAt Z (nI i) (nI n) tF) = some (tF i) := by
  unfold f_X7_byteAt f_X7_byteAt_c26 f_X0_size
  rw [if_neg (nI_pos (by omega)), Option.bind_some, if_neg (nI_ge hi (by omega)), if_neg c_01, q_at (by omega) (by omega) hi]
  rfl
theorem x_lineOf {Z p n : Nat} {tF : Nat → Int32} (hZ : 300 ≤ Z) (hp : p ≤ n) (hn : n ≤ 256) : nx (f_X7_lineOf Z (nI p) (nI n) tF) = some (nI (brk tF p)) := by
  unfold f_X7_lineOf f_X7_lineOf_c8
  rw [q_pos_yes hp (by omega), Option.bind_some, if_neg c_01, q_breaksBefore (by omega) (by omega) hn hp]
  rfl
theorem x_lines {Z n : Nat} {tF : Nat → Int32} (hZ : 300 ≤ Z) (hn : n ≤ 256) : f_X7_lines Z (nI n) tF = some (nI (brk tF n + 1)) := by
  unfold f_X7_lines
  rw [q_lineCount (by omega) (by omega) hn, Option.bind_some]
/-- the array's cell: the text with its gap -/
def cellV (n g cp : Nat) (tF : Nat → Int32) (i : Nat) : Int32 := if i < g then tF i else if i < g + (cp - n) then -1 else tF (i - (cp - n))
theorem x_cell {Z i n g cp : Nat} {tF : Nat → Int32} (hi : i < cp) (hn : n ≤ 256) (hcp : cp ≤ 256) (hg : g ≤ n) (hnc : n ≤ cp) : nx (f_X7_cell Z (nI i) (nI n) tF (nI cp) (nI g)) = some (cellV n g cp tF i) := by
  have k1 : ∀ r, f_X6_cellAt Z (nI i) (nI n) tF (nI cp) (nI g) = some r → nx (f_X7_cell Z (nI i) (nI n) tF (nI cp) (nI g)) = some r := fun r hr => by
    unfold f_X7_cell f_X7_cell_c26
    rw [if_neg (nI_pos (by omega)), if_neg (nI_ge hi (by omega)), if_neg c_01, hr]
    rfl
  refine k1 _ ?_
  unfold f_X6_cellAt f_X0_size cellV
  rw [Option.bind_some, pk_sub hnc, kl, nI_add]
  by_cases a : i < g
  · rw [if_neg (nI_ge a (by omega)), if_pos a, q_at (by omega) (by omega) (by omega), Option.bind_some]
  · rw [if_pos (nI_le (by omega) (by omega)), if_neg a]
    by_cases b : i < g + (cp - n)
    · rw [if_neg (nI_ge b (by omega)), if_pos b]
    · rw [if_pos (nI_le (by omega) (by omega)), if_neg b, pk_sub (by omega), q_at (by omega) (by omega) (by omega), Option.bind_some]
-- ===== the digest is the row's =====
def DG (s : Nat → Int32) : Int64 := hfo (cx s) (s 10).toNatClampNeg 0 (31 * hfo (tx s) (s 0).toNatClampNeg 0 (hfo (fun m => s (12 + m)) 4 0 (31 * (31 * (31 * (31 * (31 * (31 * (31 * (31 * (31 * (31 * (252154 + (s 0).toInt64) + (s 1).toInt64) + (s 3).toInt64) + (s 2).toInt64) + (s 4).toInt64) + (s 5).toInt64) + (s 6).toInt64) + (s 7).toInt64) + (nI (brk (tx s) (s 0).toNatClampNeg + 1)).toInt64) + (nI ((s 1).toNatClampNeg - lb (tx s) (s 1).toNatClampNeg)).toInt64) + (s 9).toInt64)) + (s 10).toInt64)
theorem x_digest {Z : Nat} (hZ : 300 ≤ Z) {vCar : Int32} {vGoa : Int32} {vEag : Int32} {tN : Int32} {tF : Nat → Int32} {cN : Int32} {cF : Nat → Int32} {mP : Nat → Int32} {mS : Nat → Int32} {kCap : Int32} {kGap : Int32} {kCar : Int32} {kCop : Int32} {kGro : Int32} {kShr : Int32} {s : Nat → Int32} (h : RS (vCar, vGoa, vEag, tN, tF, cN, cF, mP, mS, kCap, kGap, kCar, kCop, kGro, kShr) s) : f_X7_digest Z vCar vEag tN tF cN cF mP kCap kGap kCar kCop kGro kShr = some (DG s) := by
  obtain ⟨n, c, g, q, cp, l, ⟨rfl, rfl, rfl, rfl, rfl, rfl⟩, hN⟩ := rs_out h
  obtain ⟨⟨hb1, hb2, hb3, hb4, hb5, hb6, hb7⟩, he, ⟨e0, e1, e2, e3, e4, e5, e6, e7, e8, e9, e10⟩, hm, ht, hcl⟩ := hN
  have hl1 : lb (tx s) c = lb tF c := lb_congr _ (fun i hi => ht i (by omega))
  have hbk : brk (tx s) n = brk tF n := brk_congr _ (fun i hi => ht i hi)
  have hmk : ∀ x, hfo (fun m => s (12 + m)) 4 0 x = hfo mP 4 0 x := fun x => hfo_congr 4 0 x (fun j hj => (hm j (by omega)).1)
  have htx : ∀ x, hfo (tx s) n 0 x = hfo tF n 0 x := fun x => hfo_congr n 0 x (fun j hj => ht j (by omega))
  have hcx : ∀ x, hfo (cx s) l 0 x = hfo cF l 0 x := fun x => hfo_congr l 0 x (fun j hj => hcl j (by omega))
  have hln := q_lineCount (Z := Z) (n := n) (L := 256) (F := tF) (by omega) (by omega) hb1
  have hcol := q_col (Z := Z) (F := tF) (by omega) hb1 hb2
  have qh : ∀ x, f_X6_hash_l164 Z (nI c) vEag (nI n) tF (nI l) cF mP (nI cp) (nI g) kCar kCop kGro kShr Z x 0 = some (hfo cF l 0 (31 * hfo tF n 0 (hfo mP 4 0 x) + (nI l).toInt64)) := fun x => by
    rw [show f_X6_hash_l164 Z (nI c) vEag (nI n) tF (nI l) cF mP (nI cp) (nI g) kCar kCop kGro kShr Z x 0 = _ from q_hm Z 4 0 x rfl (by omega), o_hashOn (by omega) hb1 (by omega), Option.bind_some]
    unfold f_X0_size
    rw [Option.bind_some, o_hashOn (by omega) hb5 (by omega), Option.bind_some]
  have hD : DG s = hfo cF l 0 (31 * hfo tF n 0 (hfo mP 4 0 (31 * (31 * (31 * (31 * (31 * (31 * (31 * (31 * (31 * (31 * (252154 + (nI n).toInt64) + (nI c).toInt64) + (nI cp).toInt64) + (nI g).toInt64) + (kCar).toInt64) + (kCop).toInt64) + (kGro).toInt64) + (kShr).toInt64) + (nI (brk tF n + 1)).toInt64) + (nI (c - lb tF c)).toInt64) + (vEag).toInt64)) + (nI l).toInt64) := by
    unfold DG
    rw [e0, e1, e2, e3, e4, e5, e6, e7, e9, e10, nI_clamp (by omega), nI_clamp (by omega), nI_clamp (by omega), hmk, htx, hcx, hl1, hbk]
  rw [hD]
  unfold f_X7_digest f_X6_hash f_X0_size
  rcases he with rfl | rfl
  · simp only [Option.bind_some, kl, hln, hcol, qh, if_pos, nI_1]
  · simp only [Option.bind_some, kl, hln, hcol, qh, if_neg c_01, nI_1]
theorem x_saved {B : Nat} {hX hC : Int32} {hR : Nat → StT} {S : List (Nat → Int32)} (h : HH B hX hC hR S) : f_X7_savedStates 4000 hC = some (nI S.length) ∧ S.length ≤ 6 := by
  obtain ⟨x, -, h2, h3, -⟩ := h
  refine ⟨?_, h2⟩
  unfold f_X7_savedStates f_X2_count
  rw [h3, Option.bind_some]
