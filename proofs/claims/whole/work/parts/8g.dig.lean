-- ===== digest =====
def hfo (F : Nat → Int32) : Nat → Nat → Int64 → Int64
  | 0, _, h => h
  | k + 1, i, h => hfo F k (i + 1) (31 * h + (F i).toInt64)
theorem hfo_congr {F G : Nat → Int32} : ∀ (k i : Nat) (h : Int64), (∀ j, j < i + k → F j = G j) → hfo F k i h = hfo G k i h
  | 0, _, _, _ => rfl
  | k + 1, i, h, hj => by
    unfold hfo
    rw [hj i (by omega)]
    exact hfo_congr k (i + 1) _ (fun j h2 => hj j (by omega))
theorem q_hashOn {Z n L : Nat} {p0 : Int64} {F : Nat → Int32} (hn : n ≤ L) (hL : L < 2 ^ 30) : ∀ (N k i : Nat) (h : Int64), i + k = n → k < N → f_X6_hashOn_l5 Z p0 L (nI n) F N h (nI i) = some (hfo F k i h) := by
  intro N
  induction N with
  | zero => intro k i h h1 h2; omega
  | succ N ih =>
    intro k i h h1 h2
    show f_X6_hashOn_b5 Z p0 L (nI n) F _ h (nI i) = _
    unfold f_X6_hashOn_b5 f_X0_size
    rw [Option.bind_some]
    rcases k with _ | k
    · rw [if_pos (nI_le (by omega) (by omega))]
      rfl
    · rw [if_neg (nI_ge (by omega) (by omega)), q_at (by omega) hn (by omega), Option.bind_some, kl, kl, nI_1]
      exact ih k (i + 1) _ (by omega) (by omega)
theorem o_hashOn {Z n L : Nat} {h : Int64} {F : Nat → Int32} (hZ : n < Z) (hn : n ≤ L) (hL : L < 2 ^ 30) : f_X6_hashOn Z h L (nI n) F = some (hfo F n 0 h) := q_hashOn hn hL Z n 0 h (by omega) hZ
theorem q_hm {Z : Nat} {vCar vEag tN cN kCap kGap kCar kCop kGro kShr : Int32} {tF cF mP : Nat → Int32} : ∀ (N k i : Nat) (h : Int64), i + k = 4 → k < N → f_X6_hash_l164 Z vCar vEag tN tF cN cF mP kCap kGap kCar kCop kGro kShr N h (nI i) = ((f_X6_hashOn Z (hfo mP k i h) 256 tN tF).bind fun r2 => (f_X0_size Z 60 cN).bind fun r3 => (f_X6_hashOn Z ((31 * r2) + ((r3 : Int32).toInt64)) 60 cN cF).bind fun r4 => some r4) := by
  intro N
  induction N with
  | zero => intro k i h h1 h2; omega
  | succ N ih =>
    intro k i h h1 h2
    show f_X6_hash_b164 Z vCar vEag tN tF cN cF mP kCap kGap kCar kCop kGro kShr _ h (nI i) = _
    unfold f_X6_hash_b164
    rcases k with _ | k
    · rw [l_4, if_pos (nI_le (by omega) (by omega))]
      rfl
    · rw [l_4, if_neg (nI_ge (by omega) (by omega)), q_posOf (by omega), Option.bind_some, kl, kl, nI_1]
      exact ih k (i + 1) _ (by omega) (by omega)
theorem r_hash {Z : Nat} {p : Int32} {h : Int64} : f_X8_hashes Z p h = some (31 * h + p.toInt64) := rfl
theorem r_hc {Z l : Nat} {s : Nat → Int32} {th : Int32} (e10 : s 10 = nI l) (hl : l ≤ 60) : ∀ (N k i : Nat) (h : Int64), i + k = l → k < N → f_X8_digest_l205 Z s N (nI i) th h = some (hfo (cx s) k i h, th, hfo (cx s) k i h) := by
  intro N
  induction N with
  | zero => intro k i h h1 h2; omega
  | succ N ih =>
    intro k i h h1 h2
    show f_X8_digest_b205 Z s _ (nI i) th h = _
    unfold f_X8_digest_b205
    rw [rd_10, tn_10, e10]
    rcases k with _ | k
    · rw [if_pos (nI_le (by omega) (by omega))]
      rfl
    · rw [if_neg (nI_ge (by omega) (by omega)), z_20, z_rd (by omega) (by omega), nI_clamp (by omega), r_hash, Option.bind_some, kl, nI_1]
      exact ih k (i + 1) _ (by omega) (by omega)
theorem r_ht {Z n : Nat} {s : Nat → Int32} {th : Int32} (e0 : s 0 = nI n) (hn : n ≤ 256) : ∀ (N k i : Nat) (h : Int64), i + k = n → k < N → f_X8_digest_l163 Z s N (nI i) th h = f_X8_digest_l205 Z s Z 0 th (31 * hfo (tx s) k i h + (s 10).toInt64) := by
  intro N
  induction N with
  | zero => intro k i h h1 h2; omega
  | succ N ih =>
    intro k i h h1 h2
    show f_X8_digest_b163 Z s _ (nI i) th h = _
    unfold f_X8_digest_b163
    rw [rd_0, tn_0, e0]
    rcases k with _ | k
    · rw [if_pos (nI_le (by omega) (by omega)), rd_10, tn_10, r_hash, Option.bind_some]
      rfl
    · rw [if_neg (nI_ge (by omega) (by omega)), z_80, z_rd (by omega) (by omega), nI_clamp (by omega), r_hash, Option.bind_some, kl, nI_1]
      exact ih k (i + 1) _ (by omega) (by omega)
theorem r_hm {Z : Nat} {s : Nat → Int32} {th : Int32} : ∀ (N k i : Nat) (h : Int64), i + k = 4 → k < N → f_X8_digest_l137 Z s N (nI i) th h = f_X8_digest_l163 Z s Z 0 th (hfo (fun m => s (12 + m)) k i h) := by
  intro N
  induction N with
  | zero => intro k i h h1 h2; omega
  | succ N ih =>
    intro k i h h1 h2
    show f_X8_digest_b137 Z s _ (nI i) th h = _
    unfold f_X8_digest_b137
    rcases k with _ | k
    · rw [l_4, if_pos (nI_le (by omega) (by omega))]
      rfl
    · rw [l_4, if_neg (nI_ge (by omega) (by omega)), z_12, z_rd (by omega) (by omega), nI_clamp (by omega), r_hash, Option.bind_some, kl, nI_1]
      exact ih k (i + 1) _ (by omega) (by omega)
theorem i64_0 : (31 : Int64) * 8134 = 252154 := by decide
theorem pb_digest {Z : Nat} (hZ : 300 ≤ Z) : PB_digest Z Rel := by
  intro vCar vGoa vEag tN tF cN cF mP mS kCap kGap kCar kCop kGro kShr bN bF rCmd rLet rNum fCap fGap fCar fCop fGro fShr hX hC hR aTh aSm aLn aAt aWe aRm aBm aHa aS aSv aCm aRd aBy h
  obtain ⟨n, c, g, q, cp, l, ⟨rfl, rfl, rfl, rfl, rfl, rfl⟩, hN⟩ := rs_out h.1
  obtain ⟨⟨hb1, hb2, hb3, hb4, hb5, hb6, hb7⟩, he, ⟨e0, e1, e2, e3, e4, e5, e6, e7, e8, e9, e10⟩, hm, ht, hcl⟩ := hN
  have hl1 : lb (tx aS) c = lb tF c := lb_congr _ (fun i hi => ht i (by omega))
  have hbk : brk (tx aS) n = brk tF n := brk_congr _ (fun i hi => ht i hi)
  have hmk : ∀ x, hfo (fun m => aS (12 + m)) 4 0 x = hfo mP 4 0 x := fun x => hfo_congr 4 0 x (fun j hj => (hm j (by omega)).1)
  have htx : ∀ x, hfo (tx aS) n 0 x = hfo tF n 0 x := fun x => hfo_congr n 0 x (fun j hj => ht j (by omega))
  have hcx : ∀ x, hfo (cx aS) l 0 x = hfo cF l 0 x := fun x => hfo_congr l 0 x (fun j hj => hcl j (by omega))
  have hln := q_lineCount (Z := Z) (n := n) (L := 256) (F := tF) (by omega) (by omega) hb1
  have hcol := q_col (Z := Z) (F := tF) (by omega) hb1 hb2
  have rln := r_lineAt (Z := Z) (p := n) (s := aS) (by omega) hb1
  have rcol := r_column (Z := Z) (p := c) (s := aS) (by omega) (by omega)
  have qh : ∀ x, f_X6_hash_l164 Z (nI c) vEag (nI n) tF (nI l) cF mP (nI cp) (nI g) kCar kCop kGro kShr Z x 0 = some (hfo cF l 0 (31 * hfo tF n 0 (hfo mP 4 0 x) + (nI l).toInt64)) := fun x => by
    rw [show f_X6_hash_l164 Z (nI c) vEag (nI n) tF (nI l) cF mP (nI cp) (nI g) kCar kCop kGro kShr Z x 0 = _ from q_hm Z 4 0 x rfl (by omega), o_hashOn (by omega) hb1 (by omega), Option.bind_some]
    unfold f_X0_size
    rw [Option.bind_some, o_hashOn (by omega) hb5 (by omega), Option.bind_some]
  have rh : ∀ x, f_X8_digest_l137 Z aS Z 0 0 x = some (hfo cF l 0 (31 * hfo tF n 0 (hfo mP 4 0 x) + (nI l).toInt64), 0, hfo cF l 0 (31 * hfo tF n 0 (hfo mP 4 0 x) + (nI l).toInt64)) := fun x => by
    rw [show f_X8_digest_l137 Z aS Z 0 0 x = _ from r_hm Z 4 0 x rfl (by omega), hmk, show ∀ y, f_X8_digest_l163 Z aS Z 0 0 y = _ from fun y => r_ht e0 hb1 Z n 0 y (by omega) (by omega), htx, e10, show ∀ y, f_X8_digest_l205 Z aS Z 0 0 y = _ from fun y => r_hc e10 hb5 Z l 0 y (by omega) (by omega), hcx]
  refine ⟨hfo cF l 0 (31 * hfo tF n 0 (hfo mP 4 0 (31 * (31 * (31 * (31 * (31 * (31 * (31 * (31 * (31 * (31 * (252154 + (nI n).toInt64) + (nI c).toInt64) + (nI cp).toInt64) + (nI g).toInt64) + (kCar).toInt64) + (kCop).toInt64) + (kGro).toInt64) + (kShr).toInt64) + (nI (brk tF n + 1)).toInt64) + (nI (c - lb tF c)).toInt64) + (vEag).toInt64)) + (nI l).toInt64), 0, hfo cF l 0 (31 * hfo tF n 0 (hfo mP 4 0 (31 * (31 * (31 * (31 * (31 * (31 * (31 * (31 * (31 * (31 * (252154 + (nI n).toInt64) + (nI c).toInt64) + (nI cp).toInt64) + (nI g).toInt64) + (kCar).toInt64) + (kCop).toInt64) + (kGro).toInt64) + (kShr).toInt64) + (nI (brk tF n + 1)).toInt64) + (nI (c - lb tF c)).toInt64) + (vEag).toInt64)) + (nI l).toInt64), ?_, ?_, h⟩
  rotate_left
  · unfold f_X8_digest
    simp only [rd_0, rd_1, rd_2, rd_3, rd_4, rd_5, rd_6, rd_7, rd_9, tn_0, tn_1, tn_2, tn_3, tn_4, tn_5, tn_6, tn_7, tn_9, e0, e1, e2, e3, e4, e5, e6, e7, e9, r_hash, Option.bind_some, rln, rcol, rh, hl1, hbk, i64_0, nI_1]
  · unfold f_X7_digest f_X6_hash f_X0_size
    rcases he with rfl | rfl
    · simp only [Option.bind_some, kl, hln, hcol, qh, if_pos, nI_1]
    · simp only [Option.bind_some, kl, hln, hcol, qh, if_neg c_01, nI_1]
