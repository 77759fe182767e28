-- ===== the law's act, and the same of the row =====
def LW (p m : Int32) : Int32 := (p &&& 2147483647) - (p &&& 2147483647) / m * m
theorem q_low {p : Int32} {m : Nat} (h : 0 < m) (h2 : m < 2 ^ 31) : f_L_low 4000 p (nI m) = some (LW p (nI m)) := by
  unfold f_L_low kz LW
  rw [if_neg (nI_ne0 h (by omega))]
theorem lw_in (p : Int32) {m : Nat} (h : 0 < m) (h2 : m < 2 ^ 31) : ∃ j, j < m ∧ LW p (nI m) = nI j := by
  obtain ⟨k, hk, e⟩ := pk_andE p (m := 2147483647) 31 (by decide)
  refine ⟨k % m, Nat.mod_lt _ h, ?_⟩
  unfold LW
  rw [e, pk_rem hk h h2]
def aCode (w : Int32) : Int32 := if (w &&& 3) = 0 then 10 else (97 : Int32) + LW (w >>> (2 &&& 31)) 4
def aM (w : Int32) : Int32 := if ((w >>> (20 &&& 31)) &&& 1) = 0 then 9 else 100
def acBy (mk car : Int32) : Int32 := if 0 ≤ mk then (if car ≤ mk then mk - car else car - mk) else 999
def gN (m : Option (Int32 × (Nat → Int32))) : Option (Int32 × Option (Nat → Int32)) := m.map fun a => (a.1, some a.2)
def gF (code y m : Int32) (s : Nat → Int32) : Option (Int32 × Option (Nat → Int32)) := if s 0 + (1 + LW y m) ≤ 256 then gN (mFill code (1 + LW y m) s) else some (-9, none)
def gT' (code : Int32) (s : Nat → Int32) : Option (Int32 × Option (Nat → Int32)) := if s 0 = 256 then some (-9, none) else gN (mFill code (nI 1) s)
def gK (j : Nat) (w : Int32) (s : Nat → Int32) : Option (Int32 × Option (Nat → Int32)) := (mMark j (w &&& 1) s).map fun a => (if 0 ≤ a.1 then a.1 else 999, some a.2)
def gP (s : Nat → Int32) : Option (Int32 × Option (Nat → Int32)) := if s 10 = 0 then some (-9, none) else if s 0 + s 10 ≤ 256 then gN (mPaste s) else some (-9, none)
def gAj (code : Int32) (mk : Nat) (y w : Int32) (s : Nat → Int32) : Nat → Option (Int32 × Option (Nat → Int32))
  | 0 => gT' code s
  | 1 => gT' code s
  | 2 => gF code (w >>> (4 &&& 31)) (aM w) s
  | 3 => gF code (w >>> (4 &&& 31)) (aM w) s
  | 4 => gN (f_X8_erases 4000 (1 + LW w (aM w)) s)
  | 5 => gN (f_X8_backs 4000 (1 + LW w (aM w)) s)
  | 6 => gN (f_X8_movesAnew 4000 (LW w (s 0 + 1)) s)
  | 7 => gN (f_X8_movesAnew 4000 (LW w (s 0 + 1)) s)
  | 8 => gN (mMoveBy (LW w 201 - 100) s)
  | 9 => if (w &&& 1) = 0 then gN (mUp s) else gN (mDown s)
  | 10 => if (w &&& 3) = 0 then gN (mEager (if ((w >>> (2 &&& 31)) &&& 1) = 0 then 1 else 0) s) else gN (mLine (if ((w >>> (2 &&& 31)) &&& 1) = 0 then 1 else 0) s)
  | 11 => gK mk w s
  | 12 => gK mk w s
  | 13 => if y ≤ 60 then gN (mCopy mk s) else some (-9, none)
  | 14 => if y ≤ 60 then gN (mCut mk s) else some (-9, none)
  | _ => gP s
def gA (v w : Int32) (s : Nat → Int32) : Option (Int32 × Option (Nat → Int32)) := gAj (aCode w) (LW (v >>> (4 &&& 31)) 4).toNatClampNeg (acBy (s (12 + (LW (v >>> (4 &&& 31)) 4).toNatClampNeg)) (s 1)) w s (v &&& 15).toNatClampNeg
abbrev T18 : Type := Int32 × Int32 × Int32 × Int32 × (Nat → Int32) × Int32 × (Nat → Int32) × (Nat → Int32) × (Nat → Int32) × Int32 × Int32 × Int32 × Int32 × Int32 × Int32 × Int32 × Int32 × (Nat → StT)
def AOK (B : Nat) (S : List (Nat → Int32)) (s : Nat → Int32) (g : Option (Int32 × Option (Nat → Int32))) (f : Option (Int32 × T18)) : Prop := ∃ r o vCar' vGoa' vEag' tN' tF' cN' cF' mP' mS' kCap' kGap' kCar' kCop' kGro' kShr' hX' hC' hR', g = some (r, o) ∧ f = some (r, vCar', vGoa', vEag', tN', tF', cN', cF', mP', mS', kCap', kGap', kCar', kCop', kGro', kShr', hX', hC', hR') ∧ ((o = none ∧ r = -9 ∧ GS B vCar' vGoa' vEag' tN' tF' cN' cF' mP' mS' kCap' kGap' kCar' kCop' kGro' kShr' hX' hC' hR' s S) ∨ ∃ s', o = some s' ∧ ¬ r = -9 ∧ GS (B + 5) vCar' vGoa' vEag' tN' tF' cN' cF' mP' mS' kCap' kGap' kCar' kCop' kGro' kShr' hX' hC' hR' s' (s :: S))
theorem ne_m9 {r : Int32} (h : NN r) : ¬ r = -9 := by
  obtain ⟨a, ha, rfl⟩ := h
  intro e
  have h1 := congrArg Int32.toInt e
  rw [nI_toInt (by omega), show (-9 : Int32).toInt = -9 from by decide] at h1
  omega
section ACT
variable {B : Nat} {vCar : Int32} {vGoa : Int32} {vEag : Int32} {tN : Int32} {tF : Nat → Int32} {cN : Int32} {cF : Nat → Int32} {mP : Nat → Int32} {mS : Nat → Int32} {kCap : Int32} {kGap : Int32} {kCar : Int32} {kCop : Int32} {kGro : Int32} {kShr : Int32} {hX hC : Int32} {hR : Nat → StT} {s : Nat → Int32} {S : List (Nat → Int32)}
theorem aok_no (G : GS B vCar vGoa vEag tN tF cN cF mP mS kCap kGap kCar kCop kGro kShr hX hC hR s S) : AOK B S s (some (-9, none)) (some (-9, vCar, vGoa, vEag, tN, tF, cN, cF, mP, mS, kCap, kGap, kCar, kCop, kGro, kShr, hX, hC, hR)) := ⟨_, _, vCar, vGoa, vEag, tN, tF, cN, cF, mP, mS, kCap, kGap, kCar, kCop, kGro, kShr, hX, hC, hR, rfl, rfl, Or.inl ⟨rfl, rfl, G⟩⟩
theorem aok_yes {r : Int32} {s' : Nat → Int32} (hr : ¬ r = -9) (G : GS (B + 5) vCar vGoa vEag tN tF cN cF mP mS kCap kGap kCar kCop kGro kShr hX hC hR s' (s :: S)) : AOK B S s (some (r, some s')) (some (r, vCar, vGoa, vEag, tN, tF, cN, cF, mP, mS, kCap, kGap, kCar, kCop, kGro, kShr, hX, hC, hR)) := ⟨_, _, vCar, vGoa, vEag, tN, tF, cN, cF, mP, mS, kCap, kGap, kCar, kCop, kGro, kShr, hX, hC, hR, rfl, rfl, Or.inr ⟨s', rfl, hr, G⟩⟩
theorem g_tN (G : GS B vCar vGoa vEag tN tF cN cF mP mS kCap kGap kCar kCop kGro kShr hX hC hR s S) : ∃ n, n ≤ 256 ∧ tN = nI n ∧ s 0 = tN := by
  obtain ⟨n, c, g, q, cp, l, ⟨rfl, rfl, rfl, rfl, rfl, rfl⟩, hN⟩ := rs_out G.1
  exact ⟨n, hN.1.1, rfl, hN.2.2.1.1⟩
theorem g_car (G : GS B vCar vGoa vEag tN tF cN cF mP mS kCap kGap kCar kCop kGro kShr hX hC hR s S) : ∃ c, c ≤ 256 ∧ vCar = nI c ∧ s 1 = vCar := by
  obtain ⟨n, c, g, q, cp, l, ⟨rfl, rfl, rfl, rfl, rfl, rfl⟩, hN⟩ := rs_out G.1
  exact ⟨c, Nat.le_trans hN.1.2.1 hN.1.1, rfl, hN.2.2.1.2.1⟩
theorem g_mk (G : GS B vCar vGoa vEag tN tF cN cF mP mS kCap kGap kCar kCop kGro kShr hX hC hR s S) {j : Nat} (hj : j < 4) : s (12 + j) = mP j ∧ (mP j = -1 ∨ ∃ p, p ≤ 256 ∧ mP j = nI p) := by
  obtain ⟨n, c, g, q, cp, l, ⟨rfl, rfl, rfl, rfl, rfl, rfl⟩, hN⟩ := rs_out G.1
  obtain ⟨m1, m2, m3⟩ := hN.2.2.2.1 j hj
  exact ⟨m1, m3.imp id fun ⟨p, h1, h2⟩ => ⟨p, Nat.le_trans h1 hN.1.1, h2⟩⟩
theorem g_clip (G : GS B vCar vGoa vEag tN tF cN cF mP mS kCap kGap kCar kCop kGro kShr hX hC hR s S) : ∃ l, l ≤ 60 ∧ cN = nI l ∧ s 10 = cN ∧ ∀ i, i < l → 0 ≤ cF i := by
  obtain ⟨n, c, g, q, cp, l, ⟨rfl, rfl, rfl, rfl, rfl, rfl⟩, hN⟩ := rs_out G.1
  exact ⟨l, hN.1.2.2.2.2.1, rfl, hN.2.2.1.2.2.2.2.2.2.2.2.2.2, (ki_out hN G.2.1).2.2.2⟩
theorem by_m1 {c : Int32} : acBy (-1) c = 999 := by
  unfold acBy
  rw [if_neg (by decide)]
theorem by_dst {p c : Nat} (hp : p ≤ 256) (hc : c ≤ 256) : acBy (nI p) (nI c) = nI (dst p c) := by
  unfold acBy dst
  rw [if_pos (nI_pos' (by omega))]
  by_cases h : c ≤ p
  · rw [if_pos (nI_le h (by omega)), if_pos h, pk_sub h]
  · rw [if_neg (nI_ge (by omega) (by omega)), if_neg h, pk_sub (by omega)]
theorem act_T (G : GS B vCar vGoa vEag tN tF cN cF mP mS kCap kGap kCar kCop kGro kShr hX hC hR s S) (hS : S.length ≤ 5) {x4 : Int32} (hp : f_X7_isByte 4000 x4 = some 1) (hp0 : 0 ≤ x4) {f : Option (Int32 × T18)} (hf : f = if tN = 256 then some (-9, vCar, vGoa, vEag, tN, tF, cN, cF, mP, mS, kCap, kGap, kCar, kCop, kGro, kShr, hX, hC, hR) else (nx (f_X7_type 4000 x4 vCar vGoa vEag tN tF cN cF mP mS kCap kGap kCar kCop kGro kShr hX hC hR)).bind fun (r, vCar', vGoa', tN', tF', mP', kCap', kGap', kCar', kCop', kGro', hX', hC', hR') => some (r, vCar', vGoa', vEag, tN', tF', cN, cF, mP', mS, kCap', kGap', kCar', kCop', kGro', kShr, hX', hC', hR')) : AOK B S s (gT' x4 s) f := by
  obtain ⟨n, -, -, e0⟩ := g_tN G
  subst hf
  unfold gT'
  rw [e0]
  by_cases h : tN = 256
  · rw [if_pos h, if_pos h]
    exact aok_no G
  · rw [if_neg h, if_neg h]
    obtain ⟨r, s', _, _, _, _, _, _, _, _, _, _, _, _, _, m1, m2, m3, m4⟩ := a_type G hS hp hp0 h
    rw [m1, m2]
    exact aok_yes (ne_m9 m4) m3
theorem act_c211 (G : GS B vCar vGoa vEag tN tF cN cF mP mS kCap kGap kCar kCop kGro kShr hX hC hR s S) (hS : S.length ≤ 5) {v w x4 y1 : Int32} {m : Nat} (hm : 0 < m) (hm2 : m ≤ 100) (hp : f_X7_isByte 4000 x4 = some 1) (hp0 : 0 ≤ x4) : AOK B S s (gF x4 y1 (nI m) s) (f_L_act_c211 4000 v w tN x4 1 y1 (nI m) vCar vGoa vEag tN tF cN cF mP mS kCap kGap kCar kCop kGro kShr hX hC hR) := by
  obtain ⟨n, -, -, e0⟩ := g_tN G
  obtain ⟨j, hj, ej⟩ := lw_in y1 hm (by omega)
  unfold f_L_act_c211 gF
  rw [q_low hm (by omega), Option.bind_some, kl, ej, e0, l_1, nI_add]
  by_cases h : tN + nI (1 + j) ≤ 256
  · rw [if_pos h, if_pos h]
    obtain ⟨r, s', _, _, _, _, _, _, _, _, _, _, _, _, _, m1, m2, m3, m4⟩ := a_fill G hS (k := 1 + j) hp hp0 (by omega) (by omega) h
    rw [m1, m2]
    exact aok_yes (ne_m9 m4) m3
  · rw [if_neg h, if_neg h]
    exact aok_no G
theorem act_E (G : GS B vCar vGoa vEag tN tF cN cF mP mS kCap kGap kCar kCop kGro kShr hX hC hR s S) (hS : S.length ≤ 5) {w : Int32} {m : Nat} (hm : 0 < m) (hm2 : m ≤ 100) {f : Option (Int32 × T18)} (hf : f = (f_L_low 4000 w (nI m)).bind fun r25 => (nx (f_X7_erase 4000 (1 + r25) vCar vGoa vEag tN tF cN cF mP mS kCap kGap kCar kCop kGro kShr hX hC hR)).bind fun (r, vCar', vGoa', tN', tF', mP', kCap', kGap', kCar', kCop', kShr', hX', hC', hR') => some (r, vCar', vGoa', vEag, tN', tF', cN, cF, mP', mS, kCap', kGap', kCar', kCop', kGro, kShr', hX', hC', hR')) : AOK B S s (gN (f_X8_erases 4000 (1 + LW w (nI m)) s)) f := by
  obtain ⟨j, hj, ej⟩ := lw_in w hm (by omega)
  subst hf
  rw [q_low hm (by omega), Option.bind_some, ej, l_1, nI_add]
  obtain ⟨r, s', _, _, _, _, _, _, _, _, _, _, _, _, _, m1, m2, m3, m4⟩ := a_erase G hS (k := 1 + j) (by omega) (by omega)
  rw [m1, m2]
  exact aok_yes (ne_m9 m4) m3
theorem act_B (G : GS B vCar vGoa vEag tN tF cN cF mP mS kCap kGap kCar kCop kGro kShr hX hC hR s S) (hS : S.length ≤ 5) {w : Int32} {m : Nat} (hm : 0 < m) (hm2 : m ≤ 100) {f : Option (Int32 × T18)} (hf : f = (f_L_low 4000 w (nI m)).bind fun r25 => (nx (f_X7_backspace 4000 (1 + r25) vCar vGoa vEag tN tF cN cF mP mS kCap kGap kCar kCop kGro kShr hX hC hR)).bind fun (r, vCar', vGoa', tN', tF', mP', kCap', kGap', kCar', kCop', kShr', hX', hC', hR') => some (r, vCar', vGoa', vEag, tN', tF', cN, cF, mP', mS, kCap', kGap', kCar', kCop', kGro, kShr', hX', hC', hR')) : AOK B S s (gN (f_X8_backs 4000 (1 + LW w (nI m)) s)) f := by
  obtain ⟨j, hj, ej⟩ := lw_in w hm (by omega)
  subst hf
  rw [q_low hm (by omega), Option.bind_some, ej, l_1, nI_add]
  obtain ⟨r, s', _, _, _, _, _, _, _, _, _, _, _, _, _, m1, m2, m3, m4⟩ := a_back G hS (k := 1 + j) (by omega) (by omega)
  rw [m1, m2]
  exact aok_yes (ne_m9 m4) m3
theorem act_M (G : GS B vCar vGoa vEag tN tF cN cF mP mS kCap kGap kCar kCop kGro kShr hX hC hR s S) (hS : S.length ≤ 5) {w : Int32} {f : Option (Int32 × T18)} (hf : f = (f_L_low 4000 w (tN + 1)).bind fun r34 => (nx (f_X7_moveTo 4000 r34 vCar vGoa vEag tN tF cN cF mP mS kCap kGap kCar kCop kGro kShr hX hC hR)).bind fun (r, vCar', vGoa', kGap', kCar', hX', hC', hR') => some (r, vCar', vGoa', vEag, tN, tF, cN, cF, mP, mS, kCap, kGap', kCar', kCop, kGro, kShr, hX', hC', hR')) : AOK B S s (gN (f_X8_movesAnew 4000 (LW w (s 0 + 1)) s)) f := by
  obtain ⟨n, hn, en, e0⟩ := g_tN G
  obtain ⟨j, hj, ej⟩ := lw_in w (m := n + 1) (by omega) (by omega)
  have e1 : tN + 1 = nI (n + 1) := by rw [en, nI_1]
  subst hf
  rw [e0, e1, q_low (by omega) (by omega), Option.bind_some, ej]
  obtain ⟨r, s', _, _, _, _, _, _, _, m1, m2, m3, m4⟩ := a_moveTo G hS (j := j) (by rw [en]; exact nI_le (by omega) (by omega)) (by omega)
  rw [m1, m2]
  exact aok_yes (ne_m9 m4) m3
theorem act_Y (G : GS B vCar vGoa vEag tN tF cN cF mP mS kCap kGap kCar kCop kGro kShr hX hC hR s S) (hS : S.length ≤ 5) {w : Int32} {f : Option (Int32 × T18)} (hf : f = (f_L_low 4000 w 201).bind fun r40 => (nx (f_X7_moveBy 4000 (r40 - 100) vCar vGoa vEag tN tF cN cF mP mS kCap kGap kCar kCop kGro kShr hX hC hR)).bind fun (r, vCar', vGoa', kGap', kCar', hX', hC', hR') => some (r, vCar', vGoa', vEag, tN, tF, cN, cF, mP, mS, kCap, kGap', kCar', kCop, kGro, kShr, hX', hC', hR')) : AOK B S s (gN (mMoveBy (LW w 201 - 100) s)) f := by
  obtain ⟨j, hj, ej⟩ := lw_in w (m := 201) (by omega) (by omega)
  have e : (nI j - nI 100).toInt = (j : Int) - 100 := pk_sub_toInt (by omega) (by omega)
  subst hf
  rw [show (201 : Int32) = nI 201 from rfl, q_low (by omega) (by omega), Option.bind_some, ej, l_100]
  obtain ⟨r, s', _, _, _, _, _, _, _, m1, m2, m3, m4⟩ := a_moveBy G hS (p1 := nI j - nI 100) (by rw [Int32.lt_iff_toInt_lt, e, show (-100 : Int32).toInt = -100 from by decide]; omega) (by rw [Int32.lt_iff_toInt_lt, e, show (100 : Int32).toInt = 100 from by decide]; omega)
  rw [m1, m2]
  exact aok_yes (ne_m9 m4) m3
theorem act_K (G : GS B vCar vGoa vEag tN tF cN cF mP mS kCap kGap kCar kCop kGro kShr hX hC hR s S) (hS : S.length ≤ 5) {w : Int32} {j : Nat} (hj : j < 4) {f : Option (Int32 × T18)} (hf : f = (nx (f_X7_setMark 4000 (nI j) (w &&& 1) vCar vGoa vEag tN tF cN cF mP mS kCap kGap kCar kCop kGro kShr hX hC hR)).bind fun (r55, mP', mS', hX', hC', hR') => if 0 ≤ r55 then some (r55, vCar, vGoa, vEag, tN, tF, cN, cF, mP', mS', kCap, kGap, kCar, kCop, kGro, kShr, hX', hC', hR') else some (999, vCar, vGoa, vEag, tN, tF, cN, cF, mP', mS', kCap, kGap, kCar, kCop, kGro, kShr, hX', hC', hR')) : AOK B S s (gK j w s) f := by
  obtain ⟨b, hb, eb⟩ := pk_andE w (m := 1) 1 (by decide)
  have hs : w &&& 1 = 0 ∨ w &&& 1 = 1 := by
    rw [eb]
    rcases (show b = 0 ∨ b = 1 by omega) with rfl | rfl
    · exact Or.inl rfl
    · exact Or.inr rfl
  obtain ⟨s', mP', mS', hX', hC', hR', m1, m2, m3⟩ := a_mark G hS hj hs
  subst hf
  unfold gK
  rw [m1, m2]
  show AOK B S s (some (if 0 ≤ mP j then mP j else 999, some s')) (if 0 ≤ mP j then some (mP j, vCar, vGoa, vEag, tN, tF, cN, cF, mP', mS', kCap, kGap, kCar, kCop, kGro, kShr, hX', hC', hR') else some (999, vCar, vGoa, vEag, tN, tF, cN, cF, mP', mS', kCap, kGap, kCar, kCop, kGro, kShr, hX', hC', hR'))
  by_cases h : 0 ≤ mP j
  · rw [if_pos h, if_pos h]
    exact aok_yes (fun e => by rw [e] at h; exact absurd h (by decide)) m3
  · rw [if_neg h, if_neg h]
    exact aok_yes (by decide) m3
theorem by60 (G : GS B vCar vGoa vEag tN tF cN cF mP mS kCap kGap kCar kCop kGro kShr hX hC hR s S) {j : Nat} (hj : j < 4) (h : acBy (s (12 + j)) (s 1) ≤ 60) : ∃ p c, p ≤ 256 ∧ c ≤ 256 ∧ mP j = nI p ∧ vCar = nI c ∧ dst p c ≤ 60 := by
  obtain ⟨e1, m⟩ := g_mk G hj
  obtain ⟨c, hc, ec, es⟩ := g_car G
  rw [e1, es] at h
  rcases m with m | ⟨p, hp, m⟩
  · rw [m, by_m1] at h
    exact absurd h (by decide)
  · rw [m, ec, by_dst hp hc, l_60, nI_leI (by unfold dst; split <;> omega) (by omega)] at h
    exact ⟨p, c, hp, hc, m, ec, h⟩
theorem act_C (G : GS B vCar vGoa vEag tN tF cN cF mP mS kCap kGap kCar kCop kGro kShr hX hC hR s S) (hS : S.length ≤ 5) {j : Nat} (hj : j < 4) {f : Option (Int32 × T18)} (hf : f = if acBy (s (12 + j)) (s 1) ≤ 60 then (nx (f_X7_copy 4000 (nI j) vCar vGoa vEag tN tF cN cF mP mS kCap kGap kCar kCop kGro kShr hX hC hR)).bind fun (r, cN', cF', hX', hC', hR') => some (r, vCar, vGoa, vEag, tN, tF, cN', cF', mP, mS, kCap, kGap, kCar, kCop, kGro, kShr, hX', hC', hR') else some (-9, vCar, vGoa, vEag, tN, tF, cN, cF, mP, mS, kCap, kGap, kCar, kCop, kGro, kShr, hX, hC, hR)) : AOK B S s (if acBy (s (12 + j)) (s 1) ≤ 60 then gN (mCopy j s) else some (-9, none)) f := by
  subst hf
  by_cases h : acBy (s (12 + j)) (s 1) ≤ 60
  · rw [if_pos h, if_pos h]
    obtain ⟨p, c, hp, hc, em, ec, hd⟩ := by60 G hj h
    obtain ⟨r, s', _, _, _, _, _, m1, m2, m3, m4⟩ := a_copy G hS hj ec hc em hp hd
    rw [m1, m2]
    exact aok_yes (ne_m9 m4) m3
  · rw [if_neg h, if_neg h]
    exact aok_no G
theorem act_X (G : GS B vCar vGoa vEag tN tF cN cF mP mS kCap kGap kCar kCop kGro kShr hX hC hR s S) (hS : S.length ≤ 5) {j : Nat} (hj : j < 4) {f : Option (Int32 × T18)} (hf : f = if acBy (s (12 + j)) (s 1) ≤ 60 then (nx (f_X7_cut 4000 (nI j) vCar vGoa vEag tN tF cN cF mP mS kCap kGap kCar kCop kGro kShr hX hC hR)).bind fun (r, vCar', vGoa', tN', tF', cN', cF', mP', kCap', kGap', kCar', kCop', kShr', hX', hC', hR') => some (r, vCar', vGoa', vEag, tN', tF', cN', cF', mP', mS, kCap', kGap', kCar', kCop', kGro, kShr', hX', hC', hR') else some (-9, vCar, vGoa, vEag, tN, tF, cN, cF, mP, mS, kCap, kGap, kCar, kCop, kGro, kShr, hX, hC, hR)) : AOK B S s (if acBy (s (12 + j)) (s 1) ≤ 60 then gN (mCut j s) else some (-9, none)) f := by
  subst hf
  by_cases h : acBy (s (12 + j)) (s 1) ≤ 60
  · rw [if_pos h, if_pos h]
    obtain ⟨p, c, hp, hc, em, ec, hd⟩ := by60 G hj h
    obtain ⟨_, _, _, s', _, _, _, _, _, _, _, _, _, _, _, m1, m2, m3, -⟩ := a_cut G hS hj ec hc em hp hd
    rw [m1, m2]
    exact aok_yes (ne_m9 ⟨dst p c, by omega, rfl⟩) m3
  · rw [if_neg h, if_neg h]
    exact aok_no G
theorem act_P (G : GS B vCar vGoa vEag tN tF cN cF mP mS kCap kGap kCar kCop kGro kShr hX hC hR s S) (hS : S.length ≤ 5) {v w : Int32} {l : Nat} (el : cN = nI l) (hl : l ≤ 60) (hF : ∀ i, i < l → 0 ≤ cF i) : ∀ (N i : Nat), i ≤ l → l < N + i → AOK B S s (gP s) (f_L_act_l450 4000 v w N tN (nI i) vCar vGoa vEag tN tF cN cF mP mS kCap kGap kCar kCop kGro kShr hX hC hR) := by
  obtain ⟨n, hn, en, e0⟩ := g_tN G
  obtain ⟨c, hc, ec, es⟩ := g_car G
  obtain ⟨l', -, el', e10, -⟩ := g_clip G
  intro N
  induction N with
  | zero => intro i h1 h2; omega
  | succ N ih =>
    intro i h1 h2
    show AOK B S s (gP s) (f_L_act_b450 4000 v w (f_L_act_l450 4000 v w N) tN (nI i) vCar vGoa vEag tN tF cN cF mP mS kCap kGap kCar kCop kGro kShr hX hC hR)
    unfold f_L_act_b450
    rcases Nat.lt_or_ge i l with h | h
    · rw [el, x_clip h hl, Option.bind_some, if_neg (by rw [Int32.not_lt]; exact hF i h), kl, nI_1, ← el]
      exact ih (i + 1) (by omega) (by omega)
    · obtain rfl : i = l := by omega
      rw [el, x_clipE hl, Option.bind_some, if_pos (show (-1 : Int32) < 0 by decide), ← el]
      unfold gP
      rw [e10, e0, el]
      rcases Nat.eq_zero_or_pos i with hz | hz
      · subst hz
        rw [if_pos nI_0, if_pos nI_0, ← el]
        exact aok_no G
      · have h0 := n0_ne hz (by omega)
        rw [if_neg h0, if_neg h0]
        by_cases hr : tN + nI i ≤ 256
        · rw [if_pos hr, if_pos hr, ← el]
          obtain ⟨s', _, _, _, _, _, _, _, _, _, _, _, _, m1, m2, m3, -⟩ := a_paste G hS en hn ec hc el hl hz (by rw [en, nI_add, l_256, nI_leI (by omega) (by omega)] at hr; exact hr)
          rw [m1, m2]
          exact aok_yes (ne_m9 ⟨n + i, by omega, rfl⟩) m3
        · rw [if_neg hr, if_neg hr, ← el]
          exact aok_no G
theorem aM_pos {w : Int32} (h : ((w >>> (20 &&& 31)) &&& 1) = 0) : aM w = nI 9 := if_pos h
theorem aM_neg {w : Int32} (h : ¬ ((w >>> (20 &&& 31)) &&& 1) = 0) : aM w = nI 100 := if_neg h
theorem act_c90 (G : GS B vCar vGoa vEag tN tF cN cF mP mS kCap kGap kCar kCop kGro kShr hX hC hR s S) (hS : S.length ≤ 5) {v w x4 : Int32} {j k : Nat} (hj : j < 4) (hk : k < 16) (ek : v &&& 15 = nI k) (hp : f_X7_isByte 4000 x4 = some 1) (hp0 : 0 ≤ x4) : AOK B S s (gAj x4 j (acBy (s (12 + j)) (s 1)) w s k) (f_L_act_c90 4000 v w tN x4 (nI j) (acBy (s (12 + j)) (s 1)) vCar vGoa vEag tN tF cN cF mP mS kCap kGap kCar kCop kGro kShr hX hC hR) := by
  obtain ⟨l, hl, el, e10, hF⟩ := g_clip G
  unfold f_L_act_c90
  rw [ek]
  rcases (show k = 0 ∨ k = 1 ∨ k = 2 ∨ k = 3 ∨ k = 4 ∨ k = 5 ∨ k = 6 ∨ k = 7 ∨ k = 8 ∨ k = 9 ∨ k = 10 ∨ k = 11 ∨ k = 12 ∨ k = 13 ∨ k = 14 ∨ k = 15 by omega) with rfl | rfl | rfl | rfl | rfl | rfl | rfl | rfl | rfl | rfl | rfl | rfl | rfl | rfl | rfl | rfl
  · rw [if_pos (by decide)]
    exact act_T G hS hp hp0 rfl
  · rw [if_neg (by decide), if_pos (by decide)]
    exact act_T G hS hp hp0 rfl
  · rw [if_neg (by decide), if_neg (by decide), if_pos (by decide)]
    show AOK B S s (gF x4 (w >>> (4 &&& 31)) (aM w) s) _
    by_cases hb : ((w >>> (20 &&& 31)) &&& 1) = 0
    · rw [if_pos hb, aM_pos hb]
      exact act_c211 G hS (by omega) (by omega) hp hp0
    · rw [if_neg hb, aM_neg hb]
      exact act_c211 G hS (by omega) (by omega) hp hp0
  · rw [if_neg (by decide), if_neg (by decide), if_neg (by decide), if_pos (by decide)]
    show AOK B S s (gF x4 (w >>> (4 &&& 31)) (aM w) s) _
    by_cases hb : ((w >>> (20 &&& 31)) &&& 1) = 0
    · rw [if_pos hb, aM_pos hb]
      exact act_c211 G hS (by omega) (by omega) hp hp0
    · rw [if_neg hb, aM_neg hb]
      exact act_c211 G hS (by omega) (by omega) hp hp0
  · rw [if_neg (by decide), if_neg (by decide), if_neg (by decide), if_neg (by decide), if_pos (by decide)]
    show AOK B S s (gN (f_X8_erases 4000 (1 + LW w (aM w)) s)) _
    by_cases hb : ((w >>> (20 &&& 31)) &&& 1) = 0
    · rw [if_pos hb, aM_pos hb]
      exact act_E G hS (by omega) (by omega) rfl
    · rw [if_neg hb, aM_neg hb]
      exact act_E G hS (by omega) (by omega) rfl
  · rw [if_neg (by decide), if_neg (by decide), if_neg (by decide), if_neg (by decide), if_neg (by decide), if_pos (by decide)]
    show AOK B S s (gN (f_X8_backs 4000 (1 + LW w (aM w)) s)) _
    by_cases hb : ((w >>> (20 &&& 31)) &&& 1) = 0
    · rw [if_pos hb, aM_pos hb]
      exact act_B G hS (by omega) (by omega) rfl
    · rw [if_neg hb, aM_neg hb]
      exact act_B G hS (by omega) (by omega) rfl
  · rw [if_neg (by decide), if_neg (by decide), if_neg (by decide), if_neg (by decide), if_neg (by decide), if_neg (by decide), if_pos (by decide)]
    exact act_M G hS rfl
  · rw [if_neg (by decide), if_neg (by decide), if_neg (by decide), if_neg (by decide), if_neg (by decide), if_neg (by decide), if_neg (by decide), if_pos (by decide)]
    exact act_M G hS rfl
  · rw [if_neg (by decide), if_neg (by decide), if_neg (by decide), if_neg (by decide), if_neg (by decide), if_neg (by decide), if_neg (by decide), if_neg (by decide), if_pos (by decide)]
    exact act_Y G hS rfl
  · rw [if_neg (by decide), if_neg (by decide), if_neg (by decide), if_neg (by decide), if_neg (by decide), if_neg (by decide), if_neg (by decide), if_neg (by decide), if_neg (by decide), if_pos (by decide)]
    show AOK B S s (if (w &&& 1) = 0 then gN (mUp s) else gN (mDown s)) _
    by_cases hb : (w &&& 1) = 0
    · rw [if_pos hb, if_pos hb]
      obtain ⟨r, s', _, _, _, _, _, _, m1, m2, m3, m4⟩ := a_up G hS
      rw [m1, m2]
      exact aok_yes (ne_m9 m4) m3
    · rw [if_neg hb, if_neg hb]
      obtain ⟨r, s', _, _, _, _, _, _, m1, m2, m3, m4⟩ := a_down G hS
      rw [m1, m2]
      exact aok_yes (ne_m9 m4) m3
  · rw [if_neg (by decide), if_neg (by decide), if_neg (by decide), if_neg (by decide), if_neg (by decide), if_neg (by decide), if_neg (by decide), if_neg (by decide), if_neg (by decide), if_neg (by decide), if_pos (by decide)]
    show AOK B S s (if (w &&& 3) = 0 then gN (mEager (if ((w >>> (2 &&& 31)) &&& 1) = 0 then 1 else 0) s) else gN (mLine (if ((w >>> (2 &&& 31)) &&& 1) = 0 then 1 else 0) s)) _
    by_cases ha : (w &&& 3) = 0
    · rw [if_pos ha, if_pos ha]
      by_cases hb : ((w >>> (2 &&& 31)) &&& 1) = 0
      · rw [if_pos hb, if_pos hb]
        obtain ⟨r, s', _, _, _, _, _, _, m1, m2, m3, m4⟩ := a_eager G hS (p1 := 1) (Or.inr rfl)
        rw [m1, m2]
        exact aok_yes (ne_m9 m4) m3
      · rw [if_neg hb, if_neg hb]
        obtain ⟨r, s', _, _, _, _, _, _, m1, m2, m3, m4⟩ := a_eager G hS (p1 := 0) (Or.inl rfl)
        rw [m1, m2]
        exact aok_yes (ne_m9 m4) m3
    · rw [if_neg ha, if_neg ha]
      by_cases hb : ((w >>> (2 &&& 31)) &&& 1) = 0
      · rw [if_pos hb, if_pos hb]
        obtain ⟨r, s', _, _, _, _, _, _, _, m1, m2, m3, m4⟩ := a_line G hS (p1 := 1)
        rw [m1, m2]
        exact aok_yes (ne_m9 m4) m3
      · rw [if_neg hb, if_neg hb]
        obtain ⟨r, s', _, _, _, _, _, _, _, m1, m2, m3, m4⟩ := a_line G hS (p1 := 0)
        rw [m1, m2]
        exact aok_yes (ne_m9 m4) m3
  · rw [if_neg (by decide), if_neg (by decide), if_neg (by decide), if_neg (by decide), if_neg (by decide), if_neg (by decide), if_neg (by decide), if_neg (by decide), if_neg (by decide), if_neg (by decide), if_neg (by decide), if_pos (by decide)]
    exact act_K G hS hj rfl
  · rw [if_neg (by decide), if_neg (by decide), if_neg (by decide), if_neg (by decide), if_neg (by decide), if_neg (by decide), if_neg (by decide), if_neg (by decide), if_neg (by decide), if_neg (by decide), if_neg (by decide), if_neg (by decide), if_pos (by decide)]
    exact act_K G hS hj rfl
  · rw [if_neg (by decide), if_neg (by decide), if_neg (by decide), if_neg (by decide), if_neg (by decide), if_neg (by decide), if_neg (by decide), if_neg (by decide), if_neg (by decide), if_neg (by decide), if_neg (by decide), if_neg (by decide), if_neg (by decide), if_pos (by decide)]
    exact act_C G hS hj rfl
  · rw [if_neg (by decide), if_neg (by decide), if_neg (by decide), if_neg (by decide), if_neg (by decide), if_neg (by decide), if_neg (by decide), if_neg (by decide), if_neg (by decide), if_neg (by decide), if_neg (by decide), if_neg (by decide), if_neg (by decide), if_neg (by decide), if_pos (by decide)]
    exact act_X G hS hj rfl
  · rw [if_neg (by decide), if_neg (by decide), if_neg (by decide), if_neg (by decide), if_neg (by decide), if_neg (by decide), if_neg (by decide), if_neg (by decide), if_neg (by decide), if_neg (by decide), if_neg (by decide), if_neg (by decide), if_neg (by decide), if_neg (by decide), if_neg (by decide), if_pos (by decide)]
    exact act_P G hS el hl hF 4000 0 (by omega) (by omega)
theorem code_ok (w : Int32) : f_X7_isByte 4000 (aCode w) = some 1 ∧ 0 ≤ aCode w := by
  unfold aCode
  by_cases h : (w &&& 3) = 0
  · rw [if_pos h]
    exact ⟨q_byte (Or.inl rfl), by decide⟩
  · rw [if_neg h]
    obtain ⟨j, hj, ej⟩ := lw_in (w >>> (2 &&& 31)) (m := 4) (by omega) (by omega)
    rw [l_4, ej, show (97 : Int32) = nI 97 from rfl, nI_add]
    exact ⟨q_byte (Or.inr ⟨nI_nlt (b := 32) (by omega) (by omega), nI_nlt (a := 126) (by omega) (by omega)⟩), nI_pos' (by omega)⟩
theorem act_ok (G : GS B vCar vGoa vEag tN tF cN cF mP mS kCap kGap kCar kCop kGro kShr hX hC hR s S) (hS : S.length ≤ 5) (v w : Int32) : AOK B S s (gA v w s) (f_L_act 4000 v w vCar vGoa vEag tN tF cN cF mP mS kCap kGap kCar kCop kGro kShr hX hC hR) := by
  obtain ⟨k, hk, ek⟩ := pk_andE v (m := 15) 4 (by decide)
  obtain ⟨j, hj, ej⟩ := lw_in (v >>> (4 &&& 31)) (m := 4) (by omega) (by omega)
  obtain ⟨c1, c2⟩ := code_ok w
  obtain ⟨e1, m⟩ := g_mk G hj
  obtain ⟨c, hc, ec, es⟩ := g_car G
  have ej' : LW (v >>> (4 &&& 31)) 4 = nI j := ej
  have key := act_c90 (v := v) (w := w) G hS hj (by omega) ek c1 c2
  have g1 : gA v w s = gAj (aCode w) j (acBy (s (12 + j)) (s 1)) w s k := by
    unfold gA
    rw [ek, ej', nI_clamp (by omega), nI_clamp (by omega)]
  have h26 : f_L_act_c26 4000 v w tN (aCode w) vCar vGoa vEag tN tF cN cF mP mS kCap kGap kCar kCop kGro kShr hX hC hR = f_L_act_c90 4000 v w tN (aCode w) (nI j) (acBy (s (12 + j)) (s 1)) vCar vGoa vEag tN tF cN cF mP mS kCap kGap kCar kCop kGro kShr hX hC hR := by
    unfold f_L_act_c26 f_X7_caret
    rw [show f_L_low 4000 (v >>> (4 &&& 31)) 4 = some (LW (v >>> (4 &&& 31)) 4) from q_low (m := 4) (by omega) (by omega), Option.bind_some, ej', x_mark hj, Option.bind_some, e1, es]
    unfold acBy
    by_cases h : 0 ≤ mP j
    · rw [if_pos h, if_pos h, Option.bind_some, Option.bind_some]
      by_cases h2 : vCar ≤ mP j
      · rw [if_pos h2, if_pos h2, Option.bind_some, Option.bind_some]
      · rw [if_neg h2, if_neg h2, Option.bind_some, Option.bind_some]
    · rw [if_neg h, if_neg h]
  have hA : f_L_act 4000 v w vCar vGoa vEag tN tF cN cF mP mS kCap kGap kCar kCop kGro kShr hX hC hR = f_L_act_c26 4000 v w tN (aCode w) vCar vGoa vEag tN tF cN cF mP mS kCap kGap kCar kCop kGro kShr hX hC hR := by
    unfold f_L_act f_X7_length f_X0_size aCode
    rw [Option.bind_some, Option.bind_some]
    by_cases h : (w &&& 3) = 0
    · rw [if_pos h, if_pos h]
    · rw [if_neg h, if_neg h, show f_L_low 4000 (w >>> (2 &&& 31)) 4 = some (LW (w >>> (2 &&& 31)) 4) from q_low (m := 4) (by omega) (by omega), Option.bind_some]
  rw [g1, hA, h26]
  exact key
end ACT
