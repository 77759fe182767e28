-- ===== the reference's insertion, whole =====
theorem r_exit {Z c k n : Nat} {rec : Int32 → Int32 → (Nat → Int32) → Option (Nat → Int32)} {aBy s : Nat → Int32} (hZ : 300 ≤ Z) (e0 : s 0 = nI n) (hc : c ≤ n) (hn : n + k ≤ 256) : ∃ s', f_X8_inserts_b117 Z (nI k) aBy rec (nI c) (nI k) s = some s' ∧ s' 0 = nI (n + k) ∧ s' 1 = nI (c + k) ∧ s' 2 = nI (c + k) ∧ s' 8 = nI (c + k - lb (tx s) (c + k)) ∧ (∀ i, (i = 3 ∨ i = 4 ∨ i = 5 ∨ i = 6 ∨ i = 7 ∨ i = 9 ∨ i = 10 ∨ 16 ≤ i) → s' i = s i) ∧ (∀ m, m < 4 → s' (12 + m) = mI c k (s (12 + m)) (s (16 + m))) := by
  obtain ⟨s1, i1, i2⟩ := r_marks (Z := Z) (c := c) (k := k) (by omega) Z 0 (upd s 0 (nI (n + k))) (by omega) (by omega)
  have hlb : lb (tx (upd (upd s1 1 (nI (c + k))) 2 (nI (c + k)))) (c + k) = lb (tx s) (c + k) := lb_congr _ (fun i hi => by
    show upd (upd s1 1 (nI (c + k))) 2 (nI (c + k)) (80 + i) = s (80 + i)
    rw [pk_un (by omega), pk_un (by omega), i2, if_neg (by omega), pk_un (by omega)])
  refine ⟨upd (upd (upd s1 1 (nI (c + k))) 2 (nI (c + k))) 8 (nI (c + k - lb (tx s) (c + k))), ?_, ?_, ?_, ?_, ?_, ?_, ?_⟩
  · unfold f_X8_inserts_b117
    rw [if_pos (nI_le (Nat.le_refl _) (by omega))]
    unfold f_X8_movesMarks
    simp (disch := omega) only [l_0, l_1, l_2, l_3, l_4, l_5, l_6, l_7, l_8, l_9, l_10, l_12, l_16, l_20, l_80, l_60, nI_add, pk_mul, pk_sub, z_rd, nI_clamp, z_le, z_lt, z_eq, kl, Option.bind_some, pk_us, pk_un, upd_e, e0, i1]
    rw [r_goal (c := c + k) (by omega) (by rw [pk_un (by omega), pk_us]) (by omega), Option.bind_some, hlb]
  · rw [pk_un (by omega), pk_un (by omega), pk_un (by omega), i2, if_neg (by omega), pk_us]
  · rw [pk_un (by omega), pk_un (by omega), pk_us]
  · rw [pk_un (by omega), pk_us]
  · rw [pk_us]
  · intro i hi
    rw [pk_un (by omega), pk_un (by omega), pk_un (by omega), i2, if_neg (by omega), pk_un (by omega)]
  · intro m hm
    rw [pk_un (by omega), pk_un (by omega), pk_un (by omega), i2, if_pos (by omega), pk_un (by omega), pk_un (by omega), show 12 + m + 4 = 16 + m by omega]
def insT (c k : Nat) (F B : Nat → Int32) (i : Nat) : Int32 := if i < c then F i else if i < c + k then B (i - c) else F (i - k)
theorem r_inserts {Z n c g q cp l k : Nat} {e : Int32} {tF cF mP mS : Nat → Int32} {kCar kCop kGro kShr : Int32} {aBy s : Nat → Int32} (hZ : 300 ≤ Z) (h : RN n c g q cp l e tF cF mP mS kCar kCop kGro kShr s) (hk : k ≤ 100) (hn : n + k ≤ 256) : ∃ s', f_X8_inserts Z (nI k) s aBy = some s' ∧ s' 0 = nI (n + k) ∧ s' 1 = nI (c + k) ∧ s' 2 = nI (c + k) ∧ s' 3 = nI (gC 5 cp n k) ∧ s' 4 = kCar + nI (dst c g) ∧ s' 5 = kCop + nI (gT 5 cp n k * n) ∧ s' 6 = kGro + nI (gT 5 cp n k) ∧ s' 7 = kShr ∧ s' 8 = nI (c + k - lb (tx s') (c + k)) ∧ s' 9 = e ∧ s' 10 = nI l ∧ (∀ m, m < 4 → s' (12 + m) = mI c k (mP m) (mS m) ∧ s' (16 + m) = mS m) ∧ (∀ i, i < n + k → s' (80 + i) = insT c k tF aBy i) ∧ (∀ i, i < l → s' (20 + i) = cF i) := by
  obtain ⟨⟨hb1, hb2, hb3, hb4, hb5, hb6, hb7⟩, he, ⟨e0, e1, e2, e3, e4, e5, e6, e7, e8, e9, e10⟩, hm, ht, hcl⟩ := h
  have h8 := cap_in hb7
  obtain ⟨s1, a1, a2, a3, a4, a5⟩ := r_grow (Z := Z) (n := n) (k := k) (x1 := nI c) (aBy := aBy) hn 5 Z cp (upd (upd s 4 (s 4 + nI (dst c g))) 2 (nI c)) (by omega) hb7 hb6 (by omega) e0 e3
  obtain ⟨s2, b1, b2⟩ := r_up (Z := Z) (c := c) (k := k) (aBy := aBy) Z n s1 hb2 (by omega) hn
  obtain ⟨s3, rec, c1, c2⟩ := r_put (Z := Z) (c := c) (k := k) (n := n) (aBy := aBy) hk hb2 hn Z 0 s2 (by omega) (by omega)
  have lo : ∀ i, i < 80 → s3 i = s1 i := fun i hi => by rw [c2, if_neg (by omega), b2, if_neg (by omega)]
  have s1h : ∀ i, 8 ≤ i → s1 i = s i := fun i hi => by rw [a5 i (by omega) (by omega) (by omega), pk_un (by omega), pk_un (by omega)]
  have s1l : ∀ i, (i = 0 ∨ i = 1 ∨ i = 7) → s1 i = s i := fun i hi => by rw [a5 i (by omega) (by omega) (by omega), pk_un (by omega), pk_un (by omega)]
  obtain ⟨s4, d1, d2, d3, d4, d5, d6, d7⟩ := r_exit (Z := Z) (c := c) (k := k) (n := n) (rec := rec) (aBy := aBy) (s := s3) hZ (by rw [lo 0 (by omega), s1l 0 (by omega), e0]) hb2 hn
  refine ⟨s4, ?_, d2, d3, d4, ?_, ?_, ?_, ?_, ?_, ?_, ?_, ?_, fun m hm' => ⟨?_, ?_⟩, fun i hi => ?_, fun i hi => ?_⟩
  · unfold f_X8_inserts
    rw [rd_1, tn_1, e1, kl, r_movesGap e2 (by omega) (by omega), Option.bind_some]
    show f_X8_inserts_l13 Z (nI k) aBy Z (nI c) _ = _
    rw [a1, b1]
    show f_X8_inserts_l117 Z (nI k) aBy Z (nI c) (nI 0) s2 = _
    rw [c1, d1]
  · rw [d6 3 (by omega), lo 3 (by omega), a2]
  · rw [d6 4 (by omega), lo 4 (by omega), a5 4 (by omega) (by omega) (by omega), pk_un (by omega), pk_us, e4]
  · rw [d6 5 (by omega), lo 5 (by omega), a3, pk_un (by omega), pk_un (by omega), e5]
  · rw [d6 6 (by omega), lo 6 (by omega), a4, pk_un (by omega), pk_un (by omega), e6]
  · rw [d6 7 (by omega), lo 7 (by omega), s1l 7 (by omega), e7]
  · rw [d5]
    exact congrArg (fun x => nI (c + k - x)) (lb_congr _ (fun i hi => (d6 (80 + i) (by omega)).symm))
  · rw [d6 9 (by omega), lo 9 (by omega), s1h 9 (by omega), e9]
  · rw [d6 10 (by omega), lo 10 (by omega), s1h 10 (by omega), e10]
  · rw [d7 m hm', lo _ (by omega), lo _ (by omega), s1h _ (by omega), s1h _ (by omega), (hm m hm').1, (hm m hm').2.1]
  · rw [d6 (16 + m) (by omega), lo _ (by omega), s1h _ (by omega), (hm m hm').2.1]
  · rw [d6 (80 + i) (by omega), c2]
    unfold insT
    by_cases x : i < c
    · rw [if_neg (by omega), b2, if_neg (by omega), if_pos x, s1h _ (by omega), ht i (by omega)]
    · rw [if_neg x]
      by_cases y : i < c + k
      · rw [if_pos (by omega), if_pos y, show 80 + i - 80 - c = i - c by omega]
      · rw [if_neg (by omega), if_neg y, b2, if_pos (by omega), s1h _ (by omega), show 80 + i - k = 80 + (i - k) by omega, ht _ (by omega)]
  · rw [d6 (20 + i) (by omega), lo _ (by omega), s1h _ (by omega), hcl i hi]
-- ===== the class's insertion, whole =====
theorem q_openSpace {Z n c g cp k : Nat} {tF mP mS : Nat → Int32} {kCar kCop kGro : Int32} (hZ : 300 ≤ Z) (hc : c ≤ n) (hg : g ≤ n) (hn : n + k ≤ 256) (h3 : CAP cp) (h4 : n ≤ cp) : ∃ mP', (∀ m, m < 4 → mP' m = mI c k (mP m) (mS m)) ∧ f_X6_openSpace Z (nI k) (nI c) (nI n) tF mP mS (nI cp) (nI g) kCar kCop kGro = some (nI c, nI (c + k), nI (n + k), va_cpy tF tF c (c + k) (n - c), mP', nI (gC 5 cp n k), nI (c + k), kCar + nI (dst c g), kCop + nI (gT 5 cp n k * n), kGro + nI (gT 5 cp n k)) := by
  obtain ⟨mP', i1, i2⟩ := q_marks (Z := Z) (c := c) (k := k) (mS := mS) (by omega) Z 0 mP (by omega) (by omega)
  refine ⟨mP', fun m hm => by rw [i2 m hm, if_pos (by omega)], ?_⟩
  unfold f_X6_openSpace f_X0_size f_X4_shiftForInsertion
  rw [Option.bind_some, q_insertAt hZ (by omega) (by omega) hn h3 h4, Option.bind_some]
  show (f_X4_shiftForInsertion_l2 Z (nI c) (nI k) mS Z (nI 0) mP).bind _ = _
  rw [i1, Option.bind_some, q_open (by omega) hc (by omega), Option.bind_some]
  dsimp only [kl]
  rw [nI_add]
def insF (c k n : Nat) (F B : Nat → Int32) : Nat → Int32 := fun j => if c ≤ j ∧ j < c + k then B (j - c) else va_cpy F F c (c + k) (n - c) j
theorem ins_txt {c k n : Nat} {F B : Nat → Int32} (hc : c ≤ n) : ∀ i, i < n + k → insF c k n F B i = insT c k F B i := fun i hi => by
  unfold insF insT
  by_cases x : i < c
  · rw [if_neg (by omega), if_pos x, pk_cpy_out (by omega)]
  · rw [if_neg x]
    by_cases y : i < c + k
    · rw [if_pos (by omega), if_pos y]
    · rw [if_neg (by omega), if_neg y, pk_cpy_in (by omega) (by omega), show c + (i - (c + k)) = i - k by omega]
theorem put_eq {c k i : Nat} {F B : Nat → Int32} (hi : i < k) : (fun j => if c + (i + 1) ≤ j ∧ j < c + k then B (j - c) else upd F (c + i) (B i) j) = fun j => if c + i ≤ j ∧ j < c + k then B (j - c) else F j := by
  funext j
  unfold upd
  by_cases a : j = c + i
  · subst a
    rw [if_neg (by omega), if_pos rfl, if_pos (by omega), show c + i - c = i by omega]
  · by_cases b : c + (i + 1) ≤ j ∧ j < c + k
    · rw [if_pos b, if_pos (by omega)]
    · rw [if_neg b, if_neg a, if_neg (by omega)]
theorem put_end {c k : Nat} {F B : Nat → Int32} : (fun j => if c + k ≤ j ∧ j < c + k then B (j - c) else F j) = F := by
  funext j
  rw [if_neg (by omega)]
theorem q_putR {Z c k n : Nat} {p1 vC vG : Int32} {mS mP : Nat → Int32} {kCap kGap kCar kCop kGro : Int32} (hc : c + k ≤ n) (hn : n ≤ 256) : ∀ (N i : Nat) (F : Nat → Int32), i ≤ k → k < N + i → f_X6_insertRepeated_l9 Z p1 (nI k) mS N (nI c) (nI i) vC vG (nI n) F mP kCap kGap kCar kCop kGro = (f_X6_caretColumn Z vC (nI n) (fun j => if c + i ≤ j ∧ j < c + k then p1 else F j)).bind fun r2 => some (vC, r2, nI n, (fun j => if c + i ≤ j ∧ j < c + k then p1 else F j), mP, kCap, kGap, kCar, kCop, kGro) := by
  intro N
  induction N with
  | zero => intro i F h1 h2; omega
  | succ N ih =>
    intro i F h1 h2
    show f_X6_insertRepeated_b9 Z p1 (nI k) mS _ (nI c) (nI i) vC vG (nI n) F mP kCap kGap kCar kCop kGro = _
    unfold f_X6_insertRepeated_b9
    rcases Nat.lt_or_ge i k with h | h
    · rw [if_neg (nI_ge h (by omega)), nI_add, q_put (by omega) (by omega) (by omega), Option.bind_some, kl, nI_1, ih (i + 1) _ (by omega) (by omega), put_eq (B := fun _ => p1) h]
    · obtain rfl : i = k := by omega
      rw [if_pos (nI_le (Nat.le_refl _) (by omega)), put_end (B := fun _ => p1)]
theorem q_insR {Z n c g cp k : Nat} {p1 vG : Int32} {tF mP mS : Nat → Int32} {kCar kCop kGro : Int32} (hZ : 300 ≤ Z) (hc : c ≤ n) (hg : g ≤ n) (hn : n + k ≤ 256) (h3 : CAP cp) (h4 : n ≤ cp) : ∃ mP', (∀ m, m < 4 → mP' m = mI c k (mP m) (mS m)) ∧ f_X6_insertRepeated Z p1 (nI k) (nI c) vG (nI n) tF mP mS (nI cp) (nI g) kCar kCop kGro = some (nI (c + k), nI (c + k - lb (insF c k n tF (fun _ => p1)) (c + k)), nI (n + k), insF c k n tF (fun _ => p1), mP', nI (gC 5 cp n k), nI (c + k), kCar + nI (dst c g), kCop + nI (gT 5 cp n k * n), kGro + nI (gT 5 cp n k)) := by
  obtain ⟨mP', i1, i2⟩ := q_openSpace (Z := Z) (tF := tF) (mP := mP) (mS := mS) (kCar := kCar) (kCop := kCop) (kGro := kGro) hZ hc hg hn h3 h4
  refine ⟨mP', i1, ?_⟩
  unfold f_X6_insertRepeated
  rw [i2, Option.bind_some]
  show f_X6_insertRepeated_l9 Z p1 (nI k) mS Z (nI c) (nI 0) (nI (c + k)) vG (nI (n + k)) _ mP' _ _ _ _ _ = _
  rw [q_putR (by omega) (by omega) Z 0 _ (by omega) (by omega)]
  show (f_X6_caretColumn Z (nI (c + k)) (nI (n + k)) (insF c k n tF (fun _ => p1))).bind _ = _
  rw [q_col (by omega) (by omega) (by omega), Option.bind_some]
  rfl
theorem q_putP {Z c k n p o Lo : Nat} {vC vG : Int32} {G mS mP : Nat → Int32} {kCap kGap kCar kCop kGro : Int32} (hc : c + k ≤ n) (hn : n ≤ 256) (hp : p + k ≤ o) (ho : o ≤ Lo) (hLo : Lo < 2 ^ 30) : ∀ (N i : Nat) (F : Nat → Int32), i ≤ k → k < N + i → f_X6_insertPart_l10 Z (nI p) (nI k) Lo mS (nI o) G N (nI c) (nI i) vC vG (nI n) F mP kCap kGap kCar kCop kGro = (f_X6_caretColumn Z vC (nI n) (fun j => if c + i ≤ j ∧ j < c + k then G (p + (j - c)) else F j)).bind fun r2 => some (vC, r2, nI n, (fun j => if c + i ≤ j ∧ j < c + k then G (p + (j - c)) else F j), mP, kCap, kGap, kCar, kCop, kGro) := by
  intro N
  induction N with
  | zero => intro i F h1 h2; omega
  | succ N ih =>
    intro i F h1 h2
    show f_X6_insertPart_b10 Z (nI p) (nI k) Lo mS (nI o) G _ (nI c) (nI i) vC vG (nI n) F mP kCap kGap kCar kCop kGro = _
    unfold f_X6_insertPart_b10
    rcases Nat.lt_or_ge i k with h | h
    · rw [if_neg (nI_ge h (by omega)), nI_add, q_at (by omega) ho (by omega), Option.bind_some, nI_add, q_put (by omega) (by omega) (by omega), Option.bind_some, kl, nI_1, ih (i + 1) _ (by omega) (by omega), put_eq (B := fun j => G (p + j)) h]
    · obtain rfl : i = k := by omega
      rw [if_pos (nI_le (Nat.le_refl _) (by omega)), put_end (B := fun j => G (p + j))]
theorem q_insP {Z n c g cp k p o Lo : Nat} {vG : Int32} {G tF mP mS : Nat → Int32} {kCar kCop kGro : Int32} (hZ : 300 ≤ Z) (hc : c ≤ n) (hg : g ≤ n) (hn : n + k ≤ 256) (h3 : CAP cp) (h4 : n ≤ cp) (hp : p + k ≤ o) (ho : o ≤ Lo) (hLo : Lo < 2 ^ 30) : ∃ mP', (∀ m, m < 4 → mP' m = mI c k (mP m) (mS m)) ∧ f_X6_insertPart Z (nI p) (nI k) Lo (nI c) vG (nI n) tF mP mS (nI cp) (nI g) kCar kCop kGro (nI o) G = some (nI (c + k), nI (c + k - lb (insF c k n tF (fun j => G (p + j))) (c + k)), nI (n + k), insF c k n tF (fun j => G (p + j)), mP', nI (gC 5 cp n k), nI (c + k), kCar + nI (dst c g), kCop + nI (gT 5 cp n k * n), kGro + nI (gT 5 cp n k)) := by
  obtain ⟨mP', i1, i2⟩ := q_openSpace (Z := Z) (tF := tF) (mP := mP) (mS := mS) (kCar := kCar) (kCop := kCop) (kGro := kGro) hZ hc hg hn h3 h4
  refine ⟨mP', i1, ?_⟩
  unfold f_X6_insertPart
  rw [i2, Option.bind_some]
  show f_X6_insertPart_l10 Z (nI p) (nI k) Lo mS (nI o) G Z (nI c) (nI 0) (nI (c + k)) vG (nI (n + k)) _ mP' _ _ _ _ _ = _
  rw [q_putP (by omega) (by omega) hp ho hLo Z 0 _ (by omega) (by omega)]
  show (f_X6_caretColumn Z (nI (c + k)) (nI (n + k)) (insF c k n tF (fun j => G (p + j)))).bind _ = _
  rw [q_col (by omega) (by omega) (by omega), Option.bind_some]
  rfl
theorem ps_l {Z : Nat} {p2 p3 cN : Int32} {cF mS : Nat → Int32} : ∀ (N : Nat) (x4 x5 vCar vGoa tN : Int32) (tF mP : Nat → Int32) (kCap kGap kCar kCop kGro : Int32), f_X6_insertPart_s_l10 Z p2 p3 cN cF mS N x4 x5 vCar vGoa tN tF mP kCap kGap kCar kCop kGro = f_X6_insertPart_l10 Z p2 p3 60 mS cN cF N x4 x5 vCar vGoa tN tF mP kCap kGap kCar kCop kGro := by
  intro N
  induction N with
  | zero => intros; rfl
  | succ N ih =>
    intros
    show f_X6_insertPart_s_b10 Z p2 p3 cN cF mS _ _ _ _ _ _ _ _ _ _ _ _ _ = f_X6_insertPart_b10 Z p2 p3 60 mS cN cF _ _ _ _ _ _ _ _ _ _ _ _ _
    unfold f_X6_insertPart_s_b10 f_X6_insertPart_b10
    simp only [ih]
theorem ps_eq {Z : Nat} {p2 p3 vCar vGoa tN cN : Int32} {tF cF mP mS : Nat → Int32} {kCap kGap kCar kCop kGro : Int32} : f_X6_insertPart_s Z p2 p3 vCar vGoa tN tF cN cF mP mS kCap kGap kCar kCop kGro = f_X6_insertPart Z p2 p3 60 vCar vGoa tN tF mP mS kCap kGap kCar kCop kGro cN cF := by
  unfold f_X6_insertPart_s f_X6_insertPart
  simp only [ps_l]
-- ===== both =====
theorem mI_in {n c k : Nat} {v sd : Int32} (hn : n + k ≤ 256) (hc : c ≤ n) (h : v = -1 ∨ ∃ p, p ≤ n ∧ v = nI p) : mI c k v sd = -1 ∨ ∃ p, p ≤ n + k ∧ mI c k v sd = nI p := by
  rcases h with rfl | ⟨p, hp, rfl⟩
  · exact Or.inl (mI_m1 (by omega))
  · refine Or.inr ?_
    unfold mI
    split
    · exact ⟨p + k, by omega, nI_add p k⟩
    · exact ⟨p, by omega, rfl⟩
theorem rn_ins {n c g q cp l k : Nat} {e : Int32} {tF cF mP mS mP' B aBy : Nat → Int32} {kCar kCop kGro kShr : Int32} {s s' : Nat → Int32} (h : RN n c g q cp l e tF cF mP mS kCar kCop kGro kShr s) (hn : n + k ≤ 256) (hB : ∀ i, i < k → aBy i = B i) (hM : ∀ m, m < 4 → mP' m = mI c k (mP m) (mS m))
    (hs : s' 0 = nI (n + k) ∧ s' 1 = nI (c + k) ∧ s' 2 = nI (c + k) ∧ s' 3 = nI (gC 5 cp n k) ∧ s' 4 = kCar + nI (dst c g) ∧ s' 5 = kCop + nI (gT 5 cp n k * n) ∧ s' 6 = kGro + nI (gT 5 cp n k) ∧ s' 7 = kShr ∧ s' 8 = nI (c + k - lb (tx s') (c + k)) ∧ s' 9 = e ∧ s' 10 = nI l ∧ (∀ m, m < 4 → s' (12 + m) = mI c k (mP m) (mS m) ∧ s' (16 + m) = mS m) ∧ (∀ i, i < n + k → s' (80 + i) = insT c k tF aBy i) ∧ (∀ i, i < l → s' (20 + i) = cF i)) :
    RN (n + k) (c + k) (c + k) (c + k - lb (insF c k n tF B) (c + k)) (gC 5 cp n k) l e (insF c k n tF B) cF mP' mS (kCar + nI (dst c g)) (kCop + nI (gT 5 cp n k * n)) (kGro + nI (gT 5 cp n k)) kShr s' := by
  obtain ⟨⟨hb1, hb2, hb3, hb4, hb5, hb6, hb7⟩, he, -, hm, -, -⟩ := h
  obtain ⟨e0, e1, e2, e3, e4, e5, e6, e7, e8, e9, e10, hm', ht', hcl'⟩ := hs
  have h8 := cap_in hb7
  obtain ⟨g1, g2⟩ := g_ok hn 5 cp hb7 (by omega)
  have hT : ∀ i, i < n + k → s' (80 + i) = insF c k n tF B i := fun i hi => by
    rw [ht' i hi, ins_txt hb2 i hi]
    unfold insT
    by_cases x : i < c
    · rw [if_pos x, if_pos x]
    · rw [if_neg x, if_neg x]
      by_cases y : i < c + k
      · rw [if_pos y, if_pos y, hB _ (by omega)]
      · rw [if_neg y, if_neg y]
  refine ⟨⟨hn, by omega, by omega, by omega, hb5, g2, g1⟩, he, ⟨e0, e1, e2, e3, e4, e5, e6, e7, ?_, e9, e10⟩, fun m hm2 => ⟨?_, (hm' m hm2).2, ?_⟩, hT, hcl'⟩
  · rw [e8]
    exact congrArg (fun x => nI (c + k - x)) (lb_congr _ (fun i hi => hT i (by omega)))
  · rw [(hm' m hm2).1, hM m hm2]
  · rw [hM m hm2]
    exact mI_in hn hb2 (hm m hm2).2.2

