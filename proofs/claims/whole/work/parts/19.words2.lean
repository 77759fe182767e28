abbrev StT : Type := Int32 × Int32 × Int32 × Int32 × (Nat → Int32) × Int32 × (Nat → Int32) × (Nat → Int32) × (Nat → Int32) × Int32 × Int32 × Int32 × Int32 × Int32 × Int32
abbrev s_vCar (σ : StT) : Int32 := σ.1
abbrev s_vGoa (σ : StT) : Int32 := σ.2.1
abbrev s_vEag (σ : StT) : Int32 := σ.2.2.1
abbrev s_tN (σ : StT) : Int32 := σ.2.2.2.1
abbrev s_tF (σ : StT) : Nat → Int32 := σ.2.2.2.2.1
abbrev s_cN (σ : StT) : Int32 := σ.2.2.2.2.2.1
abbrev s_cF (σ : StT) : Nat → Int32 := σ.2.2.2.2.2.2.1
abbrev s_mP (σ : StT) : Nat → Int32 := σ.2.2.2.2.2.2.2.1
abbrev s_mS (σ : StT) : Nat → Int32 := σ.2.2.2.2.2.2.2.2.1
abbrev s_kCap (σ : StT) : Int32 := σ.2.2.2.2.2.2.2.2.2.1
abbrev s_kGap (σ : StT) : Int32 := σ.2.2.2.2.2.2.2.2.2.2.1
abbrev s_kCar (σ : StT) : Int32 := σ.2.2.2.2.2.2.2.2.2.2.2.1
abbrev s_kCop (σ : StT) : Int32 := σ.2.2.2.2.2.2.2.2.2.2.2.2.1
abbrev s_kGro (σ : StT) : Int32 := σ.2.2.2.2.2.2.2.2.2.2.2.2.2.1
abbrev s_kShr (σ : StT) : Int32 := σ.2.2.2.2.2.2.2.2.2.2.2.2.2.2
def rowsA (hh : Nat → Nat) : Nat → Option Nat := va_up (va_up (va_up (va_up (va_up (va_up (fun _ => none) 0 (some (hh 2))) 1 (some (hh 11))) 2 (some (hh 20))) 3 (some (hh 29))) 4 (some (hh 38))) 5 (some (hh 47))
abbrev wX2h (cS : ClassId) (hh : Nat → Nat) (hX hC : Int32) : va_W := [(hh 0, .inr (2, [.ref (hh 1), .int hX, .int hC])), (hh 1, .inl (cS, 6, .inr (.inr (.inr (.inr (rowsA hh))))))]
abbrev wX2t (cI cS : ClassId) (hh : Nat → Nat) (hX hC : Int32) (hR : Nat → StT) (T : va_W) : va_W := wX2h cS hh hX hC ++ (wX6 cI (hh 2) (hh 3) (hh 4) (hh 5) (hh 6) (hh 7) (hh 8) (hh 9) (hh 10) (s_vCar (hR 0)) (s_vGoa (hR 0)) (s_vEag (hR 0)) (s_tN (hR 0)) (s_tF (hR 0)) (s_cN (hR 0)) (s_cF (hR 0)) (s_mP (hR 0)) (s_mS (hR 0)) (s_kCap (hR 0)) (s_kGap (hR 0)) (s_kCar (hR 0)) (s_kCop (hR 0)) (s_kGro (hR 0)) (s_kShr (hR 0)) ++ (wX6 cI (hh 11) (hh 12) (hh 13) (hh 14) (hh 15) (hh 16) (hh 17) (hh 18) (hh 19) (s_vCar (hR 1)) (s_vGoa (hR 1)) (s_vEag (hR 1)) (s_tN (hR 1)) (s_tF (hR 1)) (s_cN (hR 1)) (s_cF (hR 1)) (s_mP (hR 1)) (s_mS (hR 1)) (s_kCap (hR 1)) (s_kGap (hR 1)) (s_kCar (hR 1)) (s_kCop (hR 1)) (s_kGro (hR 1)) (s_kShr (hR 1)) ++ (wX6 cI (hh 20) (hh 21) (hh 22) (hh 23) (hh 24) (hh 25) (hh 26) (hh 27) (hh 28) (s_vCar (hR 2)) (s_vGoa (hR 2)) (s_vEag (hR 2)) (s_tN (hR 2)) (s_tF (hR 2)) (s_cN (hR 2)) (s_cF (hR 2)) (s_mP (hR 2)) (s_mS (hR 2)) (s_kCap (hR 2)) (s_kGap (hR 2)) (s_kCar (hR 2)) (s_kCop (hR 2)) (s_kGro (hR 2)) (s_kShr (hR 2)) ++ (wX6 cI (hh 29) (hh 30) (hh 31) (hh 32) (hh 33) (hh 34) (hh 35) (hh 36) (hh 37) (s_vCar (hR 3)) (s_vGoa (hR 3)) (s_vEag (hR 3)) (s_tN (hR 3)) (s_tF (hR 3)) (s_cN (hR 3)) (s_cF (hR 3)) (s_mP (hR 3)) (s_mS (hR 3)) (s_kCap (hR 3)) (s_kGap (hR 3)) (s_kCar (hR 3)) (s_kCop (hR 3)) (s_kGro (hR 3)) (s_kShr (hR 3)) ++ (wX6 cI (hh 38) (hh 39) (hh 40) (hh 41) (hh 42) (hh 43) (hh 44) (hh 45) (hh 46) (s_vCar (hR 4)) (s_vGoa (hR 4)) (s_vEag (hR 4)) (s_tN (hR 4)) (s_tF (hR 4)) (s_cN (hR 4)) (s_cF (hR 4)) (s_mP (hR 4)) (s_mS (hR 4)) (s_kCap (hR 4)) (s_kGap (hR 4)) (s_kCar (hR 4)) (s_kCop (hR 4)) (s_kGro (hR 4)) (s_kShr (hR 4)) ++ (wX6 cI (hh 47) (hh 48) (hh 49) (hh 50) (hh 51) (hh 52) (hh 53) (hh 54) (hh 55) (s_vCar (hR 5)) (s_vGoa (hR 5)) (s_vEag (hR 5)) (s_tN (hR 5)) (s_tF (hR 5)) (s_cN (hR 5)) (s_cF (hR 5)) (s_mP (hR 5)) (s_mS (hR 5)) (s_kCap (hR 5)) (s_kGap (hR 5)) (s_kCar (hR 5)) (s_kCop (hR 5)) (s_kGro (hR 5)) (s_kShr (hR 5)) ++ T))))))
abbrev wX2 (cI cS : ClassId) (hh : Nat → Nat) (hX hC : Int32) (hR : Nat → StT) : va_W := wX2t cI cS hh hX hC hR []
abbrev wX7 (cI cS : ClassId) (hh : Nat → Nat) (vCar : Int32) (vGoa : Int32) (vEag : Int32) (tN : Int32) (tF : Nat → Int32) (cN : Int32) (cF : Nat → Int32) (mP : Nat → Int32) (mS : Nat → Int32) (kCap : Int32) (kGap : Int32) (kCar : Int32) (kCop : Int32) (kGro : Int32) (kShr : Int32) (bN : Int32) (bF : Nat → Int32) (rCmd : Int32) (rLet : Int32) (rNum : Int32) (fCap : Int32) (fGap : Int32) (fCar : Int32) (fCop : Int32) (fGro : Int32) (fShr : Int32) (hX : Int32) (hC : Int32) (hR : Nat → StT) : va_W := (hh 0, .inr (7, [.ref (hh 1), .ref (hh 15), .ref (hh 10), .ref (hh 14)])) :: (wX6 cI (hh 1) (hh 2) (hh 3) (hh 4) (hh 5) (hh 6) (hh 7) (hh 8) (hh 9) vCar vGoa vEag tN tF cN cF mP mS kCap kGap kCar kCop kGro kShr ++ (wX1 cI (hh 10) (hh 11) (hh 12) (hh 13) bN bF rCmd rLet rNum ++ (wX3 cI (hh 14) fCap fGap fCar fCop fGro fShr ++ wX2 cI cS (fun i => hh (15 + i)) hX hC hR)))
theorem six {j : Nat} (h : j < 6) : j = 0 ∨ j = 1 ∨ j = 2 ∨ j = 3 ∨ j = 4 ∨ j = 5 := by omega
theorem vp_lt {i : Int32} {n : Nat} (h : vp_in i n) : i.toNatClampNeg < n := Nat.lt_of_not_le fun q => h (Or.inr q)
theorem nm_v {p : Program} {l : Launch} {e : Env} {R : Room} {s : State} {m : MethodId} {args : Array Value} {below : List Frame} {meth : Method} {c : Code} {H : Heap} {locs : List Loc} {cells slots : Nat} {Q : State → Prop} {pc : Nat} {ls : Array Slot} {rest : List Value} {x x' : Value} (h : x = x') (k : W p l e R s m args below meth c H locs cells slots Q (F0 m pc ls (x' :: rest))) : W p l e R s m args below meth c H locs cells slots Q (F0 m pc ls (x :: rest)) := h ▸ k
theorem fst_X6 {cI : ClassId} {a0 a1 a2 a3 a4 a5 a6 a7 a8 : Nat} {vCar : Int32} {vGoa : Int32} {vEag : Int32} {tN : Int32} {tF : Nat → Int32} {cN : Int32} {cF : Nat → Int32} {mP : Nat → Int32} {mS : Nat → Int32} {kCap : Int32} {kGap : Int32} {kCar : Int32} {kCop : Int32} {kGro : Int32} {kShr : Int32} {vCar' : Int32} {vGoa' : Int32} {vEag' : Int32} {tN' : Int32} {tF' : Nat → Int32} {cN' : Int32} {cF' : Nat → Int32} {mP' : Nat → Int32} {mS' : Nat → Int32} {kCap' : Int32} {kGap' : Int32} {kCar' : Int32} {kCop' : Int32} {kGro' : Int32} {kShr' : Int32} : (wX6 cI a0 a1 a2 a3 a4 a5 a6 a7 a8 vCar' vGoa' vEag' tN' tF' cN' cF' mP' mS' kCap' kGap' kCar' kCop' kGro' kShr').map Prod.fst = (wX6 cI a0 a1 a2 a3 a4 a5 a6 a7 a8 vCar vGoa vEag tN tF cN cF mP mS kCap kGap kCar kCop kGro kShr).map Prod.fst := rfl
theorem fst_X2t {cI cS : ClassId} {hh : Nat → Nat} {hX hC hX' hC' : Int32} {hR hR' : Nat → StT} {a0 a1 a2 a3 a4 a5 a6 a7 a8 : Nat} {vCar : Int32} {vGoa : Int32} {vEag : Int32} {tN : Int32} {tF : Nat → Int32} {cN : Int32} {cF : Nat → Int32} {mP : Nat → Int32} {mS : Nat → Int32} {kCap : Int32} {kGap : Int32} {kCar : Int32} {kCop : Int32} {kGro : Int32} {kShr : Int32} {vCar' : Int32} {vGoa' : Int32} {vEag' : Int32} {tN' : Int32} {tF' : Nat → Int32} {cN' : Int32} {cF' : Nat → Int32} {mP' : Nat → Int32} {mS' : Nat → Int32} {kCap' : Int32} {kGap' : Int32} {kCar' : Int32} {kCop' : Int32} {kGro' : Int32} {kShr' : Int32} : (wX2t cI cS hh hX' hC' hR' (wX6 cI a0 a1 a2 a3 a4 a5 a6 a7 a8 vCar' vGoa' vEag' tN' tF' cN' cF' mP' mS' kCap' kGap' kCar' kCop' kGro' kShr')).map Prod.fst = (wX2t cI cS hh hX hC hR (wX6 cI a0 a1 a2 a3 a4 a5 a6 a7 a8 vCar vGoa vEag tN tF cN cF mP mS kCap kGap kCar kCop kGro kShr)).map Prod.fst := fst_app (a := wX2h cS hh hX hC) (a' := wX2h cS hh hX' hC') rfl (fst_app fst_X6 (fst_app fst_X6 (fst_app fst_X6 (fst_app fst_X6 (fst_app fst_X6 (fst_app fst_X6 fst_X6))))))
theorem pm_s_0 {α : Type} {h r0 r1 r2 r3 r4 r5 s : List α} : ((h ++ (r0 ++ (r1 ++ (r2 ++ (r3 ++ (r4 ++ (r5 ++ s)))))))).Perm ((r0 ++ s) ++ (h ++ (r1 ++ (r2 ++ (r3 ++ (r4 ++ r5)))))) := by
  classical
  rw [List.perm_iff_count]
  intro a
  simp only [List.count_append, List.count_cons, List.count_nil]
  omega
theorem pm_r_0 {α : Type} {h r0 r1 r2 r3 r4 r5 s : List α} : ((h ++ (r0 ++ (r1 ++ (r2 ++ (r3 ++ (r4 ++ (r5 ++ s)))))))).Perm ((s ++ r0) ++ (h ++ (r1 ++ (r2 ++ (r3 ++ (r4 ++ r5)))))) := by
  classical
  rw [List.perm_iff_count]
  intro a
  simp only [List.count_append, List.count_cons, List.count_nil]
  omega
theorem pm_s_1 {α : Type} {h r0 r1 r2 r3 r4 r5 s : List α} : ((h ++ (r0 ++ (r1 ++ (r2 ++ (r3 ++ (r4 ++ (r5 ++ s)))))))).Perm ((r1 ++ s) ++ (h ++ (r0 ++ (r2 ++ (r3 ++ (r4 ++ r5)))))) := by
  classical
  rw [List.perm_iff_count]
  intro a
  simp only [List.count_append, List.count_cons, List.count_nil]
  omega
theorem pm_r_1 {α : Type} {h r0 r1 r2 r3 r4 r5 s : List α} : ((h ++ (r0 ++ (r1 ++ (r2 ++ (r3 ++ (r4 ++ (r5 ++ s)))))))).Perm ((s ++ r1) ++ (h ++ (r0 ++ (r2 ++ (r3 ++ (r4 ++ r5)))))) := by
  classical
  rw [List.perm_iff_count]
  intro a
  simp only [List.count_append, List.count_cons, List.count_nil]
  omega
theorem pm_s_2 {α : Type} {h r0 r1 r2 r3 r4 r5 s : List α} : ((h ++ (r0 ++ (r1 ++ (r2 ++ (r3 ++ (r4 ++ (r5 ++ s)))))))).Perm ((r2 ++ s) ++ (h ++ (r0 ++ (r1 ++ (r3 ++ (r4 ++ r5)))))) := by
  classical
  rw [List.perm_iff_count]
  intro a
  simp only [List.count_append, List.count_cons, List.count_nil]
  omega
theorem pm_r_2 {α : Type} {h r0 r1 r2 r3 r4 r5 s : List α} : ((h ++ (r0 ++ (r1 ++ (r2 ++ (r3 ++ (r4 ++ (r5 ++ s)))))))).Perm ((s ++ r2) ++ (h ++ (r0 ++ (r1 ++ (r3 ++ (r4 ++ r5)))))) := by
  classical
  rw [List.perm_iff_count]
  intro a
  simp only [List.count_append, List.count_cons, List.count_nil]
  omega
theorem pm_s_3 {α : Type} {h r0 r1 r2 r3 r4 r5 s : List α} : ((h ++ (r0 ++ (r1 ++ (r2 ++ (r3 ++ (r4 ++ (r5 ++ s)))))))).Perm ((r3 ++ s) ++ (h ++ (r0 ++ (r1 ++ (r2 ++ (r4 ++ r5)))))) := by
  classical
  rw [List.perm_iff_count]
  intro a
  simp only [List.count_append, List.count_cons, List.count_nil]
  omega
theorem pm_r_3 {α : Type} {h r0 r1 r2 r3 r4 r5 s : List α} : ((h ++ (r0 ++ (r1 ++ (r2 ++ (r3 ++ (r4 ++ (r5 ++ s)))))))).Perm ((s ++ r3) ++ (h ++ (r0 ++ (r1 ++ (r2 ++ (r4 ++ r5)))))) := by
  classical
  rw [List.perm_iff_count]
  intro a
  simp only [List.count_append, List.count_cons, List.count_nil]
  omega
theorem pm_s_4 {α : Type} {h r0 r1 r2 r3 r4 r5 s : List α} : ((h ++ (r0 ++ (r1 ++ (r2 ++ (r3 ++ (r4 ++ (r5 ++ s)))))))).Perm ((r4 ++ s) ++ (h ++ (r0 ++ (r1 ++ (r2 ++ (r3 ++ r5)))))) := by
  classical
  rw [List.perm_iff_count]
  intro a
  simp only [List.count_append, List.count_cons, List.count_nil]
  omega
theorem pm_r_4 {α : Type} {h r0 r1 r2 r3 r4 r5 s : List α} : ((h ++ (r0 ++ (r1 ++ (r2 ++ (r3 ++ (r4 ++ (r5 ++ s)))))))).Perm ((s ++ r4) ++ (h ++ (r0 ++ (r1 ++ (r2 ++ (r3 ++ r5)))))) := by
  classical
  rw [List.perm_iff_count]
  intro a
  simp only [List.count_append, List.count_cons, List.count_nil]
  omega
theorem pm_s_5 {α : Type} {h r0 r1 r2 r3 r4 r5 s : List α} : ((h ++ (r0 ++ (r1 ++ (r2 ++ (r3 ++ (r4 ++ (r5 ++ s)))))))).Perm ((r5 ++ s) ++ (h ++ (r0 ++ (r1 ++ (r2 ++ (r3 ++ r4)))))) := by
  classical
  rw [List.perm_iff_count]
  intro a
  simp only [List.count_append, List.count_cons, List.count_nil]
  omega
theorem pm_r_5 {α : Type} {h r0 r1 r2 r3 r4 r5 s : List α} : ((h ++ (r0 ++ (r1 ++ (r2 ++ (r3 ++ (r4 ++ (r5 ++ s)))))))).Perm ((s ++ r5) ++ (h ++ (r0 ++ (r1 ++ (r2 ++ (r3 ++ r4)))))) := by
  classical
  rw [List.perm_iff_count]
  intro a
  simp only [List.count_append, List.count_cons, List.count_nil]
  omega
theorem pm_7g {α : Type} {g : α} {st co la h r0 r1 r2 r3 r4 r5 : List α} : (g :: (st ++ (co ++ (la ++ (h ++ (r0 ++ (r1 ++ (r2 ++ (r3 ++ (r4 ++ (r5 ++ []))))))))))).Perm ((h ++ (r0 ++ (r1 ++ (r2 ++ (r3 ++ (r4 ++ (r5 ++ st))))))) ++ (g :: (co ++ la))) := by
  classical
  rw [List.perm_iff_count]
  intro a
  simp only [List.count_append, List.count_cons, List.count_nil]
  omega
theorem pm_7 {cI cS : ClassId} {hh : Nat → Nat} {hX hC : Int32} {hR : Nat → StT} {g : Nat × va_E} {st co la : va_W} : (g :: (st ++ (co ++ (la ++ wX2t cI cS hh hX hC hR [])))).Perm (wX2t cI cS hh hX hC hR st ++ (g :: (co ++ la))) := pm_7g
theorem gw_12 : Cond.selects RX7 yX7_isPosition yX7_isPosition ∈ GW := gw_mem 12 (by decide +kernel) (by decide +kernel)
theorem gw_14 : Cond.selects RX7 yX7_isLine yX7_isLine ∈ GW := gw_mem 14 (by decide +kernel) (by decide +kernel)
theorem gw_65 : Cond.initialized RX2 ∈ GW := gw_mem 65 (by decide +kernel) (by decide +kernel)
theorem gw_72 : Cond.initialized "java/lang/IllegalArgumentException" ∈ GW := gw_mem 72 (by decide +kernel) (by decide +kernel)
theorem gw_73 : Cond.initialized "java/lang/IllegalStateException" ∈ GW := gw_mem 73 (by decide +kernel) (by decide +kernel)
theorem gw_75 : Cond.initialized "java/lang/IndexOutOfBoundsException" ∈ GW := gw_mem 75 (by decide +kernel) (by decide +kernel)
theorem nw_128 : Cond.fieldLinkNest RX7 178 "GapBuffer$Layout" "capacity" "I" "GapBuffer" ∈ NW := nw_mem 128 (by decide +kernel) (by decide +kernel)
theorem nw_131 : Cond.fieldLinkNest RX7 181 "GapBuffer$Layout" "gapStart" "I" "GapBuffer" ∈ NW := nw_mem 131 (by decide +kernel) (by decide +kernel)
theorem nw_134 : Cond.fieldLinkNest RX7 187 "GapBuffer$Layout" "carried" "I" "GapBuffer" ∈ NW := nw_mem 134 (by decide +kernel) (by decide +kernel)
theorem nw_137 : Cond.fieldLinkNest RX7 190 "GapBuffer$Layout" "copied" "I" "GapBuffer" ∈ NW := nw_mem 137 (by decide +kernel) (by decide +kernel)
theorem nw_140 : Cond.fieldLinkNest RX7 193 "GapBuffer$Layout" "growths" "I" "GapBuffer" ∈ NW := nw_mem 140 (by decide +kernel) (by decide +kernel)
theorem nw_143 : Cond.fieldLinkNest RX7 196 "GapBuffer$Layout" "shrinks" "I" "GapBuffer" ∈ NW := nw_mem 143 (by decide +kernel) (by decide +kernel)
theorem nw_158 : Cond.fieldLinkNest RX7 60 "GapBuffer$State" "text" "LGapBuffer$Bytes;" "GapBuffer" ∈ NW := nw_mem 158 (by decide +kernel) (by decide +kernel)
theorem nw_161 : Cond.fieldLinkNest RX7 143 "GapBuffer$State" "clipboard" "LGapBuffer$Bytes;" "GapBuffer" ∈ NW := nw_mem 161 (by decide +kernel) (by decide +kernel)
theorem nw_164 : Cond.fieldLinkNest RX7 123 "GapBuffer$State" "marks" "LGapBuffer$Marks;" "GapBuffer" ∈ NW := nw_mem 164 (by decide +kernel) (by decide +kernel)
theorem nw_166 : Cond.fieldLinkNest RX7 175 "GapBuffer$State" "layout" "LGapBuffer$Layout;" "GapBuffer" ∈ NW := nw_mem 166 (by decide +kernel) (by decide +kernel)
theorem nw_168 : Cond.fieldLinkNest RX7 88 "GapBuffer$State" "caret" "I" "GapBuffer" ∈ NW := nw_mem 168 (by decide +kernel) (by decide +kernel)
theorem nw_172 : Cond.fieldLinkNest RX7 113 "GapBuffer$State" "isEager" "Z" "GapBuffer" ∈ NW := nw_mem 172 (by decide +kernel) (by decide +kernel)
theorem gw_197 : Cond.fieldLink RX2 11 "GapBuffer$History" "rows" "[LGapBuffer$State;" ∈ GW := gw_mem 197 (by decide +kernel) (by decide +kernel)
theorem gw_198 : Cond.fieldLink RX2 17 "GapBuffer$History" "next" "I" ∈ GW := gw_mem 198 (by decide +kernel) (by decide +kernel)
theorem gw_199 : Cond.fieldLink RX2 21 "GapBuffer$History" "count" "I" ∈ GW := gw_mem 199 (by decide +kernel) (by decide +kernel)
theorem nw_235 : Cond.fieldLinkNest RX7 209 "GapBuffer$Commands" "buffer" "LGapBuffer$Bytes;" "GapBuffer" ∈ NW := nw_mem 235 (by decide +kernel) (by decide +kernel)
theorem gw_244 : Cond.fieldLink RX7 10 "GapBuffer" "state" "LGapBuffer$State;" ∈ GW := gw_mem 244 (by decide +kernel) (by decide +kernel)
theorem gw_245 : Cond.fieldLink RX7 19 "GapBuffer" "history" "LGapBuffer$History;" ∈ GW := gw_mem 245 (by decide +kernel) (by decide +kernel)
theorem gw_246 : Cond.fieldLink RX7 26 "GapBuffer" "commands" "LGapBuffer$Commands;" ∈ GW := gw_mem 246 (by decide +kernel) (by decide +kernel)
theorem gw_247 : Cond.fieldLink RX7 33 "GapBuffer" "forecast" "LGapBuffer$Layout;" ∈ GW := gw_mem 247 (by decide +kernel) (by decide +kernel)
theorem gw_261 : Cond.methodLink RX7 52 yX2_save ∈ GW := gw_mem 261 (by decide +kernel) (by decide +kernel)
theorem gw_262 : Cond.instanceMethod yX2_save ∈ GW := gw_mem 262 (by decide +kernel) (by decide +kernel)
theorem gw_263 : Cond.selects RX2 yX2_save yX2_save ∈ GW := gw_mem 263 (by decide +kernel) (by decide +kernel)
theorem gw_264 : Cond.code yX2_save cX2_save 2 none ∈ GW := gw_mem 264 (by decide +kernel) (by decide +kernel)
theorem gw_265 : Cond.methodLink RX2 25 yX6_assign ∈ GW := gw_mem 265 (by decide +kernel) (by decide +kernel)
theorem gw_266 : Cond.instanceMethod yX6_assign ∈ GW := gw_mem 266 (by decide +kernel) (by decide +kernel)
theorem gw_267 : Cond.selects RX6 yX6_assign yX6_assign ∈ GW := gw_mem 267 (by decide +kernel) (by decide +kernel)
theorem gw_268 : Cond.code yX6_assign cX6_assign 2 none ∈ GW := gw_mem 268 (by decide +kernel) (by decide +kernel)
theorem gw_295 : Cond.methodLink RX2 29 Lib.Math.min.name ∈ GW := gw_mem 295 (by decide +kernel) (by decide +kernel)
theorem gw_298 : Cond.methodLink RX7 101 yX6_moveUp ∈ GW := gw_mem 298 (by decide +kernel) (by decide +kernel)
theorem gw_299 : Cond.instanceMethod yX6_moveUp ∈ GW := gw_mem 299 (by decide +kernel) (by decide +kernel)
theorem gw_300 : Cond.selects RX6 yX6_moveUp yX6_moveUp ∈ GW := gw_mem 300 (by decide +kernel) (by decide +kernel)
theorem gw_301 : Cond.code yX6_moveUp cX6_moveUp 2 none ∈ GW := gw_mem 301 (by decide +kernel) (by decide +kernel)
theorem gw_334 : Cond.methodLink RX7 104 yX6_moveDown ∈ GW := gw_mem 334 (by decide +kernel) (by decide +kernel)
theorem gw_335 : Cond.instanceMethod yX6_moveDown ∈ GW := gw_mem 335 (by decide +kernel) (by decide +kernel)
theorem gw_336 : Cond.selects RX6 yX6_moveDown yX6_moveDown ∈ GW := gw_mem 336 (by decide +kernel) (by decide +kernel)
theorem gw_337 : Cond.code yX6_moveDown cX6_moveDown 2 none ∈ GW := gw_mem 337 (by decide +kernel) (by decide +kernel)
theorem gw_342 : Cond.methodLink RX7 107 yX0_lineBegin ∈ GW := gw_mem 342 (by decide +kernel) (by decide +kernel)
theorem gw_343 : Cond.methodLink RX7 110 yX0_lineEnd ∈ GW := gw_mem 343 (by decide +kernel) (by decide +kernel)
theorem gw_344 : Cond.methodLink RX7 85 yX6_moveCaret ∈ GW := gw_mem 344 (by decide +kernel) (by decide +kernel)
theorem gw_356 : Cond.methodLink RX7 117 yX6_letGapFollow ∈ GW := gw_mem 356 (by decide +kernel) (by decide +kernel)
theorem gw_361 : Cond.methodLink RX7 64 yX0_size ∈ GW := gw_mem 361 (by decide +kernel) (by decide +kernel)
theorem gw_370 : Cond.methodLink RX7 163 yX0_lineCount ∈ GW := gw_mem 370 (by decide +kernel) (by decide +kernel)
theorem gw_410 : Cond.methodLink RX7 215 yX0_clear ∈ GW := gw_mem 410 (by decide +kernel) (by decide +kernel)
theorem gw_411 : Cond.instanceMethod yX0_clear ∈ GW := gw_mem 411 (by decide +kernel) (by decide +kernel)
theorem gw_412 : Cond.selects RX0 yX0_clear yX0_clear ∈ GW := gw_mem 412 (by decide +kernel) (by decide +kernel)
theorem gw_413 : Cond.code yX0_clear cX0_clear 1 none ∈ GW := gw_mem 413 (by decide +kernel) (by decide +kernel)
theorem gw_418 : Cond.methodLink RX7 218 yX1_firstFault ∈ GW := gw_mem 418 (by decide +kernel) (by decide +kernel)
theorem gw_466 : Cond.methodLink RX7 229 yX2_count ∈ GW := gw_mem 466 (by decide +kernel) (by decide +kernel)
theorem gw_467 : Cond.instanceMethod yX2_count ∈ GW := gw_mem 467 (by decide +kernel) (by decide +kernel)
theorem gw_468 : Cond.selects RX2 yX2_count yX2_count ∈ GW := gw_mem 468 (by decide +kernel) (by decide +kernel)
theorem gw_469 : Cond.code yX2_count cX2_count 1 (some .int) ∈ GW := gw_mem 469 (by decide +kernel) (by decide +kernel)
theorem gw_474 : Cond.methodLink RX7 235 yX6_hash ∈ GW := gw_mem 474 (by decide +kernel) (by decide +kernel)
theorem gw_475 : Cond.instanceMethod yX6_hash ∈ GW := gw_mem 475 (by decide +kernel) (by decide +kernel)
theorem gw_476 : Cond.selects RX6 yX6_hash yX6_hash ∈ GW := gw_mem 476 (by decide +kernel) (by decide +kernel)
theorem gw_477 : Cond.code yX6_hash cX6_hash 4 (some .long) ∈ GW := gw_mem 477 (by decide +kernel) (by decide +kernel)
theorem gw_498 : Cond.methodLink RX7 37 yX7_isByte ∈ GW := gw_mem 498 (by decide +kernel) (by decide +kernel)
theorem gw_499 : Cond.static yX7_isByte ∈ GW := gw_mem 499 (by decide +kernel) (by decide +kernel)
theorem gw_500 : Cond.code yX7_isByte cX7_isByte 1 (some .boolean) ∈ GW := gw_mem 500 (by decide +kernel) (by decide +kernel)
theorem gw_501 : Cond.methodLink RX7 41 yX7_requireArgument ∈ GW := gw_mem 501 (by decide +kernel) (by decide +kernel)
theorem gw_502 : Cond.static yX7_requireArgument ∈ GW := gw_mem 502 (by decide +kernel) (by decide +kernel)
theorem gw_503 : Cond.code yX7_requireArgument cX7_requireArgument 1 none ∈ GW := gw_mem 503 (by decide +kernel) (by decide +kernel)
theorem gw_504 : Cond.classLink RX7 239 "java/lang/IllegalArgumentException" ∈ GW := gw_mem 504 (by decide +kernel) (by decide +kernel)
theorem gw_567 : Cond.methodLink RX7 45 yX6_insertFault ∈ GW := gw_mem 567 (by decide +kernel) (by decide +kernel)
theorem gw_571 : Cond.methodLink RX7 49 yX7_requireState ∈ GW := gw_mem 571 (by decide +kernel) (by decide +kernel)
theorem gw_572 : Cond.static yX7_requireState ∈ GW := gw_mem 572 (by decide +kernel) (by decide +kernel)
theorem gw_573 : Cond.code yX7_requireState cX7_requireState 1 none ∈ GW := gw_mem 573 (by decide +kernel) (by decide +kernel)
theorem gw_574 : Cond.classLink RX7 245 "java/lang/IllegalStateException" ∈ GW := gw_mem 574 (by decide +kernel) (by decide +kernel)
theorem gw_589 : Cond.methodLink RX7 56 yX6_insertRepeated ∈ GW := gw_mem 589 (by decide +kernel) (by decide +kernel)
theorem gw_621 : Cond.methodLink RX7 70 yX7_isCount ∈ GW := gw_mem 621 (by decide +kernel) (by decide +kernel)
theorem gw_622 : Cond.static yX7_isCount ∈ GW := gw_mem 622 (by decide +kernel) (by decide +kernel)
theorem gw_623 : Cond.code yX7_isCount cX7_isCount 1 (some .boolean) ∈ GW := gw_mem 623 (by decide +kernel) (by decide +kernel)
theorem gw_631 : Cond.methodLink RX7 73 yX6_deleteBehind ∈ GW := gw_mem 631 (by decide +kernel) (by decide +kernel)
theorem gw_663 : Cond.methodLink RX7 76 yX6_deleteBefore ∈ GW := gw_mem 663 (by decide +kernel) (by decide +kernel)
theorem gw_675 : Cond.methodLink RX7 79 yX7_isPosition ∈ GW := gw_mem 675 (by decide +kernel) (by decide +kernel)
theorem gw_677 : Cond.instanceMethod yX7_isPosition ∈ GW := gw_mem 677 (by decide +kernel) (by decide +kernel)
theorem gw_678 : Cond.code yX7_isPosition cX7_isPosition 2 (some .boolean) ∈ GW := gw_mem 678 (by decide +kernel) (by decide +kernel)
theorem gw_679 : Cond.methodLink RX7 82 yX7_requireIndex ∈ GW := gw_mem 679 (by decide +kernel) (by decide +kernel)
theorem gw_680 : Cond.static yX7_requireIndex ∈ GW := gw_mem 680 (by decide +kernel) (by decide +kernel)
theorem gw_681 : Cond.code yX7_requireIndex cX7_requireIndex 1 none ∈ GW := gw_mem 681 (by decide +kernel) (by decide +kernel)
theorem gw_682 : Cond.classLink RX7 242 "java/lang/IndexOutOfBoundsException" ∈ GW := gw_mem 682 (by decide +kernel) (by decide +kernel)
theorem gw_704 : Cond.methodLink RX7 92 Lib.Math.min.name ∈ GW := gw_mem 704 (by decide +kernel) (by decide +kernel)
theorem gw_705 : Cond.methodLink RX7 98 Lib.Math.max.name ∈ GW := gw_mem 705 (by decide +kernel) (by decide +kernel)
theorem gw_713 : Cond.methodLink RX7 120 yX7_isMark ∈ GW := gw_mem 713 (by decide +kernel) (by decide +kernel)
theorem gw_714 : Cond.methodLink RX7 127 yX4_positionOf ∈ GW := gw_mem 714 (by decide +kernel) (by decide +kernel)
theorem gw_715 : Cond.methodLink RX7 132 yX4_place ∈ GW := gw_mem 715 (by decide +kernel) (by decide +kernel)
theorem gw_723 : Cond.methodLink RX7 136 yX6_regionFault ∈ GW := gw_mem 723 (by decide +kernel) (by decide +kernel)
theorem gw_728 : Cond.methodLink RX7 139 yX6_copyRegion ∈ GW := gw_mem 728 (by decide +kernel) (by decide +kernel)
theorem gw_740 : Cond.methodLink RX7 146 yX6_cutRegion ∈ GW := gw_mem 740 (by decide +kernel) (by decide +kernel)
theorem gw_752 : Cond.methodLink RX7 149 yX6_pasteFault ∈ GW := gw_mem 752 (by decide +kernel) (by decide +kernel)
theorem gw_757 : Cond.methodLink RX7 152 yX6_insertPart ∈ GW := gw_mem 757 (by decide +kernel) (by decide +kernel)
theorem gw_775 : Cond.methodLink RX7 156 yX0_at ∈ GW := gw_mem 775 (by decide +kernel) (by decide +kernel)
theorem gw_783 : Cond.methodLink RX7 159 yX0_firstPlaceOf ∈ GW := gw_mem 783 (by decide +kernel) (by decide +kernel)
theorem gw_784 : Cond.instanceMethod yX0_firstPlaceOf ∈ GW := gw_mem 784 (by decide +kernel) (by decide +kernel)
theorem gw_785 : Cond.selects RX0 yX0_firstPlaceOf yX0_firstPlaceOf ∈ GW := gw_mem 785 (by decide +kernel) (by decide +kernel)
theorem gw_786 : Cond.code yX0_firstPlaceOf cX0_firstPlaceOf 4 (some .int) ∈ GW := gw_mem 786 (by decide +kernel) (by decide +kernel)
theorem gw_805 : Cond.methodLink RX7 166 yX0_breaksBefore ∈ GW := gw_mem 805 (by decide +kernel) (by decide +kernel)
theorem gw_820 : Cond.methodLink RX7 169 yX7_isLine ∈ GW := gw_mem 820 (by decide +kernel) (by decide +kernel)
theorem gw_822 : Cond.instanceMethod yX7_isLine ∈ GW := gw_mem 822 (by decide +kernel) (by decide +kernel)
theorem gw_823 : Cond.code yX7_isLine cX7_isLine 2 (some .boolean) ∈ GW := gw_mem 823 (by decide +kernel) (by decide +kernel)
theorem gw_824 : Cond.methodLink RX7 172 yX0_beginOfLine ∈ GW := gw_mem 824 (by decide +kernel) (by decide +kernel)
theorem gw_825 : Cond.instanceMethod yX0_beginOfLine ∈ GW := gw_mem 825 (by decide +kernel) (by decide +kernel)
theorem gw_826 : Cond.selects RX0 yX0_beginOfLine yX0_beginOfLine ∈ GW := gw_mem 826 (by decide +kernel) (by decide +kernel)
theorem gw_827 : Cond.code yX0_beginOfLine cX0_beginOfLine 4 (some .int) ∈ GW := gw_mem 827 (by decide +kernel) (by decide +kernel)
theorem gw_843 : Cond.methodLink RX7 184 yX6_cellAt ∈ GW := gw_mem 843 (by decide +kernel) (by decide +kernel)
theorem gw_844 : Cond.instanceMethod yX6_cellAt ∈ GW := gw_mem 844 (by decide +kernel) (by decide +kernel)
theorem gw_845 : Cond.selects RX6 yX6_cellAt yX6_cellAt ∈ GW := gw_mem 845 (by decide +kernel) (by decide +kernel)
theorem gw_846 : Cond.code yX6_cellAt cX6_cellAt 3 (some .int) ∈ GW := gw_mem 846 (by decide +kernel) (by decide +kernel)
theorem gw_854 : Cond.methodLink RX7 199 yX3_assign ∈ GW := gw_mem 854 (by decide +kernel) (by decide +kernel)
theorem gw_855 : Cond.methodLink RX7 203 yX3_insertAt ∈ GW := gw_mem 855 (by decide +kernel) (by decide +kernel)
theorem gw_856 : Cond.methodLink RX7 206 yX3_cost ∈ GW := gw_mem 856 (by decide +kernel) (by decide +kernel)
theorem gw_857 : Cond.instanceMethod yX3_cost ∈ GW := gw_mem 857 (by decide +kernel) (by decide +kernel)
theorem gw_858 : Cond.selects RX3 yX3_cost yX3_cost ∈ GW := gw_mem 858 (by decide +kernel) (by decide +kernel)
theorem gw_859 : Cond.code yX3_cost cX3_cost 1 (some .int) ∈ GW := gw_mem 859 (by decide +kernel) (by decide +kernel)
theorem gw_874 : Cond.methodLink RX7 212 yX0_add ∈ GW := gw_mem 874 (by decide +kernel) (by decide +kernel)
theorem gw_875 : Cond.instanceMethod yX0_add ∈ GW := gw_mem 875 (by decide +kernel) (by decide +kernel)
theorem gw_876 : Cond.selects RX0 yX0_add yX0_add ∈ GW := gw_mem 876 (by decide +kernel) (by decide +kernel)
theorem gw_877 : Cond.code yX0_add cX0_add 2 none ∈ GW := gw_mem 877 (by decide +kernel) (by decide +kernel)
theorem gw_887 : Cond.methodLink RX7 221 yX1_isComplete ∈ GW := gw_mem 887 (by decide +kernel) (by decide +kernel)
theorem gw_888 : Cond.instanceMethod yX1_isComplete ∈ GW := gw_mem 888 (by decide +kernel) (by decide +kernel)
theorem gw_889 : Cond.selects RX1 yX1_isComplete yX1_isComplete ∈ GW := gw_mem 889 (by decide +kernel) (by decide +kernel)
theorem gw_890 : Cond.code yX1_isComplete cX1_isComplete 1 (some .boolean) ∈ GW := gw_mem 890 (by decide +kernel) (by decide +kernel)
theorem gw_893 : Cond.methodLink RX7 225 yX1_executeOn ∈ GW := gw_mem 893 (by decide +kernel) (by decide +kernel)
theorem gw_894 : Cond.instanceMethod yX1_executeOn ∈ GW := gw_mem 894 (by decide +kernel) (by decide +kernel)
theorem gw_895 : Cond.selects RX1 yX1_executeOn yX1_executeOn ∈ GW := gw_mem 895 (by decide +kernel) (by decide +kernel)
theorem gw_896 : Cond.code yX1_executeOn cX1_executeOn 5 (some .int) ∈ GW := gw_mem 896 (by decide +kernel) (by decide +kernel)
theorem gw_930 : Cond.methodLink RX7 232 yX2_restore ∈ GW := gw_mem 930 (by decide +kernel) (by decide +kernel)
theorem gw_931 : Cond.instanceMethod yX2_restore ∈ GW := gw_mem 931 (by decide +kernel) (by decide +kernel)
theorem gw_932 : Cond.selects RX2 yX2_restore yX2_restore ∈ GW := gw_mem 932 (by decide +kernel) (by decide +kernel)
theorem gw_933 : Cond.code yX2_restore cX2_restore 2 none ∈ GW := gw_mem 933 (by decide +kernel) (by decide +kernel)
theorem gm_X0_add : gm_ yX0_add cX0_add 2 none 1 := ⟨gw_875, gw_876, gw_61, gw_877, by decide +kernel⟩
theorem gm_X0_beginOfLine : gm_ yX0_beginOfLine cX0_beginOfLine 4 (some .int) 1 := ⟨gw_825, gw_826, gw_61, gw_827, by decide +kernel⟩
theorem gm_X0_clear : gm_ yX0_clear cX0_clear 1 none 0 := ⟨gw_411, gw_412, gw_61, gw_413, by decide +kernel⟩
theorem gm_X0_firstPlaceOf : gm_ yX0_firstPlaceOf cX0_firstPlaceOf 4 (some .int) 2 := ⟨gw_784, gw_785, gw_61, gw_786, by decide +kernel⟩
theorem gm_X1_executeOn : gm_ yX1_executeOn cX1_executeOn 5 (some .int) 1 := ⟨gw_894, gw_895, gw_66, gw_896, by decide +kernel⟩
theorem gm_X1_isComplete : gm_ yX1_isComplete cX1_isComplete 1 (some .boolean) 0 := ⟨gw_888, gw_889, gw_66, gw_890, by decide +kernel⟩
theorem gm_X2_count : gm_ yX2_count cX2_count 1 (some .int) 0 := ⟨gw_467, gw_468, gw_65, gw_469, by decide +kernel⟩
theorem gm_X2_restore : gm_ yX2_restore cX2_restore 2 none 1 := ⟨gw_931, gw_932, gw_65, gw_933, by decide +kernel⟩
theorem gm_X2_save : gm_ yX2_save cX2_save 2 none 1 := ⟨gw_262, gw_263, gw_65, gw_264, by decide +kernel⟩
theorem gm_X3_cost : gm_ yX3_cost cX3_cost 1 (some .int) 0 := ⟨gw_857, gw_858, gw_64, gw_859, by decide +kernel⟩
theorem gm_X6_assign : gm_ yX6_assign cX6_assign 2 none 1 := ⟨gw_266, gw_267, gw_60, gw_268, by decide +kernel⟩
theorem gm_X6_cellAt : gm_ yX6_cellAt cX6_cellAt 3 (some .int) 1 := ⟨gw_844, gw_845, gw_60, gw_846, by decide +kernel⟩
theorem gm_X6_hash : gm_ yX6_hash cX6_hash 4 (some .long) 0 := ⟨gw_475, gw_476, gw_60, gw_477, by decide +kernel⟩
theorem gm_X6_moveDown : gm_ yX6_moveDown cX6_moveDown 2 none 0 := ⟨gw_335, gw_336, gw_60, gw_337, by decide +kernel⟩
theorem gm_X6_moveUp : gm_ yX6_moveUp cX6_moveUp 2 none 0 := ⟨gw_299, gw_300, gw_60, gw_301, by decide +kernel⟩
theorem gs_X7_isByte : gs_ yX7_isByte cX7_isByte 1 (some .boolean) 1 := ⟨gw_499, gw_59, gw_500, by decide +kernel⟩
theorem gs_X7_isCount : gs_ yX7_isCount cX7_isCount 1 (some .boolean) 1 := ⟨gw_622, gw_59, gw_623, by decide +kernel⟩
theorem gm_X7_isLine : gm_ yX7_isLine cX7_isLine 2 (some .boolean) 1 := ⟨gw_822, gw_14, gw_59, gw_823, by decide +kernel⟩
theorem gm_X7_isPosition : gm_ yX7_isPosition cX7_isPosition 2 (some .boolean) 1 := ⟨gw_677, gw_12, gw_59, gw_678, by decide +kernel⟩
theorem gs_X7_requireArgument : gs_ yX7_requireArgument cX7_requireArgument 1 none 1 := ⟨gw_502, gw_59, gw_503, by decide +kernel⟩
theorem gs_X7_requireIndex : gs_ yX7_requireIndex cX7_requireIndex 1 none 1 := ⟨gw_680, gw_59, gw_681, by decide +kernel⟩
theorem gs_X7_requireState : gs_ yX7_requireState cX7_requireState 1 none 1 := ⟨gw_572, gw_59, gw_573, by decide +kernel⟩
