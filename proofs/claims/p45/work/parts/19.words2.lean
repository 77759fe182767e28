abbrev StT : Type := Int32 × Int32 × Int32 × Int32 × (Nat → Int32) × Int32 × (Nat → Int32) × (Nat → Int32) × (Nat → Int32) × Int32 × Int32 × Int32 × Int32 × Int32 × Int32
abbrev s_vCar (σ : StT) : Int32 := σ.1
abbrev s_vGoa (σ : StT) : Int32 := σ.2.1
abbrev s_vEag (σ : StT) : Int32 := σ.2.2.1
abbrev s_tN (σ : StT) : Int32 := σ.2.2.2.1
abbrev s_tF (σ : StT) : Nat → Int32 := σ.2.2.2.2.1
abbrev s_cN (σ : StT) : Int32 := σ.2.2.2.2.2.1
abbrev s_cF (σ : StT) : Nat → Int32 := σ.2.2.2.2.2.2.1
abbrev s_mP (σ : StT) : Nat → Int32 := σ.2.2.2.2.2.2.2.1
abbrev s_mS (σ : StT) : Nat → Int32 := σ.2.2.2.2.2.2.2.2.1
abbrev s_kCap (σ : StT) : Int32 := σ.2.2.2.2.2.2.2.2.2.1
abbrev s_kGap (σ : StT) : Int32 := σ.2.2.2.2.2.2.2.2.2.2.1
abbrev s_kCar (σ : StT) : Int32 := σ.2.2.2.2.2.2.2.2.2.2.2.1
abbrev s_kCop (σ : StT) : Int32 := σ.2.2.2.2.2.2.2.2.2.2.2.2.1
abbrev s_kGro (σ : StT) : Int32 := σ.2.2.2.2.2.2.2.2.2.2.2.2.2.1
abbrev s_kShr (σ : StT) : Int32 := σ.2.2.2.2.2.2.2.2.2.2.2.2.2.2
def rowsA (hh : Nat → Nat) : Nat → Option Nat := va_up (va_up (va_up (va_up (va_up (va_up (fun _ => none) 0 (some (hh 2))) 1 (some (hh 11))) 2 (some (hh 20))) 3 (some (hh 29))) 4 (some (hh 38))) 5 (some (hh 47))
abbrev wX2h (cS : ClassId) (hh : Nat → Nat) (hX hC : Int32) : va_W := [(hh 0, .inr (2, [.ref (hh 1), .int hX, .int hC])), (hh 1, .inl (cS, 6, .inr (.inr (.inr (.inr (rowsA hh))))))]
abbrev wX2t (cI cS : ClassId) (hh : Nat → Nat) (hX hC : Int32) (hR : Nat → StT) (T : va_W) : va_W := wX2h cS hh hX hC ++ (wX6 cI (hh 2) (hh 3) (hh 4) (hh 5) (hh 6) (hh 7) (hh 8) (hh 9) (hh 10) (s_vCar (hR 0)) (s_vGoa (hR 0)) (s_vEag (hR 0)) (s_tN (hR 0)) (s_tF (hR 0)) (s_cN (hR 0)) (s_cF (hR 0)) (s_mP (hR 0)) (s_mS (hR 0)) (s_kCap (hR 0)) (s_kGap (hR 0)) (s_kCar (hR 0)) (s_kCop (hR 0)) (s_kGro (hR 0)) (s_kShr (hR 0)) ++ (wX6 cI (hh 11) (hh 12) (hh 13) (hh 14) (hh 15) (hh 16) (hh 17) (hh 18) (hh 19) (s_vCar (hR 1)) (s_vGoa (hR 1)) (s_vEag (hR 1)) (s_tN (hR 1)) (s_tF (hR 1)) (s_cN (hR 1)) (s_cF (hR 1)) (s_mP (hR 1)) (s_mS (hR 1)) (s_kCap (hR 1)) (s_kGap (hR 1)) (s_kCar (hR 1)) (s_kCop (hR 1)) (s_kGro (hR 1)) (s_kShr (hR 1)) ++ (wX6 cI (hh 20) (hh 21) (hh 22) (hh 23) (hh 24) (hh 25) (hh 26) (hh 27) (hh 28) (s_vCar (hR 2)) (s_vGoa (hR 2)) (s_vEag (hR 2)) (s_tN (hR 2)) (s_tF (hR 2)) (s_cN (hR 2)) (s_cF (hR 2)) (s_mP (hR 2)) (s_mS (hR 2)) (s_kCap (hR 2)) (s_kGap (hR 2)) (s_kCar (hR 2)) (s_kCop (hR 2)) (s_kGro (hR 2)) (s_kShr (hR 2)) ++ (wX6 cI (hh 29) (hh 30) (hh 31) (hh 32) (hh 33) (hh 34) (hh 35) (hh 36) (hh 37) (s_vCar (hR 3)) (s_vGoa (hR 3)) (s_vEag (hR 3)) (s_tN (hR 3)) (s_tF (hR 3)) (s_cN (hR 3)) (s_cF (hR 3)) (s_mP (hR 3)) (s_mS (hR 3)) (s_kCap (hR 3)) (s_kGap (hR 3)) (s_kCar (hR 3)) (s_kCop (hR 3)) (s_kGro (hR 3)) (s_kShr (hR 3)) ++ (wX6 cI (hh 38) (hh 39) (hh 40) (hh 41) (hh 42) (hh 43) (hh 44) (hh 45) (hh 46) (s_vCar (hR 4)) (s_vGoa (hR 4)) (s_vEag (hR 4)) (s_tN (hR 4)) (s_tF (hR 4)) (s_cN (hR 4)) (s_cF (hR 4)) (s_mP (hR 4)) (s_mS (hR 4)) (s_kCap (hR 4)) (s_kGap (hR 4)) (s_kCar (hR 4)) (s_kCop (hR 4)) (s_kGro (hR 4)) (s_kShr (hR 4)) ++ (wX6 cI (hh 47) (hh 48) (hh 49) (hh 50) (hh 51) (hh 52) (hh 53) (hh 54) (hh 55) (s_vCar (hR 5)) (s_vGoa (hR 5)) (s_vEag (hR 5)) (s_tN (hR 5)) (s_tF (hR 5)) (s_cN (hR 5)) (s_cF (hR 5)) (s_mP (hR 5)) (s_mS (hR 5)) (s_kCap (hR 5)) (s_kGap (hR 5)) (s_kCar (hR 5)) (s_kCop (hR 5)) (s_kGro (hR 5)) (s_kShr (hR 5)) ++ T))))))
abbrev wX2 (cI cS : ClassId) (hh : Nat → Nat) (hX hC : Int32) (hR : Nat → StT) : va_W := wX2t cI cS hh hX hC hR []
abbrev wX7 (cI cS : ClassId) (hh : Nat → Nat) (vCar : Int32) (vGoa : Int32) (vEag : Int32) (tN : Int32) (tF : Nat → Int32) (cN : Int32) (cF : Nat → Int32) (mP : Nat → Int32) (mS : Nat → Int32) (kCap : Int32) (kGap : Int32) (kCar : Int32) (kCop : Int32) (kGro : Int32) (kShr : Int32) (bN : Int32) (bF : Nat → Int32) (rCmd : Int32) (rLet : Int32) (rNum : Int32) (fCap : Int32) (fGap : Int32) (fCar : Int32) (fCop : Int32) (fGro : Int32) (fShr : Int32) (hX : Int32) (hC : Int32) (hR : Nat → StT) : va_W := (hh 0, .inr (7, [.ref (hh 1), .ref (hh 15), .ref (hh 10), .ref (hh 14)])) :: (wX6 cI (hh 1) (hh 2) (hh 3) (hh 4) (hh 5) (hh 6) (hh 7) (hh 8) (hh 9) vCar vGoa vEag tN tF cN cF mP mS kCap kGap kCar kCop kGro kShr ++ (wX1 cI (hh 10) (hh 11) (hh 12) (hh 13) bN bF rCmd rLet rNum ++ (wX3 cI (hh 14) fCap fGap fCar fCop fGro fShr ++ wX2 cI cS (fun i => hh (15 + i)) hX hC hR)))
theorem six {j : Nat} (h : j < 6) : j = 0 ∨ j = 1 ∨ j = 2 ∨ j = 3 ∨ j = 4 ∨ j = 5 := by omega
theorem vp_lt {i : Int32} {n : Nat} (h : vp_in i n) : i.toNatClampNeg < n := Nat.lt_of_not_le fun q => h (Or.inr q)
theorem nm_v {p : Program} {l : Launch} {e : Env} {R : Room} {s : State} {m : MethodId} {args : Array Value} {below : List Frame} {meth : Method} {c : Code} {H : Heap} {locs : List Loc} {cells slots : Nat} {Q : State → Prop} {pc : Nat} {ls : Array Slot} {rest : List Value} {x x' : Value} (h : x = x') (k : W p l e R s m args below meth c H locs cells slots Q (F0 m pc ls (x' :: rest))) : W p l e R s m args below meth c H locs cells slots Q (F0 m pc ls (x :: rest)) := h ▸ k
theorem fst_X6 {cI : ClassId} {a0 a1 a2 a3 a4 a5 a6 a7 a8 : Nat} {vCar : Int32} {vGoa : Int32} {vEag : Int32} {tN : Int32} {tF : Nat → Int32} {cN : Int32} {cF : Nat → Int32} {mP : Nat → Int32} {mS : Nat → Int32} {kCap : Int32} {kGap : Int32} {kCar : Int32} {kCop : Int32} {kGro : Int32} {kShr : Int32} {vCar' : Int32} {vGoa' : Int32} {vEag' : Int32} {tN' : Int32} {tF' : Nat → Int32} {cN' : Int32} {cF' : Nat → Int32} {mP' : Nat → Int32} {mS' : Nat → Int32} {kCap' : Int32} {kGap' : Int32} {kCar' : Int32} {kCop' : Int32} {kGro' : Int32} {kShr' : Int32} : (wX6 cI a0 a1 a2 a3 a4 a5 a6 a7 a8 vCar' vGoa' vEag' tN' tF' cN' cF' mP' mS' kCap' kGap' kCar' kCop' kGro' kShr').map Prod.fst = (wX6 cI a0 a1 a2 a3 a4 a5 a6 a7 a8 vCar vGoa vEag tN tF cN cF mP mS kCap kGap kCar kCop kGro kShr).map Prod.fst := rfl
theorem fst_X2t {cI cS : ClassId} {hh : Nat → Nat} {hX hC hX' hC' : Int32} {hR hR' : Nat → StT} {a0 a1 a2 a3 a4 a5 a6 a7 a8 : Nat} {vCar : Int32} {vGoa : Int32} {vEag : Int32} {tN : Int32} {tF : Nat → Int32} {cN : Int32} {cF : Nat → Int32} {mP : Nat → Int32} {mS : Nat → Int32} {kCap : Int32} {kGap : Int32} {kCar : Int32} {kCop : Int32} {kGro : Int32} {kShr : Int32} {vCar' : Int32} {vGoa' : Int32} {vEag' : Int32} {tN' : Int32} {tF' : Nat → Int32} {cN' : Int32} {cF' : Nat → Int32} {mP' : Nat → Int32} {mS' : Nat → Int32} {kCap' : Int32} {kGap' : Int32} {kCar' : Int32} {kCop' : Int32} {kGro' : Int32} {kShr' : Int32} : (wX2t cI cS hh hX' hC' hR' (wX6 cI a0 a1 a2 a3 a4 a5 a6 a7 a8 vCar' vGoa' vEag' tN' tF' cN' cF' mP' mS' kCap' kGap' kCar' kCop' kGro' kShr')).map Prod.fst = (wX2t cI cS hh hX hC hR (wX6 cI a0 a1 a2 a3 a4 a5 a6 a7 a8 vCar vGoa vEag tN tF cN cF mP mS kCap kGap kCar kCop kGro kShr)).map Prod.fst := fst_app (a := wX2h cS hh hX hC) (a' := wX2h cS hh hX' hC') rfl (fst_app fst_X6 (fst_app fst_X6 (fst_app fst_X6 (fst_app fst_X6 (fst_app fst_X6 (fst_app fst_X6 fst_X6))))))
theorem pm_s_0 {α : Type} {h r0 r1 r2 r3 r4 r5 s : List α} : ((h ++ (r0 ++ (r1 ++ (r2 ++ (r3 ++ (r4 ++ (r5 ++ s)))))))).Perm ((r0 ++ s) ++ (h ++ (r1 ++ (r2 ++ (r3 ++ (r4 ++ r5)))))) := by
  classical
  rw [List.perm_iff_count]
  intro a
  simp only [List.count_append, List.count_cons, List.count_nil]
  omega
theorem pm_r_0 {α : Type} {h r0 r1 r2 r3 r4 r5 s : List α} : ((h ++ (r0 ++ (r1 ++ (r2 ++ (r3 ++ (r4 ++ (r5 ++ s)))))))).Perm ((s ++ r0) ++ (h ++ (r1 ++ (r2 ++ (r3 ++ (r4 ++ r5)))))) := by
  classical
  rw [List.perm_iff_count]
  intro a
  simp only [List.count_append, List.count_cons, List.count_nil]
  omega
theorem pm_s_1 {α : Type} {h r0 r1 r2 r3 r4 r5 s : List α} : ((h ++ (r0 ++ (r1 ++ (r2 ++ (r3 ++ (r4 ++ (r5 ++ s)))))))).Perm ((r1 ++ s) ++ (h ++ (r0 ++ (r2 ++ (r3 ++ (r4 ++ r5)))))) := by
  classical
  rw [List.perm_iff_count]
  intro a
  simp only [List.count_append, List.count_cons, List.count_nil]
  omega
theorem pm_r_1 {α : Type} {h r0 r1 r2 r3 r4 r5 s : List α} : ((h ++ (r0 ++ (r1 ++ (r2 ++ (r3 ++ (r4 ++ (r5 ++ s)))))))).Perm ((s ++ r1) ++ (h ++ (r0 ++ (r2 ++ (r3 ++ (r4 ++ r5)))))) := by
  classical
  rw [List.perm_iff_count]
  intro a
  simp only [List.count_append, List.count_cons, List.count_nil]
  omega
theorem pm_s_2 {α : Type} {h r0 r1 r2 r3 r4 r5 s : List α} : ((h ++ (r0 ++ (r1 ++ (r2 ++ (r3 ++ (r4 ++ (r5 ++ s)))))))).Perm ((r2 ++ s) ++ (h ++ (r0 ++ (r1 ++ (r3 ++ (r4 ++ r5)))))) := by
  classical
  rw [List.perm_iff_count]
  intro a
  simp only [List.count_append, List.count_cons, List.count_nil]
  omega
theorem pm_r_2 {α : Type} {h r0 r1 r2 r3 r4 r5 s : List α} : ((h ++ (r0 ++ (r1 ++ (r2 ++ (r3 ++ (r4 ++ (r5 ++ s)))))))).Perm ((s ++ r2) ++ (h ++ (r0 ++ (r1 ++ (r3 ++ (r4 ++ r5)))))) := by
  classical
  rw [List.perm_iff_count]
  intro a
  simp only [List.count_append, List.count_cons, List.count_nil]
  omega
theorem pm_s_3 {α : Type} {h r0 r1 r2 r3 r4 r5 s : List α} : ((h ++ (r0 ++ (r1 ++ (r2 ++ (r3 ++ (r4 ++ (r5 ++ s)))))))).Perm ((r3 ++ s) ++ (h ++ (r0 ++ (r1 ++ (r2 ++ (r4 ++ r5)))))) := by
  classical
  rw [List.perm_iff_count]
  intro a
  simp only [List.count_append, List.count_cons, List.count_nil]
  omega
theorem pm_r_3 {α : Type} {h r0 r1 r2 r3 r4 r5 s : List α} : ((h ++ (r0 ++ (r1 ++ (r2 ++ (r3 ++ (r4 ++ (r5 ++ s)))))))).Perm ((s ++ r3) ++ (h ++ (r0 ++ (r1 ++ (r2 ++ (r4 ++ r5)))))) := by
  classical
  rw [List.perm_iff_count]
  intro a
  simp only [List.count_append, List.count_cons, List.count_nil]
  omega
theorem pm_s_4 {α : Type} {h r0 r1 r2 r3 r4 r5 s : List α} : ((h ++ (r0 ++ (r1 ++ (r2 ++ (r3 ++ (r4 ++ (r5 ++ s)))))))).Perm ((r4 ++ s) ++ (h ++ (r0 ++ (r1 ++ (r2 ++ (r3 ++ r5)))))) := by
  classical
  rw [List.perm_iff_count]
  intro a
  simp only [List.count_append, List.count_cons, List.count_nil]
  omega
theorem pm_r_4 {α : Type} {h r0 r1 r2 r3 r4 r5 s : List α} : ((h ++ (r0 ++ (r1 ++ (r2 ++ (r3 ++ (r4 ++ (r5 ++ s)))))))).Perm ((s ++ r4) ++ (h ++ (r0 ++ (r1 ++ (r2 ++ (r3 ++ r5)))))) := by
  classical
  rw [List.perm_iff_count]
  intro a
  simp only [List.count_append, List.count_cons, List.count_nil]
  omega
theorem pm_s_5 {α : Type} {h r0 r1 r2 r3 r4 r5 s : List α} : ((h ++ (r0 ++ (r1 ++ (r2 ++ (r3 ++ (r4 ++ (r5 ++ s)))))))).Perm ((r5 ++ s) ++ (h ++ (r0 ++ (r1 ++ (r2 ++ (r3 ++ r4)))))) := by
  classical
  rw [List.perm_iff_count]
  intro a
  simp only [List.count_append, List.count_cons, List.count_nil]
  omega
theorem pm_r_5 {α : Type} {h r0 r1 r2 r3 r4 r5 s : List α} : ((h ++ (r0 ++ (r1 ++ (r2 ++ (r3 ++ (r4 ++ (r5 ++ s)))))))).Perm ((s ++ r5) ++ (h ++ (r0 ++ (r1 ++ (r2 ++ (r3 ++ r4)))))) := by
  classical
  rw [List.perm_iff_count]
  intro a
  simp only [List.count_append, List.count_cons, List.count_nil]
  omega
theorem pm_7g {α : Type} {g : α} {st co la h r0 r1 r2 r3 r4 r5 : List α} : (g :: (st ++ (co ++ (la ++ (h ++ (r0 ++ (r1 ++ (r2 ++ (r3 ++ (r4 ++ (r5 ++ []))))))))))).Perm ((h ++ (r0 ++ (r1 ++ (r2 ++ (r3 ++ (r4 ++ (r5 ++ st))))))) ++ (g :: (co ++ la))) := by
  classical
  rw [List.perm_iff_count]
  intro a
  simp only [List.count_append, List.count_cons, List.count_nil]
  omega
theorem pm_7 {cI cS : ClassId} {hh : Nat → Nat} {hX hC : Int32} {hR : Nat → StT} {g : Nat × va_E} {st co la : va_W} : (g :: (st ++ (co ++ (la ++ wX2t cI cS hh hX hC hR [])))).Perm (wX2t cI cS hh hX hC hR st ++ (g :: (co ++ la))) := pm_7g
theorem gw_5 : Cond.selects RX7 yX7_isPosition yX7_isPosition ∈ GW := gw_mem 5 (by decide +kernel) (by decide +kernel)
theorem gw_7 : Cond.initialized RL ∈ GW := gw_mem 7 (by decide +kernel) (by decide +kernel)
theorem gw_14 : Cond.initialized RX2 ∈ GW := gw_mem 14 (by decide +kernel) (by decide +kernel)
theorem nw_76 : Cond.fieldLinkNest RX7 178 "GapBuffer$Layout" "capacity" "I" "GapBuffer" ∈ NW := nw_mem 76 (by decide +kernel) (by decide +kernel)
theorem nw_79 : Cond.fieldLinkNest RX7 181 "GapBuffer$Layout" "gapStart" "I" "GapBuffer" ∈ NW := nw_mem 79 (by decide +kernel) (by decide +kernel)
theorem nw_84 : Cond.fieldLinkNest RX7 190 "GapBuffer$Layout" "copied" "I" "GapBuffer" ∈ NW := nw_mem 84 (by decide +kernel) (by decide +kernel)
theorem nw_87 : Cond.fieldLinkNest RX7 193 "GapBuffer$Layout" "growths" "I" "GapBuffer" ∈ NW := nw_mem 87 (by decide +kernel) (by decide +kernel)
theorem nw_90 : Cond.fieldLinkNest RX7 196 "GapBuffer$Layout" "shrinks" "I" "GapBuffer" ∈ NW := nw_mem 90 (by decide +kernel) (by decide +kernel)
theorem nw_105 : Cond.fieldLinkNest RX7 60 "GapBuffer$State" "text" "LGapBuffer$Bytes;" "GapBuffer" ∈ NW := nw_mem 105 (by decide +kernel) (by decide +kernel)
theorem nw_107 : Cond.fieldLinkNest RX7 143 "GapBuffer$State" "clipboard" "LGapBuffer$Bytes;" "GapBuffer" ∈ NW := nw_mem 107 (by decide +kernel) (by decide +kernel)
theorem nw_109 : Cond.fieldLinkNest RX7 123 "GapBuffer$State" "marks" "LGapBuffer$Marks;" "GapBuffer" ∈ NW := nw_mem 109 (by decide +kernel) (by decide +kernel)
theorem nw_111 : Cond.fieldLinkNest RX7 175 "GapBuffer$State" "layout" "LGapBuffer$Layout;" "GapBuffer" ∈ NW := nw_mem 111 (by decide +kernel) (by decide +kernel)
theorem nw_113 : Cond.fieldLinkNest RX7 88 "GapBuffer$State" "caret" "I" "GapBuffer" ∈ NW := nw_mem 113 (by decide +kernel) (by decide +kernel)
theorem nw_116 : Cond.fieldLinkNest RX7 113 "GapBuffer$State" "isEager" "Z" "GapBuffer" ∈ NW := nw_mem 116 (by decide +kernel) (by decide +kernel)
theorem gw_141 : Cond.fieldLink RX2 11 "GapBuffer$History" "rows" "[LGapBuffer$State;" ∈ GW := gw_mem 141 (by decide +kernel) (by decide +kernel)
theorem gw_142 : Cond.fieldLink RX2 17 "GapBuffer$History" "next" "I" ∈ GW := gw_mem 142 (by decide +kernel) (by decide +kernel)
theorem gw_143 : Cond.fieldLink RX2 21 "GapBuffer$History" "count" "I" ∈ GW := gw_mem 143 (by decide +kernel) (by decide +kernel)
theorem gw_184 : Cond.fieldLink RX7 10 "GapBuffer" "state" "LGapBuffer$State;" ∈ GW := gw_mem 184 (by decide +kernel) (by decide +kernel)
theorem gw_185 : Cond.fieldLink RX7 19 "GapBuffer" "history" "LGapBuffer$History;" ∈ GW := gw_mem 185 (by decide +kernel) (by decide +kernel)
theorem gw_197 : Cond.methodLink RL 103 yX7_undo ∈ GW := gw_mem 197 (by decide +kernel) (by decide +kernel)
theorem gw_198 : Cond.instanceMethod yX7_undo ∈ GW := gw_mem 198 (by decide +kernel) (by decide +kernel)
theorem gw_199 : Cond.selects RX7 yX7_undo yX7_undo ∈ GW := gw_mem 199 (by decide +kernel) (by decide +kernel)
theorem gw_200 : Cond.code yX7_undo cX7_undo 1 (some .int) ∈ GW := gw_mem 200 (by decide +kernel) (by decide +kernel)
theorem gw_201 : Cond.methodLink RX7 229 yX2_count ∈ GW := gw_mem 201 (by decide +kernel) (by decide +kernel)
theorem gw_202 : Cond.instanceMethod yX2_count ∈ GW := gw_mem 202 (by decide +kernel) (by decide +kernel)
theorem gw_203 : Cond.selects RX2 yX2_count yX2_count ∈ GW := gw_mem 203 (by decide +kernel) (by decide +kernel)
theorem gw_204 : Cond.code yX2_count cX2_count 1 (some .int) ∈ GW := gw_mem 204 (by decide +kernel) (by decide +kernel)
theorem gw_205 : Cond.methodLink RX7 49 yX7_requireState ∈ GW := gw_mem 205 (by decide +kernel) (by decide +kernel)
theorem gw_206 : Cond.static yX7_requireState ∈ GW := gw_mem 206 (by decide +kernel) (by decide +kernel)
theorem gw_207 : Cond.code yX7_requireState cX7_requireState 1 none ∈ GW := gw_mem 207 (by decide +kernel) (by decide +kernel)
theorem gw_271 : Cond.methodLink RX7 232 yX2_restore ∈ GW := gw_mem 271 (by decide +kernel) (by decide +kernel)
theorem gw_272 : Cond.instanceMethod yX2_restore ∈ GW := gw_mem 272 (by decide +kernel) (by decide +kernel)
theorem gw_273 : Cond.selects RX2 yX2_restore yX2_restore ∈ GW := gw_mem 273 (by decide +kernel) (by decide +kernel)
theorem gw_274 : Cond.code yX2_restore cX2_restore 2 none ∈ GW := gw_mem 274 (by decide +kernel) (by decide +kernel)
theorem gw_275 : Cond.methodLink RX2 25 yX6_assign ∈ GW := gw_mem 275 (by decide +kernel) (by decide +kernel)
theorem gw_276 : Cond.instanceMethod yX6_assign ∈ GW := gw_mem 276 (by decide +kernel) (by decide +kernel)
theorem gw_277 : Cond.selects RX6 yX6_assign yX6_assign ∈ GW := gw_mem 277 (by decide +kernel) (by decide +kernel)
theorem gw_278 : Cond.code yX6_assign cX6_assign 2 none ∈ GW := gw_mem 278 (by decide +kernel) (by decide +kernel)
theorem gw_305 : Cond.methodLink RL 110 yX7_savedStates ∈ GW := gw_mem 305 (by decide +kernel) (by decide +kernel)
theorem gw_306 : Cond.instanceMethod yX7_savedStates ∈ GW := gw_mem 306 (by decide +kernel) (by decide +kernel)
theorem gw_307 : Cond.selects RX7 yX7_savedStates yX7_savedStates ∈ GW := gw_mem 307 (by decide +kernel) (by decide +kernel)
theorem gw_308 : Cond.code yX7_savedStates cX7_savedStates 1 (some .int) ∈ GW := gw_mem 308 (by decide +kernel) (by decide +kernel)
theorem gw_309 : Cond.methodLink RL 113 yX7_digest ∈ GW := gw_mem 309 (by decide +kernel) (by decide +kernel)
theorem gw_310 : Cond.instanceMethod yX7_digest ∈ GW := gw_mem 310 (by decide +kernel) (by decide +kernel)
theorem gw_311 : Cond.selects RX7 yX7_digest yX7_digest ∈ GW := gw_mem 311 (by decide +kernel) (by decide +kernel)
theorem gw_312 : Cond.code yX7_digest cX7_digest 1 (some .long) ∈ GW := gw_mem 312 (by decide +kernel) (by decide +kernel)
theorem gw_313 : Cond.methodLink RX7 235 yX6_hash ∈ GW := gw_mem 313 (by decide +kernel) (by decide +kernel)
theorem gw_314 : Cond.instanceMethod yX6_hash ∈ GW := gw_mem 314 (by decide +kernel) (by decide +kernel)
theorem gw_315 : Cond.selects RX6 yX6_hash yX6_hash ∈ GW := gw_mem 315 (by decide +kernel) (by decide +kernel)
theorem gw_316 : Cond.code yX6_hash cX6_hash 4 (some .long) ∈ GW := gw_mem 316 (by decide +kernel) (by decide +kernel)
theorem gw_347 : Cond.methodLink RL 107 yL_cell ∈ GW := gw_mem 347 (by decide +kernel) (by decide +kernel)
theorem gw_348 : Cond.static yL_cell ∈ GW := gw_mem 348 (by decide +kernel) (by decide +kernel)
theorem gw_349 : Cond.code yL_cell cL_cell 2 (some .int) ∈ GW := gw_mem 349 (by decide +kernel) (by decide +kernel)
theorem gw_350 : Cond.methodLink RL 14 yL_low ∈ GW := gw_mem 350 (by decide +kernel) (by decide +kernel)
theorem gw_351 : Cond.static yL_low ∈ GW := gw_mem 351 (by decide +kernel) (by decide +kernel)
theorem gw_352 : Cond.code yL_low cL_low 2 (some .int) ∈ GW := gw_mem 352 (by decide +kernel) (by decide +kernel)
theorem gw_353 : Cond.constant RL 7 2147483647 ∈ GW := gw_mem 353 (by decide +kernel) (by decide +kernel)
theorem gw_354 : Cond.methodLink RL 117 yL_act ∈ GW := gw_mem 354 (by decide +kernel) (by decide +kernel)
theorem gw_355 : Cond.static yL_act ∈ GW := gw_mem 355 (by decide +kernel) (by decide +kernel)
theorem gw_356 : Cond.code yL_act cL_act 10 (some .int) ∈ GW := gw_mem 356 (by decide +kernel) (by decide +kernel)
theorem gw_357 : Cond.methodLink RL 8 yX7_length ∈ GW := gw_mem 357 (by decide +kernel) (by decide +kernel)
theorem gw_358 : Cond.instanceMethod yX7_length ∈ GW := gw_mem 358 (by decide +kernel) (by decide +kernel)
theorem gw_359 : Cond.selects RX7 yX7_length yX7_length ∈ GW := gw_mem 359 (by decide +kernel) (by decide +kernel)
theorem gw_360 : Cond.code yX7_length cX7_length 1 (some .int) ∈ GW := gw_mem 360 (by decide +kernel) (by decide +kernel)
theorem gw_361 : Cond.methodLink RX7 64 yX0_size ∈ GW := gw_mem 361 (by decide +kernel) (by decide +kernel)
theorem gw_362 : Cond.methodLink RL 20 yX7_mark ∈ GW := gw_mem 362 (by decide +kernel) (by decide +kernel)
theorem gw_363 : Cond.instanceMethod yX7_mark ∈ GW := gw_mem 363 (by decide +kernel) (by decide +kernel)
theorem gw_364 : Cond.selects RX7 yX7_mark yX7_mark ∈ GW := gw_mem 364 (by decide +kernel) (by decide +kernel)
theorem gw_365 : Cond.code yX7_mark cX7_mark 2 (some .int) ∈ GW := gw_mem 365 (by decide +kernel) (by decide +kernel)
theorem gw_366 : Cond.methodLink RX7 120 yX7_isMark ∈ GW := gw_mem 366 (by decide +kernel) (by decide +kernel)
theorem gw_367 : Cond.methodLink RX7 82 yX7_requireIndex ∈ GW := gw_mem 367 (by decide +kernel) (by decide +kernel)
theorem gw_368 : Cond.static yX7_requireIndex ∈ GW := gw_mem 368 (by decide +kernel) (by decide +kernel)
theorem gw_369 : Cond.code yX7_requireIndex cX7_requireIndex 1 none ∈ GW := gw_mem 369 (by decide +kernel) (by decide +kernel)
theorem gw_385 : Cond.methodLink RX7 127 yX4_positionOf ∈ GW := gw_mem 385 (by decide +kernel) (by decide +kernel)
theorem gw_386 : Cond.methodLink RL 24 yX7_caret ∈ GW := gw_mem 386 (by decide +kernel) (by decide +kernel)
theorem gw_387 : Cond.instanceMethod yX7_caret ∈ GW := gw_mem 387 (by decide +kernel) (by decide +kernel)
theorem gw_388 : Cond.selects RX7 yX7_caret yX7_caret ∈ GW := gw_mem 388 (by decide +kernel) (by decide +kernel)
theorem gw_389 : Cond.code yX7_caret cX7_caret 1 (some .int) ∈ GW := gw_mem 389 (by decide +kernel) (by decide +kernel)
theorem gw_390 : Cond.methodLink RL 27 yX7_type ∈ GW := gw_mem 390 (by decide +kernel) (by decide +kernel)
theorem gw_391 : Cond.instanceMethod yX7_type ∈ GW := gw_mem 391 (by decide +kernel) (by decide +kernel)
theorem gw_392 : Cond.selects RX7 yX7_type yX7_type ∈ GW := gw_mem 392 (by decide +kernel) (by decide +kernel)
theorem gw_393 : Cond.code yX7_type cX7_type 2 (some .int) ∈ GW := gw_mem 393 (by decide +kernel) (by decide +kernel)
theorem gw_394 : Cond.methodLink RX7 37 yX7_isByte ∈ GW := gw_mem 394 (by decide +kernel) (by decide +kernel)
theorem gw_395 : Cond.static yX7_isByte ∈ GW := gw_mem 395 (by decide +kernel) (by decide +kernel)
theorem gw_396 : Cond.code yX7_isByte cX7_isByte 1 (some .boolean) ∈ GW := gw_mem 396 (by decide +kernel) (by decide +kernel)
theorem gw_397 : Cond.methodLink RX7 41 yX7_requireArgument ∈ GW := gw_mem 397 (by decide +kernel) (by decide +kernel)
theorem gw_398 : Cond.static yX7_requireArgument ∈ GW := gw_mem 398 (by decide +kernel) (by decide +kernel)
theorem gw_399 : Cond.code yX7_requireArgument cX7_requireArgument 1 none ∈ GW := gw_mem 399 (by decide +kernel) (by decide +kernel)
theorem gw_415 : Cond.methodLink RX7 45 yX6_insertFault ∈ GW := gw_mem 415 (by decide +kernel) (by decide +kernel)
theorem gw_419 : Cond.methodLink RX7 52 yX2_save ∈ GW := gw_mem 419 (by decide +kernel) (by decide +kernel)
theorem gw_420 : Cond.instanceMethod yX2_save ∈ GW := gw_mem 420 (by decide +kernel) (by decide +kernel)
theorem gw_421 : Cond.selects RX2 yX2_save yX2_save ∈ GW := gw_mem 421 (by decide +kernel) (by decide +kernel)
theorem gw_422 : Cond.code yX2_save cX2_save 2 none ∈ GW := gw_mem 422 (by decide +kernel) (by decide +kernel)
theorem gw_423 : Cond.methodLink RX2 29 Lib.Math.min.name ∈ GW := gw_mem 423 (by decide +kernel) (by decide +kernel)
theorem gw_426 : Cond.methodLink RX7 56 yX6_insertRepeated ∈ GW := gw_mem 426 (by decide +kernel) (by decide +kernel)
theorem gw_427 : Cond.instanceMethod yX6_insertRepeated ∈ GW := gw_mem 427 (by decide +kernel) (by decide +kernel)
theorem gw_428 : Cond.selects RX6 yX6_insertRepeated yX6_insertRepeated ∈ GW := gw_mem 428 (by decide +kernel) (by decide +kernel)
theorem gw_429 : Cond.code yX6_insertRepeated cX6_insertRepeated 5 none ∈ GW := gw_mem 429 (by decide +kernel) (by decide +kernel)
theorem gw_457 : Cond.methodLink RL 30 yX7_fill ∈ GW := gw_mem 457 (by decide +kernel) (by decide +kernel)
theorem gw_458 : Cond.instanceMethod yX7_fill ∈ GW := gw_mem 458 (by decide +kernel) (by decide +kernel)
theorem gw_459 : Cond.selects RX7 yX7_fill yX7_fill ∈ GW := gw_mem 459 (by decide +kernel) (by decide +kernel)
theorem gw_460 : Cond.code yX7_fill cX7_fill 3 (some .int) ∈ GW := gw_mem 460 (by decide +kernel) (by decide +kernel)
theorem gw_461 : Cond.methodLink RX7 70 yX7_isCount ∈ GW := gw_mem 461 (by decide +kernel) (by decide +kernel)
theorem gw_462 : Cond.static yX7_isCount ∈ GW := gw_mem 462 (by decide +kernel) (by decide +kernel)
theorem gw_463 : Cond.code yX7_isCount cX7_isCount 1 (some .boolean) ∈ GW := gw_mem 463 (by decide +kernel) (by decide +kernel)
theorem gw_464 : Cond.methodLink RL 33 yX7_erase ∈ GW := gw_mem 464 (by decide +kernel) (by decide +kernel)
theorem gw_465 : Cond.instanceMethod yX7_erase ∈ GW := gw_mem 465 (by decide +kernel) (by decide +kernel)
theorem gw_466 : Cond.selects RX7 yX7_erase yX7_erase ∈ GW := gw_mem 466 (by decide +kernel) (by decide +kernel)
theorem gw_467 : Cond.code yX7_erase cX7_erase 2 (some .int) ∈ GW := gw_mem 467 (by decide +kernel) (by decide +kernel)
theorem gw_468 : Cond.methodLink RX7 73 yX6_deleteBehind ∈ GW := gw_mem 468 (by decide +kernel) (by decide +kernel)
theorem gw_469 : Cond.instanceMethod yX6_deleteBehind ∈ GW := gw_mem 469 (by decide +kernel) (by decide +kernel)
theorem gw_470 : Cond.selects RX6 yX6_deleteBehind yX6_deleteBehind ∈ GW := gw_mem 470 (by decide +kernel) (by decide +kernel)
theorem gw_471 : Cond.code yX6_deleteBehind cX6_deleteBehind 3 (some .int) ∈ GW := gw_mem 471 (by decide +kernel) (by decide +kernel)
theorem gw_494 : Cond.methodLink RL 36 yX7_backspace ∈ GW := gw_mem 494 (by decide +kernel) (by decide +kernel)
theorem gw_495 : Cond.instanceMethod yX7_backspace ∈ GW := gw_mem 495 (by decide +kernel) (by decide +kernel)
theorem gw_496 : Cond.selects RX7 yX7_backspace yX7_backspace ∈ GW := gw_mem 496 (by decide +kernel) (by decide +kernel)
theorem gw_497 : Cond.code yX7_backspace cX7_backspace 2 (some .int) ∈ GW := gw_mem 497 (by decide +kernel) (by decide +kernel)
theorem gw_498 : Cond.methodLink RX7 76 yX6_deleteBefore ∈ GW := gw_mem 498 (by decide +kernel) (by decide +kernel)
theorem gw_499 : Cond.instanceMethod yX6_deleteBefore ∈ GW := gw_mem 499 (by decide +kernel) (by decide +kernel)
theorem gw_500 : Cond.selects RX6 yX6_deleteBefore yX6_deleteBefore ∈ GW := gw_mem 500 (by decide +kernel) (by decide +kernel)
theorem gw_501 : Cond.code yX6_deleteBefore cX6_deleteBefore 3 (some .int) ∈ GW := gw_mem 501 (by decide +kernel) (by decide +kernel)
theorem gw_502 : Cond.methodLink RL 39 yX7_moveTo ∈ GW := gw_mem 502 (by decide +kernel) (by decide +kernel)
theorem gw_503 : Cond.instanceMethod yX7_moveTo ∈ GW := gw_mem 503 (by decide +kernel) (by decide +kernel)
theorem gw_504 : Cond.selects RX7 yX7_moveTo yX7_moveTo ∈ GW := gw_mem 504 (by decide +kernel) (by decide +kernel)
theorem gw_505 : Cond.code yX7_moveTo cX7_moveTo 2 (some .int) ∈ GW := gw_mem 505 (by decide +kernel) (by decide +kernel)
theorem gw_506 : Cond.methodLink RX7 79 yX7_isPosition ∈ GW := gw_mem 506 (by decide +kernel) (by decide +kernel)
theorem gw_508 : Cond.instanceMethod yX7_isPosition ∈ GW := gw_mem 508 (by decide +kernel) (by decide +kernel)
theorem gw_509 : Cond.code yX7_isPosition cX7_isPosition 2 (some .boolean) ∈ GW := gw_mem 509 (by decide +kernel) (by decide +kernel)
theorem gw_510 : Cond.methodLink RX7 85 yX6_moveCaret ∈ GW := gw_mem 510 (by decide +kernel) (by decide +kernel)
theorem gw_511 : Cond.instanceMethod yX6_moveCaret ∈ GW := gw_mem 511 (by decide +kernel) (by decide +kernel)
theorem gw_512 : Cond.selects RX6 yX6_moveCaret yX6_moveCaret ∈ GW := gw_mem 512 (by decide +kernel) (by decide +kernel)
theorem gw_513 : Cond.code yX6_moveCaret cX6_moveCaret 2 (some .int) ∈ GW := gw_mem 513 (by decide +kernel) (by decide +kernel)
theorem gw_519 : Cond.methodLink RL 42 yX7_moveBy ∈ GW := gw_mem 519 (by decide +kernel) (by decide +kernel)
theorem gw_520 : Cond.instanceMethod yX7_moveBy ∈ GW := gw_mem 520 (by decide +kernel) (by decide +kernel)
theorem gw_521 : Cond.selects RX7 yX7_moveBy yX7_moveBy ∈ GW := gw_mem 521 (by decide +kernel) (by decide +kernel)
theorem gw_522 : Cond.code yX7_moveBy cX7_moveBy 2 (some .int) ∈ GW := gw_mem 522 (by decide +kernel) (by decide +kernel)
theorem gw_523 : Cond.methodLink RX7 92 Lib.Math.min.name ∈ GW := gw_mem 523 (by decide +kernel) (by decide +kernel)
theorem gw_524 : Cond.methodLink RX7 98 Lib.Math.max.name ∈ GW := gw_mem 524 (by decide +kernel) (by decide +kernel)
theorem gw_525 : Cond.methodLink RL 45 yX7_up ∈ GW := gw_mem 525 (by decide +kernel) (by decide +kernel)
theorem gw_526 : Cond.instanceMethod yX7_up ∈ GW := gw_mem 526 (by decide +kernel) (by decide +kernel)
theorem gw_527 : Cond.selects RX7 yX7_up yX7_up ∈ GW := gw_mem 527 (by decide +kernel) (by decide +kernel)
theorem gw_528 : Cond.code yX7_up cX7_up 1 (some .int) ∈ GW := gw_mem 528 (by decide +kernel) (by decide +kernel)
theorem gw_529 : Cond.methodLink RX7 101 yX6_moveUp ∈ GW := gw_mem 529 (by decide +kernel) (by decide +kernel)
theorem gw_530 : Cond.instanceMethod yX6_moveUp ∈ GW := gw_mem 530 (by decide +kernel) (by decide +kernel)
theorem gw_531 : Cond.selects RX6 yX6_moveUp yX6_moveUp ∈ GW := gw_mem 531 (by decide +kernel) (by decide +kernel)
theorem gw_532 : Cond.code yX6_moveUp cX6_moveUp 2 none ∈ GW := gw_mem 532 (by decide +kernel) (by decide +kernel)
theorem gw_541 : Cond.methodLink RL 48 yX7_down ∈ GW := gw_mem 541 (by decide +kernel) (by decide +kernel)
theorem gw_542 : Cond.instanceMethod yX7_down ∈ GW := gw_mem 542 (by decide +kernel) (by decide +kernel)
theorem gw_543 : Cond.selects RX7 yX7_down yX7_down ∈ GW := gw_mem 543 (by decide +kernel) (by decide +kernel)
theorem gw_544 : Cond.code yX7_down cX7_down 1 (some .int) ∈ GW := gw_mem 544 (by decide +kernel) (by decide +kernel)
theorem gw_545 : Cond.methodLink RX7 104 yX6_moveDown ∈ GW := gw_mem 545 (by decide +kernel) (by decide +kernel)
theorem gw_546 : Cond.instanceMethod yX6_moveDown ∈ GW := gw_mem 546 (by decide +kernel) (by decide +kernel)
theorem gw_547 : Cond.selects RX6 yX6_moveDown yX6_moveDown ∈ GW := gw_mem 547 (by decide +kernel) (by decide +kernel)
theorem gw_548 : Cond.code yX6_moveDown cX6_moveDown 2 none ∈ GW := gw_mem 548 (by decide +kernel) (by decide +kernel)
theorem gw_549 : Cond.methodLink RL 51 yX7_setEager ∈ GW := gw_mem 549 (by decide +kernel) (by decide +kernel)
theorem gw_550 : Cond.instanceMethod yX7_setEager ∈ GW := gw_mem 550 (by decide +kernel) (by decide +kernel)
theorem gw_551 : Cond.selects RX7 yX7_setEager yX7_setEager ∈ GW := gw_mem 551 (by decide +kernel) (by decide +kernel)
theorem gw_552 : Cond.code yX7_setEager cX7_setEager 2 (some .int) ∈ GW := gw_mem 552 (by decide +kernel) (by decide +kernel)
theorem gw_553 : Cond.methodLink RX7 117 yX6_letGapFollow ∈ GW := gw_mem 553 (by decide +kernel) (by decide +kernel)
theorem gw_554 : Cond.methodLink RL 55 yX7_moveInLine ∈ GW := gw_mem 554 (by decide +kernel) (by decide +kernel)
theorem gw_555 : Cond.instanceMethod yX7_moveInLine ∈ GW := gw_mem 555 (by decide +kernel) (by decide +kernel)
theorem gw_556 : Cond.selects RX7 yX7_moveInLine yX7_moveInLine ∈ GW := gw_mem 556 (by decide +kernel) (by decide +kernel)
theorem gw_557 : Cond.code yX7_moveInLine cX7_moveInLine 4 (some .int) ∈ GW := gw_mem 557 (by decide +kernel) (by decide +kernel)
theorem gw_558 : Cond.methodLink RX7 107 yX0_lineBegin ∈ GW := gw_mem 558 (by decide +kernel) (by decide +kernel)
theorem gw_559 : Cond.methodLink RX7 110 yX0_lineEnd ∈ GW := gw_mem 559 (by decide +kernel) (by decide +kernel)
theorem gw_560 : Cond.methodLink RL 58 yX7_setMark ∈ GW := gw_mem 560 (by decide +kernel) (by decide +kernel)
theorem gw_561 : Cond.instanceMethod yX7_setMark ∈ GW := gw_mem 561 (by decide +kernel) (by decide +kernel)
theorem gw_562 : Cond.selects RX7 yX7_setMark yX7_setMark ∈ GW := gw_mem 562 (by decide +kernel) (by decide +kernel)
theorem gw_563 : Cond.code yX7_setMark cX7_setMark 4 (some .int) ∈ GW := gw_mem 563 (by decide +kernel) (by decide +kernel)
theorem gw_564 : Cond.methodLink RX7 132 yX4_place ∈ GW := gw_mem 564 (by decide +kernel) (by decide +kernel)
theorem gw_565 : Cond.methodLink RL 61 yX7_copy ∈ GW := gw_mem 565 (by decide +kernel) (by decide +kernel)
theorem gw_566 : Cond.instanceMethod yX7_copy ∈ GW := gw_mem 566 (by decide +kernel) (by decide +kernel)
theorem gw_567 : Cond.selects RX7 yX7_copy yX7_copy ∈ GW := gw_mem 567 (by decide +kernel) (by decide +kernel)
theorem gw_568 : Cond.code yX7_copy cX7_copy 2 (some .int) ∈ GW := gw_mem 568 (by decide +kernel) (by decide +kernel)
theorem gw_569 : Cond.methodLink RX7 136 yX6_regionFault ∈ GW := gw_mem 569 (by decide +kernel) (by decide +kernel)
theorem gw_570 : Cond.instanceMethod yX6_regionFault ∈ GW := gw_mem 570 (by decide +kernel) (by decide +kernel)
theorem gw_571 : Cond.selects RX6 yX6_regionFault yX6_regionFault ∈ GW := gw_mem 571 (by decide +kernel) (by decide +kernel)
theorem gw_572 : Cond.code yX6_regionFault cX6_regionFault 3 (some .int) ∈ GW := gw_mem 572 (by decide +kernel) (by decide +kernel)
theorem gw_574 : Cond.methodLink RX7 139 yX6_copyRegion ∈ GW := gw_mem 574 (by decide +kernel) (by decide +kernel)
theorem gw_579 : Cond.methodLink RL 64 yX7_cut ∈ GW := gw_mem 579 (by decide +kernel) (by decide +kernel)
theorem gw_580 : Cond.instanceMethod yX7_cut ∈ GW := gw_mem 580 (by decide +kernel) (by decide +kernel)
theorem gw_581 : Cond.selects RX7 yX7_cut yX7_cut ∈ GW := gw_mem 581 (by decide +kernel) (by decide +kernel)
theorem gw_582 : Cond.code yX7_cut cX7_cut 2 (some .int) ∈ GW := gw_mem 582 (by decide +kernel) (by decide +kernel)
theorem gw_583 : Cond.methodLink RX7 146 yX6_cutRegion ∈ GW := gw_mem 583 (by decide +kernel) (by decide +kernel)
theorem gw_584 : Cond.instanceMethod yX6_cutRegion ∈ GW := gw_mem 584 (by decide +kernel) (by decide +kernel)
theorem gw_585 : Cond.selects RX6 yX6_cutRegion yX6_cutRegion ∈ GW := gw_mem 585 (by decide +kernel) (by decide +kernel)
theorem gw_586 : Cond.code yX6_cutRegion cX6_cutRegion 2 none ∈ GW := gw_mem 586 (by decide +kernel) (by decide +kernel)
theorem gw_588 : Cond.methodLink RL 67 yX7_clip ∈ GW := gw_mem 588 (by decide +kernel) (by decide +kernel)
theorem gw_589 : Cond.instanceMethod yX7_clip ∈ GW := gw_mem 589 (by decide +kernel) (by decide +kernel)
theorem gw_590 : Cond.selects RX7 yX7_clip yX7_clip ∈ GW := gw_mem 590 (by decide +kernel) (by decide +kernel)
theorem gw_591 : Cond.code yX7_clip cX7_clip 2 (some .int) ∈ GW := gw_mem 591 (by decide +kernel) (by decide +kernel)
theorem gw_592 : Cond.methodLink RX7 156 yX0_at ∈ GW := gw_mem 592 (by decide +kernel) (by decide +kernel)
theorem gw_593 : Cond.methodLink RL 70 yX7_paste ∈ GW := gw_mem 593 (by decide +kernel) (by decide +kernel)
theorem gw_594 : Cond.instanceMethod yX7_paste ∈ GW := gw_mem 594 (by decide +kernel) (by decide +kernel)
theorem gw_595 : Cond.selects RX7 yX7_paste yX7_paste ∈ GW := gw_mem 595 (by decide +kernel) (by decide +kernel)
theorem gw_596 : Cond.code yX7_paste cX7_paste 1 (some .int) ∈ GW := gw_mem 596 (by decide +kernel) (by decide +kernel)
theorem gw_597 : Cond.methodLink RX7 149 yX6_pasteFault ∈ GW := gw_mem 597 (by decide +kernel) (by decide +kernel)
theorem gw_598 : Cond.instanceMethod yX6_pasteFault ∈ GW := gw_mem 598 (by decide +kernel) (by decide +kernel)
theorem gw_599 : Cond.selects RX6 yX6_pasteFault yX6_pasteFault ∈ GW := gw_mem 599 (by decide +kernel) (by decide +kernel)
theorem gw_600 : Cond.code yX6_pasteFault cX6_pasteFault 1 (some .int) ∈ GW := gw_mem 600 (by decide +kernel) (by decide +kernel)
theorem gw_602 : Cond.methodLink RX7 152 yX6_insertPart ∈ GW := gw_mem 602 (by decide +kernel) (by decide +kernel)
theorem gw_603 : Cond.instanceMethod yX6_insertPart ∈ GW := gw_mem 603 (by decide +kernel) (by decide +kernel)
theorem gw_604 : Cond.selects RX6 yX6_insertPart yX6_insertPart ∈ GW := gw_mem 604 (by decide +kernel) (by decide +kernel)
theorem gw_605 : Cond.code yX6_insertPart cX6_insertPart 6 none ∈ GW := gw_mem 605 (by decide +kernel) (by decide +kernel)
theorem gw_606 : Cond.methodLink RL 121 yL_holds ∈ GW := gw_mem 606 (by decide +kernel) (by decide +kernel)
theorem gw_607 : Cond.static yL_holds ∈ GW := gw_mem 607 (by decide +kernel) (by decide +kernel)
theorem gw_608 : Cond.code yL_holds cL_holds 8 (some .boolean) ∈ GW := gw_mem 608 (by decide +kernel) (by decide +kernel)
theorem gw_609 : Cond.methodLink RL 73 yX7_capacity ∈ GW := gw_mem 609 (by decide +kernel) (by decide +kernel)
theorem gw_610 : Cond.instanceMethod yX7_capacity ∈ GW := gw_mem 610 (by decide +kernel) (by decide +kernel)
theorem gw_611 : Cond.selects RX7 yX7_capacity yX7_capacity ∈ GW := gw_mem 611 (by decide +kernel) (by decide +kernel)
theorem gw_612 : Cond.code yX7_capacity cX7_capacity 1 (some .int) ∈ GW := gw_mem 612 (by decide +kernel) (by decide +kernel)
theorem gw_613 : Cond.methodLink RL 76 yX7_gapStart ∈ GW := gw_mem 613 (by decide +kernel) (by decide +kernel)
theorem gw_614 : Cond.instanceMethod yX7_gapStart ∈ GW := gw_mem 614 (by decide +kernel) (by decide +kernel)
theorem gw_615 : Cond.selects RX7 yX7_gapStart yX7_gapStart ∈ GW := gw_mem 615 (by decide +kernel) (by decide +kernel)
theorem gw_616 : Cond.code yX7_gapStart cX7_gapStart 1 (some .int) ∈ GW := gw_mem 616 (by decide +kernel) (by decide +kernel)
theorem gw_617 : Cond.methodLink RL 79 yX7_room ∈ GW := gw_mem 617 (by decide +kernel) (by decide +kernel)
theorem gw_618 : Cond.instanceMethod yX7_room ∈ GW := gw_mem 618 (by decide +kernel) (by decide +kernel)
theorem gw_619 : Cond.selects RX7 yX7_room yX7_room ∈ GW := gw_mem 619 (by decide +kernel) (by decide +kernel)
theorem gw_620 : Cond.code yX7_room cX7_room 1 (some .int) ∈ GW := gw_mem 620 (by decide +kernel) (by decide +kernel)
theorem gw_621 : Cond.methodLink RL 82 yX7_byteAt ∈ GW := gw_mem 621 (by decide +kernel) (by decide +kernel)
theorem gw_622 : Cond.instanceMethod yX7_byteAt ∈ GW := gw_mem 622 (by decide +kernel) (by decide +kernel)
theorem gw_623 : Cond.selects RX7 yX7_byteAt yX7_byteAt ∈ GW := gw_mem 623 (by decide +kernel) (by decide +kernel)
theorem gw_624 : Cond.code yX7_byteAt cX7_byteAt 2 (some .int) ∈ GW := gw_mem 624 (by decide +kernel) (by decide +kernel)
theorem gw_625 : Cond.methodLink RL 85 yX7_cell ∈ GW := gw_mem 625 (by decide +kernel) (by decide +kernel)
theorem gw_626 : Cond.instanceMethod yX7_cell ∈ GW := gw_mem 626 (by decide +kernel) (by decide +kernel)
theorem gw_627 : Cond.selects RX7 yX7_cell yX7_cell ∈ GW := gw_mem 627 (by decide +kernel) (by decide +kernel)
theorem gw_628 : Cond.code yX7_cell cX7_cell 2 (some .int) ∈ GW := gw_mem 628 (by decide +kernel) (by decide +kernel)
theorem gw_629 : Cond.methodLink RX7 184 yX6_cellAt ∈ GW := gw_mem 629 (by decide +kernel) (by decide +kernel)
theorem gw_630 : Cond.instanceMethod yX6_cellAt ∈ GW := gw_mem 630 (by decide +kernel) (by decide +kernel)
theorem gw_631 : Cond.selects RX6 yX6_cellAt yX6_cellAt ∈ GW := gw_mem 631 (by decide +kernel) (by decide +kernel)
theorem gw_632 : Cond.code yX6_cellAt cX6_cellAt 3 (some .int) ∈ GW := gw_mem 632 (by decide +kernel) (by decide +kernel)
theorem gw_633 : Cond.methodLink RL 88 yX7_lines ∈ GW := gw_mem 633 (by decide +kernel) (by decide +kernel)
theorem gw_634 : Cond.instanceMethod yX7_lines ∈ GW := gw_mem 634 (by decide +kernel) (by decide +kernel)
theorem gw_635 : Cond.selects RX7 yX7_lines yX7_lines ∈ GW := gw_mem 635 (by decide +kernel) (by decide +kernel)
theorem gw_636 : Cond.code yX7_lines cX7_lines 1 (some .int) ∈ GW := gw_mem 636 (by decide +kernel) (by decide +kernel)
theorem gw_637 : Cond.methodLink RX7 163 yX0_lineCount ∈ GW := gw_mem 637 (by decide +kernel) (by decide +kernel)
theorem gw_638 : Cond.methodLink RL 91 yX7_lineOf ∈ GW := gw_mem 638 (by decide +kernel) (by decide +kernel)
theorem gw_639 : Cond.instanceMethod yX7_lineOf ∈ GW := gw_mem 639 (by decide +kernel) (by decide +kernel)
theorem gw_640 : Cond.selects RX7 yX7_lineOf yX7_lineOf ∈ GW := gw_mem 640 (by decide +kernel) (by decide +kernel)
theorem gw_641 : Cond.code yX7_lineOf cX7_lineOf 2 (some .int) ∈ GW := gw_mem 641 (by decide +kernel) (by decide +kernel)
theorem gw_642 : Cond.methodLink RX7 166 yX0_breaksBefore ∈ GW := gw_mem 642 (by decide +kernel) (by decide +kernel)
theorem gw_643 : Cond.methodLink RL 125 yL_isPasted ∈ GW := gw_mem 643 (by decide +kernel) (by decide +kernel)
theorem gw_644 : Cond.static yL_isPasted ∈ GW := gw_mem 644 (by decide +kernel) (by decide +kernel)
theorem gw_645 : Cond.code yL_isPasted cL_isPasted 10 (some .boolean) ∈ GW := gw_mem 645 (by decide +kernel) (by decide +kernel)
theorem gw_646 : Cond.methodLink RL 94 yX7_copied ∈ GW := gw_mem 646 (by decide +kernel) (by decide +kernel)
theorem gw_647 : Cond.instanceMethod yX7_copied ∈ GW := gw_mem 647 (by decide +kernel) (by decide +kernel)
theorem gw_648 : Cond.selects RX7 yX7_copied yX7_copied ∈ GW := gw_mem 648 (by decide +kernel) (by decide +kernel)
theorem gw_649 : Cond.code yX7_copied cX7_copied 1 (some .int) ∈ GW := gw_mem 649 (by decide +kernel) (by decide +kernel)
theorem gw_650 : Cond.methodLink RL 97 yX7_growths ∈ GW := gw_mem 650 (by decide +kernel) (by decide +kernel)
theorem gw_651 : Cond.instanceMethod yX7_growths ∈ GW := gw_mem 651 (by decide +kernel) (by decide +kernel)
theorem gw_652 : Cond.selects RX7 yX7_growths yX7_growths ∈ GW := gw_mem 652 (by decide +kernel) (by decide +kernel)
theorem gw_653 : Cond.code yX7_growths cX7_growths 1 (some .int) ∈ GW := gw_mem 653 (by decide +kernel) (by decide +kernel)
theorem gw_654 : Cond.methodLink RL 100 yX7_shrinks ∈ GW := gw_mem 654 (by decide +kernel) (by decide +kernel)
theorem gw_655 : Cond.instanceMethod yX7_shrinks ∈ GW := gw_mem 655 (by decide +kernel) (by decide +kernel)
theorem gw_656 : Cond.selects RX7 yX7_shrinks yX7_shrinks ∈ GW := gw_mem 656 (by decide +kernel) (by decide +kernel)
theorem gw_657 : Cond.code yX7_shrinks cX7_shrinks 1 (some .int) ∈ GW := gw_mem 657 (by decide +kernel) (by decide +kernel)
theorem gs_L_act : gs_ yL_act cL_act 10 (some .int) 3 := ⟨gw_355, gw_7, gw_356, by decide +kernel⟩
theorem gs_L_cell : gs_ yL_cell cL_cell 2 (some .int) 2 := ⟨gw_348, gw_7, gw_349, by decide +kernel⟩
theorem gs_L_holds : gs_ yL_holds cL_holds 8 (some .boolean) 1 := ⟨gw_607, gw_7, gw_608, by decide +kernel⟩
theorem gs_L_isPasted : gs_ yL_isPasted cL_isPasted 10 (some .boolean) 3 := ⟨gw_644, gw_7, gw_645, by decide +kernel⟩
theorem gs_L_low : gs_ yL_low cL_low 2 (some .int) 2 := ⟨gw_351, gw_7, gw_352, by decide +kernel⟩
theorem gm_X2_count : gm_ yX2_count cX2_count 1 (some .int) 0 := ⟨gw_202, gw_203, gw_14, gw_204, by decide +kernel⟩
theorem gm_X2_restore : gm_ yX2_restore cX2_restore 2 none 1 := ⟨gw_272, gw_273, gw_14, gw_274, by decide +kernel⟩
theorem gm_X2_save : gm_ yX2_save cX2_save 2 none 1 := ⟨gw_420, gw_421, gw_14, gw_422, by decide +kernel⟩
theorem gm_X6_assign : gm_ yX6_assign cX6_assign 2 none 1 := ⟨gw_276, gw_277, gw_9, gw_278, by decide +kernel⟩
theorem gm_X6_cellAt : gm_ yX6_cellAt cX6_cellAt 3 (some .int) 1 := ⟨gw_630, gw_631, gw_9, gw_632, by decide +kernel⟩
theorem gm_X6_cutRegion : gm_ yX6_cutRegion cX6_cutRegion 2 none 1 := ⟨gw_584, gw_585, gw_9, gw_586, by decide +kernel⟩
theorem gm_X6_deleteBefore : gm_ yX6_deleteBefore cX6_deleteBefore 3 (some .int) 1 := ⟨gw_499, gw_500, gw_9, gw_501, by decide +kernel⟩
theorem gm_X6_deleteBehind : gm_ yX6_deleteBehind cX6_deleteBehind 3 (some .int) 1 := ⟨gw_469, gw_470, gw_9, gw_471, by decide +kernel⟩
theorem gm_X6_hash : gm_ yX6_hash cX6_hash 4 (some .long) 0 := ⟨gw_314, gw_315, gw_9, gw_316, by decide +kernel⟩
theorem gm_X6_insertPart : gm_ yX6_insertPart cX6_insertPart 6 none 3 := ⟨gw_603, gw_604, gw_9, gw_605, by decide +kernel⟩
theorem gm_X6_insertRepeated : gm_ yX6_insertRepeated cX6_insertRepeated 5 none 2 := ⟨gw_427, gw_428, gw_9, gw_429, by decide +kernel⟩
theorem gm_X6_moveCaret : gm_ yX6_moveCaret cX6_moveCaret 2 (some .int) 1 := ⟨gw_511, gw_512, gw_9, gw_513, by decide +kernel⟩
theorem gm_X6_moveDown : gm_ yX6_moveDown cX6_moveDown 2 none 0 := ⟨gw_546, gw_547, gw_9, gw_548, by decide +kernel⟩
theorem gm_X6_moveUp : gm_ yX6_moveUp cX6_moveUp 2 none 0 := ⟨gw_530, gw_531, gw_9, gw_532, by decide +kernel⟩
theorem gm_X6_pasteFault : gm_ yX6_pasteFault cX6_pasteFault 1 (some .int) 0 := ⟨gw_598, gw_599, gw_9, gw_600, by decide +kernel⟩
theorem gm_X6_regionFault : gm_ yX6_regionFault cX6_regionFault 3 (some .int) 1 := ⟨gw_570, gw_571, gw_9, gw_572, by decide +kernel⟩
theorem gm_X7_backspace : gm_ yX7_backspace cX7_backspace 2 (some .int) 1 := ⟨gw_495, gw_496, gw_8, gw_497, by decide +kernel⟩
theorem gm_X7_byteAt : gm_ yX7_byteAt cX7_byteAt 2 (some .int) 1 := ⟨gw_622, gw_623, gw_8, gw_624, by decide +kernel⟩
theorem gm_X7_capacity : gm_ yX7_capacity cX7_capacity 1 (some .int) 0 := ⟨gw_610, gw_611, gw_8, gw_612, by decide +kernel⟩
theorem gm_X7_caret : gm_ yX7_caret cX7_caret 1 (some .int) 0 := ⟨gw_387, gw_388, gw_8, gw_389, by decide +kernel⟩
theorem gm_X7_cell : gm_ yX7_cell cX7_cell 2 (some .int) 1 := ⟨gw_626, gw_627, gw_8, gw_628, by decide +kernel⟩
theorem gm_X7_clip : gm_ yX7_clip cX7_clip 2 (some .int) 1 := ⟨gw_589, gw_590, gw_8, gw_591, by decide +kernel⟩
theorem gm_X7_copied : gm_ yX7_copied cX7_copied 1 (some .int) 0 := ⟨gw_647, gw_648, gw_8, gw_649, by decide +kernel⟩
theorem gm_X7_copy : gm_ yX7_copy cX7_copy 2 (some .int) 1 := ⟨gw_566, gw_567, gw_8, gw_568, by decide +kernel⟩
theorem gm_X7_cut : gm_ yX7_cut cX7_cut 2 (some .int) 1 := ⟨gw_580, gw_581, gw_8, gw_582, by decide +kernel⟩
theorem gm_X7_digest : gm_ yX7_digest cX7_digest 1 (some .long) 0 := ⟨gw_310, gw_311, gw_8, gw_312, by decide +kernel⟩
theorem gm_X7_down : gm_ yX7_down cX7_down 1 (some .int) 0 := ⟨gw_542, gw_543, gw_8, gw_544, by decide +kernel⟩
theorem gm_X7_erase : gm_ yX7_erase cX7_erase 2 (some .int) 1 := ⟨gw_465, gw_466, gw_8, gw_467, by decide +kernel⟩
theorem gm_X7_fill : gm_ yX7_fill cX7_fill 3 (some .int) 2 := ⟨gw_458, gw_459, gw_8, gw_460, by decide +kernel⟩
theorem gm_X7_gapStart : gm_ yX7_gapStart cX7_gapStart 1 (some .int) 0 := ⟨gw_614, gw_615, gw_8, gw_616, by decide +kernel⟩
theorem gm_X7_growths : gm_ yX7_growths cX7_growths 1 (some .int) 0 := ⟨gw_651, gw_652, gw_8, gw_653, by decide +kernel⟩
theorem gs_X7_isByte : gs_ yX7_isByte cX7_isByte 1 (some .boolean) 1 := ⟨gw_395, gw_8, gw_396, by decide +kernel⟩
theorem gs_X7_isCount : gs_ yX7_isCount cX7_isCount 1 (some .boolean) 1 := ⟨gw_462, gw_8, gw_463, by decide +kernel⟩
theorem gm_X7_isPosition : gm_ yX7_isPosition cX7_isPosition 2 (some .boolean) 1 := ⟨gw_508, gw_5, gw_8, gw_509, by decide +kernel⟩
theorem gm_X7_length : gm_ yX7_length cX7_length 1 (some .int) 0 := ⟨gw_358, gw_359, gw_8, gw_360, by decide +kernel⟩
theorem gm_X7_lineOf : gm_ yX7_lineOf cX7_lineOf 2 (some .int) 1 := ⟨gw_639, gw_640, gw_8, gw_641, by decide +kernel⟩
theorem gm_X7_lines : gm_ yX7_lines cX7_lines 1 (some .int) 0 := ⟨gw_634, gw_635, gw_8, gw_636, by decide +kernel⟩
theorem gm_X7_mark : gm_ yX7_mark cX7_mark 2 (some .int) 1 := ⟨gw_363, gw_364, gw_8, gw_365, by decide +kernel⟩
theorem gm_X7_moveBy : gm_ yX7_moveBy cX7_moveBy 2 (some .int) 1 := ⟨gw_520, gw_521, gw_8, gw_522, by decide +kernel⟩
theorem gm_X7_moveInLine : gm_ yX7_moveInLine cX7_moveInLine 4 (some .int) 1 := ⟨gw_555, gw_556, gw_8, gw_557, by decide +kernel⟩
theorem gm_X7_moveTo : gm_ yX7_moveTo cX7_moveTo 2 (some .int) 1 := ⟨gw_503, gw_504, gw_8, gw_505, by decide +kernel⟩
theorem gm_X7_paste : gm_ yX7_paste cX7_paste 1 (some .int) 0 := ⟨gw_594, gw_595, gw_8, gw_596, by decide +kernel⟩
theorem gs_X7_requireArgument : gs_ yX7_requireArgument cX7_requireArgument 1 none 1 := ⟨gw_398, gw_8, gw_399, by decide +kernel⟩
theorem gs_X7_requireIndex : gs_ yX7_requireIndex cX7_requireIndex 1 none 1 := ⟨gw_368, gw_8, gw_369, by decide +kernel⟩
theorem gs_X7_requireState : gs_ yX7_requireState cX7_requireState 1 none 1 := ⟨gw_206, gw_8, gw_207, by decide +kernel⟩
theorem gm_X7_room : gm_ yX7_room cX7_room 1 (some .int) 0 := ⟨gw_618, gw_619, gw_8, gw_620, by decide +kernel⟩
theorem gm_X7_savedStates : gm_ yX7_savedStates cX7_savedStates 1 (some .int) 0 := ⟨gw_306, gw_307, gw_8, gw_308, by decide +kernel⟩
theorem gm_X7_setEager : gm_ yX7_setEager cX7_setEager 2 (some .int) 1 := ⟨gw_550, gw_551, gw_8, gw_552, by decide +kernel⟩
theorem gm_X7_setMark : gm_ yX7_setMark cX7_setMark 4 (some .int) 2 := ⟨gw_561, gw_562, gw_8, gw_563, by decide +kernel⟩
theorem gm_X7_shrinks : gm_ yX7_shrinks cX7_shrinks 1 (some .int) 0 := ⟨gw_655, gw_656, gw_8, gw_657, by decide +kernel⟩
theorem gm_X7_type : gm_ yX7_type cX7_type 2 (some .int) 1 := ⟨gw_391, gw_392, gw_8, gw_393, by decide +kernel⟩
theorem gm_X7_undo : gm_ yX7_undo cX7_undo 1 (some .int) 0 := ⟨gw_198, gw_199, gw_8, gw_200, by decide +kernel⟩
theorem gm_X7_up : gm_ yX7_up cX7_up 1 (some .int) 0 := ⟨gw_526, gw_527, gw_8, gw_528, by decide +kernel⟩
