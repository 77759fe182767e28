abbrev rm_X7_lineOf : Room := { frames := 2, cells := 0, slots := 0, locals := 44 }
abbrev rmt_X7_lineOf : Room := { frames := 7, cells := 1, slots := 6, locals := 101 }
def f_X7_lineOf_c8 (Z : Nat) (p1 : Int32) (tN : Int32) (tF : Nat → Int32)  : Option (Int32) :=
    (f_X0_breaksBefore Z p1 256 tN tF).bind fun r1 =>
    some r1
def f_X7_lineOf (Z : Nat) (p1 : Int32) (tN : Int32) (tF : Nat → Int32) : Option ((Int32) ⊕ String) :=
  (f_X7_isPosition Z p1 tN).bind fun r2 =>
  if r2 = 0 then
    some (.inr "java/lang/IndexOutOfBoundsException")
  else
  (f_X7_lineOf_c8 Z p1 tN tF).map Sum.inl
set_option maxRecDepth 100000 in
set_option maxHeartbeats 4000000 in
theorem k_X7_lineOf (l : Launch) (D : va_G) (cI cS cL : ClassId) (Z : Nat) (hh : Nat → Nat) (p1 : Int32) (vCar : Int32) (vGoa : Int32) (vEag : Int32) (tN : Int32) (tF : Nat → Int32) (cN : Int32) (cF : Nat → Int32) (mP : Nat → Int32) (mS : Nat → Int32) (kCap : Int32) (kGap : Int32) (kCar : Int32) (kCop : Int32) (kGro : Int32) (kShr : Int32) (bN : Int32) (bF : Nat → Int32) (rCmd : Int32) (rLet : Int32) (rNum : Int32) (fCap : Int32) (fGap : Int32) (fCar : Int32) (fCop : Int32) (fGro : Int32) (fShr : Int32) (hX : Int32) (hC : Int32) (hR : Nat → StT) {r : Int32} (h : f_X7_lineOf Z p1 tN tF = some (.inl r)) : CI l yX7_lineOf cX7_lineOf 2 (some .int) rm_X7_lineOf D cI cS cL [.ref (hh 0), .int p1] (wX7 cI cS hh vCar vGoa vEag tN tF cN cF mP mS kCap kGap kCar kCop kGro kShr bN bF rCmd rLet rNum fCap fGap fCar fCop fGro fShr hX hC hR) (wX7 cI cS hh vCar vGoa vEag tN tF cN cF mP mS kCap kGap kCar kCop kGro kShr bN bF rCmd rLet rNum fCap fGap fCar fCop fGro fShr hX hC hR) r := by
  refine ent_i (by decide +kernel) (Nat.le_of_ble_eq_true rfl) ?_
  intro p e s m args below meth c A ls hx hb hr hml hlocks hg hown hK hP hD hS hA hl
  have hown : s.vm.findClass RX7 = some m.cls := hown
  have c_8 : f_X7_lineOf_c8 Z p1 tN tF = some r → ∀ (H : Heap) (locs : List Loc), va_P D vwCl (wX7 cI cS hh vCar vGoa vEag tN tF cN cF mP mS kCap kGap kCar kCop kGro kShr bN bF rCmd rLet rNum fCap fGap fCar fCop fGro fShr hX hC hR) H → va_D A (wX7 cI cS hh vCar vGoa vEag tN tF cN cF mP mS kCap kGap kCar kCop kGro kShr bN bF rCmd rLet rNum fCap fGap fCar fCop fGro fShr hX hC hR) → va_S A s.heap H locs → ∀ ls : Array Slot, lv_has ls 2 [(0, .ref (hh 0)), (1, .int p1)] → W p l e rm_X7_lineOf s m args below meth c H locs 0 0 (FI D below args s (wX7 cI cS hh vCar vGoa vEag tN tF cN cF mP mS kCap kGap kCar kCop kGro kShr bN bF rCmd rLet rNum fCap fGap fCar fCop fGro fShr hX hC hR) r A) (F0 m 8 ls []) := by
    intro h H locs hP hD hS ls hl
    unfold f_X7_lineOf_c8 at h
    refine lv_aload_n hx hb dX7_lineOf_8 rfl (lv_at hl 0 rfl) ?_
    refine va_get (D := D) (ci := 7) (v := .ref (hh 1)) (C := RX7) (T := TX7) (N := 4) hx hb hg uX7 hown hK.1 hP 0 rfl rfl 0 (by decide) (hg _ gw_244) (fun _ h9 => h9) rfl dX7_lineOf_9 ?_
    refine va_getN (D := D) (ci := 6) (v := .ref (hh 2)) (C := RX6) (T := TX6) (N := 7) hx hb hg uX6 hown hK.1 hP 1 rfl rfl 0 (by decide) (kk_nest hK nw_158) (fun _ h9 => h9) rfl dX7_lineOf_12 ?_
    refine lv_iload_n hx hb dX7_lineOf_15 rfl (lv_at hl 1 rfl) ?_
    obtain ⟨r1, ec1, h⟩ := bd_some h
    refine cV_i (As := [.int p1]) (rest := []) (wc := (wX0 cI (hh 2) (hh 3) 256 tN tF)) (wc' := (wX0 cI (hh 2) (hh 3) 256 tN tF)) hx hb hml hown hg hK hP hD hS hA hl.1 (k_X0_breaksBefore l D cI cS cL Z (hh 2) (hh 3) p1 256 tN tF ec1) gm_X0_breaksBefore gw_805 ⟨rfl, rfl, by decide, by decide⟩ ⟨Nat.zero_le _, Nat.zero_le _⟩ [2, 3] rfl rfl rfl rfl rfl rfl rfl rfl (Nat.le_of_ble_eq_true rfl) dX7_lineOf_16 (fun H locs hP hD hS => ?_)
    have hP : va_P D vwCl (wX7 cI cS hh vCar vGoa vEag tN tF cN cF mP mS kCap kGap kCar kCop kGro kShr bN bF rCmd rLet rNum fCap fGap fCar fCop fGro fShr hX hC hR) H := hP
    have hD : va_D A (wX7 cI cS hh vCar vGoa vEag tN tF cN cF mP mS kCap kGap kCar kCop kGro kShr bN bF rCmd rLet rNum fCap fGap fCar fCop fGro fShr hX hC hR) := hD
    cases h
    exact ret_i hx hb hr hlocks hP hD hS dX7_lineOf_19 rfl
  have hl : lv_has ls 2 [(0, .ref (hh 0)), (1, .int p1)] := hl
  have hP : va_P D vwCl (wX7 cI cS hh vCar vGoa vEag tN tF cN cF mP mS kCap kGap kCar kCop kGro kShr bN bF rCmd rLet rNum fCap fGap fCar fCop fGro fShr hX hC hR) s.heap := hP
  have hD : va_D A (wX7 cI cS hh vCar vGoa vEag tN tF cN cF mP mS kCap kGap kCar kCop kGro kShr bN bF rCmd rLet rNum fCap fGap fCar fCop fGro fShr hX hC hR) := hD
  show W p l e rm_X7_lineOf s m args below meth c s.heap [] 0 0 (FI D below args s (wX7 cI cS hh vCar vGoa vEag tN tF cN cF mP mS kCap kGap kCar kCop kGro kShr bN bF rCmd rLet rNum fCap fGap fCar fCop fGro fShr hX hC hR) r A) (F0 m 0 ls [])
  unfold f_X7_lineOf at h
  have hmain : ∀ (H : Heap) (locs : List Loc), va_P D vwCl (wX7 cI cS hh vCar vGoa vEag tN tF cN cF mP mS kCap kGap kCar kCop kGro kShr bN bF rCmd rLet rNum fCap fGap fCar fCop fGro fShr hX hC hR) H → va_S A s.heap H locs → W p l e rm_X7_lineOf s m args below meth c H locs 0 0 (FI D below args s (wX7 cI cS hh vCar vGoa vEag tN tF cN cF mP mS kCap kGap kCar kCop kGro kShr bN bF rCmd rLet rNum fCap fGap fCar fCop fGro fShr hX hC hR) r A) (F0 m 0 ls []) := by
    intro H locs hP hS
    refine lv_aload_n hx hb dX7_lineOf_0 rfl (lv_at hl 0 rfl) ?_
    refine lv_iload_n hx hb dX7_lineOf_1 rfl (lv_at hl 1 rfl) ?_
    obtain ⟨r2, ec2, h⟩ := bd_some h
    refine cP_i (As := [.int p1]) (rest := []) (wc := (wX7 cI cS hh vCar vGoa vEag tN tF cN cF mP mS kCap kGap kCar kCop kGro kShr bN bF rCmd rLet rNum fCap fGap fCar fCop fGro fShr hX hC hR)) (wc' := (wX7 cI cS hh vCar vGoa vEag tN tF cN cF mP mS kCap kGap kCar kCop kGro kShr bN bF rCmd rLet rNum fCap fGap fCar fCop fGro fShr hX hC hR)) (ws' := (wX7 cI cS hh vCar vGoa vEag tN tF cN cF mP mS kCap kGap kCar kCop kGro kShr bN bF rCmd rLet rNum fCap fGap fCar fCop fGro fShr hX hC hR)) hx hb hml hown hg hK hP hD hS hA hl.1 (k_X7_isPosition l D cI cS cL Z hh p1 vCar vGoa vEag tN tF cN cF mP mS kCap kGap kCar kCop kGro kShr bN bF rCmd rLet rNum fCap fGap fCar fCop fGro fShr hX hC hR ec2) gm_X7_isPosition gw_675 ⟨rfl, rfl, by decide, by decide⟩ ⟨Nat.zero_le _, Nat.zero_le _⟩ pm_all pm_all rfl rfl rfl rfl rfl rfl (Nat.le_of_ble_eq_true rfl) dX7_lineOf_2 (fun H locs hP hD hS => ?_)
    by_cases q3 : r2 = 0
    · cases it_some q3 h
    replace h := if_some q3 h
    refine cS_v (As := [.int r2]) (rest := []) (wc := []) (wc' := []) hx hb hml hown hg hK hP hD hS hA hl.1 (k_X7_requireIndex l D cI cS cL r2 q3) gs_X7_requireIndex gw_679 ⟨rfl, rfl, by decide, by decide⟩ ⟨Nat.zero_le _, Nat.zero_le _⟩ [] rfl rfl rfl rfl rfl (Nat.le_of_ble_eq_true rfl) dX7_lineOf_5 (fun H locs hP hD hS => ?_)
    have hP : va_P D vwCl (wX7 cI cS hh vCar vGoa vEag tN tF cN cF mP mS kCap kGap kCar kCop kGro kShr bN bF rCmd rLet rNum fCap fGap fCar fCop fGro fShr hX hC hR) H := hP
    have hD : va_D A (wX7 cI cS hh vCar vGoa vEag tN tF cN cF mP mS kCap kGap kCar kCop kGro kShr bN bF rCmd rLet rNum fCap fGap fCar fCop fGro fShr hX hC hR) := hD
    replace h := map_inl h
    exact c_8 h H locs hP hD hS ls (lv_sub hl [0, 1] rfl)
  exact hmain _ _ hP hS
set_option maxRecDepth 100000 in
set_option maxHeartbeats 4000000 in
theorem t_X7_lineOf (l : Launch) (hlt : l.stackTraces = false) (D : va_G) (cI cS cL : ClassId) (Z : Nat) (hh : Nat → Nat) (p1 : Int32) (vCar : Int32) (vGoa : Int32) (vEag : Int32) (tN : Int32) (tF : Nat → Int32) (cN : Int32) (cF : Nat → Int32) (mP : Nat → Int32) (mS : Nat → Int32) (kCap : Int32) (kGap : Int32) (kCar : Int32) (kCop : Int32) (kGro : Int32) (kShr : Int32) (bN : Int32) (bF : Nat → Int32) (rCmd : Int32) (rLet : Int32) (rNum : Int32) (fCap : Int32) (fGap : Int32) (fCar : Int32) (fCop : Int32) (fGro : Int32) (fShr : Int32) (hX : Int32) (hC : Int32) (hR : Nat → StT) {E0 : String}  (h : f_X7_lineOf Z p1 tN tF = some (.inr E0)) : CTi l yX7_lineOf cX7_lineOf 2 (some .int) rmt_X7_lineOf D cI cS cL [.ref (hh 0), .int p1] (wX7 cI cS hh vCar vGoa vEag tN tF cN cF mP mS kCap kGap kCar kCop kGro kShr bN bF rCmd rLet rNum fCap fGap fCar fCop fGro fShr hX hC hR) E0 := by
  refine ent_ti (by decide +kernel) (Nat.le_of_ble_eq_true rfl) ?_
  intro p e s m args below meth c A ls hx hb hr hml hlocks hg hown hK hP hD hS hA hl htab hZ
  have hown : s.vm.findClass RX7 = some m.cls := hown
  have hl : lv_has ls 2 [(0, .ref (hh 0)), (1, .int p1)] := hl
  have hP : va_P D vwCl (wX7 cI cS hh vCar vGoa vEag tN tF cN cF mP mS kCap kGap kCar kCop kGro kShr bN bF rCmd rLet rNum fCap fGap fCar fCop fGro fShr hX hC hR) s.heap := hP
  have hD : va_D A (wX7 cI cS hh vCar vGoa vEag tN tF cN cF mP mS kCap kGap kCar kCop kGro kShr bN bF rCmd rLet rNum fCap fGap fCar fCop fGro fShr hX hC hR) := hD
  show W p l e rmt_X7_lineOf s m args below meth c s.heap [] 0 0 (FT D below (va_Qi (fun _ (_ : Unit) => False) (fun _ _ => False) A) args s (wX7 cI cS hh vCar vGoa vEag tN tF cN cF mP mS kCap kGap kCar kCop kGro kShr bN bF rCmd rLet rNum fCap fGap fCar fCop fGro fShr hX hC hR) E0 A) (F0 m 0 ls [])
  unfold f_X7_lineOf at h
  have hmain : ∀ (H : Heap) (locs : List Loc), va_P D vwCl (wX7 cI cS hh vCar vGoa vEag tN tF cN cF mP mS kCap kGap kCar kCop kGro kShr bN bF rCmd rLet rNum fCap fGap fCar fCop fGro fShr hX hC hR) H → va_S A s.heap H locs → W p l e rmt_X7_lineOf s m args below meth c H locs 0 0 (FT D below (va_Qi (fun _ (_ : Unit) => False) (fun _ _ => False) A) args s (wX7 cI cS hh vCar vGoa vEag tN tF cN cF mP mS kCap kGap kCar kCop kGro kShr bN bF rCmd rLet rNum fCap fGap fCar fCop fGro fShr hX hC hR) E0 A) (F0 m 0 ls []) := by
    intro H locs hP hS
    refine lv_aload_n hx hb dX7_lineOf_0 rfl (lv_at hl 0 rfl) ?_
    refine lv_iload_n hx hb dX7_lineOf_1 rfl (lv_at hl 1 rfl) ?_
    obtain ⟨r4, ec4, h⟩ := bd_some h
    refine cP_i (As := [.int p1]) (rest := []) (wc := (wX7 cI cS hh vCar vGoa vEag tN tF cN cF mP mS kCap kGap kCar kCop kGro kShr bN bF rCmd rLet rNum fCap fGap fCar fCop fGro fShr hX hC hR)) (wc' := (wX7 cI cS hh vCar vGoa vEag tN tF cN cF mP mS kCap kGap kCar kCop kGro kShr bN bF rCmd rLet rNum fCap fGap fCar fCop fGro fShr hX hC hR)) (ws' := (wX7 cI cS hh vCar vGoa vEag tN tF cN cF mP mS kCap kGap kCar kCop kGro kShr bN bF rCmd rLet rNum fCap fGap fCar fCop fGro fShr hX hC hR)) hx hb hml hown hg hK hP hD hS hA hl.1 (k_X7_isPosition l D cI cS cL Z hh p1 vCar vGoa vEag tN tF cN cF mP mS kCap kGap kCar kCop kGro kShr bN bF rCmd rLet rNum fCap fGap fCar fCop fGro fShr hX hC hR ec4) gm_X7_isPosition gw_675 ⟨rfl, rfl, by decide, by decide⟩ ⟨Nat.zero_le _, Nat.zero_le _⟩ pm_all pm_all rfl rfl rfl rfl rfl rfl (Nat.le_of_ble_eq_true rfl) dX7_lineOf_2 (fun H locs hP hD hS => ?_)
    by_cases q5 : r4 = 0
    · replace h := it_some q5 h
      cases h
      exact cT_out (As := [.int r4]) (rest := []) hx hb hml hown hg hK hP hD hS hA hl.1 htab hZ hlocks (t_X7_requireIndex l hlt D cI cS cL r4 q5) gs_X7_requireIndex gw_679 ⟨rfl, rfl, by decide, by decide⟩ ⟨by decide, by decide⟩ rfl rfl (Nat.le_of_ble_eq_true rfl) dX7_lineOf_5
    replace h := if_some q5 h
    refine cS_v (As := [.int r4]) (rest := []) (wc := []) (wc' := []) hx hb hml hown hg hK hP hD hS hA hl.1 (k_X7_requireIndex l D cI cS cL r4 q5) gs_X7_requireIndex gw_679 ⟨rfl, rfl, by decide, by decide⟩ ⟨Nat.zero_le _, Nat.zero_le _⟩ [] rfl rfl rfl rfl rfl (Nat.le_of_ble_eq_true rfl) dX7_lineOf_5 (fun H locs hP hD hS => ?_)
    have hP : va_P D vwCl (wX7 cI cS hh vCar vGoa vEag tN tF cN cF mP mS kCap kGap kCar kCop kGro kShr bN bF rCmd rLet rNum fCap fGap fCar fCop fGro fShr hX hC hR) H := hP
    have hD : va_D A (wX7 cI cS hh vCar vGoa vEag tN tF cN cF mP mS kCap kGap kCar kCop kGro kShr bN bF rCmd rLet rNum fCap fGap fCar fCop fGro fShr hX hC hR) := hD
    exact map_inr h
  exact hmain _ _ hP hS
abbrev rm_X7_columnOf : Room := { frames := 2, cells := 0, slots := 0, locals := 43 }
abbrev rmt_X7_columnOf : Room := { frames := 7, cells := 1, slots := 6, locals := 101 }
def f_X7_columnOf_c8 (Z : Nat) (p1 : Int32) (tN : Int32) (tF : Nat → Int32)  : Option (Int32) :=
    (f_X0_lineBegin Z p1 256 tN tF).bind fun r1 =>
    some (p1 - r1)
def f_X7_columnOf (Z : Nat) (p1 : Int32) (tN : Int32) (tF : Nat → Int32) : Option ((Int32) ⊕ String) :=
  (f_X7_isPosition Z p1 tN).bind fun r2 =>
  if r2 = 0 then
    some (.inr "java/lang/IndexOutOfBoundsException")
  else
  (f_X7_columnOf_c8 Z p1 tN tF).map Sum.inl
set_option maxRecDepth 100000 in
set_option maxHeartbeats 4000000 in
theorem k_X7_columnOf (l : Launch) (D : va_G) (cI cS cL : ClassId) (Z : Nat) (hh : Nat → Nat) (p1 : Int32) (vCar : Int32) (vGoa : Int32) (vEag : Int32) (tN : Int32) (tF : Nat → Int32) (cN : Int32) (cF : Nat → Int32) (mP : Nat → Int32) (mS : Nat → Int32) (kCap : Int32) (kGap : Int32) (kCar : Int32) (kCop : Int32) (kGro : Int32) (kShr : Int32) (bN : Int32) (bF : Nat → Int32) (rCmd : Int32) (rLet : Int32) (rNum : Int32) (fCap : Int32) (fGap : Int32) (fCar : Int32) (fCop : Int32) (fGro : Int32) (fShr : Int32) (hX : Int32) (hC : Int32) (hR : Nat → StT) {r : Int32} (h : f_X7_columnOf Z p1 tN tF = some (.inl r)) : CI l yX7_columnOf cX7_columnOf 2 (some .int) rm_X7_columnOf D cI cS cL [.ref (hh 0), .int p1] (wX7 cI cS hh vCar vGoa vEag tN tF cN cF mP mS kCap kGap kCar kCop kGro kShr bN bF rCmd rLet rNum fCap fGap fCar fCop fGro fShr hX hC hR) (wX7 cI cS hh vCar vGoa vEag tN tF cN cF mP mS kCap kGap kCar kCop kGro kShr bN bF rCmd rLet rNum fCap fGap fCar fCop fGro fShr hX hC hR) r := by
  refine ent_i (by decide +kernel) (Nat.le_of_ble_eq_true rfl) ?_
  intro p e s m args below meth c A ls hx hb hr hml hlocks hg hown hK hP hD hS hA hl
  have hown : s.vm.findClass RX7 = some m.cls := hown
  have c_8 : f_X7_columnOf_c8 Z p1 tN tF = some r → ∀ (H : Heap) (locs : List Loc), va_P D vwCl (wX7 cI cS hh vCar vGoa vEag tN tF cN cF mP mS kCap kGap kCar kCop kGro kShr bN bF rCmd rLet rNum fCap fGap fCar fCop fGro fShr hX hC hR) H → va_D A (wX7 cI cS hh vCar vGoa vEag tN tF cN cF mP mS kCap kGap kCar kCop kGro kShr bN bF rCmd rLet rNum fCap fGap fCar fCop fGro fShr hX hC hR) → va_S A s.heap H locs → ∀ ls : Array Slot, lv_has ls 2 [(0, .ref (hh 0)), (1, .int p1)] → W p l e rm_X7_columnOf s m args below meth c H locs 0 0 (FI D below args s (wX7 cI cS hh vCar vGoa vEag tN tF cN cF mP mS kCap kGap kCar kCop kGro kShr bN bF rCmd rLet rNum fCap fGap fCar fCop fGro fShr hX hC hR) r A) (F0 m 8 ls []) := by
    intro h H locs hP hD hS ls hl
    unfold f_X7_columnOf_c8 at h
    refine lv_iload_n hx hb dX7_columnOf_8 rfl (lv_at hl 1 rfl) ?_
    refine lv_aload_n hx hb dX7_columnOf_9 rfl (lv_at hl 0 rfl) ?_
    refine va_get (D := D) (ci := 7) (v := .ref (hh 1)) (C := RX7) (T := TX7) (N := 4) hx hb hg uX7 hown hK.1 hP 0 rfl rfl 0 (by decide) (hg _ gw_244) (fun _ h9 => h9) rfl dX7_columnOf_10 ?_
    refine va_getN (D := D) (ci := 6) (v := .ref (hh 2)) (C := RX6) (T := TX6) (N := 7) hx hb hg uX6 hown hK.1 hP 1 rfl rfl 0 (by decide) (kk_nest hK nw_158) (fun _ h9 => h9) rfl dX7_columnOf_13 ?_
    refine lv_iload_n hx hb dX7_columnOf_16 rfl (lv_at hl 1 rfl) ?_
    obtain ⟨r1, ec1, h⟩ := bd_some h
    refine cV_i (As := [.int p1]) (rest := [.int p1]) (wc := (wX0 cI (hh 2) (hh 3) 256 tN tF)) (wc' := (wX0 cI (hh 2) (hh 3) 256 tN tF)) hx hb hml hown hg hK hP hD hS hA hl.1 (k_X0_lineBegin l D cI cS cL Z (hh 2) (hh 3) p1 256 tN tF ec1) gm_X0_lineBegin gw_342 ⟨rfl, rfl, by decide, by decide⟩ ⟨Nat.zero_le _, Nat.zero_le _⟩ [2, 3] rfl rfl rfl rfl rfl rfl rfl rfl (Nat.le_of_ble_eq_true rfl) dX7_columnOf_17 (fun H locs hP hD hS => ?_)
    have hP : va_P D vwCl (wX7 cI cS hh vCar vGoa vEag tN tF cN cF mP mS kCap kGap kCar kCop kGro kShr bN bF rCmd rLet rNum fCap fGap fCar fCop fGro fShr hX hC hR) H := hP
    have hD : va_D A (wX7 cI cS hh vCar vGoa vEag tN tF cN cF mP mS kCap kGap kCar kCop kGro kShr bN bF rCmd rLet rNum fCap fGap fCar fCop fGro fShr hX hC hR) := hD
    refine lv_isub hx hb dX7_columnOf_20 ?_
    cases h
    exact ret_i hx hb hr hlocks hP hD hS dX7_columnOf_21 rfl
  have hl : lv_has ls 2 [(0, .ref (hh 0)), (1, .int p1)] := hl
  have hP : va_P D vwCl (wX7 cI cS hh vCar vGoa vEag tN tF cN cF mP mS kCap kGap kCar kCop kGro kShr bN bF rCmd rLet rNum fCap fGap fCar fCop fGro fShr hX hC hR) s.heap := hP
  have hD : va_D A (wX7 cI cS hh vCar vGoa vEag tN tF cN cF mP mS kCap kGap kCar kCop kGro kShr bN bF rCmd rLet rNum fCap fGap fCar fCop fGro fShr hX hC hR) := hD
  show W p l e rm_X7_columnOf s m args below meth c s.heap [] 0 0 (FI D below args s (wX7 cI cS hh vCar vGoa vEag tN tF cN cF mP mS kCap kGap kCar kCop kGro kShr bN bF rCmd rLet rNum fCap fGap fCar fCop fGro fShr hX hC hR) r A) (F0 m 0 ls [])
  unfold f_X7_columnOf at h
  have hmain : ∀ (H : Heap) (locs : List Loc), va_P D vwCl (wX7 cI cS hh vCar vGoa vEag tN tF cN cF mP mS kCap kGap kCar kCop kGro kShr bN bF rCmd rLet rNum fCap fGap fCar fCop fGro fShr hX hC hR) H → va_S A s.heap H locs → W p l e rm_X7_columnOf s m args below meth c H locs 0 0 (FI D below args s (wX7 cI cS hh vCar vGoa vEag tN tF cN cF mP mS kCap kGap kCar kCop kGro kShr bN bF rCmd rLet rNum fCap fGap fCar fCop fGro fShr hX hC hR) r A) (F0 m 0 ls []) := by
    intro H locs hP hS
    refine lv_aload_n hx hb dX7_columnOf_0 rfl (lv_at hl 0 rfl) ?_
    refine lv_iload_n hx hb dX7_columnOf_1 rfl (lv_at hl 1 rfl) ?_
    obtain ⟨r2, ec2, h⟩ := bd_some h
    refine cP_i (As := [.int p1]) (rest := []) (wc := (wX7 cI cS hh vCar vGoa vEag tN tF cN cF mP mS kCap kGap kCar kCop kGro kShr bN bF rCmd rLet rNum fCap fGap fCar fCop fGro fShr hX hC hR)) (wc' := (wX7 cI cS hh vCar vGoa vEag tN tF cN cF mP mS kCap kGap kCar kCop kGro kShr bN bF rCmd rLet rNum fCap fGap fCar fCop fGro fShr hX hC hR)) (ws' := (wX7 cI cS hh vCar vGoa vEag tN tF cN cF mP mS kCap kGap kCar kCop kGro kShr bN bF rCmd rLet rNum fCap fGap fCar fCop fGro fShr hX hC hR)) hx hb hml hown hg hK hP hD hS hA hl.1 (k_X7_isPosition l D cI cS cL Z hh p1 vCar vGoa vEag tN tF cN cF mP mS kCap kGap kCar kCop kGro kShr bN bF rCmd rLet rNum fCap fGap fCar fCop fGro fShr hX hC hR ec2) gm_X7_isPosition gw_675 ⟨rfl, rfl, by decide, by decide⟩ ⟨Nat.zero_le _, Nat.zero_le _⟩ pm_all pm_all rfl rfl rfl rfl rfl rfl (Nat.le_of_ble_eq_true rfl) dX7_columnOf_2 (fun H locs hP hD hS => ?_)
    by_cases q3 : r2 = 0
    · cases it_some q3 h
    replace h := if_some q3 h
    refine cS_v (As := [.int r2]) (rest := []) (wc := []) (wc' := []) hx hb hml hown hg hK hP hD hS hA hl.1 (k_X7_requireIndex l D cI cS cL r2 q3) gs_X7_requireIndex gw_679 ⟨rfl, rfl, by decide, by decide⟩ ⟨Nat.zero_le _, Nat.zero_le _⟩ [] rfl rfl rfl rfl rfl (Nat.le_of_ble_eq_true rfl) dX7_columnOf_5 (fun H locs hP hD hS => ?_)
    have hP : va_P D vwCl (wX7 cI cS hh vCar vGoa vEag tN tF cN cF mP mS kCap kGap kCar kCop kGro kShr bN bF rCmd rLet rNum fCap fGap fCar fCop fGro fShr hX hC hR) H := hP
    have hD : va_D A (wX7 cI cS hh vCar vGoa vEag tN tF cN cF mP mS kCap kGap kCar kCop kGro kShr bN bF rCmd rLet rNum fCap fGap fCar fCop fGro fShr hX hC hR) := hD
    replace h := map_inl h
    exact c_8 h H locs hP hD hS ls (lv_sub hl [0, 1] rfl)
  exact hmain _ _ hP hS
set_option maxRecDepth 100000 in
set_option maxHeartbeats 4000000 in
theorem t_X7_columnOf (l : Launch) (hlt : l.stackTraces = false) (D : va_G) (cI cS cL : ClassId) (Z : Nat) (hh : Nat → Nat) (p1 : Int32) (vCar : Int32) (vGoa : Int32) (vEag : Int32) (tN : Int32) (tF : Nat → Int32) (cN : Int32) (cF : Nat → Int32) (mP : Nat → Int32) (mS : Nat → Int32) (kCap : Int32) (kGap : Int32) (kCar : Int32) (kCop : Int32) (kGro : Int32) (kShr : Int32) (bN : Int32) (bF : Nat → Int32) (rCmd : Int32) (rLet : Int32) (rNum : Int32) (fCap : Int32) (fGap : Int32) (fCar : Int32) (fCop : Int32) (fGro : Int32) (fShr : Int32) (hX : Int32) (hC : Int32) (hR : Nat → StT) {E0 : String}  (h : f_X7_columnOf Z p1 tN tF = some (.inr E0)) : CTi l yX7_columnOf cX7_columnOf 2 (some .int) rmt_X7_columnOf D cI cS cL [.ref (hh 0), .int p1] (wX7 cI cS hh vCar vGoa vEag tN tF cN cF mP mS kCap kGap kCar kCop kGro kShr bN bF rCmd rLet rNum fCap fGap fCar fCop fGro fShr hX hC hR) E0 := by
  refine ent_ti (by decide +kernel) (Nat.le_of_ble_eq_true rfl) ?_
  intro p e s m args below meth c A ls hx hb hr hml hlocks hg hown hK hP hD hS hA hl htab hZ
  have hown : s.vm.findClass RX7 = some m.cls := hown
  have hl : lv_has ls 2 [(0, .ref (hh 0)), (1, .int p1)] := hl
  have hP : va_P D vwCl (wX7 cI cS hh vCar vGoa vEag tN tF cN cF mP mS kCap kGap kCar kCop kGro kShr bN bF rCmd rLet rNum fCap fGap fCar fCop fGro fShr hX hC hR) s.heap := hP
  have hD : va_D A (wX7 cI cS hh vCar vGoa vEag tN tF cN cF mP mS kCap kGap kCar kCop kGro kShr bN bF rCmd rLet rNum fCap fGap fCar fCop fGro fShr hX hC hR) := hD
  show W p l e rmt_X7_columnOf s m args below meth c s.heap [] 0 0 (FT D below (va_Qi (fun _ (_ : Unit) => False) (fun _ _ => False) A) args s (wX7 cI cS hh vCar vGoa vEag tN tF cN cF mP mS kCap kGap kCar kCop kGro kShr bN bF rCmd rLet rNum fCap fGap fCar fCop fGro fShr hX hC hR) E0 A) (F0 m 0 ls [])
  unfold f_X7_columnOf at h
  have hmain : ∀ (H : Heap) (locs : List Loc), va_P D vwCl (wX7 cI cS hh vCar vGoa vEag tN tF cN cF mP mS kCap kGap kCar kCop kGro kShr bN bF rCmd rLet rNum fCap fGap fCar fCop fGro fShr hX hC hR) H → va_S A s.heap H locs → W p l e rmt_X7_columnOf s m args below meth c H locs 0 0 (FT D below (va_Qi (fun _ (_ : Unit) => False) (fun _ _ => False) A) args s (wX7 cI cS hh vCar vGoa vEag tN tF cN cF mP mS kCap kGap kCar kCop kGro kShr bN bF rCmd rLet rNum fCap fGap fCar fCop fGro fShr hX hC hR) E0 A) (F0 m 0 ls []) := by
    intro H locs hP hS
    refine lv_aload_n hx hb dX7_columnOf_0 rfl (lv_at hl 0 rfl) ?_
    refine lv_iload_n hx hb dX7_columnOf_1 rfl (lv_at hl 1 rfl) ?_
    obtain ⟨r4, ec4, h⟩ := bd_some h
    refine cP_i (As := [.int p1]) (rest := []) (wc := (wX7 cI cS hh vCar vGoa vEag tN tF cN cF mP mS kCap kGap kCar kCop kGro kShr bN bF rCmd rLet rNum fCap fGap fCar fCop fGro fShr hX hC hR)) (wc' := (wX7 cI cS hh vCar vGoa vEag tN tF cN cF mP mS kCap kGap kCar kCop kGro kShr bN bF rCmd rLet rNum fCap fGap fCar fCop fGro fShr hX hC hR)) (ws' := (wX7 cI cS hh vCar vGoa vEag tN tF cN cF mP mS kCap kGap kCar kCop kGro kShr bN bF rCmd rLet rNum fCap fGap fCar fCop fGro fShr hX hC hR)) hx hb hml hown hg hK hP hD hS hA hl.1 (k_X7_isPosition l D cI cS cL Z hh p1 vCar vGoa vEag tN tF cN cF mP mS kCap kGap kCar kCop kGro kShr bN bF rCmd rLet rNum fCap fGap fCar fCop fGro fShr hX hC hR ec4) gm_X7_isPosition gw_675 ⟨rfl, rfl, by decide, by decide⟩ ⟨Nat.zero_le _, Nat.zero_le _⟩ pm_all pm_all rfl rfl rfl rfl rfl rfl (Nat.le_of_ble_eq_true rfl) dX7_columnOf_2 (fun H locs hP hD hS => ?_)
    by_cases q5 : r4 = 0
    · replace h := it_some q5 h
      cases h
      exact cT_out (As := [.int r4]) (rest := []) hx hb hml hown hg hK hP hD hS hA hl.1 htab hZ hlocks (t_X7_requireIndex l hlt D cI cS cL r4 q5) gs_X7_requireIndex gw_679 ⟨rfl, rfl, by decide, by decide⟩ ⟨by decide, by decide⟩ rfl rfl (Nat.le_of_ble_eq_true rfl) dX7_columnOf_5
    replace h := if_some q5 h
    refine cS_v (As := [.int r4]) (rest := []) (wc := []) (wc' := []) hx hb hml hown hg hK hP hD hS hA hl.1 (k_X7_requireIndex l D cI cS cL r4 q5) gs_X7_requireIndex gw_679 ⟨rfl, rfl, by decide, by decide⟩ ⟨Nat.zero_le _, Nat.zero_le _⟩ [] rfl rfl rfl rfl rfl (Nat.le_of_ble_eq_true rfl) dX7_columnOf_5 (fun H locs hP hD hS => ?_)
    have hP : va_P D vwCl (wX7 cI cS hh vCar vGoa vEag tN tF cN cF mP mS kCap kGap kCar kCop kGro kShr bN bF rCmd rLet rNum fCap fGap fCar fCop fGro fShr hX hC hR) H := hP
    have hD : va_D A (wX7 cI cS hh vCar vGoa vEag tN tF cN cF mP mS kCap kGap kCar kCop kGro kShr bN bF rCmd rLet rNum fCap fGap fCar fCop fGro fShr hX hC hR) := hD
    exact map_inr h
  exact hmain _ _ hP hS
abbrev rm_X7_isLine : Room := { frames := 3, cells := 0, slots := 0, locals := 64 }
def f_X7_isLine (Z : Nat) (p1 : Int32) (tN : Int32) (tF : Nat → Int32) : Option (Int32) :=
  if p1 < 0 then
    some 0
  else
    (f_X0_lineCount Z 256 tN tF).bind fun r2 =>
    if r2 ≤ p1 then
      some 0
    else
      some 1
set_option maxRecDepth 100000 in
set_option maxHeartbeats 4000000 in
theorem k_X7_isLine (l : Launch) (D : va_G) (cI cS cL : ClassId) (Z : Nat) (hh : Nat → Nat) (p1 : Int32) (vCar : Int32) (vGoa : Int32) (vEag : Int32) (tN : Int32) (tF : Nat → Int32) (cN : Int32) (cF : Nat → Int32) (mP : Nat → Int32) (mS : Nat → Int32) (kCap : Int32) (kGap : Int32) (kCar : Int32) (kCop : Int32) (kGro : Int32) (kShr : Int32) (bN : Int32) (bF : Nat → Int32) (rCmd : Int32) (rLet : Int32) (rNum : Int32) (fCap : Int32) (fGap : Int32) (fCar : Int32) (fCop : Int32) (fGro : Int32) (fShr : Int32) (hX : Int32) (hC : Int32) (hR : Nat → StT) {r : Int32} (h : f_X7_isLine Z p1 tN tF = some r) : CI l yX7_isLine cX7_isLine 2 (some .boolean) rm_X7_isLine D cI cS cL [.ref (hh 0), .int p1] (wX7 cI cS hh vCar vGoa vEag tN tF cN cF mP mS kCap kGap kCar kCop kGro kShr bN bF rCmd rLet rNum fCap fGap fCar fCop fGro fShr hX hC hR) (wX7 cI cS hh vCar vGoa vEag tN tF cN cF mP mS kCap kGap kCar kCop kGro kShr bN bF rCmd rLet rNum fCap fGap fCar fCop fGro fShr hX hC hR) r := by
  refine ent_i (by decide +kernel) (Nat.le_of_ble_eq_true rfl) ?_
  intro p e s m args below meth c A ls hx hb hr hml hlocks hg hown hK hP hD hS hA hl
  have hown : s.vm.findClass RX7 = some m.cls := hown
  have hl : lv_has ls 2 [(0, .ref (hh 0)), (1, .int p1)] := hl
  have hP : va_P D vwCl (wX7 cI cS hh vCar vGoa vEag tN tF cN cF mP mS kCap kGap kCar kCop kGro kShr bN bF rCmd rLet rNum fCap fGap fCar fCop fGro fShr hX hC hR) s.heap := hP
  have hD : va_D A (wX7 cI cS hh vCar vGoa vEag tN tF cN cF mP mS kCap kGap kCar kCop kGro kShr bN bF rCmd rLet rNum fCap fGap fCar fCop fGro fShr hX hC hR) := hD
  show W p l e rm_X7_isLine s m args below meth c s.heap [] 0 0 (FI D below args s (wX7 cI cS hh vCar vGoa vEag tN tF cN cF mP mS kCap kGap kCar kCop kGro kShr bN bF rCmd rLet rNum fCap fGap fCar fCop fGro fShr hX hC hR) r A) (F0 m 0 ls [])
  unfold f_X7_isLine at h
  have hmain : ∀ (H : Heap) (locs : List Loc), va_P D vwCl (wX7 cI cS hh vCar vGoa vEag tN tF cN cF mP mS kCap kGap kCar kCop kGro kShr bN bF rCmd rLet rNum fCap fGap fCar fCop fGro fShr hX hC hR) H → va_S A s.heap H locs → W p l e rm_X7_isLine s m args below meth c H locs 0 0 (FI D below args s (wX7 cI cS hh vCar vGoa vEag tN tF cN cF mP mS kCap kGap kCar kCop kGro kShr bN bF rCmd rLet rNum fCap fGap fCar fCop fGro fShr hX hC hR) r A) (F0 m 0 ls []) := by
    intro H locs hP hS
    refine lv_iload_n hx hb dX7_isLine_0 rfl (lv_at hl 1 rfl) ?_
    refine lv_if_lt (tgt := 22) hx hb dX7_isLine_1 (by decide) (fun q1 => ?_) (fun q1 => ?_)
    · replace h := it_some q1 h
      refine lv_iconst (v := 0) hx hb dX7_isLine_22 (by decide) ?_
      cases h
      exact ret_z hx hb hr hlocks hP hD hS dX7_isLine_23 (Or.inl rfl) rfl
    · replace h := if_some q1 h
      refine lv_iload_n hx hb dX7_isLine_4 rfl (lv_at hl 1 rfl) ?_
      refine lv_aload_n hx hb dX7_isLine_5 rfl (lv_at hl 0 rfl) ?_
      refine va_get (D := D) (ci := 7) (v := .ref (hh 1)) (C := RX7) (T := TX7) (N := 4) hx hb hg uX7 hown hK.1 hP 0 rfl rfl 0 (by decide) (hg _ gw_244) (fun _ h9 => h9) rfl dX7_isLine_6 ?_
      refine va_getN (D := D) (ci := 6) (v := .ref (hh 2)) (C := RX6) (T := TX6) (N := 7) hx hb hg uX6 hown hK.1 hP 1 rfl rfl 0 (by decide) (kk_nest hK nw_158) (fun _ h9 => h9) rfl dX7_isLine_9 ?_
      obtain ⟨r2, ec2, h⟩ := bd_some h
      refine cV_i (As := []) (rest := [.int p1]) (wc := (wX0 cI (hh 2) (hh 3) 256 tN tF)) (wc' := (wX0 cI (hh 2) (hh 3) 256 tN tF)) hx hb hml hown hg hK hP hD hS hA hl.1 (k_X0_lineCount l D cI cS cL Z (hh 2) (hh 3) 256 tN tF ec2) gm_X0_lineCount gw_370 ⟨rfl, rfl, by decide, by decide⟩ ⟨Nat.zero_le _, Nat.zero_le _⟩ [2, 3] rfl rfl rfl rfl rfl rfl rfl rfl (Nat.le_of_ble_eq_true rfl) dX7_isLine_12 (fun H locs hP hD hS => ?_)
      have hP : va_P D vwCl (wX7 cI cS hh vCar vGoa vEag tN tF cN cF mP mS kCap kGap kCar kCop kGro kShr bN bF rCmd rLet rNum fCap fGap fCar fCop fGro fShr hX hC hR) H := hP
      have hD : va_D A (wX7 cI cS hh vCar vGoa vEag tN tF cN cF mP mS kCap kGap kCar kCop kGro kShr bN bF rCmd rLet rNum fCap fGap fCar fCop fGro fShr hX hC hR) := hD
      refine lv_icmp_ge (tgt := 22) hx hb dX7_isLine_15 (by decide) (fun q3 => ?_) (fun q3 => ?_)
      · replace h := it_some q3 h
        refine lv_iconst (v := 0) hx hb dX7_isLine_22 (by decide) ?_
        cases h
        exact ret_z hx hb hr hlocks hP hD hS dX7_isLine_23 (Or.inl rfl) rfl
      · replace h := if_some q3 h
        refine lv_iconst (v := 1) hx hb dX7_isLine_18 (by decide) ?_
        refine lv_goto (tgt := 23) hx hb dX7_isLine_19 (by decide) ?_
        cases h
        exact ret_z hx hb hr hlocks hP hD hS dX7_isLine_23 (Or.inr rfl) rfl
  exact hmain _ _ hP hS
abbrev rm_X7_lineStart : Room := { frames := 4, cells := 0, slots := 0, locals := 85 }
abbrev rmt_X7_lineStart : Room := { frames := 7, cells := 1, slots := 6, locals := 101 }
def f_X7_lineStart_c8 (Z : Nat) (p1 : Int32) (tN : Int32) (tF : Nat → Int32)  : Option (Int32) :=
    (f_X0_beginOfLine Z p1 256 tN tF).bind fun r1 =>
    some r1
def f_X7_lineStart (Z : Nat) (p1 : Int32) (tN : Int32) (tF : Nat → Int32) : Option ((Int32) ⊕ String) :=
  (f_X7_isLine Z p1 tN tF).bind fun r2 =>
  if r2 = 0 then
    some (.inr "java/lang/IndexOutOfBoundsException")
  else
  (f_X7_lineStart_c8 Z p1 tN tF).map Sum.inl
set_option maxRecDepth 100000 in
set_option maxHeartbeats 4000000 in
theorem k_X7_lineStart (l : Launch) (D : va_G) (cI cS cL : ClassId) (Z : Nat) (hh : Nat → Nat) (p1 : Int32) (vCar : Int32) (vGoa : Int32) (vEag : Int32) (tN : Int32) (tF : Nat → Int32) (cN : Int32) (cF : Nat → Int32) (mP : Nat → Int32) (mS : Nat → Int32) (kCap : Int32) (kGap : Int32) (kCar : Int32) (kCop : Int32) (kGro : Int32) (kShr : Int32) (bN : Int32) (bF : Nat → Int32) (rCmd : Int32) (rLet : Int32) (rNum : Int32) (fCap : Int32) (fGap : Int32) (fCar : Int32) (fCop : Int32) (fGro : Int32) (fShr : Int32) (hX : Int32) (hC : Int32) (hR : Nat → StT) {r : Int32} (h : f_X7_lineStart Z p1 tN tF = some (.inl r)) : CI l yX7_lineStart cX7_lineStart 2 (some .int) rm_X7_lineStart D cI cS cL [.ref (hh 0), .int p1] (wX7 cI cS hh vCar vGoa vEag tN tF cN cF mP mS kCap kGap kCar kCop kGro kShr bN bF rCmd rLet rNum fCap fGap fCar fCop fGro fShr hX hC hR) (wX7 cI cS hh vCar vGoa vEag tN tF cN cF mP mS kCap kGap kCar kCop kGro kShr bN bF rCmd rLet rNum fCap fGap fCar fCop fGro fShr hX hC hR) r := by
  refine ent_i (by decide +kernel) (Nat.le_of_ble_eq_true rfl) ?_
  intro p e s m args below meth c A ls hx hb hr hml hlocks hg hown hK hP hD hS hA hl
  have hown : s.vm.findClass RX7 = some m.cls := hown
  have c_8 : f_X7_lineStart_c8 Z p1 tN tF = some r → ∀ (H : Heap) (locs : List Loc), va_P D vwCl (wX7 cI cS hh vCar vGoa vEag tN tF cN cF mP mS kCap kGap kCar kCop kGro kShr bN bF rCmd rLet rNum fCap fGap fCar fCop fGro fShr hX hC hR) H → va_D A (wX7 cI cS hh vCar vGoa vEag tN tF cN cF mP mS kCap kGap kCar kCop kGro kShr bN bF rCmd rLet rNum fCap fGap fCar fCop fGro fShr hX hC hR) → va_S A s.heap H locs → ∀ ls : Array Slot, lv_has ls 2 [(0, .ref (hh 0)), (1, .int p1)] → W p l e rm_X7_lineStart s m args below meth c H locs 0 0 (FI D below args s (wX7 cI cS hh vCar vGoa vEag tN tF cN cF mP mS kCap kGap kCar kCop kGro kShr bN bF rCmd rLet rNum fCap fGap fCar fCop fGro fShr hX hC hR) r A) (F0 m 8 ls []) := by
    intro h H locs hP hD hS ls hl
    unfold f_X7_lineStart_c8 at h
    refine lv_aload_n hx hb dX7_lineStart_8 rfl (lv_at hl 0 rfl) ?_
    refine va_get (D := D) (ci := 7) (v := .ref (hh 1)) (C := RX7) (T := TX7) (N := 4) hx hb hg uX7 hown hK.1 hP 0 rfl rfl 0 (by decide) (hg _ gw_244) (fun _ h9 => h9) rfl dX7_lineStart_9 ?_
    refine va_getN (D := D) (ci := 6) (v := .ref (hh 2)) (C := RX6) (T := TX6) (N := 7) hx hb hg uX6 hown hK.1 hP 1 rfl rfl 0 (by decide) (kk_nest hK nw_158) (fun _ h9 => h9) rfl dX7_lineStart_12 ?_
    refine lv_iload_n hx hb dX7_lineStart_15 rfl (lv_at hl 1 rfl) ?_
    obtain ⟨r1, ec1, h⟩ := bd_some h
    refine cV_i (As := [.int p1]) (rest := []) (wc := (wX0 cI (hh 2) (hh 3) 256 tN tF)) (wc' := (wX0 cI (hh 2) (hh 3) 256 tN tF)) hx hb hml hown hg hK hP hD hS hA hl.1 (k_X0_beginOfLine l D cI cS cL Z (hh 2) (hh 3) p1 256 tN tF ec1) gm_X0_beginOfLine gw_824 ⟨rfl, rfl, by decide, by decide⟩ ⟨Nat.zero_le _, Nat.zero_le _⟩ [2, 3] rfl rfl rfl rfl rfl rfl rfl rfl (Nat.le_of_ble_eq_true rfl) dX7_lineStart_16 (fun H locs hP hD hS => ?_)
    have hP : va_P D vwCl (wX7 cI cS hh vCar vGoa vEag tN tF cN cF mP mS kCap kGap kCar kCop kGro kShr bN bF rCmd rLet rNum fCap fGap fCar fCop fGro fShr hX hC hR) H := hP
    have hD : va_D A (wX7 cI cS hh vCar vGoa vEag tN tF cN cF mP mS kCap kGap kCar kCop kGro kShr bN bF rCmd rLet rNum fCap fGap fCar fCop fGro fShr hX hC hR) := hD
    cases h
    exact ret_i hx hb hr hlocks hP hD hS dX7_lineStart_19 rfl
  have hl : lv_has ls 2 [(0, .ref (hh 0)), (1, .int p1)] := hl
  have hP : va_P D vwCl (wX7 cI cS hh vCar vGoa vEag tN tF cN cF mP mS kCap kGap kCar kCop kGro kShr bN bF rCmd rLet rNum fCap fGap fCar fCop fGro fShr hX hC hR) s.heap := hP
  have hD : va_D A (wX7 cI cS hh vCar vGoa vEag tN tF cN cF mP mS kCap kGap kCar kCop kGro kShr bN bF rCmd rLet rNum fCap fGap fCar fCop fGro fShr hX hC hR) := hD
  show W p l e rm_X7_lineStart s m args below meth c s.heap [] 0 0 (FI D below args s (wX7 cI cS hh vCar vGoa vEag tN tF cN cF mP mS kCap kGap kCar kCop kGro kShr bN bF rCmd rLet rNum fCap fGap fCar fCop fGro fShr hX hC hR) r A) (F0 m 0 ls [])
  unfold f_X7_lineStart at h
  have hmain : ∀ (H : Heap) (locs : List Loc), va_P D vwCl (wX7 cI cS hh vCar vGoa vEag tN tF cN cF mP mS kCap kGap kCar kCop kGro kShr bN bF rCmd rLet rNum fCap fGap fCar fCop fGro fShr hX hC hR) H → va_S A s.heap H locs → W p l e rm_X7_lineStart s m args below meth c H locs 0 0 (FI D below args s (wX7 cI cS hh vCar vGoa vEag tN tF cN cF mP mS kCap kGap kCar kCop kGro kShr bN bF rCmd rLet rNum fCap fGap fCar fCop fGro fShr hX hC hR) r A) (F0 m 0 ls []) := by
    intro H locs hP hS
    refine lv_aload_n hx hb dX7_lineStart_0 rfl (lv_at hl 0 rfl) ?_
    refine lv_iload_n hx hb dX7_lineStart_1 rfl (lv_at hl 1 rfl) ?_
    obtain ⟨r2, ec2, h⟩ := bd_some h
    refine cP_i (As := [.int p1]) (rest := []) (wc := (wX7 cI cS hh vCar vGoa vEag tN tF cN cF mP mS kCap kGap kCar kCop kGro kShr bN bF rCmd rLet rNum fCap fGap fCar fCop fGro fShr hX hC hR)) (wc' := (wX7 cI cS hh vCar vGoa vEag tN tF cN cF mP mS kCap kGap kCar kCop kGro kShr bN bF rCmd rLet rNum fCap fGap fCar fCop fGro fShr hX hC hR)) (ws' := (wX7 cI cS hh vCar vGoa vEag tN tF cN cF mP mS kCap kGap kCar kCop kGro kShr bN bF rCmd rLet rNum fCap fGap fCar fCop fGro fShr hX hC hR)) hx hb hml hown hg hK hP hD hS hA hl.1 (k_X7_isLine l D cI cS cL Z hh p1 vCar vGoa vEag tN tF cN cF mP mS kCap kGap kCar kCop kGro kShr bN bF rCmd rLet rNum fCap fGap fCar fCop fGro fShr hX hC hR ec2) gm_X7_isLine gw_820 ⟨rfl, rfl, by decide, by decide⟩ ⟨Nat.zero_le _, Nat.zero_le _⟩ pm_all pm_all rfl rfl rfl rfl rfl rfl (Nat.le_of_ble_eq_true rfl) dX7_lineStart_2 (fun H locs hP hD hS => ?_)
    by_cases q3 : r2 = 0
    · cases it_some q3 h
    replace h := if_some q3 h
    refine cS_v (As := [.int r2]) (rest := []) (wc := []) (wc' := []) hx hb hml hown hg hK hP hD hS hA hl.1 (k_X7_requireIndex l D cI cS cL r2 q3) gs_X7_requireIndex gw_679 ⟨rfl, rfl, by decide, by decide⟩ ⟨Nat.zero_le _, Nat.zero_le _⟩ [] rfl rfl rfl rfl rfl (Nat.le_of_ble_eq_true rfl) dX7_lineStart_5 (fun H locs hP hD hS => ?_)
    have hP : va_P D vwCl (wX7 cI cS hh vCar vGoa vEag tN tF cN cF mP mS kCap kGap kCar kCop kGro kShr bN bF rCmd rLet rNum fCap fGap fCar fCop fGro fShr hX hC hR) H := hP
    have hD : va_D A (wX7 cI cS hh vCar vGoa vEag tN tF cN cF mP mS kCap kGap kCar kCop kGro kShr bN bF rCmd rLet rNum fCap fGap fCar fCop fGro fShr hX hC hR) := hD
    replace h := map_inl h
    exact c_8 h H locs hP hD hS ls (lv_sub hl [0, 1] rfl)
  exact hmain _ _ hP hS
set_option maxRecDepth 100000 in
set_option maxHeartbeats 4000000 in
theorem t_X7_lineStart (l : Launch) (hlt : l.stackTraces = false) (D : va_G) (cI cS cL : ClassId) (Z : Nat) (hh : Nat → Nat) (p1 : Int32) (vCar : Int32) (vGoa : Int32) (vEag : Int32) (tN : Int32) (tF : Nat → Int32) (cN : Int32) (cF : Nat → Int32) (mP : Nat → Int32) (mS : Nat → Int32) (kCap : Int32) (kGap : Int32) (kCar : Int32) (kCop : Int32) (kGro : Int32) (kShr : Int32) (bN : Int32) (bF : Nat → Int32) (rCmd : Int32) (rLet : Int32) (rNum : Int32) (fCap : Int32) (fGap : Int32) (fCar : Int32) (fCop : Int32) (fGro : Int32) (fShr : Int32) (hX : Int32) (hC : Int32) (hR : Nat → StT) {E0 : String}  (h : f_X7_lineStart Z p1 tN tF = some (.inr E0)) : CTi l yX7_lineStart cX7_lineStart 2 (some .int) rmt_X7_lineStart D cI cS cL [.ref (hh 0), .int p1] (wX7 cI cS hh vCar vGoa vEag tN tF cN cF mP mS kCap kGap kCar kCop kGro kShr bN bF rCmd rLet rNum fCap fGap fCar fCop fGro fShr hX hC hR) E0 := by
  refine ent_ti (by decide +kernel) (Nat.le_of_ble_eq_true rfl) ?_
  intro p e s m args below meth c A ls hx hb hr hml hlocks hg hown hK hP hD hS hA hl htab hZ
  have hown : s.vm.findClass RX7 = some m.cls := hown
  have hl : lv_has ls 2 [(0, .ref (hh 0)), (1, .int p1)] := hl
  have hP : va_P D vwCl (wX7 cI cS hh vCar vGoa vEag tN tF cN cF mP mS kCap kGap kCar kCop kGro kShr bN bF rCmd rLet rNum fCap fGap fCar fCop fGro fShr hX hC hR) s.heap := hP
  have hD : va_D A (wX7 cI cS hh vCar vGoa vEag tN tF cN cF mP mS kCap kGap kCar kCop kGro kShr bN bF rCmd rLet rNum fCap fGap fCar fCop fGro fShr hX hC hR) := hD
  show W p l e rmt_X7_lineStart s m args below meth c s.heap [] 0 0 (FT D below (va_Qi (fun _ (_ : Unit) => False) (fun _ _ => False) A) args s (wX7 cI cS hh vCar vGoa vEag tN tF cN cF mP mS kCap kGap kCar kCop kGro kShr bN bF rCmd rLet rNum fCap fGap fCar fCop fGro fShr hX hC hR) E0 A) (F0 m 0 ls [])
  unfold f_X7_lineStart at h
  have hmain : ∀ (H : Heap) (locs : List Loc), va_P D vwCl (wX7 cI cS hh vCar vGoa vEag tN tF cN cF mP mS kCap kGap kCar kCop kGro kShr bN bF rCmd rLet rNum fCap fGap fCar fCop fGro fShr hX hC hR) H → va_S A s.heap H locs → W p l e rmt_X7_lineStart s m args below meth c H locs 0 0 (FT D below (va_Qi (fun _ (_ : Unit) => False) (fun _ _ => False) A) args s (wX7 cI cS hh vCar vGoa vEag tN tF cN cF mP mS kCap kGap kCar kCop kGro kShr bN bF rCmd rLet rNum fCap fGap fCar fCop fGro fShr hX hC hR) E0 A) (F0 m 0 ls []) := by
    intro H locs hP hS
    refine lv_aload_n hx hb dX7_lineStart_0 rfl (lv_at hl 0 rfl) ?_
    refine lv_iload_n hx hb dX7_lineStart_1 rfl (lv_at hl 1 rfl) ?_
    obtain ⟨r4, ec4, h⟩ := bd_some h
    refine cP_i (As := [.int p1]) (rest := []) (wc := (wX7 cI cS hh vCar vGoa vEag tN tF cN cF mP mS kCap kGap kCar kCop kGro kShr bN bF rCmd rLet rNum fCap fGap fCar fCop fGro fShr hX hC hR)) (wc' := (wX7 cI cS hh vCar vGoa vEag tN tF cN cF mP mS kCap kGap kCar kCop kGro kShr bN bF rCmd rLet rNum fCap fGap fCar fCop fGro fShr hX hC hR)) (ws' := (wX7 cI cS hh vCar vGoa vEag tN tF cN cF mP mS kCap kGap kCar kCop kGro kShr bN bF rCmd rLet rNum fCap fGap fCar fCop fGro fShr hX hC hR)) hx hb hml hown hg hK hP hD hS hA hl.1 (k_X7_isLine l D cI cS cL Z hh p1 vCar vGoa vEag tN tF cN cF mP mS kCap kGap kCar kCop kGro kShr bN bF rCmd rLet rNum fCap fGap fCar fCop fGro fShr hX hC hR ec4) gm_X7_isLine gw_820 ⟨rfl, rfl, by decide, by decide⟩ ⟨Nat.zero_le _, Nat.zero_le _⟩ pm_all pm_all rfl rfl rfl rfl rfl rfl (Nat.le_of_ble_eq_true rfl) dX7_lineStart_2 (fun H locs hP hD hS => ?_)
    by_cases q5 : r4 = 0
    · replace h := it_some q5 h
      cases h
      exact cT_out (As := [.int r4]) (rest := []) hx hb hml hown hg hK hP hD hS hA hl.1 htab hZ hlocks (t_X7_requireIndex l hlt D cI cS cL r4 q5) gs_X7_requireIndex gw_679 ⟨rfl, rfl, by decide, by decide⟩ ⟨by decide, by decide⟩ rfl rfl (Nat.le_of_ble_eq_true rfl) dX7_lineStart_5
    replace h := if_some q5 h
    refine cS_v (As := [.int r4]) (rest := []) (wc := []) (wc' := []) hx hb hml hown hg hK hP hD hS hA hl.1 (k_X7_requireIndex l D cI cS cL r4 q5) gs_X7_requireIndex gw_679 ⟨rfl, rfl, by decide, by decide⟩ ⟨Nat.zero_le _, Nat.zero_le _⟩ [] rfl rfl rfl rfl rfl (Nat.le_of_ble_eq_true rfl) dX7_lineStart_5 (fun H locs hP hD hS => ?_)
    have hP : va_P D vwCl (wX7 cI cS hh vCar vGoa vEag tN tF cN cF mP mS kCap kGap kCar kCop kGro kShr bN bF rCmd rLet rNum fCap fGap fCar fCop fGro fShr hX hC hR) H := hP
    have hD : va_D A (wX7 cI cS hh vCar vGoa vEag tN tF cN cF mP mS kCap kGap kCar kCop kGro kShr bN bF rCmd rLet rNum fCap fGap fCar fCop fGro fShr hX hC hR) := hD
    exact map_inr h
  exact hmain _ _ hP hS
abbrev rm_X7_lineLength : Room := { frames := 4, cells := 0, slots := 0, locals := 85 }
abbrev rmt_X7_lineLength : Room := { frames := 7, cells := 1, slots := 6, locals := 101 }
def f_X7_lineLength_c8 (Z : Nat) (p1 : Int32) (tN : Int32) (tF : Nat → Int32)  : Option (Int32) :=
    (f_X0_beginOfLine Z p1 256 tN tF).bind fun r1 =>
    (f_X0_lineEnd Z r1 256 tN tF).bind fun r2 =>
    some (r2 - r1)
def f_X7_lineLength (Z : Nat) (p1 : Int32) (tN : Int32) (tF : Nat → Int32) : Option ((Int32) ⊕ String) :=
  (f_X7_isLine Z p1 tN tF).bind fun r3 =>
  if r3 = 0 then
    some (.inr "java/lang/IndexOutOfBoundsException")
  else
  (f_X7_lineLength_c8 Z p1 tN tF).map Sum.inl
set_option maxRecDepth 100000 in
set_option maxHeartbeats 4000000 in
theorem k_X7_lineLength (l : Launch) (D : va_G) (cI cS cL : ClassId) (Z : Nat) (hh : Nat → Nat) (p1 : Int32) (vCar : Int32) (vGoa : Int32) (vEag : Int32) (tN : Int32) (tF : Nat → Int32) (cN : Int32) (cF : Nat → Int32) (mP : Nat → Int32) (mS : Nat → Int32) (kCap : Int32) (kGap : Int32) (kCar : Int32) (kCop : Int32) (kGro : Int32) (kShr : Int32) (bN : Int32) (bF : Nat → Int32) (rCmd : Int32) (rLet : Int32) (rNum : Int32) (fCap : Int32) (fGap : Int32) (fCar : Int32) (fCop : Int32) (fGro : Int32) (fShr : Int32) (hX : Int32) (hC : Int32) (hR : Nat → StT) {r : Int32} (h : f_X7_lineLength Z p1 tN tF = some (.inl r)) : CI l yX7_lineLength cX7_lineLength 3 (some .int) rm_X7_lineLength D cI cS cL [.ref (hh 0), .int p1] (wX7 cI cS hh vCar vGoa vEag tN tF cN cF mP mS kCap kGap kCar kCop kGro kShr bN bF rCmd rLet rNum fCap fGap fCar fCop fGro fShr hX hC hR) (wX7 cI cS hh vCar vGoa vEag tN tF cN cF mP mS kCap kGap kCar kCop kGro kShr bN bF rCmd rLet rNum fCap fGap fCar fCop fGro fShr hX hC hR) r := by
  refine ent_i (by decide +kernel) (Nat.le_of_ble_eq_true rfl) ?_
  intro p e s m args below meth c A ls hx hb hr hml hlocks hg hown hK hP hD hS hA hl
  have hown : s.vm.findClass RX7 = some m.cls := hown
  have c_8 : f_X7_lineLength_c8 Z p1 tN tF = some r → ∀ (H : Heap) (locs : List Loc), va_P D vwCl (wX7 cI cS hh vCar vGoa vEag tN tF cN cF mP mS kCap kGap kCar kCop kGro kShr bN bF rCmd rLet rNum fCap fGap fCar fCop fGro fShr hX hC hR) H → va_D A (wX7 cI cS hh vCar vGoa vEag tN tF cN cF mP mS kCap kGap kCar kCop kGro kShr bN bF rCmd rLet rNum fCap fGap fCar fCop fGro fShr hX hC hR) → va_S A s.heap H locs → ∀ ls : Array Slot, lv_has ls 3 [(0, .ref (hh 0)), (1, .int p1)] → W p l e rm_X7_lineLength s m args below meth c H locs 0 0 (FI D below args s (wX7 cI cS hh vCar vGoa vEag tN tF cN cF mP mS kCap kGap kCar kCop kGro kShr bN bF rCmd rLet rNum fCap fGap fCar fCop fGro fShr hX hC hR) r A) (F0 m 8 ls []) := by
    intro h H locs hP hD hS ls hl
    unfold f_X7_lineLength_c8 at h
    refine lv_aload_n hx hb dX7_lineLength_8 rfl (lv_at hl 0 rfl) ?_
    refine va_get (D := D) (ci := 7) (v := .ref (hh 1)) (C := RX7) (T := TX7) (N := 4) hx hb hg uX7 hown hK.1 hP 0 rfl rfl 0 (by decide) (hg _ gw_244) (fun _ h9 => h9) rfl dX7_lineLength_9 ?_
    refine va_getN (D := D) (ci := 6) (v := .ref (hh 2)) (C := RX6) (T := TX6) (N := 7) hx hb hg uX6 hown hK.1 hP 1 rfl rfl 0 (by decide) (kk_nest hK nw_158) (fun _ h9 => h9) rfl dX7_lineLength_12 ?_
    refine lv_iload_n hx hb dX7_lineLength_15 rfl (lv_at hl 1 rfl) ?_
    obtain ⟨r1, ec1, h⟩ := bd_some h
    refine cV_i (As := [.int p1]) (rest := []) (wc := (wX0 cI (hh 2) (hh 3) 256 tN tF)) (wc' := (wX0 cI (hh 2) (hh 3) 256 tN tF)) hx hb hml hown hg hK hP hD hS hA hl.1 (k_X0_beginOfLine l D cI cS cL Z (hh 2) (hh 3) p1 256 tN tF ec1) gm_X0_beginOfLine gw_824 ⟨rfl, rfl, by decide, by decide⟩ ⟨Nat.zero_le _, Nat.zero_le _⟩ [2, 3] rfl rfl rfl rfl rfl rfl rfl rfl (Nat.le_of_ble_eq_true rfl) dX7_lineLength_16 (fun H locs hP hD hS => ?_)
    have hP : va_P D vwCl (wX7 cI cS hh vCar vGoa vEag tN tF cN cF mP mS kCap kGap kCar kCop kGro kShr bN bF rCmd rLet rNum fCap fGap fCar fCop fGro fShr hX hC hR) H := hP
    have hD : va_D A (wX7 cI cS hh vCar vGoa vEag tN tF cN cF mP mS kCap kGap kCar kCop kGro kShr bN bF rCmd rLet rNum fCap fGap fCar fCop fGro fShr hX hC hR) := hD
    refine lv_istore_n (lv' := [(2, .int r1), (0, .ref (hh 0)), (1, .int p1)]) hx hb dX7_lineLength_19 rfl hl (by decide) rfl (fun ls hl => ?_)
    refine lv_aload_n hx hb dX7_lineLength_20 rfl (lv_at hl 1 rfl) ?_
    refine va_get (D := D) (ci := 7) (v := .ref (hh 1)) (C := RX7) (T := TX7) (N := 4) hx hb hg uX7 hown hK.1 hP 0 rfl rfl 0 (by decide) (hg _ gw_244) (fun _ h9 => h9) rfl dX7_lineLength_21 ?_
    refine va_getN (D := D) (ci := 6) (v := .ref (hh 2)) (C := RX6) (T := TX6) (N := 7) hx hb hg uX6 hown hK.1 hP 1 rfl rfl 0 (by decide) (kk_nest hK nw_158) (fun _ h9 => h9) rfl dX7_lineLength_24 ?_
    refine lv_iload_n hx hb dX7_lineLength_27 rfl (lv_at hl 0 rfl) ?_
    obtain ⟨r2, ec2, h⟩ := bd_some h
    refine cV_i (As := [.int r1]) (rest := []) (wc := (wX0 cI (hh 2) (hh 3) 256 tN tF)) (wc' := (wX0 cI (hh 2) (hh 3) 256 tN tF)) hx hb hml hown hg hK hP hD hS hA hl.1 (k_X0_lineEnd l D cI cS cL Z (hh 2) (hh 3) r1 256 tN tF ec2) gm_X0_lineEnd gw_343 ⟨rfl, rfl, by decide, by decide⟩ ⟨Nat.zero_le _, Nat.zero_le _⟩ [2, 3] rfl rfl rfl rfl rfl rfl rfl rfl (Nat.le_of_ble_eq_true rfl) dX7_lineLength_28 (fun H locs hP hD hS => ?_)
    have hP : va_P D vwCl (wX7 cI cS hh vCar vGoa vEag tN tF cN cF mP mS kCap kGap kCar kCop kGro kShr bN bF rCmd rLet rNum fCap fGap fCar fCop fGro fShr hX hC hR) H := hP
    have hD : va_D A (wX7 cI cS hh vCar vGoa vEag tN tF cN cF mP mS kCap kGap kCar kCop kGro kShr bN bF rCmd rLet rNum fCap fGap fCar fCop fGro fShr hX hC hR) := hD
    refine lv_iload_n hx hb dX7_lineLength_31 rfl (lv_at hl 0 rfl) ?_
    refine lv_isub hx hb dX7_lineLength_32 ?_
    cases h
    exact ret_i hx hb hr hlocks hP hD hS dX7_lineLength_33 rfl
  have hl : lv_has ls 3 [(0, .ref (hh 0)), (1, .int p1)] := hl
  have hP : va_P D vwCl (wX7 cI cS hh vCar vGoa vEag tN tF cN cF mP mS kCap kGap kCar kCop kGro kShr bN bF rCmd rLet rNum fCap fGap fCar fCop fGro fShr hX hC hR) s.heap := hP
  have hD : va_D A (wX7 cI cS hh vCar vGoa vEag tN tF cN cF mP mS kCap kGap kCar kCop kGro kShr bN bF rCmd rLet rNum fCap fGap fCar fCop fGro fShr hX hC hR) := hD
  show W p l e rm_X7_lineLength s m args below meth c s.heap [] 0 0 (FI D below args s (wX7 cI cS hh vCar vGoa vEag tN tF cN cF mP mS kCap kGap kCar kCop kGro kShr bN bF rCmd rLet rNum fCap fGap fCar fCop fGro fShr hX hC hR) r A) (F0 m 0 ls [])
  unfold f_X7_lineLength at h
  have hmain : ∀ (H : Heap) (locs : List Loc), va_P D vwCl (wX7 cI cS hh vCar vGoa vEag tN tF cN cF mP mS kCap kGap kCar kCop kGro kShr bN bF rCmd rLet rNum fCap fGap fCar fCop fGro fShr hX hC hR) H → va_S A s.heap H locs → W p l e rm_X7_lineLength s m args below meth c H locs 0 0 (FI D below args s (wX7 cI cS hh vCar vGoa vEag tN tF cN cF mP mS kCap kGap kCar kCop kGro kShr bN bF rCmd rLet rNum fCap fGap fCar fCop fGro fShr hX hC hR) r A) (F0 m 0 ls []) := by
    intro H locs hP hS
    refine lv_aload_n hx hb dX7_lineLength_0 rfl (lv_at hl 0 rfl) ?_
    refine lv_iload_n hx hb dX7_lineLength_1 rfl (lv_at hl 1 rfl) ?_
    obtain ⟨r3, ec3, h⟩ := bd_some h
    refine cP_i (As := [.int p1]) (rest := []) (wc := (wX7 cI cS hh vCar vGoa vEag tN tF cN cF mP mS kCap kGap kCar kCop kGro kShr bN bF rCmd rLet rNum fCap fGap fCar fCop fGro fShr hX hC hR)) (wc' := (wX7 cI cS hh vCar vGoa vEag tN tF cN cF mP mS kCap kGap kCar kCop kGro kShr bN bF rCmd rLet rNum fCap fGap fCar fCop fGro fShr hX hC hR)) (ws' := (wX7 cI cS hh vCar vGoa vEag tN tF cN cF mP mS kCap kGap kCar kCop kGro kShr bN bF rCmd rLet rNum fCap fGap fCar fCop fGro fShr hX hC hR)) hx hb hml hown hg hK hP hD hS hA hl.1 (k_X7_isLine l D cI cS cL Z hh p1 vCar vGoa vEag tN tF cN cF mP mS kCap kGap kCar kCop kGro kShr bN bF rCmd rLet rNum fCap fGap fCar fCop fGro fShr hX hC hR ec3) gm_X7_isLine gw_820 ⟨rfl, rfl, by decide, by decide⟩ ⟨Nat.zero_le _, Nat.zero_le _⟩ pm_all pm_all rfl rfl rfl rfl rfl rfl (Nat.le_of_ble_eq_true rfl) dX7_lineLength_2 (fun H locs hP hD hS => ?_)
    by_cases q4 : r3 = 0
    · cases it_some q4 h
    replace h := if_some q4 h
    refine cS_v (As := [.int r3]) (rest := []) (wc := []) (wc' := []) hx hb hml hown hg hK hP hD hS hA hl.1 (k_X7_requireIndex l D cI cS cL r3 q4) gs_X7_requireIndex gw_679 ⟨rfl, rfl, by decide, by decide⟩ ⟨Nat.zero_le _, Nat.zero_le _⟩ [] rfl rfl rfl rfl rfl (Nat.le_of_ble_eq_true rfl) dX7_lineLength_5 (fun H locs hP hD hS => ?_)
    have hP : va_P D vwCl (wX7 cI cS hh vCar vGoa vEag tN tF cN cF mP mS kCap kGap kCar kCop kGro kShr bN bF rCmd rLet rNum fCap fGap fCar fCop fGro fShr hX hC hR) H := hP
    have hD : va_D A (wX7 cI cS hh vCar vGoa vEag tN tF cN cF mP mS kCap kGap kCar kCop kGro kShr bN bF rCmd rLet rNum fCap fGap fCar fCop fGro fShr hX hC hR) := hD
    replace h := map_inl h
    exact c_8 h H locs hP hD hS ls (lv_sub hl [0, 1] rfl)
  exact hmain _ _ hP hS
set_option maxRecDepth 100000 in
set_option maxHeartbeats 4000000 in
theorem t_X7_lineLength (l : Launch) (hlt : l.stackTraces = false) (D : va_G) (cI cS cL : ClassId) (Z : Nat) (hh : Nat → Nat) (p1 : Int32) (vCar : Int32) (vGoa : Int32) (vEag : Int32) (tN : Int32) (tF : Nat → Int32) (cN : Int32) (cF : Nat → Int32) (mP : Nat → Int32) (mS : Nat → Int32) (kCap : Int32) (kGap : Int32) (kCar : Int32) (kCop : Int32) (kGro : Int32) (kShr : Int32) (bN : Int32) (bF : Nat → Int32) (rCmd : Int32) (rLet : Int32) (rNum : Int32) (fCap : Int32) (fGap : Int32) (fCar : Int32) (fCop : Int32) (fGro : Int32) (fShr : Int32) (hX : Int32) (hC : Int32) (hR : Nat → StT) {E0 : String}  (h : f_X7_lineLength Z p1 tN tF = some (.inr E0)) : CTi l yX7_lineLength cX7_lineLength 3 (some .int) rmt_X7_lineLength D cI cS cL [.ref (hh 0), .int p1] (wX7 cI cS hh vCar vGoa vEag tN tF cN cF mP mS kCap kGap kCar kCop kGro kShr bN bF rCmd rLet rNum fCap fGap fCar fCop fGro fShr hX hC hR) E0 := by
  refine ent_ti (by decide +kernel) (Nat.le_of_ble_eq_true rfl) ?_
  intro p e s m args below meth c A ls hx hb hr hml hlocks hg hown hK hP hD hS hA hl htab hZ
  have hown : s.vm.findClass RX7 = some m.cls := hown
  have hl : lv_has ls 3 [(0, .ref (hh 0)), (1, .int p1)] := hl
  have hP : va_P D vwCl (wX7 cI cS hh vCar vGoa vEag tN tF cN cF mP mS kCap kGap kCar kCop kGro kShr bN bF rCmd rLet rNum fCap fGap fCar fCop fGro fShr hX hC hR) s.heap := hP
  have hD : va_D A (wX7 cI cS hh vCar vGoa vEag tN tF cN cF mP mS kCap kGap kCar kCop kGro kShr bN bF rCmd rLet rNum fCap fGap fCar fCop fGro fShr hX hC hR) := hD
  show W p l e rmt_X7_lineLength s m args below meth c s.heap [] 0 0 (FT D below (va_Qi (fun _ (_ : Unit) => False) (fun _ _ => False) A) args s (wX7 cI cS hh vCar vGoa vEag tN tF cN cF mP mS kCap kGap kCar kCop kGro kShr bN bF rCmd rLet rNum fCap fGap fCar fCop fGro fShr hX hC hR) E0 A) (F0 m 0 ls [])
  unfold f_X7_lineLength at h
  have hmain : ∀ (H : Heap) (locs : List Loc), va_P D vwCl (wX7 cI cS hh vCar vGoa vEag tN tF cN cF mP mS kCap kGap kCar kCop kGro kShr bN bF rCmd rLet rNum fCap fGap fCar fCop fGro fShr hX hC hR) H → va_S A s.heap H locs → W p l e rmt_X7_lineLength s m args below meth c H locs 0 0 (FT D below (va_Qi (fun _ (_ : Unit) => False) (fun _ _ => False) A) args s (wX7 cI cS hh vCar vGoa vEag tN tF cN cF mP mS kCap kGap kCar kCop kGro kShr bN bF rCmd rLet rNum fCap fGap fCar fCop fGro fShr hX hC hR) E0 A) (F0 m 0 ls []) := by
    intro H locs hP hS
    refine lv_aload_n hx hb dX7_lineLength_0 rfl (lv_at hl 0 rfl) ?_
    refine lv_iload_n hx hb dX7_lineLength_1 rfl (lv_at hl 1 rfl) ?_
    obtain ⟨r5, ec5, h⟩ := bd_some h
    refine cP_i (As := [.int p1]) (rest := []) (wc := (wX7 cI cS hh vCar vGoa vEag tN tF cN cF mP mS kCap kGap kCar kCop kGro kShr bN bF rCmd rLet rNum fCap fGap fCar fCop fGro fShr hX hC hR)) (wc' := (wX7 cI cS hh vCar vGoa vEag tN tF cN cF mP mS kCap kGap kCar kCop kGro kShr bN bF rCmd rLet rNum fCap fGap fCar fCop fGro fShr hX hC hR)) (ws' := (wX7 cI cS hh vCar vGoa vEag tN tF cN cF mP mS kCap kGap kCar kCop kGro kShr bN bF rCmd rLet rNum fCap fGap fCar fCop fGro fShr hX hC hR)) hx hb hml hown hg hK hP hD hS hA hl.1 (k_X7_isLine l D cI cS cL Z hh p1 vCar vGoa vEag tN tF cN cF mP mS kCap kGap kCar kCop kGro kShr bN bF rCmd rLet rNum fCap fGap fCar fCop fGro fShr hX hC hR ec5) gm_X7_isLine gw_820 ⟨rfl, rfl, by decide, by decide⟩ ⟨Nat.zero_le _, Nat.zero_le _⟩ pm_all pm_all rfl rfl rfl rfl rfl rfl (Nat.le_of_ble_eq_true rfl) dX7_lineLength_2 (fun H locs hP hD hS => ?_)
    by_cases q6 : r5 = 0
    · replace h := it_some q6 h
      cases h
      exact cT_out (As := [.int r5]) (rest := []) hx hb hml hown hg hK hP hD hS hA hl.1 htab hZ hlocks (t_X7_requireIndex l hlt D cI cS cL r5 q6) gs_X7_requireIndex gw_679 ⟨rfl, rfl, by decide, by decide⟩ ⟨by decide, by decide⟩ rfl rfl (Nat.le_of_ble_eq_true rfl) dX7_lineLength_5
    replace h := if_some q6 h
    refine cS_v (As := [.int r5]) (rest := []) (wc := []) (wc' := []) hx hb hml hown hg hK hP hD hS hA hl.1 (k_X7_requireIndex l D cI cS cL r5 q6) gs_X7_requireIndex gw_679 ⟨rfl, rfl, by decide, by decide⟩ ⟨Nat.zero_le _, Nat.zero_le _⟩ [] rfl rfl rfl rfl rfl (Nat.le_of_ble_eq_true rfl) dX7_lineLength_5 (fun H locs hP hD hS => ?_)
    have hP : va_P D vwCl (wX7 cI cS hh vCar vGoa vEag tN tF cN cF mP mS kCap kGap kCar kCop kGro kShr bN bF rCmd rLet rNum fCap fGap fCar fCop fGro fShr hX hC hR) H := hP
    have hD : va_D A (wX7 cI cS hh vCar vGoa vEag tN tF cN cF mP mS kCap kGap kCar kCop kGro kShr bN bF rCmd rLet rNum fCap fGap fCar fCop fGro fShr hX hC hR) := hD
    exact map_inr h
  exact hmain _ _ hP hS
abbrev rm_X7_capacity : Room := { frames := 0, cells := 0, slots := 0, locals := 0 }
def f_X7_capacity (Z : Nat) (kCap : Int32) : Option (Int32) :=
  some kCap
set_option maxRecDepth 100000 in
set_option maxHeartbeats 4000000 in
theorem k_X7_capacity (l : Launch) (D : va_G) (cI cS cL : ClassId) (Z : Nat) (hh : Nat → Nat) (vCar : Int32) (vGoa : Int32) (vEag : Int32) (tN : Int32) (tF : Nat → Int32) (cN : Int32) (cF : Nat → Int32) (mP : Nat → Int32) (mS : Nat → Int32) (kCap : Int32) (kGap : Int32) (kCar : Int32) (kCop : Int32) (kGro : Int32) (kShr : Int32) (bN : Int32) (bF : Nat → Int32) (rCmd : Int32) (rLet : Int32) (rNum : Int32) (fCap : Int32) (fGap : Int32) (fCar : Int32) (fCop : Int32) (fGro : Int32) (fShr : Int32) (hX : Int32) (hC : Int32) (hR : Nat → StT) {r : Int32} (h : f_X7_capacity Z kCap = some r) : CI l yX7_capacity cX7_capacity 1 (some .int) rm_X7_capacity D cI cS cL [.ref (hh 0)] (wX7 cI cS hh vCar vGoa vEag tN tF cN cF mP mS kCap kGap kCar kCop kGro kShr bN bF rCmd rLet rNum fCap fGap fCar fCop fGro fShr hX hC hR) (wX7 cI cS hh vCar vGoa vEag tN tF cN cF mP mS kCap kGap kCar kCop kGro kShr bN bF rCmd rLet rNum fCap fGap fCar fCop fGro fShr hX hC hR) r := by
  refine ent_i (by decide +kernel) (Nat.le_of_ble_eq_true rfl) ?_
  intro p e s m args below meth c A ls hx hb hr hml hlocks hg hown hK hP hD hS hA hl
  have hown : s.vm.findClass RX7 = some m.cls := hown
  have hl : lv_has ls 1 [(0, .ref (hh 0))] := hl
  have hP : va_P D vwCl (wX7 cI cS hh vCar vGoa vEag tN tF cN cF mP mS kCap kGap kCar kCop kGro kShr bN bF rCmd rLet rNum fCap fGap fCar fCop fGro fShr hX hC hR) s.heap := hP
  have hD : va_D A (wX7 cI cS hh vCar vGoa vEag tN tF cN cF mP mS kCap kGap kCar kCop kGro kShr bN bF rCmd rLet rNum fCap fGap fCar fCop fGro fShr hX hC hR) := hD
  show W p l e rm_X7_capacity s m args below meth c s.heap [] 0 0 (FI D below args s (wX7 cI cS hh vCar vGoa vEag tN tF cN cF mP mS kCap kGap kCar kCop kGro kShr bN bF rCmd rLet rNum fCap fGap fCar fCop fGro fShr hX hC hR) r A) (F0 m 0 ls [])
  unfold f_X7_capacity at h
  have hmain : ∀ (H : Heap) (locs : List Loc), va_P D vwCl (wX7 cI cS hh vCar vGoa vEag tN tF cN cF mP mS kCap kGap kCar kCop kGro kShr bN bF rCmd rLet rNum fCap fGap fCar fCop fGro fShr hX hC hR) H → va_S A s.heap H locs → W p l e rm_X7_capacity s m args below meth c H locs 0 0 (FI D below args s (wX7 cI cS hh vCar vGoa vEag tN tF cN cF mP mS kCap kGap kCar kCop kGro kShr bN bF rCmd rLet rNum fCap fGap fCar fCop fGro fShr hX hC hR) r A) (F0 m 0 ls []) := by
    intro H locs hP hS
    refine lv_aload_n hx hb dX7_capacity_0 rfl (lv_at hl 0 rfl) ?_
    refine va_get (D := D) (ci := 7) (v := .ref (hh 1)) (C := RX7) (T := TX7) (N := 4) hx hb hg uX7 hown hK.1 hP 0 rfl rfl 0 (by decide) (hg _ gw_244) (fun _ h9 => h9) rfl dX7_capacity_1 ?_
    refine va_getN (D := D) (ci := 6) (v := .ref (hh 9)) (C := RX6) (T := TX6) (N := 7) hx hb hg uX6 hown hK.1 hP 1 rfl rfl 3 (by decide) (kk_nest hK nw_166) (fun _ h9 => h9) rfl dX7_capacity_4 ?_
    refine va_getN (D := D) (ci := 3) (v := .int kCap) (C := RX3) (T := TX3) (N := 6) hx hb hg uX3 hown hK.1 hP 9 rfl rfl 0 (by decide) (kk_nest hK nw_128) (fun _ h9 => h9) rfl dX7_capacity_7 ?_
    cases h
    exact ret_i hx hb hr hlocks hP hD hS dX7_capacity_10 rfl
  exact hmain _ _ hP hS
abbrev rm_X7_gapStart : Room := { frames := 0, cells := 0, slots := 0, locals := 0 }
def f_X7_gapStart (Z : Nat) (kGap : Int32) : Option (Int32) :=
  some kGap
set_option maxRecDepth 100000 in
set_option maxHeartbeats 4000000 in
theorem k_X7_gapStart (l : Launch) (D : va_G) (cI cS cL : ClassId) (Z : Nat) (hh : Nat → Nat) (vCar : Int32) (vGoa : Int32) (vEag : Int32) (tN : Int32) (tF : Nat → Int32) (cN : Int32) (cF : Nat → Int32) (mP : Nat → Int32) (mS : Nat → Int32) (kCap : Int32) (kGap : Int32) (kCar : Int32) (kCop : Int32) (kGro : Int32) (kShr : Int32) (bN : Int32) (bF : Nat → Int32) (rCmd : Int32) (rLet : Int32) (rNum : Int32) (fCap : Int32) (fGap : Int32) (fCar : Int32) (fCop : Int32) (fGro : Int32) (fShr : Int32) (hX : Int32) (hC : Int32) (hR : Nat → StT) {r : Int32} (h : f_X7_gapStart Z kGap = some r) : CI l yX7_gapStart cX7_gapStart 1 (some .int) rm_X7_gapStart D cI cS cL [.ref (hh 0)] (wX7 cI cS hh vCar vGoa vEag tN tF cN cF mP mS kCap kGap kCar kCop kGro kShr bN bF rCmd rLet rNum fCap fGap fCar fCop fGro fShr hX hC hR) (wX7 cI cS hh vCar vGoa vEag tN tF cN cF mP mS kCap kGap kCar kCop kGro kShr bN bF rCmd rLet rNum fCap fGap fCar fCop fGro fShr hX hC hR) r := by
  refine ent_i (by decide +kernel) (Nat.le_of_ble_eq_true rfl) ?_
  intro p e s m args below meth c A ls hx hb hr hml hlocks hg hown hK hP hD hS hA hl
  have hown : s.vm.findClass RX7 = some m.cls := hown
  have hl : lv_has ls 1 [(0, .ref (hh 0))] := hl
  have hP : va_P D vwCl (wX7 cI cS hh vCar vGoa vEag tN tF cN cF mP mS kCap kGap kCar kCop kGro kShr bN bF rCmd rLet rNum fCap fGap fCar fCop fGro fShr hX hC hR) s.heap := hP
  have hD : va_D A (wX7 cI cS hh vCar vGoa vEag tN tF cN cF mP mS kCap kGap kCar kCop kGro kShr bN bF rCmd rLet rNum fCap fGap fCar fCop fGro fShr hX hC hR) := hD
  show W p l e rm_X7_gapStart s m args below meth c s.heap [] 0 0 (FI D below args s (wX7 cI cS hh vCar vGoa vEag tN tF cN cF mP mS kCap kGap kCar kCop kGro kShr bN bF rCmd rLet rNum fCap fGap fCar fCop fGro fShr hX hC hR) r A) (F0 m 0 ls [])
  unfold f_X7_gapStart at h
  have hmain : ∀ (H : Heap) (locs : List Loc), va_P D vwCl (wX7 cI cS hh vCar vGoa vEag tN tF cN cF mP mS kCap kGap kCar kCop kGro kShr bN bF rCmd rLet rNum fCap fGap fCar fCop fGro fShr hX hC hR) H → va_S A s.heap H locs → W p l e rm_X7_gapStart s m args below meth c H locs 0 0 (FI D below args s (wX7 cI cS hh vCar vGoa vEag tN tF cN cF mP mS kCap kGap kCar kCop kGro kShr bN bF rCmd rLet rNum fCap fGap fCar fCop fGro fShr hX hC hR) r A) (F0 m 0 ls []) := by
    intro H locs hP hS
    refine lv_aload_n hx hb dX7_gapStart_0 rfl (lv_at hl 0 rfl) ?_
    refine va_get (D := D) (ci := 7) (v := .ref (hh 1)) (C := RX7) (T := TX7) (N := 4) hx hb hg uX7 hown hK.1 hP 0 rfl rfl 0 (by decide) (hg _ gw_244) (fun _ h9 => h9) rfl dX7_gapStart_1 ?_
    refine va_getN (D := D) (ci := 6) (v := .ref (hh 9)) (C := RX6) (T := TX6) (N := 7) hx hb hg uX6 hown hK.1 hP 1 rfl rfl 3 (by decide) (kk_nest hK nw_166) (fun _ h9 => h9) rfl dX7_gapStart_4 ?_
    refine va_getN (D := D) (ci := 3) (v := .int kGap) (C := RX3) (T := TX3) (N := 6) hx hb hg uX3 hown hK.1 hP 9 rfl rfl 1 (by decide) (kk_nest hK nw_131) (fun _ h9 => h9) rfl dX7_gapStart_7 ?_
    cases h
    exact ret_i hx hb hr hlocks hP hD hS dX7_gapStart_10 rfl
  exact hmain _ _ hP hS
abbrev rm_X7_cell : Room := { frames := 2, cells := 0, slots := 0, locals := 43 }
abbrev rmt_X7_cell : Room := { frames := 7, cells := 1, slots := 6, locals := 101 }
def f_X7_cell_c26 (Z : Nat) (p1 : Int32) (tN : Int32) (tF : Nat → Int32) (kCap : Int32) (kGap : Int32)  : Option (Int32) :=
    (f_X6_cellAt Z p1 tN tF kCap kGap).bind fun r1 =>
    some r1
def f_X7_cell (Z : Nat) (p1 : Int32) (tN : Int32) (tF : Nat → Int32) (kCap : Int32) (kGap : Int32) : Option ((Int32) ⊕ String) :=
  if p1 < 0 then
    if (0 : Int32) = 0 then
      some (.inr "java/lang/IndexOutOfBoundsException")
    else
    (f_X7_cell_c26 Z p1 tN tF kCap kGap).map Sum.inl
  else
    if kCap ≤ p1 then
      if (0 : Int32) = 0 then
        some (.inr "java/lang/IndexOutOfBoundsException")
      else
      (f_X7_cell_c26 Z p1 tN tF kCap kGap).map Sum.inl
    else
      if (1 : Int32) = 0 then
        some (.inr "java/lang/IndexOutOfBoundsException")
      else
      (f_X7_cell_c26 Z p1 tN tF kCap kGap).map Sum.inl
set_option maxRecDepth 100000 in
set_option maxHeartbeats 4000000 in
theorem k_X7_cell (l : Launch) (D : va_G) (cI cS cL : ClassId) (Z : Nat) (hh : Nat → Nat) (p1 : Int32) (vCar : Int32) (vGoa : Int32) (vEag : Int32) (tN : Int32) (tF : Nat → Int32) (cN : Int32) (cF : Nat → Int32) (mP : Nat → Int32) (mS : Nat → Int32) (kCap : Int32) (kGap : Int32) (kCar : Int32) (kCop : Int32) (kGro : Int32) (kShr : Int32) (bN : Int32) (bF : Nat → Int32) (rCmd : Int32) (rLet : Int32) (rNum : Int32) (fCap : Int32) (fGap : Int32) (fCar : Int32) (fCop : Int32) (fGro : Int32) (fShr : Int32) (hX : Int32) (hC : Int32) (hR : Nat → StT) {r : Int32} (h : f_X7_cell Z p1 tN tF kCap kGap = some (.inl r)) : CI l yX7_cell cX7_cell 2 (some .int) rm_X7_cell D cI cS cL [.ref (hh 0), .int p1] (wX7 cI cS hh vCar vGoa vEag tN tF cN cF mP mS kCap kGap kCar kCop kGro kShr bN bF rCmd rLet rNum fCap fGap fCar fCop fGro fShr hX hC hR) (wX7 cI cS hh vCar vGoa vEag tN tF cN cF mP mS kCap kGap kCar kCop kGro kShr bN bF rCmd rLet rNum fCap fGap fCar fCop fGro fShr hX hC hR) r := by
  refine ent_i (by decide +kernel) (Nat.le_of_ble_eq_true rfl) ?_
  intro p e s m args below meth c A ls hx hb hr hml hlocks hg hown hK hP hD hS hA hl
  have hown : s.vm.findClass RX7 = some m.cls := hown
  have c_26 : f_X7_cell_c26 Z p1 tN tF kCap kGap = some r → ∀ (H : Heap) (locs : List Loc), va_P D vwCl (wX7 cI cS hh vCar vGoa vEag tN tF cN cF mP mS kCap kGap kCar kCop kGro kShr bN bF rCmd rLet rNum fCap fGap fCar fCop fGro fShr hX hC hR) H → va_D A (wX7 cI cS hh vCar vGoa vEag tN tF cN cF mP mS kCap kGap kCar kCop kGro kShr bN bF rCmd rLet rNum fCap fGap fCar fCop fGro fShr hX hC hR) → va_S A s.heap H locs → ∀ ls : Array Slot, lv_has ls 2 [(0, .ref (hh 0)), (1, .int p1)] → W p l e rm_X7_cell s m args below meth c H locs 0 0 (FI D below args s (wX7 cI cS hh vCar vGoa vEag tN tF cN cF mP mS kCap kGap kCar kCop kGro kShr bN bF rCmd rLet rNum fCap fGap fCar fCop fGro fShr hX hC hR) r A) (F0 m 26 ls []) := by
    intro h H locs hP hD hS ls hl
    unfold f_X7_cell_c26 at h
    refine lv_aload_n hx hb dX7_cell_26 rfl (lv_at hl 0 rfl) ?_
    refine va_get (D := D) (ci := 7) (v := .ref (hh 1)) (C := RX7) (T := TX7) (N := 4) hx hb hg uX7 hown hK.1 hP 0 rfl rfl 0 (by decide) (hg _ gw_244) (fun _ h9 => h9) rfl dX7_cell_27 ?_
    refine lv_iload_n hx hb dX7_cell_30 rfl (lv_at hl 1 rfl) ?_
    obtain ⟨r1, ec1, h⟩ := bd_some h
    refine cV_i (As := [.int p1]) (rest := []) (wc := (wX6 cI (hh 1) (hh 2) (hh 3) (hh 4) (hh 5) (hh 6) (hh 7) (hh 8) (hh 9) vCar vGoa vEag tN tF cN cF mP mS kCap kGap kCar kCop kGro kShr)) (wc' := (wX6 cI (hh 1) (hh 2) (hh 3) (hh 4) (hh 5) (hh 6) (hh 7) (hh 8) (hh 9) vCar vGoa vEag tN tF cN cF mP mS kCap kGap kCar kCop kGro kShr)) hx hb hml hown hg hK hP hD hS hA hl.1 (k_X6_cellAt l D cI cS cL Z (hh 1) (hh 2) (hh 3) (hh 4) (hh 5) (hh 6) (hh 7) (hh 8) (hh 9) p1 vCar vGoa vEag tN tF cN cF mP mS kCap kGap kCar kCop kGro kShr ec1) gm_X6_cellAt gw_843 ⟨rfl, rfl, by decide, by decide⟩ ⟨Nat.zero_le _, Nat.zero_le _⟩ [1, 2, 3, 4, 5, 6, 7, 8, 9] rfl rfl rfl rfl rfl rfl rfl rfl (Nat.le_of_ble_eq_true rfl) dX7_cell_31 (fun H locs hP hD hS => ?_)
    have hP : va_P D vwCl (wX7 cI cS hh vCar vGoa vEag tN tF cN cF mP mS kCap kGap kCar kCop kGro kShr bN bF rCmd rLet rNum fCap fGap fCar fCop fGro fShr hX hC hR) H := hP
    have hD : va_D A (wX7 cI cS hh vCar vGoa vEag tN tF cN cF mP mS kCap kGap kCar kCop kGro kShr bN bF rCmd rLet rNum fCap fGap fCar fCop fGro fShr hX hC hR) := hD
    cases h
    exact ret_i hx hb hr hlocks hP hD hS dX7_cell_34 rfl
  have hl : lv_has ls 2 [(0, .ref (hh 0)), (1, .int p1)] := hl
  have hP : va_P D vwCl (wX7 cI cS hh vCar vGoa vEag tN tF cN cF mP mS kCap kGap kCar kCop kGro kShr bN bF rCmd rLet rNum fCap fGap fCar fCop fGro fShr hX hC hR) s.heap := hP
  have hD : va_D A (wX7 cI cS hh vCar vGoa vEag tN tF cN cF mP mS kCap kGap kCar kCop kGro kShr bN bF rCmd rLet rNum fCap fGap fCar fCop fGro fShr hX hC hR) := hD
  show W p l e rm_X7_cell s m args below meth c s.heap [] 0 0 (FI D below args s (wX7 cI cS hh vCar vGoa vEag tN tF cN cF mP mS kCap kGap kCar kCop kGro kShr bN bF rCmd rLet rNum fCap fGap fCar fCop fGro fShr hX hC hR) r A) (F0 m 0 ls [])
  unfold f_X7_cell at h
  have hmain : ∀ (H : Heap) (locs : List Loc), va_P D vwCl (wX7 cI cS hh vCar vGoa vEag tN tF cN cF mP mS kCap kGap kCar kCop kGro kShr bN bF rCmd rLet rNum fCap fGap fCar fCop fGro fShr hX hC hR) H → va_S A s.heap H locs → W p l e rm_X7_cell s m args below meth c H locs 0 0 (FI D below args s (wX7 cI cS hh vCar vGoa vEag tN tF cN cF mP mS kCap kGap kCar kCop kGro kShr bN bF rCmd rLet rNum fCap fGap fCar fCop fGro fShr hX hC hR) r A) (F0 m 0 ls []) := by
    intro H locs hP hS
    refine lv_iload_n hx hb dX7_cell_0 rfl (lv_at hl 1 rfl) ?_
    refine lv_if_lt (tgt := 22) hx hb dX7_cell_1 (by decide) (fun q2 => ?_) (fun q2 => ?_)
    · replace h := it_some q2 h
      refine lv_iconst (v := 0) hx hb dX7_cell_22 (by decide) ?_
      by_cases q3 : (0 : Int32) = 0
      · cases it_some q3 h
      replace h := if_some q3 h
      refine cS_v (As := [.int (0 : Int32)]) (rest := []) (wc := []) (wc' := []) hx hb hml hown hg hK hP hD hS hA hl.1 (k_X7_requireIndex l D cI cS cL (0 : Int32) q3) gs_X7_requireIndex gw_679 ⟨rfl, rfl, by decide, by decide⟩ ⟨Nat.zero_le _, Nat.zero_le _⟩ [] rfl rfl rfl rfl rfl (Nat.le_of_ble_eq_true rfl) dX7_cell_23 (fun H locs hP hD hS => ?_)
      have hP : va_P D vwCl (wX7 cI cS hh vCar vGoa vEag tN tF cN cF mP mS kCap kGap kCar kCop kGro kShr bN bF rCmd rLet rNum fCap fGap fCar fCop fGro fShr hX hC hR) H := hP
      have hD : va_D A (wX7 cI cS hh vCar vGoa vEag tN tF cN cF mP mS kCap kGap kCar kCop kGro kShr bN bF rCmd rLet rNum fCap fGap fCar fCop fGro fShr hX hC hR) := hD
      replace h := map_inl h
      exact c_26 h H locs hP hD hS ls (lv_sub hl [0, 1] rfl)
    · replace h := if_some q2 h
      refine lv_iload_n hx hb dX7_cell_4 rfl (lv_at hl 1 rfl) ?_
      refine lv_aload_n hx hb dX7_cell_5 rfl (lv_at hl 0 rfl) ?_
      refine va_get (D := D) (ci := 7) (v := .ref (hh 1)) (C := RX7) (T := TX7) (N := 4) hx hb hg uX7 hown hK.1 hP 0 rfl rfl 0 (by decide) (hg _ gw_244) (fun _ h9 => h9) rfl dX7_cell_6 ?_
      refine va_getN (D := D) (ci := 6) (v := .ref (hh 9)) (C := RX6) (T := TX6) (N := 7) hx hb hg uX6 hown hK.1 hP 1 rfl rfl 3 (by decide) (kk_nest hK nw_166) (fun _ h9 => h9) rfl dX7_cell_9 ?_
      refine va_getN (D := D) (ci := 3) (v := .int kCap) (C := RX3) (T := TX3) (N := 6) hx hb hg uX3 hown hK.1 hP 9 rfl rfl 0 (by decide) (kk_nest hK nw_128) (fun _ h9 => h9) rfl dX7_cell_12 ?_
      refine lv_icmp_ge (tgt := 22) hx hb dX7_cell_15 (by decide) (fun q4 => ?_) (fun q4 => ?_)
      · replace h := it_some q4 h
        refine lv_iconst (v := 0) hx hb dX7_cell_22 (by decide) ?_
        by_cases q5 : (0 : Int32) = 0
        · cases it_some q5 h
        replace h := if_some q5 h
        refine cS_v (As := [.int (0 : Int32)]) (rest := []) (wc := []) (wc' := []) hx hb hml hown hg hK hP hD hS hA hl.1 (k_X7_requireIndex l D cI cS cL (0 : Int32) q5) gs_X7_requireIndex gw_679 ⟨rfl, rfl, by decide, by decide⟩ ⟨Nat.zero_le _, Nat.zero_le _⟩ [] rfl rfl rfl rfl rfl (Nat.le_of_ble_eq_true rfl) dX7_cell_23 (fun H locs hP hD hS => ?_)
        have hP : va_P D vwCl (wX7 cI cS hh vCar vGoa vEag tN tF cN cF mP mS kCap kGap kCar kCop kGro kShr bN bF rCmd rLet rNum fCap fGap fCar fCop fGro fShr hX hC hR) H := hP
        have hD : va_D A (wX7 cI cS hh vCar vGoa vEag tN tF cN cF mP mS kCap kGap kCar kCop kGro kShr bN bF rCmd rLet rNum fCap fGap fCar fCop fGro fShr hX hC hR) := hD
        replace h := map_inl h
        exact c_26 h H locs hP hD hS ls (lv_sub hl [0, 1] rfl)
      · replace h := if_some q4 h
        refine lv_iconst (v := 1) hx hb dX7_cell_18 (by decide) ?_
        refine lv_goto (tgt := 23) hx hb dX7_cell_19 (by decide) ?_
        by_cases q6 : (1 : Int32) = 0
        · cases it_some q6 h
        replace h := if_some q6 h
        refine cS_v (As := [.int (1 : Int32)]) (rest := []) (wc := []) (wc' := []) hx hb hml hown hg hK hP hD hS hA hl.1 (k_X7_requireIndex l D cI cS cL (1 : Int32) q6) gs_X7_requireIndex gw_679 ⟨rfl, rfl, by decide, by decide⟩ ⟨Nat.zero_le _, Nat.zero_le _⟩ [] rfl rfl rfl rfl rfl (Nat.le_of_ble_eq_true rfl) dX7_cell_23 (fun H locs hP hD hS => ?_)
        have hP : va_P D vwCl (wX7 cI cS hh vCar vGoa vEag tN tF cN cF mP mS kCap kGap kCar kCop kGro kShr bN bF rCmd rLet rNum fCap fGap fCar fCop fGro fShr hX hC hR) H := hP
        have hD : va_D A (wX7 cI cS hh vCar vGoa vEag tN tF cN cF mP mS kCap kGap kCar kCop kGro kShr bN bF rCmd rLet rNum fCap fGap fCar fCop fGro fShr hX hC hR) := hD
        replace h := map_inl h
        exact c_26 h H locs hP hD hS ls (lv_sub hl [0, 1] rfl)
  exact hmain _ _ hP hS
set_option maxRecDepth 100000 in
set_option maxHeartbeats 4000000 in
theorem t_X7_cell (l : Launch) (hlt : l.stackTraces = false) (D : va_G) (cI cS cL : ClassId) (Z : Nat) (hh : Nat → Nat) (p1 : Int32) (vCar : Int32) (vGoa : Int32) (vEag : Int32) (tN : Int32) (tF : Nat → Int32) (cN : Int32) (cF : Nat → Int32) (mP : Nat → Int32) (mS : Nat → Int32) (kCap : Int32) (kGap : Int32) (kCar : Int32) (kCop : Int32) (kGro : Int32) (kShr : Int32) (bN : Int32) (bF : Nat → Int32) (rCmd : Int32) (rLet : Int32) (rNum : Int32) (fCap : Int32) (fGap : Int32) (fCar : Int32) (fCop : Int32) (fGro : Int32) (fShr : Int32) (hX : Int32) (hC : Int32) (hR : Nat → StT) {E0 : String}  (h : f_X7_cell Z p1 tN tF kCap kGap = some (.inr E0)) : CTi l yX7_cell cX7_cell 2 (some .int) rmt_X7_cell D cI cS cL [.ref (hh 0), .int p1] (wX7 cI cS hh vCar vGoa vEag tN tF cN cF mP mS kCap kGap kCar kCop kGro kShr bN bF rCmd rLet rNum fCap fGap fCar fCop fGro fShr hX hC hR) E0 := by
  refine ent_ti (by decide +kernel) (Nat.le_of_ble_eq_true rfl) ?_
  intro p e s m args below meth c A ls hx hb hr hml hlocks hg hown hK hP hD hS hA hl htab hZ
  have hown : s.vm.findClass RX7 = some m.cls := hown
  have hl : lv_has ls 2 [(0, .ref (hh 0)), (1, .int p1)] := hl
  have hP : va_P D vwCl (wX7 cI cS hh vCar vGoa vEag tN tF cN cF mP mS kCap kGap kCar kCop kGro kShr bN bF rCmd rLet rNum fCap fGap fCar fCop fGro fShr hX hC hR) s.heap := hP
  have hD : va_D A (wX7 cI cS hh vCar vGoa vEag tN tF cN cF mP mS kCap kGap kCar kCop kGro kShr bN bF rCmd rLet rNum fCap fGap fCar fCop fGro fShr hX hC hR) := hD
  show W p l e rmt_X7_cell s m args below meth c s.heap [] 0 0 (FT D below (va_Qi (fun _ (_ : Unit) => False) (fun _ _ => False) A) args s (wX7 cI cS hh vCar vGoa vEag tN tF cN cF mP mS kCap kGap kCar kCop kGro kShr bN bF rCmd rLet rNum fCap fGap fCar fCop fGro fShr hX hC hR) E0 A) (F0 m 0 ls [])
  unfold f_X7_cell at h
  have hmain : ∀ (H : Heap) (locs : List Loc), va_P D vwCl (wX7 cI cS hh vCar vGoa vEag tN tF cN cF mP mS kCap kGap kCar kCop kGro kShr bN bF rCmd rLet rNum fCap fGap fCar fCop fGro fShr hX hC hR) H → va_S A s.heap H locs → W p l e rmt_X7_cell s m args below meth c H locs 0 0 (FT D below (va_Qi (fun _ (_ : Unit) => False) (fun _ _ => False) A) args s (wX7 cI cS hh vCar vGoa vEag tN tF cN cF mP mS kCap kGap kCar kCop kGro kShr bN bF rCmd rLet rNum fCap fGap fCar fCop fGro fShr hX hC hR) E0 A) (F0 m 0 ls []) := by
    intro H locs hP hS
    refine lv_iload_n hx hb dX7_cell_0 rfl (lv_at hl 1 rfl) ?_
    refine lv_if_lt (tgt := 22) hx hb dX7_cell_1 (by decide) (fun q7 => ?_) (fun q7 => ?_)
    · replace h := it_some q7 h
      refine lv_iconst (v := 0) hx hb dX7_cell_22 (by decide) ?_
      by_cases q8 : (0 : Int32) = 0
      · replace h := it_some q8 h
        cases h
        exact cT_out (As := [.int (0 : Int32)]) (rest := []) hx hb hml hown hg hK hP hD hS hA hl.1 htab hZ hlocks (t_X7_requireIndex l hlt D cI cS cL (0 : Int32) q8) gs_X7_requireIndex gw_679 ⟨rfl, rfl, by decide, by decide⟩ ⟨by decide, by decide⟩ rfl rfl (Nat.le_of_ble_eq_true rfl) dX7_cell_23
      replace h := if_some q8 h
      refine cS_v (As := [.int (0 : Int32)]) (rest := []) (wc := []) (wc' := []) hx hb hml hown hg hK hP hD hS hA hl.1 (k_X7_requireIndex l D cI cS cL (0 : Int32) q8) gs_X7_requireIndex gw_679 ⟨rfl, rfl, by decide, by decide⟩ ⟨Nat.zero_le _, Nat.zero_le _⟩ [] rfl rfl rfl rfl rfl (Nat.le_of_ble_eq_true rfl) dX7_cell_23 (fun H locs hP hD hS => ?_)
      have hP : va_P D vwCl (wX7 cI cS hh vCar vGoa vEag tN tF cN cF mP mS kCap kGap kCar kCop kGro kShr bN bF rCmd rLet rNum fCap fGap fCar fCop fGro fShr hX hC hR) H := hP
      have hD : va_D A (wX7 cI cS hh vCar vGoa vEag tN tF cN cF mP mS kCap kGap kCar kCop kGro kShr bN bF rCmd rLet rNum fCap fGap fCar fCop fGro fShr hX hC hR) := hD
      exact map_inr h
    · replace h := if_some q7 h
      refine lv_iload_n hx hb dX7_cell_4 rfl (lv_at hl 1 rfl) ?_
      refine lv_aload_n hx hb dX7_cell_5 rfl (lv_at hl 0 rfl) ?_
      refine va_get (D := D) (ci := 7) (v := .ref (hh 1)) (C := RX7) (T := TX7) (N := 4) hx hb hg uX7 hown hK.1 hP 0 rfl rfl 0 (by decide) (hg _ gw_244) (fun _ h9 => h9) rfl dX7_cell_6 ?_
      refine va_getN (D := D) (ci := 6) (v := .ref (hh 9)) (C := RX6) (T := TX6) (N := 7) hx hb hg uX6 hown hK.1 hP 1 rfl rfl 3 (by decide) (kk_nest hK nw_166) (fun _ h9 => h9) rfl dX7_cell_9 ?_
      refine va_getN (D := D) (ci := 3) (v := .int kCap) (C := RX3) (T := TX3) (N := 6) hx hb hg uX3 hown hK.1 hP 9 rfl rfl 0 (by decide) (kk_nest hK nw_128) (fun _ h9 => h9) rfl dX7_cell_12 ?_
      refine lv_icmp_ge (tgt := 22) hx hb dX7_cell_15 (by decide) (fun q9 => ?_) (fun q9 => ?_)
      · replace h := it_some q9 h
        refine lv_iconst (v := 0) hx hb dX7_cell_22 (by decide) ?_
        by_cases q10 : (0 : Int32) = 0
        · replace h := it_some q10 h
          cases h
          exact cT_out (As := [.int (0 : Int32)]) (rest := []) hx hb hml hown hg hK hP hD hS hA hl.1 htab hZ hlocks (t_X7_requireIndex l hlt D cI cS cL (0 : Int32) q10) gs_X7_requireIndex gw_679 ⟨rfl, rfl, by decide, by decide⟩ ⟨by decide, by decide⟩ rfl rfl (Nat.le_of_ble_eq_true rfl) dX7_cell_23
        replace h := if_some q10 h
        refine cS_v (As := [.int (0 : Int32)]) (rest := []) (wc := []) (wc' := []) hx hb hml hown hg hK hP hD hS hA hl.1 (k_X7_requireIndex l D cI cS cL (0 : Int32) q10) gs_X7_requireIndex gw_679 ⟨rfl, rfl, by decide, by decide⟩ ⟨Nat.zero_le _, Nat.zero_le _⟩ [] rfl rfl rfl rfl rfl (Nat.le_of_ble_eq_true rfl) dX7_cell_23 (fun H locs hP hD hS => ?_)
        have hP : va_P D vwCl (wX7 cI cS hh vCar vGoa vEag tN tF cN cF mP mS kCap kGap kCar kCop kGro kShr bN bF rCmd rLet rNum fCap fGap fCar fCop fGro fShr hX hC hR) H := hP
        have hD : va_D A (wX7 cI cS hh vCar vGoa vEag tN tF cN cF mP mS kCap kGap kCar kCop kGro kShr bN bF rCmd rLet rNum fCap fGap fCar fCop fGro fShr hX hC hR) := hD
        exact map_inr h
      · replace h := if_some q9 h
        refine lv_iconst (v := 1) hx hb dX7_cell_18 (by decide) ?_
        refine lv_goto (tgt := 23) hx hb dX7_cell_19 (by decide) ?_
        by_cases q11 : (1 : Int32) = 0
        · replace h := it_some q11 h
          cases h
          exact cT_out (As := [.int (1 : Int32)]) (rest := []) hx hb hml hown hg hK hP hD hS hA hl.1 htab hZ hlocks (t_X7_requireIndex l hlt D cI cS cL (1 : Int32) q11) gs_X7_requireIndex gw_679 ⟨rfl, rfl, by decide, by decide⟩ ⟨by decide, by decide⟩ rfl rfl (Nat.le_of_ble_eq_true rfl) dX7_cell_23
        replace h := if_some q11 h
        refine cS_v (As := [.int (1 : Int32)]) (rest := []) (wc := []) (wc' := []) hx hb hml hown hg hK hP hD hS hA hl.1 (k_X7_requireIndex l D cI cS cL (1 : Int32) q11) gs_X7_requireIndex gw_679 ⟨rfl, rfl, by decide, by decide⟩ ⟨Nat.zero_le _, Nat.zero_le _⟩ [] rfl rfl rfl rfl rfl (Nat.le_of_ble_eq_true rfl) dX7_cell_23 (fun H locs hP hD hS => ?_)
        have hP : va_P D vwCl (wX7 cI cS hh vCar vGoa vEag tN tF cN cF mP mS kCap kGap kCar kCop kGro kShr bN bF rCmd rLet rNum fCap fGap fCar fCop fGro fShr hX hC hR) H := hP
        have hD : va_D A (wX7 cI cS hh vCar vGoa vEag tN tF cN cF mP mS kCap kGap kCar kCop kGro kShr bN bF rCmd rLet rNum fCap fGap fCar fCop fGro fShr hX hC hR) := hD
        exact map_inr h
  exact hmain _ _ hP hS
abbrev rm_X7_carried : Room := { frames := 0, cells := 0, slots := 0, locals := 0 }
def f_X7_carried (Z : Nat) (kCar : Int32) : Option (Int32) :=
  some kCar
set_option maxRecDepth 100000 in
set_option maxHeartbeats 4000000 in
theorem k_X7_carried (l : Launch) (D : va_G) (cI cS cL : ClassId) (Z : Nat) (hh : Nat → Nat) (vCar : Int32) (vGoa : Int32) (vEag : Int32) (tN : Int32) (tF : Nat → Int32) (cN : Int32) (cF : Nat → Int32) (mP : Nat → Int32) (mS : Nat → Int32) (kCap : Int32) (kGap : Int32) (kCar : Int32) (kCop : Int32) (kGro : Int32) (kShr : Int32) (bN : Int32) (bF : Nat → Int32) (rCmd : Int32) (rLet : Int32) (rNum : Int32) (fCap : Int32) (fGap : Int32) (fCar : Int32) (fCop : Int32) (fGro : Int32) (fShr : Int32) (hX : Int32) (hC : Int32) (hR : Nat → StT) {r : Int32} (h : f_X7_carried Z kCar = some r) : CI l yX7_carried cX7_carried 1 (some .int) rm_X7_carried D cI cS cL [.ref (hh 0)] (wX7 cI cS hh vCar vGoa vEag tN tF cN cF mP mS kCap kGap kCar kCop kGro kShr bN bF rCmd rLet rNum fCap fGap fCar fCop fGro fShr hX hC hR) (wX7 cI cS hh vCar vGoa vEag tN tF cN cF mP mS kCap kGap kCar kCop kGro kShr bN bF rCmd rLet rNum fCap fGap fCar fCop fGro fShr hX hC hR) r := by
  refine ent_i (by decide +kernel) (Nat.le_of_ble_eq_true rfl) ?_
  intro p e s m args below meth c A ls hx hb hr hml hlocks hg hown hK hP hD hS hA hl
  have hown : s.vm.findClass RX7 = some m.cls := hown
  have hl : lv_has ls 1 [(0, .ref (hh 0))] := hl
  have hP : va_P D vwCl (wX7 cI cS hh vCar vGoa vEag tN tF cN cF mP mS kCap kGap kCar kCop kGro kShr bN bF rCmd rLet rNum fCap fGap fCar fCop fGro fShr hX hC hR) s.heap := hP
  have hD : va_D A (wX7 cI cS hh vCar vGoa vEag tN tF cN cF mP mS kCap kGap kCar kCop kGro kShr bN bF rCmd rLet rNum fCap fGap fCar fCop fGro fShr hX hC hR) := hD
  show W p l e rm_X7_carried s m args below meth c s.heap [] 0 0 (FI D below args s (wX7 cI cS hh vCar vGoa vEag tN tF cN cF mP mS kCap kGap kCar kCop kGro kShr bN bF rCmd rLet rNum fCap fGap fCar fCop fGro fShr hX hC hR) r A) (F0 m 0 ls [])
  unfold f_X7_carried at h
  have hmain : ∀ (H : Heap) (locs : List Loc), va_P D vwCl (wX7 cI cS hh vCar vGoa vEag tN tF cN cF mP mS kCap kGap kCar kCop kGro kShr bN bF rCmd rLet rNum fCap fGap fCar fCop fGro fShr hX hC hR) H → va_S A s.heap H locs → W p l e rm_X7_carried s m args below meth c H locs 0 0 (FI D below args s (wX7 cI cS hh vCar vGoa vEag tN tF cN cF mP mS kCap kGap kCar kCop kGro kShr bN bF rCmd rLet rNum fCap fGap fCar fCop fGro fShr hX hC hR) r A) (F0 m 0 ls []) := by
    intro H locs hP hS
    refine lv_aload_n hx hb dX7_carried_0 rfl (lv_at hl 0 rfl) ?_
    refine va_get (D := D) (ci := 7) (v := .ref (hh 1)) (C := RX7) (T := TX7) (N := 4) hx hb hg uX7 hown hK.1 hP 0 rfl rfl 0 (by decide) (hg _ gw_244) (fun _ h9 => h9) rfl dX7_carried_1 ?_
    refine va_getN (D := D) (ci := 6) (v := .ref (hh 9)) (C := RX6) (T := TX6) (N := 7) hx hb hg uX6 hown hK.1 hP 1 rfl rfl 3 (by decide) (kk_nest hK nw_166) (fun _ h9 => h9) rfl dX7_carried_4 ?_
    refine va_getN (D := D) (ci := 3) (v := .int kCar) (C := RX3) (T := TX3) (N := 6) hx hb hg uX3 hown hK.1 hP 9 rfl rfl 2 (by decide) (kk_nest hK nw_134) (fun _ h9 => h9) rfl dX7_carried_7 ?_
    cases h
    exact ret_i hx hb hr hlocks hP hD hS dX7_carried_10 rfl
  exact hmain _ _ hP hS
abbrev rm_X7_copied : Room := { frames := 0, cells := 0, slots := 0, locals := 0 }
def f_X7_copied (Z : Nat) (kCop : Int32) : Option (Int32) :=
  some kCop
set_option maxRecDepth 100000 in
set_option maxHeartbeats 4000000 in
theorem k_X7_copied (l : Launch) (D : va_G) (cI cS cL : ClassId) (Z : Nat) (hh : Nat → Nat) (vCar : Int32) (vGoa : Int32) (vEag : Int32) (tN : Int32) (tF : Nat → Int32) (cN : Int32) (cF : Nat → Int32) (mP : Nat → Int32) (mS : Nat → Int32) (kCap : Int32) (kGap : Int32) (kCar : Int32) (kCop : Int32) (kGro : Int32) (kShr : Int32) (bN : Int32) (bF : Nat → Int32) (rCmd : Int32) (rLet : Int32) (rNum : Int32) (fCap : Int32) (fGap : Int32) (fCar : Int32) (fCop : Int32) (fGro : Int32) (fShr : Int32) (hX : Int32) (hC : Int32) (hR : Nat → StT) {r : Int32} (h : f_X7_copied Z kCop = some r) : CI l yX7_copied cX7_copied 1 (some .int) rm_X7_copied D cI cS cL [.ref (hh 0)] (wX7 cI cS hh vCar vGoa vEag tN tF cN cF mP mS kCap kGap kCar kCop kGro kShr bN bF rCmd rLet rNum fCap fGap fCar fCop fGro fShr hX hC hR) (wX7 cI cS hh vCar vGoa vEag tN tF cN cF mP mS kCap kGap kCar kCop kGro kShr bN bF rCmd rLet rNum fCap fGap fCar fCop fGro fShr hX hC hR) r := by
  refine ent_i (by decide +kernel) (Nat.le_of_ble_eq_true rfl) ?_
  intro p e s m args below meth c A ls hx hb hr hml hlocks hg hown hK hP hD hS hA hl
  have hown : s.vm.findClass RX7 = some m.cls := hown
  have hl : lv_has ls 1 [(0, .ref (hh 0))] := hl
  have hP : va_P D vwCl (wX7 cI cS hh vCar vGoa vEag tN tF cN cF mP mS kCap kGap kCar kCop kGro kShr bN bF rCmd rLet rNum fCap fGap fCar fCop fGro fShr hX hC hR) s.heap := hP
  have hD : va_D A (wX7 cI cS hh vCar vGoa vEag tN tF cN cF mP mS kCap kGap kCar kCop kGro kShr bN bF rCmd rLet rNum fCap fGap fCar fCop fGro fShr hX hC hR) := hD
  show W p l e rm_X7_copied s m args below meth c s.heap [] 0 0 (FI D below args s (wX7 cI cS hh vCar vGoa vEag tN tF cN cF mP mS kCap kGap kCar kCop kGro kShr bN bF rCmd rLet rNum fCap fGap fCar fCop fGro fShr hX hC hR) r A) (F0 m 0 ls [])
  unfold f_X7_copied at h
  have hmain : ∀ (H : Heap) (locs : List Loc), va_P D vwCl (wX7 cI cS hh vCar vGoa vEag tN tF cN cF mP mS kCap kGap kCar kCop kGro kShr bN bF rCmd rLet rNum fCap fGap fCar fCop fGro fShr hX hC hR) H → va_S A s.heap H locs → W p l e rm_X7_copied s m args below meth c H locs 0 0 (FI D below args s (wX7 cI cS hh vCar vGoa vEag tN tF cN cF mP mS kCap kGap kCar kCop kGro kShr bN bF rCmd rLet rNum fCap fGap fCar fCop fGro fShr hX hC hR) r A) (F0 m 0 ls []) := by
    intro H locs hP hS
    refine lv_aload_n hx hb dX7_copied_0 rfl (lv_at hl 0 rfl) ?_
    refine va_get (D := D) (ci := 7) (v := .ref (hh 1)) (C := RX7) (T := TX7) (N := 4) hx hb hg uX7 hown hK.1 hP 0 rfl rfl 0 (by decide) (hg _ gw_244) (fun _ h9 => h9) rfl dX7_copied_1 ?_
    refine va_getN (D := D) (ci := 6) (v := .ref (hh 9)) (C := RX6) (T := TX6) (N := 7) hx hb hg uX6 hown hK.1 hP 1 rfl rfl 3 (by decide) (kk_nest hK nw_166) (fun _ h9 => h9) rfl dX7_copied_4 ?_
    refine va_getN (D := D) (ci := 3) (v := .int kCop) (C := RX3) (T := TX3) (N := 6) hx hb hg uX3 hown hK.1 hP 9 rfl rfl 3 (by decide) (kk_nest hK nw_137) (fun _ h9 => h9) rfl dX7_copied_7 ?_
    cases h
    exact ret_i hx hb hr hlocks hP hD hS dX7_copied_10 rfl
  exact hmain _ _ hP hS
abbrev rm_X7_growths : Room := { frames := 0, cells := 0, slots := 0, locals := 0 }
def f_X7_growths (Z : Nat) (kGro : Int32) : Option (Int32) :=
  some kGro
set_option maxRecDepth 100000 in
set_option maxHeartbeats 4000000 in
theorem k_X7_growths (l : Launch) (D : va_G) (cI cS cL : ClassId) (Z : Nat) (hh : Nat → Nat) (vCar : Int32) (vGoa : Int32) (vEag : Int32) (tN : Int32) (tF : Nat → Int32) (cN : Int32) (cF : Nat → Int32) (mP : Nat → Int32) (mS : Nat → Int32) (kCap : Int32) (kGap : Int32) (kCar : Int32) (kCop : Int32) (kGro : Int32) (kShr : Int32) (bN : Int32) (bF : Nat → Int32) (rCmd : Int32) (rLet : Int32) (rNum : Int32) (fCap : Int32) (fGap : Int32) (fCar : Int32) (fCop : Int32) (fGro : Int32) (fShr : Int32) (hX : Int32) (hC : Int32) (hR : Nat → StT) {r : Int32} (h : f_X7_growths Z kGro = some r) : CI l yX7_growths cX7_growths 1 (some .int) rm_X7_growths D cI cS cL [.ref (hh 0)] (wX7 cI cS hh vCar vGoa vEag tN tF cN cF mP mS kCap kGap kCar kCop kGro kShr bN bF rCmd rLet rNum fCap fGap fCar fCop fGro fShr hX hC hR) (wX7 cI cS hh vCar vGoa vEag tN tF cN cF mP mS kCap kGap kCar kCop kGro kShr bN bF rCmd rLet rNum fCap fGap fCar fCop fGro fShr hX hC hR) r := by
  refine ent_i (by decide +kernel) (Nat.le_of_ble_eq_true rfl) ?_
  intro p e s m args below meth c A ls hx hb hr hml hlocks hg hown hK hP hD hS hA hl
  have hown : s.vm.findClass RX7 = some m.cls := hown
  have hl : lv_has ls 1 [(0, .ref (hh 0))] := hl
  have hP : va_P D vwCl (wX7 cI cS hh vCar vGoa vEag tN tF cN cF mP mS kCap kGap kCar kCop kGro kShr bN bF rCmd rLet rNum fCap fGap fCar fCop fGro fShr hX hC hR) s.heap := hP
  have hD : va_D A (wX7 cI cS hh vCar vGoa vEag tN tF cN cF mP mS kCap kGap kCar kCop kGro kShr bN bF rCmd rLet rNum fCap fGap fCar fCop fGro fShr hX hC hR) := hD
  show W p l e rm_X7_growths s m args below meth c s.heap [] 0 0 (FI D below args s (wX7 cI cS hh vCar vGoa vEag tN tF cN cF mP mS kCap kGap kCar kCop kGro kShr bN bF rCmd rLet rNum fCap fGap fCar fCop fGro fShr hX hC hR) r A) (F0 m 0 ls [])
  unfold f_X7_growths at h
  have hmain : ∀ (H : Heap) (locs : List Loc), va_P D vwCl (wX7 cI cS hh vCar vGoa vEag tN tF cN cF mP mS kCap kGap kCar kCop kGro kShr bN bF rCmd rLet rNum fCap fGap fCar fCop fGro fShr hX hC hR) H → va_S A s.heap H locs → W p l e rm_X7_growths s m args below meth c H locs 0 0 (FI D below args s (wX7 cI cS hh vCar vGoa vEag tN tF cN cF mP mS kCap kGap kCar kCop kGro kShr bN bF rCmd rLet rNum fCap fGap fCar fCop fGro fShr hX hC hR) r A) (F0 m 0 ls []) := by
    intro H locs hP hS
    refine lv_aload_n hx hb dX7_growths_0 rfl (lv_at hl 0 rfl) ?_
    refine va_get (D := D) (ci := 7) (v := .ref (hh 1)) (C := RX7) (T := TX7) (N := 4) hx hb hg uX7 hown hK.1 hP 0 rfl rfl 0 (by decide) (hg _ gw_244) (fun _ h9 => h9) rfl dX7_growths_1 ?_
    refine va_getN (D := D) (ci := 6) (v := .ref (hh 9)) (C := RX6) (T := TX6) (N := 7) hx hb hg uX6 hown hK.1 hP 1 rfl rfl 3 (by decide) (kk_nest hK nw_166) (fun _ h9 => h9) rfl dX7_growths_4 ?_
    refine va_getN (D := D) (ci := 3) (v := .int kGro) (C := RX3) (T := TX3) (N := 6) hx hb hg uX3 hown hK.1 hP 9 rfl rfl 4 (by decide) (kk_nest hK nw_140) (fun _ h9 => h9) rfl dX7_growths_7 ?_
    cases h
    exact ret_i hx hb hr hlocks hP hD hS dX7_growths_10 rfl
  exact hmain _ _ hP hS
abbrev rm_X7_shrinks : Room := { frames := 0, cells := 0, slots := 0, locals := 0 }
def f_X7_shrinks (Z : Nat) (kShr : Int32) : Option (Int32) :=
  some kShr
set_option maxRecDepth 100000 in
set_option maxHeartbeats 4000000 in
theorem k_X7_shrinks (l : Launch) (D : va_G) (cI cS cL : ClassId) (Z : Nat) (hh : Nat → Nat) (vCar : Int32) (vGoa : Int32) (vEag : Int32) (tN : Int32) (tF : Nat → Int32) (cN : Int32) (cF : Nat → Int32) (mP : Nat → Int32) (mS : Nat → Int32) (kCap : Int32) (kGap : Int32) (kCar : Int32) (kCop : Int32) (kGro : Int32) (kShr : Int32) (bN : Int32) (bF : Nat → Int32) (rCmd : Int32) (rLet : Int32) (rNum : Int32) (fCap : Int32) (fGap : Int32) (fCar : Int32) (fCop : Int32) (fGro : Int32) (fShr : Int32) (hX : Int32) (hC : Int32) (hR : Nat → StT) {r : Int32} (h : f_X7_shrinks Z kShr = some r) : CI l yX7_shrinks cX7_shrinks 1 (some .int) rm_X7_shrinks D cI cS cL [.ref (hh 0)] (wX7 cI cS hh vCar vGoa vEag tN tF cN cF mP mS kCap kGap kCar kCop kGro kShr bN bF rCmd rLet rNum fCap fGap fCar fCop fGro fShr hX hC hR) (wX7 cI cS hh vCar vGoa vEag tN tF cN cF mP mS kCap kGap kCar kCop kGro kShr bN bF rCmd rLet rNum fCap fGap fCar fCop fGro fShr hX hC hR) r := by
  refine ent_i (by decide +kernel) (Nat.le_of_ble_eq_true rfl) ?_
  intro p e s m args below meth c A ls hx hb hr hml hlocks hg hown hK hP hD hS hA hl
  have hown : s.vm.findClass RX7 = some m.cls := hown
  have hl : lv_has ls 1 [(0, .ref (hh 0))] := hl
  have hP : va_P D vwCl (wX7 cI cS hh vCar vGoa vEag tN tF cN cF mP mS kCap kGap kCar kCop kGro kShr bN bF rCmd rLet rNum fCap fGap fCar fCop fGro fShr hX hC hR) s.heap := hP
  have hD : va_D A (wX7 cI cS hh vCar vGoa vEag tN tF cN cF mP mS kCap kGap kCar kCop kGro kShr bN bF rCmd rLet rNum fCap fGap fCar fCop fGro fShr hX hC hR) := hD
  show W p l e rm_X7_shrinks s m args below meth c s.heap [] 0 0 (FI D below args s (wX7 cI cS hh vCar vGoa vEag tN tF cN cF mP mS kCap kGap kCar kCop kGro kShr bN bF rCmd rLet rNum fCap fGap fCar fCop fGro fShr hX hC hR) r A) (F0 m 0 ls [])
  unfold f_X7_shrinks at h
  have hmain : ∀ (H : Heap) (locs : List Loc), va_P D vwCl (wX7 cI cS hh vCar vGoa vEag tN tF cN cF mP mS kCap kGap kCar kCop kGro kShr bN bF rCmd rLet rNum fCap fGap fCar fCop fGro fShr hX hC hR) H → va_S A s.heap H locs → W p l e rm_X7_shrinks s m args below meth c H locs 0 0 (FI D below args s (wX7 cI cS hh vCar vGoa vEag tN tF cN cF mP mS kCap kGap kCar kCop kGro kShr bN bF rCmd rLet rNum fCap fGap fCar fCop fGro fShr hX hC hR) r A) (F0 m 0 ls []) := by
    intro H locs hP hS
    refine lv_aload_n hx hb dX7_shrinks_0 rfl (lv_at hl 0 rfl) ?_
    refine va_get (D := D) (ci := 7) (v := .ref (hh 1)) (C := RX7) (T := TX7) (N := 4) hx hb hg uX7 hown hK.1 hP 0 rfl rfl 0 (by decide) (hg _ gw_244) (fun _ h9 => h9) rfl dX7_shrinks_1 ?_
    refine va_getN (D := D) (ci := 6) (v := .ref (hh 9)) (C := RX6) (T := TX6) (N := 7) hx hb hg uX6 hown hK.1 hP 1 rfl rfl 3 (by decide) (kk_nest hK nw_166) (fun _ h9 => h9) rfl dX7_shrinks_4 ?_
    refine va_getN (D := D) (ci := 3) (v := .int kShr) (C := RX3) (T := TX3) (N := 6) hx hb hg uX3 hown hK.1 hP 9 rfl rfl 5 (by decide) (kk_nest hK nw_143) (fun _ h9 => h9) rfl dX7_shrinks_7 ?_
    cases h
    exact ret_i hx hb hr hlocks hP hD hS dX7_shrinks_10 rfl
  exact hmain _ _ hP hS
abbrev rm_X7_costOf : Room := { frames := 3, cells := 0, slots := 0, locals := 67 }
abbrev rmt_X7_costOf : Room := { frames := 7, cells := 1, slots := 6, locals := 101 }
def f_X7_costOf_c15 (Z : Nat) (p1 : Int32) (p2 : Int32) (tN : Int32) (kCap : Int32) (kGap : Int32) (kCar : Int32) (kCop : Int32) (kGro : Int32) (kShr : Int32) (fCap : Int32) (fGap : Int32) (fCar : Int32) (fCop : Int32) (fGro : Int32) (fShr : Int32) : Option (Int32 × Int32 × Int32 × Int32 × Int32 × Int32 × Int32) :=
    (f_X6_insertFault Z p2 tN).bind fun r1 =>
    if r1 = 0 then
      (f_X3_assign Z fCap fGap fCar fCop fGro fShr kCap kGap kCar kCop kGro kShr).bind fun (fCap_3, fGap_3, fCar_3, fCop_3, fGro_3, fShr_3) =>
      (f_X0_size Z 256 tN).bind fun r4 =>
      (f_X3_insertAt Z p1 p2 r4 fCap_3 fGap_3 fCar_3 fCop_3 fGro_3).bind fun (fCap_5, fGap_5, fCar_5, fCop_5, fGro_5) =>
      (f_X3_cost Z fCar_5 fCop_5).bind fun r6 =>
      (f_X3_cost Z kCar kCop).bind fun r7 =>
      some (r6 - r7, fCap_5, fGap_5, fCar_5, fCop_5, fGro_5, fShr_3)
    else
      some ((-1), fCap, fGap, fCar, fCop, fGro, fShr)
def f_X7_costOf (Z : Nat) (p1 : Int32) (p2 : Int32) (tN : Int32) (kCap : Int32) (kGap : Int32) (kCar : Int32) (kCop : Int32) (kGro : Int32) (kShr : Int32) (fCap : Int32) (fGap : Int32) (fCar : Int32) (fCop : Int32) (fGro : Int32) (fShr : Int32) : Option ((Int32 × Int32 × Int32 × Int32 × Int32 × Int32 × Int32) ⊕ String) :=
  (f_X7_isPosition Z p1 tN).bind fun r8 =>
  if r8 = 0 then
    some (.inr "java/lang/IndexOutOfBoundsException")
  else
  (f_X7_isCount Z p2).bind fun r10 =>
  if r10 = 0 then
    some (.inr "java/lang/IllegalArgumentException")
  else
  (f_X7_costOf_c15 Z p1 p2 tN kCap kGap kCar kCop kGro kShr fCap fGap fCar fCop fGro fShr).map Sum.inl
set_option maxRecDepth 100000 in
set_option maxHeartbeats 4000000 in
theorem k_X7_costOf (l : Launch) (D : va_G) (cI cS cL : ClassId) (Z : Nat) (hh : Nat → Nat) (p1 : Int32) (p2 : Int32) (vCar : Int32) (vGoa : Int32) (vEag : Int32) (tN : Int32) (tF : Nat → Int32) (cN : Int32) (cF : Nat → Int32) (mP : Nat → Int32) (mS : Nat → Int32) (kCap : Int32) (kGap : Int32) (kCar : Int32) (kCop : Int32) (kGro : Int32) (kShr : Int32) (bN : Int32) (bF : Nat → Int32) (rCmd : Int32) (rLet : Int32) (rNum : Int32) (fCap : Int32) (fGap : Int32) (fCar : Int32) (fCop : Int32) (fGro : Int32) (fShr : Int32) (hX : Int32) (hC : Int32) (hR : Nat → StT) {r : Int32} {fCap' : Int32} {fGap' : Int32} {fCar' : Int32} {fCop' : Int32} {fGro' : Int32} {fShr' : Int32} (h : f_X7_costOf Z p1 p2 tN kCap kGap kCar kCop kGro kShr fCap fGap fCar fCop fGro fShr = some (.inl (r, fCap', fGap', fCar', fCop', fGro', fShr'))) : CI l yX7_costOf cX7_costOf 3 (some .int) rm_X7_costOf D cI cS cL [.ref (hh 0), .int p1, .int p2] (wX7 cI cS hh vCar vGoa vEag tN tF cN cF mP mS kCap kGap kCar kCop kGro kShr bN bF rCmd rLet rNum fCap fGap fCar fCop fGro fShr hX hC hR) (wX7 cI cS hh vCar vGoa vEag tN tF cN cF mP mS kCap kGap kCar kCop kGro kShr bN bF rCmd rLet rNum (fCap') (fGap') (fCar') (fCop') (fGro') (fShr') hX hC hR) r := by
  refine ent_i (by decide +kernel) (Nat.le_of_ble_eq_true rfl) ?_
  intro p e s m args below meth c A ls hx hb hr hml hlocks hg hown hK hP hD hS hA hl
  have hown : s.vm.findClass RX7 = some m.cls := hown
  have c_15 : ∀ (fCap : Int32) (fGap : Int32) (fCar : Int32) (fCop : Int32) (fGro : Int32) (fShr : Int32), f_X7_costOf_c15 Z p1 p2 tN kCap kGap kCar kCop kGro kShr fCap fGap fCar fCop fGro fShr = some (r, fCap', fGap', fCar', fCop', fGro', fShr') → ∀ (H : Heap) (locs : List Loc), va_P D vwCl (wX7 cI cS hh vCar vGoa vEag tN tF cN cF mP mS kCap kGap kCar kCop kGro kShr bN bF rCmd rLet rNum fCap fGap fCar fCop fGro fShr hX hC hR) H → va_D A (wX7 cI cS hh vCar vGoa vEag tN tF cN cF mP mS kCap kGap kCar kCop kGro kShr bN bF rCmd rLet rNum fCap fGap fCar fCop fGro fShr hX hC hR) → va_S A s.heap H locs → ∀ ls : Array Slot, lv_has ls 3 [(0, .ref (hh 0)), (1, .int p1), (2, .int p2)] → W p l e rm_X7_costOf s m args below meth c H locs 0 0 (FI D below args s (wX7 cI cS hh vCar vGoa vEag tN tF cN cF mP mS kCap kGap kCar kCop kGro kShr bN bF rCmd rLet rNum (fCap') (fGap') (fCar') (fCop') (fGro') (fShr') hX hC hR) r A) (F0 m 15 ls []) := by
    intro fCap fGap fCar fCop fGro fShr h H locs hP hD hS ls hl
    unfold f_X7_costOf_c15 at h
    refine lv_aload_n hx hb dX7_costOf_15 rfl (lv_at hl 0 rfl) ?_
    refine va_get (D := D) (ci := 7) (v := .ref (hh 1)) (C := RX7) (T := TX7) (N := 4) hx hb hg uX7 hown hK.1 hP 0 rfl rfl 0 (by decide) (hg _ gw_244) (fun _ h9 => h9) rfl dX7_costOf_16 ?_
    refine lv_iload_n hx hb dX7_costOf_19 rfl (lv_at hl 2 rfl) ?_
    obtain ⟨r1, ec1, h⟩ := bd_some h
    refine cV_i (As := [.int p2]) (rest := []) (wc := (wX6 cI (hh 1) (hh 2) (hh 3) (hh 4) (hh 5) (hh 6) (hh 7) (hh 8) (hh 9) vCar vGoa vEag tN tF cN cF mP mS kCap kGap kCar kCop kGro kShr)) (wc' := (wX6 cI (hh 1) (hh 2) (hh 3) (hh 4) (hh 5) (hh 6) (hh 7) (hh 8) (hh 9) vCar vGoa vEag tN tF cN cF mP mS kCap kGap kCar kCop kGro kShr)) hx hb hml hown hg hK hP hD hS hA hl.1 (k_X6_insertFault l D cI cS cL Z (hh 1) (hh 2) (hh 3) (hh 4) (hh 5) (hh 6) (hh 7) (hh 8) (hh 9) p2 vCar vGoa vEag tN tF cN cF mP mS kCap kGap kCar kCop kGro kShr ec1) gm_X6_insertFault gw_567 ⟨rfl, rfl, by decide, by decide⟩ ⟨Nat.zero_le _, Nat.zero_le _⟩ [1, 2, 3, 4, 5, 6, 7, 8, 9] rfl rfl rfl rfl rfl rfl rfl rfl (Nat.le_of_ble_eq_true rfl) dX7_costOf_20 (fun H locs hP hD hS => ?_)
    have hP : va_P D vwCl (wX7 cI cS hh vCar vGoa vEag tN tF cN cF mP mS kCap kGap kCar kCop kGro kShr bN bF rCmd rLet rNum fCap fGap fCar fCop fGro fShr hX hC hR) H := hP
    have hD : va_D A (wX7 cI cS hh vCar vGoa vEag tN tF cN cF mP mS kCap kGap kCar kCop kGro kShr bN bF rCmd rLet rNum fCap fGap fCar fCop fGro fShr hX hC hR) := hD
    refine lv_if_eq (tgt := 28) hx hb dX7_costOf_23 (by decide) (fun q2 => ?_) (fun q2 => ?_)
    · replace h := it_some q2 h
      refine lv_aload_n hx hb dX7_costOf_28 rfl (lv_at hl 0 rfl) ?_
      refine va_get (D := D) (ci := 7) (v := .ref (hh 14)) (C := RX7) (T := TX7) (N := 4) hx hb hg uX7 hown hK.1 hP 0 rfl rfl 3 (by decide) (hg _ gw_247) (fun _ h9 => h9) rfl dX7_costOf_29 ?_
      refine lv_aload_n hx hb dX7_costOf_32 rfl (lv_at hl 0 rfl) ?_
      refine va_get (D := D) (ci := 7) (v := .ref (hh 1)) (C := RX7) (T := TX7) (N := 4) hx hb hg uX7 hown hK.1 hP 0 rfl rfl 0 (by decide) (hg _ gw_244) (fun _ h9 => h9) rfl dX7_costOf_33 ?_
      refine va_getN (D := D) (ci := 6) (v := .ref (hh 9)) (C := RX6) (T := TX6) (N := 7) hx hb hg uX6 hown hK.1 hP 1 rfl rfl 3 (by decide) (kk_nest hK nw_166) (fun _ h9 => h9) rfl dX7_costOf_36 ?_
      obtain ⟨⟨fCap_3, fGap_3, fCar_3, fCop_3, fGro_3, fShr_3⟩, ec3, h⟩ := bd_some h
      refine cV_v (As := [.ref (hh 9)]) (rest := []) (wc := (wX3 cI (hh 14) fCap fGap fCar fCop fGro fShr ++ wX3 cI (hh 9) kCap kGap kCar kCop kGro kShr)) (wc' := (wX3 cI (hh 14) fCap_3 fGap_3 fCar_3 fCop_3 fGro_3 fShr_3 ++ wX3 cI (hh 9) kCap kGap kCar kCop kGro kShr)) hx hb hml hown hg hK hP hD hS hA hl.1 (k_X3_assign l D cI cS cL Z (hh 14) (hh 9) fCap fGap fCar fCop fGro fShr kCap kGap kCar kCop kGro kShr ec3) gm_X3_assign gw_854 ⟨rfl, rfl, by decide, by decide⟩ ⟨Nat.zero_le _, Nat.zero_le _⟩ [14, 9] rfl rfl rfl rfl rfl rfl rfl rfl (Nat.le_of_ble_eq_true rfl) dX7_costOf_39 (fun H locs hP hD hS => ?_)
      have hP : va_P D vwCl (wX7 cI cS hh vCar vGoa vEag tN tF cN cF mP mS kCap kGap kCar kCop kGro kShr bN bF rCmd rLet rNum fCap_3 fGap_3 fCar_3 fCop_3 fGro_3 fShr_3 hX hC hR) H := hP
      have hD : va_D A (wX7 cI cS hh vCar vGoa vEag tN tF cN cF mP mS kCap kGap kCar kCop kGro kShr bN bF rCmd rLet rNum fCap_3 fGap_3 fCar_3 fCop_3 fGro_3 fShr_3 hX hC hR) := hD
      refine lv_aload_n hx hb dX7_costOf_42 rfl (lv_at hl 0 rfl) ?_
      refine va_get (D := D) (ci := 7) (v := .ref (hh 14)) (C := RX7) (T := TX7) (N := 4) hx hb hg uX7 hown hK.1 hP 0 rfl rfl 3 (by decide) (hg _ gw_247) (fun _ h9 => h9) rfl dX7_costOf_43 ?_
      refine lv_iload_n hx hb dX7_costOf_46 rfl (lv_at hl 1 rfl) ?_
      refine lv_iload_n hx hb dX7_costOf_47 rfl (lv_at hl 2 rfl) ?_
      refine lv_aload_n hx hb dX7_costOf_48 rfl (lv_at hl 0 rfl) ?_
      refine va_get (D := D) (ci := 7) (v := .ref (hh 1)) (C := RX7) (T := TX7) (N := 4) hx hb hg uX7 hown hK.1 hP 0 rfl rfl 0 (by decide) (hg _ gw_244) (fun _ h9 => h9) rfl dX7_costOf_49 ?_
      refine va_getN (D := D) (ci := 6) (v := .ref (hh 2)) (C := RX6) (T := TX6) (N := 7) hx hb hg uX6 hown hK.1 hP 1 rfl rfl 0 (by decide) (kk_nest hK nw_158) (fun _ h9 => h9) rfl dX7_costOf_52 ?_
      obtain ⟨r4, ec4, h⟩ := bd_some h
      refine cV_i (As := []) (rest := [.int p2, .int p1, .ref (hh 14)]) (wc := (wX0 cI (hh 2) (hh 3) 256 tN tF)) (wc' := (wX0 cI (hh 2) (hh 3) 256 tN tF)) hx hb hml hown hg hK hP hD hS hA hl.1 (k_X0_size l D cI cS cL Z (hh 2) (hh 3) 256 tN tF ec4) gm_X0_size gw_361 ⟨rfl, rfl, by decide, by decide⟩ ⟨Nat.zero_le _, Nat.zero_le _⟩ [2, 3] rfl rfl rfl rfl rfl rfl rfl rfl (Nat.le_of_ble_eq_true rfl) dX7_costOf_55 (fun H locs hP hD hS => ?_)
      have hP : va_P D vwCl (wX7 cI cS hh vCar vGoa vEag tN tF cN cF mP mS kCap kGap kCar kCop kGro kShr bN bF rCmd rLet rNum fCap_3 fGap_3 fCar_3 fCop_3 fGro_3 fShr_3 hX hC hR) H := hP
      have hD : va_D A (wX7 cI cS hh vCar vGoa vEag tN tF cN cF mP mS kCap kGap kCar kCop kGro kShr bN bF rCmd rLet rNum fCap_3 fGap_3 fCar_3 fCop_3 fGro_3 fShr_3 hX hC hR) := hD
      obtain ⟨⟨fCap_5, fGap_5, fCar_5, fCop_5, fGro_5⟩, ec5, h⟩ := bd_some h
      refine cV_v (As := [.int p1, .int p2, .int r4]) (rest := []) (wc := (wX3 cI (hh 14) fCap_3 fGap_3 fCar_3 fCop_3 fGro_3 fShr_3)) (wc' := (wX3 cI (hh 14) fCap_5 fGap_5 fCar_5 fCop_5 fGro_5 fShr_3)) hx hb hml hown hg hK hP hD hS hA hl.1 (k_X3_insertAt l D cI cS cL Z (hh 14) p1 p2 r4 fCap_3 fGap_3 fCar_3 fCop_3 fGro_3 fShr_3 ec5) gm_X3_insertAt gw_855 ⟨rfl, rfl, by decide, by decide⟩ ⟨Nat.zero_le _, Nat.zero_le _⟩ [14] rfl rfl rfl rfl rfl rfl rfl rfl (Nat.le_of_ble_eq_true rfl) dX7_costOf_58 (fun H locs hP hD hS => ?_)
      have hP : va_P D vwCl (wX7 cI cS hh vCar vGoa vEag tN tF cN cF mP mS kCap kGap kCar kCop kGro kShr bN bF rCmd rLet rNum fCap_5 fGap_5 fCar_5 fCop_5 fGro_5 fShr_3 hX hC hR) H := hP
      have hD : va_D A (wX7 cI cS hh vCar vGoa vEag tN tF cN cF mP mS kCap kGap kCar kCop kGro kShr bN bF rCmd rLet rNum fCap_5 fGap_5 fCar_5 fCop_5 fGro_5 fShr_3 hX hC hR) := hD
      refine lv_aload_n hx hb dX7_costOf_61 rfl (lv_at hl 0 rfl) ?_
      refine va_get (D := D) (ci := 7) (v := .ref (hh 14)) (C := RX7) (T := TX7) (N := 4) hx hb hg uX7 hown hK.1 hP 0 rfl rfl 3 (by decide) (hg _ gw_247) (fun _ h9 => h9) rfl dX7_costOf_62 ?_
      obtain ⟨r6, ec6, h⟩ := bd_some h
      refine cV_i (As := []) (rest := []) (wc := (wX3 cI (hh 14) fCap_5 fGap_5 fCar_5 fCop_5 fGro_5 fShr_3)) (wc' := (wX3 cI (hh 14) fCap_5 fGap_5 fCar_5 fCop_5 fGro_5 fShr_3)) hx hb hml hown hg hK hP hD hS hA hl.1 (k_X3_cost l D cI cS cL Z (hh 14) fCap_5 fGap_5 fCar_5 fCop_5 fGro_5 fShr_3 ec6) gm_X3_cost gw_856 ⟨rfl, rfl, by decide, by decide⟩ ⟨Nat.zero_le _, Nat.zero_le _⟩ [14] rfl rfl rfl rfl rfl rfl rfl rfl (Nat.le_of_ble_eq_true rfl) dX7_costOf_65 (fun H locs hP hD hS => ?_)
      have hP : va_P D vwCl (wX7 cI cS hh vCar vGoa vEag tN tF cN cF mP mS kCap kGap kCar kCop kGro kShr bN bF rCmd rLet rNum fCap_5 fGap_5 fCar_5 fCop_5 fGro_5 fShr_3 hX hC hR) H := hP
      have hD : va_D A (wX7 cI cS hh vCar vGoa vEag tN tF cN cF mP mS kCap kGap kCar kCop kGro kShr bN bF rCmd rLet rNum fCap_5 fGap_5 fCar_5 fCop_5 fGro_5 fShr_3 hX hC hR) := hD
      refine lv_aload_n hx hb dX7_costOf_68 rfl (lv_at hl 0 rfl) ?_
      refine va_get (D := D) (ci := 7) (v := .ref (hh 1)) (C := RX7) (T := TX7) (N := 4) hx hb hg uX7 hown hK.1 hP 0 rfl rfl 0 (by decide) (hg _ gw_244) (fun _ h9 => h9) rfl dX7_costOf_69 ?_
      refine va_getN (D := D) (ci := 6) (v := .ref (hh 9)) (C := RX6) (T := TX6) (N := 7) hx hb hg uX6 hown hK.1 hP 1 rfl rfl 3 (by decide) (kk_nest hK nw_166) (fun _ h9 => h9) rfl dX7_costOf_72 ?_
      obtain ⟨r7, ec7, h⟩ := bd_some h
      refine cV_i (As := []) (rest := [.int r6]) (wc := (wX3 cI (hh 9) kCap kGap kCar kCop kGro kShr)) (wc' := (wX3 cI (hh 9) kCap kGap kCar kCop kGro kShr)) hx hb hml hown hg hK hP hD hS hA hl.1 (k_X3_cost l D cI cS cL Z (hh 9) kCap kGap kCar kCop kGro kShr ec7) gm_X3_cost gw_856 ⟨rfl, rfl, by decide, by decide⟩ ⟨Nat.zero_le _, Nat.zero_le _⟩ [9] rfl rfl rfl rfl rfl rfl rfl rfl (Nat.le_of_ble_eq_true rfl) dX7_costOf_75 (fun H locs hP hD hS => ?_)
      have hP : va_P D vwCl (wX7 cI cS hh vCar vGoa vEag tN tF cN cF mP mS kCap kGap kCar kCop kGro kShr bN bF rCmd rLet rNum fCap_5 fGap_5 fCar_5 fCop_5 fGro_5 fShr_3 hX hC hR) H := hP
      have hD : va_D A (wX7 cI cS hh vCar vGoa vEag tN tF cN cF mP mS kCap kGap kCar kCop kGro kShr bN bF rCmd rLet rNum fCap_5 fGap_5 fCar_5 fCop_5 fGro_5 fShr_3 hX hC hR) := hD
      refine lv_isub hx hb dX7_costOf_78 ?_
      cases h
      exact ret_i hx hb hr hlocks hP hD hS dX7_costOf_79 rfl
    · replace h := if_some q2 h
      refine lv_iconst (v := (-1)) hx hb dX7_costOf_26 (by decide) ?_
      cases h
      exact ret_i hx hb hr hlocks hP hD hS dX7_costOf_27 rfl
  have hl : lv_has ls 3 [(0, .ref (hh 0)), (1, .int p1), (2, .int p2)] := hl
  have hP : va_P D vwCl (wX7 cI cS hh vCar vGoa vEag tN tF cN cF mP mS kCap kGap kCar kCop kGro kShr bN bF rCmd rLet rNum fCap fGap fCar fCop fGro fShr hX hC hR) s.heap := hP
  have hD : va_D A (wX7 cI cS hh vCar vGoa vEag tN tF cN cF mP mS kCap kGap kCar kCop kGro kShr bN bF rCmd rLet rNum fCap fGap fCar fCop fGro fShr hX hC hR) := hD
  show W p l e rm_X7_costOf s m args below meth c s.heap [] 0 0 (FI D below args s (wX7 cI cS hh vCar vGoa vEag tN tF cN cF mP mS kCap kGap kCar kCop kGro kShr bN bF rCmd rLet rNum (fCap') (fGap') (fCar') (fCop') (fGro') (fShr') hX hC hR) r A) (F0 m 0 ls [])
  unfold f_X7_costOf at h
  have hmain : ∀ (H : Heap) (locs : List Loc), va_P D vwCl (wX7 cI cS hh vCar vGoa vEag tN tF cN cF mP mS kCap kGap kCar kCop kGro kShr bN bF rCmd rLet rNum fCap fGap fCar fCop fGro fShr hX hC hR) H → va_S A s.heap H locs → W p l e rm_X7_costOf s m args below meth c H locs 0 0 (FI D below args s (wX7 cI cS hh vCar vGoa vEag tN tF cN cF mP mS kCap kGap kCar kCop kGro kShr bN bF rCmd rLet rNum (fCap') (fGap') (fCar') (fCop') (fGro') (fShr') hX hC hR) r A) (F0 m 0 ls []) := by
    intro H locs hP hS
    refine lv_aload_n hx hb dX7_costOf_0 rfl (lv_at hl 0 rfl) ?_
    refine lv_iload_n hx hb dX7_costOf_1 rfl (lv_at hl 1 rfl) ?_
    obtain ⟨r8, ec8, h⟩ := bd_some h
    refine cP_i (As := [.int p1]) (rest := []) (wc := (wX7 cI cS hh vCar vGoa vEag tN tF cN cF mP mS kCap kGap kCar kCop kGro kShr bN bF rCmd rLet rNum fCap fGap fCar fCop fGro fShr hX hC hR)) (wc' := (wX7 cI cS hh vCar vGoa vEag tN tF cN cF mP mS kCap kGap kCar kCop kGro kShr bN bF rCmd rLet rNum fCap fGap fCar fCop fGro fShr hX hC hR)) (ws' := (wX7 cI cS hh vCar vGoa vEag tN tF cN cF mP mS kCap kGap kCar kCop kGro kShr bN bF rCmd rLet rNum fCap fGap fCar fCop fGro fShr hX hC hR)) hx hb hml hown hg hK hP hD hS hA hl.1 (k_X7_isPosition l D cI cS cL Z hh p1 vCar vGoa vEag tN tF cN cF mP mS kCap kGap kCar kCop kGro kShr bN bF rCmd rLet rNum fCap fGap fCar fCop fGro fShr hX hC hR ec8) gm_X7_isPosition gw_675 ⟨rfl, rfl, by decide, by decide⟩ ⟨Nat.zero_le _, Nat.zero_le _⟩ pm_all pm_all rfl rfl rfl rfl rfl rfl (Nat.le_of_ble_eq_true rfl) dX7_costOf_2 (fun H locs hP hD hS => ?_)
    by_cases q9 : r8 = 0
    · cases it_some q9 h
    replace h := if_some q9 h
    refine cS_v (As := [.int r8]) (rest := []) (wc := []) (wc' := []) hx hb hml hown hg hK hP hD hS hA hl.1 (k_X7_requireIndex l D cI cS cL r8 q9) gs_X7_requireIndex gw_679 ⟨rfl, rfl, by decide, by decide⟩ ⟨Nat.zero_le _, Nat.zero_le _⟩ [] rfl rfl rfl rfl rfl (Nat.le_of_ble_eq_true rfl) dX7_costOf_5 (fun H locs hP hD hS => ?_)
    have hP : va_P D vwCl (wX7 cI cS hh vCar vGoa vEag tN tF cN cF mP mS kCap kGap kCar kCop kGro kShr bN bF rCmd rLet rNum fCap fGap fCar fCop fGro fShr hX hC hR) H := hP
    have hD : va_D A (wX7 cI cS hh vCar vGoa vEag tN tF cN cF mP mS kCap kGap kCar kCop kGro kShr bN bF rCmd rLet rNum fCap fGap fCar fCop fGro fShr hX hC hR) := hD
    refine lv_iload_n hx hb dX7_costOf_8 rfl (lv_at hl 2 rfl) ?_
    obtain ⟨r10, ec10, h⟩ := bd_some h
    refine cS_i (As := [.int p2]) (rest := []) (wc := []) (wc' := []) hx hb hml hown hg hK hP hD hS hA hl.1 (k_X7_isCount l D cI cS cL Z p2 ec10) gs_X7_isCount gw_621 ⟨rfl, rfl, by decide, by decide⟩ ⟨Nat.zero_le _, Nat.zero_le _⟩ [] rfl rfl rfl rfl rfl (Nat.le_of_ble_eq_true rfl) dX7_costOf_9 (fun H locs hP hD hS => ?_)
    have hP : va_P D vwCl (wX7 cI cS hh vCar vGoa vEag tN tF cN cF mP mS kCap kGap kCar kCop kGro kShr bN bF rCmd rLet rNum fCap fGap fCar fCop fGro fShr hX hC hR) H := hP
    have hD : va_D A (wX7 cI cS hh vCar vGoa vEag tN tF cN cF mP mS kCap kGap kCar kCop kGro kShr bN bF rCmd rLet rNum fCap fGap fCar fCop fGro fShr hX hC hR) := hD
    by_cases q11 : r10 = 0
    · cases it_some q11 h
    replace h := if_some q11 h
    refine cS_v (As := [.int r10]) (rest := []) (wc := []) (wc' := []) hx hb hml hown hg hK hP hD hS hA hl.1 (k_X7_requireArgument l D cI cS cL r10 q11) gs_X7_requireArgument gw_501 ⟨rfl, rfl, by decide, by decide⟩ ⟨Nat.zero_le _, Nat.zero_le _⟩ [] rfl rfl rfl rfl rfl (Nat.le_of_ble_eq_true rfl) dX7_costOf_12 (fun H locs hP hD hS => ?_)
    have hP : va_P D vwCl (wX7 cI cS hh vCar vGoa vEag tN tF cN cF mP mS kCap kGap kCar kCop kGro kShr bN bF rCmd rLet rNum fCap fGap fCar fCop fGro fShr hX hC hR) H := hP
    have hD : va_D A (wX7 cI cS hh vCar vGoa vEag tN tF cN cF mP mS kCap kGap kCar kCop kGro kShr bN bF rCmd rLet rNum fCap fGap fCar fCop fGro fShr hX hC hR) := hD
    replace h := map_inl h
    exact c_15 fCap fGap fCar fCop fGro fShr h H locs hP hD hS ls (lv_sub hl [0, 1, 2] rfl)
  exact hmain _ _ hP hS
set_option maxRecDepth 100000 in
set_option maxHeartbeats 4000000 in
theorem t_X7_costOf (l : Launch) (hlt : l.stackTraces = false) (D : va_G) (cI cS cL : ClassId) (Z : Nat) (hh : Nat → Nat) (p1 : Int32) (p2 : Int32) (vCar : Int32) (vGoa : Int32) (vEag : Int32) (tN : Int32) (tF : Nat → Int32) (cN : Int32) (cF : Nat → Int32) (mP : Nat → Int32) (mS : Nat → Int32) (kCap : Int32) (kGap : Int32) (kCar : Int32) (kCop : Int32) (kGro : Int32) (kShr : Int32) (bN : Int32) (bF : Nat → Int32) (rCmd : Int32) (rLet : Int32) (rNum : Int32) (fCap : Int32) (fGap : Int32) (fCar : Int32) (fCop : Int32) (fGro : Int32) (fShr : Int32) (hX : Int32) (hC : Int32) (hR : Nat → StT) {E0 : String}  (h : f_X7_costOf Z p1 p2 tN kCap kGap kCar kCop kGro kShr fCap fGap fCar fCop fGro fShr = some (.inr E0)) : CTi l yX7_costOf cX7_costOf 3 (some .int) rmt_X7_costOf D cI cS cL [.ref (hh 0), .int p1, .int p2] (wX7 cI cS hh vCar vGoa vEag tN tF cN cF mP mS kCap kGap kCar kCop kGro kShr bN bF rCmd rLet rNum fCap fGap fCar fCop fGro fShr hX hC hR) E0 := by
  refine ent_ti (by decide +kernel) (Nat.le_of_ble_eq_true rfl) ?_
  intro p e s m args below meth c A ls hx hb hr hml hlocks hg hown hK hP hD hS hA hl htab hZ
  have hown : s.vm.findClass RX7 = some m.cls := hown
  have hl : lv_has ls 3 [(0, .ref (hh 0)), (1, .int p1), (2, .int p2)] := hl
  have hP : va_P D vwCl (wX7 cI cS hh vCar vGoa vEag tN tF cN cF mP mS kCap kGap kCar kCop kGro kShr bN bF rCmd rLet rNum fCap fGap fCar fCop fGro fShr hX hC hR) s.heap := hP
  have hD : va_D A (wX7 cI cS hh vCar vGoa vEag tN tF cN cF mP mS kCap kGap kCar kCop kGro kShr bN bF rCmd rLet rNum fCap fGap fCar fCop fGro fShr hX hC hR) := hD
  show W p l e rmt_X7_costOf s m args below meth c s.heap [] 0 0 (FT D below (va_Qi (fun _ (_ : Unit) => False) (fun _ _ => False) A) args s (wX7 cI cS hh vCar vGoa vEag tN tF cN cF mP mS kCap kGap kCar kCop kGro kShr bN bF rCmd rLet rNum fCap fGap fCar fCop fGro fShr hX hC hR) E0 A) (F0 m 0 ls [])
  unfold f_X7_costOf at h
  have hmain : ∀ (H : Heap) (locs : List Loc), va_P D vwCl (wX7 cI cS hh vCar vGoa vEag tN tF cN cF mP mS kCap kGap kCar kCop kGro kShr bN bF rCmd rLet rNum fCap fGap fCar fCop fGro fShr hX hC hR) H → va_S A s.heap H locs → W p l e rmt_X7_costOf s m args below meth c H locs 0 0 (FT D below (va_Qi (fun _ (_ : Unit) => False) (fun _ _ => False) A) args s (wX7 cI cS hh vCar vGoa vEag tN tF cN cF mP mS kCap kGap kCar kCop kGro kShr bN bF rCmd rLet rNum fCap fGap fCar fCop fGro fShr hX hC hR) E0 A) (F0 m 0 ls []) := by
    intro H locs hP hS
    refine lv_aload_n hx hb dX7_costOf_0 rfl (lv_at hl 0 rfl) ?_
    refine lv_iload_n hx hb dX7_costOf_1 rfl (lv_at hl 1 rfl) ?_
    obtain ⟨r12, ec12, h⟩ := bd_some h
    refine cP_i (As := [.int p1]) (rest := []) (wc := (wX7 cI cS hh vCar vGoa vEag tN tF cN cF mP mS kCap kGap kCar kCop kGro kShr bN bF rCmd rLet rNum fCap fGap fCar fCop fGro fShr hX hC hR)) (wc' := (wX7 cI cS hh vCar vGoa vEag tN tF cN cF mP mS kCap kGap kCar kCop kGro kShr bN bF rCmd rLet rNum fCap fGap fCar fCop fGro fShr hX hC hR)) (ws' := (wX7 cI cS hh vCar vGoa vEag tN tF cN cF mP mS kCap kGap kCar kCop kGro kShr bN bF rCmd rLet rNum fCap fGap fCar fCop fGro fShr hX hC hR)) hx hb hml hown hg hK hP hD hS hA hl.1 (k_X7_isPosition l D cI cS cL Z hh p1 vCar vGoa vEag tN tF cN cF mP mS kCap kGap kCar kCop kGro kShr bN bF rCmd rLet rNum fCap fGap fCar fCop fGro fShr hX hC hR ec12) gm_X7_isPosition gw_675 ⟨rfl, rfl, by decide, by decide⟩ ⟨Nat.zero_le _, Nat.zero_le _⟩ pm_all pm_all rfl rfl rfl rfl rfl rfl (Nat.le_of_ble_eq_true rfl) dX7_costOf_2 (fun H locs hP hD hS => ?_)
    by_cases q13 : r12 = 0
    · replace h := it_some q13 h
      cases h
      exact cT_out (As := [.int r12]) (rest := []) hx hb hml hown hg hK hP hD hS hA hl.1 htab hZ hlocks (t_X7_requireIndex l hlt D cI cS cL r12 q13) gs_X7_requireIndex gw_679 ⟨rfl, rfl, by decide, by decide⟩ ⟨by decide, by decide⟩ rfl rfl (Nat.le_of_ble_eq_true rfl) dX7_costOf_5
    replace h := if_some q13 h
    refine cS_v (As := [.int r12]) (rest := []) (wc := []) (wc' := []) hx hb hml hown hg hK hP hD hS hA hl.1 (k_X7_requireIndex l D cI cS cL r12 q13) gs_X7_requireIndex gw_679 ⟨rfl, rfl, by decide, by decide⟩ ⟨Nat.zero_le _, Nat.zero_le _⟩ [] rfl rfl rfl rfl rfl (Nat.le_of_ble_eq_true rfl) dX7_costOf_5 (fun H locs hP hD hS => ?_)
    have hP : va_P D vwCl (wX7 cI cS hh vCar vGoa vEag tN tF cN cF mP mS kCap kGap kCar kCop kGro kShr bN bF rCmd rLet rNum fCap fGap fCar fCop fGro fShr hX hC hR) H := hP
    have hD : va_D A (wX7 cI cS hh vCar vGoa vEag tN tF cN cF mP mS kCap kGap kCar kCop kGro kShr bN bF rCmd rLet rNum fCap fGap fCar fCop fGro fShr hX hC hR) := hD
    refine lv_iload_n hx hb dX7_costOf_8 rfl (lv_at hl 2 rfl) ?_
    obtain ⟨r14, ec14, h⟩ := bd_some h
    refine cS_i (As := [.int p2]) (rest := []) (wc := []) (wc' := []) hx hb hml hown hg hK hP hD hS hA hl.1 (k_X7_isCount l D cI cS cL Z p2 ec14) gs_X7_isCount gw_621 ⟨rfl, rfl, by decide, by decide⟩ ⟨Nat.zero_le _, Nat.zero_le _⟩ [] rfl rfl rfl rfl rfl (Nat.le_of_ble_eq_true rfl) dX7_costOf_9 (fun H locs hP hD hS => ?_)
    have hP : va_P D vwCl (wX7 cI cS hh vCar vGoa vEag tN tF cN cF mP mS kCap kGap kCar kCop kGro kShr bN bF rCmd rLet rNum fCap fGap fCar fCop fGro fShr hX hC hR) H := hP
    have hD : va_D A (wX7 cI cS hh vCar vGoa vEag tN tF cN cF mP mS kCap kGap kCar kCop kGro kShr bN bF rCmd rLet rNum fCap fGap fCar fCop fGro fShr hX hC hR) := hD
    by_cases q15 : r14 = 0
    · replace h := it_some q15 h
      cases h
      exact cT_out (As := [.int r14]) (rest := []) hx hb hml hown hg hK hP hD hS hA hl.1 htab hZ hlocks (t_X7_requireArgument l hlt D cI cS cL r14 q15) gs_X7_requireArgument gw_501 ⟨rfl, rfl, by decide, by decide⟩ ⟨by decide, by decide⟩ rfl rfl (Nat.le_of_ble_eq_true rfl) dX7_costOf_12
    replace h := if_some q15 h
    refine cS_v (As := [.int r14]) (rest := []) (wc := []) (wc' := []) hx hb hml hown hg hK hP hD hS hA hl.1 (k_X7_requireArgument l D cI cS cL r14 q15) gs_X7_requireArgument gw_501 ⟨rfl, rfl, by decide, by decide⟩ ⟨Nat.zero_le _, Nat.zero_le _⟩ [] rfl rfl rfl rfl rfl (Nat.le_of_ble_eq_true rfl) dX7_costOf_12 (fun H locs hP hD hS => ?_)
    have hP : va_P D vwCl (wX7 cI cS hh vCar vGoa vEag tN tF cN cF mP mS kCap kGap kCar kCop kGro kShr bN bF rCmd rLet rNum fCap fGap fCar fCop fGro fShr hX hC hR) H := hP
    have hD : va_D A (wX7 cI cS hh vCar vGoa vEag tN tF cN cF mP mS kCap kGap kCar kCop kGro kShr bN bF rCmd rLet rNum fCap fGap fCar fCop fGro fShr hX hC hR) := hD
    exact map_inr h
  exact hmain _ _ hP hS
abbrev rm_X7_costOfTwo : Room := { frames := 3, cells := 0, slots := 0, locals := 67 }
abbrev rmt_X7_costOfTwo : Room := { frames := 7, cells := 1, slots := 6, locals := 101 }
def f_X7_costOfTwo_c49 (Z : Nat) (p1 : Int32) (p2 : Int32) (tN : Int32) (kCap : Int32) (kGap : Int32) (kCar : Int32) (kCop : Int32) (kGro : Int32) (kShr : Int32) (y0 : Int32) (fCap : Int32) (fGap : Int32) (fCar : Int32) (fCop : Int32) (fGro : Int32) (fShr : Int32) : Option (Int32 × Int32 × Int32 × Int32 × Int32 × Int32 × Int32) :=
    (f_X3_assign Z fCap fGap fCar fCop fGro fShr kCap kGap kCar kCop kGro kShr).bind fun (fCap_1, fGap_1, fCar_1, fCop_1, fGro_1, fShr_1) =>
    (f_X0_size Z 256 tN).bind fun r2 =>
    (f_X3_insertAt Z p1 1 r2 fCap_1 fGap_1 fCar_1 fCop_1 fGro_1).bind fun (fCap_3, fGap_3, fCar_3, fCop_3, fGro_3) =>
    (f_X0_size Z 256 tN).bind fun r4 =>
    (f_X3_insertAt Z y0 1 (r4 + 1) fCap_3 fGap_3 fCar_3 fCop_3 fGro_3).bind fun (fCap_5, fGap_5, fCar_5, fCop_5, fGro_5) =>
    (f_X3_cost Z fCar_5 fCop_5).bind fun r6 =>
    (f_X3_cost Z kCar kCop).bind fun r7 =>
    some (r6 - r7, fCap_5, fGap_5, fCar_5, fCop_5, fGro_5, fShr_1)
def f_X7_costOfTwo_c24 (Z : Nat) (p1 : Int32) (p2 : Int32) (tN : Int32) (kCap : Int32) (kGap : Int32) (kCar : Int32) (kCop : Int32) (kGro : Int32) (kShr : Int32) (fCap : Int32) (fGap : Int32) (fCar : Int32) (fCop : Int32) (fGro : Int32) (fShr : Int32) : Option (Int32 × Int32 × Int32 × Int32 × Int32 × Int32 × Int32) :=
    (f_X6_insertFault Z 2 tN).bind fun r8 =>
    if r8 = 0 then
      if p2 < p1 then
        f_X7_costOfTwo_c49 Z p1 p2 tN kCap kGap kCar kCop kGro kShr p2 fCap fGap fCar fCop fGro fShr
      else
        f_X7_costOfTwo_c49 Z p1 p2 tN kCap kGap kCar kCop kGro kShr (p2 + 1) fCap fGap fCar fCop fGro fShr
    else
      some ((-1), fCap, fGap, fCar, fCop, fGro, fShr)
def f_X7_costOfTwo (Z : Nat) (p1 : Int32) (p2 : Int32) (tN : Int32) (kCap : Int32) (kGap : Int32) (kCar : Int32) (kCop : Int32) (kGro : Int32) (kShr : Int32) (fCap : Int32) (fGap : Int32) (fCar : Int32) (fCop : Int32) (fGro : Int32) (fShr : Int32) : Option ((Int32 × Int32 × Int32 × Int32 × Int32 × Int32 × Int32) ⊕ String) :=
  (f_X7_isPosition Z p1 tN).bind fun r11 =>
  if r11 = 0 then
    if (0 : Int32) = 0 then
      some (.inr "java/lang/IndexOutOfBoundsException")
    else
    (f_X7_costOfTwo_c24 Z p1 p2 tN kCap kGap kCar kCop kGro kShr fCap fGap fCar fCop fGro fShr).map Sum.inl
  else
    (f_X7_isPosition Z p2 tN).bind fun r14 =>
    if r14 = 0 then
      if (0 : Int32) = 0 then
        some (.inr "java/lang/IndexOutOfBoundsException")
      else
      (f_X7_costOfTwo_c24 Z p1 p2 tN kCap kGap kCar kCop kGro kShr fCap fGap fCar fCop fGro fShr).map Sum.inl
    else
      if (1 : Int32) = 0 then
        some (.inr "java/lang/IndexOutOfBoundsException")
      else
      (f_X7_costOfTwo_c24 Z p1 p2 tN kCap kGap kCar kCop kGro kShr fCap fGap fCar fCop fGro fShr).map Sum.inl
set_option maxRecDepth 100000 in
set_option maxHeartbeats 4000000 in
theorem k_X7_costOfTwo (l : Launch) (D : va_G) (cI cS cL : ClassId) (Z : Nat) (hh : Nat → Nat) (p1 : Int32) (p2 : Int32) (vCar : Int32) (vGoa : Int32) (vEag : Int32) (tN : Int32) (tF : Nat → Int32) (cN : Int32) (cF : Nat → Int32) (mP : Nat → Int32) (mS : Nat → Int32) (kCap : Int32) (kGap : Int32) (kCar : Int32) (kCop : Int32) (kGro : Int32) (kShr : Int32) (bN : Int32) (bF : Nat → Int32) (rCmd : Int32) (rLet : Int32) (rNum : Int32) (fCap : Int32) (fGap : Int32) (fCar : Int32) (fCop : Int32) (fGro : Int32) (fShr : Int32) (hX : Int32) (hC : Int32) (hR : Nat → StT) {r : Int32} {fCap' : Int32} {fGap' : Int32} {fCar' : Int32} {fCop' : Int32} {fGro' : Int32} {fShr' : Int32} (h : f_X7_costOfTwo Z p1 p2 tN kCap kGap kCar kCop kGro kShr fCap fGap fCar fCop fGro fShr = some (.inl (r, fCap', fGap', fCar', fCop', fGro', fShr'))) : CI l yX7_costOfTwo cX7_costOfTwo 4 (some .int) rm_X7_costOfTwo D cI cS cL [.ref (hh 0), .int p1, .int p2] (wX7 cI cS hh vCar vGoa vEag tN tF cN cF mP mS kCap kGap kCar kCop kGro kShr bN bF rCmd rLet rNum fCap fGap fCar fCop fGro fShr hX hC hR) (wX7 cI cS hh vCar vGoa vEag tN tF cN cF mP mS kCap kGap kCar kCop kGro kShr bN bF rCmd rLet rNum (fCap') (fGap') (fCar') (fCop') (fGro') (fShr') hX hC hR) r := by
  refine ent_i (by decide +kernel) (Nat.le_of_ble_eq_true rfl) ?_
  intro p e s m args below meth c A ls hx hb hr hml hlocks hg hown hK hP hD hS hA hl
  have hown : s.vm.findClass RX7 = some m.cls := hown
  have c_49 : ∀ (y0 : Int32) (fCap : Int32) (fGap : Int32) (fCar : Int32) (fCop : Int32) (fGro : Int32) (fShr : Int32), f_X7_costOfTwo_c49 Z p1 p2 tN kCap kGap kCar kCop kGro kShr y0 fCap fGap fCar fCop fGro fShr = some (r, fCap', fGap', fCar', fCop', fGro', fShr') → ∀ (H : Heap) (locs : List Loc), va_P D vwCl (wX7 cI cS hh vCar vGoa vEag tN tF cN cF mP mS kCap kGap kCar kCop kGro kShr bN bF rCmd rLet rNum fCap fGap fCar fCop fGro fShr hX hC hR) H → va_D A (wX7 cI cS hh vCar vGoa vEag tN tF cN cF mP mS kCap kGap kCar kCop kGro kShr bN bF rCmd rLet rNum fCap fGap fCar fCop fGro fShr hX hC hR) → va_S A s.heap H locs → ∀ ls : Array Slot, lv_has ls 4 [(0, .ref (hh 0)), (1, .int p1)] → W p l e rm_X7_costOfTwo s m args below meth c H locs 0 0 (FI D below args s (wX7 cI cS hh vCar vGoa vEag tN tF cN cF mP mS kCap kGap kCar kCop kGro kShr bN bF rCmd rLet rNum (fCap') (fGap') (fCar') (fCop') (fGro') (fShr') hX hC hR) r A) (F0 m 49 ls [.int y0]) := by
    intro y0 fCap fGap fCar fCop fGro fShr h H locs hP hD hS ls hl
    unfold f_X7_costOfTwo_c49 at h
    refine lv_istore_n (lv' := [(3, .int y0), (0, .ref (hh 0)), (1, .int p1)]) hx hb dX7_costOfTwo_49 rfl hl (by decide) rfl (fun ls hl => ?_)
    refine lv_aload_n hx hb dX7_costOfTwo_50 rfl (lv_at hl 1 rfl) ?_
    refine va_get (D := D) (ci := 7) (v := .ref (hh 14)) (C := RX7) (T := TX7) (N := 4) hx hb hg uX7 hown hK.1 hP 0 rfl rfl 3 (by decide) (hg _ gw_247) (fun _ h9 => h9) rfl dX7_costOfTwo_51 ?_
    refine lv_aload_n hx hb dX7_costOfTwo_54 rfl (lv_at hl 1 rfl) ?_
    refine va_get (D := D) (ci := 7) (v := .ref (hh 1)) (C := RX7) (T := TX7) (N := 4) hx hb hg uX7 hown hK.1 hP 0 rfl rfl 0 (by decide) (hg _ gw_244) (fun _ h9 => h9) rfl dX7_costOfTwo_55 ?_
    refine va_getN (D := D) (ci := 6) (v := .ref (hh 9)) (C := RX6) (T := TX6) (N := 7) hx hb hg uX6 hown hK.1 hP 1 rfl rfl 3 (by decide) (kk_nest hK nw_166) (fun _ h9 => h9) rfl dX7_costOfTwo_58 ?_
    obtain ⟨⟨fCap_1, fGap_1, fCar_1, fCop_1, fGro_1, fShr_1⟩, ec1, h⟩ := bd_some h
    refine cV_v (As := [.ref (hh 9)]) (rest := []) (wc := (wX3 cI (hh 14) fCap fGap fCar fCop fGro fShr ++ wX3 cI (hh 9) kCap kGap kCar kCop kGro kShr)) (wc' := (wX3 cI (hh 14) fCap_1 fGap_1 fCar_1 fCop_1 fGro_1 fShr_1 ++ wX3 cI (hh 9) kCap kGap kCar kCop kGro kShr)) hx hb hml hown hg hK hP hD hS hA hl.1 (k_X3_assign l D cI cS cL Z (hh 14) (hh 9) fCap fGap fCar fCop fGro fShr kCap kGap kCar kCop kGro kShr ec1) gm_X3_assign gw_854 ⟨rfl, rfl, by decide, by decide⟩ ⟨Nat.zero_le _, Nat.zero_le _⟩ [14, 9] rfl rfl rfl rfl rfl rfl rfl rfl (Nat.le_of_ble_eq_true rfl) dX7_costOfTwo_61 (fun H locs hP hD hS => ?_)
    have hP : va_P D vwCl (wX7 cI cS hh vCar vGoa vEag tN tF cN cF mP mS kCap kGap kCar kCop kGro kShr bN bF rCmd rLet rNum fCap_1 fGap_1 fCar_1 fCop_1 fGro_1 fShr_1 hX hC hR) H := hP
    have hD : va_D A (wX7 cI cS hh vCar vGoa vEag tN tF cN cF mP mS kCap kGap kCar kCop kGro kShr bN bF rCmd rLet rNum fCap_1 fGap_1 fCar_1 fCop_1 fGro_1 fShr_1 hX hC hR) := hD
    refine lv_aload_n hx hb dX7_costOfTwo_64 rfl (lv_at hl 1 rfl) ?_
    refine va_get (D := D) (ci := 7) (v := .ref (hh 14)) (C := RX7) (T := TX7) (N := 4) hx hb hg uX7 hown hK.1 hP 0 rfl rfl 3 (by decide) (hg _ gw_247) (fun _ h9 => h9) rfl dX7_costOfTwo_65 ?_
    refine lv_iload_n hx hb dX7_costOfTwo_68 rfl (lv_at hl 2 rfl) ?_
    refine lv_iconst (v := 1) hx hb dX7_costOfTwo_69 (by decide) ?_
    refine lv_aload_n hx hb dX7_costOfTwo_70 rfl (lv_at hl 1 rfl) ?_
    refine va_get (D := D) (ci := 7) (v := .ref (hh 1)) (C := RX7) (T := TX7) (N := 4) hx hb hg uX7 hown hK.1 hP 0 rfl rfl 0 (by decide) (hg _ gw_244) (fun _ h9 => h9) rfl dX7_costOfTwo_71 ?_
    refine va_getN (D := D) (ci := 6) (v := .ref (hh 2)) (C := RX6) (T := TX6) (N := 7) hx hb hg uX6 hown hK.1 hP 1 rfl rfl 0 (by decide) (kk_nest hK nw_158) (fun _ h9 => h9) rfl dX7_costOfTwo_74 ?_
    obtain ⟨r2, ec2, h⟩ := bd_some h
    refine cV_i (As := []) (rest := [.int 1, .int p1, .ref (hh 14)]) (wc := (wX0 cI (hh 2) (hh 3) 256 tN tF)) (wc' := (wX0 cI (hh 2) (hh 3) 256 tN tF)) hx hb hml hown hg hK hP hD hS hA hl.1 (k_X0_size l D cI cS cL Z (hh 2) (hh 3) 256 tN tF ec2) gm_X0_size gw_361 ⟨rfl, rfl, by decide, by decide⟩ ⟨Nat.zero_le _, Nat.zero_le _⟩ [2, 3] rfl rfl rfl rfl rfl rfl rfl rfl (Nat.le_of_ble_eq_true rfl) dX7_costOfTwo_77 (fun H locs hP hD hS => ?_)
    have hP : va_P D vwCl (wX7 cI cS hh vCar vGoa vEag tN tF cN cF mP mS kCap kGap kCar kCop kGro kShr bN bF rCmd rLet rNum fCap_1 fGap_1 fCar_1 fCop_1 fGro_1 fShr_1 hX hC hR) H := hP
    have hD : va_D A (wX7 cI cS hh vCar vGoa vEag tN tF cN cF mP mS kCap kGap kCar kCop kGro kShr bN bF rCmd rLet rNum fCap_1 fGap_1 fCar_1 fCop_1 fGro_1 fShr_1 hX hC hR) := hD
    obtain ⟨⟨fCap_3, fGap_3, fCar_3, fCop_3, fGro_3⟩, ec3, h⟩ := bd_some h
    refine cV_v (As := [.int p1, .int 1, .int r2]) (rest := []) (wc := (wX3 cI (hh 14) fCap_1 fGap_1 fCar_1 fCop_1 fGro_1 fShr_1)) (wc' := (wX3 cI (hh 14) fCap_3 fGap_3 fCar_3 fCop_3 fGro_3 fShr_1)) hx hb hml hown hg hK hP hD hS hA hl.1 (k_X3_insertAt l D cI cS cL Z (hh 14) p1 1 r2 fCap_1 fGap_1 fCar_1 fCop_1 fGro_1 fShr_1 ec3) gm_X3_insertAt gw_855 ⟨rfl, rfl, by decide, by decide⟩ ⟨Nat.zero_le _, Nat.zero_le _⟩ [14] rfl rfl rfl rfl rfl rfl rfl rfl (Nat.le_of_ble_eq_true rfl) dX7_costOfTwo_80 (fun H locs hP hD hS => ?_)
    have hP : va_P D vwCl (wX7 cI cS hh vCar vGoa vEag tN tF cN cF mP mS kCap kGap kCar kCop kGro kShr bN bF rCmd rLet rNum fCap_3 fGap_3 fCar_3 fCop_3 fGro_3 fShr_1 hX hC hR) H := hP
    have hD : va_D A (wX7 cI cS hh vCar vGoa vEag tN tF cN cF mP mS kCap kGap kCar kCop kGro kShr bN bF rCmd rLet rNum fCap_3 fGap_3 fCar_3 fCop_3 fGro_3 fShr_1 hX hC hR) := hD
    refine lv_aload_n hx hb dX7_costOfTwo_83 rfl (lv_at hl 1 rfl) ?_
    refine va_get (D := D) (ci := 7) (v := .ref (hh 14)) (C := RX7) (T := TX7) (N := 4) hx hb hg uX7 hown hK.1 hP 0 rfl rfl 3 (by decide) (hg _ gw_247) (fun _ h9 => h9) rfl dX7_costOfTwo_84 ?_
    refine lv_iload_n hx hb dX7_costOfTwo_87 rfl (lv_at hl 0 rfl) ?_
    refine lv_iconst (v := 1) hx hb dX7_costOfTwo_88 (by decide) ?_
    refine lv_aload_n hx hb dX7_costOfTwo_89 rfl (lv_at hl 1 rfl) ?_
    refine va_get (D := D) (ci := 7) (v := .ref (hh 1)) (C := RX7) (T := TX7) (N := 4) hx hb hg uX7 hown hK.1 hP 0 rfl rfl 0 (by decide) (hg _ gw_244) (fun _ h9 => h9) rfl dX7_costOfTwo_90 ?_
    refine va_getN (D := D) (ci := 6) (v := .ref (hh 2)) (C := RX6) (T := TX6) (N := 7) hx hb hg uX6 hown hK.1 hP 1 rfl rfl 0 (by decide) (kk_nest hK nw_158) (fun _ h9 => h9) rfl dX7_costOfTwo_93 ?_
    obtain ⟨r4, ec4, h⟩ := bd_some h
    refine cV_i (As := []) (rest := [.int 1, .int y0, .ref (hh 14)]) (wc := (wX0 cI (hh 2) (hh 3) 256 tN tF)) (wc' := (wX0 cI (hh 2) (hh 3) 256 tN tF)) hx hb hml hown hg hK hP hD hS hA hl.1 (k_X0_size l D cI cS cL Z (hh 2) (hh 3) 256 tN tF ec4) gm_X0_size gw_361 ⟨rfl, rfl, by decide, by decide⟩ ⟨Nat.zero_le _, Nat.zero_le _⟩ [2, 3] rfl rfl rfl rfl rfl rfl rfl rfl (Nat.le_of_ble_eq_true rfl) dX7_costOfTwo_96 (fun H locs hP hD hS => ?_)
    have hP : va_P D vwCl (wX7 cI cS hh vCar vGoa vEag tN tF cN cF mP mS kCap kGap kCar kCop kGro kShr bN bF rCmd rLet rNum fCap_3 fGap_3 fCar_3 fCop_3 fGro_3 fShr_1 hX hC hR) H := hP
    have hD : va_D A (wX7 cI cS hh vCar vGoa vEag tN tF cN cF mP mS kCap kGap kCar kCop kGro kShr bN bF rCmd rLet rNum fCap_3 fGap_3 fCar_3 fCop_3 fGro_3 fShr_1 hX hC hR) := hD
    refine lv_iconst (v := 1) hx hb dX7_costOfTwo_99 (by decide) ?_
    refine lv_iadd hx hb dX7_costOfTwo_100 ?_
    obtain ⟨⟨fCap_5, fGap_5, fCar_5, fCop_5, fGro_5⟩, ec5, h⟩ := bd_some h
    refine cV_v (As := [.int y0, .int 1, .int (r4 + 1)]) (rest := []) (wc := (wX3 cI (hh 14) fCap_3 fGap_3 fCar_3 fCop_3 fGro_3 fShr_1)) (wc' := (wX3 cI (hh 14) fCap_5 fGap_5 fCar_5 fCop_5 fGro_5 fShr_1)) hx hb hml hown hg hK hP hD hS hA hl.1 (k_X3_insertAt l D cI cS cL Z (hh 14) y0 1 (r4 + 1) fCap_3 fGap_3 fCar_3 fCop_3 fGro_3 fShr_1 ec5) gm_X3_insertAt gw_855 ⟨rfl, rfl, by decide, by decide⟩ ⟨Nat.zero_le _, Nat.zero_le _⟩ [14] rfl rfl rfl rfl rfl rfl rfl rfl (Nat.le_of_ble_eq_true rfl) dX7_costOfTwo_101 (fun H locs hP hD hS => ?_)
    have hP : va_P D vwCl (wX7 cI cS hh vCar vGoa vEag tN tF cN cF mP mS kCap kGap kCar kCop kGro kShr bN bF rCmd rLet rNum fCap_5 fGap_5 fCar_5 fCop_5 fGro_5 fShr_1 hX hC hR) H := hP
    have hD : va_D A (wX7 cI cS hh vCar vGoa vEag tN tF cN cF mP mS kCap kGap kCar kCop kGro kShr bN bF rCmd rLet rNum fCap_5 fGap_5 fCar_5 fCop_5 fGro_5 fShr_1 hX hC hR) := hD
    refine lv_aload_n hx hb dX7_costOfTwo_104 rfl (lv_at hl 1 rfl) ?_
    refine va_get (D := D) (ci := 7) (v := .ref (hh 14)) (C := RX7) (T := TX7) (N := 4) hx hb hg uX7 hown hK.1 hP 0 rfl rfl 3 (by decide) (hg _ gw_247) (fun _ h9 => h9) rfl dX7_costOfTwo_105 ?_
    obtain ⟨r6, ec6, h⟩ := bd_some h
    refine cV_i (As := []) (rest := []) (wc := (wX3 cI (hh 14) fCap_5 fGap_5 fCar_5 fCop_5 fGro_5 fShr_1)) (wc' := (wX3 cI (hh 14) fCap_5 fGap_5 fCar_5 fCop_5 fGro_5 fShr_1)) hx hb hml hown hg hK hP hD hS hA hl.1 (k_X3_cost l D cI cS cL Z (hh 14) fCap_5 fGap_5 fCar_5 fCop_5 fGro_5 fShr_1 ec6) gm_X3_cost gw_856 ⟨rfl, rfl, by decide, by decide⟩ ⟨Nat.zero_le _, Nat.zero_le _⟩ [14] rfl rfl rfl rfl rfl rfl rfl rfl (Nat.le_of_ble_eq_true rfl) dX7_costOfTwo_108 (fun H locs hP hD hS => ?_)
    have hP : va_P D vwCl (wX7 cI cS hh vCar vGoa vEag tN tF cN cF mP mS kCap kGap kCar kCop kGro kShr bN bF rCmd rLet rNum fCap_5 fGap_5 fCar_5 fCop_5 fGro_5 fShr_1 hX hC hR) H := hP
    have hD : va_D A (wX7 cI cS hh vCar vGoa vEag tN tF cN cF mP mS kCap kGap kCar kCop kGro kShr bN bF rCmd rLet rNum fCap_5 fGap_5 fCar_5 fCop_5 fGro_5 fShr_1 hX hC hR) := hD
    refine lv_aload_n hx hb dX7_costOfTwo_111 rfl (lv_at hl 1 rfl) ?_
    refine va_get (D := D) (ci := 7) (v := .ref (hh 1)) (C := RX7) (T := TX7) (N := 4) hx hb hg uX7 hown hK.1 hP 0 rfl rfl 0 (by decide) (hg _ gw_244) (fun _ h9 => h9) rfl dX7_costOfTwo_112 ?_
    refine va_getN (D := D) (ci := 6) (v := .ref (hh 9)) (C := RX6) (T := TX6) (N := 7) hx hb hg uX6 hown hK.1 hP 1 rfl rfl 3 (by decide) (kk_nest hK nw_166) (fun _ h9 => h9) rfl dX7_costOfTwo_115 ?_
    obtain ⟨r7, ec7, h⟩ := bd_some h
    refine cV_i (As := []) (rest := [.int r6]) (wc := (wX3 cI (hh 9) kCap kGap kCar kCop kGro kShr)) (wc' := (wX3 cI (hh 9) kCap kGap kCar kCop kGro kShr)) hx hb hml hown hg hK hP hD hS hA hl.1 (k_X3_cost l D cI cS cL Z (hh 9) kCap kGap kCar kCop kGro kShr ec7) gm_X3_cost gw_856 ⟨rfl, rfl, by decide, by decide⟩ ⟨Nat.zero_le _, Nat.zero_le _⟩ [9] rfl rfl rfl rfl rfl rfl rfl rfl (Nat.le_of_ble_eq_true rfl) dX7_costOfTwo_118 (fun H locs hP hD hS => ?_)
    have hP : va_P D vwCl (wX7 cI cS hh vCar vGoa vEag tN tF cN cF mP mS kCap kGap kCar kCop kGro kShr bN bF rCmd rLet rNum fCap_5 fGap_5 fCar_5 fCop_5 fGro_5 fShr_1 hX hC hR) H := hP
    have hD : va_D A (wX7 cI cS hh vCar vGoa vEag tN tF cN cF mP mS kCap kGap kCar kCop kGro kShr bN bF rCmd rLet rNum fCap_5 fGap_5 fCar_5 fCop_5 fGro_5 fShr_1 hX hC hR) := hD
    refine lv_isub hx hb dX7_costOfTwo_121 ?_
    cases h
    exact ret_i hx hb hr hlocks hP hD hS dX7_costOfTwo_122 rfl
  have c_24 : ∀ (fCap : Int32) (fGap : Int32) (fCar : Int32) (fCop : Int32) (fGro : Int32) (fShr : Int32), f_X7_costOfTwo_c24 Z p1 p2 tN kCap kGap kCar kCop kGro kShr fCap fGap fCar fCop fGro fShr = some (r, fCap', fGap', fCar', fCop', fGro', fShr') → ∀ (H : Heap) (locs : List Loc), va_P D vwCl (wX7 cI cS hh vCar vGoa vEag tN tF cN cF mP mS kCap kGap kCar kCop kGro kShr bN bF rCmd rLet rNum fCap fGap fCar fCop fGro fShr hX hC hR) H → va_D A (wX7 cI cS hh vCar vGoa vEag tN tF cN cF mP mS kCap kGap kCar kCop kGro kShr bN bF rCmd rLet rNum fCap fGap fCar fCop fGro fShr hX hC hR) → va_S A s.heap H locs → ∀ ls : Array Slot, lv_has ls 4 [(0, .ref (hh 0)), (1, .int p1), (2, .int p2)] → W p l e rm_X7_costOfTwo s m args below meth c H locs 0 0 (FI D below args s (wX7 cI cS hh vCar vGoa vEag tN tF cN cF mP mS kCap kGap kCar kCop kGro kShr bN bF rCmd rLet rNum (fCap') (fGap') (fCar') (fCop') (fGro') (fShr') hX hC hR) r A) (F0 m 24 ls []) := by
    intro fCap fGap fCar fCop fGro fShr h H locs hP hD hS ls hl
    unfold f_X7_costOfTwo_c24 at h
    refine lv_aload_n hx hb dX7_costOfTwo_24 rfl (lv_at hl 0 rfl) ?_
    refine va_get (D := D) (ci := 7) (v := .ref (hh 1)) (C := RX7) (T := TX7) (N := 4) hx hb hg uX7 hown hK.1 hP 0 rfl rfl 0 (by decide) (hg _ gw_244) (fun _ h9 => h9) rfl dX7_costOfTwo_25 ?_
    refine lv_iconst (v := 2) hx hb dX7_costOfTwo_28 (by decide) ?_
    obtain ⟨r8, ec8, h⟩ := bd_some h
    refine cV_i (As := [.int 2]) (rest := []) (wc := (wX6 cI (hh 1) (hh 2) (hh 3) (hh 4) (hh 5) (hh 6) (hh 7) (hh 8) (hh 9) vCar vGoa vEag tN tF cN cF mP mS kCap kGap kCar kCop kGro kShr)) (wc' := (wX6 cI (hh 1) (hh 2) (hh 3) (hh 4) (hh 5) (hh 6) (hh 7) (hh 8) (hh 9) vCar vGoa vEag tN tF cN cF mP mS kCap kGap kCar kCop kGro kShr)) hx hb hml hown hg hK hP hD hS hA hl.1 (k_X6_insertFault l D cI cS cL Z (hh 1) (hh 2) (hh 3) (hh 4) (hh 5) (hh 6) (hh 7) (hh 8) (hh 9) 2 vCar vGoa vEag tN tF cN cF mP mS kCap kGap kCar kCop kGro kShr ec8) gm_X6_insertFault gw_567 ⟨rfl, rfl, by decide, by decide⟩ ⟨Nat.zero_le _, Nat.zero_le _⟩ [1, 2, 3, 4, 5, 6, 7, 8, 9] rfl rfl rfl rfl rfl rfl rfl rfl (Nat.le_of_ble_eq_true rfl) dX7_costOfTwo_29 (fun H locs hP hD hS => ?_)
    have hP : va_P D vwCl (wX7 cI cS hh vCar vGoa vEag tN tF cN cF mP mS kCap kGap kCar kCop kGro kShr bN bF rCmd rLet rNum fCap fGap fCar fCop fGro fShr hX hC hR) H := hP
    have hD : va_D A (wX7 cI cS hh vCar vGoa vEag tN tF cN cF mP mS kCap kGap kCar kCop kGro kShr bN bF rCmd rLet rNum fCap fGap fCar fCop fGro fShr hX hC hR) := hD
    refine lv_if_eq (tgt := 37) hx hb dX7_costOfTwo_32 (by decide) (fun q9 => ?_) (fun q9 => ?_)
    · replace h := it_some q9 h
      refine lv_iload_n hx hb dX7_costOfTwo_37 rfl (lv_at hl 2 rfl) ?_
      refine lv_iload_n hx hb dX7_costOfTwo_38 rfl (lv_at hl 1 rfl) ?_
      refine lv_icmp_lt (tgt := 48) hx hb dX7_costOfTwo_39 (by decide) (fun q10 => ?_) (fun q10 => ?_)
      · replace h := it_some q10 h
        refine lv_iload_n hx hb dX7_costOfTwo_48 rfl (lv_at hl 2 rfl) ?_
        exact c_49 p2 fCap fGap fCar fCop fGro fShr h H locs hP hD hS ls (lv_sub hl [0, 1] rfl)
      · replace h := if_some q10 h
        refine lv_iload_n hx hb dX7_costOfTwo_42 rfl (lv_at hl 2 rfl) ?_
        refine lv_iconst (v := 1) hx hb dX7_costOfTwo_43 (by decide) ?_
        refine lv_iadd hx hb dX7_costOfTwo_44 ?_
        refine lv_goto (tgt := 49) hx hb dX7_costOfTwo_45 (by decide) ?_
        exact c_49 (p2 + 1) fCap fGap fCar fCop fGro fShr h H locs hP hD hS ls (lv_sub hl [0, 1] rfl)
    · replace h := if_some q9 h
      refine lv_iconst (v := (-1)) hx hb dX7_costOfTwo_35 (by decide) ?_
      cases h
      exact ret_i hx hb hr hlocks hP hD hS dX7_costOfTwo_36 rfl
  have hl : lv_has ls 4 [(0, .ref (hh 0)), (1, .int p1), (2, .int p2)] := hl
  have hP : va_P D vwCl (wX7 cI cS hh vCar vGoa vEag tN tF cN cF mP mS kCap kGap kCar kCop kGro kShr bN bF rCmd rLet rNum fCap fGap fCar fCop fGro fShr hX hC hR) s.heap := hP
  have hD : va_D A (wX7 cI cS hh vCar vGoa vEag tN tF cN cF mP mS kCap kGap kCar kCop kGro kShr bN bF rCmd rLet rNum fCap fGap fCar fCop fGro fShr hX hC hR) := hD
  show W p l e rm_X7_costOfTwo s m args below meth c s.heap [] 0 0 (FI D below args s (wX7 cI cS hh vCar vGoa vEag tN tF cN cF mP mS kCap kGap kCar kCop kGro kShr bN bF rCmd rLet rNum (fCap') (fGap') (fCar') (fCop') (fGro') (fShr') hX hC hR) r A) (F0 m 0 ls [])
  unfold f_X7_costOfTwo at h
  have hmain : ∀ (H : Heap) (locs : List Loc), va_P D vwCl (wX7 cI cS hh vCar vGoa vEag tN tF cN cF mP mS kCap kGap kCar kCop kGro kShr bN bF rCmd rLet rNum fCap fGap fCar fCop fGro fShr hX hC hR) H → va_S A s.heap H locs → W p l e rm_X7_costOfTwo s m args below meth c H locs 0 0 (FI D below args s (wX7 cI cS hh vCar vGoa vEag tN tF cN cF mP mS kCap kGap kCar kCop kGro kShr bN bF rCmd rLet rNum (fCap') (fGap') (fCar') (fCop') (fGro') (fShr') hX hC hR) r A) (F0 m 0 ls []) := by
    intro H locs hP hS
    refine lv_aload_n hx hb dX7_costOfTwo_0 rfl (lv_at hl 0 rfl) ?_
    refine lv_iload_n hx hb dX7_costOfTwo_1 rfl (lv_at hl 1 rfl) ?_
    obtain ⟨r11, ec11, h⟩ := bd_some h
    refine cP_i (As := [.int p1]) (rest := []) (wc := (wX7 cI cS hh vCar vGoa vEag tN tF cN cF mP mS kCap kGap kCar kCop kGro kShr bN bF rCmd rLet rNum fCap fGap fCar fCop fGro fShr hX hC hR)) (wc' := (wX7 cI cS hh vCar vGoa vEag tN tF cN cF mP mS kCap kGap kCar kCop kGro kShr bN bF rCmd rLet rNum fCap fGap fCar fCop fGro fShr hX hC hR)) (ws' := (wX7 cI cS hh vCar vGoa vEag tN tF cN cF mP mS kCap kGap kCar kCop kGro kShr bN bF rCmd rLet rNum fCap fGap fCar fCop fGro fShr hX hC hR)) hx hb hml hown hg hK hP hD hS hA hl.1 (k_X7_isPosition l D cI cS cL Z hh p1 vCar vGoa vEag tN tF cN cF mP mS kCap kGap kCar kCop kGro kShr bN bF rCmd rLet rNum fCap fGap fCar fCop fGro fShr hX hC hR ec11) gm_X7_isPosition gw_675 ⟨rfl, rfl, by decide, by decide⟩ ⟨Nat.zero_le _, Nat.zero_le _⟩ pm_all pm_all rfl rfl rfl rfl rfl rfl (Nat.le_of_ble_eq_true rfl) dX7_costOfTwo_2 (fun H locs hP hD hS => ?_)
    refine lv_if_eq (tgt := 20) hx hb dX7_costOfTwo_5 (by decide) (fun q12 => ?_) (fun q12 => ?_)
    · replace h := it_some q12 h
      refine lv_iconst (v := 0) hx hb dX7_costOfTwo_20 (by decide) ?_
      by_cases q13 : (0 : Int32) = 0
      · cases it_some q13 h
      replace h := if_some q13 h
      refine cS_v (As := [.int (0 : Int32)]) (rest := []) (wc := []) (wc' := []) hx hb hml hown hg hK hP hD hS hA hl.1 (k_X7_requireIndex l D cI cS cL (0 : Int32) q13) gs_X7_requireIndex gw_679 ⟨rfl, rfl, by decide, by decide⟩ ⟨Nat.zero_le _, Nat.zero_le _⟩ [] rfl rfl rfl rfl rfl (Nat.le_of_ble_eq_true rfl) dX7_costOfTwo_21 (fun H locs hP hD hS => ?_)
      have hP : va_P D vwCl (wX7 cI cS hh vCar vGoa vEag tN tF cN cF mP mS kCap kGap kCar kCop kGro kShr bN bF rCmd rLet rNum fCap fGap fCar fCop fGro fShr hX hC hR) H := hP
      have hD : va_D A (wX7 cI cS hh vCar vGoa vEag tN tF cN cF mP mS kCap kGap kCar kCop kGro kShr bN bF rCmd rLet rNum fCap fGap fCar fCop fGro fShr hX hC hR) := hD
      replace h := map_inl h
      exact c_24 fCap fGap fCar fCop fGro fShr h H locs hP hD hS ls (lv_sub hl [0, 1, 2] rfl)
    · replace h := if_some q12 h
      refine lv_aload_n hx hb dX7_costOfTwo_8 rfl (lv_at hl 0 rfl) ?_
      refine lv_iload_n hx hb dX7_costOfTwo_9 rfl (lv_at hl 2 rfl) ?_
      obtain ⟨r14, ec14, h⟩ := bd_some h
      refine cP_i (As := [.int p2]) (rest := []) (wc := (wX7 cI cS hh vCar vGoa vEag tN tF cN cF mP mS kCap kGap kCar kCop kGro kShr bN bF rCmd rLet rNum fCap fGap fCar fCop fGro fShr hX hC hR)) (wc' := (wX7 cI cS hh vCar vGoa vEag tN tF cN cF mP mS kCap kGap kCar kCop kGro kShr bN bF rCmd rLet rNum fCap fGap fCar fCop fGro fShr hX hC hR)) (ws' := (wX7 cI cS hh vCar vGoa vEag tN tF cN cF mP mS kCap kGap kCar kCop kGro kShr bN bF rCmd rLet rNum fCap fGap fCar fCop fGro fShr hX hC hR)) hx hb hml hown hg hK hP hD hS hA hl.1 (k_X7_isPosition l D cI cS cL Z hh p2 vCar vGoa vEag tN tF cN cF mP mS kCap kGap kCar kCop kGro kShr bN bF rCmd rLet rNum fCap fGap fCar fCop fGro fShr hX hC hR ec14) gm_X7_isPosition gw_675 ⟨rfl, rfl, by decide, by decide⟩ ⟨Nat.zero_le _, Nat.zero_le _⟩ pm_all pm_all rfl rfl rfl rfl rfl rfl (Nat.le_of_ble_eq_true rfl) dX7_costOfTwo_10 (fun H locs hP hD hS => ?_)
      refine lv_if_eq (tgt := 20) hx hb dX7_costOfTwo_13 (by decide) (fun q15 => ?_) (fun q15 => ?_)
      · replace h := it_some q15 h
        refine lv_iconst (v := 0) hx hb dX7_costOfTwo_20 (by decide) ?_
        by_cases q16 : (0 : Int32) = 0
        · cases it_some q16 h
        replace h := if_some q16 h
        refine cS_v (As := [.int (0 : Int32)]) (rest := []) (wc := []) (wc' := []) hx hb hml hown hg hK hP hD hS hA hl.1 (k_X7_requireIndex l D cI cS cL (0 : Int32) q16) gs_X7_requireIndex gw_679 ⟨rfl, rfl, by decide, by decide⟩ ⟨Nat.zero_le _, Nat.zero_le _⟩ [] rfl rfl rfl rfl rfl (Nat.le_of_ble_eq_true rfl) dX7_costOfTwo_21 (fun H locs hP hD hS => ?_)
        have hP : va_P D vwCl (wX7 cI cS hh vCar vGoa vEag tN tF cN cF mP mS kCap kGap kCar kCop kGro kShr bN bF rCmd rLet rNum fCap fGap fCar fCop fGro fShr hX hC hR) H := hP
        have hD : va_D A (wX7 cI cS hh vCar vGoa vEag tN tF cN cF mP mS kCap kGap kCar kCop kGro kShr bN bF rCmd rLet rNum fCap fGap fCar fCop fGro fShr hX hC hR) := hD
        replace h := map_inl h
        exact c_24 fCap fGap fCar fCop fGro fShr h H locs hP hD hS ls (lv_sub hl [0, 1, 2] rfl)
      · replace h := if_some q15 h
        refine lv_iconst (v := 1) hx hb dX7_costOfTwo_16 (by decide) ?_
        refine lv_goto (tgt := 21) hx hb dX7_costOfTwo_17 (by decide) ?_
        by_cases q17 : (1 : Int32) = 0
        · cases it_some q17 h
        replace h := if_some q17 h
        refine cS_v (As := [.int (1 : Int32)]) (rest := []) (wc := []) (wc' := []) hx hb hml hown hg hK hP hD hS hA hl.1 (k_X7_requireIndex l D cI cS cL (1 : Int32) q17) gs_X7_requireIndex gw_679 ⟨rfl, rfl, by decide, by decide⟩ ⟨Nat.zero_le _, Nat.zero_le _⟩ [] rfl rfl rfl rfl rfl (Nat.le_of_ble_eq_true rfl) dX7_costOfTwo_21 (fun H locs hP hD hS => ?_)
        have hP : va_P D vwCl (wX7 cI cS hh vCar vGoa vEag tN tF cN cF mP mS kCap kGap kCar kCop kGro kShr bN bF rCmd rLet rNum fCap fGap fCar fCop fGro fShr hX hC hR) H := hP
        have hD : va_D A (wX7 cI cS hh vCar vGoa vEag tN tF cN cF mP mS kCap kGap kCar kCop kGro kShr bN bF rCmd rLet rNum fCap fGap fCar fCop fGro fShr hX hC hR) := hD
        replace h := map_inl h
        exact c_24 fCap fGap fCar fCop fGro fShr h H locs hP hD hS ls (lv_sub hl [0, 1, 2] rfl)
  exact hmain _ _ hP hS
set_option maxRecDepth 100000 in
set_option maxHeartbeats 4000000 in
theorem t_X7_costOfTwo (l : Launch) (hlt : l.stackTraces = false) (D : va_G) (cI cS cL : ClassId) (Z : Nat) (hh : Nat → Nat) (p1 : Int32) (p2 : Int32) (vCar : Int32) (vGoa : Int32) (vEag : Int32) (tN : Int32) (tF : Nat → Int32) (cN : Int32) (cF : Nat → Int32) (mP : Nat → Int32) (mS : Nat → Int32) (kCap : Int32) (kGap : Int32) (kCar : Int32) (kCop : Int32) (kGro : Int32) (kShr : Int32) (bN : Int32) (bF : Nat → Int32) (rCmd : Int32) (rLet : Int32) (rNum : Int32) (fCap : Int32) (fGap : Int32) (fCar : Int32) (fCop : Int32) (fGro : Int32) (fShr : Int32) (hX : Int32) (hC : Int32) (hR : Nat → StT) {E0 : String}  (h : f_X7_costOfTwo Z p1 p2 tN kCap kGap kCar kCop kGro kShr fCap fGap fCar fCop fGro fShr = some (.inr E0)) : CTi l yX7_costOfTwo cX7_costOfTwo 4 (some .int) rmt_X7_costOfTwo D cI cS cL [.ref (hh 0), .int p1, .int p2] (wX7 cI cS hh vCar vGoa vEag tN tF cN cF mP mS kCap kGap kCar kCop kGro kShr bN bF rCmd rLet rNum fCap fGap fCar fCop fGro fShr hX hC hR) E0 := by
  refine ent_ti (by decide +kernel) (Nat.le_of_ble_eq_true rfl) ?_
  intro p e s m args below meth c A ls hx hb hr hml hlocks hg hown hK hP hD hS hA hl htab hZ
  have hown : s.vm.findClass RX7 = some m.cls := hown
  have hl : lv_has ls 4 [(0, .ref (hh 0)), (1, .int p1), (2, .int p2)] := hl
  have hP : va_P D vwCl (wX7 cI cS hh vCar vGoa vEag tN tF cN cF mP mS kCap kGap kCar kCop kGro kShr bN bF rCmd rLet rNum fCap fGap fCar fCop fGro fShr hX hC hR) s.heap := hP
  have hD : va_D A (wX7 cI cS hh vCar vGoa vEag tN tF cN cF mP mS kCap kGap kCar kCop kGro kShr bN bF rCmd rLet rNum fCap fGap fCar fCop fGro fShr hX hC hR) := hD
  show W p l e rmt_X7_costOfTwo s m args below meth c s.heap [] 0 0 (FT D below (va_Qi (fun _ (_ : Unit) => False) (fun _ _ => False) A) args s (wX7 cI cS hh vCar vGoa vEag tN tF cN cF mP mS kCap kGap kCar kCop kGro kShr bN bF rCmd rLet rNum fCap fGap fCar fCop fGro fShr hX hC hR) E0 A) (F0 m 0 ls [])
  unfold f_X7_costOfTwo at h
  have hmain : ∀ (H : Heap) (locs : List Loc), va_P D vwCl (wX7 cI cS hh vCar vGoa vEag tN tF cN cF mP mS kCap kGap kCar kCop kGro kShr bN bF rCmd rLet rNum fCap fGap fCar fCop fGro fShr hX hC hR) H → va_S A s.heap H locs → W p l e rmt_X7_costOfTwo s m args below meth c H locs 0 0 (FT D below (va_Qi (fun _ (_ : Unit) => False) (fun _ _ => False) A) args s (wX7 cI cS hh vCar vGoa vEag tN tF cN cF mP mS kCap kGap kCar kCop kGro kShr bN bF rCmd rLet rNum fCap fGap fCar fCop fGro fShr hX hC hR) E0 A) (F0 m 0 ls []) := by
    intro H locs hP hS
    refine lv_aload_n hx hb dX7_costOfTwo_0 rfl (lv_at hl 0 rfl) ?_
    refine lv_iload_n hx hb dX7_costOfTwo_1 rfl (lv_at hl 1 rfl) ?_
    obtain ⟨r18, ec18, h⟩ := bd_some h
    refine cP_i (As := [.int p1]) (rest := []) (wc := (wX7 cI cS hh vCar vGoa vEag tN tF cN cF mP mS kCap kGap kCar kCop kGro kShr bN bF rCmd rLet rNum fCap fGap fCar fCop fGro fShr hX hC hR)) (wc' := (wX7 cI cS hh vCar vGoa vEag tN tF cN cF mP mS kCap kGap kCar kCop kGro kShr bN bF rCmd rLet rNum fCap fGap fCar fCop fGro fShr hX hC hR)) (ws' := (wX7 cI cS hh vCar vGoa vEag tN tF cN cF mP mS kCap kGap kCar kCop kGro kShr bN bF rCmd rLet rNum fCap fGap fCar fCop fGro fShr hX hC hR)) hx hb hml hown hg hK hP hD hS hA hl.1 (k_X7_isPosition l D cI cS cL Z hh p1 vCar vGoa vEag tN tF cN cF mP mS kCap kGap kCar kCop kGro kShr bN bF rCmd rLet rNum fCap fGap fCar fCop fGro fShr hX hC hR ec18) gm_X7_isPosition gw_675 ⟨rfl, rfl, by decide, by decide⟩ ⟨Nat.zero_le _, Nat.zero_le _⟩ pm_all pm_all rfl rfl rfl rfl rfl rfl (Nat.le_of_ble_eq_true rfl) dX7_costOfTwo_2 (fun H locs hP hD hS => ?_)
    refine lv_if_eq (tgt := 20) hx hb dX7_costOfTwo_5 (by decide) (fun q19 => ?_) (fun q19 => ?_)
    · replace h := it_some q19 h
      refine lv_iconst (v := 0) hx hb dX7_costOfTwo_20 (by decide) ?_
      by_cases q20 : (0 : Int32) = 0
      · replace h := it_some q20 h
        cases h
        exact cT_out (As := [.int (0 : Int32)]) (rest := []) hx hb hml hown hg hK hP hD hS hA hl.1 htab hZ hlocks (t_X7_requireIndex l hlt D cI cS cL (0 : Int32) q20) gs_X7_requireIndex gw_679 ⟨rfl, rfl, by decide, by decide⟩ ⟨by decide, by decide⟩ rfl rfl (Nat.le_of_ble_eq_true rfl) dX7_costOfTwo_21
      replace h := if_some q20 h
      refine cS_v (As := [.int (0 : Int32)]) (rest := []) (wc := []) (wc' := []) hx hb hml hown hg hK hP hD hS hA hl.1 (k_X7_requireIndex l D cI cS cL (0 : Int32) q20) gs_X7_requireIndex gw_679 ⟨rfl, rfl, by decide, by decide⟩ ⟨Nat.zero_le _, Nat.zero_le _⟩ [] rfl rfl rfl rfl rfl (Nat.le_of_ble_eq_true rfl) dX7_costOfTwo_21 (fun H locs hP hD hS => ?_)
      have hP : va_P D vwCl (wX7 cI cS hh vCar vGoa vEag tN tF cN cF mP mS kCap kGap kCar kCop kGro kShr bN bF rCmd rLet rNum fCap fGap fCar fCop fGro fShr hX hC hR) H := hP
      have hD : va_D A (wX7 cI cS hh vCar vGoa vEag tN tF cN cF mP mS kCap kGap kCar kCop kGro kShr bN bF rCmd rLet rNum fCap fGap fCar fCop fGro fShr hX hC hR) := hD
      exact map_inr h
    · replace h := if_some q19 h
      refine lv_aload_n hx hb dX7_costOfTwo_8 rfl (lv_at hl 0 rfl) ?_
      refine lv_iload_n hx hb dX7_costOfTwo_9 rfl (lv_at hl 2 rfl) ?_
      obtain ⟨r21, ec21, h⟩ := bd_some h
      refine cP_i (As := [.int p2]) (rest := []) (wc := (wX7 cI cS hh vCar vGoa vEag tN tF cN cF mP mS kCap kGap kCar kCop kGro kShr bN bF rCmd rLet rNum fCap fGap fCar fCop fGro fShr hX hC hR)) (wc' := (wX7 cI cS hh vCar vGoa vEag tN tF cN cF mP mS kCap kGap kCar kCop kGro kShr bN bF rCmd rLet rNum fCap fGap fCar fCop fGro fShr hX hC hR)) (ws' := (wX7 cI cS hh vCar vGoa vEag tN tF cN cF mP mS kCap kGap kCar kCop kGro kShr bN bF rCmd rLet rNum fCap fGap fCar fCop fGro fShr hX hC hR)) hx hb hml hown hg hK hP hD hS hA hl.1 (k_X7_isPosition l D cI cS cL Z hh p2 vCar vGoa vEag tN tF cN cF mP mS kCap kGap kCar kCop kGro kShr bN bF rCmd rLet rNum fCap fGap fCar fCop fGro fShr hX hC hR ec21) gm_X7_isPosition gw_675 ⟨rfl, rfl, by decide, by decide⟩ ⟨Nat.zero_le _, Nat.zero_le _⟩ pm_all pm_all rfl rfl rfl rfl rfl rfl (Nat.le_of_ble_eq_true rfl) dX7_costOfTwo_10 (fun H locs hP hD hS => ?_)
      refine lv_if_eq (tgt := 20) hx hb dX7_costOfTwo_13 (by decide) (fun q22 => ?_) (fun q22 => ?_)
      · replace h := it_some q22 h
        refine lv_iconst (v := 0) hx hb dX7_costOfTwo_20 (by decide) ?_
        by_cases q23 : (0 : Int32) = 0
        · replace h := it_some q23 h
          cases h
          exact cT_out (As := [.int (0 : Int32)]) (rest := []) hx hb hml hown hg hK hP hD hS hA hl.1 htab hZ hlocks (t_X7_requireIndex l hlt D cI cS cL (0 : Int32) q23) gs_X7_requireIndex gw_679 ⟨rfl, rfl, by decide, by decide⟩ ⟨by decide, by decide⟩ rfl rfl (Nat.le_of_ble_eq_true rfl) dX7_costOfTwo_21
        replace h := if_some q23 h
        refine cS_v (As := [.int (0 : Int32)]) (rest := []) (wc := []) (wc' := []) hx hb hml hown hg hK hP hD hS hA hl.1 (k_X7_requireIndex l D cI cS cL (0 : Int32) q23) gs_X7_requireIndex gw_679 ⟨rfl, rfl, by decide, by decide⟩ ⟨Nat.zero_le _, Nat.zero_le _⟩ [] rfl rfl rfl rfl rfl (Nat.le_of_ble_eq_true rfl) dX7_costOfTwo_21 (fun H locs hP hD hS => ?_)
        have hP : va_P D vwCl (wX7 cI cS hh vCar vGoa vEag tN tF cN cF mP mS kCap kGap kCar kCop kGro kShr bN bF rCmd rLet rNum fCap fGap fCar fCop fGro fShr hX hC hR) H := hP
        have hD : va_D A (wX7 cI cS hh vCar vGoa vEag tN tF cN cF mP mS kCap kGap kCar kCop kGro kShr bN bF rCmd rLet rNum fCap fGap fCar fCop fGro fShr hX hC hR) := hD
        exact map_inr h
      · replace h := if_some q22 h
        refine lv_iconst (v := 1) hx hb dX7_costOfTwo_16 (by decide) ?_
        refine lv_goto (tgt := 21) hx hb dX7_costOfTwo_17 (by decide) ?_
        by_cases q24 : (1 : Int32) = 0
        · replace h := it_some q24 h
          cases h
          exact cT_out (As := [.int (1 : Int32)]) (rest := []) hx hb hml hown hg hK hP hD hS hA hl.1 htab hZ hlocks (t_X7_requireIndex l hlt D cI cS cL (1 : Int32) q24) gs_X7_requireIndex gw_679 ⟨rfl, rfl, by decide, by decide⟩ ⟨by decide, by decide⟩ rfl rfl (Nat.le_of_ble_eq_true rfl) dX7_costOfTwo_21
        replace h := if_some q24 h
        refine cS_v (As := [.int (1 : Int32)]) (rest := []) (wc := []) (wc' := []) hx hb hml hown hg hK hP hD hS hA hl.1 (k_X7_requireIndex l D cI cS cL (1 : Int32) q24) gs_X7_requireIndex gw_679 ⟨rfl, rfl, by decide, by decide⟩ ⟨Nat.zero_le _, Nat.zero_le _⟩ [] rfl rfl rfl rfl rfl (Nat.le_of_ble_eq_true rfl) dX7_costOfTwo_21 (fun H locs hP hD hS => ?_)
        have hP : va_P D vwCl (wX7 cI cS hh vCar vGoa vEag tN tF cN cF mP mS kCap kGap kCar kCop kGro kShr bN bF rCmd rLet rNum fCap fGap fCar fCop fGro fShr hX hC hR) H := hP
        have hD : va_D A (wX7 cI cS hh vCar vGoa vEag tN tF cN cF mP mS kCap kGap kCar kCop kGro kShr bN bF rCmd rLet rNum fCap fGap fCar fCop fGro fShr hX hC hR) := hD
        exact map_inr h
  exact hmain _ _ hP hS
abbrev rm_X7_room : Room := { frames := 1, cells := 0, slots := 0, locals := 20 }
def f_X7_room (Z : Nat) (tN : Int32) (kCap : Int32) : Option (Int32) :=
  (f_X0_size Z 256 tN).bind fun r1 =>
  some (kCap - r1)
set_option maxRecDepth 100000 in
set_option maxHeartbeats 4000000 in
theorem k_X7_room (l : Launch) (D : va_G) (cI cS cL : ClassId) (Z : Nat) (hh : Nat → Nat) (vCar : Int32) (vGoa : Int32) (vEag : Int32) (tN : Int32) (tF : Nat → Int32) (cN : Int32) (cF : Nat → Int32) (mP : Nat → Int32) (mS : Nat → Int32) (kCap : Int32) (kGap : Int32) (kCar : Int32) (kCop : Int32) (kGro : Int32) (kShr : Int32) (bN : Int32) (bF : Nat → Int32) (rCmd : Int32) (rLet : Int32) (rNum : Int32) (fCap : Int32) (fGap : Int32) (fCar : Int32) (fCop : Int32) (fGro : Int32) (fShr : Int32) (hX : Int32) (hC : Int32) (hR : Nat → StT) {r : Int32} (h : f_X7_room Z tN kCap = some r) : CI l yX7_room cX7_room 1 (some .int) rm_X7_room D cI cS cL [.ref (hh 0)] (wX7 cI cS hh vCar vGoa vEag tN tF cN cF mP mS kCap kGap kCar kCop kGro kShr bN bF rCmd rLet rNum fCap fGap fCar fCop fGro fShr hX hC hR) (wX7 cI cS hh vCar vGoa vEag tN tF cN cF mP mS kCap kGap kCar kCop kGro kShr bN bF rCmd rLet rNum fCap fGap fCar fCop fGro fShr hX hC hR) r := by
  refine ent_i (by decide +kernel) (Nat.le_of_ble_eq_true rfl) ?_
  intro p e s m args below meth c A ls hx hb hr hml hlocks hg hown hK hP hD hS hA hl
  have hown : s.vm.findClass RX7 = some m.cls := hown
  have hl : lv_has ls 1 [(0, .ref (hh 0))] := hl
  have hP : va_P D vwCl (wX7 cI cS hh vCar vGoa vEag tN tF cN cF mP mS kCap kGap kCar kCop kGro kShr bN bF rCmd rLet rNum fCap fGap fCar fCop fGro fShr hX hC hR) s.heap := hP
  have hD : va_D A (wX7 cI cS hh vCar vGoa vEag tN tF cN cF mP mS kCap kGap kCar kCop kGro kShr bN bF rCmd rLet rNum fCap fGap fCar fCop fGro fShr hX hC hR) := hD
  show W p l e rm_X7_room s m args below meth c s.heap [] 0 0 (FI D below args s (wX7 cI cS hh vCar vGoa vEag tN tF cN cF mP mS kCap kGap kCar kCop kGro kShr bN bF rCmd rLet rNum fCap fGap fCar fCop fGro fShr hX hC hR) r A) (F0 m 0 ls [])
  unfold f_X7_room at h
  have hmain : ∀ (H : Heap) (locs : List Loc), va_P D vwCl (wX7 cI cS hh vCar vGoa vEag tN tF cN cF mP mS kCap kGap kCar kCop kGro kShr bN bF rCmd rLet rNum fCap fGap fCar fCop fGro fShr hX hC hR) H → va_S A s.heap H locs → W p l e rm_X7_room s m args below meth c H locs 0 0 (FI D below args s (wX7 cI cS hh vCar vGoa vEag tN tF cN cF mP mS kCap kGap kCar kCop kGro kShr bN bF rCmd rLet rNum fCap fGap fCar fCop fGro fShr hX hC hR) r A) (F0 m 0 ls []) := by
    intro H locs hP hS
    refine lv_aload_n hx hb dX7_room_0 rfl (lv_at hl 0 rfl) ?_
    refine va_get (D := D) (ci := 7) (v := .ref (hh 1)) (C := RX7) (T := TX7) (N := 4) hx hb hg uX7 hown hK.1 hP 0 rfl rfl 0 (by decide) (hg _ gw_244) (fun _ h9 => h9) rfl dX7_room_1 ?_
    refine va_getN (D := D) (ci := 6) (v := .ref (hh 9)) (C := RX6) (T := TX6) (N := 7) hx hb hg uX6 hown hK.1 hP 1 rfl rfl 3 (by decide) (kk_nest hK nw_166) (fun _ h9 => h9) rfl dX7_room_4 ?_
    refine va_getN (D := D) (ci := 3) (v := .int kCap) (C := RX3) (T := TX3) (N := 6) hx hb hg uX3 hown hK.1 hP 9 rfl rfl 0 (by decide) (kk_nest hK nw_128) (fun _ h9 => h9) rfl dX7_room_7 ?_
    refine lv_aload_n hx hb dX7_room_10 rfl (lv_at hl 0 rfl) ?_
    refine va_get (D := D) (ci := 7) (v := .ref (hh 1)) (C := RX7) (T := TX7) (N := 4) hx hb hg uX7 hown hK.1 hP 0 rfl rfl 0 (by decide) (hg _ gw_244) (fun _ h9 => h9) rfl dX7_room_11 ?_
    refine va_getN (D := D) (ci := 6) (v := .ref (hh 2)) (C := RX6) (T := TX6) (N := 7) hx hb hg uX6 hown hK.1 hP 1 rfl rfl 0 (by decide) (kk_nest hK nw_158) (fun _ h9 => h9) rfl dX7_room_14 ?_
    obtain ⟨r1, ec1, h⟩ := bd_some h
    refine cV_i (As := []) (rest := [.int kCap]) (wc := (wX0 cI (hh 2) (hh 3) 256 tN tF)) (wc' := (wX0 cI (hh 2) (hh 3) 256 tN tF)) hx hb hml hown hg hK hP hD hS hA hl.1 (k_X0_size l D cI cS cL Z (hh 2) (hh 3) 256 tN tF ec1) gm_X0_size gw_361 ⟨rfl, rfl, by decide, by decide⟩ ⟨Nat.zero_le _, Nat.zero_le _⟩ [2, 3] rfl rfl rfl rfl rfl rfl rfl rfl (Nat.le_of_ble_eq_true rfl) dX7_room_17 (fun H locs hP hD hS => ?_)
    have hP : va_P D vwCl (wX7 cI cS hh vCar vGoa vEag tN tF cN cF mP mS kCap kGap kCar kCop kGro kShr bN bF rCmd rLet rNum fCap fGap fCar fCop fGro fShr hX hC hR) H := hP
    have hD : va_D A (wX7 cI cS hh vCar vGoa vEag tN tF cN cF mP mS kCap kGap kCar kCop kGro kShr bN bF rCmd rLet rNum fCap fGap fCar fCop fGro fShr hX hC hR) := hD
    refine lv_isub hx hb dX7_room_20 ?_
    cases h
    exact ret_i hx hb hr hlocks hP hD hS dX7_room_21 rfl
  exact hmain _ _ hP hS
abbrev rm_X7_append : Room := { frames := 3, cells := 0, slots := 0, locals := 84 }
abbrev rmt_X7_append : Room := { frames := 7, cells := 1, slots := 6, locals := 101 }
def f_X7_append_c43 (Z : Nat) (p1 : Int32) (bN : Int32) (bF : Nat → Int32) : Option (Int32 × Int32 × (Nat → Int32)) :=
    (f_X0_add Z p1 60 bN bF).bind fun (bN_1, bF_1) =>
    (f_X0_size Z 60 bN_1).bind fun r2 =>
    some (r2, bN_1, bF_1)
def f_X7_append (Z : Nat) (p1 : Int32) (bN : Int32) (bF : Nat → Int32) : Option ((Int32 × Int32 × (Nat → Int32)) ⊕ String) :=
  if p1 ≤ 32 then
    if (0 : Int32) = 0 then
      some (.inr "java/lang/IllegalArgumentException")
    else
    (f_X0_size Z 60 bN).bind fun r5 =>
    if 60 ≤ r5 then
      if (0 : Int32) = 0 then
        some (.inr "java/lang/IllegalStateException")
      else
      (f_X7_append_c43 Z p1 bN bF).map Sum.inl
    else
      if (1 : Int32) = 0 then
        some (.inr "java/lang/IllegalStateException")
      else
      (f_X7_append_c43 Z p1 bN bF).map Sum.inl
  else
    if 126 < p1 then
      if (0 : Int32) = 0 then
        some (.inr "java/lang/IllegalArgumentException")
      else
      (f_X0_size Z 60 bN).bind fun r11 =>
      if 60 ≤ r11 then
        if (0 : Int32) = 0 then
          some (.inr "java/lang/IllegalStateException")
        else
        (f_X7_append_c43 Z p1 bN bF).map Sum.inl
      else
        if (1 : Int32) = 0 then
          some (.inr "java/lang/IllegalStateException")
        else
        (f_X7_append_c43 Z p1 bN bF).map Sum.inl
    else
      if (1 : Int32) = 0 then
        some (.inr "java/lang/IllegalArgumentException")
      else
      (f_X0_size Z 60 bN).bind fun r16 =>
      if 60 ≤ r16 then
        if (0 : Int32) = 0 then
          some (.inr "java/lang/IllegalStateException")
        else
        (f_X7_append_c43 Z p1 bN bF).map Sum.inl
      else
        if (1 : Int32) = 0 then
          some (.inr "java/lang/IllegalStateException")
        else
        (f_X7_append_c43 Z p1 bN bF).map Sum.inl
set_option maxRecDepth 100000 in
set_option maxHeartbeats 4000000 in
theorem k_X7_append (l : Launch) (D : va_G) (cI cS cL : ClassId) (Z : Nat) (hh : Nat → Nat) (p1 : Int32) (vCar : Int32) (vGoa : Int32) (vEag : Int32) (tN : Int32) (tF : Nat → Int32) (cN : Int32) (cF : Nat → Int32) (mP : Nat → Int32) (mS : Nat → Int32) (kCap : Int32) (kGap : Int32) (kCar : Int32) (kCop : Int32) (kGro : Int32) (kShr : Int32) (bN : Int32) (bF : Nat → Int32) (rCmd : Int32) (rLet : Int32) (rNum : Int32) (fCap : Int32) (fGap : Int32) (fCar : Int32) (fCop : Int32) (fGro : Int32) (fShr : Int32) (hX : Int32) (hC : Int32) (hR : Nat → StT) {r : Int32} {bN' : Int32} {bF' : Nat → Int32} (h : f_X7_append Z p1 bN bF = some (.inl (r, bN', bF'))) : CI l yX7_append cX7_append 2 (some .int) rm_X7_append D cI cS cL [.ref (hh 0), .int p1] (wX7 cI cS hh vCar vGoa vEag tN tF cN cF mP mS kCap kGap kCar kCop kGro kShr bN bF rCmd rLet rNum fCap fGap fCar fCop fGro fShr hX hC hR) (wX7 cI cS hh vCar vGoa vEag tN tF cN cF mP mS kCap kGap kCar kCop kGro kShr (bN') (bF') rCmd rLet rNum fCap fGap fCar fCop fGro fShr hX hC hR) r := by
  refine ent_i (by decide +kernel) (Nat.le_of_ble_eq_true rfl) ?_
  intro p e s m args below meth c A ls hx hb hr hml hlocks hg hown hK hP hD hS hA hl
  have hown : s.vm.findClass RX7 = some m.cls := hown
  have c_43 : ∀ (bN : Int32) (bF : Nat → Int32), f_X7_append_c43 Z p1 bN bF = some (r, bN', bF') → ∀ (H : Heap) (locs : List Loc), va_P D vwCl (wX7 cI cS hh vCar vGoa vEag tN tF cN cF mP mS kCap kGap kCar kCop kGro kShr bN bF rCmd rLet rNum fCap fGap fCar fCop fGro fShr hX hC hR) H → va_D A (wX7 cI cS hh vCar vGoa vEag tN tF cN cF mP mS kCap kGap kCar kCop kGro kShr bN bF rCmd rLet rNum fCap fGap fCar fCop fGro fShr hX hC hR) → va_S A s.heap H locs → ∀ ls : Array Slot, lv_has ls 2 [(0, .ref (hh 0)), (1, .int p1)] → W p l e rm_X7_append s m args below meth c H locs 0 0 (FI D below args s (wX7 cI cS hh vCar vGoa vEag tN tF cN cF mP mS kCap kGap kCar kCop kGro kShr (bN') (bF') rCmd rLet rNum fCap fGap fCar fCop fGro fShr hX hC hR) r A) (F0 m 43 ls []) := by
    intro bN bF h H locs hP hD hS ls hl
    unfold f_X7_append_c43 at h
    refine lv_aload_n hx hb dX7_append_43 rfl (lv_at hl 0 rfl) ?_
    refine va_get (D := D) (ci := 7) (v := .ref (hh 10)) (C := RX7) (T := TX7) (N := 4) hx hb hg uX7 hown hK.1 hP 0 rfl rfl 2 (by decide) (hg _ gw_246) (fun _ h9 => h9) rfl dX7_append_44 ?_
    refine va_getN (D := D) (ci := 1) (v := .ref (hh 11)) (C := RX1) (T := TX1) (N := 2) hx hb hg uX1 hown hK.1 hP 10 rfl rfl 0 (by decide) (kk_nest hK nw_235) (fun _ h9 => h9) rfl dX7_append_47 ?_
    refine lv_iload_n hx hb dX7_append_50 rfl (lv_at hl 1 rfl) ?_
    obtain ⟨⟨bN_1, bF_1⟩, ec1, h⟩ := bd_some h
    refine cV_v (As := [.int p1]) (rest := []) (wc := (wX0 cI (hh 11) (hh 12) 60 bN bF)) (wc' := (wX0 cI (hh 11) (hh 12) 60 bN_1 bF_1)) hx hb hml hown hg hK hP hD hS hA hl.1 (k_X0_add l D cI cS cL Z (hh 11) (hh 12) p1 60 bN bF ec1) gm_X0_add gw_874 ⟨rfl, rfl, by decide, by decide⟩ ⟨Nat.zero_le _, Nat.zero_le _⟩ [11, 12] rfl rfl rfl rfl rfl rfl rfl rfl (Nat.le_of_ble_eq_true rfl) dX7_append_51 (fun H locs hP hD hS => ?_)
    have hP : va_P D vwCl (wX7 cI cS hh vCar vGoa vEag tN tF cN cF mP mS kCap kGap kCar kCop kGro kShr bN_1 bF_1 rCmd rLet rNum fCap fGap fCar fCop fGro fShr hX hC hR) H := hP
    have hD : va_D A (wX7 cI cS hh vCar vGoa vEag tN tF cN cF mP mS kCap kGap kCar kCop kGro kShr bN_1 bF_1 rCmd rLet rNum fCap fGap fCar fCop fGro fShr hX hC hR) := hD
    refine lv_aload_n hx hb dX7_append_54 rfl (lv_at hl 0 rfl) ?_
    refine va_get (D := D) (ci := 7) (v := .ref (hh 10)) (C := RX7) (T := TX7) (N := 4) hx hb hg uX7 hown hK.1 hP 0 rfl rfl 2 (by decide) (hg _ gw_246) (fun _ h9 => h9) rfl dX7_append_55 ?_
    refine va_getN (D := D) (ci := 1) (v := .ref (hh 11)) (C := RX1) (T := TX1) (N := 2) hx hb hg uX1 hown hK.1 hP 10 rfl rfl 0 (by decide) (kk_nest hK nw_235) (fun _ h9 => h9) rfl dX7_append_58 ?_
    obtain ⟨r2, ec2, h⟩ := bd_some h
    refine cV_i (As := []) (rest := []) (wc := (wX0 cI (hh 11) (hh 12) 60 bN_1 bF_1)) (wc' := (wX0 cI (hh 11) (hh 12) 60 bN_1 bF_1)) hx hb hml hown hg hK hP hD hS hA hl.1 (k_X0_size l D cI cS cL Z (hh 11) (hh 12) 60 bN_1 bF_1 ec2) gm_X0_size gw_361 ⟨rfl, rfl, by decide, by decide⟩ ⟨Nat.zero_le _, Nat.zero_le _⟩ [11, 12] rfl rfl rfl rfl rfl rfl rfl rfl (Nat.le_of_ble_eq_true rfl) dX7_append_61 (fun H locs hP hD hS => ?_)
    have hP : va_P D vwCl (wX7 cI cS hh vCar vGoa vEag tN tF cN cF mP mS kCap kGap kCar kCop kGro kShr bN_1 bF_1 rCmd rLet rNum fCap fGap fCar fCop fGro fShr hX hC hR) H := hP
    have hD : va_D A (wX7 cI cS hh vCar vGoa vEag tN tF cN cF mP mS kCap kGap kCar kCop kGro kShr bN_1 bF_1 rCmd rLet rNum fCap fGap fCar fCop fGro fShr hX hC hR) := hD
    cases h
    exact ret_i hx hb hr hlocks hP hD hS dX7_append_64 rfl
  have hl : lv_has ls 2 [(0, .ref (hh 0)), (1, .int p1)] := hl
  have hP : va_P D vwCl (wX7 cI cS hh vCar vGoa vEag tN tF cN cF mP mS kCap kGap kCar kCop kGro kShr bN bF rCmd rLet rNum fCap fGap fCar fCop fGro fShr hX hC hR) s.heap := hP
  have hD : va_D A (wX7 cI cS hh vCar vGoa vEag tN tF cN cF mP mS kCap kGap kCar kCop kGro kShr bN bF rCmd rLet rNum fCap fGap fCar fCop fGro fShr hX hC hR) := hD
  show W p l e rm_X7_append s m args below meth c s.heap [] 0 0 (FI D below args s (wX7 cI cS hh vCar vGoa vEag tN tF cN cF mP mS kCap kGap kCar kCop kGro kShr (bN') (bF') rCmd rLet rNum fCap fGap fCar fCop fGro fShr hX hC hR) r A) (F0 m 0 ls [])
  unfold f_X7_append at h
  have hmain : ∀ (H : Heap) (locs : List Loc), va_P D vwCl (wX7 cI cS hh vCar vGoa vEag tN tF cN cF mP mS kCap kGap kCar kCop kGro kShr bN bF rCmd rLet rNum fCap fGap fCar fCop fGro fShr hX hC hR) H → va_S A s.heap H locs → W p l e rm_X7_append s m args below meth c H locs 0 0 (FI D below args s (wX7 cI cS hh vCar vGoa vEag tN tF cN cF mP mS kCap kGap kCar kCop kGro kShr (bN') (bF') rCmd rLet rNum fCap fGap fCar fCop fGro fShr hX hC hR) r A) (F0 m 0 ls []) := by
    intro H locs hP hS
    refine lv_iload_n hx hb dX7_append_0 rfl (lv_at hl 1 rfl) ?_
    refine lv_bipush (v := 32) hx hb dX7_append_1 (by decide) ?_
    refine lv_icmp_le (tgt := 16) hx hb dX7_append_3 (by decide) (fun q3 => ?_) (fun q3 => ?_)
    · replace h := it_some q3 h
      refine lv_iconst (v := 0) hx hb dX7_append_16 (by decide) ?_
      by_cases q4 : (0 : Int32) = 0
      · cases it_some q4 h
      replace h := if_some q4 h
      refine cS_v (As := [.int (0 : Int32)]) (rest := []) (wc := []) (wc' := []) hx hb hml hown hg hK hP hD hS hA hl.1 (k_X7_requireArgument l D cI cS cL (0 : Int32) q4) gs_X7_requireArgument gw_501 ⟨rfl, rfl, by decide, by decide⟩ ⟨Nat.zero_le _, Nat.zero_le _⟩ [] rfl rfl rfl rfl rfl (Nat.le_of_ble_eq_true rfl) dX7_append_17 (fun H locs hP hD hS => ?_)
      have hP : va_P D vwCl (wX7 cI cS hh vCar vGoa vEag tN tF cN cF mP mS kCap kGap kCar kCop kGro kShr bN bF rCmd rLet rNum fCap fGap fCar fCop fGro fShr hX hC hR) H := hP
      have hD : va_D A (wX7 cI cS hh vCar vGoa vEag tN tF cN cF mP mS kCap kGap kCar kCop kGro kShr bN bF rCmd rLet rNum fCap fGap fCar fCop fGro fShr hX hC hR) := hD
      refine lv_aload_n hx hb dX7_append_20 rfl (lv_at hl 0 rfl) ?_
      refine va_get (D := D) (ci := 7) (v := .ref (hh 10)) (C := RX7) (T := TX7) (N := 4) hx hb hg uX7 hown hK.1 hP 0 rfl rfl 2 (by decide) (hg _ gw_246) (fun _ h9 => h9) rfl dX7_append_21 ?_
      refine va_getN (D := D) (ci := 1) (v := .ref (hh 11)) (C := RX1) (T := TX1) (N := 2) hx hb hg uX1 hown hK.1 hP 10 rfl rfl 0 (by decide) (kk_nest hK nw_235) (fun _ h9 => h9) rfl dX7_append_24 ?_
      obtain ⟨r5, ec5, h⟩ := bd_some h
      refine cV_i (As := []) (rest := []) (wc := (wX0 cI (hh 11) (hh 12) 60 bN bF)) (wc' := (wX0 cI (hh 11) (hh 12) 60 bN bF)) hx hb hml hown hg hK hP hD hS hA hl.1 (k_X0_size l D cI cS cL Z (hh 11) (hh 12) 60 bN bF ec5) gm_X0_size gw_361 ⟨rfl, rfl, by decide, by decide⟩ ⟨Nat.zero_le _, Nat.zero_le _⟩ [11, 12] rfl rfl rfl rfl rfl rfl rfl rfl (Nat.le_of_ble_eq_true rfl) dX7_append_27 (fun H locs hP hD hS => ?_)
      have hP : va_P D vwCl (wX7 cI cS hh vCar vGoa vEag tN tF cN cF mP mS kCap kGap kCar kCop kGro kShr bN bF rCmd rLet rNum fCap fGap fCar fCop fGro fShr hX hC hR) H := hP
      have hD : va_D A (wX7 cI cS hh vCar vGoa vEag tN tF cN cF mP mS kCap kGap kCar kCop kGro kShr bN bF rCmd rLet rNum fCap fGap fCar fCop fGro fShr hX hC hR) := hD
      refine lv_bipush (v := 60) hx hb dX7_append_30 (by decide) ?_
      refine lv_icmp_ge (tgt := 39) hx hb dX7_append_32 (by decide) (fun q6 => ?_) (fun q6 => ?_)
      · replace h := it_some q6 h
        refine lv_iconst (v := 0) hx hb dX7_append_39 (by decide) ?_
        by_cases q7 : (0 : Int32) = 0
        · cases it_some q7 h
        replace h := if_some q7 h
        refine cS_v (As := [.int (0 : Int32)]) (rest := []) (wc := []) (wc' := []) hx hb hml hown hg hK hP hD hS hA hl.1 (k_X7_requireState l D cI cS cL (0 : Int32) q7) gs_X7_requireState gw_571 ⟨rfl, rfl, by decide, by decide⟩ ⟨Nat.zero_le _, Nat.zero_le _⟩ [] rfl rfl rfl rfl rfl (Nat.le_of_ble_eq_true rfl) dX7_append_40 (fun H locs hP hD hS => ?_)
        have hP : va_P D vwCl (wX7 cI cS hh vCar vGoa vEag tN tF cN cF mP mS kCap kGap kCar kCop kGro kShr bN bF rCmd rLet rNum fCap fGap fCar fCop fGro fShr hX hC hR) H := hP
        have hD : va_D A (wX7 cI cS hh vCar vGoa vEag tN tF cN cF mP mS kCap kGap kCar kCop kGro kShr bN bF rCmd rLet rNum fCap fGap fCar fCop fGro fShr hX hC hR) := hD
        replace h := map_inl h
        exact c_43 bN bF h H locs hP hD hS ls (lv_sub hl [0, 1] rfl)
      · replace h := if_some q6 h
        refine lv_iconst (v := 1) hx hb dX7_append_35 (by decide) ?_
        refine lv_goto (tgt := 40) hx hb dX7_append_36 (by decide) ?_
        by_cases q8 : (1 : Int32) = 0
        · cases it_some q8 h
        replace h := if_some q8 h
        refine cS_v (As := [.int (1 : Int32)]) (rest := []) (wc := []) (wc' := []) hx hb hml hown hg hK hP hD hS hA hl.1 (k_X7_requireState l D cI cS cL (1 : Int32) q8) gs_X7_requireState gw_571 ⟨rfl, rfl, by decide, by decide⟩ ⟨Nat.zero_le _, Nat.zero_le _⟩ [] rfl rfl rfl rfl rfl (Nat.le_of_ble_eq_true rfl) dX7_append_40 (fun H locs hP hD hS => ?_)
        have hP : va_P D vwCl (wX7 cI cS hh vCar vGoa vEag tN tF cN cF mP mS kCap kGap kCar kCop kGro kShr bN bF rCmd rLet rNum fCap fGap fCar fCop fGro fShr hX hC hR) H := hP
        have hD : va_D A (wX7 cI cS hh vCar vGoa vEag tN tF cN cF mP mS kCap kGap kCar kCop kGro kShr bN bF rCmd rLet rNum fCap fGap fCar fCop fGro fShr hX hC hR) := hD
        replace h := map_inl h
        exact c_43 bN bF h H locs hP hD hS ls (lv_sub hl [0, 1] rfl)
    · replace h := if_some q3 h
      refine lv_iload_n hx hb dX7_append_6 rfl (lv_at hl 1 rfl) ?_
      refine lv_bipush (v := 126) hx hb dX7_append_7 (by decide) ?_
      refine lv_icmp_gt (tgt := 16) hx hb dX7_append_9 (by decide) (fun q9 => ?_) (fun q9 => ?_)
      · replace h := it_some q9 h
        refine lv_iconst (v := 0) hx hb dX7_append_16 (by decide) ?_
        by_cases q10 : (0 : Int32) = 0
        · cases it_some q10 h
        replace h := if_some q10 h
        refine cS_v (As := [.int (0 : Int32)]) (rest := []) (wc := []) (wc' := []) hx hb hml hown hg hK hP hD hS hA hl.1 (k_X7_requireArgument l D cI cS cL (0 : Int32) q10) gs_X7_requireArgument gw_501 ⟨rfl, rfl, by decide, by decide⟩ ⟨Nat.zero_le _, Nat.zero_le _⟩ [] rfl rfl rfl rfl rfl (Nat.le_of_ble_eq_true rfl) dX7_append_17 (fun H locs hP hD hS => ?_)
        have hP : va_P D vwCl (wX7 cI cS hh vCar vGoa vEag tN tF cN cF mP mS kCap kGap kCar kCop kGro kShr bN bF rCmd rLet rNum fCap fGap fCar fCop fGro fShr hX hC hR) H := hP
        have hD : va_D A (wX7 cI cS hh vCar vGoa vEag tN tF cN cF mP mS kCap kGap kCar kCop kGro kShr bN bF rCmd rLet rNum fCap fGap fCar fCop fGro fShr hX hC hR) := hD
        refine lv_aload_n hx hb dX7_append_20 rfl (lv_at hl 0 rfl) ?_
        refine va_get (D := D) (ci := 7) (v := .ref (hh 10)) (C := RX7) (T := TX7) (N := 4) hx hb hg uX7 hown hK.1 hP 0 rfl rfl 2 (by decide) (hg _ gw_246) (fun _ h9 => h9) rfl dX7_append_21 ?_
        refine va_getN (D := D) (ci := 1) (v := .ref (hh 11)) (C := RX1) (T := TX1) (N := 2) hx hb hg uX1 hown hK.1 hP 10 rfl rfl 0 (by decide) (kk_nest hK nw_235) (fun _ h9 => h9) rfl dX7_append_24 ?_
        obtain ⟨r11, ec11, h⟩ := bd_some h
        refine cV_i (As := []) (rest := []) (wc := (wX0 cI (hh 11) (hh 12) 60 bN bF)) (wc' := (wX0 cI (hh 11) (hh 12) 60 bN bF)) hx hb hml hown hg hK hP hD hS hA hl.1 (k_X0_size l D cI cS cL Z (hh 11) (hh 12) 60 bN bF ec11) gm_X0_size gw_361 ⟨rfl, rfl, by decide, by decide⟩ ⟨Nat.zero_le _, Nat.zero_le _⟩ [11, 12] rfl rfl rfl rfl rfl rfl rfl rfl (Nat.le_of_ble_eq_true rfl) dX7_append_27 (fun H locs hP hD hS => ?_)
        have hP : va_P D vwCl (wX7 cI cS hh vCar vGoa vEag tN tF cN cF mP mS kCap kGap kCar kCop kGro kShr bN bF rCmd rLet rNum fCap fGap fCar fCop fGro fShr hX hC hR) H := hP
        have hD : va_D A (wX7 cI cS hh vCar vGoa vEag tN tF cN cF mP mS kCap kGap kCar kCop kGro kShr bN bF rCmd rLet rNum fCap fGap fCar fCop fGro fShr hX hC hR) := hD
        refine lv_bipush (v := 60) hx hb dX7_append_30 (by decide) ?_
        refine lv_icmp_ge (tgt := 39) hx hb dX7_append_32 (by decide) (fun q12 => ?_) (fun q12 => ?_)
        · replace h := it_some q12 h
          refine lv_iconst (v := 0) hx hb dX7_append_39 (by decide) ?_
          by_cases q13 : (0 : Int32) = 0
          · cases it_some q13 h
          replace h := if_some q13 h
          refine cS_v (As := [.int (0 : Int32)]) (rest := []) (wc := []) (wc' := []) hx hb hml hown hg hK hP hD hS hA hl.1 (k_X7_requireState l D cI cS cL (0 : Int32) q13) gs_X7_requireState gw_571 ⟨rfl, rfl, by decide, by decide⟩ ⟨Nat.zero_le _, Nat.zero_le _⟩ [] rfl rfl rfl rfl rfl (Nat.le_of_ble_eq_true rfl) dX7_append_40 (fun H locs hP hD hS => ?_)
          have hP : va_P D vwCl (wX7 cI cS hh vCar vGoa vEag tN tF cN cF mP mS kCap kGap kCar kCop kGro kShr bN bF rCmd rLet rNum fCap fGap fCar fCop fGro fShr hX hC hR) H := hP
          have hD : va_D A (wX7 cI cS hh vCar vGoa vEag tN tF cN cF mP mS kCap kGap kCar kCop kGro kShr bN bF rCmd rLet rNum fCap fGap fCar fCop fGro fShr hX hC hR) := hD
          replace h := map_inl h
          exact c_43 bN bF h H locs hP hD hS ls (lv_sub hl [0, 1] rfl)
        · replace h := if_some q12 h
          refine lv_iconst (v := 1) hx hb dX7_append_35 (by decide) ?_
          refine lv_goto (tgt := 40) hx hb dX7_append_36 (by decide) ?_
          by_cases q14 : (1 : Int32) = 0
          · cases it_some q14 h
          replace h := if_some q14 h
          refine cS_v (As := [.int (1 : Int32)]) (rest := []) (wc := []) (wc' := []) hx hb hml hown hg hK hP hD hS hA hl.1 (k_X7_requireState l D cI cS cL (1 : Int32) q14) gs_X7_requireState gw_571 ⟨rfl, rfl, by decide, by decide⟩ ⟨Nat.zero_le _, Nat.zero_le _⟩ [] rfl rfl rfl rfl rfl (Nat.le_of_ble_eq_true rfl) dX7_append_40 (fun H locs hP hD hS => ?_)
          have hP : va_P D vwCl (wX7 cI cS hh vCar vGoa vEag tN tF cN cF mP mS kCap kGap kCar kCop kGro kShr bN bF rCmd rLet rNum fCap fGap fCar fCop fGro fShr hX hC hR) H := hP
          have hD : va_D A (wX7 cI cS hh vCar vGoa vEag tN tF cN cF mP mS kCap kGap kCar kCop kGro kShr bN bF rCmd rLet rNum fCap fGap fCar fCop fGro fShr hX hC hR) := hD
          replace h := map_inl h
          exact c_43 bN bF h H locs hP hD hS ls (lv_sub hl [0, 1] rfl)
      · replace h := if_some q9 h
        refine lv_iconst (v := 1) hx hb dX7_append_12 (by decide) ?_
        refine lv_goto (tgt := 17) hx hb dX7_append_13 (by decide) ?_
        by_cases q15 : (1 : Int32) = 0
        · cases it_some q15 h
        replace h := if_some q15 h
        refine cS_v (As := [.int (1 : Int32)]) (rest := []) (wc := []) (wc' := []) hx hb hml hown hg hK hP hD hS hA hl.1 (k_X7_requireArgument l D cI cS cL (1 : Int32) q15) gs_X7_requireArgument gw_501 ⟨rfl, rfl, by decide, by decide⟩ ⟨Nat.zero_le _, Nat.zero_le _⟩ [] rfl rfl rfl rfl rfl (Nat.le_of_ble_eq_true rfl) dX7_append_17 (fun H locs hP hD hS => ?_)
        have hP : va_P D vwCl (wX7 cI cS hh vCar vGoa vEag tN tF cN cF mP mS kCap kGap kCar kCop kGro kShr bN bF rCmd rLet rNum fCap fGap fCar fCop fGro fShr hX hC hR) H := hP
        have hD : va_D A (wX7 cI cS hh vCar vGoa vEag tN tF cN cF mP mS kCap kGap kCar kCop kGro kShr bN bF rCmd rLet rNum fCap fGap fCar fCop fGro fShr hX hC hR) := hD
        refine lv_aload_n hx hb dX7_append_20 rfl (lv_at hl 0 rfl) ?_
        refine va_get (D := D) (ci := 7) (v := .ref (hh 10)) (C := RX7) (T := TX7) (N := 4) hx hb hg uX7 hown hK.1 hP 0 rfl rfl 2 (by decide) (hg _ gw_246) (fun _ h9 => h9) rfl dX7_append_21 ?_
        refine va_getN (D := D) (ci := 1) (v := .ref (hh 11)) (C := RX1) (T := TX1) (N := 2) hx hb hg uX1 hown hK.1 hP 10 rfl rfl 0 (by decide) (kk_nest hK nw_235) (fun _ h9 => h9) rfl dX7_append_24 ?_
        obtain ⟨r16, ec16, h⟩ := bd_some h
        refine cV_i (As := []) (rest := []) (wc := (wX0 cI (hh 11) (hh 12) 60 bN bF)) (wc' := (wX0 cI (hh 11) (hh 12) 60 bN bF)) hx hb hml hown hg hK hP hD hS hA hl.1 (k_X0_size l D cI cS cL Z (hh 11) (hh 12) 60 bN bF ec16) gm_X0_size gw_361 ⟨rfl, rfl, by decide, by decide⟩ ⟨Nat.zero_le _, Nat.zero_le _⟩ [11, 12] rfl rfl rfl rfl rfl rfl rfl rfl (Nat.le_of_ble_eq_true rfl) dX7_append_27 (fun H locs hP hD hS => ?_)
        have hP : va_P D vwCl (wX7 cI cS hh vCar vGoa vEag tN tF cN cF mP mS kCap kGap kCar kCop kGro kShr bN bF rCmd rLet rNum fCap fGap fCar fCop fGro fShr hX hC hR) H := hP
        have hD : va_D A (wX7 cI cS hh vCar vGoa vEag tN tF cN cF mP mS kCap kGap kCar kCop kGro kShr bN bF rCmd rLet rNum fCap fGap fCar fCop fGro fShr hX hC hR) := hD
        refine lv_bipush (v := 60) hx hb dX7_append_30 (by decide) ?_
        refine lv_icmp_ge (tgt := 39) hx hb dX7_append_32 (by decide) (fun q17 => ?_) (fun q17 => ?_)
        · replace h := it_some q17 h
          refine lv_iconst (v := 0) hx hb dX7_append_39 (by decide) ?_
          by_cases q18 : (0 : Int32) = 0
          · cases it_some q18 h
          replace h := if_some q18 h
          refine cS_v (As := [.int (0 : Int32)]) (rest := []) (wc := []) (wc' := []) hx hb hml hown hg hK hP hD hS hA hl.1 (k_X7_requireState l D cI cS cL (0 : Int32) q18) gs_X7_requireState gw_571 ⟨rfl, rfl, by decide, by decide⟩ ⟨Nat.zero_le _, Nat.zero_le _⟩ [] rfl rfl rfl rfl rfl (Nat.le_of_ble_eq_true rfl) dX7_append_40 (fun H locs hP hD hS => ?_)
          have hP : va_P D vwCl (wX7 cI cS hh vCar vGoa vEag tN tF cN cF mP mS kCap kGap kCar kCop kGro kShr bN bF rCmd rLet rNum fCap fGap fCar fCop fGro fShr hX hC hR) H := hP
          have hD : va_D A (wX7 cI cS hh vCar vGoa vEag tN tF cN cF mP mS kCap kGap kCar kCop kGro kShr bN bF rCmd rLet rNum fCap fGap fCar fCop fGro fShr hX hC hR) := hD
          replace h := map_inl h
          exact c_43 bN bF h H locs hP hD hS ls (lv_sub hl [0, 1] rfl)
        · replace h := if_some q17 h
          refine lv_iconst (v := 1) hx hb dX7_append_35 (by decide) ?_
          refine lv_goto (tgt := 40) hx hb dX7_append_36 (by decide) ?_
          by_cases q19 : (1 : Int32) = 0
          · cases it_some q19 h
          replace h := if_some q19 h
          refine cS_v (As := [.int (1 : Int32)]) (rest := []) (wc := []) (wc' := []) hx hb hml hown hg hK hP hD hS hA hl.1 (k_X7_requireState l D cI cS cL (1 : Int32) q19) gs_X7_requireState gw_571 ⟨rfl, rfl, by decide, by decide⟩ ⟨Nat.zero_le _, Nat.zero_le _⟩ [] rfl rfl rfl rfl rfl (Nat.le_of_ble_eq_true rfl) dX7_append_40 (fun H locs hP hD hS => ?_)
          have hP : va_P D vwCl (wX7 cI cS hh vCar vGoa vEag tN tF cN cF mP mS kCap kGap kCar kCop kGro kShr bN bF rCmd rLet rNum fCap fGap fCar fCop fGro fShr hX hC hR) H := hP
          have hD : va_D A (wX7 cI cS hh vCar vGoa vEag tN tF cN cF mP mS kCap kGap kCar kCop kGro kShr bN bF rCmd rLet rNum fCap fGap fCar fCop fGro fShr hX hC hR) := hD
          replace h := map_inl h
          exact c_43 bN bF h H locs hP hD hS ls (lv_sub hl [0, 1] rfl)
  exact hmain _ _ hP hS
set_option maxRecDepth 100000 in
set_option maxHeartbeats 4000000 in
theorem t_X7_append (l : Launch) (hlt : l.stackTraces = false) (D : va_G) (cI cS cL : ClassId) (Z : Nat) (hh : Nat → Nat) (p1 : Int32) (vCar : Int32) (vGoa : Int32) (vEag : Int32) (tN : Int32) (tF : Nat → Int32) (cN : Int32) (cF : Nat → Int32) (mP : Nat → Int32) (mS : Nat → Int32) (kCap : Int32) (kGap : Int32) (kCar : Int32) (kCop : Int32) (kGro : Int32) (kShr : Int32) (bN : Int32) (bF : Nat → Int32) (rCmd : Int32) (rLet : Int32) (rNum : Int32) (fCap : Int32) (fGap : Int32) (fCar : Int32) (fCop : Int32) (fGro : Int32) (fShr : Int32) (hX : Int32) (hC : Int32) (hR : Nat → StT) {E0 : String}  (h : f_X7_append Z p1 bN bF = some (.inr E0)) : CTi l yX7_append cX7_append 2 (some .int) rmt_X7_append D cI cS cL [.ref (hh 0), .int p1] (wX7 cI cS hh vCar vGoa vEag tN tF cN cF mP mS kCap kGap kCar kCop kGro kShr bN bF rCmd rLet rNum fCap fGap fCar fCop fGro fShr hX hC hR) E0 := by
  refine ent_ti (by decide +kernel) (Nat.le_of_ble_eq_true rfl) ?_
  intro p e s m args below meth c A ls hx hb hr hml hlocks hg hown hK hP hD hS hA hl htab hZ
  have hown : s.vm.findClass RX7 = some m.cls := hown
  have hl : lv_has ls 2 [(0, .ref (hh 0)), (1, .int p1)] := hl
  have hP : va_P D vwCl (wX7 cI cS hh vCar vGoa vEag tN tF cN cF mP mS kCap kGap kCar kCop kGro kShr bN bF rCmd rLet rNum fCap fGap fCar fCop fGro fShr hX hC hR) s.heap := hP
  have hD : va_D A (wX7 cI cS hh vCar vGoa vEag tN tF cN cF mP mS kCap kGap kCar kCop kGro kShr bN bF rCmd rLet rNum fCap fGap fCar fCop fGro fShr hX hC hR) := hD
  show W p l e rmt_X7_append s m args below meth c s.heap [] 0 0 (FT D below (va_Qi (fun _ (_ : Unit) => False) (fun _ _ => False) A) args s (wX7 cI cS hh vCar vGoa vEag tN tF cN cF mP mS kCap kGap kCar kCop kGro kShr bN bF rCmd rLet rNum fCap fGap fCar fCop fGro fShr hX hC hR) E0 A) (F0 m 0 ls [])
  unfold f_X7_append at h
  have hmain : ∀ (H : Heap) (locs : List Loc), va_P D vwCl (wX7 cI cS hh vCar vGoa vEag tN tF cN cF mP mS kCap kGap kCar kCop kGro kShr bN bF rCmd rLet rNum fCap fGap fCar fCop fGro fShr hX hC hR) H → va_S A s.heap H locs → W p l e rmt_X7_append s m args below meth c H locs 0 0 (FT D below (va_Qi (fun _ (_ : Unit) => False) (fun _ _ => False) A) args s (wX7 cI cS hh vCar vGoa vEag tN tF cN cF mP mS kCap kGap kCar kCop kGro kShr bN bF rCmd rLet rNum fCap fGap fCar fCop fGro fShr hX hC hR) E0 A) (F0 m 0 ls []) := by
    intro H locs hP hS
    refine lv_iload_n hx hb dX7_append_0 rfl (lv_at hl 1 rfl) ?_
    refine lv_bipush (v := 32) hx hb dX7_append_1 (by decide) ?_
    refine lv_icmp_le (tgt := 16) hx hb dX7_append_3 (by decide) (fun q20 => ?_) (fun q20 => ?_)
    · replace h := it_some q20 h
      refine lv_iconst (v := 0) hx hb dX7_append_16 (by decide) ?_
      by_cases q21 : (0 : Int32) = 0
      · replace h := it_some q21 h
        cases h
        exact cT_out (As := [.int (0 : Int32)]) (rest := []) hx hb hml hown hg hK hP hD hS hA hl.1 htab hZ hlocks (t_X7_requireArgument l hlt D cI cS cL (0 : Int32) q21) gs_X7_requireArgument gw_501 ⟨rfl, rfl, by decide, by decide⟩ ⟨by decide, by decide⟩ rfl rfl (Nat.le_of_ble_eq_true rfl) dX7_append_17
      replace h := if_some q21 h
      refine cS_v (As := [.int (0 : Int32)]) (rest := []) (wc := []) (wc' := []) hx hb hml hown hg hK hP hD hS hA hl.1 (k_X7_requireArgument l D cI cS cL (0 : Int32) q21) gs_X7_requireArgument gw_501 ⟨rfl, rfl, by decide, by decide⟩ ⟨Nat.zero_le _, Nat.zero_le _⟩ [] rfl rfl rfl rfl rfl (Nat.le_of_ble_eq_true rfl) dX7_append_17 (fun H locs hP hD hS => ?_)
      have hP : va_P D vwCl (wX7 cI cS hh vCar vGoa vEag tN tF cN cF mP mS kCap kGap kCar kCop kGro kShr bN bF rCmd rLet rNum fCap fGap fCar fCop fGro fShr hX hC hR) H := hP
      have hD : va_D A (wX7 cI cS hh vCar vGoa vEag tN tF cN cF mP mS kCap kGap kCar kCop kGro kShr bN bF rCmd rLet rNum fCap fGap fCar fCop fGro fShr hX hC hR) := hD
      refine lv_aload_n hx hb dX7_append_20 rfl (lv_at hl 0 rfl) ?_
      refine va_get (D := D) (ci := 7) (v := .ref (hh 10)) (C := RX7) (T := TX7) (N := 4) hx hb hg uX7 hown hK.1 hP 0 rfl rfl 2 (by decide) (hg _ gw_246) (fun _ h9 => h9) rfl dX7_append_21 ?_
      refine va_getN (D := D) (ci := 1) (v := .ref (hh 11)) (C := RX1) (T := TX1) (N := 2) hx hb hg uX1 hown hK.1 hP 10 rfl rfl 0 (by decide) (kk_nest hK nw_235) (fun _ h9 => h9) rfl dX7_append_24 ?_
      obtain ⟨r22, ec22, h⟩ := bd_some h
      refine cV_i (As := []) (rest := []) (wc := (wX0 cI (hh 11) (hh 12) 60 bN bF)) (wc' := (wX0 cI (hh 11) (hh 12) 60 bN bF)) hx hb hml hown hg hK hP hD hS hA hl.1 (k_X0_size l D cI cS cL Z (hh 11) (hh 12) 60 bN bF ec22) gm_X0_size gw_361 ⟨rfl, rfl, by decide, by decide⟩ ⟨Nat.zero_le _, Nat.zero_le _⟩ [11, 12] rfl rfl rfl rfl rfl rfl rfl rfl (Nat.le_of_ble_eq_true rfl) dX7_append_27 (fun H locs hP hD hS => ?_)
      have hP : va_P D vwCl (wX7 cI cS hh vCar vGoa vEag tN tF cN cF mP mS kCap kGap kCar kCop kGro kShr bN bF rCmd rLet rNum fCap fGap fCar fCop fGro fShr hX hC hR) H := hP
      have hD : va_D A (wX7 cI cS hh vCar vGoa vEag tN tF cN cF mP mS kCap kGap kCar kCop kGro kShr bN bF rCmd rLet rNum fCap fGap fCar fCop fGro fShr hX hC hR) := hD
      refine lv_bipush (v := 60) hx hb dX7_append_30 (by decide) ?_
      refine lv_icmp_ge (tgt := 39) hx hb dX7_append_32 (by decide) (fun q23 => ?_) (fun q23 => ?_)
      · replace h := it_some q23 h
        refine lv_iconst (v := 0) hx hb dX7_append_39 (by decide) ?_
        by_cases q24 : (0 : Int32) = 0
        · replace h := it_some q24 h
          cases h
          exact cT_out (As := [.int (0 : Int32)]) (rest := []) hx hb hml hown hg hK hP hD hS hA hl.1 htab hZ hlocks (t_X7_requireState l hlt D cI cS cL (0 : Int32) q24) gs_X7_requireState gw_571 ⟨rfl, rfl, by decide, by decide⟩ ⟨by decide, by decide⟩ rfl rfl (Nat.le_of_ble_eq_true rfl) dX7_append_40
        replace h := if_some q24 h
        refine cS_v (As := [.int (0 : Int32)]) (rest := []) (wc := []) (wc' := []) hx hb hml hown hg hK hP hD hS hA hl.1 (k_X7_requireState l D cI cS cL (0 : Int32) q24) gs_X7_requireState gw_571 ⟨rfl, rfl, by decide, by decide⟩ ⟨Nat.zero_le _, Nat.zero_le _⟩ [] rfl rfl rfl rfl rfl (Nat.le_of_ble_eq_true rfl) dX7_append_40 (fun H locs hP hD hS => ?_)
        have hP : va_P D vwCl (wX7 cI cS hh vCar vGoa vEag tN tF cN cF mP mS kCap kGap kCar kCop kGro kShr bN bF rCmd rLet rNum fCap fGap fCar fCop fGro fShr hX hC hR) H := hP
        have hD : va_D A (wX7 cI cS hh vCar vGoa vEag tN tF cN cF mP mS kCap kGap kCar kCop kGro kShr bN bF rCmd rLet rNum fCap fGap fCar fCop fGro fShr hX hC hR) := hD
        exact map_inr h
      · replace h := if_some q23 h
        refine lv_iconst (v := 1) hx hb dX7_append_35 (by decide) ?_
        refine lv_goto (tgt := 40) hx hb dX7_append_36 (by decide) ?_
        by_cases q25 : (1 : Int32) = 0
        · replace h := it_some q25 h
          cases h
          exact cT_out (As := [.int (1 : Int32)]) (rest := []) hx hb hml hown hg hK hP hD hS hA hl.1 htab hZ hlocks (t_X7_requireState l hlt D cI cS cL (1 : Int32) q25) gs_X7_requireState gw_571 ⟨rfl, rfl, by decide, by decide⟩ ⟨by decide, by decide⟩ rfl rfl (Nat.le_of_ble_eq_true rfl) dX7_append_40
        replace h := if_some q25 h
        refine cS_v (As := [.int (1 : Int32)]) (rest := []) (wc := []) (wc' := []) hx hb hml hown hg hK hP hD hS hA hl.1 (k_X7_requireState l D cI cS cL (1 : Int32) q25) gs_X7_requireState gw_571 ⟨rfl, rfl, by decide, by decide⟩ ⟨Nat.zero_le _, Nat.zero_le _⟩ [] rfl rfl rfl rfl rfl (Nat.le_of_ble_eq_true rfl) dX7_append_40 (fun H locs hP hD hS => ?_)
        have hP : va_P D vwCl (wX7 cI cS hh vCar vGoa vEag tN tF cN cF mP mS kCap kGap kCar kCop kGro kShr bN bF rCmd rLet rNum fCap fGap fCar fCop fGro fShr hX hC hR) H := hP
        have hD : va_D A (wX7 cI cS hh vCar vGoa vEag tN tF cN cF mP mS kCap kGap kCar kCop kGro kShr bN bF rCmd rLet rNum fCap fGap fCar fCop fGro fShr hX hC hR) := hD
        exact map_inr h
    · replace h := if_some q20 h
      refine lv_iload_n hx hb dX7_append_6 rfl (lv_at hl 1 rfl) ?_
      refine lv_bipush (v := 126) hx hb dX7_append_7 (by decide) ?_
      refine lv_icmp_gt (tgt := 16) hx hb dX7_append_9 (by decide) (fun q26 => ?_) (fun q26 => ?_)
      · replace h := it_some q26 h
        refine lv_iconst (v := 0) hx hb dX7_append_16 (by decide) ?_
        by_cases q27 : (0 : Int32) = 0
        · replace h := it_some q27 h
          cases h
          exact cT_out (As := [.int (0 : Int32)]) (rest := []) hx hb hml hown hg hK hP hD hS hA hl.1 htab hZ hlocks (t_X7_requireArgument l hlt D cI cS cL (0 : Int32) q27) gs_X7_requireArgument gw_501 ⟨rfl, rfl, by decide, by decide⟩ ⟨by decide, by decide⟩ rfl rfl (Nat.le_of_ble_eq_true rfl) dX7_append_17
        replace h := if_some q27 h
        refine cS_v (As := [.int (0 : Int32)]) (rest := []) (wc := []) (wc' := []) hx hb hml hown hg hK hP hD hS hA hl.1 (k_X7_requireArgument l D cI cS cL (0 : Int32) q27) gs_X7_requireArgument gw_501 ⟨rfl, rfl, by decide, by decide⟩ ⟨Nat.zero_le _, Nat.zero_le _⟩ [] rfl rfl rfl rfl rfl (Nat.le_of_ble_eq_true rfl) dX7_append_17 (fun H locs hP hD hS => ?_)
        have hP : va_P D vwCl (wX7 cI cS hh vCar vGoa vEag tN tF cN cF mP mS kCap kGap kCar kCop kGro kShr bN bF rCmd rLet rNum fCap fGap fCar fCop fGro fShr hX hC hR) H := hP
        have hD : va_D A (wX7 cI cS hh vCar vGoa vEag tN tF cN cF mP mS kCap kGap kCar kCop kGro kShr bN bF rCmd rLet rNum fCap fGap fCar fCop fGro fShr hX hC hR) := hD
        refine lv_aload_n hx hb dX7_append_20 rfl (lv_at hl 0 rfl) ?_
        refine va_get (D := D) (ci := 7) (v := .ref (hh 10)) (C := RX7) (T := TX7) (N := 4) hx hb hg uX7 hown hK.1 hP 0 rfl rfl 2 (by decide) (hg _ gw_246) (fun _ h9 => h9) rfl dX7_append_21 ?_
        refine va_getN (D := D) (ci := 1) (v := .ref (hh 11)) (C := RX1) (T := TX1) (N := 2) hx hb hg uX1 hown hK.1 hP 10 rfl rfl 0 (by decide) (kk_nest hK nw_235) (fun _ h9 => h9) rfl dX7_append_24 ?_
        obtain ⟨r28, ec28, h⟩ := bd_some h
        refine cV_i (As := []) (rest := []) (wc := (wX0 cI (hh 11) (hh 12) 60 bN bF)) (wc' := (wX0 cI (hh 11) (hh 12) 60 bN bF)) hx hb hml hown hg hK hP hD hS hA hl.1 (k_X0_size l D cI cS cL Z (hh 11) (hh 12) 60 bN bF ec28) gm_X0_size gw_361 ⟨rfl, rfl, by decide, by decide⟩ ⟨Nat.zero_le _, Nat.zero_le _⟩ [11, 12] rfl rfl rfl rfl rfl rfl rfl rfl (Nat.le_of_ble_eq_true rfl) dX7_append_27 (fun H locs hP hD hS => ?_)
        have hP : va_P D vwCl (wX7 cI cS hh vCar vGoa vEag tN tF cN cF mP mS kCap kGap kCar kCop kGro kShr bN bF rCmd rLet rNum fCap fGap fCar fCop fGro fShr hX hC hR) H := hP
        have hD : va_D A (wX7 cI cS hh vCar vGoa vEag tN tF cN cF mP mS kCap kGap kCar kCop kGro kShr bN bF rCmd rLet rNum fCap fGap fCar fCop fGro fShr hX hC hR) := hD
        refine lv_bipush (v := 60) hx hb dX7_append_30 (by decide) ?_
        refine lv_icmp_ge (tgt := 39) hx hb dX7_append_32 (by decide) (fun q29 => ?_) (fun q29 => ?_)
        · replace h := it_some q29 h
          refine lv_iconst (v := 0) hx hb dX7_append_39 (by decide) ?_
          by_cases q30 : (0 : Int32) = 0
          · replace h := it_some q30 h
            cases h
            exact cT_out (As := [.int (0 : Int32)]) (rest := []) hx hb hml hown hg hK hP hD hS hA hl.1 htab hZ hlocks (t_X7_requireState l hlt D cI cS cL (0 : Int32) q30) gs_X7_requireState gw_571 ⟨rfl, rfl, by decide, by decide⟩ ⟨by decide, by decide⟩ rfl rfl (Nat.le_of_ble_eq_true rfl) dX7_append_40
          replace h := if_some q30 h
          refine cS_v (As := [.int (0 : Int32)]) (rest := []) (wc := []) (wc' := []) hx hb hml hown hg hK hP hD hS hA hl.1 (k_X7_requireState l D cI cS cL (0 : Int32) q30) gs_X7_requireState gw_571 ⟨rfl, rfl, by decide, by decide⟩ ⟨Nat.zero_le _, Nat.zero_le _⟩ [] rfl rfl rfl rfl rfl (Nat.le_of_ble_eq_true rfl) dX7_append_40 (fun H locs hP hD hS => ?_)
          have hP : va_P D vwCl (wX7 cI cS hh vCar vGoa vEag tN tF cN cF mP mS kCap kGap kCar kCop kGro kShr bN bF rCmd rLet rNum fCap fGap fCar fCop fGro fShr hX hC hR) H := hP
          have hD : va_D A (wX7 cI cS hh vCar vGoa vEag tN tF cN cF mP mS kCap kGap kCar kCop kGro kShr bN bF rCmd rLet rNum fCap fGap fCar fCop fGro fShr hX hC hR) := hD
          exact map_inr h
        · replace h := if_some q29 h
          refine lv_iconst (v := 1) hx hb dX7_append_35 (by decide) ?_
          refine lv_goto (tgt := 40) hx hb dX7_append_36 (by decide) ?_
          by_cases q31 : (1 : Int32) = 0
          · replace h := it_some q31 h
            cases h
            exact cT_out (As := [.int (1 : Int32)]) (rest := []) hx hb hml hown hg hK hP hD hS hA hl.1 htab hZ hlocks (t_X7_requireState l hlt D cI cS cL (1 : Int32) q31) gs_X7_requireState gw_571 ⟨rfl, rfl, by decide, by decide⟩ ⟨by decide, by decide⟩ rfl rfl (Nat.le_of_ble_eq_true rfl) dX7_append_40
          replace h := if_some q31 h
          refine cS_v (As := [.int (1 : Int32)]) (rest := []) (wc := []) (wc' := []) hx hb hml hown hg hK hP hD hS hA hl.1 (k_X7_requireState l D cI cS cL (1 : Int32) q31) gs_X7_requireState gw_571 ⟨rfl, rfl, by decide, by decide⟩ ⟨Nat.zero_le _, Nat.zero_le _⟩ [] rfl rfl rfl rfl rfl (Nat.le_of_ble_eq_true rfl) dX7_append_40 (fun H locs hP hD hS => ?_)
          have hP : va_P D vwCl (wX7 cI cS hh vCar vGoa vEag tN tF cN cF mP mS kCap kGap kCar kCop kGro kShr bN bF rCmd rLet rNum fCap fGap fCar fCop fGro fShr hX hC hR) H := hP
          have hD : va_D A (wX7 cI cS hh vCar vGoa vEag tN tF cN cF mP mS kCap kGap kCar kCop kGro kShr bN bF rCmd rLet rNum fCap fGap fCar fCop fGro fShr hX hC hR) := hD
          exact map_inr h
      · replace h := if_some q26 h
        refine lv_iconst (v := 1) hx hb dX7_append_12 (by decide) ?_
        refine lv_goto (tgt := 17) hx hb dX7_append_13 (by decide) ?_
        by_cases q32 : (1 : Int32) = 0
        · replace h := it_some q32 h
          cases h
          exact cT_out (As := [.int (1 : Int32)]) (rest := []) hx hb hml hown hg hK hP hD hS hA hl.1 htab hZ hlocks (t_X7_requireArgument l hlt D cI cS cL (1 : Int32) q32) gs_X7_requireArgument gw_501 ⟨rfl, rfl, by decide, by decide⟩ ⟨by decide, by decide⟩ rfl rfl (Nat.le_of_ble_eq_true rfl) dX7_append_17
        replace h := if_some q32 h
        refine cS_v (As := [.int (1 : Int32)]) (rest := []) (wc := []) (wc' := []) hx hb hml hown hg hK hP hD hS hA hl.1 (k_X7_requireArgument l D cI cS cL (1 : Int32) q32) gs_X7_requireArgument gw_501 ⟨rfl, rfl, by decide, by decide⟩ ⟨Nat.zero_le _, Nat.zero_le _⟩ [] rfl rfl rfl rfl rfl (Nat.le_of_ble_eq_true rfl) dX7_append_17 (fun H locs hP hD hS => ?_)
        have hP : va_P D vwCl (wX7 cI cS hh vCar vGoa vEag tN tF cN cF mP mS kCap kGap kCar kCop kGro kShr bN bF rCmd rLet rNum fCap fGap fCar fCop fGro fShr hX hC hR) H := hP
        have hD : va_D A (wX7 cI cS hh vCar vGoa vEag tN tF cN cF mP mS kCap kGap kCar kCop kGro kShr bN bF rCmd rLet rNum fCap fGap fCar fCop fGro fShr hX hC hR) := hD
        refine lv_aload_n hx hb dX7_append_20 rfl (lv_at hl 0 rfl) ?_
        refine va_get (D := D) (ci := 7) (v := .ref (hh 10)) (C := RX7) (T := TX7) (N := 4) hx hb hg uX7 hown hK.1 hP 0 rfl rfl 2 (by decide) (hg _ gw_246) (fun _ h9 => h9) rfl dX7_append_21 ?_
        refine va_getN (D := D) (ci := 1) (v := .ref (hh 11)) (C := RX1) (T := TX1) (N := 2) hx hb hg uX1 hown hK.1 hP 10 rfl rfl 0 (by decide) (kk_nest hK nw_235) (fun _ h9 => h9) rfl dX7_append_24 ?_
        obtain ⟨r33, ec33, h⟩ := bd_some h
        refine cV_i (As := []) (rest := []) (wc := (wX0 cI (hh 11) (hh 12) 60 bN bF)) (wc' := (wX0 cI (hh 11) (hh 12) 60 bN bF)) hx hb hml hown hg hK hP hD hS hA hl.1 (k_X0_size l D cI cS cL Z (hh 11) (hh 12) 60 bN bF ec33) gm_X0_size gw_361 ⟨rfl, rfl, by decide, by decide⟩ ⟨Nat.zero_le _, Nat.zero_le _⟩ [11, 12] rfl rfl rfl rfl rfl rfl rfl rfl (Nat.le_of_ble_eq_true rfl) dX7_append_27 (fun H locs hP hD hS => ?_)
        have hP : va_P D vwCl (wX7 cI cS hh vCar vGoa vEag tN tF cN cF mP mS kCap kGap kCar kCop kGro kShr bN bF rCmd rLet rNum fCap fGap fCar fCop fGro fShr hX hC hR) H := hP
        have hD : va_D A (wX7 cI cS hh vCar vGoa vEag tN tF cN cF mP mS kCap kGap kCar kCop kGro kShr bN bF rCmd rLet rNum fCap fGap fCar fCop fGro fShr hX hC hR) := hD
        refine lv_bipush (v := 60) hx hb dX7_append_30 (by decide) ?_
        refine lv_icmp_ge (tgt := 39) hx hb dX7_append_32 (by decide) (fun q34 => ?_) (fun q34 => ?_)
        · replace h := it_some q34 h
          refine lv_iconst (v := 0) hx hb dX7_append_39 (by decide) ?_
          by_cases q35 : (0 : Int32) = 0
          · replace h := it_some q35 h
            cases h
            exact cT_out (As := [.int (0 : Int32)]) (rest := []) hx hb hml hown hg hK hP hD hS hA hl.1 htab hZ hlocks (t_X7_requireState l hlt D cI cS cL (0 : Int32) q35) gs_X7_requireState gw_571 ⟨rfl, rfl, by decide, by decide⟩ ⟨by decide, by decide⟩ rfl rfl (Nat.le_of_ble_eq_true rfl) dX7_append_40
          replace h := if_some q35 h
          refine cS_v (As := [.int (0 : Int32)]) (rest := []) (wc := []) (wc' := []) hx hb hml hown hg hK hP hD hS hA hl.1 (k_X7_requireState l D cI cS cL (0 : Int32) q35) gs_X7_requireState gw_571 ⟨rfl, rfl, by decide, by decide⟩ ⟨Nat.zero_le _, Nat.zero_le _⟩ [] rfl rfl rfl rfl rfl (Nat.le_of_ble_eq_true rfl) dX7_append_40 (fun H locs hP hD hS => ?_)
          have hP : va_P D vwCl (wX7 cI cS hh vCar vGoa vEag tN tF cN cF mP mS kCap kGap kCar kCop kGro kShr bN bF rCmd rLet rNum fCap fGap fCar fCop fGro fShr hX hC hR) H := hP
          have hD : va_D A (wX7 cI cS hh vCar vGoa vEag tN tF cN cF mP mS kCap kGap kCar kCop kGro kShr bN bF rCmd rLet rNum fCap fGap fCar fCop fGro fShr hX hC hR) := hD
          exact map_inr h
        · replace h := if_some q34 h
          refine lv_iconst (v := 1) hx hb dX7_append_35 (by decide) ?_
          refine lv_goto (tgt := 40) hx hb dX7_append_36 (by decide) ?_
          by_cases q36 : (1 : Int32) = 0
          · replace h := it_some q36 h
            cases h
            exact cT_out (As := [.int (1 : Int32)]) (rest := []) hx hb hml hown hg hK hP hD hS hA hl.1 htab hZ hlocks (t_X7_requireState l hlt D cI cS cL (1 : Int32) q36) gs_X7_requireState gw_571 ⟨rfl, rfl, by decide, by decide⟩ ⟨by decide, by decide⟩ rfl rfl (Nat.le_of_ble_eq_true rfl) dX7_append_40
          replace h := if_some q36 h
          refine cS_v (As := [.int (1 : Int32)]) (rest := []) (wc := []) (wc' := []) hx hb hml hown hg hK hP hD hS hA hl.1 (k_X7_requireState l D cI cS cL (1 : Int32) q36) gs_X7_requireState gw_571 ⟨rfl, rfl, by decide, by decide⟩ ⟨Nat.zero_le _, Nat.zero_le _⟩ [] rfl rfl rfl rfl rfl (Nat.le_of_ble_eq_true rfl) dX7_append_40 (fun H locs hP hD hS => ?_)
          have hP : va_P D vwCl (wX7 cI cS hh vCar vGoa vEag tN tF cN cF mP mS kCap kGap kCar kCop kGro kShr bN bF rCmd rLet rNum fCap fGap fCar fCop fGro fShr hX hC hR) H := hP
          have hD : va_D A (wX7 cI cS hh vCar vGoa vEag tN tF cN cF mP mS kCap kGap kCar kCop kGro kShr bN bF rCmd rLet rNum fCap fGap fCar fCop fGro fShr hX hC hR) := hD
          exact map_inr h
  exact hmain _ _ hP hS
abbrev rm_X7_clearCommands : Room := { frames := 1, cells := 0, slots := 0, locals := 20 }
def f_X7_clearCommands (Z : Nat) (bN : Int32) : Option (Int32 × Int32) :=
  (f_X0_size Z 60 bN).bind fun r1 =>
  (f_X0_clear Z 60 bN).bind fun bN_2 =>
  some (r1, bN_2)
set_option maxRecDepth 100000 in
set_option maxHeartbeats 4000000 in
theorem k_X7_clearCommands (l : Launch) (D : va_G) (cI cS cL : ClassId) (Z : Nat) (hh : Nat → Nat) (vCar : Int32) (vGoa : Int32) (vEag : Int32) (tN : Int32) (tF : Nat → Int32) (cN : Int32) (cF : Nat → Int32) (mP : Nat → Int32) (mS : Nat → Int32) (kCap : Int32) (kGap : Int32) (kCar : Int32) (kCop : Int32) (kGro : Int32) (kShr : Int32) (bN : Int32) (bF : Nat → Int32) (rCmd : Int32) (rLet : Int32) (rNum : Int32) (fCap : Int32) (fGap : Int32) (fCar : Int32) (fCop : Int32) (fGro : Int32) (fShr : Int32) (hX : Int32) (hC : Int32) (hR : Nat → StT) {r : Int32} {bN' : Int32} (h : f_X7_clearCommands Z bN = some (r, bN')) : CI l yX7_clearCommands cX7_clearCommands 2 (some .int) rm_X7_clearCommands D cI cS cL [.ref (hh 0)] (wX7 cI cS hh vCar vGoa vEag tN tF cN cF mP mS kCap kGap kCar kCop kGro kShr bN bF rCmd rLet rNum fCap fGap fCar fCop fGro fShr hX hC hR) (wX7 cI cS hh vCar vGoa vEag tN tF cN cF mP mS kCap kGap kCar kCop kGro kShr (bN') bF rCmd rLet rNum fCap fGap fCar fCop fGro fShr hX hC hR) r := by
  refine ent_i (by decide +kernel) (Nat.le_of_ble_eq_true rfl) ?_
  intro p e s m args below meth c A ls hx hb hr hml hlocks hg hown hK hP hD hS hA hl
  have hown : s.vm.findClass RX7 = some m.cls := hown
  have hl : lv_has ls 2 [(0, .ref (hh 0))] := hl
  have hP : va_P D vwCl (wX7 cI cS hh vCar vGoa vEag tN tF cN cF mP mS kCap kGap kCar kCop kGro kShr bN bF rCmd rLet rNum fCap fGap fCar fCop fGro fShr hX hC hR) s.heap := hP
  have hD : va_D A (wX7 cI cS hh vCar vGoa vEag tN tF cN cF mP mS kCap kGap kCar kCop kGro kShr bN bF rCmd rLet rNum fCap fGap fCar fCop fGro fShr hX hC hR) := hD
  show W p l e rm_X7_clearCommands s m args below meth c s.heap [] 0 0 (FI D below args s (wX7 cI cS hh vCar vGoa vEag tN tF cN cF mP mS kCap kGap kCar kCop kGro kShr (bN') bF rCmd rLet rNum fCap fGap fCar fCop fGro fShr hX hC hR) r A) (F0 m 0 ls [])
  unfold f_X7_clearCommands at h
  have hmain : ∀ (H : Heap) (locs : List Loc), va_P D vwCl (wX7 cI cS hh vCar vGoa vEag tN tF cN cF mP mS kCap kGap kCar kCop kGro kShr bN bF rCmd rLet rNum fCap fGap fCar fCop fGro fShr hX hC hR) H → va_S A s.heap H locs → W p l e rm_X7_clearCommands s m args below meth c H locs 0 0 (FI D below args s (wX7 cI cS hh vCar vGoa vEag tN tF cN cF mP mS kCap kGap kCar kCop kGro kShr (bN') bF rCmd rLet rNum fCap fGap fCar fCop fGro fShr hX hC hR) r A) (F0 m 0 ls []) := by
    intro H locs hP hS
    refine lv_aload_n hx hb dX7_clearCommands_0 rfl (lv_at hl 0 rfl) ?_
    refine va_get (D := D) (ci := 7) (v := .ref (hh 10)) (C := RX7) (T := TX7) (N := 4) hx hb hg uX7 hown hK.1 hP 0 rfl rfl 2 (by decide) (hg _ gw_246) (fun _ h9 => h9) rfl dX7_clearCommands_1 ?_
    refine va_getN (D := D) (ci := 1) (v := .ref (hh 11)) (C := RX1) (T := TX1) (N := 2) hx hb hg uX1 hown hK.1 hP 10 rfl rfl 0 (by decide) (kk_nest hK nw_235) (fun _ h9 => h9) rfl dX7_clearCommands_4 ?_
    obtain ⟨r1, ec1, h⟩ := bd_some h
    refine cV_i (As := []) (rest := []) (wc := (wX0 cI (hh 11) (hh 12) 60 bN bF)) (wc' := (wX0 cI (hh 11) (hh 12) 60 bN bF)) hx hb hml hown hg hK hP hD hS hA hl.1 (k_X0_size l D cI cS cL Z (hh 11) (hh 12) 60 bN bF ec1) gm_X0_size gw_361 ⟨rfl, rfl, by decide, by decide⟩ ⟨Nat.zero_le _, Nat.zero_le _⟩ [11, 12] rfl rfl rfl rfl rfl rfl rfl rfl (Nat.le_of_ble_eq_true rfl) dX7_clearCommands_7 (fun H locs hP hD hS => ?_)
    have hP : va_P D vwCl (wX7 cI cS hh vCar vGoa vEag tN tF cN cF mP mS kCap kGap kCar kCop kGro kShr bN bF rCmd rLet rNum fCap fGap fCar fCop fGro fShr hX hC hR) H := hP
    have hD : va_D A (wX7 cI cS hh vCar vGoa vEag tN tF cN cF mP mS kCap kGap kCar kCop kGro kShr bN bF rCmd rLet rNum fCap fGap fCar fCop fGro fShr hX hC hR) := hD
    refine lv_istore_n (lv' := [(1, .int r1), (0, .ref (hh 0))]) hx hb dX7_clearCommands_10 rfl hl (by decide) rfl (fun ls hl => ?_)
    refine lv_aload_n hx hb dX7_clearCommands_11 rfl (lv_at hl 1 rfl) ?_
    refine va_get (D := D) (ci := 7) (v := .ref (hh 10)) (C := RX7) (T := TX7) (N := 4) hx hb hg uX7 hown hK.1 hP 0 rfl rfl 2 (by decide) (hg _ gw_246) (fun _ h9 => h9) rfl dX7_clearCommands_12 ?_
    refine va_getN (D := D) (ci := 1) (v := .ref (hh 11)) (C := RX1) (T := TX1) (N := 2) hx hb hg uX1 hown hK.1 hP 10 rfl rfl 0 (by decide) (kk_nest hK nw_235) (fun _ h9 => h9) rfl dX7_clearCommands_15 ?_
    obtain ⟨bN_2, ec2, h⟩ := bd_some h
    refine cV_v (As := []) (rest := []) (wc := (wX0 cI (hh 11) (hh 12) 60 bN bF)) (wc' := (wX0 cI (hh 11) (hh 12) 60 bN_2 bF)) hx hb hml hown hg hK hP hD hS hA hl.1 (k_X0_clear l D cI cS cL Z (hh 11) (hh 12) 60 bN bF ec2) gm_X0_clear gw_410 ⟨rfl, rfl, by decide, by decide⟩ ⟨Nat.zero_le _, Nat.zero_le _⟩ [11, 12] rfl rfl rfl rfl rfl rfl rfl rfl (Nat.le_of_ble_eq_true rfl) dX7_clearCommands_18 (fun H locs hP hD hS => ?_)
    have hP : va_P D vwCl (wX7 cI cS hh vCar vGoa vEag tN tF cN cF mP mS kCap kGap kCar kCop kGro kShr bN_2 bF rCmd rLet rNum fCap fGap fCar fCop fGro fShr hX hC hR) H := hP
    have hD : va_D A (wX7 cI cS hh vCar vGoa vEag tN tF cN cF mP mS kCap kGap kCar kCop kGro kShr bN_2 bF rCmd rLet rNum fCap fGap fCar fCop fGro fShr hX hC hR) := hD
    refine lv_iload_n hx hb dX7_clearCommands_21 rfl (lv_at hl 0 rfl) ?_
    cases h
    exact ret_i hx hb hr hlocks hP hD hS dX7_clearCommands_22 rfl
  exact hmain _ _ hP hS
abbrev rm_X7_firstError : Room := { frames := 4, cells := 0, slots := 0, locals := 86 }
def f_X7_firstError (Z : Nat) (bN : Int32) (bF : Nat → Int32) (rCmd : Int32) (rLet : Int32) (rNum : Int32) : Option (Int32 × Int32 × Int32 × Int32) :=
  (f_X1_firstFault Z bN bF rCmd rLet rNum).bind fun (r1, rCmd_1, rLet_1, rNum_1) =>
  some (r1, rCmd_1, rLet_1, rNum_1)
set_option maxRecDepth 100000 in
set_option maxHeartbeats 4000000 in
theorem k_X7_firstError (l : Launch) (D : va_G) (cI cS cL : ClassId) (Z : Nat) (hh : Nat → Nat) (vCar : Int32) (vGoa : Int32) (vEag : Int32) (tN : Int32) (tF : Nat → Int32) (cN : Int32) (cF : Nat → Int32) (mP : Nat → Int32) (mS : Nat → Int32) (kCap : Int32) (kGap : Int32) (kCar : Int32) (kCop : Int32) (kGro : Int32) (kShr : Int32) (bN : Int32) (bF : Nat → Int32) (rCmd : Int32) (rLet : Int32) (rNum : Int32) (fCap : Int32) (fGap : Int32) (fCar : Int32) (fCop : Int32) (fGro : Int32) (fShr : Int32) (hX : Int32) (hC : Int32) (hR : Nat → StT) {r : Int32} {rCmd' : Int32} {rLet' : Int32} {rNum' : Int32} (h : f_X7_firstError Z bN bF rCmd rLet rNum = some (r, rCmd', rLet', rNum')) : CI l yX7_firstError cX7_firstError 1 (some .int) rm_X7_firstError D cI cS cL [.ref (hh 0)] (wX7 cI cS hh vCar vGoa vEag tN tF cN cF mP mS kCap kGap kCar kCop kGro kShr bN bF rCmd rLet rNum fCap fGap fCar fCop fGro fShr hX hC hR) (wX7 cI cS hh vCar vGoa vEag tN tF cN cF mP mS kCap kGap kCar kCop kGro kShr bN bF (rCmd') (rLet') (rNum') fCap fGap fCar fCop fGro fShr hX hC hR) r := by
  refine ent_i (by decide +kernel) (Nat.le_of_ble_eq_true rfl) ?_
  intro p e s m args below meth c A ls hx hb hr hml hlocks hg hown hK hP hD hS hA hl
  have hown : s.vm.findClass RX7 = some m.cls := hown
  have hl : lv_has ls 1 [(0, .ref (hh 0))] := hl
  have hP : va_P D vwCl (wX7 cI cS hh vCar vGoa vEag tN tF cN cF mP mS kCap kGap kCar kCop kGro kShr bN bF rCmd rLet rNum fCap fGap fCar fCop fGro fShr hX hC hR) s.heap := hP
  have hD : va_D A (wX7 cI cS hh vCar vGoa vEag tN tF cN cF mP mS kCap kGap kCar kCop kGro kShr bN bF rCmd rLet rNum fCap fGap fCar fCop fGro fShr hX hC hR) := hD
  show W p l e rm_X7_firstError s m args below meth c s.heap [] 0 0 (FI D below args s (wX7 cI cS hh vCar vGoa vEag tN tF cN cF mP mS kCap kGap kCar kCop kGro kShr bN bF (rCmd') (rLet') (rNum') fCap fGap fCar fCop fGro fShr hX hC hR) r A) (F0 m 0 ls [])
  unfold f_X7_firstError at h
  have hmain : ∀ (H : Heap) (locs : List Loc), va_P D vwCl (wX7 cI cS hh vCar vGoa vEag tN tF cN cF mP mS kCap kGap kCar kCop kGro kShr bN bF rCmd rLet rNum fCap fGap fCar fCop fGro fShr hX hC hR) H → va_S A s.heap H locs → W p l e rm_X7_firstError s m args below meth c H locs 0 0 (FI D below args s (wX7 cI cS hh vCar vGoa vEag tN tF cN cF mP mS kCap kGap kCar kCop kGro kShr bN bF (rCmd') (rLet') (rNum') fCap fGap fCar fCop fGro fShr hX hC hR) r A) (F0 m 0 ls []) := by
    intro H locs hP hS
    refine lv_aload_n hx hb dX7_firstError_0 rfl (lv_at hl 0 rfl) ?_
    refine va_get (D := D) (ci := 7) (v := .ref (hh 10)) (C := RX7) (T := TX7) (N := 4) hx hb hg uX7 hown hK.1 hP 0 rfl rfl 2 (by decide) (hg _ gw_246) (fun _ h9 => h9) rfl dX7_firstError_1 ?_
    obtain ⟨⟨r1, rCmd_1, rLet_1, rNum_1⟩, ec1, h⟩ := bd_some h
    refine cV_i (As := []) (rest := []) (wc := (wX1 cI (hh 10) (hh 11) (hh 12) (hh 13) bN bF rCmd rLet rNum)) (wc' := (wX1 cI (hh 10) (hh 11) (hh 12) (hh 13) bN bF rCmd_1 rLet_1 rNum_1)) hx hb hml hown hg hK hP hD hS hA hl.1 (k_X1_firstFault l D cI cS cL Z (hh 10) (hh 11) (hh 12) (hh 13) bN bF rCmd rLet rNum ec1) gm_X1_firstFault gw_418 ⟨rfl, rfl, by decide, by decide⟩ ⟨Nat.zero_le _, Nat.zero_le _⟩ [10, 11, 12, 13] rfl rfl rfl rfl rfl rfl rfl rfl (Nat.le_of_ble_eq_true rfl) dX7_firstError_4 (fun H locs hP hD hS => ?_)
    have hP : va_P D vwCl (wX7 cI cS hh vCar vGoa vEag tN tF cN cF mP mS kCap kGap kCar kCop kGro kShr bN bF rCmd_1 rLet_1 rNum_1 fCap fGap fCar fCop fGro fShr hX hC hR) H := hP
    have hD : va_D A (wX7 cI cS hh vCar vGoa vEag tN tF cN cF mP mS kCap kGap kCar kCop kGro kShr bN bF rCmd_1 rLet_1 rNum_1 fCap fGap fCar fCop fGro fShr hX hC hR) := hD
    cases h
    exact ret_i hx hb hr hlocks hP hD hS dX7_firstError_7 rfl
  exact hmain _ _ hP hS
abbrev rm_X7_run : Room := { frames := 7, cells := 0, slots := 0, locals := 160 }
abbrev rmt_X7_run : Room := { frames := 7, cells := 1, slots := 6, locals := 160 }
def f_X7_run_c10 (Z : Nat) (vEag : Int32) (bF : Nat → Int32) (vCar : Int32) (vGoa : Int32) (tN : Int32) (tF : Nat → Int32) (cN : Int32) (cF : Nat → Int32) (mP : Nat → Int32) (mS : Nat → Int32) (kCap : Int32) (kGap : Int32) (kCar : Int32) (kCop : Int32) (kGro : Int32) (kShr : Int32) (bN : Int32) (rCmd : Int32) (rLet : Int32) (rNum : Int32) (hX : Int32) (hC : Int32) (hR : Nat → StT) : Option (Int32 × Int32 × Int32 × Int32 × (Nat → Int32) × Int32 × (Nat → Int32) × (Nat → Int32) × (Nat → Int32) × Int32 × Int32 × Int32 × Int32 × Int32 × Int32 × Int32 × Int32 × Int32 × Int32 × Int32 × Int32 × (Nat → StT)) :=
    (f_X2_save Z hX hC hR vCar vGoa vEag tN tF cN cF mP mS kCap kGap kCar kCop kGro kShr).bind fun (hX_1, hC_1, hR_1) =>
    (f_X1_executeOn Z bN bF rCmd rLet rNum vCar vGoa vEag tN tF cN cF mP mS kCap kGap kCar kCop kGro kShr).bind fun (r2, rCmd_2, rLet_2, rNum_2, vCar_2, vGoa_2, tN_2, tF_2, cN_2, cF_2, mP_2, mS_2, kCap_2, kGap_2, kCar_2, kCop_2, kGro_2, kShr_2) =>
    (f_X0_clear Z 60 bN).bind fun bN_3 =>
    some (r2, vCar_2, vGoa_2, tN_2, tF_2, cN_2, cF_2, mP_2, mS_2, kCap_2, kGap_2, kCar_2, kCop_2, kGro_2, kShr_2, bN_3, rCmd_2, rLet_2, rNum_2, hX_1, hC_1, hR_1)
def f_X7_run (Z : Nat) (vCar : Int32) (vGoa : Int32) (vEag : Int32) (tN : Int32) (tF : Nat → Int32) (cN : Int32) (cF : Nat → Int32) (mP : Nat → Int32) (mS : Nat → Int32) (kCap : Int32) (kGap : Int32) (kCar : Int32) (kCop : Int32) (kGro : Int32) (kShr : Int32) (bN : Int32) (bF : Nat → Int32) (rCmd : Int32) (rLet : Int32) (rNum : Int32) (hX : Int32) (hC : Int32) (hR : Nat → StT) : Option ((Int32 × Int32 × Int32 × Int32 × (Nat → Int32) × Int32 × (Nat → Int32) × (Nat → Int32) × (Nat → Int32) × Int32 × Int32 × Int32 × Int32 × Int32 × Int32 × Int32 × Int32 × Int32 × Int32 × Int32 × Int32 × (Nat → StT)) ⊕ (String × Int32 × Int32 × Int32)) :=
  (f_X1_isComplete Z bN bF rCmd rLet rNum).bind fun (r4, rCmd_4, rLet_4, rNum_4) =>
  if r4 = 0 then
    some (.inr ("java/lang/IllegalArgumentException", rCmd_4, rLet_4, rNum_4))
  else
  (f_X7_run_c10 Z vEag bF vCar vGoa tN tF cN cF mP mS kCap kGap kCar kCop kGro kShr bN rCmd_4 rLet_4 rNum_4 hX hC hR).map Sum.inl
set_option maxRecDepth 100000 in
set_option maxHeartbeats 4000000 in
theorem k_X7_run (l : Launch) (D : va_G) (cI cS cL : ClassId) (Z : Nat) (hh : Nat → Nat) (vCar : Int32) (vGoa : Int32) (vEag : Int32) (tN : Int32) (tF : Nat → Int32) (cN : Int32) (cF : Nat → Int32) (mP : Nat → Int32) (mS : Nat → Int32) (kCap : Int32) (kGap : Int32) (kCar : Int32) (kCop : Int32) (kGro : Int32) (kShr : Int32) (bN : Int32) (bF : Nat → Int32) (rCmd : Int32) (rLet : Int32) (rNum : Int32) (fCap : Int32) (fGap : Int32) (fCar : Int32) (fCop : Int32) (fGro : Int32) (fShr : Int32) (hX : Int32) (hC : Int32) (hR : Nat → StT) {r : Int32} {vCar' : Int32} {vGoa' : Int32} {tN' : Int32} {tF' : Nat → Int32} {cN' : Int32} {cF' : Nat → Int32} {mP' : Nat → Int32} {mS' : Nat → Int32} {kCap' : Int32} {kGap' : Int32} {kCar' : Int32} {kCop' : Int32} {kGro' : Int32} {kShr' : Int32} {bN' : Int32} {rCmd' : Int32} {rLet' : Int32} {rNum' : Int32} {hX' : Int32} {hC' : Int32} {hR' : Nat → StT} (h : f_X7_run Z vCar vGoa vEag tN tF cN cF mP mS kCap kGap kCar kCop kGro kShr bN bF rCmd rLet rNum hX hC hR = some (.inl (r, vCar', vGoa', tN', tF', cN', cF', mP', mS', kCap', kGap', kCar', kCop', kGro', kShr', bN', rCmd', rLet', rNum', hX', hC', hR'))) : CI l yX7_run cX7_run 2 (some .int) rm_X7_run D cI cS cL [.ref (hh 0)] (wX7 cI cS hh vCar vGoa vEag tN tF cN cF mP mS kCap kGap kCar kCop kGro kShr bN bF rCmd rLet rNum fCap fGap fCar fCop fGro fShr hX hC hR) (wX7 cI cS hh (vCar') (vGoa') vEag (tN') (tF') (cN') (cF') (mP') (mS') (kCap') (kGap') (kCar') (kCop') (kGro') (kShr') (bN') bF (rCmd') (rLet') (rNum') fCap fGap fCar fCop fGro fShr (hX') (hC') (hR')) r := by
  refine ent_i (by decide +kernel) (Nat.le_of_ble_eq_true rfl) ?_
  intro p e s m args below meth c A ls hx hb hr hml hlocks hg hown hK hP hD hS hA hl
  have hown : s.vm.findClass RX7 = some m.cls := hown
  have c_10 : ∀ (vCar : Int32) (vGoa : Int32) (tN : Int32) (tF : Nat → Int32) (cN : Int32) (cF : Nat → Int32) (mP : Nat → Int32) (mS : Nat → Int32) (kCap : Int32) (kGap : Int32) (kCar : Int32) (kCop : Int32) (kGro : Int32) (kShr : Int32) (bN : Int32) (rCmd : Int32) (rLet : Int32) (rNum : Int32) (hX : Int32) (hC : Int32) (hR : Nat → StT), f_X7_run_c10 Z vEag bF vCar vGoa tN tF cN cF mP mS kCap kGap kCar kCop kGro kShr bN rCmd rLet rNum hX hC hR = some (r, vCar', vGoa', tN', tF', cN', cF', mP', mS', kCap', kGap', kCar', kCop', kGro', kShr', bN', rCmd', rLet', rNum', hX', hC', hR') → ∀ (H : Heap) (locs : List Loc), va_P D vwCl (wX7 cI cS hh vCar vGoa vEag tN tF cN cF mP mS kCap kGap kCar kCop kGro kShr bN bF rCmd rLet rNum fCap fGap fCar fCop fGro fShr hX hC hR) H → va_D A (wX7 cI cS hh vCar vGoa vEag tN tF cN cF mP mS kCap kGap kCar kCop kGro kShr bN bF rCmd rLet rNum fCap fGap fCar fCop fGro fShr hX hC hR) → va_S A s.heap H locs → ∀ ls : Array Slot, lv_has ls 2 [(0, .ref (hh 0))] → W p l e rm_X7_run s m args below meth c H locs 0 0 (FI D below args s (wX7 cI cS hh (vCar') (vGoa') vEag (tN') (tF') (cN') (cF') (mP') (mS') (kCap') (kGap') (kCar') (kCop') (kGro') (kShr') (bN') bF (rCmd') (rLet') (rNum') fCap fGap fCar fCop fGro fShr (hX') (hC') (hR')) r A) (F0 m 10 ls []) := by
    intro vCar vGoa tN tF cN cF mP mS kCap kGap kCar kCop kGro kShr bN rCmd rLet rNum hX hC hR h H locs hP hD hS ls hl
    unfold f_X7_run_c10 at h
    refine lv_aload_n hx hb dX7_run_10 rfl (lv_at hl 0 rfl) ?_
    refine va_get (D := D) (ci := 7) (v := .ref (hh 15)) (C := RX7) (T := TX7) (N := 4) hx hb hg uX7 hown hK.1 hP 0 rfl rfl 1 (by decide) (hg _ gw_245) (fun _ h9 => h9) rfl dX7_run_11 ?_
    refine lv_aload_n hx hb dX7_run_14 rfl (lv_at hl 0 rfl) ?_
    refine va_get (D := D) (ci := 7) (v := .ref (hh 1)) (C := RX7) (T := TX7) (N := 4) hx hb hg uX7 hown hK.1 hP 0 rfl rfl 0 (by decide) (hg _ gw_244) (fun _ h9 => h9) rfl dX7_run_15 ?_
    obtain ⟨⟨hX_1, hC_1, hR_1⟩, ec1, h⟩ := bd_some h
    refine cP_v (As := [.ref (hh 1)]) (rest := []) (wc := (wX2t cI cS (fun i => hh (15 + i)) hX hC hR (wX6 cI (hh 1) (hh 2) (hh 3) (hh 4) (hh 5) (hh 6) (hh 7) (hh 8) (hh 9) vCar vGoa vEag tN tF cN cF mP mS kCap kGap kCar kCop kGro kShr))) (wc' := (wX2t cI cS (fun i => hh (15 + i)) hX_1 hC_1 hR_1 (wX6 cI (hh 1) (hh 2) (hh 3) (hh 4) (hh 5) (hh 6) (hh 7) (hh 8) (hh 9) vCar vGoa vEag tN tF cN cF mP mS kCap kGap kCar kCop kGro kShr))) (ws' := (wX7 cI cS hh vCar vGoa vEag tN tF cN cF mP mS kCap kGap kCar kCop kGro kShr bN bF rCmd rLet rNum fCap fGap fCar fCop fGro fShr hX_1 hC_1 hR_1)) hx hb hml hown hg hK hP hD hS hA hl.1 (k_X2_save l D cI cS cL Z (fun i => hh (15 + i)) (hh 1) (hh 2) (hh 3) (hh 4) (hh 5) (hh 6) (hh 7) (hh 8) (hh 9) hX hC hR vCar vGoa vEag tN tF cN cF mP mS kCap kGap kCar kCop kGro kShr ec1) gm_X2_save gw_261 ⟨rfl, rfl, by decide, by decide⟩ ⟨Nat.zero_le _, Nat.zero_le _⟩ pm_7 pm_7 fst_X2t rfl rfl rfl rfl rfl (Nat.le_of_ble_eq_true rfl) dX7_run_18 (fun H locs hP hD hS => ?_)
    refine lv_aload_n hx hb dX7_run_21 rfl (lv_at hl 0 rfl) ?_
    refine va_get (D := D) (ci := 7) (v := .ref (hh 10)) (C := RX7) (T := TX7) (N := 4) hx hb hg uX7 hown hK.1 hP 0 rfl rfl 2 (by decide) (hg _ gw_246) (fun _ h9 => h9) rfl dX7_run_22 ?_
    refine lv_aload_n hx hb dX7_run_25 rfl (lv_at hl 0 rfl) ?_
    refine va_get (D := D) (ci := 7) (v := .ref (hh 1)) (C := RX7) (T := TX7) (N := 4) hx hb hg uX7 hown hK.1 hP 0 rfl rfl 0 (by decide) (hg _ gw_244) (fun _ h9 => h9) rfl dX7_run_26 ?_
    obtain ⟨⟨r2, rCmd_2, rLet_2, rNum_2, vCar_2, vGoa_2, tN_2, tF_2, cN_2, cF_2, mP_2, mS_2, kCap_2, kGap_2, kCar_2, kCop_2, kGro_2, kShr_2⟩, ec2, h⟩ := bd_some h
    refine cV_i (As := [.ref (hh 1)]) (rest := []) (wc := (wX1 cI (hh 10) (hh 11) (hh 12) (hh 13) bN bF rCmd rLet rNum ++ wX6 cI (hh 1) (hh 2) (hh 3) (hh 4) (hh 5) (hh 6) (hh 7) (hh 8) (hh 9) vCar vGoa vEag tN tF cN cF mP mS kCap kGap kCar kCop kGro kShr)) (wc' := (wX1 cI (hh 10) (hh 11) (hh 12) (hh 13) bN bF rCmd_2 rLet_2 rNum_2 ++ wX6 cI (hh 1) (hh 2) (hh 3) (hh 4) (hh 5) (hh 6) (hh 7) (hh 8) (hh 9) vCar_2 vGoa_2 vEag tN_2 tF_2 cN_2 cF_2 mP_2 mS_2 kCap_2 kGap_2 kCar_2 kCop_2 kGro_2 kShr_2)) hx hb hml hown hg hK hP hD hS hA hl.1 (k_X1_executeOn l D cI cS cL Z (hh 10) (hh 11) (hh 12) (hh 13) (hh 1) (hh 2) (hh 3) (hh 4) (hh 5) (hh 6) (hh 7) (hh 8) (hh 9) bN bF rCmd rLet rNum vCar vGoa vEag tN tF cN cF mP mS kCap kGap kCar kCop kGro kShr ec2) gm_X1_executeOn gw_893 ⟨rfl, rfl, by decide, by decide⟩ ⟨Nat.zero_le _, Nat.zero_le _⟩ [10, 11, 12, 13, 1, 2, 3, 4, 5, 6, 7, 8, 9] rfl rfl rfl rfl rfl rfl rfl rfl (Nat.le_of_ble_eq_true rfl) dX7_run_29 (fun H locs hP hD hS => ?_)
    have hP : va_P D vwCl (wX7 cI cS hh vCar_2 vGoa_2 vEag tN_2 tF_2 cN_2 cF_2 mP_2 mS_2 kCap_2 kGap_2 kCar_2 kCop_2 kGro_2 kShr_2 bN bF rCmd_2 rLet_2 rNum_2 fCap fGap fCar fCop fGro fShr hX_1 hC_1 hR_1) H := hP
    have hD : va_D A (wX7 cI cS hh vCar_2 vGoa_2 vEag tN_2 tF_2 cN_2 cF_2 mP_2 mS_2 kCap_2 kGap_2 kCar_2 kCop_2 kGro_2 kShr_2 bN bF rCmd_2 rLet_2 rNum_2 fCap fGap fCar fCop fGro fShr hX_1 hC_1 hR_1) := hD
    refine lv_istore_n (lv' := [(1, .int r2), (0, .ref (hh 0))]) hx hb dX7_run_32 rfl hl (by decide) rfl (fun ls hl => ?_)
    refine lv_aload_n hx hb dX7_run_33 rfl (lv_at hl 1 rfl) ?_
    refine va_get (D := D) (ci := 7) (v := .ref (hh 10)) (C := RX7) (T := TX7) (N := 4) hx hb hg uX7 hown hK.1 hP 0 rfl rfl 2 (by decide) (hg _ gw_246) (fun _ h9 => h9) rfl dX7_run_34 ?_
    refine va_getN (D := D) (ci := 1) (v := .ref (hh 11)) (C := RX1) (T := TX1) (N := 2) hx hb hg uX1 hown hK.1 hP 10 rfl rfl 0 (by decide) (kk_nest hK nw_235) (fun _ h9 => h9) rfl dX7_run_37 ?_
    obtain ⟨bN_3, ec3, h⟩ := bd_some h
    refine cV_v (As := []) (rest := []) (wc := (wX0 cI (hh 11) (hh 12) 60 bN bF)) (wc' := (wX0 cI (hh 11) (hh 12) 60 bN_3 bF)) hx hb hml hown hg hK hP hD hS hA hl.1 (k_X0_clear l D cI cS cL Z (hh 11) (hh 12) 60 bN bF ec3) gm_X0_clear gw_410 ⟨rfl, rfl, by decide, by decide⟩ ⟨Nat.zero_le _, Nat.zero_le _⟩ [11, 12] rfl rfl rfl rfl rfl rfl rfl rfl (Nat.le_of_ble_eq_true rfl) dX7_run_40 (fun H locs hP hD hS => ?_)
    have hP : va_P D vwCl (wX7 cI cS hh vCar_2 vGoa_2 vEag tN_2 tF_2 cN_2 cF_2 mP_2 mS_2 kCap_2 kGap_2 kCar_2 kCop_2 kGro_2 kShr_2 bN_3 bF rCmd_2 rLet_2 rNum_2 fCap fGap fCar fCop fGro fShr hX_1 hC_1 hR_1) H := hP
    have hD : va_D A (wX7 cI cS hh vCar_2 vGoa_2 vEag tN_2 tF_2 cN_2 cF_2 mP_2 mS_2 kCap_2 kGap_2 kCar_2 kCop_2 kGro_2 kShr_2 bN_3 bF rCmd_2 rLet_2 rNum_2 fCap fGap fCar fCop fGro fShr hX_1 hC_1 hR_1) := hD
    refine lv_iload_n hx hb dX7_run_43 rfl (lv_at hl 0 rfl) ?_
    cases h
    exact ret_i hx hb hr hlocks hP hD hS dX7_run_44 rfl
  have hl : lv_has ls 2 [(0, .ref (hh 0))] := hl
  have hP : va_P D vwCl (wX7 cI cS hh vCar vGoa vEag tN tF cN cF mP mS kCap kGap kCar kCop kGro kShr bN bF rCmd rLet rNum fCap fGap fCar fCop fGro fShr hX hC hR) s.heap := hP
  have hD : va_D A (wX7 cI cS hh vCar vGoa vEag tN tF cN cF mP mS kCap kGap kCar kCop kGro kShr bN bF rCmd rLet rNum fCap fGap fCar fCop fGro fShr hX hC hR) := hD
  show W p l e rm_X7_run s m args below meth c s.heap [] 0 0 (FI D below args s (wX7 cI cS hh (vCar') (vGoa') vEag (tN') (tF') (cN') (cF') (mP') (mS') (kCap') (kGap') (kCar') (kCop') (kGro') (kShr') (bN') bF (rCmd') (rLet') (rNum') fCap fGap fCar fCop fGro fShr (hX') (hC') (hR')) r A) (F0 m 0 ls [])
  unfold f_X7_run at h
  have hmain : ∀ (H : Heap) (locs : List Loc), va_P D vwCl (wX7 cI cS hh vCar vGoa vEag tN tF cN cF mP mS kCap kGap kCar kCop kGro kShr bN bF rCmd rLet rNum fCap fGap fCar fCop fGro fShr hX hC hR) H → va_S A s.heap H locs → W p l e rm_X7_run s m args below meth c H locs 0 0 (FI D below args s (wX7 cI cS hh (vCar') (vGoa') vEag (tN') (tF') (cN') (cF') (mP') (mS') (kCap') (kGap') (kCar') (kCop') (kGro') (kShr') (bN') bF (rCmd') (rLet') (rNum') fCap fGap fCar fCop fGro fShr (hX') (hC') (hR')) r A) (F0 m 0 ls []) := by
    intro H locs hP hS
    refine lv_aload_n hx hb dX7_run_0 rfl (lv_at hl 0 rfl) ?_
    refine va_get (D := D) (ci := 7) (v := .ref (hh 10)) (C := RX7) (T := TX7) (N := 4) hx hb hg uX7 hown hK.1 hP 0 rfl rfl 2 (by decide) (hg _ gw_246) (fun _ h9 => h9) rfl dX7_run_1 ?_
    obtain ⟨⟨r4, rCmd_4, rLet_4, rNum_4⟩, ec4, h⟩ := bd_some h
    refine cV_i (As := []) (rest := []) (wc := (wX1 cI (hh 10) (hh 11) (hh 12) (hh 13) bN bF rCmd rLet rNum)) (wc' := (wX1 cI (hh 10) (hh 11) (hh 12) (hh 13) bN bF rCmd_4 rLet_4 rNum_4)) hx hb hml hown hg hK hP hD hS hA hl.1 (k_X1_isComplete l D cI cS cL Z (hh 10) (hh 11) (hh 12) (hh 13) bN bF rCmd rLet rNum ec4) gm_X1_isComplete gw_887 ⟨rfl, rfl, by decide, by decide⟩ ⟨Nat.zero_le _, Nat.zero_le _⟩ [10, 11, 12, 13] rfl rfl rfl rfl rfl rfl rfl rfl (Nat.le_of_ble_eq_true rfl) dX7_run_4 (fun H locs hP hD hS => ?_)
    have hP : va_P D vwCl (wX7 cI cS hh vCar vGoa vEag tN tF cN cF mP mS kCap kGap kCar kCop kGro kShr bN bF rCmd_4 rLet_4 rNum_4 fCap fGap fCar fCop fGro fShr hX hC hR) H := hP
    have hD : va_D A (wX7 cI cS hh vCar vGoa vEag tN tF cN cF mP mS kCap kGap kCar kCop kGro kShr bN bF rCmd_4 rLet_4 rNum_4 fCap fGap fCar fCop fGro fShr hX hC hR) := hD
    by_cases q5 : r4 = 0
    · cases it_some q5 h
    replace h := if_some q5 h
    refine cS_v (As := [.int r4]) (rest := []) (wc := []) (wc' := []) hx hb hml hown hg hK hP hD hS hA hl.1 (k_X7_requireArgument l D cI cS cL r4 q5) gs_X7_requireArgument gw_501 ⟨rfl, rfl, by decide, by decide⟩ ⟨Nat.zero_le _, Nat.zero_le _⟩ [] rfl rfl rfl rfl rfl (Nat.le_of_ble_eq_true rfl) dX7_run_7 (fun H locs hP hD hS => ?_)
    have hP : va_P D vwCl (wX7 cI cS hh vCar vGoa vEag tN tF cN cF mP mS kCap kGap kCar kCop kGro kShr bN bF rCmd_4 rLet_4 rNum_4 fCap fGap fCar fCop fGro fShr hX hC hR) H := hP
    have hD : va_D A (wX7 cI cS hh vCar vGoa vEag tN tF cN cF mP mS kCap kGap kCar kCop kGro kShr bN bF rCmd_4 rLet_4 rNum_4 fCap fGap fCar fCop fGro fShr hX hC hR) := hD
    replace h := map_inl h
    exact c_10 vCar vGoa tN tF cN cF mP mS kCap kGap kCar kCop kGro kShr bN rCmd_4 rLet_4 rNum_4 hX hC hR h H locs hP hD hS ls (lv_sub hl [0] rfl)
  exact hmain _ _ hP hS
set_option maxRecDepth 100000 in
set_option maxHeartbeats 4000000 in
theorem t_X7_run (l : Launch) (hlt : l.stackTraces = false) (D : va_G) (cI cS cL : ClassId) (Z : Nat) (hh : Nat → Nat) (vCar : Int32) (vGoa : Int32) (vEag : Int32) (tN : Int32) (tF : Nat → Int32) (cN : Int32) (cF : Nat → Int32) (mP : Nat → Int32) (mS : Nat → Int32) (kCap : Int32) (kGap : Int32) (kCar : Int32) (kCop : Int32) (kGro : Int32) (kShr : Int32) (bN : Int32) (bF : Nat → Int32) (rCmd : Int32) (rLet : Int32) (rNum : Int32) (fCap : Int32) (fGap : Int32) (fCar : Int32) (fCop : Int32) (fGro : Int32) (fShr : Int32) (hX : Int32) (hC : Int32) (hR : Nat → StT) {E0 : String} {rCmd' : Int32} {rLet' : Int32} {rNum' : Int32} (h : f_X7_run Z vCar vGoa vEag tN tF cN cF mP mS kCap kGap kCar kCop kGro kShr bN bF rCmd rLet rNum hX hC hR = some (.inr (E0, rCmd', rLet', rNum'))) : CTj l yX7_run cX7_run 2 (some .int) rmt_X7_run D cI cS cL [.ref (hh 0)] (wX7 cI cS hh vCar vGoa vEag tN tF cN cF mP mS kCap kGap kCar kCop kGro kShr bN bF rCmd rLet rNum fCap fGap fCar fCop fGro fShr hX hC hR) (wX7 cI cS hh vCar vGoa vEag tN tF cN cF mP mS kCap kGap kCar kCop kGro kShr bN bF (rCmd') (rLet') (rNum') fCap fGap fCar fCop fGro fShr hX hC hR) E0 := by
  refine ent_tj (by decide +kernel) (Nat.le_of_ble_eq_true rfl) ?_
  intro p e s m args below meth c A ls hx hb hr hml hlocks hg hown hK hP hD hS hA hl htab hZ
  have hown : s.vm.findClass RX7 = some m.cls := hown
  have hl : lv_has ls 2 [(0, .ref (hh 0))] := hl
  have hP : va_P D vwCl (wX7 cI cS hh vCar vGoa vEag tN tF cN cF mP mS kCap kGap kCar kCop kGro kShr bN bF rCmd rLet rNum fCap fGap fCar fCop fGro fShr hX hC hR) s.heap := hP
  have hD : va_D A (wX7 cI cS hh vCar vGoa vEag tN tF cN cF mP mS kCap kGap kCar kCop kGro kShr bN bF rCmd rLet rNum fCap fGap fCar fCop fGro fShr hX hC hR) := hD
  show W p l e rmt_X7_run s m args below meth c s.heap [] 0 0 (FT D below (va_Qi (fun _ (_ : Unit) => False) (fun _ _ => False) A) args s (wX7 cI cS hh vCar vGoa vEag tN tF cN cF mP mS kCap kGap kCar kCop kGro kShr bN bF (rCmd') (rLet') (rNum') fCap fGap fCar fCop fGro fShr hX hC hR) E0 A) (F0 m 0 ls [])
  unfold f_X7_run at h
  have hmain : ∀ (H : Heap) (locs : List Loc), va_P D vwCl (wX7 cI cS hh vCar vGoa vEag tN tF cN cF mP mS kCap kGap kCar kCop kGro kShr bN bF rCmd rLet rNum fCap fGap fCar fCop fGro fShr hX hC hR) H → va_S A s.heap H locs → W p l e rmt_X7_run s m args below meth c H locs 0 0 (FT D below (va_Qi (fun _ (_ : Unit) => False) (fun _ _ => False) A) args s (wX7 cI cS hh vCar vGoa vEag tN tF cN cF mP mS kCap kGap kCar kCop kGro kShr bN bF (rCmd') (rLet') (rNum') fCap fGap fCar fCop fGro fShr hX hC hR) E0 A) (F0 m 0 ls []) := by
    intro H locs hP hS
    refine lv_aload_n hx hb dX7_run_0 rfl (lv_at hl 0 rfl) ?_
    refine va_get (D := D) (ci := 7) (v := .ref (hh 10)) (C := RX7) (T := TX7) (N := 4) hx hb hg uX7 hown hK.1 hP 0 rfl rfl 2 (by decide) (hg _ gw_246) (fun _ h9 => h9) rfl dX7_run_1 ?_
    obtain ⟨⟨r6, rCmd_6, rLet_6, rNum_6⟩, ec6, h⟩ := bd_some h
    refine cV_i (As := []) (rest := []) (wc := (wX1 cI (hh 10) (hh 11) (hh 12) (hh 13) bN bF rCmd rLet rNum)) (wc' := (wX1 cI (hh 10) (hh 11) (hh 12) (hh 13) bN bF rCmd_6 rLet_6 rNum_6)) hx hb hml hown hg hK hP hD hS hA hl.1 (k_X1_isComplete l D cI cS cL Z (hh 10) (hh 11) (hh 12) (hh 13) bN bF rCmd rLet rNum ec6) gm_X1_isComplete gw_887 ⟨rfl, rfl, by decide, by decide⟩ ⟨Nat.zero_le _, Nat.zero_le _⟩ [10, 11, 12, 13] rfl rfl rfl rfl rfl rfl rfl rfl (Nat.le_of_ble_eq_true rfl) dX7_run_4 (fun H locs hP hD hS => ?_)
    have hP : va_P D vwCl (wX7 cI cS hh vCar vGoa vEag tN tF cN cF mP mS kCap kGap kCar kCop kGro kShr bN bF rCmd_6 rLet_6 rNum_6 fCap fGap fCar fCop fGro fShr hX hC hR) H := hP
    have hD : va_D A (wX7 cI cS hh vCar vGoa vEag tN tF cN cF mP mS kCap kGap kCar kCop kGro kShr bN bF rCmd_6 rLet_6 rNum_6 fCap fGap fCar fCop fGro fShr hX hC hR) := hD
    by_cases q7 : r6 = 0
    · replace h := it_some q7 h
      cases h
      exact cT_out (As := [.int r6]) (rest := []) hx hb hml hown hg hK hP hD hS hA hl.1 htab hZ hlocks (t_X7_requireArgument l hlt D cI cS cL r6 q7) gs_X7_requireArgument gw_501 ⟨rfl, rfl, by decide, by decide⟩ ⟨by decide, by decide⟩ rfl rfl (Nat.le_of_ble_eq_true rfl) dX7_run_7
    replace h := if_some q7 h
    refine cS_v (As := [.int r6]) (rest := []) (wc := []) (wc' := []) hx hb hml hown hg hK hP hD hS hA hl.1 (k_X7_requireArgument l D cI cS cL r6 q7) gs_X7_requireArgument gw_501 ⟨rfl, rfl, by decide, by decide⟩ ⟨Nat.zero_le _, Nat.zero_le _⟩ [] rfl rfl rfl rfl rfl (Nat.le_of_ble_eq_true rfl) dX7_run_7 (fun H locs hP hD hS => ?_)
    have hP : va_P D vwCl (wX7 cI cS hh vCar vGoa vEag tN tF cN cF mP mS kCap kGap kCar kCop kGro kShr bN bF rCmd_6 rLet_6 rNum_6 fCap fGap fCar fCop fGro fShr hX hC hR) H := hP
    have hD : va_D A (wX7 cI cS hh vCar vGoa vEag tN tF cN cF mP mS kCap kGap kCar kCop kGro kShr bN bF rCmd_6 rLet_6 rNum_6 fCap fGap fCar fCop fGro fShr hX hC hR) := hD
    exact map_inr h
  exact hmain _ _ hP hS
abbrev rm_X7_undo : Room := { frames := 5, cells := 0, slots := 0, locals := 107 }
abbrev rmt_X7_undo : Room := { frames := 7, cells := 1, slots := 6, locals := 107 }
def f_X7_undo_c18 (Z : Nat) (hR : Nat → StT) (vCar : Int32) (vGoa : Int32) (vEag : Int32) (tN : Int32) (tF : Nat → Int32) (cN : Int32) (cF : Nat → Int32) (mP : Nat → Int32) (mS : Nat → Int32) (kCap : Int32) (kGap : Int32) (kCar : Int32) (kCop : Int32) (kGro : Int32) (kShr : Int32) (hX : Int32) (hC : Int32) : Option (Int32 × Int32 × Int32 × Int32 × Int32 × (Nat → Int32) × Int32 × (Nat → Int32) × (Nat → Int32) × (Nat → Int32) × Int32 × Int32 × Int32 × Int32 × Int32 × Int32 × Int32 × Int32) :=
    (f_X2_restore Z hX hC hR vCar vGoa vEag tN tF cN cF mP mS kCap kGap kCar kCop kGro kShr).bind fun (hX_1, hC_1, vCar_1, vGoa_1, vEag_1, tN_1, tF_1, cN_1, cF_1, mP_1, mS_1, kCap_1, kGap_1, kCar_1, kCop_1, kGro_1, kShr_1) =>
    (f_X2_count Z hC_1).bind fun r2 =>
    some (r2, vCar_1, vGoa_1, vEag_1, tN_1, tF_1, cN_1, cF_1, mP_1, mS_1, kCap_1, kGap_1, kCar_1, kCop_1, kGro_1, kShr_1, hX_1, hC_1)
def f_X7_undo (Z : Nat) (vCar : Int32) (vGoa : Int32) (vEag : Int32) (tN : Int32) (tF : Nat → Int32) (cN : Int32) (cF : Nat → Int32) (mP : Nat → Int32) (mS : Nat → Int32) (kCap : Int32) (kGap : Int32) (kCar : Int32) (kCop : Int32) (kGro : Int32) (kShr : Int32) (hX : Int32) (hC : Int32) (hR : Nat → StT) : Option ((Int32 × Int32 × Int32 × Int32 × Int32 × (Nat → Int32) × Int32 × (Nat → Int32) × (Nat → Int32) × (Nat → Int32) × Int32 × Int32 × Int32 × Int32 × Int32 × Int32 × Int32 × Int32) ⊕ String) :=
  (f_X2_count Z hC).bind fun r3 =>
  if r3 ≤ 0 then
    if (0 : Int32) = 0 then
      some (.inr "java/lang/IllegalStateException")
    else
    (f_X7_undo_c18 Z hR vCar vGoa vEag tN tF cN cF mP mS kCap kGap kCar kCop kGro kShr hX hC).map Sum.inl
  else
    if (1 : Int32) = 0 then
      some (.inr "java/lang/IllegalStateException")
    else
    (f_X7_undo_c18 Z hR vCar vGoa vEag tN tF cN cF mP mS kCap kGap kCar kCop kGro kShr hX hC).map Sum.inl
set_option maxRecDepth 100000 in
set_option maxHeartbeats 4000000 in
theorem k_X7_undo (l : Launch) (D : va_G) (cI cS cL : ClassId) (Z : Nat) (hh : Nat → Nat) (vCar : Int32) (vGoa : Int32) (vEag : Int32) (tN : Int32) (tF : Nat → Int32) (cN : Int32) (cF : Nat → Int32) (mP : Nat → Int32) (mS : Nat → Int32) (kCap : Int32) (kGap : Int32) (kCar : Int32) (kCop : Int32) (kGro : Int32) (kShr : Int32) (bN : Int32) (bF : Nat → Int32) (rCmd : Int32) (rLet : Int32) (rNum : Int32) (fCap : Int32) (fGap : Int32) (fCar : Int32) (fCop : Int32) (fGro : Int32) (fShr : Int32) (hX : Int32) (hC : Int32) (hR : Nat → StT) {r : Int32} {vCar' : Int32} {vGoa' : Int32} {vEag' : Int32} {tN' : Int32} {tF' : Nat → Int32} {cN' : Int32} {cF' : Nat → Int32} {mP' : Nat → Int32} {mS' : Nat → Int32} {kCap' : Int32} {kGap' : Int32} {kCar' : Int32} {kCop' : Int32} {kGro' : Int32} {kShr' : Int32} {hX' : Int32} {hC' : Int32} (h : f_X7_undo Z vCar vGoa vEag tN tF cN cF mP mS kCap kGap kCar kCop kGro kShr hX hC hR = some (.inl (r, vCar', vGoa', vEag', tN', tF', cN', cF', mP', mS', kCap', kGap', kCar', kCop', kGro', kShr', hX', hC'))) : CI l yX7_undo cX7_undo 1 (some .int) rm_X7_undo D cI cS cL [.ref (hh 0)] (wX7 cI cS hh vCar vGoa vEag tN tF cN cF mP mS kCap kGap kCar kCop kGro kShr bN bF rCmd rLet rNum fCap fGap fCar fCop fGro fShr hX hC hR) (wX7 cI cS hh (vCar') (vGoa') (vEag') (tN') (tF') (cN') (cF') (mP') (mS') (kCap') (kGap') (kCar') (kCop') (kGro') (kShr') bN bF rCmd rLet rNum fCap fGap fCar fCop fGro fShr (hX') (hC') hR) r := by
  refine ent_i (by decide +kernel) (Nat.le_of_ble_eq_true rfl) ?_
  intro p e s m args below meth c A ls hx hb hr hml hlocks hg hown hK hP hD hS hA hl
  have hown : s.vm.findClass RX7 = some m.cls := hown
  have c_18 : ∀ (vCar : Int32) (vGoa : Int32) (vEag : Int32) (tN : Int32) (tF : Nat → Int32) (cN : Int32) (cF : Nat → Int32) (mP : Nat → Int32) (mS : Nat → Int32) (kCap : Int32) (kGap : Int32) (kCar : Int32) (kCop : Int32) (kGro : Int32) (kShr : Int32) (hX : Int32) (hC : Int32), f_X7_undo_c18 Z hR vCar vGoa vEag tN tF cN cF mP mS kCap kGap kCar kCop kGro kShr hX hC = some (r, vCar', vGoa', vEag', tN', tF', cN', cF', mP', mS', kCap', kGap', kCar', kCop', kGro', kShr', hX', hC') → ∀ (H : Heap) (locs : List Loc), va_P D vwCl (wX7 cI cS hh vCar vGoa vEag tN tF cN cF mP mS kCap kGap kCar kCop kGro kShr bN bF rCmd rLet rNum fCap fGap fCar fCop fGro fShr hX hC hR) H → va_D A (wX7 cI cS hh vCar vGoa vEag tN tF cN cF mP mS kCap kGap kCar kCop kGro kShr bN bF rCmd rLet rNum fCap fGap fCar fCop fGro fShr hX hC hR) → va_S A s.heap H locs → ∀ ls : Array Slot, lv_has ls 1 [(0, .ref (hh 0))] → W p l e rm_X7_undo s m args below meth c H locs 0 0 (FI D below args s (wX7 cI cS hh (vCar') (vGoa') (vEag') (tN') (tF') (cN') (cF') (mP') (mS') (kCap') (kGap') (kCar') (kCop') (kGro') (kShr') bN bF rCmd rLet rNum fCap fGap fCar fCop fGro fShr (hX') (hC') hR) r A) (F0 m 18 ls []) := by
    intro vCar vGoa vEag tN tF cN cF mP mS kCap kGap kCar kCop kGro kShr hX hC h H locs hP hD hS ls hl
    unfold f_X7_undo_c18 at h
    refine lv_aload_n hx hb dX7_undo_18 rfl (lv_at hl 0 rfl) ?_
    refine va_get (D := D) (ci := 7) (v := .ref (hh 15)) (C := RX7) (T := TX7) (N := 4) hx hb hg uX7 hown hK.1 hP 0 rfl rfl 1 (by decide) (hg _ gw_245) (fun _ h9 => h9) rfl dX7_undo_19 ?_
    refine lv_aload_n hx hb dX7_undo_22 rfl (lv_at hl 0 rfl) ?_
    refine va_get (D := D) (ci := 7) (v := .ref (hh 1)) (C := RX7) (T := TX7) (N := 4) hx hb hg uX7 hown hK.1 hP 0 rfl rfl 0 (by decide) (hg _ gw_244) (fun _ h9 => h9) rfl dX7_undo_23 ?_
    obtain ⟨⟨hX_1, hC_1, vCar_1, vGoa_1, vEag_1, tN_1, tF_1, cN_1, cF_1, mP_1, mS_1, kCap_1, kGap_1, kCar_1, kCop_1, kGro_1, kShr_1⟩, ec1, h⟩ := bd_some h
    refine cP_v (As := [.ref (hh 1)]) (rest := []) (wc := (wX2t cI cS (fun i => hh (15 + i)) hX hC hR (wX6 cI (hh 1) (hh 2) (hh 3) (hh 4) (hh 5) (hh 6) (hh 7) (hh 8) (hh 9) vCar vGoa vEag tN tF cN cF mP mS kCap kGap kCar kCop kGro kShr))) (wc' := (wX2t cI cS (fun i => hh (15 + i)) hX_1 hC_1 hR (wX6 cI (hh 1) (hh 2) (hh 3) (hh 4) (hh 5) (hh 6) (hh 7) (hh 8) (hh 9) vCar_1 vGoa_1 vEag_1 tN_1 tF_1 cN_1 cF_1 mP_1 mS_1 kCap_1 kGap_1 kCar_1 kCop_1 kGro_1 kShr_1))) (ws' := (wX7 cI cS hh vCar_1 vGoa_1 vEag_1 tN_1 tF_1 cN_1 cF_1 mP_1 mS_1 kCap_1 kGap_1 kCar_1 kCop_1 kGro_1 kShr_1 bN bF rCmd rLet rNum fCap fGap fCar fCop fGro fShr hX_1 hC_1 hR)) hx hb hml hown hg hK hP hD hS hA hl.1 (k_X2_restore l D cI cS cL Z (fun i => hh (15 + i)) (hh 1) (hh 2) (hh 3) (hh 4) (hh 5) (hh 6) (hh 7) (hh 8) (hh 9) hX hC hR vCar vGoa vEag tN tF cN cF mP mS kCap kGap kCar kCop kGro kShr ec1) gm_X2_restore gw_930 ⟨rfl, rfl, by decide, by decide⟩ ⟨Nat.zero_le _, Nat.zero_le _⟩ pm_7 pm_7 fst_X2t rfl rfl rfl rfl rfl (Nat.le_of_ble_eq_true rfl) dX7_undo_26 (fun H locs hP hD hS => ?_)
    refine lv_aload_n hx hb dX7_undo_29 rfl (lv_at hl 0 rfl) ?_
    refine va_get (D := D) (ci := 7) (v := .ref (hh 15)) (C := RX7) (T := TX7) (N := 4) hx hb hg uX7 hown hK.1 hP 0 rfl rfl 1 (by decide) (hg _ gw_245) (fun _ h9 => h9) rfl dX7_undo_30 ?_
    obtain ⟨r2, ec2, h⟩ := bd_some h
    refine cV_i (As := []) (rest := []) (wc := (wX2h cS (fun i => hh (15 + i)) hX_1 hC_1)) (wc' := (wX2h cS (fun i => hh (15 + i)) hX_1 hC_1)) hx hb hml hown hg hK hP hD hS hA hl.1 (k_X2_count l D cI cS cL Z (fun i => hh (15 + i)) hX_1 hC_1 ec2) gm_X2_count gw_466 ⟨rfl, rfl, by decide, by decide⟩ ⟨Nat.zero_le _, Nat.zero_le _⟩ [15, 16] rfl rfl rfl rfl rfl rfl rfl rfl (Nat.le_of_ble_eq_true rfl) dX7_undo_33 (fun H locs hP hD hS => ?_)
    have hP : va_P D vwCl (wX7 cI cS hh vCar_1 vGoa_1 vEag_1 tN_1 tF_1 cN_1 cF_1 mP_1 mS_1 kCap_1 kGap_1 kCar_1 kCop_1 kGro_1 kShr_1 bN bF rCmd rLet rNum fCap fGap fCar fCop fGro fShr hX_1 hC_1 hR) H := hP
    have hD : va_D A (wX7 cI cS hh vCar_1 vGoa_1 vEag_1 tN_1 tF_1 cN_1 cF_1 mP_1 mS_1 kCap_1 kGap_1 kCar_1 kCop_1 kGro_1 kShr_1 bN bF rCmd rLet rNum fCap fGap fCar fCop fGro fShr hX_1 hC_1 hR) := hD
    cases h
    exact ret_i hx hb hr hlocks hP hD hS dX7_undo_36 rfl
  have hl : lv_has ls 1 [(0, .ref (hh 0))] := hl
  have hP : va_P D vwCl (wX7 cI cS hh vCar vGoa vEag tN tF cN cF mP mS kCap kGap kCar kCop kGro kShr bN bF rCmd rLet rNum fCap fGap fCar fCop fGro fShr hX hC hR) s.heap := hP
  have hD : va_D A (wX7 cI cS hh vCar vGoa vEag tN tF cN cF mP mS kCap kGap kCar kCop kGro kShr bN bF rCmd rLet rNum fCap fGap fCar fCop fGro fShr hX hC hR) := hD
  show W p l e rm_X7_undo s m args below meth c s.heap [] 0 0 (FI D below args s (wX7 cI cS hh (vCar') (vGoa') (vEag') (tN') (tF') (cN') (cF') (mP') (mS') (kCap') (kGap') (kCar') (kCop') (kGro') (kShr') bN bF rCmd rLet rNum fCap fGap fCar fCop fGro fShr (hX') (hC') hR) r A) (F0 m 0 ls [])
  unfold f_X7_undo at h
  have hmain : ∀ (H : Heap) (locs : List Loc), va_P D vwCl (wX7 cI cS hh vCar vGoa vEag tN tF cN cF mP mS kCap kGap kCar kCop kGro kShr bN bF rCmd rLet rNum fCap fGap fCar fCop fGro fShr hX hC hR) H → va_S A s.heap H locs → W p l e rm_X7_undo s m args below meth c H locs 0 0 (FI D below args s (wX7 cI cS hh (vCar') (vGoa') (vEag') (tN') (tF') (cN') (cF') (mP') (mS') (kCap') (kGap') (kCar') (kCop') (kGro') (kShr') bN bF rCmd rLet rNum fCap fGap fCar fCop fGro fShr (hX') (hC') hR) r A) (F0 m 0 ls []) := by
    intro H locs hP hS
    refine lv_aload_n hx hb dX7_undo_0 rfl (lv_at hl 0 rfl) ?_
    refine va_get (D := D) (ci := 7) (v := .ref (hh 15)) (C := RX7) (T := TX7) (N := 4) hx hb hg uX7 hown hK.1 hP 0 rfl rfl 1 (by decide) (hg _ gw_245) (fun _ h9 => h9) rfl dX7_undo_1 ?_
    obtain ⟨r3, ec3, h⟩ := bd_some h
    refine cV_i (As := []) (rest := []) (wc := (wX2h cS (fun i => hh (15 + i)) hX hC)) (wc' := (wX2h cS (fun i => hh (15 + i)) hX hC)) hx hb hml hown hg hK hP hD hS hA hl.1 (k_X2_count l D cI cS cL Z (fun i => hh (15 + i)) hX hC ec3) gm_X2_count gw_466 ⟨rfl, rfl, by decide, by decide⟩ ⟨Nat.zero_le _, Nat.zero_le _⟩ [15, 16] rfl rfl rfl rfl rfl rfl rfl rfl (Nat.le_of_ble_eq_true rfl) dX7_undo_4 (fun H locs hP hD hS => ?_)
    have hP : va_P D vwCl (wX7 cI cS hh vCar vGoa vEag tN tF cN cF mP mS kCap kGap kCar kCop kGro kShr bN bF rCmd rLet rNum fCap fGap fCar fCop fGro fShr hX hC hR) H := hP
    have hD : va_D A (wX7 cI cS hh vCar vGoa vEag tN tF cN cF mP mS kCap kGap kCar kCop kGro kShr bN bF rCmd rLet rNum fCap fGap fCar fCop fGro fShr hX hC hR) := hD
    refine lv_if_le (tgt := 14) hx hb dX7_undo_7 (by decide) (fun q4 => ?_) (fun q4 => ?_)
    · replace h := it_some q4 h
      refine lv_iconst (v := 0) hx hb dX7_undo_14 (by decide) ?_
      by_cases q5 : (0 : Int32) = 0
      · cases it_some q5 h
      replace h := if_some q5 h
      refine cS_v (As := [.int (0 : Int32)]) (rest := []) (wc := []) (wc' := []) hx hb hml hown hg hK hP hD hS hA hl.1 (k_X7_requireState l D cI cS cL (0 : Int32) q5) gs_X7_requireState gw_571 ⟨rfl, rfl, by decide, by decide⟩ ⟨Nat.zero_le _, Nat.zero_le _⟩ [] rfl rfl rfl rfl rfl (Nat.le_of_ble_eq_true rfl) dX7_undo_15 (fun H locs hP hD hS => ?_)
      have hP : va_P D vwCl (wX7 cI cS hh vCar vGoa vEag tN tF cN cF mP mS kCap kGap kCar kCop kGro kShr bN bF rCmd rLet rNum fCap fGap fCar fCop fGro fShr hX hC hR) H := hP
      have hD : va_D A (wX7 cI cS hh vCar vGoa vEag tN tF cN cF mP mS kCap kGap kCar kCop kGro kShr bN bF rCmd rLet rNum fCap fGap fCar fCop fGro fShr hX hC hR) := hD
      replace h := map_inl h
      exact c_18 vCar vGoa vEag tN tF cN cF mP mS kCap kGap kCar kCop kGro kShr hX hC h H locs hP hD hS ls (lv_sub hl [0] rfl)
    · replace h := if_some q4 h
      refine lv_iconst (v := 1) hx hb dX7_undo_10 (by decide) ?_
      refine lv_goto (tgt := 15) hx hb dX7_undo_11 (by decide) ?_
      by_cases q6 : (1 : Int32) = 0
      · cases it_some q6 h
      replace h := if_some q6 h
      refine cS_v (As := [.int (1 : Int32)]) (rest := []) (wc := []) (wc' := []) hx hb hml hown hg hK hP hD hS hA hl.1 (k_X7_requireState l D cI cS cL (1 : Int32) q6) gs_X7_requireState gw_571 ⟨rfl, rfl, by decide, by decide⟩ ⟨Nat.zero_le _, Nat.zero_le _⟩ [] rfl rfl rfl rfl rfl (Nat.le_of_ble_eq_true rfl) dX7_undo_15 (fun H locs hP hD hS => ?_)
      have hP : va_P D vwCl (wX7 cI cS hh vCar vGoa vEag tN tF cN cF mP mS kCap kGap kCar kCop kGro kShr bN bF rCmd rLet rNum fCap fGap fCar fCop fGro fShr hX hC hR) H := hP
      have hD : va_D A (wX7 cI cS hh vCar vGoa vEag tN tF cN cF mP mS kCap kGap kCar kCop kGro kShr bN bF rCmd rLet rNum fCap fGap fCar fCop fGro fShr hX hC hR) := hD
      replace h := map_inl h
      exact c_18 vCar vGoa vEag tN tF cN cF mP mS kCap kGap kCar kCop kGro kShr hX hC h H locs hP hD hS ls (lv_sub hl [0] rfl)
  exact hmain _ _ hP hS
set_option maxRecDepth 100000 in
set_option maxHeartbeats 4000000 in
theorem t_X7_undo (l : Launch) (hlt : l.stackTraces = false) (D : va_G) (cI cS cL : ClassId) (Z : Nat) (hh : Nat → Nat) (vCar : Int32) (vGoa : Int32) (vEag : Int32) (tN : Int32) (tF : Nat → Int32) (cN : Int32) (cF : Nat → Int32) (mP : Nat → Int32) (mS : Nat → Int32) (kCap : Int32) (kGap : Int32) (kCar : Int32) (kCop : Int32) (kGro : Int32) (kShr : Int32) (bN : Int32) (bF : Nat → Int32) (rCmd : Int32) (rLet : Int32) (rNum : Int32) (fCap : Int32) (fGap : Int32) (fCar : Int32) (fCop : Int32) (fGro : Int32) (fShr : Int32) (hX : Int32) (hC : Int32) (hR : Nat → StT) {E0 : String}  (h : f_X7_undo Z vCar vGoa vEag tN tF cN cF mP mS kCap kGap kCar kCop kGro kShr hX hC hR = some (.inr E0)) : CTi l yX7_undo cX7_undo 1 (some .int) rmt_X7_undo D cI cS cL [.ref (hh 0)] (wX7 cI cS hh vCar vGoa vEag tN tF cN cF mP mS kCap kGap kCar kCop kGro kShr bN bF rCmd rLet rNum fCap fGap fCar fCop fGro fShr hX hC hR) E0 := by
  refine ent_ti (by decide +kernel) (Nat.le_of_ble_eq_true rfl) ?_
  intro p e s m args below meth c A ls hx hb hr hml hlocks hg hown hK hP hD hS hA hl htab hZ
  have hown : s.vm.findClass RX7 = some m.cls := hown
  have hl : lv_has ls 1 [(0, .ref (hh 0))] := hl
  have hP : va_P D vwCl (wX7 cI cS hh vCar vGoa vEag tN tF cN cF mP mS kCap kGap kCar kCop kGro kShr bN bF rCmd rLet rNum fCap fGap fCar fCop fGro fShr hX hC hR) s.heap := hP
  have hD : va_D A (wX7 cI cS hh vCar vGoa vEag tN tF cN cF mP mS kCap kGap kCar kCop kGro kShr bN bF rCmd rLet rNum fCap fGap fCar fCop fGro fShr hX hC hR) := hD
  show W p l e rmt_X7_undo s m args below meth c s.heap [] 0 0 (FT D below (va_Qi (fun _ (_ : Unit) => False) (fun _ _ => False) A) args s (wX7 cI cS hh vCar vGoa vEag tN tF cN cF mP mS kCap kGap kCar kCop kGro kShr bN bF rCmd rLet rNum fCap fGap fCar fCop fGro fShr hX hC hR) E0 A) (F0 m 0 ls [])
  unfold f_X7_undo at h
  have hmain : ∀ (H : Heap) (locs : List Loc), va_P D vwCl (wX7 cI cS hh vCar vGoa vEag tN tF cN cF mP mS kCap kGap kCar kCop kGro kShr bN bF rCmd rLet rNum fCap fGap fCar fCop fGro fShr hX hC hR) H → va_S A s.heap H locs → W p l e rmt_X7_undo s m args below meth c H locs 0 0 (FT D below (va_Qi (fun _ (_ : Unit) => False) (fun _ _ => False) A) args s (wX7 cI cS hh vCar vGoa vEag tN tF cN cF mP mS kCap kGap kCar kCop kGro kShr bN bF rCmd rLet rNum fCap fGap fCar fCop fGro fShr hX hC hR) E0 A) (F0 m 0 ls []) := by
    intro H locs hP hS
    refine lv_aload_n hx hb dX7_undo_0 rfl (lv_at hl 0 rfl) ?_
    refine va_get (D := D) (ci := 7) (v := .ref (hh 15)) (C := RX7) (T := TX7) (N := 4) hx hb hg uX7 hown hK.1 hP 0 rfl rfl 1 (by decide) (hg _ gw_245) (fun _ h9 => h9) rfl dX7_undo_1 ?_
    obtain ⟨r7, ec7, h⟩ := bd_some h
    refine cV_i (As := []) (rest := []) (wc := (wX2h cS (fun i => hh (15 + i)) hX hC)) (wc' := (wX2h cS (fun i => hh (15 + i)) hX hC)) hx hb hml hown hg hK hP hD hS hA hl.1 (k_X2_count l D cI cS cL Z (fun i => hh (15 + i)) hX hC ec7) gm_X2_count gw_466 ⟨rfl, rfl, by decide, by decide⟩ ⟨Nat.zero_le _, Nat.zero_le _⟩ [15, 16] rfl rfl rfl rfl rfl rfl rfl rfl (Nat.le_of_ble_eq_true rfl) dX7_undo_4 (fun H locs hP hD hS => ?_)
    have hP : va_P D vwCl (wX7 cI cS hh vCar vGoa vEag tN tF cN cF mP mS kCap kGap kCar kCop kGro kShr bN bF rCmd rLet rNum fCap fGap fCar fCop fGro fShr hX hC hR) H := hP
    have hD : va_D A (wX7 cI cS hh vCar vGoa vEag tN tF cN cF mP mS kCap kGap kCar kCop kGro kShr bN bF rCmd rLet rNum fCap fGap fCar fCop fGro fShr hX hC hR) := hD
    refine lv_if_le (tgt := 14) hx hb dX7_undo_7 (by decide) (fun q8 => ?_) (fun q8 => ?_)
    · replace h := it_some q8 h
      refine lv_iconst (v := 0) hx hb dX7_undo_14 (by decide) ?_
      by_cases q9 : (0 : Int32) = 0
      · replace h := it_some q9 h
        cases h
        exact cT_out (As := [.int (0 : Int32)]) (rest := []) hx hb hml hown hg hK hP hD hS hA hl.1 htab hZ hlocks (t_X7_requireState l hlt D cI cS cL (0 : Int32) q9) gs_X7_requireState gw_571 ⟨rfl, rfl, by decide, by decide⟩ ⟨by decide, by decide⟩ rfl rfl (Nat.le_of_ble_eq_true rfl) dX7_undo_15
      replace h := if_some q9 h
      refine cS_v (As := [.int (0 : Int32)]) (rest := []) (wc := []) (wc' := []) hx hb hml hown hg hK hP hD hS hA hl.1 (k_X7_requireState l D cI cS cL (0 : Int32) q9) gs_X7_requireState gw_571 ⟨rfl, rfl, by decide, by decide⟩ ⟨Nat.zero_le _, Nat.zero_le _⟩ [] rfl rfl rfl rfl rfl (Nat.le_of_ble_eq_true rfl) dX7_undo_15 (fun H locs hP hD hS => ?_)
      have hP : va_P D vwCl (wX7 cI cS hh vCar vGoa vEag tN tF cN cF mP mS kCap kGap kCar kCop kGro kShr bN bF rCmd rLet rNum fCap fGap fCar fCop fGro fShr hX hC hR) H := hP
      have hD : va_D A (wX7 cI cS hh vCar vGoa vEag tN tF cN cF mP mS kCap kGap kCar kCop kGro kShr bN bF rCmd rLet rNum fCap fGap fCar fCop fGro fShr hX hC hR) := hD
      exact map_inr h
    · replace h := if_some q8 h
      refine lv_iconst (v := 1) hx hb dX7_undo_10 (by decide) ?_
      refine lv_goto (tgt := 15) hx hb dX7_undo_11 (by decide) ?_
      by_cases q10 : (1 : Int32) = 0
      · replace h := it_some q10 h
        cases h
        exact cT_out (As := [.int (1 : Int32)]) (rest := []) hx hb hml hown hg hK hP hD hS hA hl.1 htab hZ hlocks (t_X7_requireState l hlt D cI cS cL (1 : Int32) q10) gs_X7_requireState gw_571 ⟨rfl, rfl, by decide, by decide⟩ ⟨by decide, by decide⟩ rfl rfl (Nat.le_of_ble_eq_true rfl) dX7_undo_15
      replace h := if_some q10 h
      refine cS_v (As := [.int (1 : Int32)]) (rest := []) (wc := []) (wc' := []) hx hb hml hown hg hK hP hD hS hA hl.1 (k_X7_requireState l D cI cS cL (1 : Int32) q10) gs_X7_requireState gw_571 ⟨rfl, rfl, by decide, by decide⟩ ⟨Nat.zero_le _, Nat.zero_le _⟩ [] rfl rfl rfl rfl rfl (Nat.le_of_ble_eq_true rfl) dX7_undo_15 (fun H locs hP hD hS => ?_)
      have hP : va_P D vwCl (wX7 cI cS hh vCar vGoa vEag tN tF cN cF mP mS kCap kGap kCar kCop kGro kShr bN bF rCmd rLet rNum fCap fGap fCar fCop fGro fShr hX hC hR) H := hP
      have hD : va_D A (wX7 cI cS hh vCar vGoa vEag tN tF cN cF mP mS kCap kGap kCar kCop kGro kShr bN bF rCmd rLet rNum fCap fGap fCar fCop fGro fShr hX hC hR) := hD
      exact map_inr h
  exact hmain _ _ hP hS
abbrev rm_X7_savedStates : Room := { frames := 1, cells := 0, slots := 0, locals := 20 }
def f_X7_savedStates (Z : Nat) (hC : Int32) : Option (Int32) :=
  (f_X2_count Z hC).bind fun r1 =>
  some r1
set_option maxRecDepth 100000 in
set_option maxHeartbeats 4000000 in
theorem k_X7_savedStates (l : Launch) (D : va_G) (cI cS cL : ClassId) (Z : Nat) (hh : Nat → Nat) (vCar : Int32) (vGoa : Int32) (vEag : Int32) (tN : Int32) (tF : Nat → Int32) (cN : Int32) (cF : Nat → Int32) (mP : Nat → Int32) (mS : Nat → Int32) (kCap : Int32) (kGap : Int32) (kCar : Int32) (kCop : Int32) (kGro : Int32) (kShr : Int32) (bN : Int32) (bF : Nat → Int32) (rCmd : Int32) (rLet : Int32) (rNum : Int32) (fCap : Int32) (fGap : Int32) (fCar : Int32) (fCop : Int32) (fGro : Int32) (fShr : Int32) (hX : Int32) (hC : Int32) (hR : Nat → StT) {r : Int32} (h : f_X7_savedStates Z hC = some r) : CI l yX7_savedStates cX7_savedStates 1 (some .int) rm_X7_savedStates D cI cS cL [.ref (hh 0)] (wX7 cI cS hh vCar vGoa vEag tN tF cN cF mP mS kCap kGap kCar kCop kGro kShr bN bF rCmd rLet rNum fCap fGap fCar fCop fGro fShr hX hC hR) (wX7 cI cS hh vCar vGoa vEag tN tF cN cF mP mS kCap kGap kCar kCop kGro kShr bN bF rCmd rLet rNum fCap fGap fCar fCop fGro fShr hX hC hR) r := by
  refine ent_i (by decide +kernel) (Nat.le_of_ble_eq_true rfl) ?_
  intro p e s m args below meth c A ls hx hb hr hml hlocks hg hown hK hP hD hS hA hl
  have hown : s.vm.findClass RX7 = some m.cls := hown
  have hl : lv_has ls 1 [(0, .ref (hh 0))] := hl
  have hP : va_P D vwCl (wX7 cI cS hh vCar vGoa vEag tN tF cN cF mP mS kCap kGap kCar kCop kGro kShr bN bF rCmd rLet rNum fCap fGap fCar fCop fGro fShr hX hC hR) s.heap := hP
  have hD : va_D A (wX7 cI cS hh vCar vGoa vEag tN tF cN cF mP mS kCap kGap kCar kCop kGro kShr bN bF rCmd rLet rNum fCap fGap fCar fCop fGro fShr hX hC hR) := hD
  show W p l e rm_X7_savedStates s m args below meth c s.heap [] 0 0 (FI D below args s (wX7 cI cS hh vCar vGoa vEag tN tF cN cF mP mS kCap kGap kCar kCop kGro kShr bN bF rCmd rLet rNum fCap fGap fCar fCop fGro fShr hX hC hR) r A) (F0 m 0 ls [])
  unfold f_X7_savedStates at h
  have hmain : ∀ (H : Heap) (locs : List Loc), va_P D vwCl (wX7 cI cS hh vCar vGoa vEag tN tF cN cF mP mS kCap kGap kCar kCop kGro kShr bN bF rCmd rLet rNum fCap fGap fCar fCop fGro fShr hX hC hR) H → va_S A s.heap H locs → W p l e rm_X7_savedStates s m args below meth c H locs 0 0 (FI D below args s (wX7 cI cS hh vCar vGoa vEag tN tF cN cF mP mS kCap kGap kCar kCop kGro kShr bN bF rCmd rLet rNum fCap fGap fCar fCop fGro fShr hX hC hR) r A) (F0 m 0 ls []) := by
    intro H locs hP hS
    refine lv_aload_n hx hb dX7_savedStates_0 rfl (lv_at hl 0 rfl) ?_
    refine va_get (D := D) (ci := 7) (v := .ref (hh 15)) (C := RX7) (T := TX7) (N := 4) hx hb hg uX7 hown hK.1 hP 0 rfl rfl 1 (by decide) (hg _ gw_245) (fun _ h9 => h9) rfl dX7_savedStates_1 ?_
    obtain ⟨r1, ec1, h⟩ := bd_some h
    refine cV_i (As := []) (rest := []) (wc := (wX2h cS (fun i => hh (15 + i)) hX hC)) (wc' := (wX2h cS (fun i => hh (15 + i)) hX hC)) hx hb hml hown hg hK hP hD hS hA hl.1 (k_X2_count l D cI cS cL Z (fun i => hh (15 + i)) hX hC ec1) gm_X2_count gw_466 ⟨rfl, rfl, by decide, by decide⟩ ⟨Nat.zero_le _, Nat.zero_le _⟩ [15, 16] rfl rfl rfl rfl rfl rfl rfl rfl (Nat.le_of_ble_eq_true rfl) dX7_savedStates_4 (fun H locs hP hD hS => ?_)
    have hP : va_P D vwCl (wX7 cI cS hh vCar vGoa vEag tN tF cN cF mP mS kCap kGap kCar kCop kGro kShr bN bF rCmd rLet rNum fCap fGap fCar fCop fGro fShr hX hC hR) H := hP
    have hD : va_D A (wX7 cI cS hh vCar vGoa vEag tN tF cN cF mP mS kCap kGap kCar kCop kGro kShr bN bF rCmd rLet rNum fCap fGap fCar fCop fGro fShr hX hC hR) := hD
    cases h
    exact ret_i hx hb hr hlocks hP hD hS dX7_savedStates_7 rfl
  exact hmain _ _ hP hS
abbrev rm_X7_digest : Room := { frames := 4, cells := 0, slots := 0, locals := 87 }
def f_X7_digest (Z : Nat) (vCar : Int32) (vEag : Int32) (tN : Int32) (tF : Nat → Int32) (cN : Int32) (cF : Nat → Int32) (mP : Nat → Int32) (kCap : Int32) (kGap : Int32) (kCar : Int32) (kCop : Int32) (kGro : Int32) (kShr : Int32) : Option (Int64) :=
  (f_X6_hash Z vCar vEag tN tF cN cF mP kCap kGap kCar kCop kGro kShr).bind fun r1 =>
  some r1
set_option maxRecDepth 100000 in
set_option maxHeartbeats 4000000 in
theorem k_X7_digest (l : Launch) (D : va_G) (cI cS cL : ClassId) (Z : Nat) (hh : Nat → Nat) (vCar : Int32) (vGoa : Int32) (vEag : Int32) (tN : Int32) (tF : Nat → Int32) (cN : Int32) (cF : Nat → Int32) (mP : Nat → Int32) (mS : Nat → Int32) (kCap : Int32) (kGap : Int32) (kCar : Int32) (kCop : Int32) (kGro : Int32) (kShr : Int32) (bN : Int32) (bF : Nat → Int32) (rCmd : Int32) (rLet : Int32) (rNum : Int32) (fCap : Int32) (fGap : Int32) (fCar : Int32) (fCop : Int32) (fGro : Int32) (fShr : Int32) (hX : Int32) (hC : Int32) (hR : Nat → StT) {r : Int64} (h : f_X7_digest Z vCar vEag tN tF cN cF mP kCap kGap kCar kCop kGro kShr = some r) : CJ l yX7_digest cX7_digest 1 (some .long) rm_X7_digest D cI cS cL [.ref (hh 0)] (wX7 cI cS hh vCar vGoa vEag tN tF cN cF mP mS kCap kGap kCar kCop kGro kShr bN bF rCmd rLet rNum fCap fGap fCar fCop fGro fShr hX hC hR) (wX7 cI cS hh vCar vGoa vEag tN tF cN cF mP mS kCap kGap kCar kCop kGro kShr bN bF rCmd rLet rNum fCap fGap fCar fCop fGro fShr hX hC hR) r := by
  refine ent_j (by decide +kernel) (Nat.le_of_ble_eq_true rfl) ?_
  intro p e s m args below meth c A ls hx hb hr hml hlocks hg hown hK hP hD hS hA hl
  have hown : s.vm.findClass RX7 = some m.cls := hown
  have hl : lv_has ls 1 [(0, .ref (hh 0))] := hl
  have hP : va_P D vwCl (wX7 cI cS hh vCar vGoa vEag tN tF cN cF mP mS kCap kGap kCar kCop kGro kShr bN bF rCmd rLet rNum fCap fGap fCar fCop fGro fShr hX hC hR) s.heap := hP
  have hD : va_D A (wX7 cI cS hh vCar vGoa vEag tN tF cN cF mP mS kCap kGap kCar kCop kGro kShr bN bF rCmd rLet rNum fCap fGap fCar fCop fGro fShr hX hC hR) := hD
  show W p l e rm_X7_digest s m args below meth c s.heap [] 0 0 (FJ D below args s (wX7 cI cS hh vCar vGoa vEag tN tF cN cF mP mS kCap kGap kCar kCop kGro kShr bN bF rCmd rLet rNum fCap fGap fCar fCop fGro fShr hX hC hR) r A) (F0 m 0 ls [])
  unfold f_X7_digest at h
  have hmain : ∀ (H : Heap) (locs : List Loc), va_P D vwCl (wX7 cI cS hh vCar vGoa vEag tN tF cN cF mP mS kCap kGap kCar kCop kGro kShr bN bF rCmd rLet rNum fCap fGap fCar fCop fGro fShr hX hC hR) H → va_S A s.heap H locs → W p l e rm_X7_digest s m args below meth c H locs 0 0 (FJ D below args s (wX7 cI cS hh vCar vGoa vEag tN tF cN cF mP mS kCap kGap kCar kCop kGro kShr bN bF rCmd rLet rNum fCap fGap fCar fCop fGro fShr hX hC hR) r A) (F0 m 0 ls []) := by
    intro H locs hP hS
    refine lv_aload_n hx hb dX7_digest_0 rfl (lv_at hl 0 rfl) ?_
    refine va_get (D := D) (ci := 7) (v := .ref (hh 1)) (C := RX7) (T := TX7) (N := 4) hx hb hg uX7 hown hK.1 hP 0 rfl rfl 0 (by decide) (hg _ gw_244) (fun _ h9 => h9) rfl dX7_digest_1 ?_
    obtain ⟨r1, ec1, h⟩ := bd_some h
    refine cV_l (As := []) (rest := []) (wc := (wX6 cI (hh 1) (hh 2) (hh 3) (hh 4) (hh 5) (hh 6) (hh 7) (hh 8) (hh 9) vCar vGoa vEag tN tF cN cF mP mS kCap kGap kCar kCop kGro kShr)) (wc' := (wX6 cI (hh 1) (hh 2) (hh 3) (hh 4) (hh 5) (hh 6) (hh 7) (hh 8) (hh 9) vCar vGoa vEag tN tF cN cF mP mS kCap kGap kCar kCop kGro kShr)) hx hb hml hown hg hK hP hD hS hA hl.1 (k_X6_hash l D cI cS cL Z (hh 1) (hh 2) (hh 3) (hh 4) (hh 5) (hh 6) (hh 7) (hh 8) (hh 9) vCar vGoa vEag tN tF cN cF mP mS kCap kGap kCar kCop kGro kShr ec1) gm_X6_hash gw_474 ⟨rfl, rfl, by decide, by decide⟩ ⟨Nat.zero_le _, Nat.zero_le _⟩ [1, 2, 3, 4, 5, 6, 7, 8, 9] rfl rfl rfl rfl rfl rfl rfl rfl (Nat.le_of_ble_eq_true rfl) dX7_digest_4 (fun H locs hP hD hS => ?_)
    have hP : va_P D vwCl (wX7 cI cS hh vCar vGoa vEag tN tF cN cF mP mS kCap kGap kCar kCop kGro kShr bN bF rCmd rLet rNum fCap fGap fCar fCop fGro fShr hX hC hR) H := hP
    have hD : va_D A (wX7 cI cS hh vCar vGoa vEag tN tF cN cF mP mS kCap kGap kCar kCop kGro kShr bN bF rCmd rLet rNum fCap fGap fCar fCop fGro fShr hX hC hR) := hD
    cases h
    exact ret_j hx hb hr hlocks hP hD hS dX7_digest_7 rfl
  exact hmain _ _ hP hS
