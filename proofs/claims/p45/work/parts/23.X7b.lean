abbrev rm_X7_clip : Room := { frames := 1, cells := 0, slots := 0, locals := 21 }
def f_X7_clip_c12 (Z : Nat) (p1 : Int32) (cN : Int32) (cF : Nat → Int32)  : Option (Int32) :=
    (f_X0_at Z p1 60 cN cF).bind fun r1 =>
    some r1
def f_X7_clip (Z : Nat) (p1 : Int32) (cN : Int32) (cF : Nat → Int32) : Option ((Int32) ⊕ String) :=
  if p1 < 0 then
    if (0 : Int32) = 0 then
      some (.inr "java/lang/IndexOutOfBoundsException")
    else
    (f_X7_clip_c12 Z p1 cN cF).map Sum.inl
  else
    if (1 : Int32) = 0 then
      some (.inr "java/lang/IndexOutOfBoundsException")
    else
    (f_X7_clip_c12 Z p1 cN cF).map Sum.inl
set_option maxRecDepth 100000 in
set_option maxHeartbeats 4000000 in
theorem k_X7_clip (l : Launch) (D : va_G) (cI cS cL : ClassId) (Z : Nat) (hh : Nat → Nat) (p1 : Int32) (vCar : Int32) (vGoa : Int32) (vEag : Int32) (tN : Int32) (tF : Nat → Int32) (cN : Int32) (cF : Nat → Int32) (mP : Nat → Int32) (mS : Nat → Int32) (kCap : Int32) (kGap : Int32) (kCar : Int32) (kCop : Int32) (kGro : Int32) (kShr : Int32) (bN : Int32) (bF : Nat → Int32) (rCmd : Int32) (rLet : Int32) (rNum : Int32) (fCap : Int32) (fGap : Int32) (fCar : Int32) (fCop : Int32) (fGro : Int32) (fShr : Int32) (hX : Int32) (hC : Int32) (hR : Nat → StT) {r : Int32} (h : f_X7_clip Z p1 cN cF = some (.inl r)) : CI l yX7_clip cX7_clip 2 (some .int) rm_X7_clip D cI cS cL [.ref (hh 0), .int p1] (wX7 cI cS hh vCar vGoa vEag tN tF cN cF mP mS kCap kGap kCar kCop kGro kShr bN bF rCmd rLet rNum fCap fGap fCar fCop fGro fShr hX hC hR) (wX7 cI cS hh vCar vGoa vEag tN tF cN cF mP mS kCap kGap kCar kCop kGro kShr bN bF rCmd rLet rNum fCap fGap fCar fCop fGro fShr hX hC hR) r := by
  refine ent_i (by decide +kernel) (Nat.le_of_ble_eq_true rfl) ?_
  intro p e s m args below meth c A ls hx hb hr hml hlocks hg hown hK hP hD hS hA hl
  have hown : s.vm.findClass RX7 = some m.cls := hown
  have c_12 : f_X7_clip_c12 Z p1 cN cF = some r → ∀ (H : Heap) (locs : List Loc), va_P D vwCl (wX7 cI cS hh vCar vGoa vEag tN tF cN cF mP mS kCap kGap kCar kCop kGro kShr bN bF rCmd rLet rNum fCap fGap fCar fCop fGro fShr hX hC hR) H → va_D A (wX7 cI cS hh vCar vGoa vEag tN tF cN cF mP mS kCap kGap kCar kCop kGro kShr bN bF rCmd rLet rNum fCap fGap fCar fCop fGro fShr hX hC hR) → va_S A s.heap H locs → ∀ ls : Array Slot, lv_has ls 2 [(0, .ref (hh 0)), (1, .int p1)] → W p l e rm_X7_clip s m args below meth c H locs 0 0 (FI D below args s (wX7 cI cS hh vCar vGoa vEag tN tF cN cF mP mS kCap kGap kCar kCop kGro kShr bN bF rCmd rLet rNum fCap fGap fCar fCop fGro fShr hX hC hR) r A) (F0 m 12 ls []) := by
    intro h H locs hP hD hS ls hl
    unfold f_X7_clip_c12 at h
    refine lv_aload_n hx hb dX7_clip_12 rfl (lv_at hl 0 rfl) ?_
    refine va_get (D := D) (ci := 7) (v := .ref (hh 1)) (C := RX7) (T := TX7) (N := 4) hx hb hg uX7 hown hK.1 hP 0 rfl rfl 0 (by decide) (hg _ gw_184) (fun _ h9 => h9) rfl dX7_clip_13 ?_
    refine va_getN (D := D) (ci := 6) (v := .ref (hh 4)) (C := RX6) (T := TX6) (N := 7) hx hb hg uX6 hown hK.1 hP 1 rfl rfl 1 (by decide) (kk_nest hK nw_107) (fun _ h9 => h9) rfl dX7_clip_16 ?_
    refine lv_iload_n hx hb dX7_clip_19 rfl (lv_at hl 1 rfl) ?_
    obtain ⟨r1, ec1, h⟩ := bd_some h
    refine cV_i (As := [.int p1]) (rest := []) (wc := (wX0 cI (hh 4) (hh 5) 60 cN cF)) (wc' := (wX0 cI (hh 4) (hh 5) 60 cN cF)) hx hb hml hown hg hK hP hD hS hA hl.1 (k_X0_at l D cI cS cL Z (hh 4) (hh 5) p1 60 cN cF ec1) gm_X0_at gw_592 ⟨rfl, rfl, by decide, by decide⟩ ⟨Nat.zero_le _, Nat.zero_le _⟩ [4, 5] rfl rfl rfl rfl rfl rfl rfl rfl (Nat.le_of_ble_eq_true rfl) dX7_clip_20 (fun H locs hP hD hS => ?_)
    have hP : va_P D vwCl (wX7 cI cS hh vCar vGoa vEag tN tF cN cF mP mS kCap kGap kCar kCop kGro kShr bN bF rCmd rLet rNum fCap fGap fCar fCop fGro fShr hX hC hR) H := hP
    have hD : va_D A (wX7 cI cS hh vCar vGoa vEag tN tF cN cF mP mS kCap kGap kCar kCop kGro kShr bN bF rCmd rLet rNum fCap fGap fCar fCop fGro fShr hX hC hR) := hD
    cases h
    exact ret_i hx hb hr hlocks hP hD hS dX7_clip_23 rfl
  have hl : lv_has ls 2 [(0, .ref (hh 0)), (1, .int p1)] := hl
  have hP : va_P D vwCl (wX7 cI cS hh vCar vGoa vEag tN tF cN cF mP mS kCap kGap kCar kCop kGro kShr bN bF rCmd rLet rNum fCap fGap fCar fCop fGro fShr hX hC hR) s.heap := hP
  have hD : va_D A (wX7 cI cS hh vCar vGoa vEag tN tF cN cF mP mS kCap kGap kCar kCop kGro kShr bN bF rCmd rLet rNum fCap fGap fCar fCop fGro fShr hX hC hR) := hD
  show W p l e rm_X7_clip s m args below meth c s.heap [] 0 0 (FI D below args s (wX7 cI cS hh vCar vGoa vEag tN tF cN cF mP mS kCap kGap kCar kCop kGro kShr bN bF rCmd rLet rNum fCap fGap fCar fCop fGro fShr hX hC hR) r A) (F0 m 0 ls [])
  unfold f_X7_clip at h
  have hmain : ∀ (H : Heap) (locs : List Loc), va_P D vwCl (wX7 cI cS hh vCar vGoa vEag tN tF cN cF mP mS kCap kGap kCar kCop kGro kShr bN bF rCmd rLet rNum fCap fGap fCar fCop fGro fShr hX hC hR) H → va_S A s.heap H locs → W p l e rm_X7_clip s m args below meth c H locs 0 0 (FI D below args s (wX7 cI cS hh vCar vGoa vEag tN tF cN cF mP mS kCap kGap kCar kCop kGro kShr bN bF rCmd rLet rNum fCap fGap fCar fCop fGro fShr hX hC hR) r A) (F0 m 0 ls []) := by
    intro H locs hP hS
    refine lv_iload_n hx hb dX7_clip_0 rfl (lv_at hl 1 rfl) ?_
    refine lv_if_lt (tgt := 8) hx hb dX7_clip_1 (by decide) (fun q2 => ?_) (fun q2 => ?_)
    · replace h := it_some q2 h
      refine lv_iconst (v := 0) hx hb dX7_clip_8 (by decide) ?_
      by_cases q3 : (0 : Int32) = 0
      · cases it_some q3 h
      replace h := if_some q3 h
      refine cS_v (As := [.int (0 : Int32)]) (rest := []) (wc := []) (wc' := []) hx hb hml hown hg hK hP hD hS hA hl.1 (k_X7_requireIndex l D cI cS cL (0 : Int32) q3) gs_X7_requireIndex gw_367 ⟨rfl, rfl, by decide, by decide⟩ ⟨Nat.zero_le _, Nat.zero_le _⟩ [] rfl rfl rfl rfl rfl (Nat.le_of_ble_eq_true rfl) dX7_clip_9 (fun H locs hP hD hS => ?_)
      have hP : va_P D vwCl (wX7 cI cS hh vCar vGoa vEag tN tF cN cF mP mS kCap kGap kCar kCop kGro kShr bN bF rCmd rLet rNum fCap fGap fCar fCop fGro fShr hX hC hR) H := hP
      have hD : va_D A (wX7 cI cS hh vCar vGoa vEag tN tF cN cF mP mS kCap kGap kCar kCop kGro kShr bN bF rCmd rLet rNum fCap fGap fCar fCop fGro fShr hX hC hR) := hD
      replace h := map_inl h
      exact c_12 h H locs hP hD hS ls (lv_sub hl [0, 1] rfl)
    · replace h := if_some q2 h
      refine lv_iconst (v := 1) hx hb dX7_clip_4 (by decide) ?_
      refine lv_goto (tgt := 9) hx hb dX7_clip_5 (by decide) ?_
      by_cases q4 : (1 : Int32) = 0
      · cases it_some q4 h
      replace h := if_some q4 h
      refine cS_v (As := [.int (1 : Int32)]) (rest := []) (wc := []) (wc' := []) hx hb hml hown hg hK hP hD hS hA hl.1 (k_X7_requireIndex l D cI cS cL (1 : Int32) q4) gs_X7_requireIndex gw_367 ⟨rfl, rfl, by decide, by decide⟩ ⟨Nat.zero_le _, Nat.zero_le _⟩ [] rfl rfl rfl rfl rfl (Nat.le_of_ble_eq_true rfl) dX7_clip_9 (fun H locs hP hD hS => ?_)
      have hP : va_P D vwCl (wX7 cI cS hh vCar vGoa vEag tN tF cN cF mP mS kCap kGap kCar kCop kGro kShr bN bF rCmd rLet rNum fCap fGap fCar fCop fGro fShr hX hC hR) H := hP
      have hD : va_D A (wX7 cI cS hh vCar vGoa vEag tN tF cN cF mP mS kCap kGap kCar kCop kGro kShr bN bF rCmd rLet rNum fCap fGap fCar fCop fGro fShr hX hC hR) := hD
      replace h := map_inl h
      exact c_12 h H locs hP hD hS ls (lv_sub hl [0, 1] rfl)
  exact hmain _ _ hP hS
abbrev rm_X7_length : Room := { frames := 1, cells := 0, slots := 0, locals := 20 }
def f_X7_length (Z : Nat) (tN : Int32) : Option (Int32) :=
  (f_X0_size Z 256 tN).bind fun r1 =>
  some r1
set_option maxRecDepth 100000 in
set_option maxHeartbeats 4000000 in
theorem k_X7_length (l : Launch) (D : va_G) (cI cS cL : ClassId) (Z : Nat) (hh : Nat → Nat) (vCar : Int32) (vGoa : Int32) (vEag : Int32) (tN : Int32) (tF : Nat → Int32) (cN : Int32) (cF : Nat → Int32) (mP : Nat → Int32) (mS : Nat → Int32) (kCap : Int32) (kGap : Int32) (kCar : Int32) (kCop : Int32) (kGro : Int32) (kShr : Int32) (bN : Int32) (bF : Nat → Int32) (rCmd : Int32) (rLet : Int32) (rNum : Int32) (fCap : Int32) (fGap : Int32) (fCar : Int32) (fCop : Int32) (fGro : Int32) (fShr : Int32) (hX : Int32) (hC : Int32) (hR : Nat → StT) {r : Int32} (h : f_X7_length Z tN = some r) : CI l yX7_length cX7_length 1 (some .int) rm_X7_length D cI cS cL [.ref (hh 0)] (wX7 cI cS hh vCar vGoa vEag tN tF cN cF mP mS kCap kGap kCar kCop kGro kShr bN bF rCmd rLet rNum fCap fGap fCar fCop fGro fShr hX hC hR) (wX7 cI cS hh vCar vGoa vEag tN tF cN cF mP mS kCap kGap kCar kCop kGro kShr bN bF rCmd rLet rNum fCap fGap fCar fCop fGro fShr hX hC hR) r := by
  refine ent_i (by decide +kernel) (Nat.le_of_ble_eq_true rfl) ?_
  intro p e s m args below meth c A ls hx hb hr hml hlocks hg hown hK hP hD hS hA hl
  have hown : s.vm.findClass RX7 = some m.cls := hown
  have hl : lv_has ls 1 [(0, .ref (hh 0))] := hl
  have hP : va_P D vwCl (wX7 cI cS hh vCar vGoa vEag tN tF cN cF mP mS kCap kGap kCar kCop kGro kShr bN bF rCmd rLet rNum fCap fGap fCar fCop fGro fShr hX hC hR) s.heap := hP
  have hD : va_D A (wX7 cI cS hh vCar vGoa vEag tN tF cN cF mP mS kCap kGap kCar kCop kGro kShr bN bF rCmd rLet rNum fCap fGap fCar fCop fGro fShr hX hC hR) := hD
  show W p l e rm_X7_length s m args below meth c s.heap [] 0 0 (FI D below args s (wX7 cI cS hh vCar vGoa vEag tN tF cN cF mP mS kCap kGap kCar kCop kGro kShr bN bF rCmd rLet rNum fCap fGap fCar fCop fGro fShr hX hC hR) r A) (F0 m 0 ls [])
  unfold f_X7_length at h
  have hmain : ∀ (H : Heap) (locs : List Loc), va_P D vwCl (wX7 cI cS hh vCar vGoa vEag tN tF cN cF mP mS kCap kGap kCar kCop kGro kShr bN bF rCmd rLet rNum fCap fGap fCar fCop fGro fShr hX hC hR) H → va_S A s.heap H locs → W p l e rm_X7_length s m args below meth c H locs 0 0 (FI D below args s (wX7 cI cS hh vCar vGoa vEag tN tF cN cF mP mS kCap kGap kCar kCop kGro kShr bN bF rCmd rLet rNum fCap fGap fCar fCop fGro fShr hX hC hR) r A) (F0 m 0 ls []) := by
    intro H locs hP hS
    refine lv_aload_n hx hb dX7_length_0 rfl (lv_at hl 0 rfl) ?_
    refine va_get (D := D) (ci := 7) (v := .ref (hh 1)) (C := RX7) (T := TX7) (N := 4) hx hb hg uX7 hown hK.1 hP 0 rfl rfl 0 (by decide) (hg _ gw_184) (fun _ h9 => h9) rfl dX7_length_1 ?_
    refine va_getN (D := D) (ci := 6) (v := .ref (hh 2)) (C := RX6) (T := TX6) (N := 7) hx hb hg uX6 hown hK.1 hP 1 rfl rfl 0 (by decide) (kk_nest hK nw_105) (fun _ h9 => h9) rfl dX7_length_4 ?_
    obtain ⟨r1, ec1, h⟩ := bd_some h
    refine cV_i (As := []) (rest := []) (wc := (wX0 cI (hh 2) (hh 3) 256 tN tF)) (wc' := (wX0 cI (hh 2) (hh 3) 256 tN tF)) hx hb hml hown hg hK hP hD hS hA hl.1 (k_X0_size l D cI cS cL Z (hh 2) (hh 3) 256 tN tF ec1) gm_X0_size gw_361 ⟨rfl, rfl, by decide, by decide⟩ ⟨Nat.zero_le _, Nat.zero_le _⟩ [2, 3] rfl rfl rfl rfl rfl rfl rfl rfl (Nat.le_of_ble_eq_true rfl) dX7_length_7 (fun H locs hP hD hS => ?_)
    have hP : va_P D vwCl (wX7 cI cS hh vCar vGoa vEag tN tF cN cF mP mS kCap kGap kCar kCop kGro kShr bN bF rCmd rLet rNum fCap fGap fCar fCop fGro fShr hX hC hR) H := hP
    have hD : va_D A (wX7 cI cS hh vCar vGoa vEag tN tF cN cF mP mS kCap kGap kCar kCop kGro kShr bN bF rCmd rLet rNum fCap fGap fCar fCop fGro fShr hX hC hR) := hD
    cases h
    exact ret_i hx hb hr hlocks hP hD hS dX7_length_10 rfl
  exact hmain _ _ hP hS
abbrev rm_X7_caret : Room := { frames := 0, cells := 0, slots := 0, locals := 0 }
def f_X7_caret (Z : Nat) (vCar : Int32) : Option (Int32) :=
  some vCar
set_option maxRecDepth 100000 in
set_option maxHeartbeats 4000000 in
theorem k_X7_caret (l : Launch) (D : va_G) (cI cS cL : ClassId) (Z : Nat) (hh : Nat → Nat) (vCar : Int32) (vGoa : Int32) (vEag : Int32) (tN : Int32) (tF : Nat → Int32) (cN : Int32) (cF : Nat → Int32) (mP : Nat → Int32) (mS : Nat → Int32) (kCap : Int32) (kGap : Int32) (kCar : Int32) (kCop : Int32) (kGro : Int32) (kShr : Int32) (bN : Int32) (bF : Nat → Int32) (rCmd : Int32) (rLet : Int32) (rNum : Int32) (fCap : Int32) (fGap : Int32) (fCar : Int32) (fCop : Int32) (fGro : Int32) (fShr : Int32) (hX : Int32) (hC : Int32) (hR : Nat → StT) {r : Int32} (h : f_X7_caret Z vCar = some r) : CI l yX7_caret cX7_caret 1 (some .int) rm_X7_caret D cI cS cL [.ref (hh 0)] (wX7 cI cS hh vCar vGoa vEag tN tF cN cF mP mS kCap kGap kCar kCop kGro kShr bN bF rCmd rLet rNum fCap fGap fCar fCop fGro fShr hX hC hR) (wX7 cI cS hh vCar vGoa vEag tN tF cN cF mP mS kCap kGap kCar kCop kGro kShr bN bF rCmd rLet rNum fCap fGap fCar fCop fGro fShr hX hC hR) r := by
  refine ent_i (by decide +kernel) (Nat.le_of_ble_eq_true rfl) ?_
  intro p e s m args below meth c A ls hx hb hr hml hlocks hg hown hK hP hD hS hA hl
  have hown : s.vm.findClass RX7 = some m.cls := hown
  have hl : lv_has ls 1 [(0, .ref (hh 0))] := hl
  have hP : va_P D vwCl (wX7 cI cS hh vCar vGoa vEag tN tF cN cF mP mS kCap kGap kCar kCop kGro kShr bN bF rCmd rLet rNum fCap fGap fCar fCop fGro fShr hX hC hR) s.heap := hP
  have hD : va_D A (wX7 cI cS hh vCar vGoa vEag tN tF cN cF mP mS kCap kGap kCar kCop kGro kShr bN bF rCmd rLet rNum fCap fGap fCar fCop fGro fShr hX hC hR) := hD
  show W p l e rm_X7_caret s m args below meth c s.heap [] 0 0 (FI D below args s (wX7 cI cS hh vCar vGoa vEag tN tF cN cF mP mS kCap kGap kCar kCop kGro kShr bN bF rCmd rLet rNum fCap fGap fCar fCop fGro fShr hX hC hR) r A) (F0 m 0 ls [])
  unfold f_X7_caret at h
  have hmain : ∀ (H : Heap) (locs : List Loc), va_P D vwCl (wX7 cI cS hh vCar vGoa vEag tN tF cN cF mP mS kCap kGap kCar kCop kGro kShr bN bF rCmd rLet rNum fCap fGap fCar fCop fGro fShr hX hC hR) H → va_S A s.heap H locs → W p l e rm_X7_caret s m args below meth c H locs 0 0 (FI D below args s (wX7 cI cS hh vCar vGoa vEag tN tF cN cF mP mS kCap kGap kCar kCop kGro kShr bN bF rCmd rLet rNum fCap fGap fCar fCop fGro fShr hX hC hR) r A) (F0 m 0 ls []) := by
    intro H locs hP hS
    refine lv_aload_n hx hb dX7_caret_0 rfl (lv_at hl 0 rfl) ?_
    refine va_get (D := D) (ci := 7) (v := .ref (hh 1)) (C := RX7) (T := TX7) (N := 4) hx hb hg uX7 hown hK.1 hP 0 rfl rfl 0 (by decide) (hg _ gw_184) (fun _ h9 => h9) rfl dX7_caret_1 ?_
    refine va_getN (D := D) (ci := 6) (v := .int vCar) (C := RX6) (T := TX6) (N := 7) hx hb hg uX6 hown hK.1 hP 1 rfl rfl 4 (by decide) (kk_nest hK nw_113) (fun _ h9 => h9) rfl dX7_caret_4 ?_
    cases h
    exact ret_i hx hb hr hlocks hP hD hS dX7_caret_7 rfl
  exact hmain _ _ hP hS
abbrev rm_X7_byteAt : Room := { frames := 1, cells := 0, slots := 0, locals := 21 }
def f_X7_byteAt_c26 (Z : Nat) (p1 : Int32) (tN : Int32) (tF : Nat → Int32)  : Option (Int32) :=
    (f_X0_at Z p1 256 tN tF).bind fun r1 =>
    some r1
def f_X7_byteAt (Z : Nat) (p1 : Int32) (tN : Int32) (tF : Nat → Int32) : Option ((Int32) ⊕ String) :=
  if p1 < 0 then
    if (0 : Int32) = 0 then
      some (.inr "java/lang/IndexOutOfBoundsException")
    else
    (f_X7_byteAt_c26 Z p1 tN tF).map Sum.inl
  else
    (f_X0_size Z 256 tN).bind fun r4 =>
    if r4 ≤ p1 then
      if (0 : Int32) = 0 then
        some (.inr "java/lang/IndexOutOfBoundsException")
      else
      (f_X7_byteAt_c26 Z p1 tN tF).map Sum.inl
    else
      if (1 : Int32) = 0 then
        some (.inr "java/lang/IndexOutOfBoundsException")
      else
      (f_X7_byteAt_c26 Z p1 tN tF).map Sum.inl
set_option maxRecDepth 100000 in
set_option maxHeartbeats 4000000 in
theorem k_X7_byteAt (l : Launch) (D : va_G) (cI cS cL : ClassId) (Z : Nat) (hh : Nat → Nat) (p1 : Int32) (vCar : Int32) (vGoa : Int32) (vEag : Int32) (tN : Int32) (tF : Nat → Int32) (cN : Int32) (cF : Nat → Int32) (mP : Nat → Int32) (mS : Nat → Int32) (kCap : Int32) (kGap : Int32) (kCar : Int32) (kCop : Int32) (kGro : Int32) (kShr : Int32) (bN : Int32) (bF : Nat → Int32) (rCmd : Int32) (rLet : Int32) (rNum : Int32) (fCap : Int32) (fGap : Int32) (fCar : Int32) (fCop : Int32) (fGro : Int32) (fShr : Int32) (hX : Int32) (hC : Int32) (hR : Nat → StT) {r : Int32} (h : f_X7_byteAt Z p1 tN tF = some (.inl r)) : CI l yX7_byteAt cX7_byteAt 2 (some .int) rm_X7_byteAt D cI cS cL [.ref (hh 0), .int p1] (wX7 cI cS hh vCar vGoa vEag tN tF cN cF mP mS kCap kGap kCar kCop kGro kShr bN bF rCmd rLet rNum fCap fGap fCar fCop fGro fShr hX hC hR) (wX7 cI cS hh vCar vGoa vEag tN tF cN cF mP mS kCap kGap kCar kCop kGro kShr bN bF rCmd rLet rNum fCap fGap fCar fCop fGro fShr hX hC hR) r := by
  refine ent_i (by decide +kernel) (Nat.le_of_ble_eq_true rfl) ?_
  intro p e s m args below meth c A ls hx hb hr hml hlocks hg hown hK hP hD hS hA hl
  have hown : s.vm.findClass RX7 = some m.cls := hown
  have c_26 : f_X7_byteAt_c26 Z p1 tN tF = some r → ∀ (H : Heap) (locs : List Loc), va_P D vwCl (wX7 cI cS hh vCar vGoa vEag tN tF cN cF mP mS kCap kGap kCar kCop kGro kShr bN bF rCmd rLet rNum fCap fGap fCar fCop fGro fShr hX hC hR) H → va_D A (wX7 cI cS hh vCar vGoa vEag tN tF cN cF mP mS kCap kGap kCar kCop kGro kShr bN bF rCmd rLet rNum fCap fGap fCar fCop fGro fShr hX hC hR) → va_S A s.heap H locs → ∀ ls : Array Slot, lv_has ls 2 [(0, .ref (hh 0)), (1, .int p1)] → W p l e rm_X7_byteAt s m args below meth c H locs 0 0 (FI D below args s (wX7 cI cS hh vCar vGoa vEag tN tF cN cF mP mS kCap kGap kCar kCop kGro kShr bN bF rCmd rLet rNum fCap fGap fCar fCop fGro fShr hX hC hR) r A) (F0 m 26 ls []) := by
    intro h H locs hP hD hS ls hl
    unfold f_X7_byteAt_c26 at h
    refine lv_aload_n hx hb dX7_byteAt_26 rfl (lv_at hl 0 rfl) ?_
    refine va_get (D := D) (ci := 7) (v := .ref (hh 1)) (C := RX7) (T := TX7) (N := 4) hx hb hg uX7 hown hK.1 hP 0 rfl rfl 0 (by decide) (hg _ gw_184) (fun _ h9 => h9) rfl dX7_byteAt_27 ?_
    refine va_getN (D := D) (ci := 6) (v := .ref (hh 2)) (C := RX6) (T := TX6) (N := 7) hx hb hg uX6 hown hK.1 hP 1 rfl rfl 0 (by decide) (kk_nest hK nw_105) (fun _ h9 => h9) rfl dX7_byteAt_30 ?_
    refine lv_iload_n hx hb dX7_byteAt_33 rfl (lv_at hl 1 rfl) ?_
    obtain ⟨r1, ec1, h⟩ := bd_some h
    refine cV_i (As := [.int p1]) (rest := []) (wc := (wX0 cI (hh 2) (hh 3) 256 tN tF)) (wc' := (wX0 cI (hh 2) (hh 3) 256 tN tF)) hx hb hml hown hg hK hP hD hS hA hl.1 (k_X0_at l D cI cS cL Z (hh 2) (hh 3) p1 256 tN tF ec1) gm_X0_at gw_592 ⟨rfl, rfl, by decide, by decide⟩ ⟨Nat.zero_le _, Nat.zero_le _⟩ [2, 3] rfl rfl rfl rfl rfl rfl rfl rfl (Nat.le_of_ble_eq_true rfl) dX7_byteAt_34 (fun H locs hP hD hS => ?_)
    have hP : va_P D vwCl (wX7 cI cS hh vCar vGoa vEag tN tF cN cF mP mS kCap kGap kCar kCop kGro kShr bN bF rCmd rLet rNum fCap fGap fCar fCop fGro fShr hX hC hR) H := hP
    have hD : va_D A (wX7 cI cS hh vCar vGoa vEag tN tF cN cF mP mS kCap kGap kCar kCop kGro kShr bN bF rCmd rLet rNum fCap fGap fCar fCop fGro fShr hX hC hR) := hD
    cases h
    exact ret_i hx hb hr hlocks hP hD hS dX7_byteAt_37 rfl
  have hl : lv_has ls 2 [(0, .ref (hh 0)), (1, .int p1)] := hl
  have hP : va_P D vwCl (wX7 cI cS hh vCar vGoa vEag tN tF cN cF mP mS kCap kGap kCar kCop kGro kShr bN bF rCmd rLet rNum fCap fGap fCar fCop fGro fShr hX hC hR) s.heap := hP
  have hD : va_D A (wX7 cI cS hh vCar vGoa vEag tN tF cN cF mP mS kCap kGap kCar kCop kGro kShr bN bF rCmd rLet rNum fCap fGap fCar fCop fGro fShr hX hC hR) := hD
  show W p l e rm_X7_byteAt s m args below meth c s.heap [] 0 0 (FI D below args s (wX7 cI cS hh vCar vGoa vEag tN tF cN cF mP mS kCap kGap kCar kCop kGro kShr bN bF rCmd rLet rNum fCap fGap fCar fCop fGro fShr hX hC hR) r A) (F0 m 0 ls [])
  unfold f_X7_byteAt at h
  have hmain : ∀ (H : Heap) (locs : List Loc), va_P D vwCl (wX7 cI cS hh vCar vGoa vEag tN tF cN cF mP mS kCap kGap kCar kCop kGro kShr bN bF rCmd rLet rNum fCap fGap fCar fCop fGro fShr hX hC hR) H → va_S A s.heap H locs → W p l e rm_X7_byteAt s m args below meth c H locs 0 0 (FI D below args s (wX7 cI cS hh vCar vGoa vEag tN tF cN cF mP mS kCap kGap kCar kCop kGro kShr bN bF rCmd rLet rNum fCap fGap fCar fCop fGro fShr hX hC hR) r A) (F0 m 0 ls []) := by
    intro H locs hP hS
    refine lv_iload_n hx hb dX7_byteAt_0 rfl (lv_at hl 1 rfl) ?_
    refine lv_if_lt (tgt := 22) hx hb dX7_byteAt_1 (by decide) (fun q2 => ?_) (fun q2 => ?_)
    · replace h := it_some q2 h
      refine lv_iconst (v := 0) hx hb dX7_byteAt_22 (by decide) ?_
      by_cases q3 : (0 : Int32) = 0
      · cases it_some q3 h
      replace h := if_some q3 h
      refine cS_v (As := [.int (0 : Int32)]) (rest := []) (wc := []) (wc' := []) hx hb hml hown hg hK hP hD hS hA hl.1 (k_X7_requireIndex l D cI cS cL (0 : Int32) q3) gs_X7_requireIndex gw_367 ⟨rfl, rfl, by decide, by decide⟩ ⟨Nat.zero_le _, Nat.zero_le _⟩ [] rfl rfl rfl rfl rfl (Nat.le_of_ble_eq_true rfl) dX7_byteAt_23 (fun H locs hP hD hS => ?_)
      have hP : va_P D vwCl (wX7 cI cS hh vCar vGoa vEag tN tF cN cF mP mS kCap kGap kCar kCop kGro kShr bN bF rCmd rLet rNum fCap fGap fCar fCop fGro fShr hX hC hR) H := hP
      have hD : va_D A (wX7 cI cS hh vCar vGoa vEag tN tF cN cF mP mS kCap kGap kCar kCop kGro kShr bN bF rCmd rLet rNum fCap fGap fCar fCop fGro fShr hX hC hR) := hD
      replace h := map_inl h
      exact c_26 h H locs hP hD hS ls (lv_sub hl [0, 1] rfl)
    · replace h := if_some q2 h
      refine lv_iload_n hx hb dX7_byteAt_4 rfl (lv_at hl 1 rfl) ?_
      refine lv_aload_n hx hb dX7_byteAt_5 rfl (lv_at hl 0 rfl) ?_
      refine va_get (D := D) (ci := 7) (v := .ref (hh 1)) (C := RX7) (T := TX7) (N := 4) hx hb hg uX7 hown hK.1 hP 0 rfl rfl 0 (by decide) (hg _ gw_184) (fun _ h9 => h9) rfl dX7_byteAt_6 ?_
      refine va_getN (D := D) (ci := 6) (v := .ref (hh 2)) (C := RX6) (T := TX6) (N := 7) hx hb hg uX6 hown hK.1 hP 1 rfl rfl 0 (by decide) (kk_nest hK nw_105) (fun _ h9 => h9) rfl dX7_byteAt_9 ?_
      obtain ⟨r4, ec4, h⟩ := bd_some h
      refine cV_i (As := []) (rest := [.int p1]) (wc := (wX0 cI (hh 2) (hh 3) 256 tN tF)) (wc' := (wX0 cI (hh 2) (hh 3) 256 tN tF)) hx hb hml hown hg hK hP hD hS hA hl.1 (k_X0_size l D cI cS cL Z (hh 2) (hh 3) 256 tN tF ec4) gm_X0_size gw_361 ⟨rfl, rfl, by decide, by decide⟩ ⟨Nat.zero_le _, Nat.zero_le _⟩ [2, 3] rfl rfl rfl rfl rfl rfl rfl rfl (Nat.le_of_ble_eq_true rfl) dX7_byteAt_12 (fun H locs hP hD hS => ?_)
      have hP : va_P D vwCl (wX7 cI cS hh vCar vGoa vEag tN tF cN cF mP mS kCap kGap kCar kCop kGro kShr bN bF rCmd rLet rNum fCap fGap fCar fCop fGro fShr hX hC hR) H := hP
      have hD : va_D A (wX7 cI cS hh vCar vGoa vEag tN tF cN cF mP mS kCap kGap kCar kCop kGro kShr bN bF rCmd rLet rNum fCap fGap fCar fCop fGro fShr hX hC hR) := hD
      refine lv_icmp_ge (tgt := 22) hx hb dX7_byteAt_15 (by decide) (fun q5 => ?_) (fun q5 => ?_)
      · replace h := it_some q5 h
        refine lv_iconst (v := 0) hx hb dX7_byteAt_22 (by decide) ?_
        by_cases q6 : (0 : Int32) = 0
        · cases it_some q6 h
        replace h := if_some q6 h
        refine cS_v (As := [.int (0 : Int32)]) (rest := []) (wc := []) (wc' := []) hx hb hml hown hg hK hP hD hS hA hl.1 (k_X7_requireIndex l D cI cS cL (0 : Int32) q6) gs_X7_requireIndex gw_367 ⟨rfl, rfl, by decide, by decide⟩ ⟨Nat.zero_le _, Nat.zero_le _⟩ [] rfl rfl rfl rfl rfl (Nat.le_of_ble_eq_true rfl) dX7_byteAt_23 (fun H locs hP hD hS => ?_)
        have hP : va_P D vwCl (wX7 cI cS hh vCar vGoa vEag tN tF cN cF mP mS kCap kGap kCar kCop kGro kShr bN bF rCmd rLet rNum fCap fGap fCar fCop fGro fShr hX hC hR) H := hP
        have hD : va_D A (wX7 cI cS hh vCar vGoa vEag tN tF cN cF mP mS kCap kGap kCar kCop kGro kShr bN bF rCmd rLet rNum fCap fGap fCar fCop fGro fShr hX hC hR) := hD
        replace h := map_inl h
        exact c_26 h H locs hP hD hS ls (lv_sub hl [0, 1] rfl)
      · replace h := if_some q5 h
        refine lv_iconst (v := 1) hx hb dX7_byteAt_18 (by decide) ?_
        refine lv_goto (tgt := 23) hx hb dX7_byteAt_19 (by decide) ?_
        by_cases q7 : (1 : Int32) = 0
        · cases it_some q7 h
        replace h := if_some q7 h
        refine cS_v (As := [.int (1 : Int32)]) (rest := []) (wc := []) (wc' := []) hx hb hml hown hg hK hP hD hS hA hl.1 (k_X7_requireIndex l D cI cS cL (1 : Int32) q7) gs_X7_requireIndex gw_367 ⟨rfl, rfl, by decide, by decide⟩ ⟨Nat.zero_le _, Nat.zero_le _⟩ [] rfl rfl rfl rfl rfl (Nat.le_of_ble_eq_true rfl) dX7_byteAt_23 (fun H locs hP hD hS => ?_)
        have hP : va_P D vwCl (wX7 cI cS hh vCar vGoa vEag tN tF cN cF mP mS kCap kGap kCar kCop kGro kShr bN bF rCmd rLet rNum fCap fGap fCar fCop fGro fShr hX hC hR) H := hP
        have hD : va_D A (wX7 cI cS hh vCar vGoa vEag tN tF cN cF mP mS kCap kGap kCar kCop kGro kShr bN bF rCmd rLet rNum fCap fGap fCar fCop fGro fShr hX hC hR) := hD
        replace h := map_inl h
        exact c_26 h H locs hP hD hS ls (lv_sub hl [0, 1] rfl)
  exact hmain _ _ hP hS
abbrev rm_X7_lines : Room := { frames := 3, cells := 0, slots := 0, locals := 64 }
def f_X7_lines (Z : Nat) (tN : Int32) (tF : Nat → Int32) : Option (Int32) :=
  (f_X0_lineCount Z 256 tN tF).bind fun r1 =>
  some r1
set_option maxRecDepth 100000 in
set_option maxHeartbeats 4000000 in
theorem k_X7_lines (l : Launch) (D : va_G) (cI cS cL : ClassId) (Z : Nat) (hh : Nat → Nat) (vCar : Int32) (vGoa : Int32) (vEag : Int32) (tN : Int32) (tF : Nat → Int32) (cN : Int32) (cF : Nat → Int32) (mP : Nat → Int32) (mS : Nat → Int32) (kCap : Int32) (kGap : Int32) (kCar : Int32) (kCop : Int32) (kGro : Int32) (kShr : Int32) (bN : Int32) (bF : Nat → Int32) (rCmd : Int32) (rLet : Int32) (rNum : Int32) (fCap : Int32) (fGap : Int32) (fCar : Int32) (fCop : Int32) (fGro : Int32) (fShr : Int32) (hX : Int32) (hC : Int32) (hR : Nat → StT) {r : Int32} (h : f_X7_lines Z tN tF = some r) : CI l yX7_lines cX7_lines 1 (some .int) rm_X7_lines D cI cS cL [.ref (hh 0)] (wX7 cI cS hh vCar vGoa vEag tN tF cN cF mP mS kCap kGap kCar kCop kGro kShr bN bF rCmd rLet rNum fCap fGap fCar fCop fGro fShr hX hC hR) (wX7 cI cS hh vCar vGoa vEag tN tF cN cF mP mS kCap kGap kCar kCop kGro kShr bN bF rCmd rLet rNum fCap fGap fCar fCop fGro fShr hX hC hR) r := by
  refine ent_i (by decide +kernel) (Nat.le_of_ble_eq_true rfl) ?_
  intro p e s m args below meth c A ls hx hb hr hml hlocks hg hown hK hP hD hS hA hl
  have hown : s.vm.findClass RX7 = some m.cls := hown
  have hl : lv_has ls 1 [(0, .ref (hh 0))] := hl
  have hP : va_P D vwCl (wX7 cI cS hh vCar vGoa vEag tN tF cN cF mP mS kCap kGap kCar kCop kGro kShr bN bF rCmd rLet rNum fCap fGap fCar fCop fGro fShr hX hC hR) s.heap := hP
  have hD : va_D A (wX7 cI cS hh vCar vGoa vEag tN tF cN cF mP mS kCap kGap kCar kCop kGro kShr bN bF rCmd rLet rNum fCap fGap fCar fCop fGro fShr hX hC hR) := hD
  show W p l e rm_X7_lines s m args below meth c s.heap [] 0 0 (FI D below args s (wX7 cI cS hh vCar vGoa vEag tN tF cN cF mP mS kCap kGap kCar kCop kGro kShr bN bF rCmd rLet rNum fCap fGap fCar fCop fGro fShr hX hC hR) r A) (F0 m 0 ls [])
  unfold f_X7_lines at h
  have hmain : ∀ (H : Heap) (locs : List Loc), va_P D vwCl (wX7 cI cS hh vCar vGoa vEag tN tF cN cF mP mS kCap kGap kCar kCop kGro kShr bN bF rCmd rLet rNum fCap fGap fCar fCop fGro fShr hX hC hR) H → va_S A s.heap H locs → W p l e rm_X7_lines s m args below meth c H locs 0 0 (FI D below args s (wX7 cI cS hh vCar vGoa vEag tN tF cN cF mP mS kCap kGap kCar kCop kGro kShr bN bF rCmd rLet rNum fCap fGap fCar fCop fGro fShr hX hC hR) r A) (F0 m 0 ls []) := by
    intro H locs hP hS
    refine lv_aload_n hx hb dX7_lines_0 rfl (lv_at hl 0 rfl) ?_
    refine va_get (D := D) (ci := 7) (v := .ref (hh 1)) (C := RX7) (T := TX7) (N := 4) hx hb hg uX7 hown hK.1 hP 0 rfl rfl 0 (by decide) (hg _ gw_184) (fun _ h9 => h9) rfl dX7_lines_1 ?_
    refine va_getN (D := D) (ci := 6) (v := .ref (hh 2)) (C := RX6) (T := TX6) (N := 7) hx hb hg uX6 hown hK.1 hP 1 rfl rfl 0 (by decide) (kk_nest hK nw_105) (fun _ h9 => h9) rfl dX7_lines_4 ?_
    obtain ⟨r1, ec1, h⟩ := bd_some h
    refine cV_i (As := []) (rest := []) (wc := (wX0 cI (hh 2) (hh 3) 256 tN tF)) (wc' := (wX0 cI (hh 2) (hh 3) 256 tN tF)) hx hb hml hown hg hK hP hD hS hA hl.1 (k_X0_lineCount l D cI cS cL Z (hh 2) (hh 3) 256 tN tF ec1) gm_X0_lineCount gw_637 ⟨rfl, rfl, by decide, by decide⟩ ⟨Nat.zero_le _, Nat.zero_le _⟩ [2, 3] rfl rfl rfl rfl rfl rfl rfl rfl (Nat.le_of_ble_eq_true rfl) dX7_lines_7 (fun H locs hP hD hS => ?_)
    have hP : va_P D vwCl (wX7 cI cS hh vCar vGoa vEag tN tF cN cF mP mS kCap kGap kCar kCop kGro kShr bN bF rCmd rLet rNum fCap fGap fCar fCop fGro fShr hX hC hR) H := hP
    have hD : va_D A (wX7 cI cS hh vCar vGoa vEag tN tF cN cF mP mS kCap kGap kCar kCop kGro kShr bN bF rCmd rLet rNum fCap fGap fCar fCop fGro fShr hX hC hR) := hD
    cases h
    exact ret_i hx hb hr hlocks hP hD hS dX7_lines_10 rfl
  exact hmain _ _ hP hS
abbrev rm_X7_lineOf : Room := { frames := 2, cells := 0, slots := 0, locals := 44 }
def f_X7_lineOf_c8 (Z : Nat) (p1 : Int32) (tN : Int32) (tF : Nat → Int32)  : Option (Int32) :=
    (f_X0_breaksBefore Z p1 256 tN tF).bind fun r1 =>
    some r1
def f_X7_lineOf (Z : Nat) (p1 : Int32) (tN : Int32) (tF : Nat → Int32) : Option ((Int32) ⊕ String) :=
  (f_X7_isPosition Z p1 tN).bind fun r2 =>
  if r2 = 0 then
    some (.inr "java/lang/IndexOutOfBoundsException")
  else
  (f_X7_lineOf_c8 Z p1 tN tF).map Sum.inl
set_option maxRecDepth 100000 in
set_option maxHeartbeats 4000000 in
theorem k_X7_lineOf (l : Launch) (D : va_G) (cI cS cL : ClassId) (Z : Nat) (hh : Nat → Nat) (p1 : Int32) (vCar : Int32) (vGoa : Int32) (vEag : Int32) (tN : Int32) (tF : Nat → Int32) (cN : Int32) (cF : Nat → Int32) (mP : Nat → Int32) (mS : Nat → Int32) (kCap : Int32) (kGap : Int32) (kCar : Int32) (kCop : Int32) (kGro : Int32) (kShr : Int32) (bN : Int32) (bF : Nat → Int32) (rCmd : Int32) (rLet : Int32) (rNum : Int32) (fCap : Int32) (fGap : Int32) (fCar : Int32) (fCop : Int32) (fGro : Int32) (fShr : Int32) (hX : Int32) (hC : Int32) (hR : Nat → StT) {r : Int32} (h : f_X7_lineOf Z p1 tN tF = some (.inl r)) : CI l yX7_lineOf cX7_lineOf 2 (some .int) rm_X7_lineOf D cI cS cL [.ref (hh 0), .int p1] (wX7 cI cS hh vCar vGoa vEag tN tF cN cF mP mS kCap kGap kCar kCop kGro kShr bN bF rCmd rLet rNum fCap fGap fCar fCop fGro fShr hX hC hR) (wX7 cI cS hh vCar vGoa vEag tN tF cN cF mP mS kCap kGap kCar kCop kGro kShr bN bF rCmd rLet rNum fCap fGap fCar fCop fGro fShr hX hC hR) r := by
  refine ent_i (by decide +kernel) (Nat.le_of_ble_eq_true rfl) ?_
  intro p e s m args below meth c A ls hx hb hr hml hlocks hg hown hK hP hD hS hA hl
  have hown : s.vm.findClass RX7 = some m.cls := hown
  have c_8 : f_X7_lineOf_c8 Z p1 tN tF = some r → ∀ (H : Heap) (locs : List Loc), va_P D vwCl (wX7 cI cS hh vCar vGoa vEag tN tF cN cF mP mS kCap kGap kCar kCop kGro kShr bN bF rCmd rLet rNum fCap fGap fCar fCop fGro fShr hX hC hR) H → va_D A (wX7 cI cS hh vCar vGoa vEag tN tF cN cF mP mS kCap kGap kCar kCop kGro kShr bN bF rCmd rLet rNum fCap fGap fCar fCop fGro fShr hX hC hR) → va_S A s.heap H locs → ∀ ls : Array Slot, lv_has ls 2 [(0, .ref (hh 0)), (1, .int p1)] → W p l e rm_X7_lineOf s m args below meth c H locs 0 0 (FI D below args s (wX7 cI cS hh vCar vGoa vEag tN tF cN cF mP mS kCap kGap kCar kCop kGro kShr bN bF rCmd rLet rNum fCap fGap fCar fCop fGro fShr hX hC hR) r A) (F0 m 8 ls []) := by
    intro h H locs hP hD hS ls hl
    unfold f_X7_lineOf_c8 at h
    refine lv_aload_n hx hb dX7_lineOf_8 rfl (lv_at hl 0 rfl) ?_
    refine va_get (D := D) (ci := 7) (v := .ref (hh 1)) (C := RX7) (T := TX7) (N := 4) hx hb hg uX7 hown hK.1 hP 0 rfl rfl 0 (by decide) (hg _ gw_184) (fun _ h9 => h9) rfl dX7_lineOf_9 ?_
    refine va_getN (D := D) (ci := 6) (v := .ref (hh 2)) (C := RX6) (T := TX6) (N := 7) hx hb hg uX6 hown hK.1 hP 1 rfl rfl 0 (by decide) (kk_nest hK nw_105) (fun _ h9 => h9) rfl dX7_lineOf_12 ?_
    refine lv_iload_n hx hb dX7_lineOf_15 rfl (lv_at hl 1 rfl) ?_
    obtain ⟨r1, ec1, h⟩ := bd_some h
    refine cV_i (As := [.int p1]) (rest := []) (wc := (wX0 cI (hh 2) (hh 3) 256 tN tF)) (wc' := (wX0 cI (hh 2) (hh 3) 256 tN tF)) hx hb hml hown hg hK hP hD hS hA hl.1 (k_X0_breaksBefore l D cI cS cL Z (hh 2) (hh 3) p1 256 tN tF ec1) gm_X0_breaksBefore gw_642 ⟨rfl, rfl, by decide, by decide⟩ ⟨Nat.zero_le _, Nat.zero_le _⟩ [2, 3] rfl rfl rfl rfl rfl rfl rfl rfl (Nat.le_of_ble_eq_true rfl) dX7_lineOf_16 (fun H locs hP hD hS => ?_)
    have hP : va_P D vwCl (wX7 cI cS hh vCar vGoa vEag tN tF cN cF mP mS kCap kGap kCar kCop kGro kShr bN bF rCmd rLet rNum fCap fGap fCar fCop fGro fShr hX hC hR) H := hP
    have hD : va_D A (wX7 cI cS hh vCar vGoa vEag tN tF cN cF mP mS kCap kGap kCar kCop kGro kShr bN bF rCmd rLet rNum fCap fGap fCar fCop fGro fShr hX hC hR) := hD
    cases h
    exact ret_i hx hb hr hlocks hP hD hS dX7_lineOf_19 rfl
  have hl : lv_has ls 2 [(0, .ref (hh 0)), (1, .int p1)] := hl
  have hP : va_P D vwCl (wX7 cI cS hh vCar vGoa vEag tN tF cN cF mP mS kCap kGap kCar kCop kGro kShr bN bF rCmd rLet rNum fCap fGap fCar fCop fGro fShr hX hC hR) s.heap := hP
  have hD : va_D A (wX7 cI cS hh vCar vGoa vEag tN tF cN cF mP mS kCap kGap kCar kCop kGro kShr bN bF rCmd rLet rNum fCap fGap fCar fCop fGro fShr hX hC hR) := hD
  show W p l e rm_X7_lineOf s m args below meth c s.heap [] 0 0 (FI D below args s (wX7 cI cS hh vCar vGoa vEag tN tF cN cF mP mS kCap kGap kCar kCop kGro kShr bN bF rCmd rLet rNum fCap fGap fCar fCop fGro fShr hX hC hR) r A) (F0 m 0 ls [])
  unfold f_X7_lineOf at h
  have hmain : ∀ (H : Heap) (locs : List Loc), va_P D vwCl (wX7 cI cS hh vCar vGoa vEag tN tF cN cF mP mS kCap kGap kCar kCop kGro kShr bN bF rCmd rLet rNum fCap fGap fCar fCop fGro fShr hX hC hR) H → va_S A s.heap H locs → W p l e rm_X7_lineOf s m args below meth c H locs 0 0 (FI D below args s (wX7 cI cS hh vCar vGoa vEag tN tF cN cF mP mS kCap kGap kCar kCop kGro kShr bN bF rCmd rLet rNum fCap fGap fCar fCop fGro fShr hX hC hR) r A) (F0 m 0 ls []) := by
    intro H locs hP hS
    refine lv_aload_n hx hb dX7_lineOf_0 rfl (lv_at hl 0 rfl) ?_
    refine lv_iload_n hx hb dX7_lineOf_1 rfl (lv_at hl 1 rfl) ?_
    obtain ⟨r2, ec2, h⟩ := bd_some h
    refine cP_i (As := [.int p1]) (rest := []) (wc := (wX7 cI cS hh vCar vGoa vEag tN tF cN cF mP mS kCap kGap kCar kCop kGro kShr bN bF rCmd rLet rNum fCap fGap fCar fCop fGro fShr hX hC hR)) (wc' := (wX7 cI cS hh vCar vGoa vEag tN tF cN cF mP mS kCap kGap kCar kCop kGro kShr bN bF rCmd rLet rNum fCap fGap fCar fCop fGro fShr hX hC hR)) (ws' := (wX7 cI cS hh vCar vGoa vEag tN tF cN cF mP mS kCap kGap kCar kCop kGro kShr bN bF rCmd rLet rNum fCap fGap fCar fCop fGro fShr hX hC hR)) hx hb hml hown hg hK hP hD hS hA hl.1 (k_X7_isPosition l D cI cS cL Z hh p1 vCar vGoa vEag tN tF cN cF mP mS kCap kGap kCar kCop kGro kShr bN bF rCmd rLet rNum fCap fGap fCar fCop fGro fShr hX hC hR ec2) gm_X7_isPosition gw_506 ⟨rfl, rfl, by decide, by decide⟩ ⟨Nat.zero_le _, Nat.zero_le _⟩ pm_all pm_all rfl rfl rfl rfl rfl rfl (Nat.le_of_ble_eq_true rfl) dX7_lineOf_2 (fun H locs hP hD hS => ?_)
    by_cases q3 : r2 = 0
    · cases it_some q3 h
    replace h := if_some q3 h
    refine cS_v (As := [.int r2]) (rest := []) (wc := []) (wc' := []) hx hb hml hown hg hK hP hD hS hA hl.1 (k_X7_requireIndex l D cI cS cL r2 q3) gs_X7_requireIndex gw_367 ⟨rfl, rfl, by decide, by decide⟩ ⟨Nat.zero_le _, Nat.zero_le _⟩ [] rfl rfl rfl rfl rfl (Nat.le_of_ble_eq_true rfl) dX7_lineOf_5 (fun H locs hP hD hS => ?_)
    have hP : va_P D vwCl (wX7 cI cS hh vCar vGoa vEag tN tF cN cF mP mS kCap kGap kCar kCop kGro kShr bN bF rCmd rLet rNum fCap fGap fCar fCop fGro fShr hX hC hR) H := hP
    have hD : va_D A (wX7 cI cS hh vCar vGoa vEag tN tF cN cF mP mS kCap kGap kCar kCop kGro kShr bN bF rCmd rLet rNum fCap fGap fCar fCop fGro fShr hX hC hR) := hD
    replace h := map_inl h
    exact c_8 h H locs hP hD hS ls (lv_sub hl [0, 1] rfl)
  exact hmain _ _ hP hS
abbrev rm_X7_capacity : Room := { frames := 0, cells := 0, slots := 0, locals := 0 }
def f_X7_capacity (Z : Nat) (kCap : Int32) : Option (Int32) :=
  some kCap
set_option maxRecDepth 100000 in
set_option maxHeartbeats 4000000 in
theorem k_X7_capacity (l : Launch) (D : va_G) (cI cS cL : ClassId) (Z : Nat) (hh : Nat → Nat) (vCar : Int32) (vGoa : Int32) (vEag : Int32) (tN : Int32) (tF : Nat → Int32) (cN : Int32) (cF : Nat → Int32) (mP : Nat → Int32) (mS : Nat → Int32) (kCap : Int32) (kGap : Int32) (kCar : Int32) (kCop : Int32) (kGro : Int32) (kShr : Int32) (bN : Int32) (bF : Nat → Int32) (rCmd : Int32) (rLet : Int32) (rNum : Int32) (fCap : Int32) (fGap : Int32) (fCar : Int32) (fCop : Int32) (fGro : Int32) (fShr : Int32) (hX : Int32) (hC : Int32) (hR : Nat → StT) {r : Int32} (h : f_X7_capacity Z kCap = some r) : CI l yX7_capacity cX7_capacity 1 (some .int) rm_X7_capacity D cI cS cL [.ref (hh 0)] (wX7 cI cS hh vCar vGoa vEag tN tF cN cF mP mS kCap kGap kCar kCop kGro kShr bN bF rCmd rLet rNum fCap fGap fCar fCop fGro fShr hX hC hR) (wX7 cI cS hh vCar vGoa vEag tN tF cN cF mP mS kCap kGap kCar kCop kGro kShr bN bF rCmd rLet rNum fCap fGap fCar fCop fGro fShr hX hC hR) r := by
  refine ent_i (by decide +kernel) (Nat.le_of_ble_eq_true rfl) ?_
  intro p e s m args below meth c A ls hx hb hr hml hlocks hg hown hK hP hD hS hA hl
  have hown : s.vm.findClass RX7 = some m.cls := hown
  have hl : lv_has ls 1 [(0, .ref (hh 0))] := hl
  have hP : va_P D vwCl (wX7 cI cS hh vCar vGoa vEag tN tF cN cF mP mS kCap kGap kCar kCop kGro kShr bN bF rCmd rLet rNum fCap fGap fCar fCop fGro fShr hX hC hR) s.heap := hP
  have hD : va_D A (wX7 cI cS hh vCar vGoa vEag tN tF cN cF mP mS kCap kGap kCar kCop kGro kShr bN bF rCmd rLet rNum fCap fGap fCar fCop fGro fShr hX hC hR) := hD
  show W p l e rm_X7_capacity s m args below meth c s.heap [] 0 0 (FI D below args s (wX7 cI cS hh vCar vGoa vEag tN tF cN cF mP mS kCap kGap kCar kCop kGro kShr bN bF rCmd rLet rNum fCap fGap fCar fCop fGro fShr hX hC hR) r A) (F0 m 0 ls [])
  unfold f_X7_capacity at h
  have hmain : ∀ (H : Heap) (locs : List Loc), va_P D vwCl (wX7 cI cS hh vCar vGoa vEag tN tF cN cF mP mS kCap kGap kCar kCop kGro kShr bN bF rCmd rLet rNum fCap fGap fCar fCop fGro fShr hX hC hR) H → va_S A s.heap H locs → W p l e rm_X7_capacity s m args below meth c H locs 0 0 (FI D below args s (wX7 cI cS hh vCar vGoa vEag tN tF cN cF mP mS kCap kGap kCar kCop kGro kShr bN bF rCmd rLet rNum fCap fGap fCar fCop fGro fShr hX hC hR) r A) (F0 m 0 ls []) := by
    intro H locs hP hS
    refine lv_aload_n hx hb dX7_capacity_0 rfl (lv_at hl 0 rfl) ?_
    refine va_get (D := D) (ci := 7) (v := .ref (hh 1)) (C := RX7) (T := TX7) (N := 4) hx hb hg uX7 hown hK.1 hP 0 rfl rfl 0 (by decide) (hg _ gw_184) (fun _ h9 => h9) rfl dX7_capacity_1 ?_
    refine va_getN (D := D) (ci := 6) (v := .ref (hh 9)) (C := RX6) (T := TX6) (N := 7) hx hb hg uX6 hown hK.1 hP 1 rfl rfl 3 (by decide) (kk_nest hK nw_111) (fun _ h9 => h9) rfl dX7_capacity_4 ?_
    refine va_getN (D := D) (ci := 3) (v := .int kCap) (C := RX3) (T := TX3) (N := 6) hx hb hg uX3 hown hK.1 hP 9 rfl rfl 0 (by decide) (kk_nest hK nw_76) (fun _ h9 => h9) rfl dX7_capacity_7 ?_
    cases h
    exact ret_i hx hb hr hlocks hP hD hS dX7_capacity_10 rfl
  exact hmain _ _ hP hS
abbrev rm_X7_gapStart : Room := { frames := 0, cells := 0, slots := 0, locals := 0 }
def f_X7_gapStart (Z : Nat) (kGap : Int32) : Option (Int32) :=
  some kGap
set_option maxRecDepth 100000 in
set_option maxHeartbeats 4000000 in
theorem k_X7_gapStart (l : Launch) (D : va_G) (cI cS cL : ClassId) (Z : Nat) (hh : Nat → Nat) (vCar : Int32) (vGoa : Int32) (vEag : Int32) (tN : Int32) (tF : Nat → Int32) (cN : Int32) (cF : Nat → Int32) (mP : Nat → Int32) (mS : Nat → Int32) (kCap : Int32) (kGap : Int32) (kCar : Int32) (kCop : Int32) (kGro : Int32) (kShr : Int32) (bN : Int32) (bF : Nat → Int32) (rCmd : Int32) (rLet : Int32) (rNum : Int32) (fCap : Int32) (fGap : Int32) (fCar : Int32) (fCop : Int32) (fGro : Int32) (fShr : Int32) (hX : Int32) (hC : Int32) (hR : Nat → StT) {r : Int32} (h : f_X7_gapStart Z kGap = some r) : CI l yX7_gapStart cX7_gapStart 1 (some .int) rm_X7_gapStart D cI cS cL [.ref (hh 0)] (wX7 cI cS hh vCar vGoa vEag tN tF cN cF mP mS kCap kGap kCar kCop kGro kShr bN bF rCmd rLet rNum fCap fGap fCar fCop fGro fShr hX hC hR) (wX7 cI cS hh vCar vGoa vEag tN tF cN cF mP mS kCap kGap kCar kCop kGro kShr bN bF rCmd rLet rNum fCap fGap fCar fCop fGro fShr hX hC hR) r := by
  refine ent_i (by decide +kernel) (Nat.le_of_ble_eq_true rfl) ?_
  intro p e s m args below meth c A ls hx hb hr hml hlocks hg hown hK hP hD hS hA hl
  have hown : s.vm.findClass RX7 = some m.cls := hown
  have hl : lv_has ls 1 [(0, .ref (hh 0))] := hl
  have hP : va_P D vwCl (wX7 cI cS hh vCar vGoa vEag tN tF cN cF mP mS kCap kGap kCar kCop kGro kShr bN bF rCmd rLet rNum fCap fGap fCar fCop fGro fShr hX hC hR) s.heap := hP
  have hD : va_D A (wX7 cI cS hh vCar vGoa vEag tN tF cN cF mP mS kCap kGap kCar kCop kGro kShr bN bF rCmd rLet rNum fCap fGap fCar fCop fGro fShr hX hC hR) := hD
  show W p l e rm_X7_gapStart s m args below meth c s.heap [] 0 0 (FI D below args s (wX7 cI cS hh vCar vGoa vEag tN tF cN cF mP mS kCap kGap kCar kCop kGro kShr bN bF rCmd rLet rNum fCap fGap fCar fCop fGro fShr hX hC hR) r A) (F0 m 0 ls [])
  unfold f_X7_gapStart at h
  have hmain : ∀ (H : Heap) (locs : List Loc), va_P D vwCl (wX7 cI cS hh vCar vGoa vEag tN tF cN cF mP mS kCap kGap kCar kCop kGro kShr bN bF rCmd rLet rNum fCap fGap fCar fCop fGro fShr hX hC hR) H → va_S A s.heap H locs → W p l e rm_X7_gapStart s m args below meth c H locs 0 0 (FI D below args s (wX7 cI cS hh vCar vGoa vEag tN tF cN cF mP mS kCap kGap kCar kCop kGro kShr bN bF rCmd rLet rNum fCap fGap fCar fCop fGro fShr hX hC hR) r A) (F0 m 0 ls []) := by
    intro H locs hP hS
    refine lv_aload_n hx hb dX7_gapStart_0 rfl (lv_at hl 0 rfl) ?_
    refine va_get (D := D) (ci := 7) (v := .ref (hh 1)) (C := RX7) (T := TX7) (N := 4) hx hb hg uX7 hown hK.1 hP 0 rfl rfl 0 (by decide) (hg _ gw_184) (fun _ h9 => h9) rfl dX7_gapStart_1 ?_
    refine va_getN (D := D) (ci := 6) (v := .ref (hh 9)) (C := RX6) (T := TX6) (N := 7) hx hb hg uX6 hown hK.1 hP 1 rfl rfl 3 (by decide) (kk_nest hK nw_111) (fun _ h9 => h9) rfl dX7_gapStart_4 ?_
    refine va_getN (D := D) (ci := 3) (v := .int kGap) (C := RX3) (T := TX3) (N := 6) hx hb hg uX3 hown hK.1 hP 9 rfl rfl 1 (by decide) (kk_nest hK nw_79) (fun _ h9 => h9) rfl dX7_gapStart_7 ?_
    cases h
    exact ret_i hx hb hr hlocks hP hD hS dX7_gapStart_10 rfl
  exact hmain _ _ hP hS
abbrev rm_X7_cell : Room := { frames := 2, cells := 0, slots := 0, locals := 43 }
def f_X7_cell_c26 (Z : Nat) (p1 : Int32) (tN : Int32) (tF : Nat → Int32) (kCap : Int32) (kGap : Int32)  : Option (Int32) :=
    (f_X6_cellAt Z p1 tN tF kCap kGap).bind fun r1 =>
    some r1
def f_X7_cell (Z : Nat) (p1 : Int32) (tN : Int32) (tF : Nat → Int32) (kCap : Int32) (kGap : Int32) : Option ((Int32) ⊕ String) :=
  if p1 < 0 then
    if (0 : Int32) = 0 then
      some (.inr "java/lang/IndexOutOfBoundsException")
    else
    (f_X7_cell_c26 Z p1 tN tF kCap kGap).map Sum.inl
  else
    if kCap ≤ p1 then
      if (0 : Int32) = 0 then
        some (.inr "java/lang/IndexOutOfBoundsException")
      else
      (f_X7_cell_c26 Z p1 tN tF kCap kGap).map Sum.inl
    else
      if (1 : Int32) = 0 then
        some (.inr "java/lang/IndexOutOfBoundsException")
      else
      (f_X7_cell_c26 Z p1 tN tF kCap kGap).map Sum.inl
set_option maxRecDepth 100000 in
set_option maxHeartbeats 4000000 in
theorem k_X7_cell (l : Launch) (D : va_G) (cI cS cL : ClassId) (Z : Nat) (hh : Nat → Nat) (p1 : Int32) (vCar : Int32) (vGoa : Int32) (vEag : Int32) (tN : Int32) (tF : Nat → Int32) (cN : Int32) (cF : Nat → Int32) (mP : Nat → Int32) (mS : Nat → Int32) (kCap : Int32) (kGap : Int32) (kCar : Int32) (kCop : Int32) (kGro : Int32) (kShr : Int32) (bN : Int32) (bF : Nat → Int32) (rCmd : Int32) (rLet : Int32) (rNum : Int32) (fCap : Int32) (fGap : Int32) (fCar : Int32) (fCop : Int32) (fGro : Int32) (fShr : Int32) (hX : Int32) (hC : Int32) (hR : Nat → StT) {r : Int32} (h : f_X7_cell Z p1 tN tF kCap kGap = some (.inl r)) : CI l yX7_cell cX7_cell 2 (some .int) rm_X7_cell D cI cS cL [.ref (hh 0), .int p1] (wX7 cI cS hh vCar vGoa vEag tN tF cN cF mP mS kCap kGap kCar kCop kGro kShr bN bF rCmd rLet rNum fCap fGap fCar fCop fGro fShr hX hC hR) (wX7 cI cS hh vCar vGoa vEag tN tF cN cF mP mS kCap kGap kCar kCop kGro kShr bN bF rCmd rLet rNum fCap fGap fCar fCop fGro fShr hX hC hR) r := by
  refine ent_i (by decide +kernel) (Nat.le_of_ble_eq_true rfl) ?_
  intro p e s m args below meth c A ls hx hb hr hml hlocks hg hown hK hP hD hS hA hl
  have hown : s.vm.findClass RX7 = some m.cls := hown
  have c_26 : f_X7_cell_c26 Z p1 tN tF kCap kGap = some r → ∀ (H : Heap) (locs : List Loc), va_P D vwCl (wX7 cI cS hh vCar vGoa vEag tN tF cN cF mP mS kCap kGap kCar kCop kGro kShr bN bF rCmd rLet rNum fCap fGap fCar fCop fGro fShr hX hC hR) H → va_D A (wX7 cI cS hh vCar vGoa vEag tN tF cN cF mP mS kCap kGap kCar kCop kGro kShr bN bF rCmd rLet rNum fCap fGap fCar fCop fGro fShr hX hC hR) → va_S A s.heap H locs → ∀ ls : Array Slot, lv_has ls 2 [(0, .ref (hh 0)), (1, .int p1)] → W p l e rm_X7_cell s m args below meth c H locs 0 0 (FI D below args s (wX7 cI cS hh vCar vGoa vEag tN tF cN cF mP mS kCap kGap kCar kCop kGro kShr bN bF rCmd rLet rNum fCap fGap fCar fCop fGro fShr hX hC hR) r A) (F0 m 26 ls []) := by
    intro h H locs hP hD hS ls hl
    unfold f_X7_cell_c26 at h
    refine lv_aload_n hx hb dX7_cell_26 rfl (lv_at hl 0 rfl) ?_
    refine va_get (D := D) (ci := 7) (v := .ref (hh 1)) (C := RX7) (T := TX7) (N := 4) hx hb hg uX7 hown hK.1 hP 0 rfl rfl 0 (by decide) (hg _ gw_184) (fun _ h9 => h9) rfl dX7_cell_27 ?_
    refine lv_iload_n hx hb dX7_cell_30 rfl (lv_at hl 1 rfl) ?_
    obtain ⟨r1, ec1, h⟩ := bd_some h
    refine cV_i (As := [.int p1]) (rest := []) (wc := (wX6 cI (hh 1) (hh 2) (hh 3) (hh 4) (hh 5) (hh 6) (hh 7) (hh 8) (hh 9) vCar vGoa vEag tN tF cN cF mP mS kCap kGap kCar kCop kGro kShr)) (wc' := (wX6 cI (hh 1) (hh 2) (hh 3) (hh 4) (hh 5) (hh 6) (hh 7) (hh 8) (hh 9) vCar vGoa vEag tN tF cN cF mP mS kCap kGap kCar kCop kGro kShr)) hx hb hml hown hg hK hP hD hS hA hl.1 (k_X6_cellAt l D cI cS cL Z (hh 1) (hh 2) (hh 3) (hh 4) (hh 5) (hh 6) (hh 7) (hh 8) (hh 9) p1 vCar vGoa vEag tN tF cN cF mP mS kCap kGap kCar kCop kGro kShr ec1) gm_X6_cellAt gw_629 ⟨rfl, rfl, by decide, by decide⟩ ⟨Nat.zero_le _, Nat.zero_le _⟩ [1, 2, 3, 4, 5, 6, 7, 8, 9] rfl rfl rfl rfl rfl rfl rfl rfl (Nat.le_of_ble_eq_true rfl) dX7_cell_31 (fun H locs hP hD hS => ?_)
    have hP : va_P D vwCl (wX7 cI cS hh vCar vGoa vEag tN tF cN cF mP mS kCap kGap kCar kCop kGro kShr bN bF rCmd rLet rNum fCap fGap fCar fCop fGro fShr hX hC hR) H := hP
    have hD : va_D A (wX7 cI cS hh vCar vGoa vEag tN tF cN cF mP mS kCap kGap kCar kCop kGro kShr bN bF rCmd rLet rNum fCap fGap fCar fCop fGro fShr hX hC hR) := hD
    cases h
    exact ret_i hx hb hr hlocks hP hD hS dX7_cell_34 rfl
  have hl : lv_has ls 2 [(0, .ref (hh 0)), (1, .int p1)] := hl
  have hP : va_P D vwCl (wX7 cI cS hh vCar vGoa vEag tN tF cN cF mP mS kCap kGap kCar kCop kGro kShr bN bF rCmd rLet rNum fCap fGap fCar fCop fGro fShr hX hC hR) s.heap := hP
  have hD : va_D A (wX7 cI cS hh vCar vGoa vEag tN tF cN cF mP mS kCap kGap kCar kCop kGro kShr bN bF rCmd rLet rNum fCap fGap fCar fCop fGro fShr hX hC hR) := hD
  show W p l e rm_X7_cell s m args below meth c s.heap [] 0 0 (FI D below args s (wX7 cI cS hh vCar vGoa vEag tN tF cN cF mP mS kCap kGap kCar kCop kGro kShr bN bF rCmd rLet rNum fCap fGap fCar fCop fGro fShr hX hC hR) r A) (F0 m 0 ls [])
  unfold f_X7_cell at h
  have hmain : ∀ (H : Heap) (locs : List Loc), va_P D vwCl (wX7 cI cS hh vCar vGoa vEag tN tF cN cF mP mS kCap kGap kCar kCop kGro kShr bN bF rCmd rLet rNum fCap fGap fCar fCop fGro fShr hX hC hR) H → va_S A s.heap H locs → W p l e rm_X7_cell s m args below meth c H locs 0 0 (FI D below args s (wX7 cI cS hh vCar vGoa vEag tN tF cN cF mP mS kCap kGap kCar kCop kGro kShr bN bF rCmd rLet rNum fCap fGap fCar fCop fGro fShr hX hC hR) r A) (F0 m 0 ls []) := by
    intro H locs hP hS
    refine lv_iload_n hx hb dX7_cell_0 rfl (lv_at hl 1 rfl) ?_
    refine lv_if_lt (tgt := 22) hx hb dX7_cell_1 (by decide) (fun q2 => ?_) (fun q2 => ?_)
    · replace h := it_some q2 h
      refine lv_iconst (v := 0) hx hb dX7_cell_22 (by decide) ?_
      by_cases q3 : (0 : Int32) = 0
      · cases it_some q3 h
      replace h := if_some q3 h
      refine cS_v (As := [.int (0 : Int32)]) (rest := []) (wc := []) (wc' := []) hx hb hml hown hg hK hP hD hS hA hl.1 (k_X7_requireIndex l D cI cS cL (0 : Int32) q3) gs_X7_requireIndex gw_367 ⟨rfl, rfl, by decide, by decide⟩ ⟨Nat.zero_le _, Nat.zero_le _⟩ [] rfl rfl rfl rfl rfl (Nat.le_of_ble_eq_true rfl) dX7_cell_23 (fun H locs hP hD hS => ?_)
      have hP : va_P D vwCl (wX7 cI cS hh vCar vGoa vEag tN tF cN cF mP mS kCap kGap kCar kCop kGro kShr bN bF rCmd rLet rNum fCap fGap fCar fCop fGro fShr hX hC hR) H := hP
      have hD : va_D A (wX7 cI cS hh vCar vGoa vEag tN tF cN cF mP mS kCap kGap kCar kCop kGro kShr bN bF rCmd rLet rNum fCap fGap fCar fCop fGro fShr hX hC hR) := hD
      replace h := map_inl h
      exact c_26 h H locs hP hD hS ls (lv_sub hl [0, 1] rfl)
    · replace h := if_some q2 h
      refine lv_iload_n hx hb dX7_cell_4 rfl (lv_at hl 1 rfl) ?_
      refine lv_aload_n hx hb dX7_cell_5 rfl (lv_at hl 0 rfl) ?_
      refine va_get (D := D) (ci := 7) (v := .ref (hh 1)) (C := RX7) (T := TX7) (N := 4) hx hb hg uX7 hown hK.1 hP 0 rfl rfl 0 (by decide) (hg _ gw_184) (fun _ h9 => h9) rfl dX7_cell_6 ?_
      refine va_getN (D := D) (ci := 6) (v := .ref (hh 9)) (C := RX6) (T := TX6) (N := 7) hx hb hg uX6 hown hK.1 hP 1 rfl rfl 3 (by decide) (kk_nest hK nw_111) (fun _ h9 => h9) rfl dX7_cell_9 ?_
      refine va_getN (D := D) (ci := 3) (v := .int kCap) (C := RX3) (T := TX3) (N := 6) hx hb hg uX3 hown hK.1 hP 9 rfl rfl 0 (by decide) (kk_nest hK nw_76) (fun _ h9 => h9) rfl dX7_cell_12 ?_
      refine lv_icmp_ge (tgt := 22) hx hb dX7_cell_15 (by decide) (fun q4 => ?_) (fun q4 => ?_)
      · replace h := it_some q4 h
        refine lv_iconst (v := 0) hx hb dX7_cell_22 (by decide) ?_
        by_cases q5 : (0 : Int32) = 0
        · cases it_some q5 h
        replace h := if_some q5 h
        refine cS_v (As := [.int (0 : Int32)]) (rest := []) (wc := []) (wc' := []) hx hb hml hown hg hK hP hD hS hA hl.1 (k_X7_requireIndex l D cI cS cL (0 : Int32) q5) gs_X7_requireIndex gw_367 ⟨rfl, rfl, by decide, by decide⟩ ⟨Nat.zero_le _, Nat.zero_le _⟩ [] rfl rfl rfl rfl rfl (Nat.le_of_ble_eq_true rfl) dX7_cell_23 (fun H locs hP hD hS => ?_)
        have hP : va_P D vwCl (wX7 cI cS hh vCar vGoa vEag tN tF cN cF mP mS kCap kGap kCar kCop kGro kShr bN bF rCmd rLet rNum fCap fGap fCar fCop fGro fShr hX hC hR) H := hP
        have hD : va_D A (wX7 cI cS hh vCar vGoa vEag tN tF cN cF mP mS kCap kGap kCar kCop kGro kShr bN bF rCmd rLet rNum fCap fGap fCar fCop fGro fShr hX hC hR) := hD
        replace h := map_inl h
        exact c_26 h H locs hP hD hS ls (lv_sub hl [0, 1] rfl)
      · replace h := if_some q4 h
        refine lv_iconst (v := 1) hx hb dX7_cell_18 (by decide) ?_
        refine lv_goto (tgt := 23) hx hb dX7_cell_19 (by decide) ?_
        by_cases q6 : (1 : Int32) = 0
        · cases it_some q6 h
        replace h := if_some q6 h
        refine cS_v (As := [.int (1 : Int32)]) (rest := []) (wc := []) (wc' := []) hx hb hml hown hg hK hP hD hS hA hl.1 (k_X7_requireIndex l D cI cS cL (1 : Int32) q6) gs_X7_requireIndex gw_367 ⟨rfl, rfl, by decide, by decide⟩ ⟨Nat.zero_le _, Nat.zero_le _⟩ [] rfl rfl rfl rfl rfl (Nat.le_of_ble_eq_true rfl) dX7_cell_23 (fun H locs hP hD hS => ?_)
        have hP : va_P D vwCl (wX7 cI cS hh vCar vGoa vEag tN tF cN cF mP mS kCap kGap kCar kCop kGro kShr bN bF rCmd rLet rNum fCap fGap fCar fCop fGro fShr hX hC hR) H := hP
        have hD : va_D A (wX7 cI cS hh vCar vGoa vEag tN tF cN cF mP mS kCap kGap kCar kCop kGro kShr bN bF rCmd rLet rNum fCap fGap fCar fCop fGro fShr hX hC hR) := hD
        replace h := map_inl h
        exact c_26 h H locs hP hD hS ls (lv_sub hl [0, 1] rfl)
  exact hmain _ _ hP hS
abbrev rm_X7_copied : Room := { frames := 0, cells := 0, slots := 0, locals := 0 }
def f_X7_copied (Z : Nat) (kCop : Int32) : Option (Int32) :=
  some kCop
set_option maxRecDepth 100000 in
set_option maxHeartbeats 4000000 in
theorem k_X7_copied (l : Launch) (D : va_G) (cI cS cL : ClassId) (Z : Nat) (hh : Nat → Nat) (vCar : Int32) (vGoa : Int32) (vEag : Int32) (tN : Int32) (tF : Nat → Int32) (cN : Int32) (cF : Nat → Int32) (mP : Nat → Int32) (mS : Nat → Int32) (kCap : Int32) (kGap : Int32) (kCar : Int32) (kCop : Int32) (kGro : Int32) (kShr : Int32) (bN : Int32) (bF : Nat → Int32) (rCmd : Int32) (rLet : Int32) (rNum : Int32) (fCap : Int32) (fGap : Int32) (fCar : Int32) (fCop : Int32) (fGro : Int32) (fShr : Int32) (hX : Int32) (hC : Int32) (hR : Nat → StT) {r : Int32} (h : f_X7_copied Z kCop = some r) : CI l yX7_copied cX7_copied 1 (some .int) rm_X7_copied D cI cS cL [.ref (hh 0)] (wX7 cI cS hh vCar vGoa vEag tN tF cN cF mP mS kCap kGap kCar kCop kGro kShr bN bF rCmd rLet rNum fCap fGap fCar fCop fGro fShr hX hC hR) (wX7 cI cS hh vCar vGoa vEag tN tF cN cF mP mS kCap kGap kCar kCop kGro kShr bN bF rCmd rLet rNum fCap fGap fCar fCop fGro fShr hX hC hR) r := by
  refine ent_i (by decide +kernel) (Nat.le_of_ble_eq_true rfl) ?_
  intro p e s m args below meth c A ls hx hb hr hml hlocks hg hown hK hP hD hS hA hl
  have hown : s.vm.findClass RX7 = some m.cls := hown
  have hl : lv_has ls 1 [(0, .ref (hh 0))] := hl
  have hP : va_P D vwCl (wX7 cI cS hh vCar vGoa vEag tN tF cN cF mP mS kCap kGap kCar kCop kGro kShr bN bF rCmd rLet rNum fCap fGap fCar fCop fGro fShr hX hC hR) s.heap := hP
  have hD : va_D A (wX7 cI cS hh vCar vGoa vEag tN tF cN cF mP mS kCap kGap kCar kCop kGro kShr bN bF rCmd rLet rNum fCap fGap fCar fCop fGro fShr hX hC hR) := hD
  show W p l e rm_X7_copied s m args below meth c s.heap [] 0 0 (FI D below args s (wX7 cI cS hh vCar vGoa vEag tN tF cN cF mP mS kCap kGap kCar kCop kGro kShr bN bF rCmd rLet rNum fCap fGap fCar fCop fGro fShr hX hC hR) r A) (F0 m 0 ls [])
  unfold f_X7_copied at h
  have hmain : ∀ (H : Heap) (locs : List Loc), va_P D vwCl (wX7 cI cS hh vCar vGoa vEag tN tF cN cF mP mS kCap kGap kCar kCop kGro kShr bN bF rCmd rLet rNum fCap fGap fCar fCop fGro fShr hX hC hR) H → va_S A s.heap H locs → W p l e rm_X7_copied s m args below meth c H locs 0 0 (FI D below args s (wX7 cI cS hh vCar vGoa vEag tN tF cN cF mP mS kCap kGap kCar kCop kGro kShr bN bF rCmd rLet rNum fCap fGap fCar fCop fGro fShr hX hC hR) r A) (F0 m 0 ls []) := by
    intro H locs hP hS
    refine lv_aload_n hx hb dX7_copied_0 rfl (lv_at hl 0 rfl) ?_
    refine va_get (D := D) (ci := 7) (v := .ref (hh 1)) (C := RX7) (T := TX7) (N := 4) hx hb hg uX7 hown hK.1 hP 0 rfl rfl 0 (by decide) (hg _ gw_184) (fun _ h9 => h9) rfl dX7_copied_1 ?_
    refine va_getN (D := D) (ci := 6) (v := .ref (hh 9)) (C := RX6) (T := TX6) (N := 7) hx hb hg uX6 hown hK.1 hP 1 rfl rfl 3 (by decide) (kk_nest hK nw_111) (fun _ h9 => h9) rfl dX7_copied_4 ?_
    refine va_getN (D := D) (ci := 3) (v := .int kCop) (C := RX3) (T := TX3) (N := 6) hx hb hg uX3 hown hK.1 hP 9 rfl rfl 3 (by decide) (kk_nest hK nw_84) (fun _ h9 => h9) rfl dX7_copied_7 ?_
    cases h
    exact ret_i hx hb hr hlocks hP hD hS dX7_copied_10 rfl
  exact hmain _ _ hP hS
abbrev rm_X7_growths : Room := { frames := 0, cells := 0, slots := 0, locals := 0 }
def f_X7_growths (Z : Nat) (kGro : Int32) : Option (Int32) :=
  some kGro
set_option maxRecDepth 100000 in
set_option maxHeartbeats 4000000 in
theorem k_X7_growths (l : Launch) (D : va_G) (cI cS cL : ClassId) (Z : Nat) (hh : Nat → Nat) (vCar : Int32) (vGoa : Int32) (vEag : Int32) (tN : Int32) (tF : Nat → Int32) (cN : Int32) (cF : Nat → Int32) (mP : Nat → Int32) (mS : Nat → Int32) (kCap : Int32) (kGap : Int32) (kCar : Int32) (kCop : Int32) (kGro : Int32) (kShr : Int32) (bN : Int32) (bF : Nat → Int32) (rCmd : Int32) (rLet : Int32) (rNum : Int32) (fCap : Int32) (fGap : Int32) (fCar : Int32) (fCop : Int32) (fGro : Int32) (fShr : Int32) (hX : Int32) (hC : Int32) (hR : Nat → StT) {r : Int32} (h : f_X7_growths Z kGro = some r) : CI l yX7_growths cX7_growths 1 (some .int) rm_X7_growths D cI cS cL [.ref (hh 0)] (wX7 cI cS hh vCar vGoa vEag tN tF cN cF mP mS kCap kGap kCar kCop kGro kShr bN bF rCmd rLet rNum fCap fGap fCar fCop fGro fShr hX hC hR) (wX7 cI cS hh vCar vGoa vEag tN tF cN cF mP mS kCap kGap kCar kCop kGro kShr bN bF rCmd rLet rNum fCap fGap fCar fCop fGro fShr hX hC hR) r := by
  refine ent_i (by decide +kernel) (Nat.le_of_ble_eq_true rfl) ?_
  intro p e s m args below meth c A ls hx hb hr hml hlocks hg hown hK hP hD hS hA hl
  have hown : s.vm.findClass RX7 = some m.cls := hown
  have hl : lv_has ls 1 [(0, .ref (hh 0))] := hl
  have hP : va_P D vwCl (wX7 cI cS hh vCar vGoa vEag tN tF cN cF mP mS kCap kGap kCar kCop kGro kShr bN bF rCmd rLet rNum fCap fGap fCar fCop fGro fShr hX hC hR) s.heap := hP
  have hD : va_D A (wX7 cI cS hh vCar vGoa vEag tN tF cN cF mP mS kCap kGap kCar kCop kGro kShr bN bF rCmd rLet rNum fCap fGap fCar fCop fGro fShr hX hC hR) := hD
  show W p l e rm_X7_growths s m args below meth c s.heap [] 0 0 (FI D below args s (wX7 cI cS hh vCar vGoa vEag tN tF cN cF mP mS kCap kGap kCar kCop kGro kShr bN bF rCmd rLet rNum fCap fGap fCar fCop fGro fShr hX hC hR) r A) (F0 m 0 ls [])
  unfold f_X7_growths at h
  have hmain : ∀ (H : Heap) (locs : List Loc), va_P D vwCl (wX7 cI cS hh vCar vGoa vEag tN tF cN cF mP mS kCap kGap kCar kCop kGro kShr bN bF rCmd rLet rNum fCap fGap fCar fCop fGro fShr hX hC hR) H → va_S A s.heap H locs → W p l e rm_X7_growths s m args below meth c H locs 0 0 (FI D below args s (wX7 cI cS hh vCar vGoa vEag tN tF cN cF mP mS kCap kGap kCar kCop kGro kShr bN bF rCmd rLet rNum fCap fGap fCar fCop fGro fShr hX hC hR) r A) (F0 m 0 ls []) := by
    intro H locs hP hS
    refine lv_aload_n hx hb dX7_growths_0 rfl (lv_at hl 0 rfl) ?_
    refine va_get (D := D) (ci := 7) (v := .ref (hh 1)) (C := RX7) (T := TX7) (N := 4) hx hb hg uX7 hown hK.1 hP 0 rfl rfl 0 (by decide) (hg _ gw_184) (fun _ h9 => h9) rfl dX7_growths_1 ?_
    refine va_getN (D := D) (ci := 6) (v := .ref (hh 9)) (C := RX6) (T := TX6) (N := 7) hx hb hg uX6 hown hK.1 hP 1 rfl rfl 3 (by decide) (kk_nest hK nw_111) (fun _ h9 => h9) rfl dX7_growths_4 ?_
    refine va_getN (D := D) (ci := 3) (v := .int kGro) (C := RX3) (T := TX3) (N := 6) hx hb hg uX3 hown hK.1 hP 9 rfl rfl 4 (by decide) (kk_nest hK nw_87) (fun _ h9 => h9) rfl dX7_growths_7 ?_
    cases h
    exact ret_i hx hb hr hlocks hP hD hS dX7_growths_10 rfl
  exact hmain _ _ hP hS
abbrev rm_X7_shrinks : Room := { frames := 0, cells := 0, slots := 0, locals := 0 }
def f_X7_shrinks (Z : Nat) (kShr : Int32) : Option (Int32) :=
  some kShr
set_option maxRecDepth 100000 in
set_option maxHeartbeats 4000000 in
theorem k_X7_shrinks (l : Launch) (D : va_G) (cI cS cL : ClassId) (Z : Nat) (hh : Nat → Nat) (vCar : Int32) (vGoa : Int32) (vEag : Int32) (tN : Int32) (tF : Nat → Int32) (cN : Int32) (cF : Nat → Int32) (mP : Nat → Int32) (mS : Nat → Int32) (kCap : Int32) (kGap : Int32) (kCar : Int32) (kCop : Int32) (kGro : Int32) (kShr : Int32) (bN : Int32) (bF : Nat → Int32) (rCmd : Int32) (rLet : Int32) (rNum : Int32) (fCap : Int32) (fGap : Int32) (fCar : Int32) (fCop : Int32) (fGro : Int32) (fShr : Int32) (hX : Int32) (hC : Int32) (hR : Nat → StT) {r : Int32} (h : f_X7_shrinks Z kShr = some r) : CI l yX7_shrinks cX7_shrinks 1 (some .int) rm_X7_shrinks D cI cS cL [.ref (hh 0)] (wX7 cI cS hh vCar vGoa vEag tN tF cN cF mP mS kCap kGap kCar kCop kGro kShr bN bF rCmd rLet rNum fCap fGap fCar fCop fGro fShr hX hC hR) (wX7 cI cS hh vCar vGoa vEag tN tF cN cF mP mS kCap kGap kCar kCop kGro kShr bN bF rCmd rLet rNum fCap fGap fCar fCop fGro fShr hX hC hR) r := by
  refine ent_i (by decide +kernel) (Nat.le_of_ble_eq_true rfl) ?_
  intro p e s m args below meth c A ls hx hb hr hml hlocks hg hown hK hP hD hS hA hl
  have hown : s.vm.findClass RX7 = some m.cls := hown
  have hl : lv_has ls 1 [(0, .ref (hh 0))] := hl
  have hP : va_P D vwCl (wX7 cI cS hh vCar vGoa vEag tN tF cN cF mP mS kCap kGap kCar kCop kGro kShr bN bF rCmd rLet rNum fCap fGap fCar fCop fGro fShr hX hC hR) s.heap := hP
  have hD : va_D A (wX7 cI cS hh vCar vGoa vEag tN tF cN cF mP mS kCap kGap kCar kCop kGro kShr bN bF rCmd rLet rNum fCap fGap fCar fCop fGro fShr hX hC hR) := hD
  show W p l e rm_X7_shrinks s m args below meth c s.heap [] 0 0 (FI D below args s (wX7 cI cS hh vCar vGoa vEag tN tF cN cF mP mS kCap kGap kCar kCop kGro kShr bN bF rCmd rLet rNum fCap fGap fCar fCop fGro fShr hX hC hR) r A) (F0 m 0 ls [])
  unfold f_X7_shrinks at h
  have hmain : ∀ (H : Heap) (locs : List Loc), va_P D vwCl (wX7 cI cS hh vCar vGoa vEag tN tF cN cF mP mS kCap kGap kCar kCop kGro kShr bN bF rCmd rLet rNum fCap fGap fCar fCop fGro fShr hX hC hR) H → va_S A s.heap H locs → W p l e rm_X7_shrinks s m args below meth c H locs 0 0 (FI D below args s (wX7 cI cS hh vCar vGoa vEag tN tF cN cF mP mS kCap kGap kCar kCop kGro kShr bN bF rCmd rLet rNum fCap fGap fCar fCop fGro fShr hX hC hR) r A) (F0 m 0 ls []) := by
    intro H locs hP hS
    refine lv_aload_n hx hb dX7_shrinks_0 rfl (lv_at hl 0 rfl) ?_
    refine va_get (D := D) (ci := 7) (v := .ref (hh 1)) (C := RX7) (T := TX7) (N := 4) hx hb hg uX7 hown hK.1 hP 0 rfl rfl 0 (by decide) (hg _ gw_184) (fun _ h9 => h9) rfl dX7_shrinks_1 ?_
    refine va_getN (D := D) (ci := 6) (v := .ref (hh 9)) (C := RX6) (T := TX6) (N := 7) hx hb hg uX6 hown hK.1 hP 1 rfl rfl 3 (by decide) (kk_nest hK nw_111) (fun _ h9 => h9) rfl dX7_shrinks_4 ?_
    refine va_getN (D := D) (ci := 3) (v := .int kShr) (C := RX3) (T := TX3) (N := 6) hx hb hg uX3 hown hK.1 hP 9 rfl rfl 5 (by decide) (kk_nest hK nw_90) (fun _ h9 => h9) rfl dX7_shrinks_7 ?_
    cases h
    exact ret_i hx hb hr hlocks hP hD hS dX7_shrinks_10 rfl
  exact hmain _ _ hP hS
abbrev rm_X7_room : Room := { frames := 1, cells := 0, slots := 0, locals := 20 }
def f_X7_room (Z : Nat) (tN : Int32) (kCap : Int32) : Option (Int32) :=
  (f_X0_size Z 256 tN).bind fun r1 =>
  some (kCap - r1)
set_option maxRecDepth 100000 in
set_option maxHeartbeats 4000000 in
theorem k_X7_room (l : Launch) (D : va_G) (cI cS cL : ClassId) (Z : Nat) (hh : Nat → Nat) (vCar : Int32) (vGoa : Int32) (vEag : Int32) (tN : Int32) (tF : Nat → Int32) (cN : Int32) (cF : Nat → Int32) (mP : Nat → Int32) (mS : Nat → Int32) (kCap : Int32) (kGap : Int32) (kCar : Int32) (kCop : Int32) (kGro : Int32) (kShr : Int32) (bN : Int32) (bF : Nat → Int32) (rCmd : Int32) (rLet : Int32) (rNum : Int32) (fCap : Int32) (fGap : Int32) (fCar : Int32) (fCop : Int32) (fGro : Int32) (fShr : Int32) (hX : Int32) (hC : Int32) (hR : Nat → StT) {r : Int32} (h : f_X7_room Z tN kCap = some r) : CI l yX7_room cX7_room 1 (some .int) rm_X7_room D cI cS cL [.ref (hh 0)] (wX7 cI cS hh vCar vGoa vEag tN tF cN cF mP mS kCap kGap kCar kCop kGro kShr bN bF rCmd rLet rNum fCap fGap fCar fCop fGro fShr hX hC hR) (wX7 cI cS hh vCar vGoa vEag tN tF cN cF mP mS kCap kGap kCar kCop kGro kShr bN bF rCmd rLet rNum fCap fGap fCar fCop fGro fShr hX hC hR) r := by
  refine ent_i (by decide +kernel) (Nat.le_of_ble_eq_true rfl) ?_
  intro p e s m args below meth c A ls hx hb hr hml hlocks hg hown hK hP hD hS hA hl
  have hown : s.vm.findClass RX7 = some m.cls := hown
  have hl : lv_has ls 1 [(0, .ref (hh 0))] := hl
  have hP : va_P D vwCl (wX7 cI cS hh vCar vGoa vEag tN tF cN cF mP mS kCap kGap kCar kCop kGro kShr bN bF rCmd rLet rNum fCap fGap fCar fCop fGro fShr hX hC hR) s.heap := hP
  have hD : va_D A (wX7 cI cS hh vCar vGoa vEag tN tF cN cF mP mS kCap kGap kCar kCop kGro kShr bN bF rCmd rLet rNum fCap fGap fCar fCop fGro fShr hX hC hR) := hD
  show W p l e rm_X7_room s m args below meth c s.heap [] 0 0 (FI D below args s (wX7 cI cS hh vCar vGoa vEag tN tF cN cF mP mS kCap kGap kCar kCop kGro kShr bN bF rCmd rLet rNum fCap fGap fCar fCop fGro fShr hX hC hR) r A) (F0 m 0 ls [])
  unfold f_X7_room at h
  have hmain : ∀ (H : Heap) (locs : List Loc), va_P D vwCl (wX7 cI cS hh vCar vGoa vEag tN tF cN cF mP mS kCap kGap kCar kCop kGro kShr bN bF rCmd rLet rNum fCap fGap fCar fCop fGro fShr hX hC hR) H → va_S A s.heap H locs → W p l e rm_X7_room s m args below meth c H locs 0 0 (FI D below args s (wX7 cI cS hh vCar vGoa vEag tN tF cN cF mP mS kCap kGap kCar kCop kGro kShr bN bF rCmd rLet rNum fCap fGap fCar fCop fGro fShr hX hC hR) r A) (F0 m 0 ls []) := by
    intro H locs hP hS
    refine lv_aload_n hx hb dX7_room_0 rfl (lv_at hl 0 rfl) ?_
    refine va_get (D := D) (ci := 7) (v := .ref (hh 1)) (C := RX7) (T := TX7) (N := 4) hx hb hg uX7 hown hK.1 hP 0 rfl rfl 0 (by decide) (hg _ gw_184) (fun _ h9 => h9) rfl dX7_room_1 ?_
    refine va_getN (D := D) (ci := 6) (v := .ref (hh 9)) (C := RX6) (T := TX6) (N := 7) hx hb hg uX6 hown hK.1 hP 1 rfl rfl 3 (by decide) (kk_nest hK nw_111) (fun _ h9 => h9) rfl dX7_room_4 ?_
    refine va_getN (D := D) (ci := 3) (v := .int kCap) (C := RX3) (T := TX3) (N := 6) hx hb hg uX3 hown hK.1 hP 9 rfl rfl 0 (by decide) (kk_nest hK nw_76) (fun _ h9 => h9) rfl dX7_room_7 ?_
    refine lv_aload_n hx hb dX7_room_10 rfl (lv_at hl 0 rfl) ?_
    refine va_get (D := D) (ci := 7) (v := .ref (hh 1)) (C := RX7) (T := TX7) (N := 4) hx hb hg uX7 hown hK.1 hP 0 rfl rfl 0 (by decide) (hg _ gw_184) (fun _ h9 => h9) rfl dX7_room_11 ?_
    refine va_getN (D := D) (ci := 6) (v := .ref (hh 2)) (C := RX6) (T := TX6) (N := 7) hx hb hg uX6 hown hK.1 hP 1 rfl rfl 0 (by decide) (kk_nest hK nw_105) (fun _ h9 => h9) rfl dX7_room_14 ?_
    obtain ⟨r1, ec1, h⟩ := bd_some h
    refine cV_i (As := []) (rest := [.int kCap]) (wc := (wX0 cI (hh 2) (hh 3) 256 tN tF)) (wc' := (wX0 cI (hh 2) (hh 3) 256 tN tF)) hx hb hml hown hg hK hP hD hS hA hl.1 (k_X0_size l D cI cS cL Z (hh 2) (hh 3) 256 tN tF ec1) gm_X0_size gw_361 ⟨rfl, rfl, by decide, by decide⟩ ⟨Nat.zero_le _, Nat.zero_le _⟩ [2, 3] rfl rfl rfl rfl rfl rfl rfl rfl (Nat.le_of_ble_eq_true rfl) dX7_room_17 (fun H locs hP hD hS => ?_)
    have hP : va_P D vwCl (wX7 cI cS hh vCar vGoa vEag tN tF cN cF mP mS kCap kGap kCar kCop kGro kShr bN bF rCmd rLet rNum fCap fGap fCar fCop fGro fShr hX hC hR) H := hP
    have hD : va_D A (wX7 cI cS hh vCar vGoa vEag tN tF cN cF mP mS kCap kGap kCar kCop kGro kShr bN bF rCmd rLet rNum fCap fGap fCar fCop fGro fShr hX hC hR) := hD
    refine lv_isub hx hb dX7_room_20 ?_
    cases h
    exact ret_i hx hb hr hlocks hP hD hS dX7_room_21 rfl
  exact hmain _ _ hP hS
abbrev rm_X7_undo : Room := { frames := 5, cells := 0, slots := 0, locals := 107 }
def f_X7_undo_c18 (Z : Nat) (hR : Nat → StT) (vCar : Int32) (vGoa : Int32) (vEag : Int32) (tN : Int32) (tF : Nat → Int32) (cN : Int32) (cF : Nat → Int32) (mP : Nat → Int32) (mS : Nat → Int32) (kCap : Int32) (kGap : Int32) (kCar : Int32) (kCop : Int32) (kGro : Int32) (kShr : Int32) (hX : Int32) (hC : Int32) : Option (Int32 × Int32 × Int32 × Int32 × Int32 × (Nat → Int32) × Int32 × (Nat → Int32) × (Nat → Int32) × (Nat → Int32) × Int32 × Int32 × Int32 × Int32 × Int32 × Int32 × Int32 × Int32) :=
    (f_X2_restore Z hX hC hR vCar vGoa vEag tN tF cN cF mP mS kCap kGap kCar kCop kGro kShr).bind fun (hX_1, hC_1, vCar_1, vGoa_1, vEag_1, tN_1, tF_1, cN_1, cF_1, mP_1, mS_1, kCap_1, kGap_1, kCar_1, kCop_1, kGro_1, kShr_1) =>
    (f_X2_count Z hC_1).bind fun r2 =>
    some (r2, vCar_1, vGoa_1, vEag_1, tN_1, tF_1, cN_1, cF_1, mP_1, mS_1, kCap_1, kGap_1, kCar_1, kCop_1, kGro_1, kShr_1, hX_1, hC_1)
def f_X7_undo (Z : Nat) (vCar : Int32) (vGoa : Int32) (vEag : Int32) (tN : Int32) (tF : Nat → Int32) (cN : Int32) (cF : Nat → Int32) (mP : Nat → Int32) (mS : Nat → Int32) (kCap : Int32) (kGap : Int32) (kCar : Int32) (kCop : Int32) (kGro : Int32) (kShr : Int32) (hX : Int32) (hC : Int32) (hR : Nat → StT) : Option ((Int32 × Int32 × Int32 × Int32 × Int32 × (Nat → Int32) × Int32 × (Nat → Int32) × (Nat → Int32) × (Nat → Int32) × Int32 × Int32 × Int32 × Int32 × Int32 × Int32 × Int32 × Int32) ⊕ String) :=
  (f_X2_count Z hC).bind fun r3 =>
  if r3 ≤ 0 then
    if (0 : Int32) = 0 then
      some (.inr "java/lang/IllegalStateException")
    else
    (f_X7_undo_c18 Z hR vCar vGoa vEag tN tF cN cF mP mS kCap kGap kCar kCop kGro kShr hX hC).map Sum.inl
  else
    if (1 : Int32) = 0 then
      some (.inr "java/lang/IllegalStateException")
    else
    (f_X7_undo_c18 Z hR vCar vGoa vEag tN tF cN cF mP mS kCap kGap kCar kCop kGro kShr hX hC).map Sum.inl
set_option maxRecDepth 100000 in
set_option maxHeartbeats 4000000 in
theorem k_X7_undo (l : Launch) (D : va_G) (cI cS cL : ClassId) (Z : Nat) (hh : Nat → Nat) (vCar : Int32) (vGoa : Int32) (vEag : Int32) (tN : Int32) (tF : Nat → Int32) (cN : Int32) (cF : Nat → Int32) (mP : Nat → Int32) (mS : Nat → Int32) (kCap : Int32) (kGap : Int32) (kCar : Int32) (kCop : Int32) (kGro : Int32) (kShr : Int32) (bN : Int32) (bF : Nat → Int32) (rCmd : Int32) (rLet : Int32) (rNum : Int32) (fCap : Int32) (fGap : Int32) (fCar : Int32) (fCop : Int32) (fGro : Int32) (fShr : Int32) (hX : Int32) (hC : Int32) (hR : Nat → StT) {r : Int32} {vCar' : Int32} {vGoa' : Int32} {vEag' : Int32} {tN' : Int32} {tF' : Nat → Int32} {cN' : Int32} {cF' : Nat → Int32} {mP' : Nat → Int32} {mS' : Nat → Int32} {kCap' : Int32} {kGap' : Int32} {kCar' : Int32} {kCop' : Int32} {kGro' : Int32} {kShr' : Int32} {hX' : Int32} {hC' : Int32} (h : f_X7_undo Z vCar vGoa vEag tN tF cN cF mP mS kCap kGap kCar kCop kGro kShr hX hC hR = some (.inl (r, vCar', vGoa', vEag', tN', tF', cN', cF', mP', mS', kCap', kGap', kCar', kCop', kGro', kShr', hX', hC'))) : CI l yX7_undo cX7_undo 1 (some .int) rm_X7_undo D cI cS cL [.ref (hh 0)] (wX7 cI cS hh vCar vGoa vEag tN tF cN cF mP mS kCap kGap kCar kCop kGro kShr bN bF rCmd rLet rNum fCap fGap fCar fCop fGro fShr hX hC hR) (wX7 cI cS hh (vCar') (vGoa') (vEag') (tN') (tF') (cN') (cF') (mP') (mS') (kCap') (kGap') (kCar') (kCop') (kGro') (kShr') bN bF rCmd rLet rNum fCap fGap fCar fCop fGro fShr (hX') (hC') hR) r := by
  refine ent_i (by decide +kernel) (Nat.le_of_ble_eq_true rfl) ?_
  intro p e s m args below meth c A ls hx hb hr hml hlocks hg hown hK hP hD hS hA hl
  have hown : s.vm.findClass RX7 = some m.cls := hown
  have c_18 : ∀ (vCar : Int32) (vGoa : Int32) (vEag : Int32) (tN : Int32) (tF : Nat → Int32) (cN : Int32) (cF : Nat → Int32) (mP : Nat → Int32) (mS : Nat → Int32) (kCap : Int32) (kGap : Int32) (kCar : Int32) (kCop : Int32) (kGro : Int32) (kShr : Int32) (hX : Int32) (hC : Int32), f_X7_undo_c18 Z hR vCar vGoa vEag tN tF cN cF mP mS kCap kGap kCar kCop kGro kShr hX hC = some (r, vCar', vGoa', vEag', tN', tF', cN', cF', mP', mS', kCap', kGap', kCar', kCop', kGro', kShr', hX', hC') → ∀ (H : Heap) (locs : List Loc), va_P D vwCl (wX7 cI cS hh vCar vGoa vEag tN tF cN cF mP mS kCap kGap kCar kCop kGro kShr bN bF rCmd rLet rNum fCap fGap fCar fCop fGro fShr hX hC hR) H → va_D A (wX7 cI cS hh vCar vGoa vEag tN tF cN cF mP mS kCap kGap kCar kCop kGro kShr bN bF rCmd rLet rNum fCap fGap fCar fCop fGro fShr hX hC hR) → va_S A s.heap H locs → ∀ ls : Array Slot, lv_has ls 1 [(0, .ref (hh 0))] → W p l e rm_X7_undo s m args below meth c H locs 0 0 (FI D below args s (wX7 cI cS hh (vCar') (vGoa') (vEag') (tN') (tF') (cN') (cF') (mP') (mS') (kCap') (kGap') (kCar') (kCop') (kGro') (kShr') bN bF rCmd rLet rNum fCap fGap fCar fCop fGro fShr (hX') (hC') hR) r A) (F0 m 18 ls []) := by
    intro vCar vGoa vEag tN tF cN cF mP mS kCap kGap kCar kCop kGro kShr hX hC h H locs hP hD hS ls hl
    unfold f_X7_undo_c18 at h
    refine lv_aload_n hx hb dX7_undo_18 rfl (lv_at hl 0 rfl) ?_
    refine va_get (D := D) (ci := 7) (v := .ref (hh 15)) (C := RX7) (T := TX7) (N := 4) hx hb hg uX7 hown hK.1 hP 0 rfl rfl 1 (by decide) (hg _ gw_185) (fun _ h9 => h9) rfl dX7_undo_19 ?_
    refine lv_aload_n hx hb dX7_undo_22 rfl (lv_at hl 0 rfl) ?_
    refine va_get (D := D) (ci := 7) (v := .ref (hh 1)) (C := RX7) (T := TX7) (N := 4) hx hb hg uX7 hown hK.1 hP 0 rfl rfl 0 (by decide) (hg _ gw_184) (fun _ h9 => h9) rfl dX7_undo_23 ?_
    obtain ⟨⟨hX_1, hC_1, vCar_1, vGoa_1, vEag_1, tN_1, tF_1, cN_1, cF_1, mP_1, mS_1, kCap_1, kGap_1, kCar_1, kCop_1, kGro_1, kShr_1⟩, ec1, h⟩ := bd_some h
    refine cP_v (As := [.ref (hh 1)]) (rest := []) (wc := (wX2t cI cS (fun i => hh (15 + i)) hX hC hR (wX6 cI (hh 1) (hh 2) (hh 3) (hh 4) (hh 5) (hh 6) (hh 7) (hh 8) (hh 9) vCar vGoa vEag tN tF cN cF mP mS kCap kGap kCar kCop kGro kShr))) (wc' := (wX2t cI cS (fun i => hh (15 + i)) hX_1 hC_1 hR (wX6 cI (hh 1) (hh 2) (hh 3) (hh 4) (hh 5) (hh 6) (hh 7) (hh 8) (hh 9) vCar_1 vGoa_1 vEag_1 tN_1 tF_1 cN_1 cF_1 mP_1 mS_1 kCap_1 kGap_1 kCar_1 kCop_1 kGro_1 kShr_1))) (ws' := (wX7 cI cS hh vCar_1 vGoa_1 vEag_1 tN_1 tF_1 cN_1 cF_1 mP_1 mS_1 kCap_1 kGap_1 kCar_1 kCop_1 kGro_1 kShr_1 bN bF rCmd rLet rNum fCap fGap fCar fCop fGro fShr hX_1 hC_1 hR)) hx hb hml hown hg hK hP hD hS hA hl.1 (k_X2_restore l D cI cS cL Z (fun i => hh (15 + i)) (hh 1) (hh 2) (hh 3) (hh 4) (hh 5) (hh 6) (hh 7) (hh 8) (hh 9) hX hC hR vCar vGoa vEag tN tF cN cF mP mS kCap kGap kCar kCop kGro kShr ec1) gm_X2_restore gw_271 ⟨rfl, rfl, by decide, by decide⟩ ⟨Nat.zero_le _, Nat.zero_le _⟩ pm_7 pm_7 fst_X2t rfl rfl rfl rfl rfl (Nat.le_of_ble_eq_true rfl) dX7_undo_26 (fun H locs hP hD hS => ?_)
    refine lv_aload_n hx hb dX7_undo_29 rfl (lv_at hl 0 rfl) ?_
    refine va_get (D := D) (ci := 7) (v := .ref (hh 15)) (C := RX7) (T := TX7) (N := 4) hx hb hg uX7 hown hK.1 hP 0 rfl rfl 1 (by decide) (hg _ gw_185) (fun _ h9 => h9) rfl dX7_undo_30 ?_
    obtain ⟨r2, ec2, h⟩ := bd_some h
    refine cV_i (As := []) (rest := []) (wc := (wX2h cS (fun i => hh (15 + i)) hX_1 hC_1)) (wc' := (wX2h cS (fun i => hh (15 + i)) hX_1 hC_1)) hx hb hml hown hg hK hP hD hS hA hl.1 (k_X2_count l D cI cS cL Z (fun i => hh (15 + i)) hX_1 hC_1 ec2) gm_X2_count gw_201 ⟨rfl, rfl, by decide, by decide⟩ ⟨Nat.zero_le _, Nat.zero_le _⟩ [15, 16] rfl rfl rfl rfl rfl rfl rfl rfl (Nat.le_of_ble_eq_true rfl) dX7_undo_33 (fun H locs hP hD hS => ?_)
    have hP : va_P D vwCl (wX7 cI cS hh vCar_1 vGoa_1 vEag_1 tN_1 tF_1 cN_1 cF_1 mP_1 mS_1 kCap_1 kGap_1 kCar_1 kCop_1 kGro_1 kShr_1 bN bF rCmd rLet rNum fCap fGap fCar fCop fGro fShr hX_1 hC_1 hR) H := hP
    have hD : va_D A (wX7 cI cS hh vCar_1 vGoa_1 vEag_1 tN_1 tF_1 cN_1 cF_1 mP_1 mS_1 kCap_1 kGap_1 kCar_1 kCop_1 kGro_1 kShr_1 bN bF rCmd rLet rNum fCap fGap fCar fCop fGro fShr hX_1 hC_1 hR) := hD
    cases h
    exact ret_i hx hb hr hlocks hP hD hS dX7_undo_36 rfl
  have hl : lv_has ls 1 [(0, .ref (hh 0))] := hl
  have hP : va_P D vwCl (wX7 cI cS hh vCar vGoa vEag tN tF cN cF mP mS kCap kGap kCar kCop kGro kShr bN bF rCmd rLet rNum fCap fGap fCar fCop fGro fShr hX hC hR) s.heap := hP
  have hD : va_D A (wX7 cI cS hh vCar vGoa vEag tN tF cN cF mP mS kCap kGap kCar kCop kGro kShr bN bF rCmd rLet rNum fCap fGap fCar fCop fGro fShr hX hC hR) := hD
  show W p l e rm_X7_undo s m args below meth c s.heap [] 0 0 (FI D below args s (wX7 cI cS hh (vCar') (vGoa') (vEag') (tN') (tF') (cN') (cF') (mP') (mS') (kCap') (kGap') (kCar') (kCop') (kGro') (kShr') bN bF rCmd rLet rNum fCap fGap fCar fCop fGro fShr (hX') (hC') hR) r A) (F0 m 0 ls [])
  unfold f_X7_undo at h
  have hmain : ∀ (H : Heap) (locs : List Loc), va_P D vwCl (wX7 cI cS hh vCar vGoa vEag tN tF cN cF mP mS kCap kGap kCar kCop kGro kShr bN bF rCmd rLet rNum fCap fGap fCar fCop fGro fShr hX hC hR) H → va_S A s.heap H locs → W p l e rm_X7_undo s m args below meth c H locs 0 0 (FI D below args s (wX7 cI cS hh (vCar') (vGoa') (vEag') (tN') (tF') (cN') (cF') (mP') (mS') (kCap') (kGap') (kCar') (kCop') (kGro') (kShr') bN bF rCmd rLet rNum fCap fGap fCar fCop fGro fShr (hX') (hC') hR) r A) (F0 m 0 ls []) := by
    intro H locs hP hS
    refine lv_aload_n hx hb dX7_undo_0 rfl (lv_at hl 0 rfl) ?_
    refine va_get (D := D) (ci := 7) (v := .ref (hh 15)) (C := RX7) (T := TX7) (N := 4) hx hb hg uX7 hown hK.1 hP 0 rfl rfl 1 (by decide) (hg _ gw_185) (fun _ h9 => h9) rfl dX7_undo_1 ?_
    obtain ⟨r3, ec3, h⟩ := bd_some h
    refine cV_i (As := []) (rest := []) (wc := (wX2h cS (fun i => hh (15 + i)) hX hC)) (wc' := (wX2h cS (fun i => hh (15 + i)) hX hC)) hx hb hml hown hg hK hP hD hS hA hl.1 (k_X2_count l D cI cS cL Z (fun i => hh (15 + i)) hX hC ec3) gm_X2_count gw_201 ⟨rfl, rfl, by decide, by decide⟩ ⟨Nat.zero_le _, Nat.zero_le _⟩ [15, 16] rfl rfl rfl rfl rfl rfl rfl rfl (Nat.le_of_ble_eq_true rfl) dX7_undo_4 (fun H locs hP hD hS => ?_)
    have hP : va_P D vwCl (wX7 cI cS hh vCar vGoa vEag tN tF cN cF mP mS kCap kGap kCar kCop kGro kShr bN bF rCmd rLet rNum fCap fGap fCar fCop fGro fShr hX hC hR) H := hP
    have hD : va_D A (wX7 cI cS hh vCar vGoa vEag tN tF cN cF mP mS kCap kGap kCar kCop kGro kShr bN bF rCmd rLet rNum fCap fGap fCar fCop fGro fShr hX hC hR) := hD
    refine lv_if_le (tgt := 14) hx hb dX7_undo_7 (by decide) (fun q4 => ?_) (fun q4 => ?_)
    · replace h := it_some q4 h
      refine lv_iconst (v := 0) hx hb dX7_undo_14 (by decide) ?_
      by_cases q5 : (0 : Int32) = 0
      · cases it_some q5 h
      replace h := if_some q5 h
      refine cS_v (As := [.int (0 : Int32)]) (rest := []) (wc := []) (wc' := []) hx hb hml hown hg hK hP hD hS hA hl.1 (k_X7_requireState l D cI cS cL (0 : Int32) q5) gs_X7_requireState gw_205 ⟨rfl, rfl, by decide, by decide⟩ ⟨Nat.zero_le _, Nat.zero_le _⟩ [] rfl rfl rfl rfl rfl (Nat.le_of_ble_eq_true rfl) dX7_undo_15 (fun H locs hP hD hS => ?_)
      have hP : va_P D vwCl (wX7 cI cS hh vCar vGoa vEag tN tF cN cF mP mS kCap kGap kCar kCop kGro kShr bN bF rCmd rLet rNum fCap fGap fCar fCop fGro fShr hX hC hR) H := hP
      have hD : va_D A (wX7 cI cS hh vCar vGoa vEag tN tF cN cF mP mS kCap kGap kCar kCop kGro kShr bN bF rCmd rLet rNum fCap fGap fCar fCop fGro fShr hX hC hR) := hD
      replace h := map_inl h
      exact c_18 vCar vGoa vEag tN tF cN cF mP mS kCap kGap kCar kCop kGro kShr hX hC h H locs hP hD hS ls (lv_sub hl [0] rfl)
    · replace h := if_some q4 h
      refine lv_iconst (v := 1) hx hb dX7_undo_10 (by decide) ?_
      refine lv_goto (tgt := 15) hx hb dX7_undo_11 (by decide) ?_
      by_cases q6 : (1 : Int32) = 0
      · cases it_some q6 h
      replace h := if_some q6 h
      refine cS_v (As := [.int (1 : Int32)]) (rest := []) (wc := []) (wc' := []) hx hb hml hown hg hK hP hD hS hA hl.1 (k_X7_requireState l D cI cS cL (1 : Int32) q6) gs_X7_requireState gw_205 ⟨rfl, rfl, by decide, by decide⟩ ⟨Nat.zero_le _, Nat.zero_le _⟩ [] rfl rfl rfl rfl rfl (Nat.le_of_ble_eq_true rfl) dX7_undo_15 (fun H locs hP hD hS => ?_)
      have hP : va_P D vwCl (wX7 cI cS hh vCar vGoa vEag tN tF cN cF mP mS kCap kGap kCar kCop kGro kShr bN bF rCmd rLet rNum fCap fGap fCar fCop fGro fShr hX hC hR) H := hP
      have hD : va_D A (wX7 cI cS hh vCar vGoa vEag tN tF cN cF mP mS kCap kGap kCar kCop kGro kShr bN bF rCmd rLet rNum fCap fGap fCar fCop fGro fShr hX hC hR) := hD
      replace h := map_inl h
      exact c_18 vCar vGoa vEag tN tF cN cF mP mS kCap kGap kCar kCop kGro kShr hX hC h H locs hP hD hS ls (lv_sub hl [0] rfl)
  exact hmain _ _ hP hS
abbrev rm_X7_savedStates : Room := { frames := 1, cells := 0, slots := 0, locals := 20 }
def f_X7_savedStates (Z : Nat) (hC : Int32) : Option (Int32) :=
  (f_X2_count Z hC).bind fun r1 =>
  some r1
set_option maxRecDepth 100000 in
set_option maxHeartbeats 4000000 in
theorem k_X7_savedStates (l : Launch) (D : va_G) (cI cS cL : ClassId) (Z : Nat) (hh : Nat → Nat) (vCar : Int32) (vGoa : Int32) (vEag : Int32) (tN : Int32) (tF : Nat → Int32) (cN : Int32) (cF : Nat → Int32) (mP : Nat → Int32) (mS : Nat → Int32) (kCap : Int32) (kGap : Int32) (kCar : Int32) (kCop : Int32) (kGro : Int32) (kShr : Int32) (bN : Int32) (bF : Nat → Int32) (rCmd : Int32) (rLet : Int32) (rNum : Int32) (fCap : Int32) (fGap : Int32) (fCar : Int32) (fCop : Int32) (fGro : Int32) (fShr : Int32) (hX : Int32) (hC : Int32) (hR : Nat → StT) {r : Int32} (h : f_X7_savedStates Z hC = some r) : CI l yX7_savedStates cX7_savedStates 1 (some .int) rm_X7_savedStates D cI cS cL [.ref (hh 0)] (wX7 cI cS hh vCar vGoa vEag tN tF cN cF mP mS kCap kGap kCar kCop kGro kShr bN bF rCmd rLet rNum fCap fGap fCar fCop fGro fShr hX hC hR) (wX7 cI cS hh vCar vGoa vEag tN tF cN cF mP mS kCap kGap kCar kCop kGro kShr bN bF rCmd rLet rNum fCap fGap fCar fCop fGro fShr hX hC hR) r := by
  refine ent_i (by decide +kernel) (Nat.le_of_ble_eq_true rfl) ?_
  intro p e s m args below meth c A ls hx hb hr hml hlocks hg hown hK hP hD hS hA hl
  have hown : s.vm.findClass RX7 = some m.cls := hown
  have hl : lv_has ls 1 [(0, .ref (hh 0))] := hl
  have hP : va_P D vwCl (wX7 cI cS hh vCar vGoa vEag tN tF cN cF mP mS kCap kGap kCar kCop kGro kShr bN bF rCmd rLet rNum fCap fGap fCar fCop fGro fShr hX hC hR) s.heap := hP
  have hD : va_D A (wX7 cI cS hh vCar vGoa vEag tN tF cN cF mP mS kCap kGap kCar kCop kGro kShr bN bF rCmd rLet rNum fCap fGap fCar fCop fGro fShr hX hC hR) := hD
  show W p l e rm_X7_savedStates s m args below meth c s.heap [] 0 0 (FI D below args s (wX7 cI cS hh vCar vGoa vEag tN tF cN cF mP mS kCap kGap kCar kCop kGro kShr bN bF rCmd rLet rNum fCap fGap fCar fCop fGro fShr hX hC hR) r A) (F0 m 0 ls [])
  unfold f_X7_savedStates at h
  have hmain : ∀ (H : Heap) (locs : List Loc), va_P D vwCl (wX7 cI cS hh vCar vGoa vEag tN tF cN cF mP mS kCap kGap kCar kCop kGro kShr bN bF rCmd rLet rNum fCap fGap fCar fCop fGro fShr hX hC hR) H → va_S A s.heap H locs → W p l e rm_X7_savedStates s m args below meth c H locs 0 0 (FI D below args s (wX7 cI cS hh vCar vGoa vEag tN tF cN cF mP mS kCap kGap kCar kCop kGro kShr bN bF rCmd rLet rNum fCap fGap fCar fCop fGro fShr hX hC hR) r A) (F0 m 0 ls []) := by
    intro H locs hP hS
    refine lv_aload_n hx hb dX7_savedStates_0 rfl (lv_at hl 0 rfl) ?_
    refine va_get (D := D) (ci := 7) (v := .ref (hh 15)) (C := RX7) (T := TX7) (N := 4) hx hb hg uX7 hown hK.1 hP 0 rfl rfl 1 (by decide) (hg _ gw_185) (fun _ h9 => h9) rfl dX7_savedStates_1 ?_
    obtain ⟨r1, ec1, h⟩ := bd_some h
    refine cV_i (As := []) (rest := []) (wc := (wX2h cS (fun i => hh (15 + i)) hX hC)) (wc' := (wX2h cS (fun i => hh (15 + i)) hX hC)) hx hb hml hown hg hK hP hD hS hA hl.1 (k_X2_count l D cI cS cL Z (fun i => hh (15 + i)) hX hC ec1) gm_X2_count gw_201 ⟨rfl, rfl, by decide, by decide⟩ ⟨Nat.zero_le _, Nat.zero_le _⟩ [15, 16] rfl rfl rfl rfl rfl rfl rfl rfl (Nat.le_of_ble_eq_true rfl) dX7_savedStates_4 (fun H locs hP hD hS => ?_)
    have hP : va_P D vwCl (wX7 cI cS hh vCar vGoa vEag tN tF cN cF mP mS kCap kGap kCar kCop kGro kShr bN bF rCmd rLet rNum fCap fGap fCar fCop fGro fShr hX hC hR) H := hP
    have hD : va_D A (wX7 cI cS hh vCar vGoa vEag tN tF cN cF mP mS kCap kGap kCar kCop kGro kShr bN bF rCmd rLet rNum fCap fGap fCar fCop fGro fShr hX hC hR) := hD
    cases h
    exact ret_i hx hb hr hlocks hP hD hS dX7_savedStates_7 rfl
  exact hmain _ _ hP hS
abbrev rm_X7_digest : Room := { frames := 4, cells := 0, slots := 0, locals := 87 }
def f_X7_digest (Z : Nat) (vCar : Int32) (vEag : Int32) (tN : Int32) (tF : Nat → Int32) (cN : Int32) (cF : Nat → Int32) (mP : Nat → Int32) (kCap : Int32) (kGap : Int32) (kCar : Int32) (kCop : Int32) (kGro : Int32) (kShr : Int32) : Option (Int64) :=
  (f_X6_hash Z vCar vEag tN tF cN cF mP kCap kGap kCar kCop kGro kShr).bind fun r1 =>
  some r1
set_option maxRecDepth 100000 in
set_option maxHeartbeats 4000000 in
theorem k_X7_digest (l : Launch) (D : va_G) (cI cS cL : ClassId) (Z : Nat) (hh : Nat → Nat) (vCar : Int32) (vGoa : Int32) (vEag : Int32) (tN : Int32) (tF : Nat → Int32) (cN : Int32) (cF : Nat → Int32) (mP : Nat → Int32) (mS : Nat → Int32) (kCap : Int32) (kGap : Int32) (kCar : Int32) (kCop : Int32) (kGro : Int32) (kShr : Int32) (bN : Int32) (bF : Nat → Int32) (rCmd : Int32) (rLet : Int32) (rNum : Int32) (fCap : Int32) (fGap : Int32) (fCar : Int32) (fCop : Int32) (fGro : Int32) (fShr : Int32) (hX : Int32) (hC : Int32) (hR : Nat → StT) {r : Int64} (h : f_X7_digest Z vCar vEag tN tF cN cF mP kCap kGap kCar kCop kGro kShr = some r) : CJ l yX7_digest cX7_digest 1 (some .long) rm_X7_digest D cI cS cL [.ref (hh 0)] (wX7 cI cS hh vCar vGoa vEag tN tF cN cF mP mS kCap kGap kCar kCop kGro kShr bN bF rCmd rLet rNum fCap fGap fCar fCop fGro fShr hX hC hR) (wX7 cI cS hh vCar vGoa vEag tN tF cN cF mP mS kCap kGap kCar kCop kGro kShr bN bF rCmd rLet rNum fCap fGap fCar fCop fGro fShr hX hC hR) r := by
  refine ent_j (by decide +kernel) (Nat.le_of_ble_eq_true rfl) ?_
  intro p e s m args below meth c A ls hx hb hr hml hlocks hg hown hK hP hD hS hA hl
  have hown : s.vm.findClass RX7 = some m.cls := hown
  have hl : lv_has ls 1 [(0, .ref (hh 0))] := hl
  have hP : va_P D vwCl (wX7 cI cS hh vCar vGoa vEag tN tF cN cF mP mS kCap kGap kCar kCop kGro kShr bN bF rCmd rLet rNum fCap fGap fCar fCop fGro fShr hX hC hR) s.heap := hP
  have hD : va_D A (wX7 cI cS hh vCar vGoa vEag tN tF cN cF mP mS kCap kGap kCar kCop kGro kShr bN bF rCmd rLet rNum fCap fGap fCar fCop fGro fShr hX hC hR) := hD
  show W p l e rm_X7_digest s m args below meth c s.heap [] 0 0 (FJ D below args s (wX7 cI cS hh vCar vGoa vEag tN tF cN cF mP mS kCap kGap kCar kCop kGro kShr bN bF rCmd rLet rNum fCap fGap fCar fCop fGro fShr hX hC hR) r A) (F0 m 0 ls [])
  unfold f_X7_digest at h
  have hmain : ∀ (H : Heap) (locs : List Loc), va_P D vwCl (wX7 cI cS hh vCar vGoa vEag tN tF cN cF mP mS kCap kGap kCar kCop kGro kShr bN bF rCmd rLet rNum fCap fGap fCar fCop fGro fShr hX hC hR) H → va_S A s.heap H locs → W p l e rm_X7_digest s m args below meth c H locs 0 0 (FJ D below args s (wX7 cI cS hh vCar vGoa vEag tN tF cN cF mP mS kCap kGap kCar kCop kGro kShr bN bF rCmd rLet rNum fCap fGap fCar fCop fGro fShr hX hC hR) r A) (F0 m 0 ls []) := by
    intro H locs hP hS
    refine lv_aload_n hx hb dX7_digest_0 rfl (lv_at hl 0 rfl) ?_
    refine va_get (D := D) (ci := 7) (v := .ref (hh 1)) (C := RX7) (T := TX7) (N := 4) hx hb hg uX7 hown hK.1 hP 0 rfl rfl 0 (by decide) (hg _ gw_184) (fun _ h9 => h9) rfl dX7_digest_1 ?_
    obtain ⟨r1, ec1, h⟩ := bd_some h
    refine cV_l (As := []) (rest := []) (wc := (wX6 cI (hh 1) (hh 2) (hh 3) (hh 4) (hh 5) (hh 6) (hh 7) (hh 8) (hh 9) vCar vGoa vEag tN tF cN cF mP mS kCap kGap kCar kCop kGro kShr)) (wc' := (wX6 cI (hh 1) (hh 2) (hh 3) (hh 4) (hh 5) (hh 6) (hh 7) (hh 8) (hh 9) vCar vGoa vEag tN tF cN cF mP mS kCap kGap kCar kCop kGro kShr)) hx hb hml hown hg hK hP hD hS hA hl.1 (k_X6_hash l D cI cS cL Z (hh 1) (hh 2) (hh 3) (hh 4) (hh 5) (hh 6) (hh 7) (hh 8) (hh 9) vCar vGoa vEag tN tF cN cF mP mS kCap kGap kCar kCop kGro kShr ec1) gm_X6_hash gw_313 ⟨rfl, rfl, by decide, by decide⟩ ⟨Nat.zero_le _, Nat.zero_le _⟩ [1, 2, 3, 4, 5, 6, 7, 8, 9] rfl rfl rfl rfl rfl rfl rfl rfl (Nat.le_of_ble_eq_true rfl) dX7_digest_4 (fun H locs hP hD hS => ?_)
    have hP : va_P D vwCl (wX7 cI cS hh vCar vGoa vEag tN tF cN cF mP mS kCap kGap kCar kCop kGro kShr bN bF rCmd rLet rNum fCap fGap fCar fCop fGro fShr hX hC hR) H := hP
    have hD : va_D A (wX7 cI cS hh vCar vGoa vEag tN tF cN cF mP mS kCap kGap kCar kCop kGro kShr bN bF rCmd rLet rNum fCap fGap fCar fCop fGro fShr hX hC hR) := hD
    cases h
    exact ret_j hx hb hr hlocks hP hD hS dX7_digest_7 rfl
  exact hmain _ _ hP hS
