abbrev rm_X7_type : Room := { frames := 5, cells := 0, slots := 0, locals := 113 }
def f_X7_type_c26 (Z : Nat) (p1 : Int32) (vEag : Int32) (cN : Int32) (cF : Nat → Int32) (mS : Nat → Int32) (kShr : Int32) (vCar : Int32) (vGoa : Int32) (tN : Int32) (tF : Nat → Int32) (mP : Nat → Int32) (kCap : Int32) (kGap : Int32) (kCar : Int32) (kCop : Int32) (kGro : Int32) (hX : Int32) (hC : Int32) (hR : Nat → StT) : Option (Int32 × Int32 × Int32 × Int32 × (Nat → Int32) × (Nat → Int32) × Int32 × Int32 × Int32 × Int32 × Int32 × Int32 × Int32 × (Nat → StT)) :=
    (f_X2_save Z hX hC hR vCar vGoa vEag tN tF cN cF mP mS kCap kGap kCar kCop kGro kShr).bind fun (hX_1, hC_1, hR_1) =>
    (f_X6_insertRepeated Z p1 1 vCar vGoa tN tF mP mS kCap kGap kCar kCop kGro).bind fun (vCar_2, vGoa_2, tN_2, tF_2, mP_2, kCap_2, kGap_2, kCar_2, kCop_2, kGro_2) =>
    (f_X0_size Z 256 tN_2).bind fun r3 =>
    some (r3, vCar_2, vGoa_2, tN_2, tF_2, mP_2, kCap_2, kGap_2, kCar_2, kCop_2, kGro_2, hX_1, hC_1, hR_1)
def f_X7_type (Z : Nat) (p1 : Int32) (vCar : Int32) (vGoa : Int32) (vEag : Int32) (tN : Int32) (tF : Nat → Int32) (cN : Int32) (cF : Nat → Int32) (mP : Nat → Int32) (mS : Nat → Int32) (kCap : Int32) (kGap : Int32) (kCar : Int32) (kCop : Int32) (kGro : Int32) (kShr : Int32) (hX : Int32) (hC : Int32) (hR : Nat → StT) : Option ((Int32 × Int32 × Int32 × Int32 × (Nat → Int32) × (Nat → Int32) × Int32 × Int32 × Int32 × Int32 × Int32 × Int32 × Int32 × (Nat → StT)) ⊕ String) :=
  (f_X7_isByte Z p1).bind fun r4 =>
  if r4 = 0 then
    some (.inr "java/lang/IllegalArgumentException")
  else
  (f_X6_insertFault Z 1 tN).bind fun r6 =>
  if r6 = 0 then
    if (1 : Int32) = 0 then
      some (.inr "java/lang/IllegalStateException")
    else
    (f_X7_type_c26 Z p1 vEag cN cF mS kShr vCar vGoa tN tF mP kCap kGap kCar kCop kGro hX hC hR).map Sum.inl
  else
    if (0 : Int32) = 0 then
      some (.inr "java/lang/IllegalStateException")
    else
    (f_X7_type_c26 Z p1 vEag cN cF mS kShr vCar vGoa tN tF mP kCap kGap kCar kCop kGro hX hC hR).map Sum.inl
set_option maxRecDepth 100000 in
set_option maxHeartbeats 4000000 in
theorem k_X7_type (l : Launch) (D : va_G) (cI cS cL : ClassId) (Z : Nat) (hh : Nat → Nat) (p1 : Int32) (vCar : Int32) (vGoa : Int32) (vEag : Int32) (tN : Int32) (tF : Nat → Int32) (cN : Int32) (cF : Nat → Int32) (mP : Nat → Int32) (mS : Nat → Int32) (kCap : Int32) (kGap : Int32) (kCar : Int32) (kCop : Int32) (kGro : Int32) (kShr : Int32) (bN : Int32) (bF : Nat → Int32) (rCmd : Int32) (rLet : Int32) (rNum : Int32) (fCap : Int32) (fGap : Int32) (fCar : Int32) (fCop : Int32) (fGro : Int32) (fShr : Int32) (hX : Int32) (hC : Int32) (hR : Nat → StT) {r : Int32} {vCar' : Int32} {vGoa' : Int32} {tN' : Int32} {tF' : Nat → Int32} {mP' : Nat → Int32} {kCap' : Int32} {kGap' : Int32} {kCar' : Int32} {kCop' : Int32} {kGro' : Int32} {hX' : Int32} {hC' : Int32} {hR' : Nat → StT} (h : f_X7_type Z p1 vCar vGoa vEag tN tF cN cF mP mS kCap kGap kCar kCop kGro kShr hX hC hR = some (.inl (r, vCar', vGoa', tN', tF', mP', kCap', kGap', kCar', kCop', kGro', hX', hC', hR'))) : CI l yX7_type cX7_type 2 (some .int) rm_X7_type D cI cS cL [.ref (hh 0), .int p1] (wX7 cI cS hh vCar vGoa vEag tN tF cN cF mP mS kCap kGap kCar kCop kGro kShr bN bF rCmd rLet rNum fCap fGap fCar fCop fGro fShr hX hC hR) (wX7 cI cS hh (vCar') (vGoa') vEag (tN') (tF') cN cF (mP') mS (kCap') (kGap') (kCar') (kCop') (kGro') kShr bN bF rCmd rLet rNum fCap fGap fCar fCop fGro fShr (hX') (hC') (hR')) r := by
  refine ent_i (by decide +kernel) (Nat.le_of_ble_eq_true rfl) ?_
  intro p e s m args below meth c A ls hx hb hr hml hlocks hg hown hK hP hD hS hA hl
  have hown : s.vm.findClass RX7 = some m.cls := hown
  have c_26 : ∀ (vCar : Int32) (vGoa : Int32) (tN : Int32) (tF : Nat → Int32) (mP : Nat → Int32) (kCap : Int32) (kGap : Int32) (kCar : Int32) (kCop : Int32) (kGro : Int32) (hX : Int32) (hC : Int32) (hR : Nat → StT), f_X7_type_c26 Z p1 vEag cN cF mS kShr vCar vGoa tN tF mP kCap kGap kCar kCop kGro hX hC hR = some (r, vCar', vGoa', tN', tF', mP', kCap', kGap', kCar', kCop', kGro', hX', hC', hR') → ∀ (H : Heap) (locs : List Loc), va_P D vwCl (wX7 cI cS hh vCar vGoa vEag tN tF cN cF mP mS kCap kGap kCar kCop kGro kShr bN bF rCmd rLet rNum fCap fGap fCar fCop fGro fShr hX hC hR) H → va_D A (wX7 cI cS hh vCar vGoa vEag tN tF cN cF mP mS kCap kGap kCar kCop kGro kShr bN bF rCmd rLet rNum fCap fGap fCar fCop fGro fShr hX hC hR) → va_S A s.heap H locs → ∀ ls : Array Slot, lv_has ls 2 [(0, .ref (hh 0)), (1, .int p1)] → W p l e rm_X7_type s m args below meth c H locs 0 0 (FI D below args s (wX7 cI cS hh (vCar') (vGoa') vEag (tN') (tF') cN cF (mP') mS (kCap') (kGap') (kCar') (kCop') (kGro') kShr bN bF rCmd rLet rNum fCap fGap fCar fCop fGro fShr (hX') (hC') (hR')) r A) (F0 m 26 ls []) := by
    intro vCar vGoa tN tF mP kCap kGap kCar kCop kGro hX hC hR h H locs hP hD hS ls hl
    unfold f_X7_type_c26 at h
    refine lv_aload_n hx hb dX7_type_26 rfl (lv_at hl 0 rfl) ?_
    refine va_get (D := D) (ci := 7) (v := .ref (hh 15)) (C := RX7) (T := TX7) (N := 4) hx hb hg uX7 hown hK.1 hP 0 rfl rfl 1 (by decide) (hg _ gw_185) (fun _ h9 => h9) rfl dX7_type_27 ?_
    refine lv_aload_n hx hb dX7_type_30 rfl (lv_at hl 0 rfl) ?_
    refine va_get (D := D) (ci := 7) (v := .ref (hh 1)) (C := RX7) (T := TX7) (N := 4) hx hb hg uX7 hown hK.1 hP 0 rfl rfl 0 (by decide) (hg _ gw_184) (fun _ h9 => h9) rfl dX7_type_31 ?_
    obtain ⟨⟨hX_1, hC_1, hR_1⟩, ec1, h⟩ := bd_some h
    refine cP_v (As := [.ref (hh 1)]) (rest := []) (wc := (wX2t cI cS (fun i => hh (15 + i)) hX hC hR (wX6 cI (hh 1) (hh 2) (hh 3) (hh 4) (hh 5) (hh 6) (hh 7) (hh 8) (hh 9) vCar vGoa vEag tN tF cN cF mP mS kCap kGap kCar kCop kGro kShr))) (wc' := (wX2t cI cS (fun i => hh (15 + i)) hX_1 hC_1 hR_1 (wX6 cI (hh 1) (hh 2) (hh 3) (hh 4) (hh 5) (hh 6) (hh 7) (hh 8) (hh 9) vCar vGoa vEag tN tF cN cF mP mS kCap kGap kCar kCop kGro kShr))) (ws' := (wX7 cI cS hh vCar vGoa vEag tN tF cN cF mP mS kCap kGap kCar kCop kGro kShr bN bF rCmd rLet rNum fCap fGap fCar fCop fGro fShr hX_1 hC_1 hR_1)) hx hb hml hown hg hK hP hD hS hA hl.1 (k_X2_save l D cI cS cL Z (fun i => hh (15 + i)) (hh 1) (hh 2) (hh 3) (hh 4) (hh 5) (hh 6) (hh 7) (hh 8) (hh 9) hX hC hR vCar vGoa vEag tN tF cN cF mP mS kCap kGap kCar kCop kGro kShr ec1) gm_X2_save gw_419 ⟨rfl, rfl, by decide, by decide⟩ ⟨Nat.zero_le _, Nat.zero_le _⟩ pm_7 pm_7 fst_X2t rfl rfl rfl rfl rfl (Nat.le_of_ble_eq_true rfl) dX7_type_34 (fun H locs hP hD hS => ?_)
    refine lv_aload_n hx hb dX7_type_37 rfl (lv_at hl 0 rfl) ?_
    refine va_get (D := D) (ci := 7) (v := .ref (hh 1)) (C := RX7) (T := TX7) (N := 4) hx hb hg uX7 hown hK.1 hP 0 rfl rfl 0 (by decide) (hg _ gw_184) (fun _ h9 => h9) rfl dX7_type_38 ?_
    refine lv_iload_n hx hb dX7_type_41 rfl (lv_at hl 1 rfl) ?_
    refine lv_iconst (v := 1) hx hb dX7_type_42 (by decide) ?_
    obtain ⟨⟨vCar_2, vGoa_2, tN_2, tF_2, mP_2, kCap_2, kGap_2, kCar_2, kCop_2, kGro_2⟩, ec2, h⟩ := bd_some h
    refine cV_v (As := [.int p1, .int 1]) (rest := []) (wc := (wX6 cI (hh 1) (hh 2) (hh 3) (hh 4) (hh 5) (hh 6) (hh 7) (hh 8) (hh 9) vCar vGoa vEag tN tF cN cF mP mS kCap kGap kCar kCop kGro kShr)) (wc' := (wX6 cI (hh 1) (hh 2) (hh 3) (hh 4) (hh 5) (hh 6) (hh 7) (hh 8) (hh 9) vCar_2 vGoa_2 vEag tN_2 tF_2 cN cF mP_2 mS kCap_2 kGap_2 kCar_2 kCop_2 kGro_2 kShr)) hx hb hml hown hg hK hP hD hS hA hl.1 (k_X6_insertRepeated l D cI cS cL Z (hh 1) (hh 2) (hh 3) (hh 4) (hh 5) (hh 6) (hh 7) (hh 8) (hh 9) p1 1 vCar vGoa vEag tN tF cN cF mP mS kCap kGap kCar kCop kGro kShr ec2) gm_X6_insertRepeated gw_426 ⟨rfl, rfl, by decide, by decide⟩ ⟨Nat.zero_le _, Nat.zero_le _⟩ [1, 2, 3, 4, 5, 6, 7, 8, 9] rfl rfl rfl rfl rfl rfl rfl rfl (Nat.le_of_ble_eq_true rfl) dX7_type_43 (fun H locs hP hD hS => ?_)
    have hP : va_P D vwCl (wX7 cI cS hh vCar_2 vGoa_2 vEag tN_2 tF_2 cN cF mP_2 mS kCap_2 kGap_2 kCar_2 kCop_2 kGro_2 kShr bN bF rCmd rLet rNum fCap fGap fCar fCop fGro fShr hX_1 hC_1 hR_1) H := hP
    have hD : va_D A (wX7 cI cS hh vCar_2 vGoa_2 vEag tN_2 tF_2 cN cF mP_2 mS kCap_2 kGap_2 kCar_2 kCop_2 kGro_2 kShr bN bF rCmd rLet rNum fCap fGap fCar fCop fGro fShr hX_1 hC_1 hR_1) := hD
    refine lv_aload_n hx hb dX7_type_46 rfl (lv_at hl 0 rfl) ?_
    refine va_get (D := D) (ci := 7) (v := .ref (hh 1)) (C := RX7) (T := TX7) (N := 4) hx hb hg uX7 hown hK.1 hP 0 rfl rfl 0 (by decide) (hg _ gw_184) (fun _ h9 => h9) rfl dX7_type_47 ?_
    refine va_getN (D := D) (ci := 6) (v := .ref (hh 2)) (C := RX6) (T := TX6) (N := 7) hx hb hg uX6 hown hK.1 hP 1 rfl rfl 0 (by decide) (kk_nest hK nw_105) (fun _ h9 => h9) rfl dX7_type_50 ?_
    obtain ⟨r3, ec3, h⟩ := bd_some h
    refine cV_i (As := []) (rest := []) (wc := (wX0 cI (hh 2) (hh 3) 256 tN_2 tF_2)) (wc' := (wX0 cI (hh 2) (hh 3) 256 tN_2 tF_2)) hx hb hml hown hg hK hP hD hS hA hl.1 (k_X0_size l D cI cS cL Z (hh 2) (hh 3) 256 tN_2 tF_2 ec3) gm_X0_size gw_361 ⟨rfl, rfl, by decide, by decide⟩ ⟨Nat.zero_le _, Nat.zero_le _⟩ [2, 3] rfl rfl rfl rfl rfl rfl rfl rfl (Nat.le_of_ble_eq_true rfl) dX7_type_53 (fun H locs hP hD hS => ?_)
    have hP : va_P D vwCl (wX7 cI cS hh vCar_2 vGoa_2 vEag tN_2 tF_2 cN cF mP_2 mS kCap_2 kGap_2 kCar_2 kCop_2 kGro_2 kShr bN bF rCmd rLet rNum fCap fGap fCar fCop fGro fShr hX_1 hC_1 hR_1) H := hP
    have hD : va_D A (wX7 cI cS hh vCar_2 vGoa_2 vEag tN_2 tF_2 cN cF mP_2 mS kCap_2 kGap_2 kCar_2 kCop_2 kGro_2 kShr bN bF rCmd rLet rNum fCap fGap fCar fCop fGro fShr hX_1 hC_1 hR_1) := hD
    cases h
    exact ret_i hx hb hr hlocks hP hD hS dX7_type_56 rfl
  have hl : lv_has ls 2 [(0, .ref (hh 0)), (1, .int p1)] := hl
  have hP : va_P D vwCl (wX7 cI cS hh vCar vGoa vEag tN tF cN cF mP mS kCap kGap kCar kCop kGro kShr bN bF rCmd rLet rNum fCap fGap fCar fCop fGro fShr hX hC hR) s.heap := hP
  have hD : va_D A (wX7 cI cS hh vCar vGoa vEag tN tF cN cF mP mS kCap kGap kCar kCop kGro kShr bN bF rCmd rLet rNum fCap fGap fCar fCop fGro fShr hX hC hR) := hD
  show W p l e rm_X7_type s m args below meth c s.heap [] 0 0 (FI D below args s (wX7 cI cS hh (vCar') (vGoa') vEag (tN') (tF') cN cF (mP') mS (kCap') (kGap') (kCar') (kCop') (kGro') kShr bN bF rCmd rLet rNum fCap fGap fCar fCop fGro fShr (hX') (hC') (hR')) r A) (F0 m 0 ls [])
  unfold f_X7_type at h
  have hmain : ∀ (H : Heap) (locs : List Loc), va_P D vwCl (wX7 cI cS hh vCar vGoa vEag tN tF cN cF mP mS kCap kGap kCar kCop kGro kShr bN bF rCmd rLet rNum fCap fGap fCar fCop fGro fShr hX hC hR) H → va_S A s.heap H locs → W p l e rm_X7_type s m args below meth c H locs 0 0 (FI D below args s (wX7 cI cS hh (vCar') (vGoa') vEag (tN') (tF') cN cF (mP') mS (kCap') (kGap') (kCar') (kCop') (kGro') kShr bN bF rCmd rLet rNum fCap fGap fCar fCop fGro fShr (hX') (hC') (hR')) r A) (F0 m 0 ls []) := by
    intro H locs hP hS
    refine lv_iload_n hx hb dX7_type_0 rfl (lv_at hl 1 rfl) ?_
    obtain ⟨r4, ec4, h⟩ := bd_some h
    refine cS_i (As := [.int p1]) (rest := []) (wc := []) (wc' := []) hx hb hml hown hg hK hP hD hS hA hl.1 (k_X7_isByte l D cI cS cL Z p1 ec4) gs_X7_isByte gw_394 ⟨rfl, rfl, by decide, by decide⟩ ⟨Nat.zero_le _, Nat.zero_le _⟩ [] rfl rfl rfl rfl rfl (Nat.le_of_ble_eq_true rfl) dX7_type_1 (fun H locs hP hD hS => ?_)
    have hP : va_P D vwCl (wX7 cI cS hh vCar vGoa vEag tN tF cN cF mP mS kCap kGap kCar kCop kGro kShr bN bF rCmd rLet rNum fCap fGap fCar fCop fGro fShr hX hC hR) H := hP
    have hD : va_D A (wX7 cI cS hh vCar vGoa vEag tN tF cN cF mP mS kCap kGap kCar kCop kGro kShr bN bF rCmd rLet rNum fCap fGap fCar fCop fGro fShr hX hC hR) := hD
    by_cases q5 : r4 = 0
    · cases it_some q5 h
    replace h := if_some q5 h
    refine cS_v (As := [.int r4]) (rest := []) (wc := []) (wc' := []) hx hb hml hown hg hK hP hD hS hA hl.1 (k_X7_requireArgument l D cI cS cL r4 q5) gs_X7_requireArgument gw_397 ⟨rfl, rfl, by decide, by decide⟩ ⟨Nat.zero_le _, Nat.zero_le _⟩ [] rfl rfl rfl rfl rfl (Nat.le_of_ble_eq_true rfl) dX7_type_4 (fun H locs hP hD hS => ?_)
    have hP : va_P D vwCl (wX7 cI cS hh vCar vGoa vEag tN tF cN cF mP mS kCap kGap kCar kCop kGro kShr bN bF rCmd rLet rNum fCap fGap fCar fCop fGro fShr hX hC hR) H := hP
    have hD : va_D A (wX7 cI cS hh vCar vGoa vEag tN tF cN cF mP mS kCap kGap kCar kCop kGro kShr bN bF rCmd rLet rNum fCap fGap fCar fCop fGro fShr hX hC hR) := hD
    refine lv_aload_n hx hb dX7_type_7 rfl (lv_at hl 0 rfl) ?_
    refine va_get (D := D) (ci := 7) (v := .ref (hh 1)) (C := RX7) (T := TX7) (N := 4) hx hb hg uX7 hown hK.1 hP 0 rfl rfl 0 (by decide) (hg _ gw_184) (fun _ h9 => h9) rfl dX7_type_8 ?_
    refine lv_iconst (v := 1) hx hb dX7_type_11 (by decide) ?_
    obtain ⟨r6, ec6, h⟩ := bd_some h
    refine cV_i (As := [.int 1]) (rest := []) (wc := (wX6 cI (hh 1) (hh 2) (hh 3) (hh 4) (hh 5) (hh 6) (hh 7) (hh 8) (hh 9) vCar vGoa vEag tN tF cN cF mP mS kCap kGap kCar kCop kGro kShr)) (wc' := (wX6 cI (hh 1) (hh 2) (hh 3) (hh 4) (hh 5) (hh 6) (hh 7) (hh 8) (hh 9) vCar vGoa vEag tN tF cN cF mP mS kCap kGap kCar kCop kGro kShr)) hx hb hml hown hg hK hP hD hS hA hl.1 (k_X6_insertFault l D cI cS cL Z (hh 1) (hh 2) (hh 3) (hh 4) (hh 5) (hh 6) (hh 7) (hh 8) (hh 9) 1 vCar vGoa vEag tN tF cN cF mP mS kCap kGap kCar kCop kGro kShr ec6) gm_X6_insertFault gw_415 ⟨rfl, rfl, by decide, by decide⟩ ⟨Nat.zero_le _, Nat.zero_le _⟩ [1, 2, 3, 4, 5, 6, 7, 8, 9] rfl rfl rfl rfl rfl rfl rfl rfl (Nat.le_of_ble_eq_true rfl) dX7_type_12 (fun H locs hP hD hS => ?_)
    have hP : va_P D vwCl (wX7 cI cS hh vCar vGoa vEag tN tF cN cF mP mS kCap kGap kCar kCop kGro kShr bN bF rCmd rLet rNum fCap fGap fCar fCop fGro fShr hX hC hR) H := hP
    have hD : va_D A (wX7 cI cS hh vCar vGoa vEag tN tF cN cF mP mS kCap kGap kCar kCop kGro kShr bN bF rCmd rLet rNum fCap fGap fCar fCop fGro fShr hX hC hR) := hD
    refine lv_if_ne (tgt := 22) hx hb dX7_type_15 (by decide) (fun q7 => ?_) (fun q7 => ?_)
    · replace h := if_some q7 h
      refine lv_iconst (v := 0) hx hb dX7_type_22 (by decide) ?_
      by_cases q8 : (0 : Int32) = 0
      · cases it_some q8 h
      replace h := if_some q8 h
      refine cS_v (As := [.int (0 : Int32)]) (rest := []) (wc := []) (wc' := []) hx hb hml hown hg hK hP hD hS hA hl.1 (k_X7_requireState l D cI cS cL (0 : Int32) q8) gs_X7_requireState gw_205 ⟨rfl, rfl, by decide, by decide⟩ ⟨Nat.zero_le _, Nat.zero_le _⟩ [] rfl rfl rfl rfl rfl (Nat.le_of_ble_eq_true rfl) dX7_type_23 (fun H locs hP hD hS => ?_)
      have hP : va_P D vwCl (wX7 cI cS hh vCar vGoa vEag tN tF cN cF mP mS kCap kGap kCar kCop kGro kShr bN bF rCmd rLet rNum fCap fGap fCar fCop fGro fShr hX hC hR) H := hP
      have hD : va_D A (wX7 cI cS hh vCar vGoa vEag tN tF cN cF mP mS kCap kGap kCar kCop kGro kShr bN bF rCmd rLet rNum fCap fGap fCar fCop fGro fShr hX hC hR) := hD
      replace h := map_inl h
      exact c_26 vCar vGoa tN tF mP kCap kGap kCar kCop kGro hX hC hR h H locs hP hD hS ls (lv_sub hl [0, 1] rfl)
    · replace h := it_some q7 h
      refine lv_iconst (v := 1) hx hb dX7_type_18 (by decide) ?_
      refine lv_goto (tgt := 23) hx hb dX7_type_19 (by decide) ?_
      by_cases q9 : (1 : Int32) = 0
      · cases it_some q9 h
      replace h := if_some q9 h
      refine cS_v (As := [.int (1 : Int32)]) (rest := []) (wc := []) (wc' := []) hx hb hml hown hg hK hP hD hS hA hl.1 (k_X7_requireState l D cI cS cL (1 : Int32) q9) gs_X7_requireState gw_205 ⟨rfl, rfl, by decide, by decide⟩ ⟨Nat.zero_le _, Nat.zero_le _⟩ [] rfl rfl rfl rfl rfl (Nat.le_of_ble_eq_true rfl) dX7_type_23 (fun H locs hP hD hS => ?_)
      have hP : va_P D vwCl (wX7 cI cS hh vCar vGoa vEag tN tF cN cF mP mS kCap kGap kCar kCop kGro kShr bN bF rCmd rLet rNum fCap fGap fCar fCop fGro fShr hX hC hR) H := hP
      have hD : va_D A (wX7 cI cS hh vCar vGoa vEag tN tF cN cF mP mS kCap kGap kCar kCop kGro kShr bN bF rCmd rLet rNum fCap fGap fCar fCop fGro fShr hX hC hR) := hD
      replace h := map_inl h
      exact c_26 vCar vGoa tN tF mP kCap kGap kCar kCop kGro hX hC hR h H locs hP hD hS ls (lv_sub hl [0, 1] rfl)
  exact hmain _ _ hP hS
abbrev rm_X7_fill : Room := { frames := 5, cells := 0, slots := 0, locals := 113 }
def f_X7_fill_c41 (Z : Nat) (p1 : Int32) (p2 : Int32) (vEag : Int32) (cN : Int32) (cF : Nat → Int32) (mS : Nat → Int32) (kShr : Int32) (vCar : Int32) (vGoa : Int32) (tN : Int32) (tF : Nat → Int32) (mP : Nat → Int32) (kCap : Int32) (kGap : Int32) (kCar : Int32) (kCop : Int32) (kGro : Int32) (hX : Int32) (hC : Int32) (hR : Nat → StT) : Option (Int32 × Int32 × Int32 × Int32 × (Nat → Int32) × (Nat → Int32) × Int32 × Int32 × Int32 × Int32 × Int32 × Int32 × Int32 × (Nat → StT)) :=
    (f_X2_save Z hX hC hR vCar vGoa vEag tN tF cN cF mP mS kCap kGap kCar kCop kGro kShr).bind fun (hX_1, hC_1, hR_1) =>
    (f_X6_insertRepeated Z p1 p2 vCar vGoa tN tF mP mS kCap kGap kCar kCop kGro).bind fun (vCar_2, vGoa_2, tN_2, tF_2, mP_2, kCap_2, kGap_2, kCar_2, kCop_2, kGro_2) =>
    (f_X0_size Z 256 tN_2).bind fun r3 =>
    some (r3, vCar_2, vGoa_2, tN_2, tF_2, mP_2, kCap_2, kGap_2, kCar_2, kCop_2, kGro_2, hX_1, hC_1, hR_1)
def f_X7_fill (Z : Nat) (p1 : Int32) (p2 : Int32) (vCar : Int32) (vGoa : Int32) (vEag : Int32) (tN : Int32) (tF : Nat → Int32) (cN : Int32) (cF : Nat → Int32) (mP : Nat → Int32) (mS : Nat → Int32) (kCap : Int32) (kGap : Int32) (kCar : Int32) (kCop : Int32) (kGro : Int32) (kShr : Int32) (hX : Int32) (hC : Int32) (hR : Nat → StT) : Option ((Int32 × Int32 × Int32 × Int32 × (Nat → Int32) × (Nat → Int32) × Int32 × Int32 × Int32 × Int32 × Int32 × Int32 × Int32 × (Nat → StT)) ⊕ String) :=
  (f_X7_isByte Z p1).bind fun r4 =>
  if r4 = 0 then
    if (0 : Int32) = 0 then
      some (.inr "java/lang/IllegalArgumentException")
    else
    (f_X6_insertFault Z p2 tN).bind fun r7 =>
    if r7 = 0 then
      if (1 : Int32) = 0 then
        some (.inr "java/lang/IllegalStateException")
      else
      (f_X7_fill_c41 Z p1 p2 vEag cN cF mS kShr vCar vGoa tN tF mP kCap kGap kCar kCop kGro hX hC hR).map Sum.inl
    else
      if (0 : Int32) = 0 then
        some (.inr "java/lang/IllegalStateException")
      else
      (f_X7_fill_c41 Z p1 p2 vEag cN cF mS kShr vCar vGoa tN tF mP kCap kGap kCar kCop kGro hX hC hR).map Sum.inl
  else
    (f_X7_isCount Z p2).bind fun r11 =>
    if r11 = 0 then
      if (0 : Int32) = 0 then
        some (.inr "java/lang/IllegalArgumentException")
      else
      (f_X6_insertFault Z p2 tN).bind fun r14 =>
      if r14 = 0 then
        if (1 : Int32) = 0 then
          some (.inr "java/lang/IllegalStateException")
        else
        (f_X7_fill_c41 Z p1 p2 vEag cN cF mS kShr vCar vGoa tN tF mP kCap kGap kCar kCop kGro hX hC hR).map Sum.inl
      else
        if (0 : Int32) = 0 then
          some (.inr "java/lang/IllegalStateException")
        else
        (f_X7_fill_c41 Z p1 p2 vEag cN cF mS kShr vCar vGoa tN tF mP kCap kGap kCar kCop kGro hX hC hR).map Sum.inl
    else
      if (1 : Int32) = 0 then
        some (.inr "java/lang/IllegalArgumentException")
      else
      (f_X6_insertFault Z p2 tN).bind fun r19 =>
      if r19 = 0 then
        if (1 : Int32) = 0 then
          some (.inr "java/lang/IllegalStateException")
        else
        (f_X7_fill_c41 Z p1 p2 vEag cN cF mS kShr vCar vGoa tN tF mP kCap kGap kCar kCop kGro hX hC hR).map Sum.inl
      else
        if (0 : Int32) = 0 then
          some (.inr "java/lang/IllegalStateException")
        else
        (f_X7_fill_c41 Z p1 p2 vEag cN cF mS kShr vCar vGoa tN tF mP kCap kGap kCar kCop kGro hX hC hR).map Sum.inl
set_option maxRecDepth 100000 in
set_option maxHeartbeats 4000000 in
theorem k_X7_fill (l : Launch) (D : va_G) (cI cS cL : ClassId) (Z : Nat) (hh : Nat → Nat) (p1 : Int32) (p2 : Int32) (vCar : Int32) (vGoa : Int32) (vEag : Int32) (tN : Int32) (tF : Nat → Int32) (cN : Int32) (cF : Nat → Int32) (mP : Nat → Int32) (mS : Nat → Int32) (kCap : Int32) (kGap : Int32) (kCar : Int32) (kCop : Int32) (kGro : Int32) (kShr : Int32) (bN : Int32) (bF : Nat → Int32) (rCmd : Int32) (rLet : Int32) (rNum : Int32) (fCap : Int32) (fGap : Int32) (fCar : Int32) (fCop : Int32) (fGro : Int32) (fShr : Int32) (hX : Int32) (hC : Int32) (hR : Nat → StT) {r : Int32} {vCar' : Int32} {vGoa' : Int32} {tN' : Int32} {tF' : Nat → Int32} {mP' : Nat → Int32} {kCap' : Int32} {kGap' : Int32} {kCar' : Int32} {kCop' : Int32} {kGro' : Int32} {hX' : Int32} {hC' : Int32} {hR' : Nat → StT} (h : f_X7_fill Z p1 p2 vCar vGoa vEag tN tF cN cF mP mS kCap kGap kCar kCop kGro kShr hX hC hR = some (.inl (r, vCar', vGoa', tN', tF', mP', kCap', kGap', kCar', kCop', kGro', hX', hC', hR'))) : CI l yX7_fill cX7_fill 3 (some .int) rm_X7_fill D cI cS cL [.ref (hh 0), .int p1, .int p2] (wX7 cI cS hh vCar vGoa vEag tN tF cN cF mP mS kCap kGap kCar kCop kGro kShr bN bF rCmd rLet rNum fCap fGap fCar fCop fGro fShr hX hC hR) (wX7 cI cS hh (vCar') (vGoa') vEag (tN') (tF') cN cF (mP') mS (kCap') (kGap') (kCar') (kCop') (kGro') kShr bN bF rCmd rLet rNum fCap fGap fCar fCop fGro fShr (hX') (hC') (hR')) r := by
  refine ent_i (by decide +kernel) (Nat.le_of_ble_eq_true rfl) ?_
  intro p e s m args below meth c A ls hx hb hr hml hlocks hg hown hK hP hD hS hA hl
  have hown : s.vm.findClass RX7 = some m.cls := hown
  have c_41 : ∀ (vCar : Int32) (vGoa : Int32) (tN : Int32) (tF : Nat → Int32) (mP : Nat → Int32) (kCap : Int32) (kGap : Int32) (kCar : Int32) (kCop : Int32) (kGro : Int32) (hX : Int32) (hC : Int32) (hR : Nat → StT), f_X7_fill_c41 Z p1 p2 vEag cN cF mS kShr vCar vGoa tN tF mP kCap kGap kCar kCop kGro hX hC hR = some (r, vCar', vGoa', tN', tF', mP', kCap', kGap', kCar', kCop', kGro', hX', hC', hR') → ∀ (H : Heap) (locs : List Loc), va_P D vwCl (wX7 cI cS hh vCar vGoa vEag tN tF cN cF mP mS kCap kGap kCar kCop kGro kShr bN bF rCmd rLet rNum fCap fGap fCar fCop fGro fShr hX hC hR) H → va_D A (wX7 cI cS hh vCar vGoa vEag tN tF cN cF mP mS kCap kGap kCar kCop kGro kShr bN bF rCmd rLet rNum fCap fGap fCar fCop fGro fShr hX hC hR) → va_S A s.heap H locs → ∀ ls : Array Slot, lv_has ls 3 [(0, .ref (hh 0)), (1, .int p1), (2, .int p2)] → W p l e rm_X7_fill s m args below meth c H locs 0 0 (FI D below args s (wX7 cI cS hh (vCar') (vGoa') vEag (tN') (tF') cN cF (mP') mS (kCap') (kGap') (kCar') (kCop') (kGro') kShr bN bF rCmd rLet rNum fCap fGap fCar fCop fGro fShr (hX') (hC') (hR')) r A) (F0 m 41 ls []) := by
    intro vCar vGoa tN tF mP kCap kGap kCar kCop kGro hX hC hR h H locs hP hD hS ls hl
    unfold f_X7_fill_c41 at h
    refine lv_aload_n hx hb dX7_fill_41 rfl (lv_at hl 0 rfl) ?_
    refine va_get (D := D) (ci := 7) (v := .ref (hh 15)) (C := RX7) (T := TX7) (N := 4) hx hb hg uX7 hown hK.1 hP 0 rfl rfl 1 (by decide) (hg _ gw_185) (fun _ h9 => h9) rfl dX7_fill_42 ?_
    refine lv_aload_n hx hb dX7_fill_45 rfl (lv_at hl 0 rfl) ?_
    refine va_get (D := D) (ci := 7) (v := .ref (hh 1)) (C := RX7) (T := TX7) (N := 4) hx hb hg uX7 hown hK.1 hP 0 rfl rfl 0 (by decide) (hg _ gw_184) (fun _ h9 => h9) rfl dX7_fill_46 ?_
    obtain ⟨⟨hX_1, hC_1, hR_1⟩, ec1, h⟩ := bd_some h
    refine cP_v (As := [.ref (hh 1)]) (rest := []) (wc := (wX2t cI cS (fun i => hh (15 + i)) hX hC hR (wX6 cI (hh 1) (hh 2) (hh 3) (hh 4) (hh 5) (hh 6) (hh 7) (hh 8) (hh 9) vCar vGoa vEag tN tF cN cF mP mS kCap kGap kCar kCop kGro kShr))) (wc' := (wX2t cI cS (fun i => hh (15 + i)) hX_1 hC_1 hR_1 (wX6 cI (hh 1) (hh 2) (hh 3) (hh 4) (hh 5) (hh 6) (hh 7) (hh 8) (hh 9) vCar vGoa vEag tN tF cN cF mP mS kCap kGap kCar kCop kGro kShr))) (ws' := (wX7 cI cS hh vCar vGoa vEag tN tF cN cF mP mS kCap kGap kCar kCop kGro kShr bN bF rCmd rLet rNum fCap fGap fCar fCop fGro fShr hX_1 hC_1 hR_1)) hx hb hml hown hg hK hP hD hS hA hl.1 (k_X2_save l D cI cS cL Z (fun i => hh (15 + i)) (hh 1) (hh 2) (hh 3) (hh 4) (hh 5) (hh 6) (hh 7) (hh 8) (hh 9) hX hC hR vCar vGoa vEag tN tF cN cF mP mS kCap kGap kCar kCop kGro kShr ec1) gm_X2_save gw_419 ⟨rfl, rfl, by decide, by decide⟩ ⟨Nat.zero_le _, Nat.zero_le _⟩ pm_7 pm_7 fst_X2t rfl rfl rfl rfl rfl (Nat.le_of_ble_eq_true rfl) dX7_fill_49 (fun H locs hP hD hS => ?_)
    refine lv_aload_n hx hb dX7_fill_52 rfl (lv_at hl 0 rfl) ?_
    refine va_get (D := D) (ci := 7) (v := .ref (hh 1)) (C := RX7) (T := TX7) (N := 4) hx hb hg uX7 hown hK.1 hP 0 rfl rfl 0 (by decide) (hg _ gw_184) (fun _ h9 => h9) rfl dX7_fill_53 ?_
    refine lv_iload_n hx hb dX7_fill_56 rfl (lv_at hl 1 rfl) ?_
    refine lv_iload_n hx hb dX7_fill_57 rfl (lv_at hl 2 rfl) ?_
    obtain ⟨⟨vCar_2, vGoa_2, tN_2, tF_2, mP_2, kCap_2, kGap_2, kCar_2, kCop_2, kGro_2⟩, ec2, h⟩ := bd_some h
    refine cV_v (As := [.int p1, .int p2]) (rest := []) (wc := (wX6 cI (hh 1) (hh 2) (hh 3) (hh 4) (hh 5) (hh 6) (hh 7) (hh 8) (hh 9) vCar vGoa vEag tN tF cN cF mP mS kCap kGap kCar kCop kGro kShr)) (wc' := (wX6 cI (hh 1) (hh 2) (hh 3) (hh 4) (hh 5) (hh 6) (hh 7) (hh 8) (hh 9) vCar_2 vGoa_2 vEag tN_2 tF_2 cN cF mP_2 mS kCap_2 kGap_2 kCar_2 kCop_2 kGro_2 kShr)) hx hb hml hown hg hK hP hD hS hA hl.1 (k_X6_insertRepeated l D cI cS cL Z (hh 1) (hh 2) (hh 3) (hh 4) (hh 5) (hh 6) (hh 7) (hh 8) (hh 9) p1 p2 vCar vGoa vEag tN tF cN cF mP mS kCap kGap kCar kCop kGro kShr ec2) gm_X6_insertRepeated gw_426 ⟨rfl, rfl, by decide, by decide⟩ ⟨Nat.zero_le _, Nat.zero_le _⟩ [1, 2, 3, 4, 5, 6, 7, 8, 9] rfl rfl rfl rfl rfl rfl rfl rfl (Nat.le_of_ble_eq_true rfl) dX7_fill_58 (fun H locs hP hD hS => ?_)
    have hP : va_P D vwCl (wX7 cI cS hh vCar_2 vGoa_2 vEag tN_2 tF_2 cN cF mP_2 mS kCap_2 kGap_2 kCar_2 kCop_2 kGro_2 kShr bN bF rCmd rLet rNum fCap fGap fCar fCop fGro fShr hX_1 hC_1 hR_1) H := hP
    have hD : va_D A (wX7 cI cS hh vCar_2 vGoa_2 vEag tN_2 tF_2 cN cF mP_2 mS kCap_2 kGap_2 kCar_2 kCop_2 kGro_2 kShr bN bF rCmd rLet rNum fCap fGap fCar fCop fGro fShr hX_1 hC_1 hR_1) := hD
    refine lv_aload_n hx hb dX7_fill_61 rfl (lv_at hl 0 rfl) ?_
    refine va_get (D := D) (ci := 7) (v := .ref (hh 1)) (C := RX7) (T := TX7) (N := 4) hx hb hg uX7 hown hK.1 hP 0 rfl rfl 0 (by decide) (hg _ gw_184) (fun _ h9 => h9) rfl dX7_fill_62 ?_
    refine va_getN (D := D) (ci := 6) (v := .ref (hh 2)) (C := RX6) (T := TX6) (N := 7) hx hb hg uX6 hown hK.1 hP 1 rfl rfl 0 (by decide) (kk_nest hK nw_105) (fun _ h9 => h9) rfl dX7_fill_65 ?_
    obtain ⟨r3, ec3, h⟩ := bd_some h
    refine cV_i (As := []) (rest := []) (wc := (wX0 cI (hh 2) (hh 3) 256 tN_2 tF_2)) (wc' := (wX0 cI (hh 2) (hh 3) 256 tN_2 tF_2)) hx hb hml hown hg hK hP hD hS hA hl.1 (k_X0_size l D cI cS cL Z (hh 2) (hh 3) 256 tN_2 tF_2 ec3) gm_X0_size gw_361 ⟨rfl, rfl, by decide, by decide⟩ ⟨Nat.zero_le _, Nat.zero_le _⟩ [2, 3] rfl rfl rfl rfl rfl rfl rfl rfl (Nat.le_of_ble_eq_true rfl) dX7_fill_68 (fun H locs hP hD hS => ?_)
    have hP : va_P D vwCl (wX7 cI cS hh vCar_2 vGoa_2 vEag tN_2 tF_2 cN cF mP_2 mS kCap_2 kGap_2 kCar_2 kCop_2 kGro_2 kShr bN bF rCmd rLet rNum fCap fGap fCar fCop fGro fShr hX_1 hC_1 hR_1) H := hP
    have hD : va_D A (wX7 cI cS hh vCar_2 vGoa_2 vEag tN_2 tF_2 cN cF mP_2 mS kCap_2 kGap_2 kCar_2 kCop_2 kGro_2 kShr bN bF rCmd rLet rNum fCap fGap fCar fCop fGro fShr hX_1 hC_1 hR_1) := hD
    cases h
    exact ret_i hx hb hr hlocks hP hD hS dX7_fill_71 rfl
  have hl : lv_has ls 3 [(0, .ref (hh 0)), (1, .int p1), (2, .int p2)] := hl
  have hP : va_P D vwCl (wX7 cI cS hh vCar vGoa vEag tN tF cN cF mP mS kCap kGap kCar kCop kGro kShr bN bF rCmd rLet rNum fCap fGap fCar fCop fGro fShr hX hC hR) s.heap := hP
  have hD : va_D A (wX7 cI cS hh vCar vGoa vEag tN tF cN cF mP mS kCap kGap kCar kCop kGro kShr bN bF rCmd rLet rNum fCap fGap fCar fCop fGro fShr hX hC hR) := hD
  show W p l e rm_X7_fill s m args below meth c s.heap [] 0 0 (FI D below args s (wX7 cI cS hh (vCar') (vGoa') vEag (tN') (tF') cN cF (mP') mS (kCap') (kGap') (kCar') (kCop') (kGro') kShr bN bF rCmd rLet rNum fCap fGap fCar fCop fGro fShr (hX') (hC') (hR')) r A) (F0 m 0 ls [])
  unfold f_X7_fill at h
  have hmain : ∀ (H : Heap) (locs : List Loc), va_P D vwCl (wX7 cI cS hh vCar vGoa vEag tN tF cN cF mP mS kCap kGap kCar kCop kGro kShr bN bF rCmd rLet rNum fCap fGap fCar fCop fGro fShr hX hC hR) H → va_S A s.heap H locs → W p l e rm_X7_fill s m args below meth c H locs 0 0 (FI D below args s (wX7 cI cS hh (vCar') (vGoa') vEag (tN') (tF') cN cF (mP') mS (kCap') (kGap') (kCar') (kCop') (kGro') kShr bN bF rCmd rLet rNum fCap fGap fCar fCop fGro fShr (hX') (hC') (hR')) r A) (F0 m 0 ls []) := by
    intro H locs hP hS
    refine lv_iload_n hx hb dX7_fill_0 rfl (lv_at hl 1 rfl) ?_
    obtain ⟨r4, ec4, h⟩ := bd_some h
    refine cS_i (As := [.int p1]) (rest := []) (wc := []) (wc' := []) hx hb hml hown hg hK hP hD hS hA hl.1 (k_X7_isByte l D cI cS cL Z p1 ec4) gs_X7_isByte gw_394 ⟨rfl, rfl, by decide, by decide⟩ ⟨Nat.zero_le _, Nat.zero_le _⟩ [] rfl rfl rfl rfl rfl (Nat.le_of_ble_eq_true rfl) dX7_fill_1 (fun H locs hP hD hS => ?_)
    have hP : va_P D vwCl (wX7 cI cS hh vCar vGoa vEag tN tF cN cF mP mS kCap kGap kCar kCop kGro kShr bN bF rCmd rLet rNum fCap fGap fCar fCop fGro fShr hX hC hR) H := hP
    have hD : va_D A (wX7 cI cS hh vCar vGoa vEag tN tF cN cF mP mS kCap kGap kCar kCop kGro kShr bN bF rCmd rLet rNum fCap fGap fCar fCop fGro fShr hX hC hR) := hD
    refine lv_if_eq (tgt := 18) hx hb dX7_fill_4 (by decide) (fun q5 => ?_) (fun q5 => ?_)
    · replace h := it_some q5 h
      refine lv_iconst (v := 0) hx hb dX7_fill_18 (by decide) ?_
      by_cases q6 : (0 : Int32) = 0
      · cases it_some q6 h
      replace h := if_some q6 h
      refine cS_v (As := [.int (0 : Int32)]) (rest := []) (wc := []) (wc' := []) hx hb hml hown hg hK hP hD hS hA hl.1 (k_X7_requireArgument l D cI cS cL (0 : Int32) q6) gs_X7_requireArgument gw_397 ⟨rfl, rfl, by decide, by decide⟩ ⟨Nat.zero_le _, Nat.zero_le _⟩ [] rfl rfl rfl rfl rfl (Nat.le_of_ble_eq_true rfl) dX7_fill_19 (fun H locs hP hD hS => ?_)
      have hP : va_P D vwCl (wX7 cI cS hh vCar vGoa vEag tN tF cN cF mP mS kCap kGap kCar kCop kGro kShr bN bF rCmd rLet rNum fCap fGap fCar fCop fGro fShr hX hC hR) H := hP
      have hD : va_D A (wX7 cI cS hh vCar vGoa vEag tN tF cN cF mP mS kCap kGap kCar kCop kGro kShr bN bF rCmd rLet rNum fCap fGap fCar fCop fGro fShr hX hC hR) := hD
      refine lv_aload_n hx hb dX7_fill_22 rfl (lv_at hl 0 rfl) ?_
      refine va_get (D := D) (ci := 7) (v := .ref (hh 1)) (C := RX7) (T := TX7) (N := 4) hx hb hg uX7 hown hK.1 hP 0 rfl rfl 0 (by decide) (hg _ gw_184) (fun _ h9 => h9) rfl dX7_fill_23 ?_
      refine lv_iload_n hx hb dX7_fill_26 rfl (lv_at hl 2 rfl) ?_
      obtain ⟨r7, ec7, h⟩ := bd_some h
      refine cV_i (As := [.int p2]) (rest := []) (wc := (wX6 cI (hh 1) (hh 2) (hh 3) (hh 4) (hh 5) (hh 6) (hh 7) (hh 8) (hh 9) vCar vGoa vEag tN tF cN cF mP mS kCap kGap kCar kCop kGro kShr)) (wc' := (wX6 cI (hh 1) (hh 2) (hh 3) (hh 4) (hh 5) (hh 6) (hh 7) (hh 8) (hh 9) vCar vGoa vEag tN tF cN cF mP mS kCap kGap kCar kCop kGro kShr)) hx hb hml hown hg hK hP hD hS hA hl.1 (k_X6_insertFault l D cI cS cL Z (hh 1) (hh 2) (hh 3) (hh 4) (hh 5) (hh 6) (hh 7) (hh 8) (hh 9) p2 vCar vGoa vEag tN tF cN cF mP mS kCap kGap kCar kCop kGro kShr ec7) gm_X6_insertFault gw_415 ⟨rfl, rfl, by decide, by decide⟩ ⟨Nat.zero_le _, Nat.zero_le _⟩ [1, 2, 3, 4, 5, 6, 7, 8, 9] rfl rfl rfl rfl rfl rfl rfl rfl (Nat.le_of_ble_eq_true rfl) dX7_fill_27 (fun H locs hP hD hS => ?_)
      have hP : va_P D vwCl (wX7 cI cS hh vCar vGoa vEag tN tF cN cF mP mS kCap kGap kCar kCop kGro kShr bN bF rCmd rLet rNum fCap fGap fCar fCop fGro fShr hX hC hR) H := hP
      have hD : va_D A (wX7 cI cS hh vCar vGoa vEag tN tF cN cF mP mS kCap kGap kCar kCop kGro kShr bN bF rCmd rLet rNum fCap fGap fCar fCop fGro fShr hX hC hR) := hD
      refine lv_if_ne (tgt := 37) hx hb dX7_fill_30 (by decide) (fun q8 => ?_) (fun q8 => ?_)
      · replace h := if_some q8 h
        refine lv_iconst (v := 0) hx hb dX7_fill_37 (by decide) ?_
        by_cases q9 : (0 : Int32) = 0
        · cases it_some q9 h
        replace h := if_some q9 h
        refine cS_v (As := [.int (0 : Int32)]) (rest := []) (wc := []) (wc' := []) hx hb hml hown hg hK hP hD hS hA hl.1 (k_X7_requireState l D cI cS cL (0 : Int32) q9) gs_X7_requireState gw_205 ⟨rfl, rfl, by decide, by decide⟩ ⟨Nat.zero_le _, Nat.zero_le _⟩ [] rfl rfl rfl rfl rfl (Nat.le_of_ble_eq_true rfl) dX7_fill_38 (fun H locs hP hD hS => ?_)
        have hP : va_P D vwCl (wX7 cI cS hh vCar vGoa vEag tN tF cN cF mP mS kCap kGap kCar kCop kGro kShr bN bF rCmd rLet rNum fCap fGap fCar fCop fGro fShr hX hC hR) H := hP
        have hD : va_D A (wX7 cI cS hh vCar vGoa vEag tN tF cN cF mP mS kCap kGap kCar kCop kGro kShr bN bF rCmd rLet rNum fCap fGap fCar fCop fGro fShr hX hC hR) := hD
        replace h := map_inl h
        exact c_41 vCar vGoa tN tF mP kCap kGap kCar kCop kGro hX hC hR h H locs hP hD hS ls (lv_sub hl [0, 1, 2] rfl)
      · replace h := it_some q8 h
        refine lv_iconst (v := 1) hx hb dX7_fill_33 (by decide) ?_
        refine lv_goto (tgt := 38) hx hb dX7_fill_34 (by decide) ?_
        by_cases q10 : (1 : Int32) = 0
        · cases it_some q10 h
        replace h := if_some q10 h
        refine cS_v (As := [.int (1 : Int32)]) (rest := []) (wc := []) (wc' := []) hx hb hml hown hg hK hP hD hS hA hl.1 (k_X7_requireState l D cI cS cL (1 : Int32) q10) gs_X7_requireState gw_205 ⟨rfl, rfl, by decide, by decide⟩ ⟨Nat.zero_le _, Nat.zero_le _⟩ [] rfl rfl rfl rfl rfl (Nat.le_of_ble_eq_true rfl) dX7_fill_38 (fun H locs hP hD hS => ?_)
        have hP : va_P D vwCl (wX7 cI cS hh vCar vGoa vEag tN tF cN cF mP mS kCap kGap kCar kCop kGro kShr bN bF rCmd rLet rNum fCap fGap fCar fCop fGro fShr hX hC hR) H := hP
        have hD : va_D A (wX7 cI cS hh vCar vGoa vEag tN tF cN cF mP mS kCap kGap kCar kCop kGro kShr bN bF rCmd rLet rNum fCap fGap fCar fCop fGro fShr hX hC hR) := hD
        replace h := map_inl h
        exact c_41 vCar vGoa tN tF mP kCap kGap kCar kCop kGro hX hC hR h H locs hP hD hS ls (lv_sub hl [0, 1, 2] rfl)
    · replace h := if_some q5 h
      refine lv_iload_n hx hb dX7_fill_7 rfl (lv_at hl 2 rfl) ?_
      obtain ⟨r11, ec11, h⟩ := bd_some h
      refine cS_i (As := [.int p2]) (rest := []) (wc := []) (wc' := []) hx hb hml hown hg hK hP hD hS hA hl.1 (k_X7_isCount l D cI cS cL Z p2 ec11) gs_X7_isCount gw_461 ⟨rfl, rfl, by decide, by decide⟩ ⟨Nat.zero_le _, Nat.zero_le _⟩ [] rfl rfl rfl rfl rfl (Nat.le_of_ble_eq_true rfl) dX7_fill_8 (fun H locs hP hD hS => ?_)
      have hP : va_P D vwCl (wX7 cI cS hh vCar vGoa vEag tN tF cN cF mP mS kCap kGap kCar kCop kGro kShr bN bF rCmd rLet rNum fCap fGap fCar fCop fGro fShr hX hC hR) H := hP
      have hD : va_D A (wX7 cI cS hh vCar vGoa vEag tN tF cN cF mP mS kCap kGap kCar kCop kGro kShr bN bF rCmd rLet rNum fCap fGap fCar fCop fGro fShr hX hC hR) := hD
      refine lv_if_eq (tgt := 18) hx hb dX7_fill_11 (by decide) (fun q12 => ?_) (fun q12 => ?_)
      · replace h := it_some q12 h
        refine lv_iconst (v := 0) hx hb dX7_fill_18 (by decide) ?_
        by_cases q13 : (0 : Int32) = 0
        · cases it_some q13 h
        replace h := if_some q13 h
        refine cS_v (As := [.int (0 : Int32)]) (rest := []) (wc := []) (wc' := []) hx hb hml hown hg hK hP hD hS hA hl.1 (k_X7_requireArgument l D cI cS cL (0 : Int32) q13) gs_X7_requireArgument gw_397 ⟨rfl, rfl, by decide, by decide⟩ ⟨Nat.zero_le _, Nat.zero_le _⟩ [] rfl rfl rfl rfl rfl (Nat.le_of_ble_eq_true rfl) dX7_fill_19 (fun H locs hP hD hS => ?_)
        have hP : va_P D vwCl (wX7 cI cS hh vCar vGoa vEag tN tF cN cF mP mS kCap kGap kCar kCop kGro kShr bN bF rCmd rLet rNum fCap fGap fCar fCop fGro fShr hX hC hR) H := hP
        have hD : va_D A (wX7 cI cS hh vCar vGoa vEag tN tF cN cF mP mS kCap kGap kCar kCop kGro kShr bN bF rCmd rLet rNum fCap fGap fCar fCop fGro fShr hX hC hR) := hD
        refine lv_aload_n hx hb dX7_fill_22 rfl (lv_at hl 0 rfl) ?_
        refine va_get (D := D) (ci := 7) (v := .ref (hh 1)) (C := RX7) (T := TX7) (N := 4) hx hb hg uX7 hown hK.1 hP 0 rfl rfl 0 (by decide) (hg _ gw_184) (fun _ h9 => h9) rfl dX7_fill_23 ?_
        refine lv_iload_n hx hb dX7_fill_26 rfl (lv_at hl 2 rfl) ?_
        obtain ⟨r14, ec14, h⟩ := bd_some h
        refine cV_i (As := [.int p2]) (rest := []) (wc := (wX6 cI (hh 1) (hh 2) (hh 3) (hh 4) (hh 5) (hh 6) (hh 7) (hh 8) (hh 9) vCar vGoa vEag tN tF cN cF mP mS kCap kGap kCar kCop kGro kShr)) (wc' := (wX6 cI (hh 1) (hh 2) (hh 3) (hh 4) (hh 5) (hh 6) (hh 7) (hh 8) (hh 9) vCar vGoa vEag tN tF cN cF mP mS kCap kGap kCar kCop kGro kShr)) hx hb hml hown hg hK hP hD hS hA hl.1 (k_X6_insertFault l D cI cS cL Z (hh 1) (hh 2) (hh 3) (hh 4) (hh 5) (hh 6) (hh 7) (hh 8) (hh 9) p2 vCar vGoa vEag tN tF cN cF mP mS kCap kGap kCar kCop kGro kShr ec14) gm_X6_insertFault gw_415 ⟨rfl, rfl, by decide, by decide⟩ ⟨Nat.zero_le _, Nat.zero_le _⟩ [1, 2, 3, 4, 5, 6, 7, 8, 9] rfl rfl rfl rfl rfl rfl rfl rfl (Nat.le_of_ble_eq_true rfl) dX7_fill_27 (fun H locs hP hD hS => ?_)
        have hP : va_P D vwCl (wX7 cI cS hh vCar vGoa vEag tN tF cN cF mP mS kCap kGap kCar kCop kGro kShr bN bF rCmd rLet rNum fCap fGap fCar fCop fGro fShr hX hC hR) H := hP
        have hD : va_D A (wX7 cI cS hh vCar vGoa vEag tN tF cN cF mP mS kCap kGap kCar kCop kGro kShr bN bF rCmd rLet rNum fCap fGap fCar fCop fGro fShr hX hC hR) := hD
        refine lv_if_ne (tgt := 37) hx hb dX7_fill_30 (by decide) (fun q15 => ?_) (fun q15 => ?_)
        · replace h := if_some q15 h
          refine lv_iconst (v := 0) hx hb dX7_fill_37 (by decide) ?_
          by_cases q16 : (0 : Int32) = 0
          · cases it_some q16 h
          replace h := if_some q16 h
          refine cS_v (As := [.int (0 : Int32)]) (rest := []) (wc := []) (wc' := []) hx hb hml hown hg hK hP hD hS hA hl.1 (k_X7_requireState l D cI cS cL (0 : Int32) q16) gs_X7_requireState gw_205 ⟨rfl, rfl, by decide, by decide⟩ ⟨Nat.zero_le _, Nat.zero_le _⟩ [] rfl rfl rfl rfl rfl (Nat.le_of_ble_eq_true rfl) dX7_fill_38 (fun H locs hP hD hS => ?_)
          have hP : va_P D vwCl (wX7 cI cS hh vCar vGoa vEag tN tF cN cF mP mS kCap kGap kCar kCop kGro kShr bN bF rCmd rLet rNum fCap fGap fCar fCop fGro fShr hX hC hR) H := hP
          have hD : va_D A (wX7 cI cS hh vCar vGoa vEag tN tF cN cF mP mS kCap kGap kCar kCop kGro kShr bN bF rCmd rLet rNum fCap fGap fCar fCop fGro fShr hX hC hR) := hD
          replace h := map_inl h
          exact c_41 vCar vGoa tN tF mP kCap kGap kCar kCop kGro hX hC hR h H locs hP hD hS ls (lv_sub hl [0, 1, 2] rfl)
        · replace h := it_some q15 h
          refine lv_iconst (v := 1) hx hb dX7_fill_33 (by decide) ?_
          refine lv_goto (tgt := 38) hx hb dX7_fill_34 (by decide) ?_
          by_cases q17 : (1 : Int32) = 0
          · cases it_some q17 h
          replace h := if_some q17 h
          refine cS_v (As := [.int (1 : Int32)]) (rest := []) (wc := []) (wc' := []) hx hb hml hown hg hK hP hD hS hA hl.1 (k_X7_requireState l D cI cS cL (1 : Int32) q17) gs_X7_requireState gw_205 ⟨rfl, rfl, by decide, by decide⟩ ⟨Nat.zero_le _, Nat.zero_le _⟩ [] rfl rfl rfl rfl rfl (Nat.le_of_ble_eq_true rfl) dX7_fill_38 (fun H locs hP hD hS => ?_)
          have hP : va_P D vwCl (wX7 cI cS hh vCar vGoa vEag tN tF cN cF mP mS kCap kGap kCar kCop kGro kShr bN bF rCmd rLet rNum fCap fGap fCar fCop fGro fShr hX hC hR) H := hP
          have hD : va_D A (wX7 cI cS hh vCar vGoa vEag tN tF cN cF mP mS kCap kGap kCar kCop kGro kShr bN bF rCmd rLet rNum fCap fGap fCar fCop fGro fShr hX hC hR) := hD
          replace h := map_inl h
          exact c_41 vCar vGoa tN tF mP kCap kGap kCar kCop kGro hX hC hR h H locs hP hD hS ls (lv_sub hl [0, 1, 2] rfl)
      · replace h := if_some q12 h
        refine lv_iconst (v := 1) hx hb dX7_fill_14 (by decide) ?_
        refine lv_goto (tgt := 19) hx hb dX7_fill_15 (by decide) ?_
        by_cases q18 : (1 : Int32) = 0
        · cases it_some q18 h
        replace h := if_some q18 h
        refine cS_v (As := [.int (1 : Int32)]) (rest := []) (wc := []) (wc' := []) hx hb hml hown hg hK hP hD hS hA hl.1 (k_X7_requireArgument l D cI cS cL (1 : Int32) q18) gs_X7_requireArgument gw_397 ⟨rfl, rfl, by decide, by decide⟩ ⟨Nat.zero_le _, Nat.zero_le _⟩ [] rfl rfl rfl rfl rfl (Nat.le_of_ble_eq_true rfl) dX7_fill_19 (fun H locs hP hD hS => ?_)
        have hP : va_P D vwCl (wX7 cI cS hh vCar vGoa vEag tN tF cN cF mP mS kCap kGap kCar kCop kGro kShr bN bF rCmd rLet rNum fCap fGap fCar fCop fGro fShr hX hC hR) H := hP
        have hD : va_D A (wX7 cI cS hh vCar vGoa vEag tN tF cN cF mP mS kCap kGap kCar kCop kGro kShr bN bF rCmd rLet rNum fCap fGap fCar fCop fGro fShr hX hC hR) := hD
        refine lv_aload_n hx hb dX7_fill_22 rfl (lv_at hl 0 rfl) ?_
        refine va_get (D := D) (ci := 7) (v := .ref (hh 1)) (C := RX7) (T := TX7) (N := 4) hx hb hg uX7 hown hK.1 hP 0 rfl rfl 0 (by decide) (hg _ gw_184) (fun _ h9 => h9) rfl dX7_fill_23 ?_
        refine lv_iload_n hx hb dX7_fill_26 rfl (lv_at hl 2 rfl) ?_
        obtain ⟨r19, ec19, h⟩ := bd_some h
        refine cV_i (As := [.int p2]) (rest := []) (wc := (wX6 cI (hh 1) (hh 2) (hh 3) (hh 4) (hh 5) (hh 6) (hh 7) (hh 8) (hh 9) vCar vGoa vEag tN tF cN cF mP mS kCap kGap kCar kCop kGro kShr)) (wc' := (wX6 cI (hh 1) (hh 2) (hh 3) (hh 4) (hh 5) (hh 6) (hh 7) (hh 8) (hh 9) vCar vGoa vEag tN tF cN cF mP mS kCap kGap kCar kCop kGro kShr)) hx hb hml hown hg hK hP hD hS hA hl.1 (k_X6_insertFault l D cI cS cL Z (hh 1) (hh 2) (hh 3) (hh 4) (hh 5) (hh 6) (hh 7) (hh 8) (hh 9) p2 vCar vGoa vEag tN tF cN cF mP mS kCap kGap kCar kCop kGro kShr ec19) gm_X6_insertFault gw_415 ⟨rfl, rfl, by decide, by decide⟩ ⟨Nat.zero_le _, Nat.zero_le _⟩ [1, 2, 3, 4, 5, 6, 7, 8, 9] rfl rfl rfl rfl rfl rfl rfl rfl (Nat.le_of_ble_eq_true rfl) dX7_fill_27 (fun H locs hP hD hS => ?_)
        have hP : va_P D vwCl (wX7 cI cS hh vCar vGoa vEag tN tF cN cF mP mS kCap kGap kCar kCop kGro kShr bN bF rCmd rLet rNum fCap fGap fCar fCop fGro fShr hX hC hR) H := hP
        have hD : va_D A (wX7 cI cS hh vCar vGoa vEag tN tF cN cF mP mS kCap kGap kCar kCop kGro kShr bN bF rCmd rLet rNum fCap fGap fCar fCop fGro fShr hX hC hR) := hD
        refine lv_if_ne (tgt := 37) hx hb dX7_fill_30 (by decide) (fun q20 => ?_) (fun q20 => ?_)
        · replace h := if_some q20 h
          refine lv_iconst (v := 0) hx hb dX7_fill_37 (by decide) ?_
          by_cases q21 : (0 : Int32) = 0
          · cases it_some q21 h
          replace h := if_some q21 h
          refine cS_v (As := [.int (0 : Int32)]) (rest := []) (wc := []) (wc' := []) hx hb hml hown hg hK hP hD hS hA hl.1 (k_X7_requireState l D cI cS cL (0 : Int32) q21) gs_X7_requireState gw_205 ⟨rfl, rfl, by decide, by decide⟩ ⟨Nat.zero_le _, Nat.zero_le _⟩ [] rfl rfl rfl rfl rfl (Nat.le_of_ble_eq_true rfl) dX7_fill_38 (fun H locs hP hD hS => ?_)
          have hP : va_P D vwCl (wX7 cI cS hh vCar vGoa vEag tN tF cN cF mP mS kCap kGap kCar kCop kGro kShr bN bF rCmd rLet rNum fCap fGap fCar fCop fGro fShr hX hC hR) H := hP
          have hD : va_D A (wX7 cI cS hh vCar vGoa vEag tN tF cN cF mP mS kCap kGap kCar kCop kGro kShr bN bF rCmd rLet rNum fCap fGap fCar fCop fGro fShr hX hC hR) := hD
          replace h := map_inl h
          exact c_41 vCar vGoa tN tF mP kCap kGap kCar kCop kGro hX hC hR h H locs hP hD hS ls (lv_sub hl [0, 1, 2] rfl)
        · replace h := it_some q20 h
          refine lv_iconst (v := 1) hx hb dX7_fill_33 (by decide) ?_
          refine lv_goto (tgt := 38) hx hb dX7_fill_34 (by decide) ?_
          by_cases q22 : (1 : Int32) = 0
          · cases it_some q22 h
          replace h := if_some q22 h
          refine cS_v (As := [.int (1 : Int32)]) (rest := []) (wc := []) (wc' := []) hx hb hml hown hg hK hP hD hS hA hl.1 (k_X7_requireState l D cI cS cL (1 : Int32) q22) gs_X7_requireState gw_205 ⟨rfl, rfl, by decide, by decide⟩ ⟨Nat.zero_le _, Nat.zero_le _⟩ [] rfl rfl rfl rfl rfl (Nat.le_of_ble_eq_true rfl) dX7_fill_38 (fun H locs hP hD hS => ?_)
          have hP : va_P D vwCl (wX7 cI cS hh vCar vGoa vEag tN tF cN cF mP mS kCap kGap kCar kCop kGro kShr bN bF rCmd rLet rNum fCap fGap fCar fCop fGro fShr hX hC hR) H := hP
          have hD : va_D A (wX7 cI cS hh vCar vGoa vEag tN tF cN cF mP mS kCap kGap kCar kCop kGro kShr bN bF rCmd rLet rNum fCap fGap fCar fCop fGro fShr hX hC hR) := hD
          replace h := map_inl h
          exact c_41 vCar vGoa tN tF mP kCap kGap kCar kCop kGro hX hC hR h H locs hP hD hS ls (lv_sub hl [0, 1, 2] rfl)
  exact hmain _ _ hP hS
abbrev rm_X7_erase : Room := { frames := 5, cells := 0, slots := 0, locals := 111 }
def f_X7_erase_c7 (Z : Nat) (p1 : Int32) (vEag : Int32) (cN : Int32) (cF : Nat → Int32) (mS : Nat → Int32) (kGro : Int32) (vCar : Int32) (vGoa : Int32) (tN : Int32) (tF : Nat → Int32) (mP : Nat → Int32) (kCap : Int32) (kGap : Int32) (kCar : Int32) (kCop : Int32) (kShr : Int32) (hX : Int32) (hC : Int32) (hR : Nat → StT) : Option (Int32 × Int32 × Int32 × Int32 × (Nat → Int32) × (Nat → Int32) × Int32 × Int32 × Int32 × Int32 × Int32 × Int32 × Int32 × (Nat → StT)) :=
    (f_X2_save Z hX hC hR vCar vGoa vEag tN tF cN cF mP mS kCap kGap kCar kCop kGro kShr).bind fun (hX_1, hC_1, hR_1) =>
    (f_X6_deleteBehind Z p1 vCar vGoa tN tF mP kCap kGap kCar kCop kShr).bind fun (r2, vCar_2, vGoa_2, tN_2, tF_2, mP_2, kCap_2, kGap_2, kCar_2, kCop_2, kShr_2) =>
    some (r2, vCar_2, vGoa_2, tN_2, tF_2, mP_2, kCap_2, kGap_2, kCar_2, kCop_2, kShr_2, hX_1, hC_1, hR_1)
def f_X7_erase (Z : Nat) (p1 : Int32) (vCar : Int32) (vGoa : Int32) (vEag : Int32) (tN : Int32) (tF : Nat → Int32) (cN : Int32) (cF : Nat → Int32) (mP : Nat → Int32) (mS : Nat → Int32) (kCap : Int32) (kGap : Int32) (kCar : Int32) (kCop : Int32) (kGro : Int32) (kShr : Int32) (hX : Int32) (hC : Int32) (hR : Nat → StT) : Option ((Int32 × Int32 × Int32 × Int32 × (Nat → Int32) × (Nat → Int32) × Int32 × Int32 × Int32 × Int32 × Int32 × Int32 × Int32 × (Nat → StT)) ⊕ String) :=
  (f_X7_isCount Z p1).bind fun r3 =>
  if r3 = 0 then
    some (.inr "java/lang/IllegalArgumentException")
  else
  (f_X7_erase_c7 Z p1 vEag cN cF mS kGro vCar vGoa tN tF mP kCap kGap kCar kCop kShr hX hC hR).map Sum.inl
set_option maxRecDepth 100000 in
set_option maxHeartbeats 4000000 in
theorem k_X7_erase (l : Launch) (D : va_G) (cI cS cL : ClassId) (Z : Nat) (hh : Nat → Nat) (p1 : Int32) (vCar : Int32) (vGoa : Int32) (vEag : Int32) (tN : Int32) (tF : Nat → Int32) (cN : Int32) (cF : Nat → Int32) (mP : Nat → Int32) (mS : Nat → Int32) (kCap : Int32) (kGap : Int32) (kCar : Int32) (kCop : Int32) (kGro : Int32) (kShr : Int32) (bN : Int32) (bF : Nat → Int32) (rCmd : Int32) (rLet : Int32) (rNum : Int32) (fCap : Int32) (fGap : Int32) (fCar : Int32) (fCop : Int32) (fGro : Int32) (fShr : Int32) (hX : Int32) (hC : Int32) (hR : Nat → StT) {r : Int32} {vCar' : Int32} {vGoa' : Int32} {tN' : Int32} {tF' : Nat → Int32} {mP' : Nat → Int32} {kCap' : Int32} {kGap' : Int32} {kCar' : Int32} {kCop' : Int32} {kShr' : Int32} {hX' : Int32} {hC' : Int32} {hR' : Nat → StT} (h : f_X7_erase Z p1 vCar vGoa vEag tN tF cN cF mP mS kCap kGap kCar kCop kGro kShr hX hC hR = some (.inl (r, vCar', vGoa', tN', tF', mP', kCap', kGap', kCar', kCop', kShr', hX', hC', hR'))) : CI l yX7_erase cX7_erase 2 (some .int) rm_X7_erase D cI cS cL [.ref (hh 0), .int p1] (wX7 cI cS hh vCar vGoa vEag tN tF cN cF mP mS kCap kGap kCar kCop kGro kShr bN bF rCmd rLet rNum fCap fGap fCar fCop fGro fShr hX hC hR) (wX7 cI cS hh (vCar') (vGoa') vEag (tN') (tF') cN cF (mP') mS (kCap') (kGap') (kCar') (kCop') kGro (kShr') bN bF rCmd rLet rNum fCap fGap fCar fCop fGro fShr (hX') (hC') (hR')) r := by
  refine ent_i (by decide +kernel) (Nat.le_of_ble_eq_true rfl) ?_
  intro p e s m args below meth c A ls hx hb hr hml hlocks hg hown hK hP hD hS hA hl
  have hown : s.vm.findClass RX7 = some m.cls := hown
  have c_7 : ∀ (vCar : Int32) (vGoa : Int32) (tN : Int32) (tF : Nat → Int32) (mP : Nat → Int32) (kCap : Int32) (kGap : Int32) (kCar : Int32) (kCop : Int32) (kShr : Int32) (hX : Int32) (hC : Int32) (hR : Nat → StT), f_X7_erase_c7 Z p1 vEag cN cF mS kGro vCar vGoa tN tF mP kCap kGap kCar kCop kShr hX hC hR = some (r, vCar', vGoa', tN', tF', mP', kCap', kGap', kCar', kCop', kShr', hX', hC', hR') → ∀ (H : Heap) (locs : List Loc), va_P D vwCl (wX7 cI cS hh vCar vGoa vEag tN tF cN cF mP mS kCap kGap kCar kCop kGro kShr bN bF rCmd rLet rNum fCap fGap fCar fCop fGro fShr hX hC hR) H → va_D A (wX7 cI cS hh vCar vGoa vEag tN tF cN cF mP mS kCap kGap kCar kCop kGro kShr bN bF rCmd rLet rNum fCap fGap fCar fCop fGro fShr hX hC hR) → va_S A s.heap H locs → ∀ ls : Array Slot, lv_has ls 2 [(0, .ref (hh 0)), (1, .int p1)] → W p l e rm_X7_erase s m args below meth c H locs 0 0 (FI D below args s (wX7 cI cS hh (vCar') (vGoa') vEag (tN') (tF') cN cF (mP') mS (kCap') (kGap') (kCar') (kCop') kGro (kShr') bN bF rCmd rLet rNum fCap fGap fCar fCop fGro fShr (hX') (hC') (hR')) r A) (F0 m 7 ls []) := by
    intro vCar vGoa tN tF mP kCap kGap kCar kCop kShr hX hC hR h H locs hP hD hS ls hl
    unfold f_X7_erase_c7 at h
    refine lv_aload_n hx hb dX7_erase_7 rfl (lv_at hl 0 rfl) ?_
    refine va_get (D := D) (ci := 7) (v := .ref (hh 15)) (C := RX7) (T := TX7) (N := 4) hx hb hg uX7 hown hK.1 hP 0 rfl rfl 1 (by decide) (hg _ gw_185) (fun _ h9 => h9) rfl dX7_erase_8 ?_
    refine lv_aload_n hx hb dX7_erase_11 rfl (lv_at hl 0 rfl) ?_
    refine va_get (D := D) (ci := 7) (v := .ref (hh 1)) (C := RX7) (T := TX7) (N := 4) hx hb hg uX7 hown hK.1 hP 0 rfl rfl 0 (by decide) (hg _ gw_184) (fun _ h9 => h9) rfl dX7_erase_12 ?_
    obtain ⟨⟨hX_1, hC_1, hR_1⟩, ec1, h⟩ := bd_some h
    refine cP_v (As := [.ref (hh 1)]) (rest := []) (wc := (wX2t cI cS (fun i => hh (15 + i)) hX hC hR (wX6 cI (hh 1) (hh 2) (hh 3) (hh 4) (hh 5) (hh 6) (hh 7) (hh 8) (hh 9) vCar vGoa vEag tN tF cN cF mP mS kCap kGap kCar kCop kGro kShr))) (wc' := (wX2t cI cS (fun i => hh (15 + i)) hX_1 hC_1 hR_1 (wX6 cI (hh 1) (hh 2) (hh 3) (hh 4) (hh 5) (hh 6) (hh 7) (hh 8) (hh 9) vCar vGoa vEag tN tF cN cF mP mS kCap kGap kCar kCop kGro kShr))) (ws' := (wX7 cI cS hh vCar vGoa vEag tN tF cN cF mP mS kCap kGap kCar kCop kGro kShr bN bF rCmd rLet rNum fCap fGap fCar fCop fGro fShr hX_1 hC_1 hR_1)) hx hb hml hown hg hK hP hD hS hA hl.1 (k_X2_save l D cI cS cL Z (fun i => hh (15 + i)) (hh 1) (hh 2) (hh 3) (hh 4) (hh 5) (hh 6) (hh 7) (hh 8) (hh 9) hX hC hR vCar vGoa vEag tN tF cN cF mP mS kCap kGap kCar kCop kGro kShr ec1) gm_X2_save gw_419 ⟨rfl, rfl, by decide, by decide⟩ ⟨Nat.zero_le _, Nat.zero_le _⟩ pm_7 pm_7 fst_X2t rfl rfl rfl rfl rfl (Nat.le_of_ble_eq_true rfl) dX7_erase_15 (fun H locs hP hD hS => ?_)
    refine lv_aload_n hx hb dX7_erase_18 rfl (lv_at hl 0 rfl) ?_
    refine va_get (D := D) (ci := 7) (v := .ref (hh 1)) (C := RX7) (T := TX7) (N := 4) hx hb hg uX7 hown hK.1 hP 0 rfl rfl 0 (by decide) (hg _ gw_184) (fun _ h9 => h9) rfl dX7_erase_19 ?_
    refine lv_iload_n hx hb dX7_erase_22 rfl (lv_at hl 1 rfl) ?_
    obtain ⟨⟨r2, vCar_2, vGoa_2, tN_2, tF_2, mP_2, kCap_2, kGap_2, kCar_2, kCop_2, kShr_2⟩, ec2, h⟩ := bd_some h
    refine cV_i (As := [.int p1]) (rest := []) (wc := (wX6 cI (hh 1) (hh 2) (hh 3) (hh 4) (hh 5) (hh 6) (hh 7) (hh 8) (hh 9) vCar vGoa vEag tN tF cN cF mP mS kCap kGap kCar kCop kGro kShr)) (wc' := (wX6 cI (hh 1) (hh 2) (hh 3) (hh 4) (hh 5) (hh 6) (hh 7) (hh 8) (hh 9) vCar_2 vGoa_2 vEag tN_2 tF_2 cN cF mP_2 mS kCap_2 kGap_2 kCar_2 kCop_2 kGro kShr_2)) hx hb hml hown hg hK hP hD hS hA hl.1 (k_X6_deleteBehind l D cI cS cL Z (hh 1) (hh 2) (hh 3) (hh 4) (hh 5) (hh 6) (hh 7) (hh 8) (hh 9) p1 vCar vGoa vEag tN tF cN cF mP mS kCap kGap kCar kCop kGro kShr ec2) gm_X6_deleteBehind gw_468 ⟨rfl, rfl, by decide, by decide⟩ ⟨Nat.zero_le _, Nat.zero_le _⟩ [1, 2, 3, 4, 5, 6, 7, 8, 9] rfl rfl rfl rfl rfl rfl rfl rfl (Nat.le_of_ble_eq_true rfl) dX7_erase_23 (fun H locs hP hD hS => ?_)
    have hP : va_P D vwCl (wX7 cI cS hh vCar_2 vGoa_2 vEag tN_2 tF_2 cN cF mP_2 mS kCap_2 kGap_2 kCar_2 kCop_2 kGro kShr_2 bN bF rCmd rLet rNum fCap fGap fCar fCop fGro fShr hX_1 hC_1 hR_1) H := hP
    have hD : va_D A (wX7 cI cS hh vCar_2 vGoa_2 vEag tN_2 tF_2 cN cF mP_2 mS kCap_2 kGap_2 kCar_2 kCop_2 kGro kShr_2 bN bF rCmd rLet rNum fCap fGap fCar fCop fGro fShr hX_1 hC_1 hR_1) := hD
    cases h
    exact ret_i hx hb hr hlocks hP hD hS dX7_erase_26 rfl
  have hl : lv_has ls 2 [(0, .ref (hh 0)), (1, .int p1)] := hl
  have hP : va_P D vwCl (wX7 cI cS hh vCar vGoa vEag tN tF cN cF mP mS kCap kGap kCar kCop kGro kShr bN bF rCmd rLet rNum fCap fGap fCar fCop fGro fShr hX hC hR) s.heap := hP
  have hD : va_D A (wX7 cI cS hh vCar vGoa vEag tN tF cN cF mP mS kCap kGap kCar kCop kGro kShr bN bF rCmd rLet rNum fCap fGap fCar fCop fGro fShr hX hC hR) := hD
  show W p l e rm_X7_erase s m args below meth c s.heap [] 0 0 (FI D below args s (wX7 cI cS hh (vCar') (vGoa') vEag (tN') (tF') cN cF (mP') mS (kCap') (kGap') (kCar') (kCop') kGro (kShr') bN bF rCmd rLet rNum fCap fGap fCar fCop fGro fShr (hX') (hC') (hR')) r A) (F0 m 0 ls [])
  unfold f_X7_erase at h
  have hmain : ∀ (H : Heap) (locs : List Loc), va_P D vwCl (wX7 cI cS hh vCar vGoa vEag tN tF cN cF mP mS kCap kGap kCar kCop kGro kShr bN bF rCmd rLet rNum fCap fGap fCar fCop fGro fShr hX hC hR) H → va_S A s.heap H locs → W p l e rm_X7_erase s m args below meth c H locs 0 0 (FI D below args s (wX7 cI cS hh (vCar') (vGoa') vEag (tN') (tF') cN cF (mP') mS (kCap') (kGap') (kCar') (kCop') kGro (kShr') bN bF rCmd rLet rNum fCap fGap fCar fCop fGro fShr (hX') (hC') (hR')) r A) (F0 m 0 ls []) := by
    intro H locs hP hS
    refine lv_iload_n hx hb dX7_erase_0 rfl (lv_at hl 1 rfl) ?_
    obtain ⟨r3, ec3, h⟩ := bd_some h
    refine cS_i (As := [.int p1]) (rest := []) (wc := []) (wc' := []) hx hb hml hown hg hK hP hD hS hA hl.1 (k_X7_isCount l D cI cS cL Z p1 ec3) gs_X7_isCount gw_461 ⟨rfl, rfl, by decide, by decide⟩ ⟨Nat.zero_le _, Nat.zero_le _⟩ [] rfl rfl rfl rfl rfl (Nat.le_of_ble_eq_true rfl) dX7_erase_1 (fun H locs hP hD hS => ?_)
    have hP : va_P D vwCl (wX7 cI cS hh vCar vGoa vEag tN tF cN cF mP mS kCap kGap kCar kCop kGro kShr bN bF rCmd rLet rNum fCap fGap fCar fCop fGro fShr hX hC hR) H := hP
    have hD : va_D A (wX7 cI cS hh vCar vGoa vEag tN tF cN cF mP mS kCap kGap kCar kCop kGro kShr bN bF rCmd rLet rNum fCap fGap fCar fCop fGro fShr hX hC hR) := hD
    by_cases q4 : r3 = 0
    · cases it_some q4 h
    replace h := if_some q4 h
    refine cS_v (As := [.int r3]) (rest := []) (wc := []) (wc' := []) hx hb hml hown hg hK hP hD hS hA hl.1 (k_X7_requireArgument l D cI cS cL r3 q4) gs_X7_requireArgument gw_397 ⟨rfl, rfl, by decide, by decide⟩ ⟨Nat.zero_le _, Nat.zero_le _⟩ [] rfl rfl rfl rfl rfl (Nat.le_of_ble_eq_true rfl) dX7_erase_4 (fun H locs hP hD hS => ?_)
    have hP : va_P D vwCl (wX7 cI cS hh vCar vGoa vEag tN tF cN cF mP mS kCap kGap kCar kCop kGro kShr bN bF rCmd rLet rNum fCap fGap fCar fCop fGro fShr hX hC hR) H := hP
    have hD : va_D A (wX7 cI cS hh vCar vGoa vEag tN tF cN cF mP mS kCap kGap kCar kCop kGro kShr bN bF rCmd rLet rNum fCap fGap fCar fCop fGro fShr hX hC hR) := hD
    replace h := map_inl h
    exact c_7 vCar vGoa tN tF mP kCap kGap kCar kCop kShr hX hC hR h H locs hP hD hS ls (lv_sub hl [0, 1] rfl)
  exact hmain _ _ hP hS
abbrev rm_X7_backspace : Room := { frames := 5, cells := 0, slots := 0, locals := 111 }
def f_X7_backspace_c7 (Z : Nat) (p1 : Int32) (vEag : Int32) (cN : Int32) (cF : Nat → Int32) (mS : Nat → Int32) (kGro : Int32) (vCar : Int32) (vGoa : Int32) (tN : Int32) (tF : Nat → Int32) (mP : Nat → Int32) (kCap : Int32) (kGap : Int32) (kCar : Int32) (kCop : Int32) (kShr : Int32) (hX : Int32) (hC : Int32) (hR : Nat → StT) : Option (Int32 × Int32 × Int32 × Int32 × (Nat → Int32) × (Nat → Int32) × Int32 × Int32 × Int32 × Int32 × Int32 × Int32 × Int32 × (Nat → StT)) :=
    (f_X2_save Z hX hC hR vCar vGoa vEag tN tF cN cF mP mS kCap kGap kCar kCop kGro kShr).bind fun (hX_1, hC_1, hR_1) =>
    (f_X6_deleteBefore Z p1 vCar vGoa tN tF mP kCap kGap kCar kCop kShr).bind fun (r2, vCar_2, vGoa_2, tN_2, tF_2, mP_2, kCap_2, kGap_2, kCar_2, kCop_2, kShr_2) =>
    some (r2, vCar_2, vGoa_2, tN_2, tF_2, mP_2, kCap_2, kGap_2, kCar_2, kCop_2, kShr_2, hX_1, hC_1, hR_1)
def f_X7_backspace (Z : Nat) (p1 : Int32) (vCar : Int32) (vGoa : Int32) (vEag : Int32) (tN : Int32) (tF : Nat → Int32) (cN : Int32) (cF : Nat → Int32) (mP : Nat → Int32) (mS : Nat → Int32) (kCap : Int32) (kGap : Int32) (kCar : Int32) (kCop : Int32) (kGro : Int32) (kShr : Int32) (hX : Int32) (hC : Int32) (hR : Nat → StT) : Option ((Int32 × Int32 × Int32 × Int32 × (Nat → Int32) × (Nat → Int32) × Int32 × Int32 × Int32 × Int32 × Int32 × Int32 × Int32 × (Nat → StT)) ⊕ String) :=
  (f_X7_isCount Z p1).bind fun r3 =>
  if r3 = 0 then
    some (.inr "java/lang/IllegalArgumentException")
  else
  (f_X7_backspace_c7 Z p1 vEag cN cF mS kGro vCar vGoa tN tF mP kCap kGap kCar kCop kShr hX hC hR).map Sum.inl
set_option maxRecDepth 100000 in
set_option maxHeartbeats 4000000 in
theorem k_X7_backspace (l : Launch) (D : va_G) (cI cS cL : ClassId) (Z : Nat) (hh : Nat → Nat) (p1 : Int32) (vCar : Int32) (vGoa : Int32) (vEag : Int32) (tN : Int32) (tF : Nat → Int32) (cN : Int32) (cF : Nat → Int32) (mP : Nat → Int32) (mS : Nat → Int32) (kCap : Int32) (kGap : Int32) (kCar : Int32) (kCop : Int32) (kGro : Int32) (kShr : Int32) (bN : Int32) (bF : Nat → Int32) (rCmd : Int32) (rLet : Int32) (rNum : Int32) (fCap : Int32) (fGap : Int32) (fCar : Int32) (fCop : Int32) (fGro : Int32) (fShr : Int32) (hX : Int32) (hC : Int32) (hR : Nat → StT) {r : Int32} {vCar' : Int32} {vGoa' : Int32} {tN' : Int32} {tF' : Nat → Int32} {mP' : Nat → Int32} {kCap' : Int32} {kGap' : Int32} {kCar' : Int32} {kCop' : Int32} {kShr' : Int32} {hX' : Int32} {hC' : Int32} {hR' : Nat → StT} (h : f_X7_backspace Z p1 vCar vGoa vEag tN tF cN cF mP mS kCap kGap kCar kCop kGro kShr hX hC hR = some (.inl (r, vCar', vGoa', tN', tF', mP', kCap', kGap', kCar', kCop', kShr', hX', hC', hR'))) : CI l yX7_backspace cX7_backspace 2 (some .int) rm_X7_backspace D cI cS cL [.ref (hh 0), .int p1] (wX7 cI cS hh vCar vGoa vEag tN tF cN cF mP mS kCap kGap kCar kCop kGro kShr bN bF rCmd rLet rNum fCap fGap fCar fCop fGro fShr hX hC hR) (wX7 cI cS hh (vCar') (vGoa') vEag (tN') (tF') cN cF (mP') mS (kCap') (kGap') (kCar') (kCop') kGro (kShr') bN bF rCmd rLet rNum fCap fGap fCar fCop fGro fShr (hX') (hC') (hR')) r := by
  refine ent_i (by decide +kernel) (Nat.le_of_ble_eq_true rfl) ?_
  intro p e s m args below meth c A ls hx hb hr hml hlocks hg hown hK hP hD hS hA hl
  have hown : s.vm.findClass RX7 = some m.cls := hown
  have c_7 : ∀ (vCar : Int32) (vGoa : Int32) (tN : Int32) (tF : Nat → Int32) (mP : Nat → Int32) (kCap : Int32) (kGap : Int32) (kCar : Int32) (kCop : Int32) (kShr : Int32) (hX : Int32) (hC : Int32) (hR : Nat → StT), f_X7_backspace_c7 Z p1 vEag cN cF mS kGro vCar vGoa tN tF mP kCap kGap kCar kCop kShr hX hC hR = some (r, vCar', vGoa', tN', tF', mP', kCap', kGap', kCar', kCop', kShr', hX', hC', hR') → ∀ (H : Heap) (locs : List Loc), va_P D vwCl (wX7 cI cS hh vCar vGoa vEag tN tF cN cF mP mS kCap kGap kCar kCop kGro kShr bN bF rCmd rLet rNum fCap fGap fCar fCop fGro fShr hX hC hR) H → va_D A (wX7 cI cS hh vCar vGoa vEag tN tF cN cF mP mS kCap kGap kCar kCop kGro kShr bN bF rCmd rLet rNum fCap fGap fCar fCop fGro fShr hX hC hR) → va_S A s.heap H locs → ∀ ls : Array Slot, lv_has ls 2 [(0, .ref (hh 0)), (1, .int p1)] → W p l e rm_X7_backspace s m args below meth c H locs 0 0 (FI D below args s (wX7 cI cS hh (vCar') (vGoa') vEag (tN') (tF') cN cF (mP') mS (kCap') (kGap') (kCar') (kCop') kGro (kShr') bN bF rCmd rLet rNum fCap fGap fCar fCop fGro fShr (hX') (hC') (hR')) r A) (F0 m 7 ls []) := by
    intro vCar vGoa tN tF mP kCap kGap kCar kCop kShr hX hC hR h H locs hP hD hS ls hl
    unfold f_X7_backspace_c7 at h
    refine lv_aload_n hx hb dX7_backspace_7 rfl (lv_at hl 0 rfl) ?_
    refine va_get (D := D) (ci := 7) (v := .ref (hh 15)) (C := RX7) (T := TX7) (N := 4) hx hb hg uX7 hown hK.1 hP 0 rfl rfl 1 (by decide) (hg _ gw_185) (fun _ h9 => h9) rfl dX7_backspace_8 ?_
    refine lv_aload_n hx hb dX7_backspace_11 rfl (lv_at hl 0 rfl) ?_
    refine va_get (D := D) (ci := 7) (v := .ref (hh 1)) (C := RX7) (T := TX7) (N := 4) hx hb hg uX7 hown hK.1 hP 0 rfl rfl 0 (by decide) (hg _ gw_184) (fun _ h9 => h9) rfl dX7_backspace_12 ?_
    obtain ⟨⟨hX_1, hC_1, hR_1⟩, ec1, h⟩ := bd_some h
    refine cP_v (As := [.ref (hh 1)]) (rest := []) (wc := (wX2t cI cS (fun i => hh (15 + i)) hX hC hR (wX6 cI (hh 1) (hh 2) (hh 3) (hh 4) (hh 5) (hh 6) (hh 7) (hh 8) (hh 9) vCar vGoa vEag tN tF cN cF mP mS kCap kGap kCar kCop kGro kShr))) (wc' := (wX2t cI cS (fun i => hh (15 + i)) hX_1 hC_1 hR_1 (wX6 cI (hh 1) (hh 2) (hh 3) (hh 4) (hh 5) (hh 6) (hh 7) (hh 8) (hh 9) vCar vGoa vEag tN tF cN cF mP mS kCap kGap kCar kCop kGro kShr))) (ws' := (wX7 cI cS hh vCar vGoa vEag tN tF cN cF mP mS kCap kGap kCar kCop kGro kShr bN bF rCmd rLet rNum fCap fGap fCar fCop fGro fShr hX_1 hC_1 hR_1)) hx hb hml hown hg hK hP hD hS hA hl.1 (k_X2_save l D cI cS cL Z (fun i => hh (15 + i)) (hh 1) (hh 2) (hh 3) (hh 4) (hh 5) (hh 6) (hh 7) (hh 8) (hh 9) hX hC hR vCar vGoa vEag tN tF cN cF mP mS kCap kGap kCar kCop kGro kShr ec1) gm_X2_save gw_419 ⟨rfl, rfl, by decide, by decide⟩ ⟨Nat.zero_le _, Nat.zero_le _⟩ pm_7 pm_7 fst_X2t rfl rfl rfl rfl rfl (Nat.le_of_ble_eq_true rfl) dX7_backspace_15 (fun H locs hP hD hS => ?_)
    refine lv_aload_n hx hb dX7_backspace_18 rfl (lv_at hl 0 rfl) ?_
    refine va_get (D := D) (ci := 7) (v := .ref (hh 1)) (C := RX7) (T := TX7) (N := 4) hx hb hg uX7 hown hK.1 hP 0 rfl rfl 0 (by decide) (hg _ gw_184) (fun _ h9 => h9) rfl dX7_backspace_19 ?_
    refine lv_iload_n hx hb dX7_backspace_22 rfl (lv_at hl 1 rfl) ?_
    obtain ⟨⟨r2, vCar_2, vGoa_2, tN_2, tF_2, mP_2, kCap_2, kGap_2, kCar_2, kCop_2, kShr_2⟩, ec2, h⟩ := bd_some h
    refine cV_i (As := [.int p1]) (rest := []) (wc := (wX6 cI (hh 1) (hh 2) (hh 3) (hh 4) (hh 5) (hh 6) (hh 7) (hh 8) (hh 9) vCar vGoa vEag tN tF cN cF mP mS kCap kGap kCar kCop kGro kShr)) (wc' := (wX6 cI (hh 1) (hh 2) (hh 3) (hh 4) (hh 5) (hh 6) (hh 7) (hh 8) (hh 9) vCar_2 vGoa_2 vEag tN_2 tF_2 cN cF mP_2 mS kCap_2 kGap_2 kCar_2 kCop_2 kGro kShr_2)) hx hb hml hown hg hK hP hD hS hA hl.1 (k_X6_deleteBefore l D cI cS cL Z (hh 1) (hh 2) (hh 3) (hh 4) (hh 5) (hh 6) (hh 7) (hh 8) (hh 9) p1 vCar vGoa vEag tN tF cN cF mP mS kCap kGap kCar kCop kGro kShr ec2) gm_X6_deleteBefore gw_498 ⟨rfl, rfl, by decide, by decide⟩ ⟨Nat.zero_le _, Nat.zero_le _⟩ [1, 2, 3, 4, 5, 6, 7, 8, 9] rfl rfl rfl rfl rfl rfl rfl rfl (Nat.le_of_ble_eq_true rfl) dX7_backspace_23 (fun H locs hP hD hS => ?_)
    have hP : va_P D vwCl (wX7 cI cS hh vCar_2 vGoa_2 vEag tN_2 tF_2 cN cF mP_2 mS kCap_2 kGap_2 kCar_2 kCop_2 kGro kShr_2 bN bF rCmd rLet rNum fCap fGap fCar fCop fGro fShr hX_1 hC_1 hR_1) H := hP
    have hD : va_D A (wX7 cI cS hh vCar_2 vGoa_2 vEag tN_2 tF_2 cN cF mP_2 mS kCap_2 kGap_2 kCar_2 kCop_2 kGro kShr_2 bN bF rCmd rLet rNum fCap fGap fCar fCop fGro fShr hX_1 hC_1 hR_1) := hD
    cases h
    exact ret_i hx hb hr hlocks hP hD hS dX7_backspace_26 rfl
  have hl : lv_has ls 2 [(0, .ref (hh 0)), (1, .int p1)] := hl
  have hP : va_P D vwCl (wX7 cI cS hh vCar vGoa vEag tN tF cN cF mP mS kCap kGap kCar kCop kGro kShr bN bF rCmd rLet rNum fCap fGap fCar fCop fGro fShr hX hC hR) s.heap := hP
  have hD : va_D A (wX7 cI cS hh vCar vGoa vEag tN tF cN cF mP mS kCap kGap kCar kCop kGro kShr bN bF rCmd rLet rNum fCap fGap fCar fCop fGro fShr hX hC hR) := hD
  show W p l e rm_X7_backspace s m args below meth c s.heap [] 0 0 (FI D below args s (wX7 cI cS hh (vCar') (vGoa') vEag (tN') (tF') cN cF (mP') mS (kCap') (kGap') (kCar') (kCop') kGro (kShr') bN bF rCmd rLet rNum fCap fGap fCar fCop fGro fShr (hX') (hC') (hR')) r A) (F0 m 0 ls [])
  unfold f_X7_backspace at h
  have hmain : ∀ (H : Heap) (locs : List Loc), va_P D vwCl (wX7 cI cS hh vCar vGoa vEag tN tF cN cF mP mS kCap kGap kCar kCop kGro kShr bN bF rCmd rLet rNum fCap fGap fCar fCop fGro fShr hX hC hR) H → va_S A s.heap H locs → W p l e rm_X7_backspace s m args below meth c H locs 0 0 (FI D below args s (wX7 cI cS hh (vCar') (vGoa') vEag (tN') (tF') cN cF (mP') mS (kCap') (kGap') (kCar') (kCop') kGro (kShr') bN bF rCmd rLet rNum fCap fGap fCar fCop fGro fShr (hX') (hC') (hR')) r A) (F0 m 0 ls []) := by
    intro H locs hP hS
    refine lv_iload_n hx hb dX7_backspace_0 rfl (lv_at hl 1 rfl) ?_
    obtain ⟨r3, ec3, h⟩ := bd_some h
    refine cS_i (As := [.int p1]) (rest := []) (wc := []) (wc' := []) hx hb hml hown hg hK hP hD hS hA hl.1 (k_X7_isCount l D cI cS cL Z p1 ec3) gs_X7_isCount gw_461 ⟨rfl, rfl, by decide, by decide⟩ ⟨Nat.zero_le _, Nat.zero_le _⟩ [] rfl rfl rfl rfl rfl (Nat.le_of_ble_eq_true rfl) dX7_backspace_1 (fun H locs hP hD hS => ?_)
    have hP : va_P D vwCl (wX7 cI cS hh vCar vGoa vEag tN tF cN cF mP mS kCap kGap kCar kCop kGro kShr bN bF rCmd rLet rNum fCap fGap fCar fCop fGro fShr hX hC hR) H := hP
    have hD : va_D A (wX7 cI cS hh vCar vGoa vEag tN tF cN cF mP mS kCap kGap kCar kCop kGro kShr bN bF rCmd rLet rNum fCap fGap fCar fCop fGro fShr hX hC hR) := hD
    by_cases q4 : r3 = 0
    · cases it_some q4 h
    replace h := if_some q4 h
    refine cS_v (As := [.int r3]) (rest := []) (wc := []) (wc' := []) hx hb hml hown hg hK hP hD hS hA hl.1 (k_X7_requireArgument l D cI cS cL r3 q4) gs_X7_requireArgument gw_397 ⟨rfl, rfl, by decide, by decide⟩ ⟨Nat.zero_le _, Nat.zero_le _⟩ [] rfl rfl rfl rfl rfl (Nat.le_of_ble_eq_true rfl) dX7_backspace_4 (fun H locs hP hD hS => ?_)
    have hP : va_P D vwCl (wX7 cI cS hh vCar vGoa vEag tN tF cN cF mP mS kCap kGap kCar kCop kGro kShr bN bF rCmd rLet rNum fCap fGap fCar fCop fGro fShr hX hC hR) H := hP
    have hD : va_D A (wX7 cI cS hh vCar vGoa vEag tN tF cN cF mP mS kCap kGap kCar kCop kGro kShr bN bF rCmd rLet rNum fCap fGap fCar fCop fGro fShr hX hC hR) := hD
    replace h := map_inl h
    exact c_7 vCar vGoa tN tF mP kCap kGap kCar kCop kShr hX hC hR h H locs hP hD hS ls (lv_sub hl [0, 1] rfl)
  exact hmain _ _ hP hS
abbrev rm_X7_isPosition : Room := { frames := 1, cells := 0, slots := 0, locals := 20 }
def f_X7_isPosition (Z : Nat) (p1 : Int32) (tN : Int32) : Option (Int32) :=
  if p1 < 0 then
    some 0
  else
    (f_X0_size Z 256 tN).bind fun r2 =>
    if r2 < p1 then
      some 0
    else
      some 1
set_option maxRecDepth 100000 in
set_option maxHeartbeats 4000000 in
theorem k_X7_isPosition (l : Launch) (D : va_G) (cI cS cL : ClassId) (Z : Nat) (hh : Nat → Nat) (p1 : Int32) (vCar : Int32) (vGoa : Int32) (vEag : Int32) (tN : Int32) (tF : Nat → Int32) (cN : Int32) (cF : Nat → Int32) (mP : Nat → Int32) (mS : Nat → Int32) (kCap : Int32) (kGap : Int32) (kCar : Int32) (kCop : Int32) (kGro : Int32) (kShr : Int32) (bN : Int32) (bF : Nat → Int32) (rCmd : Int32) (rLet : Int32) (rNum : Int32) (fCap : Int32) (fGap : Int32) (fCar : Int32) (fCop : Int32) (fGro : Int32) (fShr : Int32) (hX : Int32) (hC : Int32) (hR : Nat → StT) {r : Int32} (h : f_X7_isPosition Z p1 tN = some r) : CI l yX7_isPosition cX7_isPosition 2 (some .boolean) rm_X7_isPosition D cI cS cL [.ref (hh 0), .int p1] (wX7 cI cS hh vCar vGoa vEag tN tF cN cF mP mS kCap kGap kCar kCop kGro kShr bN bF rCmd rLet rNum fCap fGap fCar fCop fGro fShr hX hC hR) (wX7 cI cS hh vCar vGoa vEag tN tF cN cF mP mS kCap kGap kCar kCop kGro kShr bN bF rCmd rLet rNum fCap fGap fCar fCop fGro fShr hX hC hR) r := by
  refine ent_i (by decide +kernel) (Nat.le_of_ble_eq_true rfl) ?_
  intro p e s m args below meth c A ls hx hb hr hml hlocks hg hown hK hP hD hS hA hl
  have hown : s.vm.findClass RX7 = some m.cls := hown
  have hl : lv_has ls 2 [(0, .ref (hh 0)), (1, .int p1)] := hl
  have hP : va_P D vwCl (wX7 cI cS hh vCar vGoa vEag tN tF cN cF mP mS kCap kGap kCar kCop kGro kShr bN bF rCmd rLet rNum fCap fGap fCar fCop fGro fShr hX hC hR) s.heap := hP
  have hD : va_D A (wX7 cI cS hh vCar vGoa vEag tN tF cN cF mP mS kCap kGap kCar kCop kGro kShr bN bF rCmd rLet rNum fCap fGap fCar fCop fGro fShr hX hC hR) := hD
  show W p l e rm_X7_isPosition s m args below meth c s.heap [] 0 0 (FI D below args s (wX7 cI cS hh vCar vGoa vEag tN tF cN cF mP mS kCap kGap kCar kCop kGro kShr bN bF rCmd rLet rNum fCap fGap fCar fCop fGro fShr hX hC hR) r A) (F0 m 0 ls [])
  unfold f_X7_isPosition at h
  have hmain : ∀ (H : Heap) (locs : List Loc), va_P D vwCl (wX7 cI cS hh vCar vGoa vEag tN tF cN cF mP mS kCap kGap kCar kCop kGro kShr bN bF rCmd rLet rNum fCap fGap fCar fCop fGro fShr hX hC hR) H → va_S A s.heap H locs → W p l e rm_X7_isPosition s m args below meth c H locs 0 0 (FI D below args s (wX7 cI cS hh vCar vGoa vEag tN tF cN cF mP mS kCap kGap kCar kCop kGro kShr bN bF rCmd rLet rNum fCap fGap fCar fCop fGro fShr hX hC hR) r A) (F0 m 0 ls []) := by
    intro H locs hP hS
    refine lv_iload_n hx hb dX7_isPosition_0 rfl (lv_at hl 1 rfl) ?_
    refine lv_if_lt (tgt := 22) hx hb dX7_isPosition_1 (by decide) (fun q1 => ?_) (fun q1 => ?_)
    · replace h := it_some q1 h
      refine lv_iconst (v := 0) hx hb dX7_isPosition_22 (by decide) ?_
      cases h
      exact ret_z hx hb hr hlocks hP hD hS dX7_isPosition_23 (Or.inl rfl) rfl
    · replace h := if_some q1 h
      refine lv_iload_n hx hb dX7_isPosition_4 rfl (lv_at hl 1 rfl) ?_
      refine lv_aload_n hx hb dX7_isPosition_5 rfl (lv_at hl 0 rfl) ?_
      refine va_get (D := D) (ci := 7) (v := .ref (hh 1)) (C := RX7) (T := TX7) (N := 4) hx hb hg uX7 hown hK.1 hP 0 rfl rfl 0 (by decide) (hg _ gw_184) (fun _ h9 => h9) rfl dX7_isPosition_6 ?_
      refine va_getN (D := D) (ci := 6) (v := .ref (hh 2)) (C := RX6) (T := TX6) (N := 7) hx hb hg uX6 hown hK.1 hP 1 rfl rfl 0 (by decide) (kk_nest hK nw_105) (fun _ h9 => h9) rfl dX7_isPosition_9 ?_
      obtain ⟨r2, ec2, h⟩ := bd_some h
      refine cV_i (As := []) (rest := [.int p1]) (wc := (wX0 cI (hh 2) (hh 3) 256 tN tF)) (wc' := (wX0 cI (hh 2) (hh 3) 256 tN tF)) hx hb hml hown hg hK hP hD hS hA hl.1 (k_X0_size l D cI cS cL Z (hh 2) (hh 3) 256 tN tF ec2) gm_X0_size gw_361 ⟨rfl, rfl, by decide, by decide⟩ ⟨Nat.zero_le _, Nat.zero_le _⟩ [2, 3] rfl rfl rfl rfl rfl rfl rfl rfl (Nat.le_of_ble_eq_true rfl) dX7_isPosition_12 (fun H locs hP hD hS => ?_)
      have hP : va_P D vwCl (wX7 cI cS hh vCar vGoa vEag tN tF cN cF mP mS kCap kGap kCar kCop kGro kShr bN bF rCmd rLet rNum fCap fGap fCar fCop fGro fShr hX hC hR) H := hP
      have hD : va_D A (wX7 cI cS hh vCar vGoa vEag tN tF cN cF mP mS kCap kGap kCar kCop kGro kShr bN bF rCmd rLet rNum fCap fGap fCar fCop fGro fShr hX hC hR) := hD
      refine lv_icmp_gt (tgt := 22) hx hb dX7_isPosition_15 (by decide) (fun q3 => ?_) (fun q3 => ?_)
      · replace h := it_some q3 h
        refine lv_iconst (v := 0) hx hb dX7_isPosition_22 (by decide) ?_
        cases h
        exact ret_z hx hb hr hlocks hP hD hS dX7_isPosition_23 (Or.inl rfl) rfl
      · replace h := if_some q3 h
        refine lv_iconst (v := 1) hx hb dX7_isPosition_18 (by decide) ?_
        refine lv_goto (tgt := 23) hx hb dX7_isPosition_19 (by decide) ?_
        cases h
        exact ret_z hx hb hr hlocks hP hD hS dX7_isPosition_23 (Or.inr rfl) rfl
  exact hmain _ _ hP hS
abbrev rm_X7_moveTo : Room := { frames := 5, cells := 0, slots := 0, locals := 107 }
def f_X7_moveTo_c8 (Z : Nat) (p1 : Int32) (vEag : Int32) (tN : Int32) (tF : Nat → Int32) (cN : Int32) (cF : Nat → Int32) (mP : Nat → Int32) (mS : Nat → Int32) (kCap : Int32) (kCop : Int32) (kGro : Int32) (kShr : Int32) (vCar : Int32) (vGoa : Int32) (kGap : Int32) (kCar : Int32) (hX : Int32) (hC : Int32) (hR : Nat → StT) : Option (Int32 × Int32 × Int32 × Int32 × Int32 × Int32 × Int32 × (Nat → StT)) :=
    (f_X2_save Z hX hC hR vCar vGoa vEag tN tF cN cF mP mS kCap kGap kCar kCop kGro kShr).bind fun (hX_1, hC_1, hR_1) =>
    (f_X6_moveCaret Z p1 vCar vGoa vEag tN tF kGap kCar).bind fun (r2, vCar_2, vGoa_2, kGap_2, kCar_2) =>
    some (r2, vCar_2, vGoa_2, kGap_2, kCar_2, hX_1, hC_1, hR_1)
def f_X7_moveTo (Z : Nat) (p1 : Int32) (vCar : Int32) (vGoa : Int32) (vEag : Int32) (tN : Int32) (tF : Nat → Int32) (cN : Int32) (cF : Nat → Int32) (mP : Nat → Int32) (mS : Nat → Int32) (kCap : Int32) (kGap : Int32) (kCar : Int32) (kCop : Int32) (kGro : Int32) (kShr : Int32) (hX : Int32) (hC : Int32) (hR : Nat → StT) : Option ((Int32 × Int32 × Int32 × Int32 × Int32 × Int32 × Int32 × (Nat → StT)) ⊕ String) :=
  (f_X7_isPosition Z p1 tN).bind fun r3 =>
  if r3 = 0 then
    some (.inr "java/lang/IndexOutOfBoundsException")
  else
  (f_X7_moveTo_c8 Z p1 vEag tN tF cN cF mP mS kCap kCop kGro kShr vCar vGoa kGap kCar hX hC hR).map Sum.inl
set_option maxRecDepth 100000 in
set_option maxHeartbeats 4000000 in
theorem k_X7_moveTo (l : Launch) (D : va_G) (cI cS cL : ClassId) (Z : Nat) (hh : Nat → Nat) (p1 : Int32) (vCar : Int32) (vGoa : Int32) (vEag : Int32) (tN : Int32) (tF : Nat → Int32) (cN : Int32) (cF : Nat → Int32) (mP : Nat → Int32) (mS : Nat → Int32) (kCap : Int32) (kGap : Int32) (kCar : Int32) (kCop : Int32) (kGro : Int32) (kShr : Int32) (bN : Int32) (bF : Nat → Int32) (rCmd : Int32) (rLet : Int32) (rNum : Int32) (fCap : Int32) (fGap : Int32) (fCar : Int32) (fCop : Int32) (fGro : Int32) (fShr : Int32) (hX : Int32) (hC : Int32) (hR : Nat → StT) {r : Int32} {vCar' : Int32} {vGoa' : Int32} {kGap' : Int32} {kCar' : Int32} {hX' : Int32} {hC' : Int32} {hR' : Nat → StT} (h : f_X7_moveTo Z p1 vCar vGoa vEag tN tF cN cF mP mS kCap kGap kCar kCop kGro kShr hX hC hR = some (.inl (r, vCar', vGoa', kGap', kCar', hX', hC', hR'))) : CI l yX7_moveTo cX7_moveTo 2 (some .int) rm_X7_moveTo D cI cS cL [.ref (hh 0), .int p1] (wX7 cI cS hh vCar vGoa vEag tN tF cN cF mP mS kCap kGap kCar kCop kGro kShr bN bF rCmd rLet rNum fCap fGap fCar fCop fGro fShr hX hC hR) (wX7 cI cS hh (vCar') (vGoa') vEag tN tF cN cF mP mS kCap (kGap') (kCar') kCop kGro kShr bN bF rCmd rLet rNum fCap fGap fCar fCop fGro fShr (hX') (hC') (hR')) r := by
  refine ent_i (by decide +kernel) (Nat.le_of_ble_eq_true rfl) ?_
  intro p e s m args below meth c A ls hx hb hr hml hlocks hg hown hK hP hD hS hA hl
  have hown : s.vm.findClass RX7 = some m.cls := hown
  have c_8 : ∀ (vCar : Int32) (vGoa : Int32) (kGap : Int32) (kCar : Int32) (hX : Int32) (hC : Int32) (hR : Nat → StT), f_X7_moveTo_c8 Z p1 vEag tN tF cN cF mP mS kCap kCop kGro kShr vCar vGoa kGap kCar hX hC hR = some (r, vCar', vGoa', kGap', kCar', hX', hC', hR') → ∀ (H : Heap) (locs : List Loc), va_P D vwCl (wX7 cI cS hh vCar vGoa vEag tN tF cN cF mP mS kCap kGap kCar kCop kGro kShr bN bF rCmd rLet rNum fCap fGap fCar fCop fGro fShr hX hC hR) H → va_D A (wX7 cI cS hh vCar vGoa vEag tN tF cN cF mP mS kCap kGap kCar kCop kGro kShr bN bF rCmd rLet rNum fCap fGap fCar fCop fGro fShr hX hC hR) → va_S A s.heap H locs → ∀ ls : Array Slot, lv_has ls 2 [(0, .ref (hh 0)), (1, .int p1)] → W p l e rm_X7_moveTo s m args below meth c H locs 0 0 (FI D below args s (wX7 cI cS hh (vCar') (vGoa') vEag tN tF cN cF mP mS kCap (kGap') (kCar') kCop kGro kShr bN bF rCmd rLet rNum fCap fGap fCar fCop fGro fShr (hX') (hC') (hR')) r A) (F0 m 8 ls []) := by
    intro vCar vGoa kGap kCar hX hC hR h H locs hP hD hS ls hl
    unfold f_X7_moveTo_c8 at h
    refine lv_aload_n hx hb dX7_moveTo_8 rfl (lv_at hl 0 rfl) ?_
    refine va_get (D := D) (ci := 7) (v := .ref (hh 15)) (C := RX7) (T := TX7) (N := 4) hx hb hg uX7 hown hK.1 hP 0 rfl rfl 1 (by decide) (hg _ gw_185) (fun _ h9 => h9) rfl dX7_moveTo_9 ?_
    refine lv_aload_n hx hb dX7_moveTo_12 rfl (lv_at hl 0 rfl) ?_
    refine va_get (D := D) (ci := 7) (v := .ref (hh 1)) (C := RX7) (T := TX7) (N := 4) hx hb hg uX7 hown hK.1 hP 0 rfl rfl 0 (by decide) (hg _ gw_184) (fun _ h9 => h9) rfl dX7_moveTo_13 ?_
    obtain ⟨⟨hX_1, hC_1, hR_1⟩, ec1, h⟩ := bd_some h
    refine cP_v (As := [.ref (hh 1)]) (rest := []) (wc := (wX2t cI cS (fun i => hh (15 + i)) hX hC hR (wX6 cI (hh 1) (hh 2) (hh 3) (hh 4) (hh 5) (hh 6) (hh 7) (hh 8) (hh 9) vCar vGoa vEag tN tF cN cF mP mS kCap kGap kCar kCop kGro kShr))) (wc' := (wX2t cI cS (fun i => hh (15 + i)) hX_1 hC_1 hR_1 (wX6 cI (hh 1) (hh 2) (hh 3) (hh 4) (hh 5) (hh 6) (hh 7) (hh 8) (hh 9) vCar vGoa vEag tN tF cN cF mP mS kCap kGap kCar kCop kGro kShr))) (ws' := (wX7 cI cS hh vCar vGoa vEag tN tF cN cF mP mS kCap kGap kCar kCop kGro kShr bN bF rCmd rLet rNum fCap fGap fCar fCop fGro fShr hX_1 hC_1 hR_1)) hx hb hml hown hg hK hP hD hS hA hl.1 (k_X2_save l D cI cS cL Z (fun i => hh (15 + i)) (hh 1) (hh 2) (hh 3) (hh 4) (hh 5) (hh 6) (hh 7) (hh 8) (hh 9) hX hC hR vCar vGoa vEag tN tF cN cF mP mS kCap kGap kCar kCop kGro kShr ec1) gm_X2_save gw_419 ⟨rfl, rfl, by decide, by decide⟩ ⟨Nat.zero_le _, Nat.zero_le _⟩ pm_7 pm_7 fst_X2t rfl rfl rfl rfl rfl (Nat.le_of_ble_eq_true rfl) dX7_moveTo_16 (fun H locs hP hD hS => ?_)
    refine lv_aload_n hx hb dX7_moveTo_19 rfl (lv_at hl 0 rfl) ?_
    refine va_get (D := D) (ci := 7) (v := .ref (hh 1)) (C := RX7) (T := TX7) (N := 4) hx hb hg uX7 hown hK.1 hP 0 rfl rfl 0 (by decide) (hg _ gw_184) (fun _ h9 => h9) rfl dX7_moveTo_20 ?_
    refine lv_iload_n hx hb dX7_moveTo_23 rfl (lv_at hl 1 rfl) ?_
    obtain ⟨⟨r2, vCar_2, vGoa_2, kGap_2, kCar_2⟩, ec2, h⟩ := bd_some h
    refine cV_i (As := [.int p1]) (rest := []) (wc := (wX6 cI (hh 1) (hh 2) (hh 3) (hh 4) (hh 5) (hh 6) (hh 7) (hh 8) (hh 9) vCar vGoa vEag tN tF cN cF mP mS kCap kGap kCar kCop kGro kShr)) (wc' := (wX6 cI (hh 1) (hh 2) (hh 3) (hh 4) (hh 5) (hh 6) (hh 7) (hh 8) (hh 9) vCar_2 vGoa_2 vEag tN tF cN cF mP mS kCap kGap_2 kCar_2 kCop kGro kShr)) hx hb hml hown hg hK hP hD hS hA hl.1 (k_X6_moveCaret l D cI cS cL Z (hh 1) (hh 2) (hh 3) (hh 4) (hh 5) (hh 6) (hh 7) (hh 8) (hh 9) p1 vCar vGoa vEag tN tF cN cF mP mS kCap kGap kCar kCop kGro kShr ec2) gm_X6_moveCaret gw_510 ⟨rfl, rfl, by decide, by decide⟩ ⟨Nat.zero_le _, Nat.zero_le _⟩ [1, 2, 3, 4, 5, 6, 7, 8, 9] rfl rfl rfl rfl rfl rfl rfl rfl (Nat.le_of_ble_eq_true rfl) dX7_moveTo_24 (fun H locs hP hD hS => ?_)
    have hP : va_P D vwCl (wX7 cI cS hh vCar_2 vGoa_2 vEag tN tF cN cF mP mS kCap kGap_2 kCar_2 kCop kGro kShr bN bF rCmd rLet rNum fCap fGap fCar fCop fGro fShr hX_1 hC_1 hR_1) H := hP
    have hD : va_D A (wX7 cI cS hh vCar_2 vGoa_2 vEag tN tF cN cF mP mS kCap kGap_2 kCar_2 kCop kGro kShr bN bF rCmd rLet rNum fCap fGap fCar fCop fGro fShr hX_1 hC_1 hR_1) := hD
    cases h
    exact ret_i hx hb hr hlocks hP hD hS dX7_moveTo_27 rfl
  have hl : lv_has ls 2 [(0, .ref (hh 0)), (1, .int p1)] := hl
  have hP : va_P D vwCl (wX7 cI cS hh vCar vGoa vEag tN tF cN cF mP mS kCap kGap kCar kCop kGro kShr bN bF rCmd rLet rNum fCap fGap fCar fCop fGro fShr hX hC hR) s.heap := hP
  have hD : va_D A (wX7 cI cS hh vCar vGoa vEag tN tF cN cF mP mS kCap kGap kCar kCop kGro kShr bN bF rCmd rLet rNum fCap fGap fCar fCop fGro fShr hX hC hR) := hD
  show W p l e rm_X7_moveTo s m args below meth c s.heap [] 0 0 (FI D below args s (wX7 cI cS hh (vCar') (vGoa') vEag tN tF cN cF mP mS kCap (kGap') (kCar') kCop kGro kShr bN bF rCmd rLet rNum fCap fGap fCar fCop fGro fShr (hX') (hC') (hR')) r A) (F0 m 0 ls [])
  unfold f_X7_moveTo at h
  have hmain : ∀ (H : Heap) (locs : List Loc), va_P D vwCl (wX7 cI cS hh vCar vGoa vEag tN tF cN cF mP mS kCap kGap kCar kCop kGro kShr bN bF rCmd rLet rNum fCap fGap fCar fCop fGro fShr hX hC hR) H → va_S A s.heap H locs → W p l e rm_X7_moveTo s m args below meth c H locs 0 0 (FI D below args s (wX7 cI cS hh (vCar') (vGoa') vEag tN tF cN cF mP mS kCap (kGap') (kCar') kCop kGro kShr bN bF rCmd rLet rNum fCap fGap fCar fCop fGro fShr (hX') (hC') (hR')) r A) (F0 m 0 ls []) := by
    intro H locs hP hS
    refine lv_aload_n hx hb dX7_moveTo_0 rfl (lv_at hl 0 rfl) ?_
    refine lv_iload_n hx hb dX7_moveTo_1 rfl (lv_at hl 1 rfl) ?_
    obtain ⟨r3, ec3, h⟩ := bd_some h
    refine cP_i (As := [.int p1]) (rest := []) (wc := (wX7 cI cS hh vCar vGoa vEag tN tF cN cF mP mS kCap kGap kCar kCop kGro kShr bN bF rCmd rLet rNum fCap fGap fCar fCop fGro fShr hX hC hR)) (wc' := (wX7 cI cS hh vCar vGoa vEag tN tF cN cF mP mS kCap kGap kCar kCop kGro kShr bN bF rCmd rLet rNum fCap fGap fCar fCop fGro fShr hX hC hR)) (ws' := (wX7 cI cS hh vCar vGoa vEag tN tF cN cF mP mS kCap kGap kCar kCop kGro kShr bN bF rCmd rLet rNum fCap fGap fCar fCop fGro fShr hX hC hR)) hx hb hml hown hg hK hP hD hS hA hl.1 (k_X7_isPosition l D cI cS cL Z hh p1 vCar vGoa vEag tN tF cN cF mP mS kCap kGap kCar kCop kGro kShr bN bF rCmd rLet rNum fCap fGap fCar fCop fGro fShr hX hC hR ec3) gm_X7_isPosition gw_506 ⟨rfl, rfl, by decide, by decide⟩ ⟨Nat.zero_le _, Nat.zero_le _⟩ pm_all pm_all rfl rfl rfl rfl rfl rfl (Nat.le_of_ble_eq_true rfl) dX7_moveTo_2 (fun H locs hP hD hS => ?_)
    by_cases q4 : r3 = 0
    · cases it_some q4 h
    replace h := if_some q4 h
    refine cS_v (As := [.int r3]) (rest := []) (wc := []) (wc' := []) hx hb hml hown hg hK hP hD hS hA hl.1 (k_X7_requireIndex l D cI cS cL r3 q4) gs_X7_requireIndex gw_367 ⟨rfl, rfl, by decide, by decide⟩ ⟨Nat.zero_le _, Nat.zero_le _⟩ [] rfl rfl rfl rfl rfl (Nat.le_of_ble_eq_true rfl) dX7_moveTo_5 (fun H locs hP hD hS => ?_)
    have hP : va_P D vwCl (wX7 cI cS hh vCar vGoa vEag tN tF cN cF mP mS kCap kGap kCar kCop kGro kShr bN bF rCmd rLet rNum fCap fGap fCar fCop fGro fShr hX hC hR) H := hP
    have hD : va_D A (wX7 cI cS hh vCar vGoa vEag tN tF cN cF mP mS kCap kGap kCar kCop kGro kShr bN bF rCmd rLet rNum fCap fGap fCar fCop fGro fShr hX hC hR) := hD
    replace h := map_inl h
    exact c_8 vCar vGoa kGap kCar hX hC hR h H locs hP hD hS ls (lv_sub hl [0, 1] rfl)
  exact hmain _ _ hP hS
abbrev rm_X7_moveBy : Room := { frames := 5, cells := 0, slots := 0, locals := 107 }
def f_X7_moveBy_c20 (Z : Nat) (p1 : Int32) (vEag : Int32) (tN : Int32) (tF : Nat → Int32) (cN : Int32) (cF : Nat → Int32) (mP : Nat → Int32) (mS : Nat → Int32) (kCap : Int32) (kCop : Int32) (kGro : Int32) (kShr : Int32) (vCar : Int32) (vGoa : Int32) (kGap : Int32) (kCar : Int32) (hX : Int32) (hC : Int32) (hR : Nat → StT) : Option (Int32 × Int32 × Int32 × Int32 × Int32 × Int32 × Int32 × (Nat → StT)) :=
    (f_X2_save Z hX hC hR vCar vGoa vEag tN tF cN cF mP mS kCap kGap kCar kCop kGro kShr).bind fun (hX_1, hC_1, hR_1) =>
    (f_X0_size Z 256 tN).bind fun r2 =>
    kl (if (vCar + p1) < r2 then (vCar + p1) else r2) fun z3 =>
    kl (if 0 < z3 then z3 else 0) fun z4 =>
    (f_X6_moveCaret Z z4 vCar vGoa vEag tN tF kGap kCar).bind fun (r5, vCar_5, vGoa_5, kGap_5, kCar_5) =>
    some (vCar_5, vCar_5, vGoa_5, kGap_5, kCar_5, hX_1, hC_1, hR_1)
def f_X7_moveBy (Z : Nat) (p1 : Int32) (vCar : Int32) (vGoa : Int32) (vEag : Int32) (tN : Int32) (tF : Nat → Int32) (cN : Int32) (cF : Nat → Int32) (mP : Nat → Int32) (mS : Nat → Int32) (kCap : Int32) (kGap : Int32) (kCar : Int32) (kCop : Int32) (kGro : Int32) (kShr : Int32) (hX : Int32) (hC : Int32) (hR : Nat → StT) : Option ((Int32 × Int32 × Int32 × Int32 × Int32 × Int32 × Int32 × (Nat → StT)) ⊕ String) :=
  if p1 < (-100) then
    if (0 : Int32) = 0 then
      some (.inr "java/lang/IllegalArgumentException")
    else
    (f_X7_moveBy_c20 Z p1 vEag tN tF cN cF mP mS kCap kCop kGro kShr vCar vGoa kGap kCar hX hC hR).map Sum.inl
  else
    if 100 < p1 then
      if (0 : Int32) = 0 then
        some (.inr "java/lang/IllegalArgumentException")
      else
      (f_X7_moveBy_c20 Z p1 vEag tN tF cN cF mP mS kCap kCop kGro kShr vCar vGoa kGap kCar hX hC hR).map Sum.inl
    else
      if (1 : Int32) = 0 then
        some (.inr "java/lang/IllegalArgumentException")
      else
      (f_X7_moveBy_c20 Z p1 vEag tN tF cN cF mP mS kCap kCop kGro kShr vCar vGoa kGap kCar hX hC hR).map Sum.inl
set_option maxRecDepth 100000 in
set_option maxHeartbeats 4000000 in
theorem k_X7_moveBy (l : Launch) (D : va_G) (cI cS cL : ClassId) (Z : Nat) (hh : Nat → Nat) (p1 : Int32) (vCar : Int32) (vGoa : Int32) (vEag : Int32) (tN : Int32) (tF : Nat → Int32) (cN : Int32) (cF : Nat → Int32) (mP : Nat → Int32) (mS : Nat → Int32) (kCap : Int32) (kGap : Int32) (kCar : Int32) (kCop : Int32) (kGro : Int32) (kShr : Int32) (bN : Int32) (bF : Nat → Int32) (rCmd : Int32) (rLet : Int32) (rNum : Int32) (fCap : Int32) (fGap : Int32) (fCar : Int32) (fCop : Int32) (fGro : Int32) (fShr : Int32) (hX : Int32) (hC : Int32) (hR : Nat → StT) {r : Int32} {vCar' : Int32} {vGoa' : Int32} {kGap' : Int32} {kCar' : Int32} {hX' : Int32} {hC' : Int32} {hR' : Nat → StT} (h : f_X7_moveBy Z p1 vCar vGoa vEag tN tF cN cF mP mS kCap kGap kCar kCop kGro kShr hX hC hR = some (.inl (r, vCar', vGoa', kGap', kCar', hX', hC', hR'))) : CI l yX7_moveBy cX7_moveBy 2 (some .int) rm_X7_moveBy D cI cS cL [.ref (hh 0), .int p1] (wX7 cI cS hh vCar vGoa vEag tN tF cN cF mP mS kCap kGap kCar kCop kGro kShr bN bF rCmd rLet rNum fCap fGap fCar fCop fGro fShr hX hC hR) (wX7 cI cS hh (vCar') (vGoa') vEag tN tF cN cF mP mS kCap (kGap') (kCar') kCop kGro kShr bN bF rCmd rLet rNum fCap fGap fCar fCop fGro fShr (hX') (hC') (hR')) r := by
  refine ent_i (by decide +kernel) (Nat.le_of_ble_eq_true rfl) ?_
  intro p e s m args below meth c A ls hx hb hr hml hlocks hg hown hK hP hD hS hA hl
  have hown : s.vm.findClass RX7 = some m.cls := hown
  have c_20 : ∀ (vCar : Int32) (vGoa : Int32) (kGap : Int32) (kCar : Int32) (hX : Int32) (hC : Int32) (hR : Nat → StT), f_X7_moveBy_c20 Z p1 vEag tN tF cN cF mP mS kCap kCop kGro kShr vCar vGoa kGap kCar hX hC hR = some (r, vCar', vGoa', kGap', kCar', hX', hC', hR') → ∀ (H : Heap) (locs : List Loc), va_P D vwCl (wX7 cI cS hh vCar vGoa vEag tN tF cN cF mP mS kCap kGap kCar kCop kGro kShr bN bF rCmd rLet rNum fCap fGap fCar fCop fGro fShr hX hC hR) H → va_D A (wX7 cI cS hh vCar vGoa vEag tN tF cN cF mP mS kCap kGap kCar kCop kGro kShr bN bF rCmd rLet rNum fCap fGap fCar fCop fGro fShr hX hC hR) → va_S A s.heap H locs → ∀ ls : Array Slot, lv_has ls 2 [(0, .ref (hh 0)), (1, .int p1)] → W p l e rm_X7_moveBy s m args below meth c H locs 0 0 (FI D below args s (wX7 cI cS hh (vCar') (vGoa') vEag tN tF cN cF mP mS kCap (kGap') (kCar') kCop kGro kShr bN bF rCmd rLet rNum fCap fGap fCar fCop fGro fShr (hX') (hC') (hR')) r A) (F0 m 20 ls []) := by
    intro vCar vGoa kGap kCar hX hC hR h H locs hP hD hS ls hl
    unfold f_X7_moveBy_c20 at h
    refine lv_aload_n hx hb dX7_moveBy_20 rfl (lv_at hl 0 rfl) ?_
    refine va_get (D := D) (ci := 7) (v := .ref (hh 15)) (C := RX7) (T := TX7) (N := 4) hx hb hg uX7 hown hK.1 hP 0 rfl rfl 1 (by decide) (hg _ gw_185) (fun _ h9 => h9) rfl dX7_moveBy_21 ?_
    refine lv_aload_n hx hb dX7_moveBy_24 rfl (lv_at hl 0 rfl) ?_
    refine va_get (D := D) (ci := 7) (v := .ref (hh 1)) (C := RX7) (T := TX7) (N := 4) hx hb hg uX7 hown hK.1 hP 0 rfl rfl 0 (by decide) (hg _ gw_184) (fun _ h9 => h9) rfl dX7_moveBy_25 ?_
    obtain ⟨⟨hX_1, hC_1, hR_1⟩, ec1, h⟩ := bd_some h
    refine cP_v (As := [.ref (hh 1)]) (rest := []) (wc := (wX2t cI cS (fun i => hh (15 + i)) hX hC hR (wX6 cI (hh 1) (hh 2) (hh 3) (hh 4) (hh 5) (hh 6) (hh 7) (hh 8) (hh 9) vCar vGoa vEag tN tF cN cF mP mS kCap kGap kCar kCop kGro kShr))) (wc' := (wX2t cI cS (fun i => hh (15 + i)) hX_1 hC_1 hR_1 (wX6 cI (hh 1) (hh 2) (hh 3) (hh 4) (hh 5) (hh 6) (hh 7) (hh 8) (hh 9) vCar vGoa vEag tN tF cN cF mP mS kCap kGap kCar kCop kGro kShr))) (ws' := (wX7 cI cS hh vCar vGoa vEag tN tF cN cF mP mS kCap kGap kCar kCop kGro kShr bN bF rCmd rLet rNum fCap fGap fCar fCop fGro fShr hX_1 hC_1 hR_1)) hx hb hml hown hg hK hP hD hS hA hl.1 (k_X2_save l D cI cS cL Z (fun i => hh (15 + i)) (hh 1) (hh 2) (hh 3) (hh 4) (hh 5) (hh 6) (hh 7) (hh 8) (hh 9) hX hC hR vCar vGoa vEag tN tF cN cF mP mS kCap kGap kCar kCop kGro kShr ec1) gm_X2_save gw_419 ⟨rfl, rfl, by decide, by decide⟩ ⟨Nat.zero_le _, Nat.zero_le _⟩ pm_7 pm_7 fst_X2t rfl rfl rfl rfl rfl (Nat.le_of_ble_eq_true rfl) dX7_moveBy_28 (fun H locs hP hD hS => ?_)
    refine lv_aload_n hx hb dX7_moveBy_31 rfl (lv_at hl 0 rfl) ?_
    refine va_get (D := D) (ci := 7) (v := .ref (hh 1)) (C := RX7) (T := TX7) (N := 4) hx hb hg uX7 hown hK.1 hP 0 rfl rfl 0 (by decide) (hg _ gw_184) (fun _ h9 => h9) rfl dX7_moveBy_32 ?_
    refine lv_iconst (v := 0) hx hb dX7_moveBy_35 (by decide) ?_
    refine lv_aload_n hx hb dX7_moveBy_36 rfl (lv_at hl 0 rfl) ?_
    refine va_get (D := D) (ci := 7) (v := .ref (hh 1)) (C := RX7) (T := TX7) (N := 4) hx hb hg uX7 hown hK.1 hP 0 rfl rfl 0 (by decide) (hg _ gw_184) (fun _ h9 => h9) rfl dX7_moveBy_37 ?_
    refine va_getN (D := D) (ci := 6) (v := .ref (hh 2)) (C := RX6) (T := TX6) (N := 7) hx hb hg uX6 hown hK.1 hP 1 rfl rfl 0 (by decide) (kk_nest hK nw_105) (fun _ h9 => h9) rfl dX7_moveBy_40 ?_
    obtain ⟨r2, ec2, h⟩ := bd_some h
    refine cV_i (As := []) (rest := [.int 0, .ref (hh 1)]) (wc := (wX0 cI (hh 2) (hh 3) 256 tN tF)) (wc' := (wX0 cI (hh 2) (hh 3) 256 tN tF)) hx hb hml hown hg hK hP hD hS hA hl.1 (k_X0_size l D cI cS cL Z (hh 2) (hh 3) 256 tN tF ec2) gm_X0_size gw_361 ⟨rfl, rfl, by decide, by decide⟩ ⟨Nat.zero_le _, Nat.zero_le _⟩ [2, 3] rfl rfl rfl rfl rfl rfl rfl rfl (Nat.le_of_ble_eq_true rfl) dX7_moveBy_43 (fun H locs hP hD hS => ?_)
    have hP : va_P D vwCl (wX7 cI cS hh vCar vGoa vEag tN tF cN cF mP mS kCap kGap kCar kCop kGro kShr bN bF rCmd rLet rNum fCap fGap fCar fCop fGro fShr hX_1 hC_1 hR_1) H := hP
    have hD : va_D A (wX7 cI cS hh vCar vGoa vEag tN tF cN cF mP mS kCap kGap kCar kCop kGro kShr bN bF rCmd rLet rNum fCap fGap fCar fCop fGro fShr hX_1 hC_1 hR_1) := hD
    refine lv_aload_n hx hb dX7_moveBy_46 rfl (lv_at hl 0 rfl) ?_
    refine va_get (D := D) (ci := 7) (v := .ref (hh 1)) (C := RX7) (T := TX7) (N := 4) hx hb hg uX7 hown hK.1 hP 0 rfl rfl 0 (by decide) (hg _ gw_184) (fun _ h9 => h9) rfl dX7_moveBy_47 ?_
    refine va_getN (D := D) (ci := 6) (v := .int vCar) (C := RX6) (T := TX6) (N := 7) hx hb hg uX6 hown hK.1 hP 1 rfl rfl 4 (by decide) (kk_nest hK nw_113) (fun _ h9 => h9) rfl dX7_moveBy_50 ?_
    refine lv_iload_n hx hb dX7_moveBy_53 rfl (lv_at hl 1 rfl) ?_
    refine lv_iadd hx hb dX7_moveBy_54 ?_
    obtain ⟨z3, ez3, h⟩ := kl_some h
    refine va_mmin hx hb (hml.trans hl.1.symm) hown (hg _ gw_523) (hg _ gw_424) (hg _ gw_11) (hg _ gw_425) (by decide) (Nat.le_of_ble_eq_true rfl) (Nat.le_of_ble_eq_true rfl) (Nat.le_of_ble_eq_true rfl) dX7_moveBy_55 ?_
    refine nm_i ez3 ?_
    obtain ⟨z4, ez4, h⟩ := kl_some h
    refine va_mmax hx hb (hml.trans hl.1.symm) hown (hg _ gw_524) (hg _ gw_45) (hg _ gw_11) (hg _ gw_46) (by decide) (Nat.le_of_ble_eq_true rfl) (Nat.le_of_ble_eq_true rfl) (Nat.le_of_ble_eq_true rfl) dX7_moveBy_58 ?_
    refine nm_i ez4 ?_
    obtain ⟨⟨r5, vCar_5, vGoa_5, kGap_5, kCar_5⟩, ec5, h⟩ := bd_some h
    refine cV_i (As := [.int z4]) (rest := []) (wc := (wX6 cI (hh 1) (hh 2) (hh 3) (hh 4) (hh 5) (hh 6) (hh 7) (hh 8) (hh 9) vCar vGoa vEag tN tF cN cF mP mS kCap kGap kCar kCop kGro kShr)) (wc' := (wX6 cI (hh 1) (hh 2) (hh 3) (hh 4) (hh 5) (hh 6) (hh 7) (hh 8) (hh 9) vCar_5 vGoa_5 vEag tN tF cN cF mP mS kCap kGap_5 kCar_5 kCop kGro kShr)) hx hb hml hown hg hK hP hD hS hA hl.1 (k_X6_moveCaret l D cI cS cL Z (hh 1) (hh 2) (hh 3) (hh 4) (hh 5) (hh 6) (hh 7) (hh 8) (hh 9) z4 vCar vGoa vEag tN tF cN cF mP mS kCap kGap kCar kCop kGro kShr ec5) gm_X6_moveCaret gw_510 ⟨rfl, rfl, by decide, by decide⟩ ⟨Nat.zero_le _, Nat.zero_le _⟩ [1, 2, 3, 4, 5, 6, 7, 8, 9] rfl rfl rfl rfl rfl rfl rfl rfl (Nat.le_of_ble_eq_true rfl) dX7_moveBy_61 (fun H locs hP hD hS => ?_)
    have hP : va_P D vwCl (wX7 cI cS hh vCar_5 vGoa_5 vEag tN tF cN cF mP mS kCap kGap_5 kCar_5 kCop kGro kShr bN bF rCmd rLet rNum fCap fGap fCar fCop fGro fShr hX_1 hC_1 hR_1) H := hP
    have hD : va_D A (wX7 cI cS hh vCar_5 vGoa_5 vEag tN tF cN cF mP mS kCap kGap_5 kCar_5 kCop kGro kShr bN bF rCmd rLet rNum fCap fGap fCar fCop fGro fShr hX_1 hC_1 hR_1) := hD
    refine lv_pop hx hb dX7_moveBy_64 rfl ?_
    refine lv_aload_n hx hb dX7_moveBy_65 rfl (lv_at hl 0 rfl) ?_
    refine va_get (D := D) (ci := 7) (v := .ref (hh 1)) (C := RX7) (T := TX7) (N := 4) hx hb hg uX7 hown hK.1 hP 0 rfl rfl 0 (by decide) (hg _ gw_184) (fun _ h9 => h9) rfl dX7_moveBy_66 ?_
    refine va_getN (D := D) (ci := 6) (v := .int vCar_5) (C := RX6) (T := TX6) (N := 7) hx hb hg uX6 hown hK.1 hP 1 rfl rfl 4 (by decide) (kk_nest hK nw_113) (fun _ h9 => h9) rfl dX7_moveBy_69 ?_
    cases h
    exact ret_i hx hb hr hlocks hP hD hS dX7_moveBy_72 rfl
  have hl : lv_has ls 2 [(0, .ref (hh 0)), (1, .int p1)] := hl
  have hP : va_P D vwCl (wX7 cI cS hh vCar vGoa vEag tN tF cN cF mP mS kCap kGap kCar kCop kGro kShr bN bF rCmd rLet rNum fCap fGap fCar fCop fGro fShr hX hC hR) s.heap := hP
  have hD : va_D A (wX7 cI cS hh vCar vGoa vEag tN tF cN cF mP mS kCap kGap kCar kCop kGro kShr bN bF rCmd rLet rNum fCap fGap fCar fCop fGro fShr hX hC hR) := hD
  show W p l e rm_X7_moveBy s m args below meth c s.heap [] 0 0 (FI D below args s (wX7 cI cS hh (vCar') (vGoa') vEag tN tF cN cF mP mS kCap (kGap') (kCar') kCop kGro kShr bN bF rCmd rLet rNum fCap fGap fCar fCop fGro fShr (hX') (hC') (hR')) r A) (F0 m 0 ls [])
  unfold f_X7_moveBy at h
  have hmain : ∀ (H : Heap) (locs : List Loc), va_P D vwCl (wX7 cI cS hh vCar vGoa vEag tN tF cN cF mP mS kCap kGap kCar kCop kGro kShr bN bF rCmd rLet rNum fCap fGap fCar fCop fGro fShr hX hC hR) H → va_S A s.heap H locs → W p l e rm_X7_moveBy s m args below meth c H locs 0 0 (FI D below args s (wX7 cI cS hh (vCar') (vGoa') vEag tN tF cN cF mP mS kCap (kGap') (kCar') kCop kGro kShr bN bF rCmd rLet rNum fCap fGap fCar fCop fGro fShr (hX') (hC') (hR')) r A) (F0 m 0 ls []) := by
    intro H locs hP hS
    refine lv_iload_n hx hb dX7_moveBy_0 rfl (lv_at hl 1 rfl) ?_
    refine lv_bipush (v := (-100)) hx hb dX7_moveBy_1 (by decide) ?_
    refine lv_icmp_lt (tgt := 16) hx hb dX7_moveBy_3 (by decide) (fun q6 => ?_) (fun q6 => ?_)
    · replace h := it_some q6 h
      refine lv_iconst (v := 0) hx hb dX7_moveBy_16 (by decide) ?_
      by_cases q7 : (0 : Int32) = 0
      · cases it_some q7 h
      replace h := if_some q7 h
      refine cS_v (As := [.int (0 : Int32)]) (rest := []) (wc := []) (wc' := []) hx hb hml hown hg hK hP hD hS hA hl.1 (k_X7_requireArgument l D cI cS cL (0 : Int32) q7) gs_X7_requireArgument gw_397 ⟨rfl, rfl, by decide, by decide⟩ ⟨Nat.zero_le _, Nat.zero_le _⟩ [] rfl rfl rfl rfl rfl (Nat.le_of_ble_eq_true rfl) dX7_moveBy_17 (fun H locs hP hD hS => ?_)
      have hP : va_P D vwCl (wX7 cI cS hh vCar vGoa vEag tN tF cN cF mP mS kCap kGap kCar kCop kGro kShr bN bF rCmd rLet rNum fCap fGap fCar fCop fGro fShr hX hC hR) H := hP
      have hD : va_D A (wX7 cI cS hh vCar vGoa vEag tN tF cN cF mP mS kCap kGap kCar kCop kGro kShr bN bF rCmd rLet rNum fCap fGap fCar fCop fGro fShr hX hC hR) := hD
      replace h := map_inl h
      exact c_20 vCar vGoa kGap kCar hX hC hR h H locs hP hD hS ls (lv_sub hl [0, 1] rfl)
    · replace h := if_some q6 h
      refine lv_iload_n hx hb dX7_moveBy_6 rfl (lv_at hl 1 rfl) ?_
      refine lv_bipush (v := 100) hx hb dX7_moveBy_7 (by decide) ?_
      refine lv_icmp_gt (tgt := 16) hx hb dX7_moveBy_9 (by decide) (fun q8 => ?_) (fun q8 => ?_)
      · replace h := it_some q8 h
        refine lv_iconst (v := 0) hx hb dX7_moveBy_16 (by decide) ?_
        by_cases q9 : (0 : Int32) = 0
        · cases it_some q9 h
        replace h := if_some q9 h
        refine cS_v (As := [.int (0 : Int32)]) (rest := []) (wc := []) (wc' := []) hx hb hml hown hg hK hP hD hS hA hl.1 (k_X7_requireArgument l D cI cS cL (0 : Int32) q9) gs_X7_requireArgument gw_397 ⟨rfl, rfl, by decide, by decide⟩ ⟨Nat.zero_le _, Nat.zero_le _⟩ [] rfl rfl rfl rfl rfl (Nat.le_of_ble_eq_true rfl) dX7_moveBy_17 (fun H locs hP hD hS => ?_)
        have hP : va_P D vwCl (wX7 cI cS hh vCar vGoa vEag tN tF cN cF mP mS kCap kGap kCar kCop kGro kShr bN bF rCmd rLet rNum fCap fGap fCar fCop fGro fShr hX hC hR) H := hP
        have hD : va_D A (wX7 cI cS hh vCar vGoa vEag tN tF cN cF mP mS kCap kGap kCar kCop kGro kShr bN bF rCmd rLet rNum fCap fGap fCar fCop fGro fShr hX hC hR) := hD
        replace h := map_inl h
        exact c_20 vCar vGoa kGap kCar hX hC hR h H locs hP hD hS ls (lv_sub hl [0, 1] rfl)
      · replace h := if_some q8 h
        refine lv_iconst (v := 1) hx hb dX7_moveBy_12 (by decide) ?_
        refine lv_goto (tgt := 17) hx hb dX7_moveBy_13 (by decide) ?_
        by_cases q10 : (1 : Int32) = 0
        · cases it_some q10 h
        replace h := if_some q10 h
        refine cS_v (As := [.int (1 : Int32)]) (rest := []) (wc := []) (wc' := []) hx hb hml hown hg hK hP hD hS hA hl.1 (k_X7_requireArgument l D cI cS cL (1 : Int32) q10) gs_X7_requireArgument gw_397 ⟨rfl, rfl, by decide, by decide⟩ ⟨Nat.zero_le _, Nat.zero_le _⟩ [] rfl rfl rfl rfl rfl (Nat.le_of_ble_eq_true rfl) dX7_moveBy_17 (fun H locs hP hD hS => ?_)
        have hP : va_P D vwCl (wX7 cI cS hh vCar vGoa vEag tN tF cN cF mP mS kCap kGap kCar kCop kGro kShr bN bF rCmd rLet rNum fCap fGap fCar fCop fGro fShr hX hC hR) H := hP
        have hD : va_D A (wX7 cI cS hh vCar vGoa vEag tN tF cN cF mP mS kCap kGap kCar kCop kGro kShr bN bF rCmd rLet rNum fCap fGap fCar fCop fGro fShr hX hC hR) := hD
        replace h := map_inl h
        exact c_20 vCar vGoa kGap kCar hX hC hR h H locs hP hD hS ls (lv_sub hl [0, 1] rfl)
  exact hmain _ _ hP hS
abbrev rm_X7_up : Room := { frames := 5, cells := 0, slots := 0, locals := 107 }
def f_X7_up (Z : Nat) (vCar : Int32) (vGoa : Int32) (vEag : Int32) (tN : Int32) (tF : Nat → Int32) (cN : Int32) (cF : Nat → Int32) (mP : Nat → Int32) (mS : Nat → Int32) (kCap : Int32) (kGap : Int32) (kCar : Int32) (kCop : Int32) (kGro : Int32) (kShr : Int32) (hX : Int32) (hC : Int32) (hR : Nat → StT) : Option (Int32 × Int32 × Int32 × Int32 × Int32 × Int32 × (Nat → StT)) :=
  (f_X2_save Z hX hC hR vCar vGoa vEag tN tF cN cF mP mS kCap kGap kCar kCop kGro kShr).bind fun (hX_1, hC_1, hR_1) =>
  (f_X6_moveUp Z vCar vGoa vEag tN tF kGap kCar).bind fun (vCar_2, kGap_2, kCar_2) =>
  some (vCar_2, vCar_2, kGap_2, kCar_2, hX_1, hC_1, hR_1)
set_option maxRecDepth 100000 in
set_option maxHeartbeats 4000000 in
theorem k_X7_up (l : Launch) (D : va_G) (cI cS cL : ClassId) (Z : Nat) (hh : Nat → Nat) (vCar : Int32) (vGoa : Int32) (vEag : Int32) (tN : Int32) (tF : Nat → Int32) (cN : Int32) (cF : Nat → Int32) (mP : Nat → Int32) (mS : Nat → Int32) (kCap : Int32) (kGap : Int32) (kCar : Int32) (kCop : Int32) (kGro : Int32) (kShr : Int32) (bN : Int32) (bF : Nat → Int32) (rCmd : Int32) (rLet : Int32) (rNum : Int32) (fCap : Int32) (fGap : Int32) (fCar : Int32) (fCop : Int32) (fGro : Int32) (fShr : Int32) (hX : Int32) (hC : Int32) (hR : Nat → StT) {r : Int32} {vCar' : Int32} {kGap' : Int32} {kCar' : Int32} {hX' : Int32} {hC' : Int32} {hR' : Nat → StT} (h : f_X7_up Z vCar vGoa vEag tN tF cN cF mP mS kCap kGap kCar kCop kGro kShr hX hC hR = some (r, vCar', kGap', kCar', hX', hC', hR')) : CI l yX7_up cX7_up 1 (some .int) rm_X7_up D cI cS cL [.ref (hh 0)] (wX7 cI cS hh vCar vGoa vEag tN tF cN cF mP mS kCap kGap kCar kCop kGro kShr bN bF rCmd rLet rNum fCap fGap fCar fCop fGro fShr hX hC hR) (wX7 cI cS hh (vCar') vGoa vEag tN tF cN cF mP mS kCap (kGap') (kCar') kCop kGro kShr bN bF rCmd rLet rNum fCap fGap fCar fCop fGro fShr (hX') (hC') (hR')) r := by
  refine ent_i (by decide +kernel) (Nat.le_of_ble_eq_true rfl) ?_
  intro p e s m args below meth c A ls hx hb hr hml hlocks hg hown hK hP hD hS hA hl
  have hown : s.vm.findClass RX7 = some m.cls := hown
  have hl : lv_has ls 1 [(0, .ref (hh 0))] := hl
  have hP : va_P D vwCl (wX7 cI cS hh vCar vGoa vEag tN tF cN cF mP mS kCap kGap kCar kCop kGro kShr bN bF rCmd rLet rNum fCap fGap fCar fCop fGro fShr hX hC hR) s.heap := hP
  have hD : va_D A (wX7 cI cS hh vCar vGoa vEag tN tF cN cF mP mS kCap kGap kCar kCop kGro kShr bN bF rCmd rLet rNum fCap fGap fCar fCop fGro fShr hX hC hR) := hD
  show W p l e rm_X7_up s m args below meth c s.heap [] 0 0 (FI D below args s (wX7 cI cS hh (vCar') vGoa vEag tN tF cN cF mP mS kCap (kGap') (kCar') kCop kGro kShr bN bF rCmd rLet rNum fCap fGap fCar fCop fGro fShr (hX') (hC') (hR')) r A) (F0 m 0 ls [])
  unfold f_X7_up at h
  have hmain : ∀ (H : Heap) (locs : List Loc), va_P D vwCl (wX7 cI cS hh vCar vGoa vEag tN tF cN cF mP mS kCap kGap kCar kCop kGro kShr bN bF rCmd rLet rNum fCap fGap fCar fCop fGro fShr hX hC hR) H → va_S A s.heap H locs → W p l e rm_X7_up s m args below meth c H locs 0 0 (FI D below args s (wX7 cI cS hh (vCar') vGoa vEag tN tF cN cF mP mS kCap (kGap') (kCar') kCop kGro kShr bN bF rCmd rLet rNum fCap fGap fCar fCop fGro fShr (hX') (hC') (hR')) r A) (F0 m 0 ls []) := by
    intro H locs hP hS
    refine lv_aload_n hx hb dX7_up_0 rfl (lv_at hl 0 rfl) ?_
    refine va_get (D := D) (ci := 7) (v := .ref (hh 15)) (C := RX7) (T := TX7) (N := 4) hx hb hg uX7 hown hK.1 hP 0 rfl rfl 1 (by decide) (hg _ gw_185) (fun _ h9 => h9) rfl dX7_up_1 ?_
    refine lv_aload_n hx hb dX7_up_4 rfl (lv_at hl 0 rfl) ?_
    refine va_get (D := D) (ci := 7) (v := .ref (hh 1)) (C := RX7) (T := TX7) (N := 4) hx hb hg uX7 hown hK.1 hP 0 rfl rfl 0 (by decide) (hg _ gw_184) (fun _ h9 => h9) rfl dX7_up_5 ?_
    obtain ⟨⟨hX_1, hC_1, hR_1⟩, ec1, h⟩ := bd_some h
    refine cP_v (As := [.ref (hh 1)]) (rest := []) (wc := (wX2t cI cS (fun i => hh (15 + i)) hX hC hR (wX6 cI (hh 1) (hh 2) (hh 3) (hh 4) (hh 5) (hh 6) (hh 7) (hh 8) (hh 9) vCar vGoa vEag tN tF cN cF mP mS kCap kGap kCar kCop kGro kShr))) (wc' := (wX2t cI cS (fun i => hh (15 + i)) hX_1 hC_1 hR_1 (wX6 cI (hh 1) (hh 2) (hh 3) (hh 4) (hh 5) (hh 6) (hh 7) (hh 8) (hh 9) vCar vGoa vEag tN tF cN cF mP mS kCap kGap kCar kCop kGro kShr))) (ws' := (wX7 cI cS hh vCar vGoa vEag tN tF cN cF mP mS kCap kGap kCar kCop kGro kShr bN bF rCmd rLet rNum fCap fGap fCar fCop fGro fShr hX_1 hC_1 hR_1)) hx hb hml hown hg hK hP hD hS hA hl.1 (k_X2_save l D cI cS cL Z (fun i => hh (15 + i)) (hh 1) (hh 2) (hh 3) (hh 4) (hh 5) (hh 6) (hh 7) (hh 8) (hh 9) hX hC hR vCar vGoa vEag tN tF cN cF mP mS kCap kGap kCar kCop kGro kShr ec1) gm_X2_save gw_419 ⟨rfl, rfl, by decide, by decide⟩ ⟨Nat.zero_le _, Nat.zero_le _⟩ pm_7 pm_7 fst_X2t rfl rfl rfl rfl rfl (Nat.le_of_ble_eq_true rfl) dX7_up_8 (fun H locs hP hD hS => ?_)
    refine lv_aload_n hx hb dX7_up_11 rfl (lv_at hl 0 rfl) ?_
    refine va_get (D := D) (ci := 7) (v := .ref (hh 1)) (C := RX7) (T := TX7) (N := 4) hx hb hg uX7 hown hK.1 hP 0 rfl rfl 0 (by decide) (hg _ gw_184) (fun _ h9 => h9) rfl dX7_up_12 ?_
    obtain ⟨⟨vCar_2, kGap_2, kCar_2⟩, ec2, h⟩ := bd_some h
    refine cV_v (As := []) (rest := []) (wc := (wX6 cI (hh 1) (hh 2) (hh 3) (hh 4) (hh 5) (hh 6) (hh 7) (hh 8) (hh 9) vCar vGoa vEag tN tF cN cF mP mS kCap kGap kCar kCop kGro kShr)) (wc' := (wX6 cI (hh 1) (hh 2) (hh 3) (hh 4) (hh 5) (hh 6) (hh 7) (hh 8) (hh 9) vCar_2 vGoa vEag tN tF cN cF mP mS kCap kGap_2 kCar_2 kCop kGro kShr)) hx hb hml hown hg hK hP hD hS hA hl.1 (k_X6_moveUp l D cI cS cL Z (hh 1) (hh 2) (hh 3) (hh 4) (hh 5) (hh 6) (hh 7) (hh 8) (hh 9) vCar vGoa vEag tN tF cN cF mP mS kCap kGap kCar kCop kGro kShr ec2) gm_X6_moveUp gw_529 ⟨rfl, rfl, by decide, by decide⟩ ⟨Nat.zero_le _, Nat.zero_le _⟩ [1, 2, 3, 4, 5, 6, 7, 8, 9] rfl rfl rfl rfl rfl rfl rfl rfl (Nat.le_of_ble_eq_true rfl) dX7_up_15 (fun H locs hP hD hS => ?_)
    have hP : va_P D vwCl (wX7 cI cS hh vCar_2 vGoa vEag tN tF cN cF mP mS kCap kGap_2 kCar_2 kCop kGro kShr bN bF rCmd rLet rNum fCap fGap fCar fCop fGro fShr hX_1 hC_1 hR_1) H := hP
    have hD : va_D A (wX7 cI cS hh vCar_2 vGoa vEag tN tF cN cF mP mS kCap kGap_2 kCar_2 kCop kGro kShr bN bF rCmd rLet rNum fCap fGap fCar fCop fGro fShr hX_1 hC_1 hR_1) := hD
    refine lv_aload_n hx hb dX7_up_18 rfl (lv_at hl 0 rfl) ?_
    refine va_get (D := D) (ci := 7) (v := .ref (hh 1)) (C := RX7) (T := TX7) (N := 4) hx hb hg uX7 hown hK.1 hP 0 rfl rfl 0 (by decide) (hg _ gw_184) (fun _ h9 => h9) rfl dX7_up_19 ?_
    refine va_getN (D := D) (ci := 6) (v := .int vCar_2) (C := RX6) (T := TX6) (N := 7) hx hb hg uX6 hown hK.1 hP 1 rfl rfl 4 (by decide) (kk_nest hK nw_113) (fun _ h9 => h9) rfl dX7_up_22 ?_
    cases h
    exact ret_i hx hb hr hlocks hP hD hS dX7_up_25 rfl
  exact hmain _ _ hP hS
abbrev rm_X7_down : Room := { frames := 5, cells := 0, slots := 0, locals := 107 }
def f_X7_down (Z : Nat) (vCar : Int32) (vGoa : Int32) (vEag : Int32) (tN : Int32) (tF : Nat → Int32) (cN : Int32) (cF : Nat → Int32) (mP : Nat → Int32) (mS : Nat → Int32) (kCap : Int32) (kGap : Int32) (kCar : Int32) (kCop : Int32) (kGro : Int32) (kShr : Int32) (hX : Int32) (hC : Int32) (hR : Nat → StT) : Option (Int32 × Int32 × Int32 × Int32 × Int32 × Int32 × (Nat → StT)) :=
  (f_X2_save Z hX hC hR vCar vGoa vEag tN tF cN cF mP mS kCap kGap kCar kCop kGro kShr).bind fun (hX_1, hC_1, hR_1) =>
  (f_X6_moveDown Z vCar vGoa vEag tN tF kGap kCar).bind fun (vCar_2, kGap_2, kCar_2) =>
  some (vCar_2, vCar_2, kGap_2, kCar_2, hX_1, hC_1, hR_1)
set_option maxRecDepth 100000 in
set_option maxHeartbeats 4000000 in
theorem k_X7_down (l : Launch) (D : va_G) (cI cS cL : ClassId) (Z : Nat) (hh : Nat → Nat) (vCar : Int32) (vGoa : Int32) (vEag : Int32) (tN : Int32) (tF : Nat → Int32) (cN : Int32) (cF : Nat → Int32) (mP : Nat → Int32) (mS : Nat → Int32) (kCap : Int32) (kGap : Int32) (kCar : Int32) (kCop : Int32) (kGro : Int32) (kShr : Int32) (bN : Int32) (bF : Nat → Int32) (rCmd : Int32) (rLet : Int32) (rNum : Int32) (fCap : Int32) (fGap : Int32) (fCar : Int32) (fCop : Int32) (fGro : Int32) (fShr : Int32) (hX : Int32) (hC : Int32) (hR : Nat → StT) {r : Int32} {vCar' : Int32} {kGap' : Int32} {kCar' : Int32} {hX' : Int32} {hC' : Int32} {hR' : Nat → StT} (h : f_X7_down Z vCar vGoa vEag tN tF cN cF mP mS kCap kGap kCar kCop kGro kShr hX hC hR = some (r, vCar', kGap', kCar', hX', hC', hR')) : CI l yX7_down cX7_down 1 (some .int) rm_X7_down D cI cS cL [.ref (hh 0)] (wX7 cI cS hh vCar vGoa vEag tN tF cN cF mP mS kCap kGap kCar kCop kGro kShr bN bF rCmd rLet rNum fCap fGap fCar fCop fGro fShr hX hC hR) (wX7 cI cS hh (vCar') vGoa vEag tN tF cN cF mP mS kCap (kGap') (kCar') kCop kGro kShr bN bF rCmd rLet rNum fCap fGap fCar fCop fGro fShr (hX') (hC') (hR')) r := by
  refine ent_i (by decide +kernel) (Nat.le_of_ble_eq_true rfl) ?_
  intro p e s m args below meth c A ls hx hb hr hml hlocks hg hown hK hP hD hS hA hl
  have hown : s.vm.findClass RX7 = some m.cls := hown
  have hl : lv_has ls 1 [(0, .ref (hh 0))] := hl
  have hP : va_P D vwCl (wX7 cI cS hh vCar vGoa vEag tN tF cN cF mP mS kCap kGap kCar kCop kGro kShr bN bF rCmd rLet rNum fCap fGap fCar fCop fGro fShr hX hC hR) s.heap := hP
  have hD : va_D A (wX7 cI cS hh vCar vGoa vEag tN tF cN cF mP mS kCap kGap kCar kCop kGro kShr bN bF rCmd rLet rNum fCap fGap fCar fCop fGro fShr hX hC hR) := hD
  show W p l e rm_X7_down s m args below meth c s.heap [] 0 0 (FI D below args s (wX7 cI cS hh (vCar') vGoa vEag tN tF cN cF mP mS kCap (kGap') (kCar') kCop kGro kShr bN bF rCmd rLet rNum fCap fGap fCar fCop fGro fShr (hX') (hC') (hR')) r A) (F0 m 0 ls [])
  unfold f_X7_down at h
  have hmain : ∀ (H : Heap) (locs : List Loc), va_P D vwCl (wX7 cI cS hh vCar vGoa vEag tN tF cN cF mP mS kCap kGap kCar kCop kGro kShr bN bF rCmd rLet rNum fCap fGap fCar fCop fGro fShr hX hC hR) H → va_S A s.heap H locs → W p l e rm_X7_down s m args below meth c H locs 0 0 (FI D below args s (wX7 cI cS hh (vCar') vGoa vEag tN tF cN cF mP mS kCap (kGap') (kCar') kCop kGro kShr bN bF rCmd rLet rNum fCap fGap fCar fCop fGro fShr (hX') (hC') (hR')) r A) (F0 m 0 ls []) := by
    intro H locs hP hS
    refine lv_aload_n hx hb dX7_down_0 rfl (lv_at hl 0 rfl) ?_
    refine va_get (D := D) (ci := 7) (v := .ref (hh 15)) (C := RX7) (T := TX7) (N := 4) hx hb hg uX7 hown hK.1 hP 0 rfl rfl 1 (by decide) (hg _ gw_185) (fun _ h9 => h9) rfl dX7_down_1 ?_
    refine lv_aload_n hx hb dX7_down_4 rfl (lv_at hl 0 rfl) ?_
    refine va_get (D := D) (ci := 7) (v := .ref (hh 1)) (C := RX7) (T := TX7) (N := 4) hx hb hg uX7 hown hK.1 hP 0 rfl rfl 0 (by decide) (hg _ gw_184) (fun _ h9 => h9) rfl dX7_down_5 ?_
    obtain ⟨⟨hX_1, hC_1, hR_1⟩, ec1, h⟩ := bd_some h
    refine cP_v (As := [.ref (hh 1)]) (rest := []) (wc := (wX2t cI cS (fun i => hh (15 + i)) hX hC hR (wX6 cI (hh 1) (hh 2) (hh 3) (hh 4) (hh 5) (hh 6) (hh 7) (hh 8) (hh 9) vCar vGoa vEag tN tF cN cF mP mS kCap kGap kCar kCop kGro kShr))) (wc' := (wX2t cI cS (fun i => hh (15 + i)) hX_1 hC_1 hR_1 (wX6 cI (hh 1) (hh 2) (hh 3) (hh 4) (hh 5) (hh 6) (hh 7) (hh 8) (hh 9) vCar vGoa vEag tN tF cN cF mP mS kCap kGap kCar kCop kGro kShr))) (ws' := (wX7 cI cS hh vCar vGoa vEag tN tF cN cF mP mS kCap kGap kCar kCop kGro kShr bN bF rCmd rLet rNum fCap fGap fCar fCop fGro fShr hX_1 hC_1 hR_1)) hx hb hml hown hg hK hP hD hS hA hl.1 (k_X2_save l D cI cS cL Z (fun i => hh (15 + i)) (hh 1) (hh 2) (hh 3) (hh 4) (hh 5) (hh 6) (hh 7) (hh 8) (hh 9) hX hC hR vCar vGoa vEag tN tF cN cF mP mS kCap kGap kCar kCop kGro kShr ec1) gm_X2_save gw_419 ⟨rfl, rfl, by decide, by decide⟩ ⟨Nat.zero_le _, Nat.zero_le _⟩ pm_7 pm_7 fst_X2t rfl rfl rfl rfl rfl (Nat.le_of_ble_eq_true rfl) dX7_down_8 (fun H locs hP hD hS => ?_)
    refine lv_aload_n hx hb dX7_down_11 rfl (lv_at hl 0 rfl) ?_
    refine va_get (D := D) (ci := 7) (v := .ref (hh 1)) (C := RX7) (T := TX7) (N := 4) hx hb hg uX7 hown hK.1 hP 0 rfl rfl 0 (by decide) (hg _ gw_184) (fun _ h9 => h9) rfl dX7_down_12 ?_
    obtain ⟨⟨vCar_2, kGap_2, kCar_2⟩, ec2, h⟩ := bd_some h
    refine cV_v (As := []) (rest := []) (wc := (wX6 cI (hh 1) (hh 2) (hh 3) (hh 4) (hh 5) (hh 6) (hh 7) (hh 8) (hh 9) vCar vGoa vEag tN tF cN cF mP mS kCap kGap kCar kCop kGro kShr)) (wc' := (wX6 cI (hh 1) (hh 2) (hh 3) (hh 4) (hh 5) (hh 6) (hh 7) (hh 8) (hh 9) vCar_2 vGoa vEag tN tF cN cF mP mS kCap kGap_2 kCar_2 kCop kGro kShr)) hx hb hml hown hg hK hP hD hS hA hl.1 (k_X6_moveDown l D cI cS cL Z (hh 1) (hh 2) (hh 3) (hh 4) (hh 5) (hh 6) (hh 7) (hh 8) (hh 9) vCar vGoa vEag tN tF cN cF mP mS kCap kGap kCar kCop kGro kShr ec2) gm_X6_moveDown gw_545 ⟨rfl, rfl, by decide, by decide⟩ ⟨Nat.zero_le _, Nat.zero_le _⟩ [1, 2, 3, 4, 5, 6, 7, 8, 9] rfl rfl rfl rfl rfl rfl rfl rfl (Nat.le_of_ble_eq_true rfl) dX7_down_15 (fun H locs hP hD hS => ?_)
    have hP : va_P D vwCl (wX7 cI cS hh vCar_2 vGoa vEag tN tF cN cF mP mS kCap kGap_2 kCar_2 kCop kGro kShr bN bF rCmd rLet rNum fCap fGap fCar fCop fGro fShr hX_1 hC_1 hR_1) H := hP
    have hD : va_D A (wX7 cI cS hh vCar_2 vGoa vEag tN tF cN cF mP mS kCap kGap_2 kCar_2 kCop kGro kShr bN bF rCmd rLet rNum fCap fGap fCar fCop fGro fShr hX_1 hC_1 hR_1) := hD
    refine lv_aload_n hx hb dX7_down_18 rfl (lv_at hl 0 rfl) ?_
    refine va_get (D := D) (ci := 7) (v := .ref (hh 1)) (C := RX7) (T := TX7) (N := 4) hx hb hg uX7 hown hK.1 hP 0 rfl rfl 0 (by decide) (hg _ gw_184) (fun _ h9 => h9) rfl dX7_down_19 ?_
    refine va_getN (D := D) (ci := 6) (v := .int vCar_2) (C := RX6) (T := TX6) (N := 7) hx hb hg uX6 hown hK.1 hP 1 rfl rfl 4 (by decide) (kk_nest hK nw_113) (fun _ h9 => h9) rfl dX7_down_22 ?_
    cases h
    exact ret_i hx hb hr hlocks hP hD hS dX7_down_25 rfl
  exact hmain _ _ hP hS
abbrev rm_X7_moveInLine : Room := { frames := 5, cells := 0, slots := 0, locals := 107 }
def f_X7_moveInLine (Z : Nat) (p1 : Int32) (vCar : Int32) (vGoa : Int32) (vEag : Int32) (tN : Int32) (tF : Nat → Int32) (cN : Int32) (cF : Nat → Int32) (mP : Nat → Int32) (mS : Nat → Int32) (kCap : Int32) (kGap : Int32) (kCar : Int32) (kCop : Int32) (kGro : Int32) (kShr : Int32) (hX : Int32) (hC : Int32) (hR : Nat → StT) : Option (Int32 × Int32 × Int32 × Int32 × Int32 × Int32 × Int32 × (Nat → StT)) :=
  (f_X2_save Z hX hC hR vCar vGoa vEag tN tF cN cF mP mS kCap kGap kCar kCop kGro kShr).bind fun (hX_1, hC_1, hR_1) =>
  (f_X0_lineBegin Z vCar 256 tN tF).bind fun r2 =>
  (f_X0_lineEnd Z vCar 256 tN tF).bind fun r3 =>
  if p1 = 0 then
    (f_X6_moveCaret Z r2 vCar vGoa vEag tN tF kGap kCar).bind fun (r5, vCar_5, vGoa_5, kGap_5, kCar_5) =>
    some (vCar_5, vCar_5, vGoa_5, kGap_5, kCar_5, hX_1, hC_1, hR_1)
  else
    (f_X6_moveCaret Z r3 vCar vGoa vEag tN tF kGap kCar).bind fun (r6, vCar_6, vGoa_6, kGap_6, kCar_6) =>
    some (vCar_6, vCar_6, vGoa_6, kGap_6, kCar_6, hX_1, hC_1, hR_1)
set_option maxRecDepth 100000 in
set_option maxHeartbeats 4000000 in
theorem k_X7_moveInLine (l : Launch) (D : va_G) (cI cS cL : ClassId) (Z : Nat) (hh : Nat → Nat) (p1 : Int32) (vCar : Int32) (vGoa : Int32) (vEag : Int32) (tN : Int32) (tF : Nat → Int32) (cN : Int32) (cF : Nat → Int32) (mP : Nat → Int32) (mS : Nat → Int32) (kCap : Int32) (kGap : Int32) (kCar : Int32) (kCop : Int32) (kGro : Int32) (kShr : Int32) (bN : Int32) (bF : Nat → Int32) (rCmd : Int32) (rLet : Int32) (rNum : Int32) (fCap : Int32) (fGap : Int32) (fCar : Int32) (fCop : Int32) (fGro : Int32) (fShr : Int32) (hX : Int32) (hC : Int32) (hR : Nat → StT) {r : Int32} {vCar' : Int32} {vGoa' : Int32} {kGap' : Int32} {kCar' : Int32} {hX' : Int32} {hC' : Int32} {hR' : Nat → StT} (h : f_X7_moveInLine Z p1 vCar vGoa vEag tN tF cN cF mP mS kCap kGap kCar kCop kGro kShr hX hC hR = some (r, vCar', vGoa', kGap', kCar', hX', hC', hR')) : CI l yX7_moveInLine cX7_moveInLine 4 (some .int) rm_X7_moveInLine D cI cS cL [.ref (hh 0), .int p1] (wX7 cI cS hh vCar vGoa vEag tN tF cN cF mP mS kCap kGap kCar kCop kGro kShr bN bF rCmd rLet rNum fCap fGap fCar fCop fGro fShr hX hC hR) (wX7 cI cS hh (vCar') (vGoa') vEag tN tF cN cF mP mS kCap (kGap') (kCar') kCop kGro kShr bN bF rCmd rLet rNum fCap fGap fCar fCop fGro fShr (hX') (hC') (hR')) r := by
  refine ent_i (by decide +kernel) (Nat.le_of_ble_eq_true rfl) ?_
  intro p e s m args below meth c A ls hx hb hr hml hlocks hg hown hK hP hD hS hA hl
  have hown : s.vm.findClass RX7 = some m.cls := hown
  have hl : lv_has ls 4 [(0, .ref (hh 0)), (1, .int p1)] := hl
  have hP : va_P D vwCl (wX7 cI cS hh vCar vGoa vEag tN tF cN cF mP mS kCap kGap kCar kCop kGro kShr bN bF rCmd rLet rNum fCap fGap fCar fCop fGro fShr hX hC hR) s.heap := hP
  have hD : va_D A (wX7 cI cS hh vCar vGoa vEag tN tF cN cF mP mS kCap kGap kCar kCop kGro kShr bN bF rCmd rLet rNum fCap fGap fCar fCop fGro fShr hX hC hR) := hD
  show W p l e rm_X7_moveInLine s m args below meth c s.heap [] 0 0 (FI D below args s (wX7 cI cS hh (vCar') (vGoa') vEag tN tF cN cF mP mS kCap (kGap') (kCar') kCop kGro kShr bN bF rCmd rLet rNum fCap fGap fCar fCop fGro fShr (hX') (hC') (hR')) r A) (F0 m 0 ls [])
  unfold f_X7_moveInLine at h
  have hmain : ∀ (H : Heap) (locs : List Loc), va_P D vwCl (wX7 cI cS hh vCar vGoa vEag tN tF cN cF mP mS kCap kGap kCar kCop kGro kShr bN bF rCmd rLet rNum fCap fGap fCar fCop fGro fShr hX hC hR) H → va_S A s.heap H locs → W p l e rm_X7_moveInLine s m args below meth c H locs 0 0 (FI D below args s (wX7 cI cS hh (vCar') (vGoa') vEag tN tF cN cF mP mS kCap (kGap') (kCar') kCop kGro kShr bN bF rCmd rLet rNum fCap fGap fCar fCop fGro fShr (hX') (hC') (hR')) r A) (F0 m 0 ls []) := by
    intro H locs hP hS
    refine lv_aload_n hx hb dX7_moveInLine_0 rfl (lv_at hl 0 rfl) ?_
    refine va_get (D := D) (ci := 7) (v := .ref (hh 15)) (C := RX7) (T := TX7) (N := 4) hx hb hg uX7 hown hK.1 hP 0 rfl rfl 1 (by decide) (hg _ gw_185) (fun _ h9 => h9) rfl dX7_moveInLine_1 ?_
    refine lv_aload_n hx hb dX7_moveInLine_4 rfl (lv_at hl 0 rfl) ?_
    refine va_get (D := D) (ci := 7) (v := .ref (hh 1)) (C := RX7) (T := TX7) (N := 4) hx hb hg uX7 hown hK.1 hP 0 rfl rfl 0 (by decide) (hg _ gw_184) (fun _ h9 => h9) rfl dX7_moveInLine_5 ?_
    obtain ⟨⟨hX_1, hC_1, hR_1⟩, ec1, h⟩ := bd_some h
    refine cP_v (As := [.ref (hh 1)]) (rest := []) (wc := (wX2t cI cS (fun i => hh (15 + i)) hX hC hR (wX6 cI (hh 1) (hh 2) (hh 3) (hh 4) (hh 5) (hh 6) (hh 7) (hh 8) (hh 9) vCar vGoa vEag tN tF cN cF mP mS kCap kGap kCar kCop kGro kShr))) (wc' := (wX2t cI cS (fun i => hh (15 + i)) hX_1 hC_1 hR_1 (wX6 cI (hh 1) (hh 2) (hh 3) (hh 4) (hh 5) (hh 6) (hh 7) (hh 8) (hh 9) vCar vGoa vEag tN tF cN cF mP mS kCap kGap kCar kCop kGro kShr))) (ws' := (wX7 cI cS hh vCar vGoa vEag tN tF cN cF mP mS kCap kGap kCar kCop kGro kShr bN bF rCmd rLet rNum fCap fGap fCar fCop fGro fShr hX_1 hC_1 hR_1)) hx hb hml hown hg hK hP hD hS hA hl.1 (k_X2_save l D cI cS cL Z (fun i => hh (15 + i)) (hh 1) (hh 2) (hh 3) (hh 4) (hh 5) (hh 6) (hh 7) (hh 8) (hh 9) hX hC hR vCar vGoa vEag tN tF cN cF mP mS kCap kGap kCar kCop kGro kShr ec1) gm_X2_save gw_419 ⟨rfl, rfl, by decide, by decide⟩ ⟨Nat.zero_le _, Nat.zero_le _⟩ pm_7 pm_7 fst_X2t rfl rfl rfl rfl rfl (Nat.le_of_ble_eq_true rfl) dX7_moveInLine_8 (fun H locs hP hD hS => ?_)
    refine lv_aload_n hx hb dX7_moveInLine_11 rfl (lv_at hl 0 rfl) ?_
    refine va_get (D := D) (ci := 7) (v := .ref (hh 1)) (C := RX7) (T := TX7) (N := 4) hx hb hg uX7 hown hK.1 hP 0 rfl rfl 0 (by decide) (hg _ gw_184) (fun _ h9 => h9) rfl dX7_moveInLine_12 ?_
    refine va_getN (D := D) (ci := 6) (v := .ref (hh 2)) (C := RX6) (T := TX6) (N := 7) hx hb hg uX6 hown hK.1 hP 1 rfl rfl 0 (by decide) (kk_nest hK nw_105) (fun _ h9 => h9) rfl dX7_moveInLine_15 ?_
    refine lv_aload_n hx hb dX7_moveInLine_18 rfl (lv_at hl 0 rfl) ?_
    refine va_get (D := D) (ci := 7) (v := .ref (hh 1)) (C := RX7) (T := TX7) (N := 4) hx hb hg uX7 hown hK.1 hP 0 rfl rfl 0 (by decide) (hg _ gw_184) (fun _ h9 => h9) rfl dX7_moveInLine_19 ?_
    refine va_getN (D := D) (ci := 6) (v := .int vCar) (C := RX6) (T := TX6) (N := 7) hx hb hg uX6 hown hK.1 hP 1 rfl rfl 4 (by decide) (kk_nest hK nw_113) (fun _ h9 => h9) rfl dX7_moveInLine_22 ?_
    obtain ⟨r2, ec2, h⟩ := bd_some h
    refine cV_i (As := [.int vCar]) (rest := []) (wc := (wX0 cI (hh 2) (hh 3) 256 tN tF)) (wc' := (wX0 cI (hh 2) (hh 3) 256 tN tF)) hx hb hml hown hg hK hP hD hS hA hl.1 (k_X0_lineBegin l D cI cS cL Z (hh 2) (hh 3) vCar 256 tN tF ec2) gm_X0_lineBegin gw_558 ⟨rfl, rfl, by decide, by decide⟩ ⟨Nat.zero_le _, Nat.zero_le _⟩ [2, 3] rfl rfl rfl rfl rfl rfl rfl rfl (Nat.le_of_ble_eq_true rfl) dX7_moveInLine_25 (fun H locs hP hD hS => ?_)
    have hP : va_P D vwCl (wX7 cI cS hh vCar vGoa vEag tN tF cN cF mP mS kCap kGap kCar kCop kGro kShr bN bF rCmd rLet rNum fCap fGap fCar fCop fGro fShr hX_1 hC_1 hR_1) H := hP
    have hD : va_D A (wX7 cI cS hh vCar vGoa vEag tN tF cN cF mP mS kCap kGap kCar kCop kGro kShr bN bF rCmd rLet rNum fCap fGap fCar fCop fGro fShr hX_1 hC_1 hR_1) := hD
    refine lv_istore_n (lv' := [(2, .int r2), (0, .ref (hh 0)), (1, .int p1)]) hx hb dX7_moveInLine_28 rfl hl (by decide) rfl (fun ls hl => ?_)
    refine lv_aload_n hx hb dX7_moveInLine_29 rfl (lv_at hl 1 rfl) ?_
    refine va_get (D := D) (ci := 7) (v := .ref (hh 1)) (C := RX7) (T := TX7) (N := 4) hx hb hg uX7 hown hK.1 hP 0 rfl rfl 0 (by decide) (hg _ gw_184) (fun _ h9 => h9) rfl dX7_moveInLine_30 ?_
    refine va_getN (D := D) (ci := 6) (v := .ref (hh 2)) (C := RX6) (T := TX6) (N := 7) hx hb hg uX6 hown hK.1 hP 1 rfl rfl 0 (by decide) (kk_nest hK nw_105) (fun _ h9 => h9) rfl dX7_moveInLine_33 ?_
    refine lv_aload_n hx hb dX7_moveInLine_36 rfl (lv_at hl 1 rfl) ?_
    refine va_get (D := D) (ci := 7) (v := .ref (hh 1)) (C := RX7) (T := TX7) (N := 4) hx hb hg uX7 hown hK.1 hP 0 rfl rfl 0 (by decide) (hg _ gw_184) (fun _ h9 => h9) rfl dX7_moveInLine_37 ?_
    refine va_getN (D := D) (ci := 6) (v := .int vCar) (C := RX6) (T := TX6) (N := 7) hx hb hg uX6 hown hK.1 hP 1 rfl rfl 4 (by decide) (kk_nest hK nw_113) (fun _ h9 => h9) rfl dX7_moveInLine_40 ?_
    obtain ⟨r3, ec3, h⟩ := bd_some h
    refine cV_i (As := [.int vCar]) (rest := []) (wc := (wX0 cI (hh 2) (hh 3) 256 tN tF)) (wc' := (wX0 cI (hh 2) (hh 3) 256 tN tF)) hx hb hml hown hg hK hP hD hS hA hl.1 (k_X0_lineEnd l D cI cS cL Z (hh 2) (hh 3) vCar 256 tN tF ec3) gm_X0_lineEnd gw_559 ⟨rfl, rfl, by decide, by decide⟩ ⟨Nat.zero_le _, Nat.zero_le _⟩ [2, 3] rfl rfl rfl rfl rfl rfl rfl rfl (Nat.le_of_ble_eq_true rfl) dX7_moveInLine_43 (fun H locs hP hD hS => ?_)
    have hP : va_P D vwCl (wX7 cI cS hh vCar vGoa vEag tN tF cN cF mP mS kCap kGap kCar kCop kGro kShr bN bF rCmd rLet rNum fCap fGap fCar fCop fGro fShr hX_1 hC_1 hR_1) H := hP
    have hD : va_D A (wX7 cI cS hh vCar vGoa vEag tN tF cN cF mP mS kCap kGap kCar kCop kGro kShr bN bF rCmd rLet rNum fCap fGap fCar fCop fGro fShr hX_1 hC_1 hR_1) := hD
    refine lv_istore_n (lv' := [(3, .int r3), (2, .int r2), (0, .ref (hh 0)), (1, .int p1)]) hx hb dX7_moveInLine_46 rfl hl (by decide) rfl (fun ls hl => ?_)
    refine lv_aload_n hx hb dX7_moveInLine_47 rfl (lv_at hl 2 rfl) ?_
    refine va_get (D := D) (ci := 7) (v := .ref (hh 1)) (C := RX7) (T := TX7) (N := 4) hx hb hg uX7 hown hK.1 hP 0 rfl rfl 0 (by decide) (hg _ gw_184) (fun _ h9 => h9) rfl dX7_moveInLine_48 ?_
    refine lv_iload_n hx hb dX7_moveInLine_51 rfl (lv_at hl 3 rfl) ?_
    refine lv_if_eq (tgt := 59) hx hb dX7_moveInLine_52 (by decide) (fun q4 => ?_) (fun q4 => ?_)
    · replace h := it_some q4 h
      refine lv_iload_n hx hb dX7_moveInLine_59 rfl (lv_at hl 1 rfl) ?_
      obtain ⟨⟨r5, vCar_5, vGoa_5, kGap_5, kCar_5⟩, ec5, h⟩ := bd_some h
      refine cV_i (As := [.int r2]) (rest := []) (wc := (wX6 cI (hh 1) (hh 2) (hh 3) (hh 4) (hh 5) (hh 6) (hh 7) (hh 8) (hh 9) vCar vGoa vEag tN tF cN cF mP mS kCap kGap kCar kCop kGro kShr)) (wc' := (wX6 cI (hh 1) (hh 2) (hh 3) (hh 4) (hh 5) (hh 6) (hh 7) (hh 8) (hh 9) vCar_5 vGoa_5 vEag tN tF cN cF mP mS kCap kGap_5 kCar_5 kCop kGro kShr)) hx hb hml hown hg hK hP hD hS hA hl.1 (k_X6_moveCaret l D cI cS cL Z (hh 1) (hh 2) (hh 3) (hh 4) (hh 5) (hh 6) (hh 7) (hh 8) (hh 9) r2 vCar vGoa vEag tN tF cN cF mP mS kCap kGap kCar kCop kGro kShr ec5) gm_X6_moveCaret gw_510 ⟨rfl, rfl, by decide, by decide⟩ ⟨Nat.zero_le _, Nat.zero_le _⟩ [1, 2, 3, 4, 5, 6, 7, 8, 9] rfl rfl rfl rfl rfl rfl rfl rfl (Nat.le_of_ble_eq_true rfl) dX7_moveInLine_60 (fun H locs hP hD hS => ?_)
      have hP : va_P D vwCl (wX7 cI cS hh vCar_5 vGoa_5 vEag tN tF cN cF mP mS kCap kGap_5 kCar_5 kCop kGro kShr bN bF rCmd rLet rNum fCap fGap fCar fCop fGro fShr hX_1 hC_1 hR_1) H := hP
      have hD : va_D A (wX7 cI cS hh vCar_5 vGoa_5 vEag tN tF cN cF mP mS kCap kGap_5 kCar_5 kCop kGro kShr bN bF rCmd rLet rNum fCap fGap fCar fCop fGro fShr hX_1 hC_1 hR_1) := hD
      refine lv_pop hx hb dX7_moveInLine_63 rfl ?_
      refine lv_aload_n hx hb dX7_moveInLine_64 rfl (lv_at hl 2 rfl) ?_
      refine va_get (D := D) (ci := 7) (v := .ref (hh 1)) (C := RX7) (T := TX7) (N := 4) hx hb hg uX7 hown hK.1 hP 0 rfl rfl 0 (by decide) (hg _ gw_184) (fun _ h9 => h9) rfl dX7_moveInLine_65 ?_
      refine va_getN (D := D) (ci := 6) (v := .int vCar_5) (C := RX6) (T := TX6) (N := 7) hx hb hg uX6 hown hK.1 hP 1 rfl rfl 4 (by decide) (kk_nest hK nw_113) (fun _ h9 => h9) rfl dX7_moveInLine_68 ?_
      cases h
      exact ret_i hx hb hr hlocks hP hD hS dX7_moveInLine_71 rfl
    · replace h := if_some q4 h
      refine lv_iload_n hx hb dX7_moveInLine_55 rfl (lv_at hl 0 rfl) ?_
      refine lv_goto (tgt := 60) hx hb dX7_moveInLine_56 (by decide) ?_
      obtain ⟨⟨r6, vCar_6, vGoa_6, kGap_6, kCar_6⟩, ec6, h⟩ := bd_some h
      refine cV_i (As := [.int r3]) (rest := []) (wc := (wX6 cI (hh 1) (hh 2) (hh 3) (hh 4) (hh 5) (hh 6) (hh 7) (hh 8) (hh 9) vCar vGoa vEag tN tF cN cF mP mS kCap kGap kCar kCop kGro kShr)) (wc' := (wX6 cI (hh 1) (hh 2) (hh 3) (hh 4) (hh 5) (hh 6) (hh 7) (hh 8) (hh 9) vCar_6 vGoa_6 vEag tN tF cN cF mP mS kCap kGap_6 kCar_6 kCop kGro kShr)) hx hb hml hown hg hK hP hD hS hA hl.1 (k_X6_moveCaret l D cI cS cL Z (hh 1) (hh 2) (hh 3) (hh 4) (hh 5) (hh 6) (hh 7) (hh 8) (hh 9) r3 vCar vGoa vEag tN tF cN cF mP mS kCap kGap kCar kCop kGro kShr ec6) gm_X6_moveCaret gw_510 ⟨rfl, rfl, by decide, by decide⟩ ⟨Nat.zero_le _, Nat.zero_le _⟩ [1, 2, 3, 4, 5, 6, 7, 8, 9] rfl rfl rfl rfl rfl rfl rfl rfl (Nat.le_of_ble_eq_true rfl) dX7_moveInLine_60 (fun H locs hP hD hS => ?_)
      have hP : va_P D vwCl (wX7 cI cS hh vCar_6 vGoa_6 vEag tN tF cN cF mP mS kCap kGap_6 kCar_6 kCop kGro kShr bN bF rCmd rLet rNum fCap fGap fCar fCop fGro fShr hX_1 hC_1 hR_1) H := hP
      have hD : va_D A (wX7 cI cS hh vCar_6 vGoa_6 vEag tN tF cN cF mP mS kCap kGap_6 kCar_6 kCop kGro kShr bN bF rCmd rLet rNum fCap fGap fCar fCop fGro fShr hX_1 hC_1 hR_1) := hD
      refine lv_pop hx hb dX7_moveInLine_63 rfl ?_
      refine lv_aload_n hx hb dX7_moveInLine_64 rfl (lv_at hl 2 rfl) ?_
      refine va_get (D := D) (ci := 7) (v := .ref (hh 1)) (C := RX7) (T := TX7) (N := 4) hx hb hg uX7 hown hK.1 hP 0 rfl rfl 0 (by decide) (hg _ gw_184) (fun _ h9 => h9) rfl dX7_moveInLine_65 ?_
      refine va_getN (D := D) (ci := 6) (v := .int vCar_6) (C := RX6) (T := TX6) (N := 7) hx hb hg uX6 hown hK.1 hP 1 rfl rfl 4 (by decide) (kk_nest hK nw_113) (fun _ h9 => h9) rfl dX7_moveInLine_68 ?_
      cases h
      exact ret_i hx hb hr hlocks hP hD hS dX7_moveInLine_71 rfl
  exact hmain _ _ hP hS
abbrev rm_X7_setEager : Room := { frames := 5, cells := 0, slots := 0, locals := 107 }
def f_X7_setEager (Z : Nat) (p1 : Int32) (vCar : Int32) (vGoa : Int32) (vEag : Int32) (tN : Int32) (tF : Nat → Int32) (cN : Int32) (cF : Nat → Int32) (mP : Nat → Int32) (mS : Nat → Int32) (kCap : Int32) (kGap : Int32) (kCar : Int32) (kCop : Int32) (kGro : Int32) (kShr : Int32) (hX : Int32) (hC : Int32) (hR : Nat → StT) : Option (Int32 × Int32 × Int32 × Int32 × Int32 × Int32 × (Nat → StT)) :=
  (f_X2_save Z hX hC hR vCar vGoa vEag tN tF cN cF mP mS kCap kGap kCar kCop kGro kShr).bind fun (hX_1, hC_1, hR_1) =>
  kb p1 (
  (f_X6_letGapFollow Z vCar p1 kGap kCar).bind fun (r3, kGap_3, kCar_3) =>
  some (r3, p1, kGap_3, kCar_3, hX_1, hC_1, hR_1))
set_option maxRecDepth 100000 in
set_option maxHeartbeats 4000000 in
theorem k_X7_setEager (l : Launch) (D : va_G) (cI cS cL : ClassId) (Z : Nat) (hh : Nat → Nat) (p1 : Int32) (vCar : Int32) (vGoa : Int32) (vEag : Int32) (tN : Int32) (tF : Nat → Int32) (cN : Int32) (cF : Nat → Int32) (mP : Nat → Int32) (mS : Nat → Int32) (kCap : Int32) (kGap : Int32) (kCar : Int32) (kCop : Int32) (kGro : Int32) (kShr : Int32) (bN : Int32) (bF : Nat → Int32) (rCmd : Int32) (rLet : Int32) (rNum : Int32) (fCap : Int32) (fGap : Int32) (fCar : Int32) (fCop : Int32) (fGro : Int32) (fShr : Int32) (hX : Int32) (hC : Int32) (hR : Nat → StT) {r : Int32} {vEag' : Int32} {kGap' : Int32} {kCar' : Int32} {hX' : Int32} {hC' : Int32} {hR' : Nat → StT} (h : f_X7_setEager Z p1 vCar vGoa vEag tN tF cN cF mP mS kCap kGap kCar kCop kGro kShr hX hC hR = some (r, vEag', kGap', kCar', hX', hC', hR')) : CI l yX7_setEager cX7_setEager 2 (some .int) rm_X7_setEager D cI cS cL [.ref (hh 0), .int p1] (wX7 cI cS hh vCar vGoa vEag tN tF cN cF mP mS kCap kGap kCar kCop kGro kShr bN bF rCmd rLet rNum fCap fGap fCar fCop fGro fShr hX hC hR) (wX7 cI cS hh vCar vGoa (vEag') tN tF cN cF mP mS kCap (kGap') (kCar') kCop kGro kShr bN bF rCmd rLet rNum fCap fGap fCar fCop fGro fShr (hX') (hC') (hR')) r := by
  refine ent_i (by decide +kernel) (Nat.le_of_ble_eq_true rfl) ?_
  intro p e s m args below meth c A ls hx hb hr hml hlocks hg hown hK hP hD hS hA hl
  have hown : s.vm.findClass RX7 = some m.cls := hown
  have hl : lv_has ls 2 [(0, .ref (hh 0)), (1, .int p1)] := hl
  have hP : va_P D vwCl (wX7 cI cS hh vCar vGoa vEag tN tF cN cF mP mS kCap kGap kCar kCop kGro kShr bN bF rCmd rLet rNum fCap fGap fCar fCop fGro fShr hX hC hR) s.heap := hP
  have hD : va_D A (wX7 cI cS hh vCar vGoa vEag tN tF cN cF mP mS kCap kGap kCar kCop kGro kShr bN bF rCmd rLet rNum fCap fGap fCar fCop fGro fShr hX hC hR) := hD
  show W p l e rm_X7_setEager s m args below meth c s.heap [] 0 0 (FI D below args s (wX7 cI cS hh vCar vGoa (vEag') tN tF cN cF mP mS kCap (kGap') (kCar') kCop kGro kShr bN bF rCmd rLet rNum fCap fGap fCar fCop fGro fShr (hX') (hC') (hR')) r A) (F0 m 0 ls [])
  unfold f_X7_setEager at h
  have hmain : ∀ (H : Heap) (locs : List Loc), va_P D vwCl (wX7 cI cS hh vCar vGoa vEag tN tF cN cF mP mS kCap kGap kCar kCop kGro kShr bN bF rCmd rLet rNum fCap fGap fCar fCop fGro fShr hX hC hR) H → va_S A s.heap H locs → W p l e rm_X7_setEager s m args below meth c H locs 0 0 (FI D below args s (wX7 cI cS hh vCar vGoa (vEag') tN tF cN cF mP mS kCap (kGap') (kCar') kCop kGro kShr bN bF rCmd rLet rNum fCap fGap fCar fCop fGro fShr (hX') (hC') (hR')) r A) (F0 m 0 ls []) := by
    intro H locs hP hS
    refine lv_aload_n hx hb dX7_setEager_0 rfl (lv_at hl 0 rfl) ?_
    refine va_get (D := D) (ci := 7) (v := .ref (hh 15)) (C := RX7) (T := TX7) (N := 4) hx hb hg uX7 hown hK.1 hP 0 rfl rfl 1 (by decide) (hg _ gw_185) (fun _ h9 => h9) rfl dX7_setEager_1 ?_
    refine lv_aload_n hx hb dX7_setEager_4 rfl (lv_at hl 0 rfl) ?_
    refine va_get (D := D) (ci := 7) (v := .ref (hh 1)) (C := RX7) (T := TX7) (N := 4) hx hb hg uX7 hown hK.1 hP 0 rfl rfl 0 (by decide) (hg _ gw_184) (fun _ h9 => h9) rfl dX7_setEager_5 ?_
    obtain ⟨⟨hX_1, hC_1, hR_1⟩, ec1, h⟩ := bd_some h
    refine cP_v (As := [.ref (hh 1)]) (rest := []) (wc := (wX2t cI cS (fun i => hh (15 + i)) hX hC hR (wX6 cI (hh 1) (hh 2) (hh 3) (hh 4) (hh 5) (hh 6) (hh 7) (hh 8) (hh 9) vCar vGoa vEag tN tF cN cF mP mS kCap kGap kCar kCop kGro kShr))) (wc' := (wX2t cI cS (fun i => hh (15 + i)) hX_1 hC_1 hR_1 (wX6 cI (hh 1) (hh 2) (hh 3) (hh 4) (hh 5) (hh 6) (hh 7) (hh 8) (hh 9) vCar vGoa vEag tN tF cN cF mP mS kCap kGap kCar kCop kGro kShr))) (ws' := (wX7 cI cS hh vCar vGoa vEag tN tF cN cF mP mS kCap kGap kCar kCop kGro kShr bN bF rCmd rLet rNum fCap fGap fCar fCop fGro fShr hX_1 hC_1 hR_1)) hx hb hml hown hg hK hP hD hS hA hl.1 (k_X2_save l D cI cS cL Z (fun i => hh (15 + i)) (hh 1) (hh 2) (hh 3) (hh 4) (hh 5) (hh 6) (hh 7) (hh 8) (hh 9) hX hC hR vCar vGoa vEag tN tF cN cF mP mS kCap kGap kCar kCop kGro kShr ec1) gm_X2_save gw_419 ⟨rfl, rfl, by decide, by decide⟩ ⟨Nat.zero_le _, Nat.zero_le _⟩ pm_7 pm_7 fst_X2t rfl rfl rfl rfl rfl (Nat.le_of_ble_eq_true rfl) dX7_setEager_8 (fun H locs hP hD hS => ?_)
    refine lv_aload_n hx hb dX7_setEager_11 rfl (lv_at hl 0 rfl) ?_
    refine va_get (D := D) (ci := 7) (v := .ref (hh 1)) (C := RX7) (T := TX7) (N := 4) hx hb hg uX7 hown hK.1 hP 0 rfl rfl 0 (by decide) (hg _ gw_184) (fun _ h9 => h9) rfl dX7_setEager_12 ?_
    refine lv_iload_n hx hb dX7_setEager_15 rfl (lv_at hl 1 rfl) ?_
    obtain ⟨b2, h⟩ := kb_some h
    refine va_putN (D := D) (ci := 6) (v := .int p1) (ty := tyX6 6) (C := RX6) (T := TX6) (N := 7) hx hb hg uX6 tyX6 tyX6_ok nmX6 hown hK.1 hP hD hS 1 rfl rfl 6 (by decide) (kk_nest hK nw_116) (fun _ h9 => h9) rfl (tyX6_ok 6 (by decide)) (nar_b b2) (fit_b b2) (Nat.le_of_ble_eq_true rfl) dX7_setEager_16 (fun H locs hP hD hS => ?_)
    have hP : va_P D vwCl (wX7 cI cS hh vCar vGoa p1 tN tF cN cF mP mS kCap kGap kCar kCop kGro kShr bN bF rCmd rLet rNum fCap fGap fCar fCop fGro fShr hX_1 hC_1 hR_1) H := hP
    have hD : va_D A (wX7 cI cS hh vCar vGoa p1 tN tF cN cF mP mS kCap kGap kCar kCop kGro kShr bN bF rCmd rLet rNum fCap fGap fCar fCop fGro fShr hX_1 hC_1 hR_1) := hD
    refine lv_aload_n hx hb dX7_setEager_19 rfl (lv_at hl 0 rfl) ?_
    refine va_get (D := D) (ci := 7) (v := .ref (hh 1)) (C := RX7) (T := TX7) (N := 4) hx hb hg uX7 hown hK.1 hP 0 rfl rfl 0 (by decide) (hg _ gw_184) (fun _ h9 => h9) rfl dX7_setEager_20 ?_
    obtain ⟨⟨r3, kGap_3, kCar_3⟩, ec3, h⟩ := bd_some h
    refine cV_i (As := []) (rest := []) (wc := (wX6 cI (hh 1) (hh 2) (hh 3) (hh 4) (hh 5) (hh 6) (hh 7) (hh 8) (hh 9) vCar vGoa p1 tN tF cN cF mP mS kCap kGap kCar kCop kGro kShr)) (wc' := (wX6 cI (hh 1) (hh 2) (hh 3) (hh 4) (hh 5) (hh 6) (hh 7) (hh 8) (hh 9) vCar vGoa p1 tN tF cN cF mP mS kCap kGap_3 kCar_3 kCop kGro kShr)) hx hb hml hown hg hK hP hD hS hA hl.1 (k_X6_letGapFollow l D cI cS cL Z (hh 1) (hh 2) (hh 3) (hh 4) (hh 5) (hh 6) (hh 7) (hh 8) (hh 9) vCar vGoa p1 tN tF cN cF mP mS kCap kGap kCar kCop kGro kShr ec3) gm_X6_letGapFollow gw_553 ⟨rfl, rfl, by decide, by decide⟩ ⟨Nat.zero_le _, Nat.zero_le _⟩ [1, 2, 3, 4, 5, 6, 7, 8, 9] rfl rfl rfl rfl rfl rfl rfl rfl (Nat.le_of_ble_eq_true rfl) dX7_setEager_23 (fun H locs hP hD hS => ?_)
    have hP : va_P D vwCl (wX7 cI cS hh vCar vGoa p1 tN tF cN cF mP mS kCap kGap_3 kCar_3 kCop kGro kShr bN bF rCmd rLet rNum fCap fGap fCar fCop fGro fShr hX_1 hC_1 hR_1) H := hP
    have hD : va_D A (wX7 cI cS hh vCar vGoa p1 tN tF cN cF mP mS kCap kGap_3 kCar_3 kCop kGro kShr bN bF rCmd rLet rNum fCap fGap fCar fCop fGro fShr hX_1 hC_1 hR_1) := hD
    cases h
    exact ret_i hx hb hr hlocks hP hD hS dX7_setEager_26 rfl
  exact hmain _ _ hP hS
abbrev rm_X7_setMark : Room := { frames := 5, cells := 0, slots := 0, locals := 107 }
def f_X7_setMark_c24 (Z : Nat) (p1 : Int32) (p2 : Int32) (vCar : Int32) (vGoa : Int32) (vEag : Int32) (tN : Int32) (tF : Nat → Int32) (cN : Int32) (cF : Nat → Int32) (kCap : Int32) (kGap : Int32) (kCar : Int32) (kCop : Int32) (kGro : Int32) (kShr : Int32) (mP : Nat → Int32) (mS : Nat → Int32) (hX : Int32) (hC : Int32) (hR : Nat → StT) : Option (Int32 × (Nat → Int32) × (Nat → Int32) × Int32 × Int32 × (Nat → StT)) :=
    (f_X2_save Z hX hC hR vCar vGoa vEag tN tF cN cF mP mS kCap kGap kCar kCop kGro kShr).bind fun (hX_1, hC_1, hR_1) =>
    (f_X4_positionOf Z p1 mP).bind fun r2 =>
    (f_X4_place Z p1 vCar p2 mP mS).bind fun (mP_3, mS_3) =>
    some (r2, mP_3, mS_3, hX_1, hC_1, hR_1)
def f_X7_setMark (Z : Nat) (p1 : Int32) (p2 : Int32) (vCar : Int32) (vGoa : Int32) (vEag : Int32) (tN : Int32) (tF : Nat → Int32) (cN : Int32) (cF : Nat → Int32) (mP : Nat → Int32) (mS : Nat → Int32) (kCap : Int32) (kGap : Int32) (kCar : Int32) (kCop : Int32) (kGro : Int32) (kShr : Int32) (hX : Int32) (hC : Int32) (hR : Nat → StT) : Option ((Int32 × (Nat → Int32) × (Nat → Int32) × Int32 × Int32 × (Nat → StT)) ⊕ String) :=
  (f_X7_isMark Z p1).bind fun r4 =>
  if r4 = 0 then
    some (.inr "java/lang/IndexOutOfBoundsException")
  else
  if p2 = 0 then
    if (1 : Int32) = 0 then
      some (.inr "java/lang/IllegalArgumentException")
    else
    (f_X7_setMark_c24 Z p1 p2 vCar vGoa vEag tN tF cN cF kCap kGap kCar kCop kGro kShr mP mS hX hC hR).map Sum.inl
  else
    if p2 = 1 then
      if (1 : Int32) = 0 then
        some (.inr "java/lang/IllegalArgumentException")
      else
      (f_X7_setMark_c24 Z p1 p2 vCar vGoa vEag tN tF cN cF kCap kGap kCar kCop kGro kShr mP mS hX hC hR).map Sum.inl
    else
      if (0 : Int32) = 0 then
        some (.inr "java/lang/IllegalArgumentException")
      else
      (f_X7_setMark_c24 Z p1 p2 vCar vGoa vEag tN tF cN cF kCap kGap kCar kCop kGro kShr mP mS hX hC hR).map Sum.inl
set_option maxRecDepth 100000 in
set_option maxHeartbeats 4000000 in
theorem k_X7_setMark (l : Launch) (D : va_G) (cI cS cL : ClassId) (Z : Nat) (hh : Nat → Nat) (p1 : Int32) (p2 : Int32) (vCar : Int32) (vGoa : Int32) (vEag : Int32) (tN : Int32) (tF : Nat → Int32) (cN : Int32) (cF : Nat → Int32) (mP : Nat → Int32) (mS : Nat → Int32) (kCap : Int32) (kGap : Int32) (kCar : Int32) (kCop : Int32) (kGro : Int32) (kShr : Int32) (bN : Int32) (bF : Nat → Int32) (rCmd : Int32) (rLet : Int32) (rNum : Int32) (fCap : Int32) (fGap : Int32) (fCar : Int32) (fCop : Int32) (fGro : Int32) (fShr : Int32) (hX : Int32) (hC : Int32) (hR : Nat → StT) {r : Int32} {mP' : Nat → Int32} {mS' : Nat → Int32} {hX' : Int32} {hC' : Int32} {hR' : Nat → StT} (h : f_X7_setMark Z p1 p2 vCar vGoa vEag tN tF cN cF mP mS kCap kGap kCar kCop kGro kShr hX hC hR = some (.inl (r, mP', mS', hX', hC', hR'))) : CI l yX7_setMark cX7_setMark 4 (some .int) rm_X7_setMark D cI cS cL [.ref (hh 0), .int p1, .int p2] (wX7 cI cS hh vCar vGoa vEag tN tF cN cF mP mS kCap kGap kCar kCop kGro kShr bN bF rCmd rLet rNum fCap fGap fCar fCop fGro fShr hX hC hR) (wX7 cI cS hh vCar vGoa vEag tN tF cN cF (mP') (mS') kCap kGap kCar kCop kGro kShr bN bF rCmd rLet rNum fCap fGap fCar fCop fGro fShr (hX') (hC') (hR')) r := by
  refine ent_i (by decide +kernel) (Nat.le_of_ble_eq_true rfl) ?_
  intro p e s m args below meth c A ls hx hb hr hml hlocks hg hown hK hP hD hS hA hl
  have hown : s.vm.findClass RX7 = some m.cls := hown
  have c_24 : ∀ (mP : Nat → Int32) (mS : Nat → Int32) (hX : Int32) (hC : Int32) (hR : Nat → StT), f_X7_setMark_c24 Z p1 p2 vCar vGoa vEag tN tF cN cF kCap kGap kCar kCop kGro kShr mP mS hX hC hR = some (r, mP', mS', hX', hC', hR') → ∀ (H : Heap) (locs : List Loc), va_P D vwCl (wX7 cI cS hh vCar vGoa vEag tN tF cN cF mP mS kCap kGap kCar kCop kGro kShr bN bF rCmd rLet rNum fCap fGap fCar fCop fGro fShr hX hC hR) H → va_D A (wX7 cI cS hh vCar vGoa vEag tN tF cN cF mP mS kCap kGap kCar kCop kGro kShr bN bF rCmd rLet rNum fCap fGap fCar fCop fGro fShr hX hC hR) → va_S A s.heap H locs → ∀ ls : Array Slot, lv_has ls 4 [(0, .ref (hh 0)), (1, .int p1), (2, .int p2)] → W p l e rm_X7_setMark s m args below meth c H locs 0 0 (FI D below args s (wX7 cI cS hh vCar vGoa vEag tN tF cN cF (mP') (mS') kCap kGap kCar kCop kGro kShr bN bF rCmd rLet rNum fCap fGap fCar fCop fGro fShr (hX') (hC') (hR')) r A) (F0 m 24 ls []) := by
    intro mP mS hX hC hR h H locs hP hD hS ls hl
    unfold f_X7_setMark_c24 at h
    refine lv_aload_n hx hb dX7_setMark_24 rfl (lv_at hl 0 rfl) ?_
    refine va_get (D := D) (ci := 7) (v := .ref (hh 15)) (C := RX7) (T := TX7) (N := 4) hx hb hg uX7 hown hK.1 hP 0 rfl rfl 1 (by decide) (hg _ gw_185) (fun _ h9 => h9) rfl dX7_setMark_25 ?_
    refine lv_aload_n hx hb dX7_setMark_28 rfl (lv_at hl 0 rfl) ?_
    refine va_get (D := D) (ci := 7) (v := .ref (hh 1)) (C := RX7) (T := TX7) (N := 4) hx hb hg uX7 hown hK.1 hP 0 rfl rfl 0 (by decide) (hg _ gw_184) (fun _ h9 => h9) rfl dX7_setMark_29 ?_
    obtain ⟨⟨hX_1, hC_1, hR_1⟩, ec1, h⟩ := bd_some h
    refine cP_v (As := [.ref (hh 1)]) (rest := []) (wc := (wX2t cI cS (fun i => hh (15 + i)) hX hC hR (wX6 cI (hh 1) (hh 2) (hh 3) (hh 4) (hh 5) (hh 6) (hh 7) (hh 8) (hh 9) vCar vGoa vEag tN tF cN cF mP mS kCap kGap kCar kCop kGro kShr))) (wc' := (wX2t cI cS (fun i => hh (15 + i)) hX_1 hC_1 hR_1 (wX6 cI (hh 1) (hh 2) (hh 3) (hh 4) (hh 5) (hh 6) (hh 7) (hh 8) (hh 9) vCar vGoa vEag tN tF cN cF mP mS kCap kGap kCar kCop kGro kShr))) (ws' := (wX7 cI cS hh vCar vGoa vEag tN tF cN cF mP mS kCap kGap kCar kCop kGro kShr bN bF rCmd rLet rNum fCap fGap fCar fCop fGro fShr hX_1 hC_1 hR_1)) hx hb hml hown hg hK hP hD hS hA hl.1 (k_X2_save l D cI cS cL Z (fun i => hh (15 + i)) (hh 1) (hh 2) (hh 3) (hh 4) (hh 5) (hh 6) (hh 7) (hh 8) (hh 9) hX hC hR vCar vGoa vEag tN tF cN cF mP mS kCap kGap kCar kCop kGro kShr ec1) gm_X2_save gw_419 ⟨rfl, rfl, by decide, by decide⟩ ⟨Nat.zero_le _, Nat.zero_le _⟩ pm_7 pm_7 fst_X2t rfl rfl rfl rfl rfl (Nat.le_of_ble_eq_true rfl) dX7_setMark_32 (fun H locs hP hD hS => ?_)
    refine lv_aload_n hx hb dX7_setMark_35 rfl (lv_at hl 0 rfl) ?_
    refine va_get (D := D) (ci := 7) (v := .ref (hh 1)) (C := RX7) (T := TX7) (N := 4) hx hb hg uX7 hown hK.1 hP 0 rfl rfl 0 (by decide) (hg _ gw_184) (fun _ h9 => h9) rfl dX7_setMark_36 ?_
    refine va_getN (D := D) (ci := 6) (v := .ref (hh 6)) (C := RX6) (T := TX6) (N := 7) hx hb hg uX6 hown hK.1 hP 1 rfl rfl 2 (by decide) (kk_nest hK nw_109) (fun _ h9 => h9) rfl dX7_setMark_39 ?_
    refine lv_iload_n hx hb dX7_setMark_42 rfl (lv_at hl 1 rfl) ?_
    obtain ⟨r2, ec2, h⟩ := bd_some h
    refine cV_i (As := [.int p1]) (rest := []) (wc := (wX4 cI (hh 6) (hh 7) (hh 8) mP mS)) (wc' := (wX4 cI (hh 6) (hh 7) (hh 8) mP mS)) hx hb hml hown hg hK hP hD hS hA hl.1 (k_X4_positionOf l D cI cS cL Z (hh 6) (hh 7) (hh 8) p1 mP mS ec2) gm_X4_positionOf gw_385 ⟨rfl, rfl, by decide, by decide⟩ ⟨Nat.zero_le _, Nat.zero_le _⟩ [6, 7, 8] rfl rfl rfl rfl rfl rfl rfl rfl (Nat.le_of_ble_eq_true rfl) dX7_setMark_43 (fun H locs hP hD hS => ?_)
    have hP : va_P D vwCl (wX7 cI cS hh vCar vGoa vEag tN tF cN cF mP mS kCap kGap kCar kCop kGro kShr bN bF rCmd rLet rNum fCap fGap fCar fCop fGro fShr hX_1 hC_1 hR_1) H := hP
    have hD : va_D A (wX7 cI cS hh vCar vGoa vEag tN tF cN cF mP mS kCap kGap kCar kCop kGro kShr bN bF rCmd rLet rNum fCap fGap fCar fCop fGro fShr hX_1 hC_1 hR_1) := hD
    refine lv_istore_n (lv' := [(3, .int r2), (0, .ref (hh 0)), (1, .int p1), (2, .int p2)]) hx hb dX7_setMark_46 rfl hl (by decide) rfl (fun ls hl => ?_)
    refine lv_aload_n hx hb dX7_setMark_47 rfl (lv_at hl 1 rfl) ?_
    refine va_get (D := D) (ci := 7) (v := .ref (hh 1)) (C := RX7) (T := TX7) (N := 4) hx hb hg uX7 hown hK.1 hP 0 rfl rfl 0 (by decide) (hg _ gw_184) (fun _ h9 => h9) rfl dX7_setMark_48 ?_
    refine va_getN (D := D) (ci := 6) (v := .ref (hh 6)) (C := RX6) (T := TX6) (N := 7) hx hb hg uX6 hown hK.1 hP 1 rfl rfl 2 (by decide) (kk_nest hK nw_109) (fun _ h9 => h9) rfl dX7_setMark_51 ?_
    refine lv_iload_n hx hb dX7_setMark_54 rfl (lv_at hl 2 rfl) ?_
    refine lv_aload_n hx hb dX7_setMark_55 rfl (lv_at hl 1 rfl) ?_
    refine va_get (D := D) (ci := 7) (v := .ref (hh 1)) (C := RX7) (T := TX7) (N := 4) hx hb hg uX7 hown hK.1 hP 0 rfl rfl 0 (by decide) (hg _ gw_184) (fun _ h9 => h9) rfl dX7_setMark_56 ?_
    refine va_getN (D := D) (ci := 6) (v := .int vCar) (C := RX6) (T := TX6) (N := 7) hx hb hg uX6 hown hK.1 hP 1 rfl rfl 4 (by decide) (kk_nest hK nw_113) (fun _ h9 => h9) rfl dX7_setMark_59 ?_
    refine lv_iload_n hx hb dX7_setMark_62 rfl (lv_at hl 3 rfl) ?_
    obtain ⟨⟨mP_3, mS_3⟩, ec3, h⟩ := bd_some h
    refine cV_v (As := [.int p1, .int vCar, .int p2]) (rest := []) (wc := (wX4 cI (hh 6) (hh 7) (hh 8) mP mS)) (wc' := (wX4 cI (hh 6) (hh 7) (hh 8) mP_3 mS_3)) hx hb hml hown hg hK hP hD hS hA hl.1 (k_X4_place l D cI cS cL Z (hh 6) (hh 7) (hh 8) p1 vCar p2 mP mS ec3) gm_X4_place gw_564 ⟨rfl, rfl, by decide, by decide⟩ ⟨Nat.zero_le _, Nat.zero_le _⟩ [6, 7, 8] rfl rfl rfl rfl rfl rfl rfl rfl (Nat.le_of_ble_eq_true rfl) dX7_setMark_63 (fun H locs hP hD hS => ?_)
    have hP : va_P D vwCl (wX7 cI cS hh vCar vGoa vEag tN tF cN cF mP_3 mS_3 kCap kGap kCar kCop kGro kShr bN bF rCmd rLet rNum fCap fGap fCar fCop fGro fShr hX_1 hC_1 hR_1) H := hP
    have hD : va_D A (wX7 cI cS hh vCar vGoa vEag tN tF cN cF mP_3 mS_3 kCap kGap kCar kCop kGro kShr bN bF rCmd rLet rNum fCap fGap fCar fCop fGro fShr hX_1 hC_1 hR_1) := hD
    refine lv_iload_n hx hb dX7_setMark_66 rfl (lv_at hl 0 rfl) ?_
    cases h
    exact ret_i hx hb hr hlocks hP hD hS dX7_setMark_67 rfl
  have hl : lv_has ls 4 [(0, .ref (hh 0)), (1, .int p1), (2, .int p2)] := hl
  have hP : va_P D vwCl (wX7 cI cS hh vCar vGoa vEag tN tF cN cF mP mS kCap kGap kCar kCop kGro kShr bN bF rCmd rLet rNum fCap fGap fCar fCop fGro fShr hX hC hR) s.heap := hP
  have hD : va_D A (wX7 cI cS hh vCar vGoa vEag tN tF cN cF mP mS kCap kGap kCar kCop kGro kShr bN bF rCmd rLet rNum fCap fGap fCar fCop fGro fShr hX hC hR) := hD
  show W p l e rm_X7_setMark s m args below meth c s.heap [] 0 0 (FI D below args s (wX7 cI cS hh vCar vGoa vEag tN tF cN cF (mP') (mS') kCap kGap kCar kCop kGro kShr bN bF rCmd rLet rNum fCap fGap fCar fCop fGro fShr (hX') (hC') (hR')) r A) (F0 m 0 ls [])
  unfold f_X7_setMark at h
  have hmain : ∀ (H : Heap) (locs : List Loc), va_P D vwCl (wX7 cI cS hh vCar vGoa vEag tN tF cN cF mP mS kCap kGap kCar kCop kGro kShr bN bF rCmd rLet rNum fCap fGap fCar fCop fGro fShr hX hC hR) H → va_S A s.heap H locs → W p l e rm_X7_setMark s m args below meth c H locs 0 0 (FI D below args s (wX7 cI cS hh vCar vGoa vEag tN tF cN cF (mP') (mS') kCap kGap kCar kCop kGro kShr bN bF rCmd rLet rNum fCap fGap fCar fCop fGro fShr (hX') (hC') (hR')) r A) (F0 m 0 ls []) := by
    intro H locs hP hS
    refine lv_iload_n hx hb dX7_setMark_0 rfl (lv_at hl 1 rfl) ?_
    obtain ⟨r4, ec4, h⟩ := bd_some h
    refine cS_i (As := [.int p1]) (rest := []) (wc := []) (wc' := []) hx hb hml hown hg hK hP hD hS hA hl.1 (k_X7_isMark l D cI cS cL Z p1 ec4) gs_X7_isMark gw_366 ⟨rfl, rfl, by decide, by decide⟩ ⟨Nat.zero_le _, Nat.zero_le _⟩ [] rfl rfl rfl rfl rfl (Nat.le_of_ble_eq_true rfl) dX7_setMark_1 (fun H locs hP hD hS => ?_)
    have hP : va_P D vwCl (wX7 cI cS hh vCar vGoa vEag tN tF cN cF mP mS kCap kGap kCar kCop kGro kShr bN bF rCmd rLet rNum fCap fGap fCar fCop fGro fShr hX hC hR) H := hP
    have hD : va_D A (wX7 cI cS hh vCar vGoa vEag tN tF cN cF mP mS kCap kGap kCar kCop kGro kShr bN bF rCmd rLet rNum fCap fGap fCar fCop fGro fShr hX hC hR) := hD
    by_cases q5 : r4 = 0
    · cases it_some q5 h
    replace h := if_some q5 h
    refine cS_v (As := [.int r4]) (rest := []) (wc := []) (wc' := []) hx hb hml hown hg hK hP hD hS hA hl.1 (k_X7_requireIndex l D cI cS cL r4 q5) gs_X7_requireIndex gw_367 ⟨rfl, rfl, by decide, by decide⟩ ⟨Nat.zero_le _, Nat.zero_le _⟩ [] rfl rfl rfl rfl rfl (Nat.le_of_ble_eq_true rfl) dX7_setMark_4 (fun H locs hP hD hS => ?_)
    have hP : va_P D vwCl (wX7 cI cS hh vCar vGoa vEag tN tF cN cF mP mS kCap kGap kCar kCop kGro kShr bN bF rCmd rLet rNum fCap fGap fCar fCop fGro fShr hX hC hR) H := hP
    have hD : va_D A (wX7 cI cS hh vCar vGoa vEag tN tF cN cF mP mS kCap kGap kCar kCop kGro kShr bN bF rCmd rLet rNum fCap fGap fCar fCop fGro fShr hX hC hR) := hD
    refine lv_iload_n hx hb dX7_setMark_7 rfl (lv_at hl 2 rfl) ?_
    refine lv_if_eq (tgt := 16) hx hb dX7_setMark_8 (by decide) (fun q6 => ?_) (fun q6 => ?_)
    · replace h := it_some q6 h
      refine lv_iconst (v := 1) hx hb dX7_setMark_16 (by decide) ?_
      refine lv_goto (tgt := 21) hx hb dX7_setMark_17 (by decide) ?_
      by_cases q7 : (1 : Int32) = 0
      · cases it_some q7 h
      replace h := if_some q7 h
      refine cS_v (As := [.int (1 : Int32)]) (rest := []) (wc := []) (wc' := []) hx hb hml hown hg hK hP hD hS hA hl.1 (k_X7_requireArgument l D cI cS cL (1 : Int32) q7) gs_X7_requireArgument gw_397 ⟨rfl, rfl, by decide, by decide⟩ ⟨Nat.zero_le _, Nat.zero_le _⟩ [] rfl rfl rfl rfl rfl (Nat.le_of_ble_eq_true rfl) dX7_setMark_21 (fun H locs hP hD hS => ?_)
      have hP : va_P D vwCl (wX7 cI cS hh vCar vGoa vEag tN tF cN cF mP mS kCap kGap kCar kCop kGro kShr bN bF rCmd rLet rNum fCap fGap fCar fCop fGro fShr hX hC hR) H := hP
      have hD : va_D A (wX7 cI cS hh vCar vGoa vEag tN tF cN cF mP mS kCap kGap kCar kCop kGro kShr bN bF rCmd rLet rNum fCap fGap fCar fCop fGro fShr hX hC hR) := hD
      replace h := map_inl h
      exact c_24 mP mS hX hC hR h H locs hP hD hS ls (lv_sub hl [0, 1, 2] rfl)
    · replace h := if_some q6 h
      refine lv_iload_n hx hb dX7_setMark_11 rfl (lv_at hl 2 rfl) ?_
      refine lv_iconst (v := 1) hx hb dX7_setMark_12 (by decide) ?_
      refine lv_icmp_ne (tgt := 20) hx hb dX7_setMark_13 (by decide) (fun q8 => ?_) (fun q8 => ?_)
      · replace h := if_some q8 h
        refine lv_iconst (v := 0) hx hb dX7_setMark_20 (by decide) ?_
        by_cases q9 : (0 : Int32) = 0
        · cases it_some q9 h
        replace h := if_some q9 h
        refine cS_v (As := [.int (0 : Int32)]) (rest := []) (wc := []) (wc' := []) hx hb hml hown hg hK hP hD hS hA hl.1 (k_X7_requireArgument l D cI cS cL (0 : Int32) q9) gs_X7_requireArgument gw_397 ⟨rfl, rfl, by decide, by decide⟩ ⟨Nat.zero_le _, Nat.zero_le _⟩ [] rfl rfl rfl rfl rfl (Nat.le_of_ble_eq_true rfl) dX7_setMark_21 (fun H locs hP hD hS => ?_)
        have hP : va_P D vwCl (wX7 cI cS hh vCar vGoa vEag tN tF cN cF mP mS kCap kGap kCar kCop kGro kShr bN bF rCmd rLet rNum fCap fGap fCar fCop fGro fShr hX hC hR) H := hP
        have hD : va_D A (wX7 cI cS hh vCar vGoa vEag tN tF cN cF mP mS kCap kGap kCar kCop kGro kShr bN bF rCmd rLet rNum fCap fGap fCar fCop fGro fShr hX hC hR) := hD
        replace h := map_inl h
        exact c_24 mP mS hX hC hR h H locs hP hD hS ls (lv_sub hl [0, 1, 2] rfl)
      · replace h := it_some q8 h
        refine lv_iconst (v := 1) hx hb dX7_setMark_16 (by decide) ?_
        refine lv_goto (tgt := 21) hx hb dX7_setMark_17 (by decide) ?_
        by_cases q10 : (1 : Int32) = 0
        · cases it_some q10 h
        replace h := if_some q10 h
        refine cS_v (As := [.int (1 : Int32)]) (rest := []) (wc := []) (wc' := []) hx hb hml hown hg hK hP hD hS hA hl.1 (k_X7_requireArgument l D cI cS cL (1 : Int32) q10) gs_X7_requireArgument gw_397 ⟨rfl, rfl, by decide, by decide⟩ ⟨Nat.zero_le _, Nat.zero_le _⟩ [] rfl rfl rfl rfl rfl (Nat.le_of_ble_eq_true rfl) dX7_setMark_21 (fun H locs hP hD hS => ?_)
        have hP : va_P D vwCl (wX7 cI cS hh vCar vGoa vEag tN tF cN cF mP mS kCap kGap kCar kCop kGro kShr bN bF rCmd rLet rNum fCap fGap fCar fCop fGro fShr hX hC hR) H := hP
        have hD : va_D A (wX7 cI cS hh vCar vGoa vEag tN tF cN cF mP mS kCap kGap kCar kCop kGro kShr bN bF rCmd rLet rNum fCap fGap fCar fCop fGro fShr hX hC hR) := hD
        replace h := map_inl h
        exact c_24 mP mS hX hC hR h H locs hP hD hS ls (lv_sub hl [0, 1, 2] rfl)
  exact hmain _ _ hP hS
abbrev rm_X7_copy : Room := { frames := 5, cells := 0, slots := 0, locals := 107 }
def f_X7_copy_c26 (Z : Nat) (p1 : Int32) (vCar : Int32) (vGoa : Int32) (vEag : Int32) (tN : Int32) (tF : Nat → Int32) (mP : Nat → Int32) (mS : Nat → Int32) (kCap : Int32) (kGap : Int32) (kCar : Int32) (kCop : Int32) (kGro : Int32) (kShr : Int32) (cN : Int32) (cF : Nat → Int32) (hX : Int32) (hC : Int32) (hR : Nat → StT) : Option (Int32 × Int32 × (Nat → Int32) × Int32 × Int32 × (Nat → StT)) :=
    (f_X2_save Z hX hC hR vCar vGoa vEag tN tF cN cF mP mS kCap kGap kCar kCop kGro kShr).bind fun (hX_1, hC_1, hR_1) =>
    (f_X6_copyRegion Z p1 vCar tN tF cN cF mP).bind fun (cN_2, cF_2) =>
    (f_X0_size Z 60 cN_2).bind fun r3 =>
    some (r3, cN_2, cF_2, hX_1, hC_1, hR_1)
def f_X7_copy (Z : Nat) (p1 : Int32) (vCar : Int32) (vGoa : Int32) (vEag : Int32) (tN : Int32) (tF : Nat → Int32) (cN : Int32) (cF : Nat → Int32) (mP : Nat → Int32) (mS : Nat → Int32) (kCap : Int32) (kGap : Int32) (kCar : Int32) (kCop : Int32) (kGro : Int32) (kShr : Int32) (hX : Int32) (hC : Int32) (hR : Nat → StT) : Option ((Int32 × Int32 × (Nat → Int32) × Int32 × Int32 × (Nat → StT)) ⊕ String) :=
  (f_X7_isMark Z p1).bind fun r4 =>
  if r4 = 0 then
    some (.inr "java/lang/IndexOutOfBoundsException")
  else
  (f_X6_regionFault Z p1 vCar mP).bind fun r6 =>
  if r6 = 0 then
    if (1 : Int32) = 0 then
      some (.inr "java/lang/IllegalStateException")
    else
    (f_X7_copy_c26 Z p1 vCar vGoa vEag tN tF mP mS kCap kGap kCar kCop kGro kShr cN cF hX hC hR).map Sum.inl
  else
    if (0 : Int32) = 0 then
      some (.inr "java/lang/IllegalStateException")
    else
    (f_X7_copy_c26 Z p1 vCar vGoa vEag tN tF mP mS kCap kGap kCar kCop kGro kShr cN cF hX hC hR).map Sum.inl
set_option maxRecDepth 100000 in
set_option maxHeartbeats 4000000 in
theorem k_X7_copy (l : Launch) (D : va_G) (cI cS cL : ClassId) (Z : Nat) (hh : Nat → Nat) (p1 : Int32) (vCar : Int32) (vGoa : Int32) (vEag : Int32) (tN : Int32) (tF : Nat → Int32) (cN : Int32) (cF : Nat → Int32) (mP : Nat → Int32) (mS : Nat → Int32) (kCap : Int32) (kGap : Int32) (kCar : Int32) (kCop : Int32) (kGro : Int32) (kShr : Int32) (bN : Int32) (bF : Nat → Int32) (rCmd : Int32) (rLet : Int32) (rNum : Int32) (fCap : Int32) (fGap : Int32) (fCar : Int32) (fCop : Int32) (fGro : Int32) (fShr : Int32) (hX : Int32) (hC : Int32) (hR : Nat → StT) {r : Int32} {cN' : Int32} {cF' : Nat → Int32} {hX' : Int32} {hC' : Int32} {hR' : Nat → StT} (h : f_X7_copy Z p1 vCar vGoa vEag tN tF cN cF mP mS kCap kGap kCar kCop kGro kShr hX hC hR = some (.inl (r, cN', cF', hX', hC', hR'))) : CI l yX7_copy cX7_copy 2 (some .int) rm_X7_copy D cI cS cL [.ref (hh 0), .int p1] (wX7 cI cS hh vCar vGoa vEag tN tF cN cF mP mS kCap kGap kCar kCop kGro kShr bN bF rCmd rLet rNum fCap fGap fCar fCop fGro fShr hX hC hR) (wX7 cI cS hh vCar vGoa vEag tN tF (cN') (cF') mP mS kCap kGap kCar kCop kGro kShr bN bF rCmd rLet rNum fCap fGap fCar fCop fGro fShr (hX') (hC') (hR')) r := by
  refine ent_i (by decide +kernel) (Nat.le_of_ble_eq_true rfl) ?_
  intro p e s m args below meth c A ls hx hb hr hml hlocks hg hown hK hP hD hS hA hl
  have hown : s.vm.findClass RX7 = some m.cls := hown
  have c_26 : ∀ (cN : Int32) (cF : Nat → Int32) (hX : Int32) (hC : Int32) (hR : Nat → StT), f_X7_copy_c26 Z p1 vCar vGoa vEag tN tF mP mS kCap kGap kCar kCop kGro kShr cN cF hX hC hR = some (r, cN', cF', hX', hC', hR') → ∀ (H : Heap) (locs : List Loc), va_P D vwCl (wX7 cI cS hh vCar vGoa vEag tN tF cN cF mP mS kCap kGap kCar kCop kGro kShr bN bF rCmd rLet rNum fCap fGap fCar fCop fGro fShr hX hC hR) H → va_D A (wX7 cI cS hh vCar vGoa vEag tN tF cN cF mP mS kCap kGap kCar kCop kGro kShr bN bF rCmd rLet rNum fCap fGap fCar fCop fGro fShr hX hC hR) → va_S A s.heap H locs → ∀ ls : Array Slot, lv_has ls 2 [(0, .ref (hh 0)), (1, .int p1)] → W p l e rm_X7_copy s m args below meth c H locs 0 0 (FI D below args s (wX7 cI cS hh vCar vGoa vEag tN tF (cN') (cF') mP mS kCap kGap kCar kCop kGro kShr bN bF rCmd rLet rNum fCap fGap fCar fCop fGro fShr (hX') (hC') (hR')) r A) (F0 m 26 ls []) := by
    intro cN cF hX hC hR h H locs hP hD hS ls hl
    unfold f_X7_copy_c26 at h
    refine lv_aload_n hx hb dX7_copy_26 rfl (lv_at hl 0 rfl) ?_
    refine va_get (D := D) (ci := 7) (v := .ref (hh 15)) (C := RX7) (T := TX7) (N := 4) hx hb hg uX7 hown hK.1 hP 0 rfl rfl 1 (by decide) (hg _ gw_185) (fun _ h9 => h9) rfl dX7_copy_27 ?_
    refine lv_aload_n hx hb dX7_copy_30 rfl (lv_at hl 0 rfl) ?_
    refine va_get (D := D) (ci := 7) (v := .ref (hh 1)) (C := RX7) (T := TX7) (N := 4) hx hb hg uX7 hown hK.1 hP 0 rfl rfl 0 (by decide) (hg _ gw_184) (fun _ h9 => h9) rfl dX7_copy_31 ?_
    obtain ⟨⟨hX_1, hC_1, hR_1⟩, ec1, h⟩ := bd_some h
    refine cP_v (As := [.ref (hh 1)]) (rest := []) (wc := (wX2t cI cS (fun i => hh (15 + i)) hX hC hR (wX6 cI (hh 1) (hh 2) (hh 3) (hh 4) (hh 5) (hh 6) (hh 7) (hh 8) (hh 9) vCar vGoa vEag tN tF cN cF mP mS kCap kGap kCar kCop kGro kShr))) (wc' := (wX2t cI cS (fun i => hh (15 + i)) hX_1 hC_1 hR_1 (wX6 cI (hh 1) (hh 2) (hh 3) (hh 4) (hh 5) (hh 6) (hh 7) (hh 8) (hh 9) vCar vGoa vEag tN tF cN cF mP mS kCap kGap kCar kCop kGro kShr))) (ws' := (wX7 cI cS hh vCar vGoa vEag tN tF cN cF mP mS kCap kGap kCar kCop kGro kShr bN bF rCmd rLet rNum fCap fGap fCar fCop fGro fShr hX_1 hC_1 hR_1)) hx hb hml hown hg hK hP hD hS hA hl.1 (k_X2_save l D cI cS cL Z (fun i => hh (15 + i)) (hh 1) (hh 2) (hh 3) (hh 4) (hh 5) (hh 6) (hh 7) (hh 8) (hh 9) hX hC hR vCar vGoa vEag tN tF cN cF mP mS kCap kGap kCar kCop kGro kShr ec1) gm_X2_save gw_419 ⟨rfl, rfl, by decide, by decide⟩ ⟨Nat.zero_le _, Nat.zero_le _⟩ pm_7 pm_7 fst_X2t rfl rfl rfl rfl rfl (Nat.le_of_ble_eq_true rfl) dX7_copy_34 (fun H locs hP hD hS => ?_)
    refine lv_aload_n hx hb dX7_copy_37 rfl (lv_at hl 0 rfl) ?_
    refine va_get (D := D) (ci := 7) (v := .ref (hh 1)) (C := RX7) (T := TX7) (N := 4) hx hb hg uX7 hown hK.1 hP 0 rfl rfl 0 (by decide) (hg _ gw_184) (fun _ h9 => h9) rfl dX7_copy_38 ?_
    refine lv_iload_n hx hb dX7_copy_41 rfl (lv_at hl 1 rfl) ?_
    obtain ⟨⟨cN_2, cF_2⟩, ec2, h⟩ := bd_some h
    refine cV_v (As := [.int p1]) (rest := []) (wc := (wX6 cI (hh 1) (hh 2) (hh 3) (hh 4) (hh 5) (hh 6) (hh 7) (hh 8) (hh 9) vCar vGoa vEag tN tF cN cF mP mS kCap kGap kCar kCop kGro kShr)) (wc' := (wX6 cI (hh 1) (hh 2) (hh 3) (hh 4) (hh 5) (hh 6) (hh 7) (hh 8) (hh 9) vCar vGoa vEag tN tF cN_2 cF_2 mP mS kCap kGap kCar kCop kGro kShr)) hx hb hml hown hg hK hP hD hS hA hl.1 (k_X6_copyRegion l D cI cS cL Z (hh 1) (hh 2) (hh 3) (hh 4) (hh 5) (hh 6) (hh 7) (hh 8) (hh 9) p1 vCar vGoa vEag tN tF cN cF mP mS kCap kGap kCar kCop kGro kShr ec2) gm_X6_copyRegion gw_574 ⟨rfl, rfl, by decide, by decide⟩ ⟨Nat.zero_le _, Nat.zero_le _⟩ [1, 2, 3, 4, 5, 6, 7, 8, 9] rfl rfl rfl rfl rfl rfl rfl rfl (Nat.le_of_ble_eq_true rfl) dX7_copy_42 (fun H locs hP hD hS => ?_)
    have hP : va_P D vwCl (wX7 cI cS hh vCar vGoa vEag tN tF cN_2 cF_2 mP mS kCap kGap kCar kCop kGro kShr bN bF rCmd rLet rNum fCap fGap fCar fCop fGro fShr hX_1 hC_1 hR_1) H := hP
    have hD : va_D A (wX7 cI cS hh vCar vGoa vEag tN tF cN_2 cF_2 mP mS kCap kGap kCar kCop kGro kShr bN bF rCmd rLet rNum fCap fGap fCar fCop fGro fShr hX_1 hC_1 hR_1) := hD
    refine lv_aload_n hx hb dX7_copy_45 rfl (lv_at hl 0 rfl) ?_
    refine va_get (D := D) (ci := 7) (v := .ref (hh 1)) (C := RX7) (T := TX7) (N := 4) hx hb hg uX7 hown hK.1 hP 0 rfl rfl 0 (by decide) (hg _ gw_184) (fun _ h9 => h9) rfl dX7_copy_46 ?_
    refine va_getN (D := D) (ci := 6) (v := .ref (hh 4)) (C := RX6) (T := TX6) (N := 7) hx hb hg uX6 hown hK.1 hP 1 rfl rfl 1 (by decide) (kk_nest hK nw_107) (fun _ h9 => h9) rfl dX7_copy_49 ?_
    obtain ⟨r3, ec3, h⟩ := bd_some h
    refine cV_i (As := []) (rest := []) (wc := (wX0 cI (hh 4) (hh 5) 60 cN_2 cF_2)) (wc' := (wX0 cI (hh 4) (hh 5) 60 cN_2 cF_2)) hx hb hml hown hg hK hP hD hS hA hl.1 (k_X0_size l D cI cS cL Z (hh 4) (hh 5) 60 cN_2 cF_2 ec3) gm_X0_size gw_361 ⟨rfl, rfl, by decide, by decide⟩ ⟨Nat.zero_le _, Nat.zero_le _⟩ [4, 5] rfl rfl rfl rfl rfl rfl rfl rfl (Nat.le_of_ble_eq_true rfl) dX7_copy_52 (fun H locs hP hD hS => ?_)
    have hP : va_P D vwCl (wX7 cI cS hh vCar vGoa vEag tN tF cN_2 cF_2 mP mS kCap kGap kCar kCop kGro kShr bN bF rCmd rLet rNum fCap fGap fCar fCop fGro fShr hX_1 hC_1 hR_1) H := hP
    have hD : va_D A (wX7 cI cS hh vCar vGoa vEag tN tF cN_2 cF_2 mP mS kCap kGap kCar kCop kGro kShr bN bF rCmd rLet rNum fCap fGap fCar fCop fGro fShr hX_1 hC_1 hR_1) := hD
    cases h
    exact ret_i hx hb hr hlocks hP hD hS dX7_copy_55 rfl
  have hl : lv_has ls 2 [(0, .ref (hh 0)), (1, .int p1)] := hl
  have hP : va_P D vwCl (wX7 cI cS hh vCar vGoa vEag tN tF cN cF mP mS kCap kGap kCar kCop kGro kShr bN bF rCmd rLet rNum fCap fGap fCar fCop fGro fShr hX hC hR) s.heap := hP
  have hD : va_D A (wX7 cI cS hh vCar vGoa vEag tN tF cN cF mP mS kCap kGap kCar kCop kGro kShr bN bF rCmd rLet rNum fCap fGap fCar fCop fGro fShr hX hC hR) := hD
  show W p l e rm_X7_copy s m args below meth c s.heap [] 0 0 (FI D below args s (wX7 cI cS hh vCar vGoa vEag tN tF (cN') (cF') mP mS kCap kGap kCar kCop kGro kShr bN bF rCmd rLet rNum fCap fGap fCar fCop fGro fShr (hX') (hC') (hR')) r A) (F0 m 0 ls [])
  unfold f_X7_copy at h
  have hmain : ∀ (H : Heap) (locs : List Loc), va_P D vwCl (wX7 cI cS hh vCar vGoa vEag tN tF cN cF mP mS kCap kGap kCar kCop kGro kShr bN bF rCmd rLet rNum fCap fGap fCar fCop fGro fShr hX hC hR) H → va_S A s.heap H locs → W p l e rm_X7_copy s m args below meth c H locs 0 0 (FI D below args s (wX7 cI cS hh vCar vGoa vEag tN tF (cN') (cF') mP mS kCap kGap kCar kCop kGro kShr bN bF rCmd rLet rNum fCap fGap fCar fCop fGro fShr (hX') (hC') (hR')) r A) (F0 m 0 ls []) := by
    intro H locs hP hS
    refine lv_iload_n hx hb dX7_copy_0 rfl (lv_at hl 1 rfl) ?_
    obtain ⟨r4, ec4, h⟩ := bd_some h
    refine cS_i (As := [.int p1]) (rest := []) (wc := []) (wc' := []) hx hb hml hown hg hK hP hD hS hA hl.1 (k_X7_isMark l D cI cS cL Z p1 ec4) gs_X7_isMark gw_366 ⟨rfl, rfl, by decide, by decide⟩ ⟨Nat.zero_le _, Nat.zero_le _⟩ [] rfl rfl rfl rfl rfl (Nat.le_of_ble_eq_true rfl) dX7_copy_1 (fun H locs hP hD hS => ?_)
    have hP : va_P D vwCl (wX7 cI cS hh vCar vGoa vEag tN tF cN cF mP mS kCap kGap kCar kCop kGro kShr bN bF rCmd rLet rNum fCap fGap fCar fCop fGro fShr hX hC hR) H := hP
    have hD : va_D A (wX7 cI cS hh vCar vGoa vEag tN tF cN cF mP mS kCap kGap kCar kCop kGro kShr bN bF rCmd rLet rNum fCap fGap fCar fCop fGro fShr hX hC hR) := hD
    by_cases q5 : r4 = 0
    · cases it_some q5 h
    replace h := if_some q5 h
    refine cS_v (As := [.int r4]) (rest := []) (wc := []) (wc' := []) hx hb hml hown hg hK hP hD hS hA hl.1 (k_X7_requireIndex l D cI cS cL r4 q5) gs_X7_requireIndex gw_367 ⟨rfl, rfl, by decide, by decide⟩ ⟨Nat.zero_le _, Nat.zero_le _⟩ [] rfl rfl rfl rfl rfl (Nat.le_of_ble_eq_true rfl) dX7_copy_4 (fun H locs hP hD hS => ?_)
    have hP : va_P D vwCl (wX7 cI cS hh vCar vGoa vEag tN tF cN cF mP mS kCap kGap kCar kCop kGro kShr bN bF rCmd rLet rNum fCap fGap fCar fCop fGro fShr hX hC hR) H := hP
    have hD : va_D A (wX7 cI cS hh vCar vGoa vEag tN tF cN cF mP mS kCap kGap kCar kCop kGro kShr bN bF rCmd rLet rNum fCap fGap fCar fCop fGro fShr hX hC hR) := hD
    refine lv_aload_n hx hb dX7_copy_7 rfl (lv_at hl 0 rfl) ?_
    refine va_get (D := D) (ci := 7) (v := .ref (hh 1)) (C := RX7) (T := TX7) (N := 4) hx hb hg uX7 hown hK.1 hP 0 rfl rfl 0 (by decide) (hg _ gw_184) (fun _ h9 => h9) rfl dX7_copy_8 ?_
    refine lv_iload_n hx hb dX7_copy_11 rfl (lv_at hl 1 rfl) ?_
    obtain ⟨r6, ec6, h⟩ := bd_some h
    refine cV_i (As := [.int p1]) (rest := []) (wc := (wX6 cI (hh 1) (hh 2) (hh 3) (hh 4) (hh 5) (hh 6) (hh 7) (hh 8) (hh 9) vCar vGoa vEag tN tF cN cF mP mS kCap kGap kCar kCop kGro kShr)) (wc' := (wX6 cI (hh 1) (hh 2) (hh 3) (hh 4) (hh 5) (hh 6) (hh 7) (hh 8) (hh 9) vCar vGoa vEag tN tF cN cF mP mS kCap kGap kCar kCop kGro kShr)) hx hb hml hown hg hK hP hD hS hA hl.1 (k_X6_regionFault l D cI cS cL Z (hh 1) (hh 2) (hh 3) (hh 4) (hh 5) (hh 6) (hh 7) (hh 8) (hh 9) p1 vCar vGoa vEag tN tF cN cF mP mS kCap kGap kCar kCop kGro kShr ec6) gm_X6_regionFault gw_569 ⟨rfl, rfl, by decide, by decide⟩ ⟨Nat.zero_le _, Nat.zero_le _⟩ [1, 2, 3, 4, 5, 6, 7, 8, 9] rfl rfl rfl rfl rfl rfl rfl rfl (Nat.le_of_ble_eq_true rfl) dX7_copy_12 (fun H locs hP hD hS => ?_)
    have hP : va_P D vwCl (wX7 cI cS hh vCar vGoa vEag tN tF cN cF mP mS kCap kGap kCar kCop kGro kShr bN bF rCmd rLet rNum fCap fGap fCar fCop fGro fShr hX hC hR) H := hP
    have hD : va_D A (wX7 cI cS hh vCar vGoa vEag tN tF cN cF mP mS kCap kGap kCar kCop kGro kShr bN bF rCmd rLet rNum fCap fGap fCar fCop fGro fShr hX hC hR) := hD
    refine lv_if_ne (tgt := 22) hx hb dX7_copy_15 (by decide) (fun q7 => ?_) (fun q7 => ?_)
    · replace h := if_some q7 h
      refine lv_iconst (v := 0) hx hb dX7_copy_22 (by decide) ?_
      by_cases q8 : (0 : Int32) = 0
      · cases it_some q8 h
      replace h := if_some q8 h
      refine cS_v (As := [.int (0 : Int32)]) (rest := []) (wc := []) (wc' := []) hx hb hml hown hg hK hP hD hS hA hl.1 (k_X7_requireState l D cI cS cL (0 : Int32) q8) gs_X7_requireState gw_205 ⟨rfl, rfl, by decide, by decide⟩ ⟨Nat.zero_le _, Nat.zero_le _⟩ [] rfl rfl rfl rfl rfl (Nat.le_of_ble_eq_true rfl) dX7_copy_23 (fun H locs hP hD hS => ?_)
      have hP : va_P D vwCl (wX7 cI cS hh vCar vGoa vEag tN tF cN cF mP mS kCap kGap kCar kCop kGro kShr bN bF rCmd rLet rNum fCap fGap fCar fCop fGro fShr hX hC hR) H := hP
      have hD : va_D A (wX7 cI cS hh vCar vGoa vEag tN tF cN cF mP mS kCap kGap kCar kCop kGro kShr bN bF rCmd rLet rNum fCap fGap fCar fCop fGro fShr hX hC hR) := hD
      replace h := map_inl h
      exact c_26 cN cF hX hC hR h H locs hP hD hS ls (lv_sub hl [0, 1] rfl)
    · replace h := it_some q7 h
      refine lv_iconst (v := 1) hx hb dX7_copy_18 (by decide) ?_
      refine lv_goto (tgt := 23) hx hb dX7_copy_19 (by decide) ?_
      by_cases q9 : (1 : Int32) = 0
      · cases it_some q9 h
      replace h := if_some q9 h
      refine cS_v (As := [.int (1 : Int32)]) (rest := []) (wc := []) (wc' := []) hx hb hml hown hg hK hP hD hS hA hl.1 (k_X7_requireState l D cI cS cL (1 : Int32) q9) gs_X7_requireState gw_205 ⟨rfl, rfl, by decide, by decide⟩ ⟨Nat.zero_le _, Nat.zero_le _⟩ [] rfl rfl rfl rfl rfl (Nat.le_of_ble_eq_true rfl) dX7_copy_23 (fun H locs hP hD hS => ?_)
      have hP : va_P D vwCl (wX7 cI cS hh vCar vGoa vEag tN tF cN cF mP mS kCap kGap kCar kCop kGro kShr bN bF rCmd rLet rNum fCap fGap fCar fCop fGro fShr hX hC hR) H := hP
      have hD : va_D A (wX7 cI cS hh vCar vGoa vEag tN tF cN cF mP mS kCap kGap kCar kCop kGro kShr bN bF rCmd rLet rNum fCap fGap fCar fCop fGro fShr hX hC hR) := hD
      replace h := map_inl h
      exact c_26 cN cF hX hC hR h H locs hP hD hS ls (lv_sub hl [0, 1] rfl)
  exact hmain _ _ hP hS
abbrev rm_X7_cut : Room := { frames := 5, cells := 0, slots := 0, locals := 110 }
def f_X7_cut_c26 (Z : Nat) (p1 : Int32) (vEag : Int32) (mS : Nat → Int32) (kGro : Int32) (vCar : Int32) (vGoa : Int32) (tN : Int32) (tF : Nat → Int32) (cN : Int32) (cF : Nat → Int32) (mP : Nat → Int32) (kCap : Int32) (kGap : Int32) (kCar : Int32) (kCop : Int32) (kShr : Int32) (hX : Int32) (hC : Int32) (hR : Nat → StT) : Option (Int32 × Int32 × Int32 × Int32 × (Nat → Int32) × Int32 × (Nat → Int32) × (Nat → Int32) × Int32 × Int32 × Int32 × Int32 × Int32 × Int32 × Int32 × (Nat → StT)) :=
    (f_X2_save Z hX hC hR vCar vGoa vEag tN tF cN cF mP mS kCap kGap kCar kCop kGro kShr).bind fun (hX_1, hC_1, hR_1) =>
    (f_X6_cutRegion Z p1 vCar vGoa tN tF cN cF mP kCap kGap kCar kCop kShr).bind fun (vCar_2, vGoa_2, tN_2, tF_2, cN_2, cF_2, mP_2, kCap_2, kGap_2, kCar_2, kCop_2, kShr_2) =>
    (f_X0_size Z 60 cN_2).bind fun r3 =>
    some (r3, vCar_2, vGoa_2, tN_2, tF_2, cN_2, cF_2, mP_2, kCap_2, kGap_2, kCar_2, kCop_2, kShr_2, hX_1, hC_1, hR_1)
def f_X7_cut (Z : Nat) (p1 : Int32) (vCar : Int32) (vGoa : Int32) (vEag : Int32) (tN : Int32) (tF : Nat → Int32) (cN : Int32) (cF : Nat → Int32) (mP : Nat → Int32) (mS : Nat → Int32) (kCap : Int32) (kGap : Int32) (kCar : Int32) (kCop : Int32) (kGro : Int32) (kShr : Int32) (hX : Int32) (hC : Int32) (hR : Nat → StT) : Option ((Int32 × Int32 × Int32 × Int32 × (Nat → Int32) × Int32 × (Nat → Int32) × (Nat → Int32) × Int32 × Int32 × Int32 × Int32 × Int32 × Int32 × Int32 × (Nat → StT)) ⊕ String) :=
  (f_X7_isMark Z p1).bind fun r4 =>
  if r4 = 0 then
    some (.inr "java/lang/IndexOutOfBoundsException")
  else
  (f_X6_regionFault Z p1 vCar mP).bind fun r6 =>
  if r6 = 0 then
    if (1 : Int32) = 0 then
      some (.inr "java/lang/IllegalStateException")
    else
    (f_X7_cut_c26 Z p1 vEag mS kGro vCar vGoa tN tF cN cF mP kCap kGap kCar kCop kShr hX hC hR).map Sum.inl
  else
    if (0 : Int32) = 0 then
      some (.inr "java/lang/IllegalStateException")
    else
    (f_X7_cut_c26 Z p1 vEag mS kGro vCar vGoa tN tF cN cF mP kCap kGap kCar kCop kShr hX hC hR).map Sum.inl
set_option maxRecDepth 100000 in
set_option maxHeartbeats 4000000 in
theorem k_X7_cut (l : Launch) (D : va_G) (cI cS cL : ClassId) (Z : Nat) (hh : Nat → Nat) (p1 : Int32) (vCar : Int32) (vGoa : Int32) (vEag : Int32) (tN : Int32) (tF : Nat → Int32) (cN : Int32) (cF : Nat → Int32) (mP : Nat → Int32) (mS : Nat → Int32) (kCap : Int32) (kGap : Int32) (kCar : Int32) (kCop : Int32) (kGro : Int32) (kShr : Int32) (bN : Int32) (bF : Nat → Int32) (rCmd : Int32) (rLet : Int32) (rNum : Int32) (fCap : Int32) (fGap : Int32) (fCar : Int32) (fCop : Int32) (fGro : Int32) (fShr : Int32) (hX : Int32) (hC : Int32) (hR : Nat → StT) {r : Int32} {vCar' : Int32} {vGoa' : Int32} {tN' : Int32} {tF' : Nat → Int32} {cN' : Int32} {cF' : Nat → Int32} {mP' : Nat → Int32} {kCap' : Int32} {kGap' : Int32} {kCar' : Int32} {kCop' : Int32} {kShr' : Int32} {hX' : Int32} {hC' : Int32} {hR' : Nat → StT} (h : f_X7_cut Z p1 vCar vGoa vEag tN tF cN cF mP mS kCap kGap kCar kCop kGro kShr hX hC hR = some (.inl (r, vCar', vGoa', tN', tF', cN', cF', mP', kCap', kGap', kCar', kCop', kShr', hX', hC', hR'))) : CI l yX7_cut cX7_cut 2 (some .int) rm_X7_cut D cI cS cL [.ref (hh 0), .int p1] (wX7 cI cS hh vCar vGoa vEag tN tF cN cF mP mS kCap kGap kCar kCop kGro kShr bN bF rCmd rLet rNum fCap fGap fCar fCop fGro fShr hX hC hR) (wX7 cI cS hh (vCar') (vGoa') vEag (tN') (tF') (cN') (cF') (mP') mS (kCap') (kGap') (kCar') (kCop') kGro (kShr') bN bF rCmd rLet rNum fCap fGap fCar fCop fGro fShr (hX') (hC') (hR')) r := by
  refine ent_i (by decide +kernel) (Nat.le_of_ble_eq_true rfl) ?_
  intro p e s m args below meth c A ls hx hb hr hml hlocks hg hown hK hP hD hS hA hl
  have hown : s.vm.findClass RX7 = some m.cls := hown
  have c_26 : ∀ (vCar : Int32) (vGoa : Int32) (tN : Int32) (tF : Nat → Int32) (cN : Int32) (cF : Nat → Int32) (mP : Nat → Int32) (kCap : Int32) (kGap : Int32) (kCar : Int32) (kCop : Int32) (kShr : Int32) (hX : Int32) (hC : Int32) (hR : Nat → StT), f_X7_cut_c26 Z p1 vEag mS kGro vCar vGoa tN tF cN cF mP kCap kGap kCar kCop kShr hX hC hR = some (r, vCar', vGoa', tN', tF', cN', cF', mP', kCap', kGap', kCar', kCop', kShr', hX', hC', hR') → ∀ (H : Heap) (locs : List Loc), va_P D vwCl (wX7 cI cS hh vCar vGoa vEag tN tF cN cF mP mS kCap kGap kCar kCop kGro kShr bN bF rCmd rLet rNum fCap fGap fCar fCop fGro fShr hX hC hR) H → va_D A (wX7 cI cS hh vCar vGoa vEag tN tF cN cF mP mS kCap kGap kCar kCop kGro kShr bN bF rCmd rLet rNum fCap fGap fCar fCop fGro fShr hX hC hR) → va_S A s.heap H locs → ∀ ls : Array Slot, lv_has ls 2 [(0, .ref (hh 0)), (1, .int p1)] → W p l e rm_X7_cut s m args below meth c H locs 0 0 (FI D below args s (wX7 cI cS hh (vCar') (vGoa') vEag (tN') (tF') (cN') (cF') (mP') mS (kCap') (kGap') (kCar') (kCop') kGro (kShr') bN bF rCmd rLet rNum fCap fGap fCar fCop fGro fShr (hX') (hC') (hR')) r A) (F0 m 26 ls []) := by
    intro vCar vGoa tN tF cN cF mP kCap kGap kCar kCop kShr hX hC hR h H locs hP hD hS ls hl
    unfold f_X7_cut_c26 at h
    refine lv_aload_n hx hb dX7_cut_26 rfl (lv_at hl 0 rfl) ?_
    refine va_get (D := D) (ci := 7) (v := .ref (hh 15)) (C := RX7) (T := TX7) (N := 4) hx hb hg uX7 hown hK.1 hP 0 rfl rfl 1 (by decide) (hg _ gw_185) (fun _ h9 => h9) rfl dX7_cut_27 ?_
    refine lv_aload_n hx hb dX7_cut_30 rfl (lv_at hl 0 rfl) ?_
    refine va_get (D := D) (ci := 7) (v := .ref (hh 1)) (C := RX7) (T := TX7) (N := 4) hx hb hg uX7 hown hK.1 hP 0 rfl rfl 0 (by decide) (hg _ gw_184) (fun _ h9 => h9) rfl dX7_cut_31 ?_
    obtain ⟨⟨hX_1, hC_1, hR_1⟩, ec1, h⟩ := bd_some h
    refine cP_v (As := [.ref (hh 1)]) (rest := []) (wc := (wX2t cI cS (fun i => hh (15 + i)) hX hC hR (wX6 cI (hh 1) (hh 2) (hh 3) (hh 4) (hh 5) (hh 6) (hh 7) (hh 8) (hh 9) vCar vGoa vEag tN tF cN cF mP mS kCap kGap kCar kCop kGro kShr))) (wc' := (wX2t cI cS (fun i => hh (15 + i)) hX_1 hC_1 hR_1 (wX6 cI (hh 1) (hh 2) (hh 3) (hh 4) (hh 5) (hh 6) (hh 7) (hh 8) (hh 9) vCar vGoa vEag tN tF cN cF mP mS kCap kGap kCar kCop kGro kShr))) (ws' := (wX7 cI cS hh vCar vGoa vEag tN tF cN cF mP mS kCap kGap kCar kCop kGro kShr bN bF rCmd rLet rNum fCap fGap fCar fCop fGro fShr hX_1 hC_1 hR_1)) hx hb hml hown hg hK hP hD hS hA hl.1 (k_X2_save l D cI cS cL Z (fun i => hh (15 + i)) (hh 1) (hh 2) (hh 3) (hh 4) (hh 5) (hh 6) (hh 7) (hh 8) (hh 9) hX hC hR vCar vGoa vEag tN tF cN cF mP mS kCap kGap kCar kCop kGro kShr ec1) gm_X2_save gw_419 ⟨rfl, rfl, by decide, by decide⟩ ⟨Nat.zero_le _, Nat.zero_le _⟩ pm_7 pm_7 fst_X2t rfl rfl rfl rfl rfl (Nat.le_of_ble_eq_true rfl) dX7_cut_34 (fun H locs hP hD hS => ?_)
    refine lv_aload_n hx hb dX7_cut_37 rfl (lv_at hl 0 rfl) ?_
    refine va_get (D := D) (ci := 7) (v := .ref (hh 1)) (C := RX7) (T := TX7) (N := 4) hx hb hg uX7 hown hK.1 hP 0 rfl rfl 0 (by decide) (hg _ gw_184) (fun _ h9 => h9) rfl dX7_cut_38 ?_
    refine lv_iload_n hx hb dX7_cut_41 rfl (lv_at hl 1 rfl) ?_
    obtain ⟨⟨vCar_2, vGoa_2, tN_2, tF_2, cN_2, cF_2, mP_2, kCap_2, kGap_2, kCar_2, kCop_2, kShr_2⟩, ec2, h⟩ := bd_some h
    refine cV_v (As := [.int p1]) (rest := []) (wc := (wX6 cI (hh 1) (hh 2) (hh 3) (hh 4) (hh 5) (hh 6) (hh 7) (hh 8) (hh 9) vCar vGoa vEag tN tF cN cF mP mS kCap kGap kCar kCop kGro kShr)) (wc' := (wX6 cI (hh 1) (hh 2) (hh 3) (hh 4) (hh 5) (hh 6) (hh 7) (hh 8) (hh 9) vCar_2 vGoa_2 vEag tN_2 tF_2 cN_2 cF_2 mP_2 mS kCap_2 kGap_2 kCar_2 kCop_2 kGro kShr_2)) hx hb hml hown hg hK hP hD hS hA hl.1 (k_X6_cutRegion l D cI cS cL Z (hh 1) (hh 2) (hh 3) (hh 4) (hh 5) (hh 6) (hh 7) (hh 8) (hh 9) p1 vCar vGoa vEag tN tF cN cF mP mS kCap kGap kCar kCop kGro kShr ec2) gm_X6_cutRegion gw_583 ⟨rfl, rfl, by decide, by decide⟩ ⟨Nat.zero_le _, Nat.zero_le _⟩ [1, 2, 3, 4, 5, 6, 7, 8, 9] rfl rfl rfl rfl rfl rfl rfl rfl (Nat.le_of_ble_eq_true rfl) dX7_cut_42 (fun H locs hP hD hS => ?_)
    have hP : va_P D vwCl (wX7 cI cS hh vCar_2 vGoa_2 vEag tN_2 tF_2 cN_2 cF_2 mP_2 mS kCap_2 kGap_2 kCar_2 kCop_2 kGro kShr_2 bN bF rCmd rLet rNum fCap fGap fCar fCop fGro fShr hX_1 hC_1 hR_1) H := hP
    have hD : va_D A (wX7 cI cS hh vCar_2 vGoa_2 vEag tN_2 tF_2 cN_2 cF_2 mP_2 mS kCap_2 kGap_2 kCar_2 kCop_2 kGro kShr_2 bN bF rCmd rLet rNum fCap fGap fCar fCop fGro fShr hX_1 hC_1 hR_1) := hD
    refine lv_aload_n hx hb dX7_cut_45 rfl (lv_at hl 0 rfl) ?_
    refine va_get (D := D) (ci := 7) (v := .ref (hh 1)) (C := RX7) (T := TX7) (N := 4) hx hb hg uX7 hown hK.1 hP 0 rfl rfl 0 (by decide) (hg _ gw_184) (fun _ h9 => h9) rfl dX7_cut_46 ?_
    refine va_getN (D := D) (ci := 6) (v := .ref (hh 4)) (C := RX6) (T := TX6) (N := 7) hx hb hg uX6 hown hK.1 hP 1 rfl rfl 1 (by decide) (kk_nest hK nw_107) (fun _ h9 => h9) rfl dX7_cut_49 ?_
    obtain ⟨r3, ec3, h⟩ := bd_some h
    refine cV_i (As := []) (rest := []) (wc := (wX0 cI (hh 4) (hh 5) 60 cN_2 cF_2)) (wc' := (wX0 cI (hh 4) (hh 5) 60 cN_2 cF_2)) hx hb hml hown hg hK hP hD hS hA hl.1 (k_X0_size l D cI cS cL Z (hh 4) (hh 5) 60 cN_2 cF_2 ec3) gm_X0_size gw_361 ⟨rfl, rfl, by decide, by decide⟩ ⟨Nat.zero_le _, Nat.zero_le _⟩ [4, 5] rfl rfl rfl rfl rfl rfl rfl rfl (Nat.le_of_ble_eq_true rfl) dX7_cut_52 (fun H locs hP hD hS => ?_)
    have hP : va_P D vwCl (wX7 cI cS hh vCar_2 vGoa_2 vEag tN_2 tF_2 cN_2 cF_2 mP_2 mS kCap_2 kGap_2 kCar_2 kCop_2 kGro kShr_2 bN bF rCmd rLet rNum fCap fGap fCar fCop fGro fShr hX_1 hC_1 hR_1) H := hP
    have hD : va_D A (wX7 cI cS hh vCar_2 vGoa_2 vEag tN_2 tF_2 cN_2 cF_2 mP_2 mS kCap_2 kGap_2 kCar_2 kCop_2 kGro kShr_2 bN bF rCmd rLet rNum fCap fGap fCar fCop fGro fShr hX_1 hC_1 hR_1) := hD
    cases h
    exact ret_i hx hb hr hlocks hP hD hS dX7_cut_55 rfl
  have hl : lv_has ls 2 [(0, .ref (hh 0)), (1, .int p1)] := hl
  have hP : va_P D vwCl (wX7 cI cS hh vCar vGoa vEag tN tF cN cF mP mS kCap kGap kCar kCop kGro kShr bN bF rCmd rLet rNum fCap fGap fCar fCop fGro fShr hX hC hR) s.heap := hP
  have hD : va_D A (wX7 cI cS hh vCar vGoa vEag tN tF cN cF mP mS kCap kGap kCar kCop kGro kShr bN bF rCmd rLet rNum fCap fGap fCar fCop fGro fShr hX hC hR) := hD
  show W p l e rm_X7_cut s m args below meth c s.heap [] 0 0 (FI D below args s (wX7 cI cS hh (vCar') (vGoa') vEag (tN') (tF') (cN') (cF') (mP') mS (kCap') (kGap') (kCar') (kCop') kGro (kShr') bN bF rCmd rLet rNum fCap fGap fCar fCop fGro fShr (hX') (hC') (hR')) r A) (F0 m 0 ls [])
  unfold f_X7_cut at h
  have hmain : ∀ (H : Heap) (locs : List Loc), va_P D vwCl (wX7 cI cS hh vCar vGoa vEag tN tF cN cF mP mS kCap kGap kCar kCop kGro kShr bN bF rCmd rLet rNum fCap fGap fCar fCop fGro fShr hX hC hR) H → va_S A s.heap H locs → W p l e rm_X7_cut s m args below meth c H locs 0 0 (FI D below args s (wX7 cI cS hh (vCar') (vGoa') vEag (tN') (tF') (cN') (cF') (mP') mS (kCap') (kGap') (kCar') (kCop') kGro (kShr') bN bF rCmd rLet rNum fCap fGap fCar fCop fGro fShr (hX') (hC') (hR')) r A) (F0 m 0 ls []) := by
    intro H locs hP hS
    refine lv_iload_n hx hb dX7_cut_0 rfl (lv_at hl 1 rfl) ?_
    obtain ⟨r4, ec4, h⟩ := bd_some h
    refine cS_i (As := [.int p1]) (rest := []) (wc := []) (wc' := []) hx hb hml hown hg hK hP hD hS hA hl.1 (k_X7_isMark l D cI cS cL Z p1 ec4) gs_X7_isMark gw_366 ⟨rfl, rfl, by decide, by decide⟩ ⟨Nat.zero_le _, Nat.zero_le _⟩ [] rfl rfl rfl rfl rfl (Nat.le_of_ble_eq_true rfl) dX7_cut_1 (fun H locs hP hD hS => ?_)
    have hP : va_P D vwCl (wX7 cI cS hh vCar vGoa vEag tN tF cN cF mP mS kCap kGap kCar kCop kGro kShr bN bF rCmd rLet rNum fCap fGap fCar fCop fGro fShr hX hC hR) H := hP
    have hD : va_D A (wX7 cI cS hh vCar vGoa vEag tN tF cN cF mP mS kCap kGap kCar kCop kGro kShr bN bF rCmd rLet rNum fCap fGap fCar fCop fGro fShr hX hC hR) := hD
    by_cases q5 : r4 = 0
    · cases it_some q5 h
    replace h := if_some q5 h
    refine cS_v (As := [.int r4]) (rest := []) (wc := []) (wc' := []) hx hb hml hown hg hK hP hD hS hA hl.1 (k_X7_requireIndex l D cI cS cL r4 q5) gs_X7_requireIndex gw_367 ⟨rfl, rfl, by decide, by decide⟩ ⟨Nat.zero_le _, Nat.zero_le _⟩ [] rfl rfl rfl rfl rfl (Nat.le_of_ble_eq_true rfl) dX7_cut_4 (fun H locs hP hD hS => ?_)
    have hP : va_P D vwCl (wX7 cI cS hh vCar vGoa vEag tN tF cN cF mP mS kCap kGap kCar kCop kGro kShr bN bF rCmd rLet rNum fCap fGap fCar fCop fGro fShr hX hC hR) H := hP
    have hD : va_D A (wX7 cI cS hh vCar vGoa vEag tN tF cN cF mP mS kCap kGap kCar kCop kGro kShr bN bF rCmd rLet rNum fCap fGap fCar fCop fGro fShr hX hC hR) := hD
    refine lv_aload_n hx hb dX7_cut_7 rfl (lv_at hl 0 rfl) ?_
    refine va_get (D := D) (ci := 7) (v := .ref (hh 1)) (C := RX7) (T := TX7) (N := 4) hx hb hg uX7 hown hK.1 hP 0 rfl rfl 0 (by decide) (hg _ gw_184) (fun _ h9 => h9) rfl dX7_cut_8 ?_
    refine lv_iload_n hx hb dX7_cut_11 rfl (lv_at hl 1 rfl) ?_
    obtain ⟨r6, ec6, h⟩ := bd_some h
    refine cV_i (As := [.int p1]) (rest := []) (wc := (wX6 cI (hh 1) (hh 2) (hh 3) (hh 4) (hh 5) (hh 6) (hh 7) (hh 8) (hh 9) vCar vGoa vEag tN tF cN cF mP mS kCap kGap kCar kCop kGro kShr)) (wc' := (wX6 cI (hh 1) (hh 2) (hh 3) (hh 4) (hh 5) (hh 6) (hh 7) (hh 8) (hh 9) vCar vGoa vEag tN tF cN cF mP mS kCap kGap kCar kCop kGro kShr)) hx hb hml hown hg hK hP hD hS hA hl.1 (k_X6_regionFault l D cI cS cL Z (hh 1) (hh 2) (hh 3) (hh 4) (hh 5) (hh 6) (hh 7) (hh 8) (hh 9) p1 vCar vGoa vEag tN tF cN cF mP mS kCap kGap kCar kCop kGro kShr ec6) gm_X6_regionFault gw_569 ⟨rfl, rfl, by decide, by decide⟩ ⟨Nat.zero_le _, Nat.zero_le _⟩ [1, 2, 3, 4, 5, 6, 7, 8, 9] rfl rfl rfl rfl rfl rfl rfl rfl (Nat.le_of_ble_eq_true rfl) dX7_cut_12 (fun H locs hP hD hS => ?_)
    have hP : va_P D vwCl (wX7 cI cS hh vCar vGoa vEag tN tF cN cF mP mS kCap kGap kCar kCop kGro kShr bN bF rCmd rLet rNum fCap fGap fCar fCop fGro fShr hX hC hR) H := hP
    have hD : va_D A (wX7 cI cS hh vCar vGoa vEag tN tF cN cF mP mS kCap kGap kCar kCop kGro kShr bN bF rCmd rLet rNum fCap fGap fCar fCop fGro fShr hX hC hR) := hD
    refine lv_if_ne (tgt := 22) hx hb dX7_cut_15 (by decide) (fun q7 => ?_) (fun q7 => ?_)
    · replace h := if_some q7 h
      refine lv_iconst (v := 0) hx hb dX7_cut_22 (by decide) ?_
      by_cases q8 : (0 : Int32) = 0
      · cases it_some q8 h
      replace h := if_some q8 h
      refine cS_v (As := [.int (0 : Int32)]) (rest := []) (wc := []) (wc' := []) hx hb hml hown hg hK hP hD hS hA hl.1 (k_X7_requireState l D cI cS cL (0 : Int32) q8) gs_X7_requireState gw_205 ⟨rfl, rfl, by decide, by decide⟩ ⟨Nat.zero_le _, Nat.zero_le _⟩ [] rfl rfl rfl rfl rfl (Nat.le_of_ble_eq_true rfl) dX7_cut_23 (fun H locs hP hD hS => ?_)
      have hP : va_P D vwCl (wX7 cI cS hh vCar vGoa vEag tN tF cN cF mP mS kCap kGap kCar kCop kGro kShr bN bF rCmd rLet rNum fCap fGap fCar fCop fGro fShr hX hC hR) H := hP
      have hD : va_D A (wX7 cI cS hh vCar vGoa vEag tN tF cN cF mP mS kCap kGap kCar kCop kGro kShr bN bF rCmd rLet rNum fCap fGap fCar fCop fGro fShr hX hC hR) := hD
      replace h := map_inl h
      exact c_26 vCar vGoa tN tF cN cF mP kCap kGap kCar kCop kShr hX hC hR h H locs hP hD hS ls (lv_sub hl [0, 1] rfl)
    · replace h := it_some q7 h
      refine lv_iconst (v := 1) hx hb dX7_cut_18 (by decide) ?_
      refine lv_goto (tgt := 23) hx hb dX7_cut_19 (by decide) ?_
      by_cases q9 : (1 : Int32) = 0
      · cases it_some q9 h
      replace h := if_some q9 h
      refine cS_v (As := [.int (1 : Int32)]) (rest := []) (wc := []) (wc' := []) hx hb hml hown hg hK hP hD hS hA hl.1 (k_X7_requireState l D cI cS cL (1 : Int32) q9) gs_X7_requireState gw_205 ⟨rfl, rfl, by decide, by decide⟩ ⟨Nat.zero_le _, Nat.zero_le _⟩ [] rfl rfl rfl rfl rfl (Nat.le_of_ble_eq_true rfl) dX7_cut_23 (fun H locs hP hD hS => ?_)
      have hP : va_P D vwCl (wX7 cI cS hh vCar vGoa vEag tN tF cN cF mP mS kCap kGap kCar kCop kGro kShr bN bF rCmd rLet rNum fCap fGap fCar fCop fGro fShr hX hC hR) H := hP
      have hD : va_D A (wX7 cI cS hh vCar vGoa vEag tN tF cN cF mP mS kCap kGap kCar kCop kGro kShr bN bF rCmd rLet rNum fCap fGap fCar fCop fGro fShr hX hC hR) := hD
      replace h := map_inl h
      exact c_26 vCar vGoa tN tF cN cF mP kCap kGap kCar kCop kShr hX hC hR h H locs hP hD hS ls (lv_sub hl [0, 1] rfl)
  exact hmain _ _ hP hS
abbrev rm_X7_paste : Room := { frames := 5, cells := 0, slots := 0, locals := 114 }
def f_X7_paste_c18 (Z : Nat) (vEag : Int32) (cN : Int32) (cF : Nat → Int32) (mS : Nat → Int32) (kShr : Int32) (vCar : Int32) (vGoa : Int32) (tN : Int32) (tF : Nat → Int32) (mP : Nat → Int32) (kCap : Int32) (kGap : Int32) (kCar : Int32) (kCop : Int32) (kGro : Int32) (hX : Int32) (hC : Int32) (hR : Nat → StT) : Option (Int32 × Int32 × Int32 × Int32 × (Nat → Int32) × (Nat → Int32) × Int32 × Int32 × Int32 × Int32 × Int32 × Int32 × Int32 × (Nat → StT)) :=
    (f_X2_save Z hX hC hR vCar vGoa vEag tN tF cN cF mP mS kCap kGap kCar kCop kGro kShr).bind fun (hX_1, hC_1, hR_1) =>
    (f_X0_size Z 60 cN).bind fun r2 =>
    (f_X6_insertPart_s Z 0 r2 vCar vGoa tN tF cN cF mP mS kCap kGap kCar kCop kGro).bind fun (vCar_3, vGoa_3, tN_3, tF_3, mP_3, kCap_3, kGap_3, kCar_3, kCop_3, kGro_3) =>
    (f_X0_size Z 256 tN_3).bind fun r4 =>
    some (r4, vCar_3, vGoa_3, tN_3, tF_3, mP_3, kCap_3, kGap_3, kCar_3, kCop_3, kGro_3, hX_1, hC_1, hR_1)
def f_X7_paste (Z : Nat) (vCar : Int32) (vGoa : Int32) (vEag : Int32) (tN : Int32) (tF : Nat → Int32) (cN : Int32) (cF : Nat → Int32) (mP : Nat → Int32) (mS : Nat → Int32) (kCap : Int32) (kGap : Int32) (kCar : Int32) (kCop : Int32) (kGro : Int32) (kShr : Int32) (hX : Int32) (hC : Int32) (hR : Nat → StT) : Option ((Int32 × Int32 × Int32 × Int32 × (Nat → Int32) × (Nat → Int32) × Int32 × Int32 × Int32 × Int32 × Int32 × Int32 × Int32 × (Nat → StT)) ⊕ String) :=
  (f_X6_pasteFault Z tN cN).bind fun r5 =>
  if r5 = 0 then
    if (1 : Int32) = 0 then
      some (.inr "java/lang/IllegalStateException")
    else
    (f_X7_paste_c18 Z vEag cN cF mS kShr vCar vGoa tN tF mP kCap kGap kCar kCop kGro hX hC hR).map Sum.inl
  else
    if (0 : Int32) = 0 then
      some (.inr "java/lang/IllegalStateException")
    else
    (f_X7_paste_c18 Z vEag cN cF mS kShr vCar vGoa tN tF mP kCap kGap kCar kCop kGro hX hC hR).map Sum.inl
set_option maxRecDepth 100000 in
set_option maxHeartbeats 4000000 in
theorem k_X7_paste (l : Launch) (D : va_G) (cI cS cL : ClassId) (Z : Nat) (hh : Nat → Nat) (vCar : Int32) (vGoa : Int32) (vEag : Int32) (tN : Int32) (tF : Nat → Int32) (cN : Int32) (cF : Nat → Int32) (mP : Nat → Int32) (mS : Nat → Int32) (kCap : Int32) (kGap : Int32) (kCar : Int32) (kCop : Int32) (kGro : Int32) (kShr : Int32) (bN : Int32) (bF : Nat → Int32) (rCmd : Int32) (rLet : Int32) (rNum : Int32) (fCap : Int32) (fGap : Int32) (fCar : Int32) (fCop : Int32) (fGro : Int32) (fShr : Int32) (hX : Int32) (hC : Int32) (hR : Nat → StT) {r : Int32} {vCar' : Int32} {vGoa' : Int32} {tN' : Int32} {tF' : Nat → Int32} {mP' : Nat → Int32} {kCap' : Int32} {kGap' : Int32} {kCar' : Int32} {kCop' : Int32} {kGro' : Int32} {hX' : Int32} {hC' : Int32} {hR' : Nat → StT} (h : f_X7_paste Z vCar vGoa vEag tN tF cN cF mP mS kCap kGap kCar kCop kGro kShr hX hC hR = some (.inl (r, vCar', vGoa', tN', tF', mP', kCap', kGap', kCar', kCop', kGro', hX', hC', hR'))) : CI l yX7_paste cX7_paste 1 (some .int) rm_X7_paste D cI cS cL [.ref (hh 0)] (wX7 cI cS hh vCar vGoa vEag tN tF cN cF mP mS kCap kGap kCar kCop kGro kShr bN bF rCmd rLet rNum fCap fGap fCar fCop fGro fShr hX hC hR) (wX7 cI cS hh (vCar') (vGoa') vEag (tN') (tF') cN cF (mP') mS (kCap') (kGap') (kCar') (kCop') (kGro') kShr bN bF rCmd rLet rNum fCap fGap fCar fCop fGro fShr (hX') (hC') (hR')) r := by
  refine ent_i (by decide +kernel) (Nat.le_of_ble_eq_true rfl) ?_
  intro p e s m args below meth c A ls hx hb hr hml hlocks hg hown hK hP hD hS hA hl
  have hown : s.vm.findClass RX7 = some m.cls := hown
  have c_18 : ∀ (vCar : Int32) (vGoa : Int32) (tN : Int32) (tF : Nat → Int32) (mP : Nat → Int32) (kCap : Int32) (kGap : Int32) (kCar : Int32) (kCop : Int32) (kGro : Int32) (hX : Int32) (hC : Int32) (hR : Nat → StT), f_X7_paste_c18 Z vEag cN cF mS kShr vCar vGoa tN tF mP kCap kGap kCar kCop kGro hX hC hR = some (r, vCar', vGoa', tN', tF', mP', kCap', kGap', kCar', kCop', kGro', hX', hC', hR') → ∀ (H : Heap) (locs : List Loc), va_P D vwCl (wX7 cI cS hh vCar vGoa vEag tN tF cN cF mP mS kCap kGap kCar kCop kGro kShr bN bF rCmd rLet rNum fCap fGap fCar fCop fGro fShr hX hC hR) H → va_D A (wX7 cI cS hh vCar vGoa vEag tN tF cN cF mP mS kCap kGap kCar kCop kGro kShr bN bF rCmd rLet rNum fCap fGap fCar fCop fGro fShr hX hC hR) → va_S A s.heap H locs → ∀ ls : Array Slot, lv_has ls 1 [(0, .ref (hh 0))] → W p l e rm_X7_paste s m args below meth c H locs 0 0 (FI D below args s (wX7 cI cS hh (vCar') (vGoa') vEag (tN') (tF') cN cF (mP') mS (kCap') (kGap') (kCar') (kCop') (kGro') kShr bN bF rCmd rLet rNum fCap fGap fCar fCop fGro fShr (hX') (hC') (hR')) r A) (F0 m 18 ls []) := by
    intro vCar vGoa tN tF mP kCap kGap kCar kCop kGro hX hC hR h H locs hP hD hS ls hl
    unfold f_X7_paste_c18 at h
    refine lv_aload_n hx hb dX7_paste_18 rfl (lv_at hl 0 rfl) ?_
    refine va_get (D := D) (ci := 7) (v := .ref (hh 15)) (C := RX7) (T := TX7) (N := 4) hx hb hg uX7 hown hK.1 hP 0 rfl rfl 1 (by decide) (hg _ gw_185) (fun _ h9 => h9) rfl dX7_paste_19 ?_
    refine lv_aload_n hx hb dX7_paste_22 rfl (lv_at hl 0 rfl) ?_
    refine va_get (D := D) (ci := 7) (v := .ref (hh 1)) (C := RX7) (T := TX7) (N := 4) hx hb hg uX7 hown hK.1 hP 0 rfl rfl 0 (by decide) (hg _ gw_184) (fun _ h9 => h9) rfl dX7_paste_23 ?_
    obtain ⟨⟨hX_1, hC_1, hR_1⟩, ec1, h⟩ := bd_some h
    refine cP_v (As := [.ref (hh 1)]) (rest := []) (wc := (wX2t cI cS (fun i => hh (15 + i)) hX hC hR (wX6 cI (hh 1) (hh 2) (hh 3) (hh 4) (hh 5) (hh 6) (hh 7) (hh 8) (hh 9) vCar vGoa vEag tN tF cN cF mP mS kCap kGap kCar kCop kGro kShr))) (wc' := (wX2t cI cS (fun i => hh (15 + i)) hX_1 hC_1 hR_1 (wX6 cI (hh 1) (hh 2) (hh 3) (hh 4) (hh 5) (hh 6) (hh 7) (hh 8) (hh 9) vCar vGoa vEag tN tF cN cF mP mS kCap kGap kCar kCop kGro kShr))) (ws' := (wX7 cI cS hh vCar vGoa vEag tN tF cN cF mP mS kCap kGap kCar kCop kGro kShr bN bF rCmd rLet rNum fCap fGap fCar fCop fGro fShr hX_1 hC_1 hR_1)) hx hb hml hown hg hK hP hD hS hA hl.1 (k_X2_save l D cI cS cL Z (fun i => hh (15 + i)) (hh 1) (hh 2) (hh 3) (hh 4) (hh 5) (hh 6) (hh 7) (hh 8) (hh 9) hX hC hR vCar vGoa vEag tN tF cN cF mP mS kCap kGap kCar kCop kGro kShr ec1) gm_X2_save gw_419 ⟨rfl, rfl, by decide, by decide⟩ ⟨Nat.zero_le _, Nat.zero_le _⟩ pm_7 pm_7 fst_X2t rfl rfl rfl rfl rfl (Nat.le_of_ble_eq_true rfl) dX7_paste_26 (fun H locs hP hD hS => ?_)
    refine lv_aload_n hx hb dX7_paste_29 rfl (lv_at hl 0 rfl) ?_
    refine va_get (D := D) (ci := 7) (v := .ref (hh 1)) (C := RX7) (T := TX7) (N := 4) hx hb hg uX7 hown hK.1 hP 0 rfl rfl 0 (by decide) (hg _ gw_184) (fun _ h9 => h9) rfl dX7_paste_30 ?_
    refine lv_aload_n hx hb dX7_paste_33 rfl (lv_at hl 0 rfl) ?_
    refine va_get (D := D) (ci := 7) (v := .ref (hh 1)) (C := RX7) (T := TX7) (N := 4) hx hb hg uX7 hown hK.1 hP 0 rfl rfl 0 (by decide) (hg _ gw_184) (fun _ h9 => h9) rfl dX7_paste_34 ?_
    refine va_getN (D := D) (ci := 6) (v := .ref (hh 4)) (C := RX6) (T := TX6) (N := 7) hx hb hg uX6 hown hK.1 hP 1 rfl rfl 1 (by decide) (kk_nest hK nw_107) (fun _ h9 => h9) rfl dX7_paste_37 ?_
    refine lv_iconst (v := 0) hx hb dX7_paste_40 (by decide) ?_
    refine lv_aload_n hx hb dX7_paste_41 rfl (lv_at hl 0 rfl) ?_
    refine va_get (D := D) (ci := 7) (v := .ref (hh 1)) (C := RX7) (T := TX7) (N := 4) hx hb hg uX7 hown hK.1 hP 0 rfl rfl 0 (by decide) (hg _ gw_184) (fun _ h9 => h9) rfl dX7_paste_42 ?_
    refine va_getN (D := D) (ci := 6) (v := .ref (hh 4)) (C := RX6) (T := TX6) (N := 7) hx hb hg uX6 hown hK.1 hP 1 rfl rfl 1 (by decide) (kk_nest hK nw_107) (fun _ h9 => h9) rfl dX7_paste_45 ?_
    obtain ⟨r2, ec2, h⟩ := bd_some h
    refine cV_i (As := []) (rest := [.int 0, .ref (hh 4), .ref (hh 1)]) (wc := (wX0 cI (hh 4) (hh 5) 60 cN cF)) (wc' := (wX0 cI (hh 4) (hh 5) 60 cN cF)) hx hb hml hown hg hK hP hD hS hA hl.1 (k_X0_size l D cI cS cL Z (hh 4) (hh 5) 60 cN cF ec2) gm_X0_size gw_361 ⟨rfl, rfl, by decide, by decide⟩ ⟨Nat.zero_le _, Nat.zero_le _⟩ [4, 5] rfl rfl rfl rfl rfl rfl rfl rfl (Nat.le_of_ble_eq_true rfl) dX7_paste_48 (fun H locs hP hD hS => ?_)
    have hP : va_P D vwCl (wX7 cI cS hh vCar vGoa vEag tN tF cN cF mP mS kCap kGap kCar kCop kGro kShr bN bF rCmd rLet rNum fCap fGap fCar fCop fGro fShr hX_1 hC_1 hR_1) H := hP
    have hD : va_D A (wX7 cI cS hh vCar vGoa vEag tN tF cN cF mP mS kCap kGap kCar kCop kGro kShr bN bF rCmd rLet rNum fCap fGap fCar fCop fGro fShr hX_1 hC_1 hR_1) := hD
    obtain ⟨⟨vCar_3, vGoa_3, tN_3, tF_3, mP_3, kCap_3, kGap_3, kCar_3, kCop_3, kGro_3⟩, ec3, h⟩ := bd_some h
    refine cV_v (As := [.ref (hh 4), .int 0, .int r2]) (rest := []) (wc := (wX6 cI (hh 1) (hh 2) (hh 3) (hh 4) (hh 5) (hh 6) (hh 7) (hh 8) (hh 9) vCar vGoa vEag tN tF cN cF mP mS kCap kGap kCar kCop kGro kShr)) (wc' := (wX6 cI (hh 1) (hh 2) (hh 3) (hh 4) (hh 5) (hh 6) (hh 7) (hh 8) (hh 9) vCar_3 vGoa_3 vEag tN_3 tF_3 cN cF mP_3 mS kCap_3 kGap_3 kCar_3 kCop_3 kGro_3 kShr)) hx hb hml hown hg hK hP hD hS hA hl.1 (k_X6_insertPart_s l D cI cS cL Z (hh 1) (hh 2) (hh 3) (hh 4) (hh 5) (hh 6) (hh 7) (hh 8) (hh 9) 0 r2 vCar vGoa vEag tN tF cN cF mP mS kCap kGap kCar kCop kGro kShr ec3) gm_X6_insertPart gw_602 ⟨rfl, rfl, by decide, by decide⟩ ⟨Nat.zero_le _, Nat.zero_le _⟩ [1, 2, 3, 4, 5, 6, 7, 8, 9] rfl rfl rfl rfl rfl rfl rfl rfl (Nat.le_of_ble_eq_true rfl) dX7_paste_51 (fun H locs hP hD hS => ?_)
    have hP : va_P D vwCl (wX7 cI cS hh vCar_3 vGoa_3 vEag tN_3 tF_3 cN cF mP_3 mS kCap_3 kGap_3 kCar_3 kCop_3 kGro_3 kShr bN bF rCmd rLet rNum fCap fGap fCar fCop fGro fShr hX_1 hC_1 hR_1) H := hP
    have hD : va_D A (wX7 cI cS hh vCar_3 vGoa_3 vEag tN_3 tF_3 cN cF mP_3 mS kCap_3 kGap_3 kCar_3 kCop_3 kGro_3 kShr bN bF rCmd rLet rNum fCap fGap fCar fCop fGro fShr hX_1 hC_1 hR_1) := hD
    refine lv_aload_n hx hb dX7_paste_54 rfl (lv_at hl 0 rfl) ?_
    refine va_get (D := D) (ci := 7) (v := .ref (hh 1)) (C := RX7) (T := TX7) (N := 4) hx hb hg uX7 hown hK.1 hP 0 rfl rfl 0 (by decide) (hg _ gw_184) (fun _ h9 => h9) rfl dX7_paste_55 ?_
    refine va_getN (D := D) (ci := 6) (v := .ref (hh 2)) (C := RX6) (T := TX6) (N := 7) hx hb hg uX6 hown hK.1 hP 1 rfl rfl 0 (by decide) (kk_nest hK nw_105) (fun _ h9 => h9) rfl dX7_paste_58 ?_
    obtain ⟨r4, ec4, h⟩ := bd_some h
    refine cV_i (As := []) (rest := []) (wc := (wX0 cI (hh 2) (hh 3) 256 tN_3 tF_3)) (wc' := (wX0 cI (hh 2) (hh 3) 256 tN_3 tF_3)) hx hb hml hown hg hK hP hD hS hA hl.1 (k_X0_size l D cI cS cL Z (hh 2) (hh 3) 256 tN_3 tF_3 ec4) gm_X0_size gw_361 ⟨rfl, rfl, by decide, by decide⟩ ⟨Nat.zero_le _, Nat.zero_le _⟩ [2, 3] rfl rfl rfl rfl rfl rfl rfl rfl (Nat.le_of_ble_eq_true rfl) dX7_paste_61 (fun H locs hP hD hS => ?_)
    have hP : va_P D vwCl (wX7 cI cS hh vCar_3 vGoa_3 vEag tN_3 tF_3 cN cF mP_3 mS kCap_3 kGap_3 kCar_3 kCop_3 kGro_3 kShr bN bF rCmd rLet rNum fCap fGap fCar fCop fGro fShr hX_1 hC_1 hR_1) H := hP
    have hD : va_D A (wX7 cI cS hh vCar_3 vGoa_3 vEag tN_3 tF_3 cN cF mP_3 mS kCap_3 kGap_3 kCar_3 kCop_3 kGro_3 kShr bN bF rCmd rLet rNum fCap fGap fCar fCop fGro fShr hX_1 hC_1 hR_1) := hD
    cases h
    exact ret_i hx hb hr hlocks hP hD hS dX7_paste_64 rfl
  have hl : lv_has ls 1 [(0, .ref (hh 0))] := hl
  have hP : va_P D vwCl (wX7 cI cS hh vCar vGoa vEag tN tF cN cF mP mS kCap kGap kCar kCop kGro kShr bN bF rCmd rLet rNum fCap fGap fCar fCop fGro fShr hX hC hR) s.heap := hP
  have hD : va_D A (wX7 cI cS hh vCar vGoa vEag tN tF cN cF mP mS kCap kGap kCar kCop kGro kShr bN bF rCmd rLet rNum fCap fGap fCar fCop fGro fShr hX hC hR) := hD
  show W p l e rm_X7_paste s m args below meth c s.heap [] 0 0 (FI D below args s (wX7 cI cS hh (vCar') (vGoa') vEag (tN') (tF') cN cF (mP') mS (kCap') (kGap') (kCar') (kCop') (kGro') kShr bN bF rCmd rLet rNum fCap fGap fCar fCop fGro fShr (hX') (hC') (hR')) r A) (F0 m 0 ls [])
  unfold f_X7_paste at h
  have hmain : ∀ (H : Heap) (locs : List Loc), va_P D vwCl (wX7 cI cS hh vCar vGoa vEag tN tF cN cF mP mS kCap kGap kCar kCop kGro kShr bN bF rCmd rLet rNum fCap fGap fCar fCop fGro fShr hX hC hR) H → va_S A s.heap H locs → W p l e rm_X7_paste s m args below meth c H locs 0 0 (FI D below args s (wX7 cI cS hh (vCar') (vGoa') vEag (tN') (tF') cN cF (mP') mS (kCap') (kGap') (kCar') (kCop') (kGro') kShr bN bF rCmd rLet rNum fCap fGap fCar fCop fGro fShr (hX') (hC') (hR')) r A) (F0 m 0 ls []) := by
    intro H locs hP hS
    refine lv_aload_n hx hb dX7_paste_0 rfl (lv_at hl 0 rfl) ?_
    refine va_get (D := D) (ci := 7) (v := .ref (hh 1)) (C := RX7) (T := TX7) (N := 4) hx hb hg uX7 hown hK.1 hP 0 rfl rfl 0 (by decide) (hg _ gw_184) (fun _ h9 => h9) rfl dX7_paste_1 ?_
    obtain ⟨r5, ec5, h⟩ := bd_some h
    refine cV_i (As := []) (rest := []) (wc := (wX6 cI (hh 1) (hh 2) (hh 3) (hh 4) (hh 5) (hh 6) (hh 7) (hh 8) (hh 9) vCar vGoa vEag tN tF cN cF mP mS kCap kGap kCar kCop kGro kShr)) (wc' := (wX6 cI (hh 1) (hh 2) (hh 3) (hh 4) (hh 5) (hh 6) (hh 7) (hh 8) (hh 9) vCar vGoa vEag tN tF cN cF mP mS kCap kGap kCar kCop kGro kShr)) hx hb hml hown hg hK hP hD hS hA hl.1 (k_X6_pasteFault l D cI cS cL Z (hh 1) (hh 2) (hh 3) (hh 4) (hh 5) (hh 6) (hh 7) (hh 8) (hh 9) vCar vGoa vEag tN tF cN cF mP mS kCap kGap kCar kCop kGro kShr ec5) gm_X6_pasteFault gw_597 ⟨rfl, rfl, by decide, by decide⟩ ⟨Nat.zero_le _, Nat.zero_le _⟩ [1, 2, 3, 4, 5, 6, 7, 8, 9] rfl rfl rfl rfl rfl rfl rfl rfl (Nat.le_of_ble_eq_true rfl) dX7_paste_4 (fun H locs hP hD hS => ?_)
    have hP : va_P D vwCl (wX7 cI cS hh vCar vGoa vEag tN tF cN cF mP mS kCap kGap kCar kCop kGro kShr bN bF rCmd rLet rNum fCap fGap fCar fCop fGro fShr hX hC hR) H := hP
    have hD : va_D A (wX7 cI cS hh vCar vGoa vEag tN tF cN cF mP mS kCap kGap kCar kCop kGro kShr bN bF rCmd rLet rNum fCap fGap fCar fCop fGro fShr hX hC hR) := hD
    refine lv_if_ne (tgt := 14) hx hb dX7_paste_7 (by decide) (fun q6 => ?_) (fun q6 => ?_)
    · replace h := if_some q6 h
      refine lv_iconst (v := 0) hx hb dX7_paste_14 (by decide) ?_
      by_cases q7 : (0 : Int32) = 0
      · cases it_some q7 h
      replace h := if_some q7 h
      refine cS_v (As := [.int (0 : Int32)]) (rest := []) (wc := []) (wc' := []) hx hb hml hown hg hK hP hD hS hA hl.1 (k_X7_requireState l D cI cS cL (0 : Int32) q7) gs_X7_requireState gw_205 ⟨rfl, rfl, by decide, by decide⟩ ⟨Nat.zero_le _, Nat.zero_le _⟩ [] rfl rfl rfl rfl rfl (Nat.le_of_ble_eq_true rfl) dX7_paste_15 (fun H locs hP hD hS => ?_)
      have hP : va_P D vwCl (wX7 cI cS hh vCar vGoa vEag tN tF cN cF mP mS kCap kGap kCar kCop kGro kShr bN bF rCmd rLet rNum fCap fGap fCar fCop fGro fShr hX hC hR) H := hP
      have hD : va_D A (wX7 cI cS hh vCar vGoa vEag tN tF cN cF mP mS kCap kGap kCar kCop kGro kShr bN bF rCmd rLet rNum fCap fGap fCar fCop fGro fShr hX hC hR) := hD
      replace h := map_inl h
      exact c_18 vCar vGoa tN tF mP kCap kGap kCar kCop kGro hX hC hR h H locs hP hD hS ls (lv_sub hl [0] rfl)
    · replace h := it_some q6 h
      refine lv_iconst (v := 1) hx hb dX7_paste_10 (by decide) ?_
      refine lv_goto (tgt := 15) hx hb dX7_paste_11 (by decide) ?_
      by_cases q8 : (1 : Int32) = 0
      · cases it_some q8 h
      replace h := if_some q8 h
      refine cS_v (As := [.int (1 : Int32)]) (rest := []) (wc := []) (wc' := []) hx hb hml hown hg hK hP hD hS hA hl.1 (k_X7_requireState l D cI cS cL (1 : Int32) q8) gs_X7_requireState gw_205 ⟨rfl, rfl, by decide, by decide⟩ ⟨Nat.zero_le _, Nat.zero_le _⟩ [] rfl rfl rfl rfl rfl (Nat.le_of_ble_eq_true rfl) dX7_paste_15 (fun H locs hP hD hS => ?_)
      have hP : va_P D vwCl (wX7 cI cS hh vCar vGoa vEag tN tF cN cF mP mS kCap kGap kCar kCop kGro kShr bN bF rCmd rLet rNum fCap fGap fCar fCop fGro fShr hX hC hR) H := hP
      have hD : va_D A (wX7 cI cS hh vCar vGoa vEag tN tF cN cF mP mS kCap kGap kCar kCop kGro kShr bN bF rCmd rLet rNum fCap fGap fCar fCop fGro fShr hX hC hR) := hD
      replace h := map_inl h
      exact c_18 vCar vGoa tN tF mP kCap kGap kCar kCop kGro hX hC hR h H locs hP hD hS ls (lv_sub hl [0] rfl)
  exact hmain _ _ hP hS
abbrev rm_X7_mark : Room := { frames := 2, cells := 0, slots := 0, locals := 41 }
def f_X7_mark_c7 (Z : Nat) (p1 : Int32) (mP : Nat → Int32)  : Option (Int32) :=
    (f_X4_positionOf Z p1 mP).bind fun r1 =>
    some r1
def f_X7_mark (Z : Nat) (p1 : Int32) (mP : Nat → Int32) : Option ((Int32) ⊕ String) :=
  (f_X7_isMark Z p1).bind fun r2 =>
  if r2 = 0 then
    some (.inr "java/lang/IndexOutOfBoundsException")
  else
  (f_X7_mark_c7 Z p1 mP).map Sum.inl
set_option maxRecDepth 100000 in
set_option maxHeartbeats 4000000 in
theorem k_X7_mark (l : Launch) (D : va_G) (cI cS cL : ClassId) (Z : Nat) (hh : Nat → Nat) (p1 : Int32) (vCar : Int32) (vGoa : Int32) (vEag : Int32) (tN : Int32) (tF : Nat → Int32) (cN : Int32) (cF : Nat → Int32) (mP : Nat → Int32) (mS : Nat → Int32) (kCap : Int32) (kGap : Int32) (kCar : Int32) (kCop : Int32) (kGro : Int32) (kShr : Int32) (bN : Int32) (bF : Nat → Int32) (rCmd : Int32) (rLet : Int32) (rNum : Int32) (fCap : Int32) (fGap : Int32) (fCar : Int32) (fCop : Int32) (fGro : Int32) (fShr : Int32) (hX : Int32) (hC : Int32) (hR : Nat → StT) {r : Int32} (h : f_X7_mark Z p1 mP = some (.inl r)) : CI l yX7_mark cX7_mark 2 (some .int) rm_X7_mark D cI cS cL [.ref (hh 0), .int p1] (wX7 cI cS hh vCar vGoa vEag tN tF cN cF mP mS kCap kGap kCar kCop kGro kShr bN bF rCmd rLet rNum fCap fGap fCar fCop fGro fShr hX hC hR) (wX7 cI cS hh vCar vGoa vEag tN tF cN cF mP mS kCap kGap kCar kCop kGro kShr bN bF rCmd rLet rNum fCap fGap fCar fCop fGro fShr hX hC hR) r := by
  refine ent_i (by decide +kernel) (Nat.le_of_ble_eq_true rfl) ?_
  intro p e s m args below meth c A ls hx hb hr hml hlocks hg hown hK hP hD hS hA hl
  have hown : s.vm.findClass RX7 = some m.cls := hown
  have c_7 : f_X7_mark_c7 Z p1 mP = some r → ∀ (H : Heap) (locs : List Loc), va_P D vwCl (wX7 cI cS hh vCar vGoa vEag tN tF cN cF mP mS kCap kGap kCar kCop kGro kShr bN bF rCmd rLet rNum fCap fGap fCar fCop fGro fShr hX hC hR) H → va_D A (wX7 cI cS hh vCar vGoa vEag tN tF cN cF mP mS kCap kGap kCar kCop kGro kShr bN bF rCmd rLet rNum fCap fGap fCar fCop fGro fShr hX hC hR) → va_S A s.heap H locs → ∀ ls : Array Slot, lv_has ls 2 [(0, .ref (hh 0)), (1, .int p1)] → W p l e rm_X7_mark s m args below meth c H locs 0 0 (FI D below args s (wX7 cI cS hh vCar vGoa vEag tN tF cN cF mP mS kCap kGap kCar kCop kGro kShr bN bF rCmd rLet rNum fCap fGap fCar fCop fGro fShr hX hC hR) r A) (F0 m 7 ls []) := by
    intro h H locs hP hD hS ls hl
    unfold f_X7_mark_c7 at h
    refine lv_aload_n hx hb dX7_mark_7 rfl (lv_at hl 0 rfl) ?_
    refine va_get (D := D) (ci := 7) (v := .ref (hh 1)) (C := RX7) (T := TX7) (N := 4) hx hb hg uX7 hown hK.1 hP 0 rfl rfl 0 (by decide) (hg _ gw_184) (fun _ h9 => h9) rfl dX7_mark_8 ?_
    refine va_getN (D := D) (ci := 6) (v := .ref (hh 6)) (C := RX6) (T := TX6) (N := 7) hx hb hg uX6 hown hK.1 hP 1 rfl rfl 2 (by decide) (kk_nest hK nw_109) (fun _ h9 => h9) rfl dX7_mark_11 ?_
    refine lv_iload_n hx hb dX7_mark_14 rfl (lv_at hl 1 rfl) ?_
    obtain ⟨r1, ec1, h⟩ := bd_some h
    refine cV_i (As := [.int p1]) (rest := []) (wc := (wX4 cI (hh 6) (hh 7) (hh 8) mP mS)) (wc' := (wX4 cI (hh 6) (hh 7) (hh 8) mP mS)) hx hb hml hown hg hK hP hD hS hA hl.1 (k_X4_positionOf l D cI cS cL Z (hh 6) (hh 7) (hh 8) p1 mP mS ec1) gm_X4_positionOf gw_385 ⟨rfl, rfl, by decide, by decide⟩ ⟨Nat.zero_le _, Nat.zero_le _⟩ [6, 7, 8] rfl rfl rfl rfl rfl rfl rfl rfl (Nat.le_of_ble_eq_true rfl) dX7_mark_15 (fun H locs hP hD hS => ?_)
    have hP : va_P D vwCl (wX7 cI cS hh vCar vGoa vEag tN tF cN cF mP mS kCap kGap kCar kCop kGro kShr bN bF rCmd rLet rNum fCap fGap fCar fCop fGro fShr hX hC hR) H := hP
    have hD : va_D A (wX7 cI cS hh vCar vGoa vEag tN tF cN cF mP mS kCap kGap kCar kCop kGro kShr bN bF rCmd rLet rNum fCap fGap fCar fCop fGro fShr hX hC hR) := hD
    cases h
    exact ret_i hx hb hr hlocks hP hD hS dX7_mark_18 rfl
  have hl : lv_has ls 2 [(0, .ref (hh 0)), (1, .int p1)] := hl
  have hP : va_P D vwCl (wX7 cI cS hh vCar vGoa vEag tN tF cN cF mP mS kCap kGap kCar kCop kGro kShr bN bF rCmd rLet rNum fCap fGap fCar fCop fGro fShr hX hC hR) s.heap := hP
  have hD : va_D A (wX7 cI cS hh vCar vGoa vEag tN tF cN cF mP mS kCap kGap kCar kCop kGro kShr bN bF rCmd rLet rNum fCap fGap fCar fCop fGro fShr hX hC hR) := hD
  show W p l e rm_X7_mark s m args below meth c s.heap [] 0 0 (FI D below args s (wX7 cI cS hh vCar vGoa vEag tN tF cN cF mP mS kCap kGap kCar kCop kGro kShr bN bF rCmd rLet rNum fCap fGap fCar fCop fGro fShr hX hC hR) r A) (F0 m 0 ls [])
  unfold f_X7_mark at h
  have hmain : ∀ (H : Heap) (locs : List Loc), va_P D vwCl (wX7 cI cS hh vCar vGoa vEag tN tF cN cF mP mS kCap kGap kCar kCop kGro kShr bN bF rCmd rLet rNum fCap fGap fCar fCop fGro fShr hX hC hR) H → va_S A s.heap H locs → W p l e rm_X7_mark s m args below meth c H locs 0 0 (FI D below args s (wX7 cI cS hh vCar vGoa vEag tN tF cN cF mP mS kCap kGap kCar kCop kGro kShr bN bF rCmd rLet rNum fCap fGap fCar fCop fGro fShr hX hC hR) r A) (F0 m 0 ls []) := by
    intro H locs hP hS
    refine lv_iload_n hx hb dX7_mark_0 rfl (lv_at hl 1 rfl) ?_
    obtain ⟨r2, ec2, h⟩ := bd_some h
    refine cS_i (As := [.int p1]) (rest := []) (wc := []) (wc' := []) hx hb hml hown hg hK hP hD hS hA hl.1 (k_X7_isMark l D cI cS cL Z p1 ec2) gs_X7_isMark gw_366 ⟨rfl, rfl, by decide, by decide⟩ ⟨Nat.zero_le _, Nat.zero_le _⟩ [] rfl rfl rfl rfl rfl (Nat.le_of_ble_eq_true rfl) dX7_mark_1 (fun H locs hP hD hS => ?_)
    have hP : va_P D vwCl (wX7 cI cS hh vCar vGoa vEag tN tF cN cF mP mS kCap kGap kCar kCop kGro kShr bN bF rCmd rLet rNum fCap fGap fCar fCop fGro fShr hX hC hR) H := hP
    have hD : va_D A (wX7 cI cS hh vCar vGoa vEag tN tF cN cF mP mS kCap kGap kCar kCop kGro kShr bN bF rCmd rLet rNum fCap fGap fCar fCop fGro fShr hX hC hR) := hD
    by_cases q3 : r2 = 0
    · cases it_some q3 h
    replace h := if_some q3 h
    refine cS_v (As := [.int r2]) (rest := []) (wc := []) (wc' := []) hx hb hml hown hg hK hP hD hS hA hl.1 (k_X7_requireIndex l D cI cS cL r2 q3) gs_X7_requireIndex gw_367 ⟨rfl, rfl, by decide, by decide⟩ ⟨Nat.zero_le _, Nat.zero_le _⟩ [] rfl rfl rfl rfl rfl (Nat.le_of_ble_eq_true rfl) dX7_mark_4 (fun H locs hP hD hS => ?_)
    have hP : va_P D vwCl (wX7 cI cS hh vCar vGoa vEag tN tF cN cF mP mS kCap kGap kCar kCop kGro kShr bN bF rCmd rLet rNum fCap fGap fCar fCop fGro fShr hX hC hR) H := hP
    have hD : va_D A (wX7 cI cS hh vCar vGoa vEag tN tF cN cF mP mS kCap kGap kCar kCop kGro kShr bN bF rCmd rLet rNum fCap fGap fCar fCop fGro fShr hX hC hR) := hD
    replace h := map_inl h
    exact c_7 h H locs hP hD hS ls (lv_sub hl [0, 1] rfl)
  exact hmain _ _ hP hS
