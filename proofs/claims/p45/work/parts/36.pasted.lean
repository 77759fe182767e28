abbrev rm_L_isPasted : Room := { frames := 6, cells := 0, slots := 0, locals := 134 }
def f_L_isPasted_b183 (Z : Nat) (p2 : Int32) (rec : Int32 → Int32 → Int32 → Int32 → Int32 → Int32 → Int32 → (Nat → Int32) → Int32 → (Nat → Int32) → (Nat → Int32) → (Nat → Int32) → Int32 → Int32 → Int32 → Int32 → Int32 → Int32 → Int32 → Int32 → (Nat → StT) → (Nat → Int32) → Option (Int32 × Int32 × Int32 × Int32 × Int32 × (Nat → Int32) × Int32 × (Nat → Int32) × (Nat → Int32) × (Nat → Int32) × Int32 × Int32 × Int32 × Int32 × Int32 × Int32 × Int32 × Int32 × (Nat → StT) × (Nat → Int32))) (x3 : Int32) (x8 : Int32) (x9 : Int32) (vCar : Int32) (vGoa : Int32) (vEag : Int32) (tN : Int32) (tF : Nat → Int32) (cN : Int32) (cF : Nat → Int32) (mP : Nat → Int32) (mS : Nat → Int32) (kCap : Int32) (kGap : Int32) (kCar : Int32) (kCop : Int32) (kGro : Int32) (kShr : Int32) (hX : Int32) (hC : Int32) (hR : Nat → StT) (aF : Nat → Int32) : Option (Int32 × Int32 × Int32 × Int32 × Int32 × (Nat → Int32) × Int32 × (Nat → Int32) × (Nat → Int32) × (Nat → Int32) × Int32 × Int32 × Int32 × Int32 × Int32 × Int32 × Int32 × Int32 × (Nat → StT) × (Nat → Int32)) :=
      if x3 ≤ x9 then
        (nx (f_X7_undo Z vCar vGoa vEag tN tF cN cF mP mS kCap kGap kCar kCop kGro kShr hX hC hR)).bind fun (r2, vCar_2, vGoa_2, vEag_2, tN_2, tF_2, cN_2, cF_2, mP_2, mS_2, kCap_2, kGap_2, kCar_2, kCop_2, kGro_2, kShr_2, hX_2, hC_2) =>
        (nx (f_X7_undo Z vCar_2 vGoa_2 vEag_2 tN_2 tF_2 cN_2 cF_2 mP_2 mS_2 kCap_2 kGap_2 kCar_2 kCop_2 kGro_2 kShr_2 hX_2 hC_2 hR)).bind fun (r3, vCar_3, vGoa_3, vEag_3, tN_3, tF_3, cN_3, cF_3, mP_3, mS_3, kCap_3, kGap_3, kCar_3, kCop_3, kGro_3, kShr_3, hX_3, hC_3) =>
        kb x8 (some (x8, vCar_3, vGoa_3, vEag_3, tN_3, tF_3, cN_3, cF_3, mP_3, mS_3, kCap_3, kGap_3, kCar_3, kCop_3, kGro_3, kShr_3, hX_3, hC_3, hR, aF))
      else
        if x8 = 0 then
          kl (x9 + 1) fun x9_6 =>
          rec x3 0 x9_6 vCar vGoa vEag tN tF cN cF mP mS kCap kGap kCar kCop kGro kShr hX hC hR aF
        else
          (nx (f_X7_byteAt Z x9 tN tF)).bind fun r7 =>
          rd x9 64 (
          if r7 = (aF (Int32.toNatClampNeg x9)) then
            kl (x9 + 1) fun x9_11 =>
            rec x3 1 x9_11 vCar vGoa vEag tN tF cN cF mP mS kCap kGap kCar kCop kGro kShr hX hC hR aF
          else
            kl (x9 + 1) fun x9_10 =>
            rec x3 0 x9_10 vCar vGoa vEag tN tF cN cF mP mS kCap kGap kCar kCop kGro kShr hX hC hR aF)
def f_L_isPasted_l183 (Z : Nat) (p2 : Int32) : Nat → Int32 → Int32 → Int32 → Int32 → Int32 → Int32 → Int32 → (Nat → Int32) → Int32 → (Nat → Int32) → (Nat → Int32) → (Nat → Int32) → Int32 → Int32 → Int32 → Int32 → Int32 → Int32 → Int32 → Int32 → (Nat → StT) → (Nat → Int32) → Option (Int32 × Int32 × Int32 × Int32 × Int32 × (Nat → Int32) × Int32 × (Nat → Int32) × (Nat → Int32) × (Nat → Int32) × Int32 × Int32 × Int32 × Int32 × Int32 × Int32 × Int32 × Int32 × (Nat → StT) × (Nat → Int32))
  | 0, _, _, _, _, _, _, _, _, _, _, _, _, _, _, _, _, _, _, _, _, _, _ => none
  | n + 1, x3, x8, x9, vCar, vGoa, vEag, tN, tF, cN, cF, mP, mS, kCap, kGap, kCar, kCop, kGro, kShr, hX, hC, hR, aF => f_L_isPasted_b183 Z p2 (f_L_isPasted_l183 Z p2 n) x3 x8 x9 vCar vGoa vEag tN tF cN cF mP mS kCap kGap kCar kCop kGro kShr hX hC hR aF
def f_L_isPasted_c178 (Z : Nat) (p2 : Int32) (x3 : Int32) (y0 : Int32) (vCar : Int32) (vGoa : Int32) (vEag : Int32) (tN : Int32) (tF : Nat → Int32) (cN : Int32) (cF : Nat → Int32) (mP : Nat → Int32) (mS : Nat → Int32) (kCap : Int32) (kGap : Int32) (kCar : Int32) (kCop : Int32) (kGro : Int32) (kShr : Int32) (hX : Int32) (hC : Int32) (hR : Nat → StT) (aF : Nat → Int32) : Option (Int32 × Int32 × Int32 × Int32 × Int32 × (Nat → Int32) × Int32 × (Nat → Int32) × (Nat → Int32) × (Nat → Int32) × Int32 × Int32 × Int32 × Int32 × Int32 × Int32 × Int32 × Int32 × (Nat → StT) × (Nat → Int32)) :=
    f_L_isPasted_l183 Z p2 Z x3 y0 0 vCar vGoa vEag tN tF cN cF mP mS kCap kGap kCar kCop kGro kShr hX hC hR aF
def f_L_isPasted_c177 (Z : Nat) (p2 : Int32) (x3 : Int32) (vCar : Int32) (vGoa : Int32) (vEag : Int32) (tN : Int32) (tF : Nat → Int32) (cN : Int32) (cF : Nat → Int32) (mP : Nat → Int32) (mS : Nat → Int32) (kCap : Int32) (kGap : Int32) (kCar : Int32) (kCop : Int32) (kGro : Int32) (kShr : Int32) (hX : Int32) (hC : Int32) (hR : Nat → StT) (aF : Nat → Int32) : Option (Int32 × Int32 × Int32 × Int32 × Int32 × (Nat → Int32) × Int32 × (Nat → Int32) × (Nat → Int32) × (Nat → Int32) × Int32 × Int32 × Int32 × Int32 × Int32 × Int32 × Int32 × Int32 × (Nat → StT) × (Nat → Int32)) :=
    f_L_isPasted_c178 Z p2 x3 0 vCar vGoa vEag tN tF cN cF mP mS kCap kGap kCar kCop kGro kShr hX hC hR aF
def f_L_isPasted_c165 (Z : Nat) (p2 : Int32) (x3 : Int32) (vCar : Int32) (vGoa : Int32) (vEag : Int32) (tN : Int32) (tF : Nat → Int32) (cN : Int32) (cF : Nat → Int32) (mP : Nat → Int32) (mS : Nat → Int32) (kCap : Int32) (kGap : Int32) (kCar : Int32) (kCop : Int32) (kGro : Int32) (kShr : Int32) (hX : Int32) (hC : Int32) (hR : Nat → StT) (aF : Nat → Int32) : Option (Int32 × Int32 × Int32 × Int32 × Int32 × (Nat → Int32) × Int32 × (Nat → Int32) × (Nat → Int32) × (Nat → Int32) × Int32 × Int32 × Int32 × Int32 × Int32 × Int32 × Int32 × Int32 × (Nat → StT) × (Nat → Int32)) :=
    (nx (f_X7_paste Z vCar vGoa vEag tN tF cN cF mP mS kCap kGap kCar kCop kGro kShr hX hC hR)).bind fun (r12, vCar_12, vGoa_12, tN_12, tF_12, mP_12, kCap_12, kGap_12, kCar_12, kCop_12, kGro_12, hX_12, hC_12, hR_12) =>
    if r12 = x3 then
      f_L_isPasted_c178 Z p2 x3 1 vCar_12 vGoa_12 vEag tN_12 tF_12 cN cF mP_12 mS kCap_12 kGap_12 kCar_12 kCop_12 kGro_12 kShr hX_12 hC_12 hR_12 aF
    else
      f_L_isPasted_c177 Z p2 x3 vCar_12 vGoa_12 vEag tN_12 tF_12 cN cF mP_12 mS kCap_12 kGap_12 kCar_12 kCop_12 kGro_12 kShr hX_12 hC_12 hR_12 aF
def f_L_isPasted_b78 (Z : Nat) (p2 : Int32) (rec : Int32 → Int32 → Int32 → Int32 → Int32 → Int32 → Int32 → (Nat → Int32) → Int32 → (Nat → Int32) → (Nat → Int32) → (Nat → Int32) → Int32 → Int32 → Int32 → Int32 → Int32 → Int32 → Int32 → Int32 → (Nat → StT) → (Nat → Int32) → Option (Int32 × Int32 × Int32 × Int32 × Int32 × (Nat → Int32) × Int32 × (Nat → Int32) × (Nat → Int32) × (Nat → Int32) × Int32 × Int32 × Int32 × Int32 × Int32 × Int32 × Int32 × Int32 × (Nat → StT) × (Nat → Int32))) (x3 : Int32) (x4 : Int32) (x5 : Int32) (vCar : Int32) (vGoa : Int32) (vEag : Int32) (tN : Int32) (tF : Nat → Int32) (cN : Int32) (cF : Nat → Int32) (mP : Nat → Int32) (mS : Nat → Int32) (kCap : Int32) (kGap : Int32) (kCar : Int32) (kCop : Int32) (kGro : Int32) (kShr : Int32) (hX : Int32) (hC : Int32) (hR : Nat → StT) (aF : Nat → Int32) : Option (Int32 × Int32 × Int32 × Int32 × Int32 × (Nat → Int32) × Int32 × (Nat → Int32) × (Nat → Int32) × (Nat → Int32) × Int32 × Int32 × Int32 × Int32 × Int32 × Int32 × Int32 × Int32 × (Nat → StT) × (Nat → Int32)) :=
      if x3 ≤ x5 then
        (f_X7_copied Z kCop).bind fun r15 =>
        (f_X7_growths Z kGro).bind fun r16 =>
        (f_X7_shrinks Z kShr).bind fun r17 =>
        kl (r16 + r17) fun x6_18 =>
        (nx (f_X7_cut Z p2 vCar vGoa vEag tN tF cN cF mP mS kCap kGap kCar kCop kGro kShr hX hC hR)).bind fun (r19, vCar_19, vGoa_19, tN_19, tF_19, cN_19, cF_19, mP_19, kCap_19, kGap_19, kCar_19, kCop_19, kShr_19, hX_19, hC_19, hR_19) =>
        if r19 = x4 then
          (f_X7_length Z tN_19).bind fun r21 =>
          if r21 = (x3 - x4) then
            (f_X7_growths Z kGro).bind fun r23 =>
            (f_X7_shrinks Z kShr_19).bind fun r24 =>
            if x6_18 < (r23 + r24) then
              f_L_isPasted_c165 Z p2 x3 vCar_19 vGoa_19 vEag tN_19 tF_19 cN_19 cF_19 mP_19 mS kCap_19 kGap_19 kCar_19 kCop_19 kGro kShr_19 hX_19 hC_19 hR_19 aF
            else
              (f_X7_copied Z kCop_19).bind fun r26 =>
              if r26 = r15 then
                f_L_isPasted_c165 Z p2 x3 vCar_19 vGoa_19 vEag tN_19 tF_19 cN_19 cF_19 mP_19 mS kCap_19 kGap_19 kCar_19 kCop_19 kGro kShr_19 hX_19 hC_19 hR_19 aF
              else
                f_L_isPasted_c177 Z p2 x3 vCar_19 vGoa_19 vEag tN_19 tF_19 cN_19 cF_19 mP_19 mS kCap_19 kGap_19 kCar_19 kCop_19 kGro kShr_19 hX_19 hC_19 hR_19 aF
          else
            f_L_isPasted_c177 Z p2 x3 vCar_19 vGoa_19 vEag tN_19 tF_19 cN_19 cF_19 mP_19 mS kCap_19 kGap_19 kCar_19 kCop_19 kGro kShr_19 hX_19 hC_19 hR_19 aF
        else
          f_L_isPasted_c177 Z p2 x3 vCar_19 vGoa_19 vEag tN_19 tF_19 cN_19 cF_19 mP_19 mS kCap_19 kGap_19 kCar_19 kCop_19 kGro kShr_19 hX_19 hC_19 hR_19 aF
      else
        (nx (f_X7_byteAt Z x5 tN tF)).bind fun r28 =>
        rd x5 64 (kl (upd aF (Int32.toNatClampNeg x5) r28) fun aF_30 =>
        kl (x5 + 1) fun x5_31 =>
        rec x3 x4 x5_31 vCar vGoa vEag tN tF cN cF mP mS kCap kGap kCar kCop kGro kShr hX hC hR aF_30)
def f_L_isPasted_l78 (Z : Nat) (p2 : Int32) : Nat → Int32 → Int32 → Int32 → Int32 → Int32 → Int32 → Int32 → (Nat → Int32) → Int32 → (Nat → Int32) → (Nat → Int32) → (Nat → Int32) → Int32 → Int32 → Int32 → Int32 → Int32 → Int32 → Int32 → Int32 → (Nat → StT) → (Nat → Int32) → Option (Int32 × Int32 × Int32 × Int32 × Int32 × (Nat → Int32) × Int32 × (Nat → Int32) × (Nat → Int32) × (Nat → Int32) × Int32 × Int32 × Int32 × Int32 × Int32 × Int32 × Int32 × Int32 × (Nat → StT) × (Nat → Int32))
  | 0, _, _, _, _, _, _, _, _, _, _, _, _, _, _, _, _, _, _, _, _, _, _ => none
  | n + 1, x3, x4, x5, vCar, vGoa, vEag, tN, tF, cN, cF, mP, mS, kCap, kGap, kCar, kCop, kGro, kShr, hX, hC, hR, aF => f_L_isPasted_b78 Z p2 (f_L_isPasted_l78 Z p2 n) x3 x4 x5 vCar vGoa vEag tN tF cN cF mP mS kCap kGap kCar kCop kGro kShr hX hC hR aF
def f_L_isPasted_c53 (Z : Nat) (p2 : Int32) (x3 : Int32) (y0 : Int32) (vCar : Int32) (vGoa : Int32) (vEag : Int32) (tN : Int32) (tF : Nat → Int32) (cN : Int32) (cF : Nat → Int32) (mP : Nat → Int32) (mS : Nat → Int32) (kCap : Int32) (kGap : Int32) (kCar : Int32) (kCop : Int32) (kGro : Int32) (kShr : Int32) (hX : Int32) (hC : Int32) (hR : Nat → StT) (aF : Nat → Int32) : Option (Int32 × Int32 × Int32 × Int32 × Int32 × (Nat → Int32) × Int32 × (Nat → Int32) × (Nat → Int32) × (Nat → Int32) × Int32 × Int32 × Int32 × Int32 × Int32 × Int32 × Int32 × Int32 × (Nat → StT) × (Nat → Int32)) :=
    if 60 < y0 then
      some (1, vCar, vGoa, vEag, tN, tF, cN, cF, mP, mS, kCap, kGap, kCar, kCop, kGro, kShr, hX, hC, hR, aF)
    else
      if y0 = 0 then
        some (1, vCar, vGoa, vEag, tN, tF, cN, cF, mP, mS, kCap, kGap, kCar, kCop, kGro, kShr, hX, hC, hR, aF)
      else
        if x3 ≤ 64 then
          f_L_isPasted_l78 Z p2 Z x3 y0 0 vCar vGoa vEag tN tF cN cF mP mS kCap kGap kCar kCop kGro kShr hX hC hR aF
        else
          some (1, vCar, vGoa, vEag, tN, tF, cN, cF, mP, mS, kCap, kGap, kCar, kCop, kGro, kShr, hX, hC, hR, aF)
def f_L_isPasted (Z : Nat) (p2 : Int32) (vCar : Int32) (vGoa : Int32) (vEag : Int32) (tN : Int32) (tF : Nat → Int32) (cN : Int32) (cF : Nat → Int32) (mP : Nat → Int32) (mS : Nat → Int32) (kCap : Int32) (kGap : Int32) (kCar : Int32) (kCop : Int32) (kGro : Int32) (kShr : Int32) (hX : Int32) (hC : Int32) (hR : Nat → StT) (aF : Nat → Int32) : Option (Int32 × Int32 × Int32 × Int32 × Int32 × (Nat → Int32) × Int32 × (Nat → Int32) × (Nat → Int32) × (Nat → Int32) × Int32 × Int32 × Int32 × Int32 × Int32 × Int32 × Int32 × Int32 × (Nat → StT) × (Nat → Int32)) :=
  (f_X7_length Z tN).bind fun r35 =>
  (nx (f_X7_mark Z p2 mP)).bind fun r36 =>
  if 0 ≤ r36 then
    (f_X7_caret Z vCar).bind fun r38 =>
    (nx (f_X7_mark Z p2 mP)).bind fun r39 =>
    if r38 ≤ r39 then
      (nx (f_X7_mark Z p2 mP)).bind fun r41 =>
      (f_X7_caret Z vCar).bind fun r42 =>
      f_L_isPasted_c53 Z p2 r35 (r41 - r42) vCar vGoa vEag tN tF cN cF mP mS kCap kGap kCar kCop kGro kShr hX hC hR aF
    else
      (f_X7_caret Z vCar).bind fun r43 =>
      (nx (f_X7_mark Z p2 mP)).bind fun r44 =>
      f_L_isPasted_c53 Z p2 r35 (r43 - r44) vCar vGoa vEag tN tF cN cF mP mS kCap kGap kCar kCop kGro kShr hX hC hR aF
  else
    f_L_isPasted_c53 Z p2 r35 99 vCar vGoa vEag tN tF cN cF mP mS kCap kGap kCar kCop kGro kShr hX hC hR aF
set_option maxRecDepth 100000 in
set_option maxHeartbeats 4000000 in
theorem k_L_isPasted (l : Launch) (D : va_G) (cI cS cL : ClassId) (Z : Nat) (hh : Nat → Nat) (h71 : Nat) (p2 : Int32) (vCar : Int32) (vGoa : Int32) (vEag : Int32) (tN : Int32) (tF : Nat → Int32) (cN : Int32) (cF : Nat → Int32) (mP : Nat → Int32) (mS : Nat → Int32) (kCap : Int32) (kGap : Int32) (kCar : Int32) (kCop : Int32) (kGro : Int32) (kShr : Int32) (bN : Int32) (bF : Nat → Int32) (rCmd : Int32) (rLet : Int32) (rNum : Int32) (fCap : Int32) (fGap : Int32) (fCar : Int32) (fCop : Int32) (fGro : Int32) (fShr : Int32) (hX : Int32) (hC : Int32) (hR : Nat → StT) (aF : Nat → Int32) {r : Int32} {vCar' : Int32} {vGoa' : Int32} {vEag' : Int32} {tN' : Int32} {tF' : Nat → Int32} {cN' : Int32} {cF' : Nat → Int32} {mP' : Nat → Int32} {mS' : Nat → Int32} {kCap' : Int32} {kGap' : Int32} {kCar' : Int32} {kCop' : Int32} {kGro' : Int32} {kShr' : Int32} {hX' : Int32} {hC' : Int32} {hR' : Nat → StT} {aF' : Nat → Int32} (h : f_L_isPasted Z p2 vCar vGoa vEag tN tF cN cF mP mS kCap kGap kCar kCop kGro kShr hX hC hR aF = some (r, vCar', vGoa', vEag', tN', tF', cN', cF', mP', mS', kCap', kGap', kCar', kCop', kGro', kShr', hX', hC', hR', aF')) : CI l yL_isPasted cL_isPasted 10 (some .boolean) rm_L_isPasted D cI cS cL [.ref (hh 0), .ref h71, .int p2] (wX7 cI cS hh vCar vGoa vEag tN tF cN cF mP mS kCap kGap kCar kCop kGro kShr bN bF rCmd rLet rNum fCap fGap fCar fCop fGro fShr hX hC hR ++ wA64 cI h71 aF) (wX7 cI cS hh (vCar') (vGoa') (vEag') (tN') (tF') (cN') (cF') (mP') (mS') (kCap') (kGap') (kCar') (kCop') (kGro') (kShr') bN bF rCmd rLet rNum fCap fGap fCar fCop fGro fShr (hX') (hC') (hR') ++ wA64 cI h71 (aF')) r := by
  refine ent_i (by decide +kernel) (Nat.le_of_ble_eq_true rfl) ?_
  intro p e s m args below meth c A ls hx hb hr hml hlocks hg hown hK hP hD hS hA hl
  have hown : s.vm.findClass RL = some m.cls := hown
  have c_183 : ∀ (n : Nat) (x3 : Int32) (x8 : Int32) (x9 : Int32) (vCar : Int32) (vGoa : Int32) (vEag : Int32) (tN : Int32) (tF : Nat → Int32) (cN : Int32) (cF : Nat → Int32) (mP : Nat → Int32) (mS : Nat → Int32) (kCap : Int32) (kGap : Int32) (kCar : Int32) (kCop : Int32) (kGro : Int32) (kShr : Int32) (hX : Int32) (hC : Int32) (hR : Nat → StT) (aF : Nat → Int32), f_L_isPasted_l183 Z p2 n x3 x8 x9 vCar vGoa vEag tN tF cN cF mP mS kCap kGap kCar kCop kGro kShr hX hC hR aF = some (r, vCar', vGoa', vEag', tN', tF', cN', cF', mP', mS', kCap', kGap', kCar', kCop', kGro', kShr', hX', hC', hR', aF') → ∀ (H : Heap) (locs : List Loc), va_P D vwCl (wX7 cI cS hh vCar vGoa vEag tN tF cN cF mP mS kCap kGap kCar kCop kGro kShr bN bF rCmd rLet rNum fCap fGap fCar fCop fGro fShr hX hC hR ++ wA64 cI h71 aF) H → va_D A (wX7 cI cS hh vCar vGoa vEag tN tF cN cF mP mS kCap kGap kCar kCop kGro kShr bN bF rCmd rLet rNum fCap fGap fCar fCop fGro fShr hX hC hR ++ wA64 cI h71 aF) → va_S A s.heap H locs → ∀ ls : Array Slot, lv_has ls 10 [(0, .ref (hh 0)), (1, .ref h71), (3, .int x3), (8, .int x8), (9, .int x9)] → W p l e rm_L_isPasted s m args below meth c H locs 0 0 (FI D below args s (wX7 cI cS hh (vCar') (vGoa') (vEag') (tN') (tF') (cN') (cF') (mP') (mS') (kCap') (kGap') (kCar') (kCop') (kGro') (kShr') bN bF rCmd rLet rNum fCap fGap fCar fCop fGro fShr (hX') (hC') (hR') ++ wA64 cI h71 (aF')) r A) (F0 m 183 ls []) := by
    intro n
    induction n with
    | zero => intro x3 x8 x9 vCar vGoa vEag tN tF cN cF mP mS kCap kGap kCar kCop kGro kShr hX hC hR aF h; exact no_some h
    | succ n ih =>
      intro x3 x8 x9 vCar vGoa vEag tN tF cN cF mP mS kCap kGap kCar kCop kGro kShr hX hC hR aF h H locs hP hD hS ls hl
      have h : f_L_isPasted_b183 Z p2 (f_L_isPasted_l183 Z p2 n) x3 x8 x9 vCar vGoa vEag tN tF cN cF mP mS kCap kGap kCar kCop kGro kShr hX hC hR aF = some (r, vCar', vGoa', vEag', tN', tF', cN', cF', mP', mS', kCap', kGap', kCar', kCop', kGro', kShr', hX', hC', hR', aF') := h
      unfold f_L_isPasted_b183 at h
      refine lv_iload hx hb dL_isPasted_183 (lv_at hl 4 rfl) ?_
      refine lv_iload_n hx hb dL_isPasted_185 rfl (lv_at hl 2 rfl) ?_
      refine lv_icmp_ge (tgt := 220) hx hb dL_isPasted_186 (by decide) (fun q1 => ?_) (fun q1 => ?_)
      · replace h := it_some q1 h
        refine lv_aload_n hx hb dL_isPasted_220 rfl (lv_at hl 0 rfl) ?_
        obtain ⟨⟨r2, vCar_2, vGoa_2, vEag_2, tN_2, tF_2, cN_2, cF_2, mP_2, mS_2, kCap_2, kGap_2, kCar_2, kCop_2, kGro_2, kShr_2, hX_2, hC_2⟩, ec2, h⟩ := bd_some h
        refine cP_i (As := []) (rest := []) (wc := (wX7 cI cS hh vCar vGoa vEag tN tF cN cF mP mS kCap kGap kCar kCop kGro kShr bN bF rCmd rLet rNum fCap fGap fCar fCop fGro fShr hX hC hR)) (wc' := (wX7 cI cS hh vCar_2 vGoa_2 vEag_2 tN_2 tF_2 cN_2 cF_2 mP_2 mS_2 kCap_2 kGap_2 kCar_2 kCop_2 kGro_2 kShr_2 bN bF rCmd rLet rNum fCap fGap fCar fCop fGro fShr hX_2 hC_2 hR)) (ws' := (wX7 cI cS hh vCar_2 vGoa_2 vEag_2 tN_2 tF_2 cN_2 cF_2 mP_2 mS_2 kCap_2 kGap_2 kCar_2 kCop_2 kGro_2 kShr_2 bN bF rCmd rLet rNum fCap fGap fCar fCop fGro fShr hX_2 hC_2 hR ++ wA64 cI h71 aF)) hx hb hml hown hg hK hP hD hS hA hl.1 (k_X7_undo l D cI cS cL Z hh vCar vGoa vEag tN tF cN cF mP mS kCap kGap kCar kCop kGro kShr bN bF rCmd rLet rNum fCap fGap fCar fCop fGro fShr hX hC hR (nx_some ec2)) gm_X7_undo gw_197 ⟨rfl, rfl, by decide, by decide⟩ ⟨Nat.zero_le _, Nat.zero_le _⟩ (List.Perm.refl _) (List.Perm.refl _) fst_X7 rfl rfl rfl rfl rfl (Nat.le_of_ble_eq_true rfl) dL_isPasted_221 (fun H locs hP hD hS => ?_)
        refine lv_pop hx hb dL_isPasted_224 rfl ?_
        refine lv_aload_n hx hb dL_isPasted_225 rfl (lv_at hl 0 rfl) ?_
        obtain ⟨⟨r3, vCar_3, vGoa_3, vEag_3, tN_3, tF_3, cN_3, cF_3, mP_3, mS_3, kCap_3, kGap_3, kCar_3, kCop_3, kGro_3, kShr_3, hX_3, hC_3⟩, ec3, h⟩ := bd_some h
        refine cP_i (As := []) (rest := []) (wc := (wX7 cI cS hh vCar_2 vGoa_2 vEag_2 tN_2 tF_2 cN_2 cF_2 mP_2 mS_2 kCap_2 kGap_2 kCar_2 kCop_2 kGro_2 kShr_2 bN bF rCmd rLet rNum fCap fGap fCar fCop fGro fShr hX_2 hC_2 hR)) (wc' := (wX7 cI cS hh vCar_3 vGoa_3 vEag_3 tN_3 tF_3 cN_3 cF_3 mP_3 mS_3 kCap_3 kGap_3 kCar_3 kCop_3 kGro_3 kShr_3 bN bF rCmd rLet rNum fCap fGap fCar fCop fGro fShr hX_3 hC_3 hR)) (ws' := (wX7 cI cS hh vCar_3 vGoa_3 vEag_3 tN_3 tF_3 cN_3 cF_3 mP_3 mS_3 kCap_3 kGap_3 kCar_3 kCop_3 kGro_3 kShr_3 bN bF rCmd rLet rNum fCap fGap fCar fCop fGro fShr hX_3 hC_3 hR ++ wA64 cI h71 aF)) hx hb hml hown hg hK hP hD hS hA hl.1 (k_X7_undo l D cI cS cL Z hh vCar_2 vGoa_2 vEag_2 tN_2 tF_2 cN_2 cF_2 mP_2 mS_2 kCap_2 kGap_2 kCar_2 kCop_2 kGro_2 kShr_2 bN bF rCmd rLet rNum fCap fGap fCar fCop fGro fShr hX_2 hC_2 hR (nx_some ec3)) gm_X7_undo gw_197 ⟨rfl, rfl, by decide, by decide⟩ ⟨Nat.zero_le _, Nat.zero_le _⟩ (List.Perm.refl _) (List.Perm.refl _) fst_X7 rfl rfl rfl rfl rfl (Nat.le_of_ble_eq_true rfl) dL_isPasted_226 (fun H locs hP hD hS => ?_)
        refine lv_pop hx hb dL_isPasted_229 rfl ?_
        refine lv_iload hx hb dL_isPasted_230 (lv_at hl 3 rfl) ?_
        obtain ⟨b4, h⟩ := kb_some h
        cases h
        exact ret_z hx hb hr hlocks hP hD hS dL_isPasted_232 b4 rfl
      · replace h := if_some q1 h
        refine lv_iload hx hb dL_isPasted_189 (lv_at hl 3 rfl) ?_
        refine lv_if_eq (tgt := 211) hx hb dL_isPasted_191 (by decide) (fun q5 => ?_) (fun q5 => ?_)
        · replace h := it_some q5 h
          refine lv_iconst (v := 0) hx hb dL_isPasted_211 (by decide) ?_
          refine lv_istore (lv' := [(8, .int 0), (0, .ref (hh 0)), (1, .ref h71), (3, .int x3), (9, .int x9)]) hx hb dL_isPasted_212 hl (by decide) rfl (fun ls hl => ?_)
          obtain ⟨x9_6, ex9_6, h⟩ := kl_some h
          refine lv_iinc (v := x9_6) (lv' := [(9, .int x9_6), (8, .int 0), (0, .ref (hh 0)), (1, .ref h71), (3, .int x3)]) hx hb dL_isPasted_214 hl (k := 4) rfl (by rw [ex9_6]; rfl) (by decide) rfl (fun ls hl => ?_)
          refine lv_goto (tgt := 183) hx hb dL_isPasted_217 (by decide) ?_
          exact ih x3 0 x9_6 vCar vGoa vEag tN tF cN cF mP mS kCap kGap kCar kCop kGro kShr hX hC hR aF h H locs hP hD hS ls (lv_sub hl [2, 3, 4, 1, 0] rfl)
        · replace h := if_some q5 h
          refine lv_aload_n hx hb dL_isPasted_194 rfl (lv_at hl 0 rfl) ?_
          refine lv_iload hx hb dL_isPasted_195 (lv_at hl 4 rfl) ?_
          obtain ⟨r7, ec7, h⟩ := bd_some h
          refine cP_i (As := [.int x9]) (rest := []) (wc := (wX7 cI cS hh vCar vGoa vEag tN tF cN cF mP mS kCap kGap kCar kCop kGro kShr bN bF rCmd rLet rNum fCap fGap fCar fCop fGro fShr hX hC hR)) (wc' := (wX7 cI cS hh vCar vGoa vEag tN tF cN cF mP mS kCap kGap kCar kCop kGro kShr bN bF rCmd rLet rNum fCap fGap fCar fCop fGro fShr hX hC hR)) (ws' := (wX7 cI cS hh vCar vGoa vEag tN tF cN cF mP mS kCap kGap kCar kCop kGro kShr bN bF rCmd rLet rNum fCap fGap fCar fCop fGro fShr hX hC hR ++ wA64 cI h71 aF)) hx hb hml hown hg hK hP hD hS hA hl.1 (k_X7_byteAt l D cI cS cL Z hh x9 vCar vGoa vEag tN tF cN cF mP mS kCap kGap kCar kCop kGro kShr bN bF rCmd rLet rNum fCap fGap fCar fCop fGro fShr hX hC hR (nx_some ec7)) gm_X7_byteAt gw_621 ⟨rfl, rfl, by decide, by decide⟩ ⟨Nat.zero_le _, Nat.zero_le _⟩ (List.Perm.refl _) (List.Perm.refl _) fst_X7 rfl rfl rfl rfl rfl (Nat.le_of_ble_eq_true rfl) dL_isPasted_197 (fun H locs hP hD hS => ?_)
          refine lv_aload_n hx hb dL_isPasted_200 rfl (lv_at hl 1 rfl) ?_
          refine lv_iload hx hb dL_isPasted_201 (lv_at hl 4 rfl) ?_
          obtain ⟨v8, h⟩ := rd_some h
          refine va_iald hx hb hK.1 hP 71 0 rfl rfl v8 dL_isPasted_203 ?_
          refine lv_icmp_ne (tgt := 211) hx hb dL_isPasted_204 (by decide) (fun q9 => ?_) (fun q9 => ?_)
          · replace h := if_some q9 h
            refine lv_iconst (v := 0) hx hb dL_isPasted_211 (by decide) ?_
            refine lv_istore (lv' := [(8, .int 0), (0, .ref (hh 0)), (1, .ref h71), (3, .int x3), (9, .int x9)]) hx hb dL_isPasted_212 hl (by decide) rfl (fun ls hl => ?_)
            obtain ⟨x9_10, ex9_10, h⟩ := kl_some h
            refine lv_iinc (v := x9_10) (lv' := [(9, .int x9_10), (8, .int 0), (0, .ref (hh 0)), (1, .ref h71), (3, .int x3)]) hx hb dL_isPasted_214 hl (k := 4) rfl (by rw [ex9_10]; rfl) (by decide) rfl (fun ls hl => ?_)
            refine lv_goto (tgt := 183) hx hb dL_isPasted_217 (by decide) ?_
            exact ih x3 0 x9_10 vCar vGoa vEag tN tF cN cF mP mS kCap kGap kCar kCop kGro kShr hX hC hR aF h H locs hP hD hS ls (lv_sub hl [2, 3, 4, 1, 0] rfl)
          · replace h := it_some q9 h
            refine lv_iconst (v := 1) hx hb dL_isPasted_207 (by decide) ?_
            refine lv_goto (tgt := 212) hx hb dL_isPasted_208 (by decide) ?_
            refine lv_istore (lv' := [(8, .int 1), (0, .ref (hh 0)), (1, .ref h71), (3, .int x3), (9, .int x9)]) hx hb dL_isPasted_212 hl (by decide) rfl (fun ls hl => ?_)
            obtain ⟨x9_11, ex9_11, h⟩ := kl_some h
            refine lv_iinc (v := x9_11) (lv' := [(9, .int x9_11), (8, .int 1), (0, .ref (hh 0)), (1, .ref h71), (3, .int x3)]) hx hb dL_isPasted_214 hl (k := 4) rfl (by rw [ex9_11]; rfl) (by decide) rfl (fun ls hl => ?_)
            refine lv_goto (tgt := 183) hx hb dL_isPasted_217 (by decide) ?_
            exact ih x3 1 x9_11 vCar vGoa vEag tN tF cN cF mP mS kCap kGap kCar kCop kGro kShr hX hC hR aF h H locs hP hD hS ls (lv_sub hl [2, 3, 4, 1, 0] rfl)
  have c_178 : ∀ (x3 : Int32) (y0 : Int32) (vCar : Int32) (vGoa : Int32) (vEag : Int32) (tN : Int32) (tF : Nat → Int32) (cN : Int32) (cF : Nat → Int32) (mP : Nat → Int32) (mS : Nat → Int32) (kCap : Int32) (kGap : Int32) (kCar : Int32) (kCop : Int32) (kGro : Int32) (kShr : Int32) (hX : Int32) (hC : Int32) (hR : Nat → StT) (aF : Nat → Int32), f_L_isPasted_c178 Z p2 x3 y0 vCar vGoa vEag tN tF cN cF mP mS kCap kGap kCar kCop kGro kShr hX hC hR aF = some (r, vCar', vGoa', vEag', tN', tF', cN', cF', mP', mS', kCap', kGap', kCar', kCop', kGro', kShr', hX', hC', hR', aF') → ∀ (H : Heap) (locs : List Loc), va_P D vwCl (wX7 cI cS hh vCar vGoa vEag tN tF cN cF mP mS kCap kGap kCar kCop kGro kShr bN bF rCmd rLet rNum fCap fGap fCar fCop fGro fShr hX hC hR ++ wA64 cI h71 aF) H → va_D A (wX7 cI cS hh vCar vGoa vEag tN tF cN cF mP mS kCap kGap kCar kCop kGro kShr bN bF rCmd rLet rNum fCap fGap fCar fCop fGro fShr hX hC hR ++ wA64 cI h71 aF) → va_S A s.heap H locs → ∀ ls : Array Slot, lv_has ls 10 [(0, .ref (hh 0)), (1, .ref h71), (3, .int x3)] → W p l e rm_L_isPasted s m args below meth c H locs 0 0 (FI D below args s (wX7 cI cS hh (vCar') (vGoa') (vEag') (tN') (tF') (cN') (cF') (mP') (mS') (kCap') (kGap') (kCar') (kCop') (kGro') (kShr') bN bF rCmd rLet rNum fCap fGap fCar fCop fGro fShr (hX') (hC') (hR') ++ wA64 cI h71 (aF')) r A) (F0 m 178 ls [.int y0]) := by
    intro x3 y0 vCar vGoa vEag tN tF cN cF mP mS kCap kGap kCar kCop kGro kShr hX hC hR aF h H locs hP hD hS ls hl
    unfold f_L_isPasted_c178 at h
    refine lv_istore (lv' := [(8, .int y0), (0, .ref (hh 0)), (1, .ref h71), (3, .int x3)]) hx hb dL_isPasted_178 hl (by decide) rfl (fun ls hl => ?_)
    refine lv_iconst (v := 0) hx hb dL_isPasted_180 (by decide) ?_
    refine lv_istore (lv' := [(9, .int 0), (8, .int y0), (0, .ref (hh 0)), (1, .ref h71), (3, .int x3)]) hx hb dL_isPasted_181 hl (by decide) rfl (fun ls hl => ?_)
    exact c_183 Z x3 y0 0 vCar vGoa vEag tN tF cN cF mP mS kCap kGap kCar kCop kGro kShr hX hC hR aF h H locs hP hD hS ls (lv_sub hl [2, 3, 4, 1, 0] rfl)
  have c_177 : ∀ (x3 : Int32) (vCar : Int32) (vGoa : Int32) (vEag : Int32) (tN : Int32) (tF : Nat → Int32) (cN : Int32) (cF : Nat → Int32) (mP : Nat → Int32) (mS : Nat → Int32) (kCap : Int32) (kGap : Int32) (kCar : Int32) (kCop : Int32) (kGro : Int32) (kShr : Int32) (hX : Int32) (hC : Int32) (hR : Nat → StT) (aF : Nat → Int32), f_L_isPasted_c177 Z p2 x3 vCar vGoa vEag tN tF cN cF mP mS kCap kGap kCar kCop kGro kShr hX hC hR aF = some (r, vCar', vGoa', vEag', tN', tF', cN', cF', mP', mS', kCap', kGap', kCar', kCop', kGro', kShr', hX', hC', hR', aF') → ∀ (H : Heap) (locs : List Loc), va_P D vwCl (wX7 cI cS hh vCar vGoa vEag tN tF cN cF mP mS kCap kGap kCar kCop kGro kShr bN bF rCmd rLet rNum fCap fGap fCar fCop fGro fShr hX hC hR ++ wA64 cI h71 aF) H → va_D A (wX7 cI cS hh vCar vGoa vEag tN tF cN cF mP mS kCap kGap kCar kCop kGro kShr bN bF rCmd rLet rNum fCap fGap fCar fCop fGro fShr hX hC hR ++ wA64 cI h71 aF) → va_S A s.heap H locs → ∀ ls : Array Slot, lv_has ls 10 [(0, .ref (hh 0)), (1, .ref h71), (3, .int x3)] → W p l e rm_L_isPasted s m args below meth c H locs 0 0 (FI D below args s (wX7 cI cS hh (vCar') (vGoa') (vEag') (tN') (tF') (cN') (cF') (mP') (mS') (kCap') (kGap') (kCar') (kCop') (kGro') (kShr') bN bF rCmd rLet rNum fCap fGap fCar fCop fGro fShr (hX') (hC') (hR') ++ wA64 cI h71 (aF')) r A) (F0 m 177 ls []) := by
    intro x3 vCar vGoa vEag tN tF cN cF mP mS kCap kGap kCar kCop kGro kShr hX hC hR aF h H locs hP hD hS ls hl
    unfold f_L_isPasted_c177 at h
    refine lv_iconst (v := 0) hx hb dL_isPasted_177 (by decide) ?_
    exact c_178 x3 0 vCar vGoa vEag tN tF cN cF mP mS kCap kGap kCar kCop kGro kShr hX hC hR aF h H locs hP hD hS ls (lv_sub hl [0, 1, 2] rfl)
  have c_165 : ∀ (x3 : Int32) (vCar : Int32) (vGoa : Int32) (vEag : Int32) (tN : Int32) (tF : Nat → Int32) (cN : Int32) (cF : Nat → Int32) (mP : Nat → Int32) (mS : Nat → Int32) (kCap : Int32) (kGap : Int32) (kCar : Int32) (kCop : Int32) (kGro : Int32) (kShr : Int32) (hX : Int32) (hC : Int32) (hR : Nat → StT) (aF : Nat → Int32), f_L_isPasted_c165 Z p2 x3 vCar vGoa vEag tN tF cN cF mP mS kCap kGap kCar kCop kGro kShr hX hC hR aF = some (r, vCar', vGoa', vEag', tN', tF', cN', cF', mP', mS', kCap', kGap', kCar', kCop', kGro', kShr', hX', hC', hR', aF') → ∀ (H : Heap) (locs : List Loc), va_P D vwCl (wX7 cI cS hh vCar vGoa vEag tN tF cN cF mP mS kCap kGap kCar kCop kGro kShr bN bF rCmd rLet rNum fCap fGap fCar fCop fGro fShr hX hC hR ++ wA64 cI h71 aF) H → va_D A (wX7 cI cS hh vCar vGoa vEag tN tF cN cF mP mS kCap kGap kCar kCop kGro kShr bN bF rCmd rLet rNum fCap fGap fCar fCop fGro fShr hX hC hR ++ wA64 cI h71 aF) → va_S A s.heap H locs → ∀ ls : Array Slot, lv_has ls 10 [(0, .ref (hh 0)), (1, .ref h71), (3, .int x3)] → W p l e rm_L_isPasted s m args below meth c H locs 0 0 (FI D below args s (wX7 cI cS hh (vCar') (vGoa') (vEag') (tN') (tF') (cN') (cF') (mP') (mS') (kCap') (kGap') (kCar') (kCop') (kGro') (kShr') bN bF rCmd rLet rNum fCap fGap fCar fCop fGro fShr (hX') (hC') (hR') ++ wA64 cI h71 (aF')) r A) (F0 m 165 ls []) := by
    intro x3 vCar vGoa vEag tN tF cN cF mP mS kCap kGap kCar kCop kGro kShr hX hC hR aF h H locs hP hD hS ls hl
    unfold f_L_isPasted_c165 at h
    refine lv_aload_n hx hb dL_isPasted_165 rfl (lv_at hl 0 rfl) ?_
    obtain ⟨⟨r12, vCar_12, vGoa_12, tN_12, tF_12, mP_12, kCap_12, kGap_12, kCar_12, kCop_12, kGro_12, hX_12, hC_12, hR_12⟩, ec12, h⟩ := bd_some h
    refine cP_i (As := []) (rest := []) (wc := (wX7 cI cS hh vCar vGoa vEag tN tF cN cF mP mS kCap kGap kCar kCop kGro kShr bN bF rCmd rLet rNum fCap fGap fCar fCop fGro fShr hX hC hR)) (wc' := (wX7 cI cS hh vCar_12 vGoa_12 vEag tN_12 tF_12 cN cF mP_12 mS kCap_12 kGap_12 kCar_12 kCop_12 kGro_12 kShr bN bF rCmd rLet rNum fCap fGap fCar fCop fGro fShr hX_12 hC_12 hR_12)) (ws' := (wX7 cI cS hh vCar_12 vGoa_12 vEag tN_12 tF_12 cN cF mP_12 mS kCap_12 kGap_12 kCar_12 kCop_12 kGro_12 kShr bN bF rCmd rLet rNum fCap fGap fCar fCop fGro fShr hX_12 hC_12 hR_12 ++ wA64 cI h71 aF)) hx hb hml hown hg hK hP hD hS hA hl.1 (k_X7_paste l D cI cS cL Z hh vCar vGoa vEag tN tF cN cF mP mS kCap kGap kCar kCop kGro kShr bN bF rCmd rLet rNum fCap fGap fCar fCop fGro fShr hX hC hR (nx_some ec12)) gm_X7_paste gw_593 ⟨rfl, rfl, by decide, by decide⟩ ⟨Nat.zero_le _, Nat.zero_le _⟩ (List.Perm.refl _) (List.Perm.refl _) fst_X7 rfl rfl rfl rfl rfl (Nat.le_of_ble_eq_true rfl) dL_isPasted_166 (fun H locs hP hD hS => ?_)
    refine lv_iload_n hx hb dL_isPasted_169 rfl (lv_at hl 2 rfl) ?_
    refine lv_icmp_ne (tgt := 177) hx hb dL_isPasted_170 (by decide) (fun q13 => ?_) (fun q13 => ?_)
    · replace h := if_some q13 h
      exact c_177 x3 vCar_12 vGoa_12 vEag tN_12 tF_12 cN cF mP_12 mS kCap_12 kGap_12 kCar_12 kCop_12 kGro_12 kShr hX_12 hC_12 hR_12 aF h H locs hP hD hS ls (lv_sub hl [0, 1, 2] rfl)
    · replace h := it_some q13 h
      refine lv_iconst (v := 1) hx hb dL_isPasted_173 (by decide) ?_
      refine lv_goto (tgt := 178) hx hb dL_isPasted_174 (by decide) ?_
      exact c_178 x3 1 vCar_12 vGoa_12 vEag tN_12 tF_12 cN cF mP_12 mS kCap_12 kGap_12 kCar_12 kCop_12 kGro_12 kShr hX_12 hC_12 hR_12 aF h H locs hP hD hS ls (lv_sub hl [0, 1, 2] rfl)
  have c_78 : ∀ (n : Nat) (x3 : Int32) (x4 : Int32) (x5 : Int32) (vCar : Int32) (vGoa : Int32) (vEag : Int32) (tN : Int32) (tF : Nat → Int32) (cN : Int32) (cF : Nat → Int32) (mP : Nat → Int32) (mS : Nat → Int32) (kCap : Int32) (kGap : Int32) (kCar : Int32) (kCop : Int32) (kGro : Int32) (kShr : Int32) (hX : Int32) (hC : Int32) (hR : Nat → StT) (aF : Nat → Int32), f_L_isPasted_l78 Z p2 n x3 x4 x5 vCar vGoa vEag tN tF cN cF mP mS kCap kGap kCar kCop kGro kShr hX hC hR aF = some (r, vCar', vGoa', vEag', tN', tF', cN', cF', mP', mS', kCap', kGap', kCar', kCop', kGro', kShr', hX', hC', hR', aF') → ∀ (H : Heap) (locs : List Loc), va_P D vwCl (wX7 cI cS hh vCar vGoa vEag tN tF cN cF mP mS kCap kGap kCar kCop kGro kShr bN bF rCmd rLet rNum fCap fGap fCar fCop fGro fShr hX hC hR ++ wA64 cI h71 aF) H → va_D A (wX7 cI cS hh vCar vGoa vEag tN tF cN cF mP mS kCap kGap kCar kCop kGro kShr bN bF rCmd rLet rNum fCap fGap fCar fCop fGro fShr hX hC hR ++ wA64 cI h71 aF) → va_S A s.heap H locs → ∀ ls : Array Slot, lv_has ls 10 [(0, .ref (hh 0)), (1, .ref h71), (2, .int p2), (3, .int x3), (4, .int x4), (5, .int x5)] → W p l e rm_L_isPasted s m args below meth c H locs 0 0 (FI D below args s (wX7 cI cS hh (vCar') (vGoa') (vEag') (tN') (tF') (cN') (cF') (mP') (mS') (kCap') (kGap') (kCar') (kCop') (kGro') (kShr') bN bF rCmd rLet rNum fCap fGap fCar fCop fGro fShr (hX') (hC') (hR') ++ wA64 cI h71 (aF')) r A) (F0 m 78 ls []) := by
    intro n
    induction n with
    | zero => intro x3 x4 x5 vCar vGoa vEag tN tF cN cF mP mS kCap kGap kCar kCop kGro kShr hX hC hR aF h; exact no_some h
    | succ n ih =>
      intro x3 x4 x5 vCar vGoa vEag tN tF cN cF mP mS kCap kGap kCar kCop kGro kShr hX hC hR aF h H locs hP hD hS ls hl
      have h : f_L_isPasted_b78 Z p2 (f_L_isPasted_l78 Z p2 n) x3 x4 x5 vCar vGoa vEag tN tF cN cF mP mS kCap kGap kCar kCop kGro kShr hX hC hR aF = some (r, vCar', vGoa', vEag', tN', tF', cN', cF', mP', mS', kCap', kGap', kCar', kCop', kGro', kShr', hX', hC', hR', aF') := h
      unfold f_L_isPasted_b78 at h
      refine lv_iload hx hb dL_isPasted_78 (lv_at hl 5 rfl) ?_
      refine lv_iload_n hx hb dL_isPasted_80 rfl (lv_at hl 3 rfl) ?_
      refine lv_icmp_ge (tgt := 100) hx hb dL_isPasted_81 (by decide) (fun q14 => ?_) (fun q14 => ?_)
      · replace h := it_some q14 h
        refine lv_aload_n hx hb dL_isPasted_100 rfl (lv_at hl 0 rfl) ?_
        obtain ⟨r15, ec15, h⟩ := bd_some h
        refine cP_i (As := []) (rest := []) (wc := (wX7 cI cS hh vCar vGoa vEag tN tF cN cF mP mS kCap kGap kCar kCop kGro kShr bN bF rCmd rLet rNum fCap fGap fCar fCop fGro fShr hX hC hR)) (wc' := (wX7 cI cS hh vCar vGoa vEag tN tF cN cF mP mS kCap kGap kCar kCop kGro kShr bN bF rCmd rLet rNum fCap fGap fCar fCop fGro fShr hX hC hR)) (ws' := (wX7 cI cS hh vCar vGoa vEag tN tF cN cF mP mS kCap kGap kCar kCop kGro kShr bN bF rCmd rLet rNum fCap fGap fCar fCop fGro fShr hX hC hR ++ wA64 cI h71 aF)) hx hb hml hown hg hK hP hD hS hA hl.1 (k_X7_copied l D cI cS cL Z hh vCar vGoa vEag tN tF cN cF mP mS kCap kGap kCar kCop kGro kShr bN bF rCmd rLet rNum fCap fGap fCar fCop fGro fShr hX hC hR ec15) gm_X7_copied gw_646 ⟨rfl, rfl, by decide, by decide⟩ ⟨Nat.zero_le _, Nat.zero_le _⟩ (List.Perm.refl _) (List.Perm.refl _) fst_X7 rfl rfl rfl rfl rfl (Nat.le_of_ble_eq_true rfl) dL_isPasted_101 (fun H locs hP hD hS => ?_)
        refine lv_istore (lv' := [(5, .int r15), (0, .ref (hh 0)), (1, .ref h71), (2, .int p2), (3, .int x3), (4, .int x4)]) hx hb dL_isPasted_104 hl (by decide) rfl (fun ls hl => ?_)
        refine lv_aload_n hx hb dL_isPasted_106 rfl (lv_at hl 1 rfl) ?_
        obtain ⟨r16, ec16, h⟩ := bd_some h
        refine cP_i (As := []) (rest := []) (wc := (wX7 cI cS hh vCar vGoa vEag tN tF cN cF mP mS kCap kGap kCar kCop kGro kShr bN bF rCmd rLet rNum fCap fGap fCar fCop fGro fShr hX hC hR)) (wc' := (wX7 cI cS hh vCar vGoa vEag tN tF cN cF mP mS kCap kGap kCar kCop kGro kShr bN bF rCmd rLet rNum fCap fGap fCar fCop fGro fShr hX hC hR)) (ws' := (wX7 cI cS hh vCar vGoa vEag tN tF cN cF mP mS kCap kGap kCar kCop kGro kShr bN bF rCmd rLet rNum fCap fGap fCar fCop fGro fShr hX hC hR ++ wA64 cI h71 aF)) hx hb hml hown hg hK hP hD hS hA hl.1 (k_X7_growths l D cI cS cL Z hh vCar vGoa vEag tN tF cN cF mP mS kCap kGap kCar kCop kGro kShr bN bF rCmd rLet rNum fCap fGap fCar fCop fGro fShr hX hC hR ec16) gm_X7_growths gw_650 ⟨rfl, rfl, by decide, by decide⟩ ⟨Nat.zero_le _, Nat.zero_le _⟩ (List.Perm.refl _) (List.Perm.refl _) fst_X7 rfl rfl rfl rfl rfl (Nat.le_of_ble_eq_true rfl) dL_isPasted_107 (fun H locs hP hD hS => ?_)
        refine lv_aload_n hx hb dL_isPasted_110 rfl (lv_at hl 1 rfl) ?_
        obtain ⟨r17, ec17, h⟩ := bd_some h
        refine cP_i (As := []) (rest := [.int r16]) (wc := (wX7 cI cS hh vCar vGoa vEag tN tF cN cF mP mS kCap kGap kCar kCop kGro kShr bN bF rCmd rLet rNum fCap fGap fCar fCop fGro fShr hX hC hR)) (wc' := (wX7 cI cS hh vCar vGoa vEag tN tF cN cF mP mS kCap kGap kCar kCop kGro kShr bN bF rCmd rLet rNum fCap fGap fCar fCop fGro fShr hX hC hR)) (ws' := (wX7 cI cS hh vCar vGoa vEag tN tF cN cF mP mS kCap kGap kCar kCop kGro kShr bN bF rCmd rLet rNum fCap fGap fCar fCop fGro fShr hX hC hR ++ wA64 cI h71 aF)) hx hb hml hown hg hK hP hD hS hA hl.1 (k_X7_shrinks l D cI cS cL Z hh vCar vGoa vEag tN tF cN cF mP mS kCap kGap kCar kCop kGro kShr bN bF rCmd rLet rNum fCap fGap fCar fCop fGro fShr hX hC hR ec17) gm_X7_shrinks gw_654 ⟨rfl, rfl, by decide, by decide⟩ ⟨Nat.zero_le _, Nat.zero_le _⟩ (List.Perm.refl _) (List.Perm.refl _) fst_X7 rfl rfl rfl rfl rfl (Nat.le_of_ble_eq_true rfl) dL_isPasted_111 (fun H locs hP hD hS => ?_)
        refine lv_iadd hx hb dL_isPasted_114 ?_
        obtain ⟨x6_18, ex6_18, h⟩ := kl_some h
        refine nm_i ex6_18 ?_
        refine lv_istore (lv' := [(6, .int x6_18), (5, .int r15), (0, .ref (hh 0)), (1, .ref h71), (2, .int p2), (3, .int x3), (4, .int x4)]) hx hb dL_isPasted_115 hl (by decide) rfl (fun ls hl => ?_)
        refine lv_aload_n hx hb dL_isPasted_117 rfl (lv_at hl 2 rfl) ?_
        refine lv_iload_n hx hb dL_isPasted_118 rfl (lv_at hl 4 rfl) ?_
        obtain ⟨⟨r19, vCar_19, vGoa_19, tN_19, tF_19, cN_19, cF_19, mP_19, kCap_19, kGap_19, kCar_19, kCop_19, kShr_19, hX_19, hC_19, hR_19⟩, ec19, h⟩ := bd_some h
        refine cP_i (As := [.int p2]) (rest := []) (wc := (wX7 cI cS hh vCar vGoa vEag tN tF cN cF mP mS kCap kGap kCar kCop kGro kShr bN bF rCmd rLet rNum fCap fGap fCar fCop fGro fShr hX hC hR)) (wc' := (wX7 cI cS hh vCar_19 vGoa_19 vEag tN_19 tF_19 cN_19 cF_19 mP_19 mS kCap_19 kGap_19 kCar_19 kCop_19 kGro kShr_19 bN bF rCmd rLet rNum fCap fGap fCar fCop fGro fShr hX_19 hC_19 hR_19)) (ws' := (wX7 cI cS hh vCar_19 vGoa_19 vEag tN_19 tF_19 cN_19 cF_19 mP_19 mS kCap_19 kGap_19 kCar_19 kCop_19 kGro kShr_19 bN bF rCmd rLet rNum fCap fGap fCar fCop fGro fShr hX_19 hC_19 hR_19 ++ wA64 cI h71 aF)) hx hb hml hown hg hK hP hD hS hA hl.1 (k_X7_cut l D cI cS cL Z hh p2 vCar vGoa vEag tN tF cN cF mP mS kCap kGap kCar kCop kGro kShr bN bF rCmd rLet rNum fCap fGap fCar fCop fGro fShr hX hC hR (nx_some ec19)) gm_X7_cut gw_579 ⟨rfl, rfl, by decide, by decide⟩ ⟨Nat.zero_le _, Nat.zero_le _⟩ (List.Perm.refl _) (List.Perm.refl _) fst_X7 rfl rfl rfl rfl rfl (Nat.le_of_ble_eq_true rfl) dL_isPasted_119 (fun H locs hP hD hS => ?_)
        refine lv_istore (lv' := [(7, .int r19), (6, .int x6_18), (5, .int r15), (0, .ref (hh 0)), (1, .ref h71), (2, .int p2), (3, .int x3), (4, .int x4)]) hx hb dL_isPasted_122 hl (by decide) rfl (fun ls hl => ?_)
        refine lv_iload hx hb dL_isPasted_124 (lv_at hl 0 rfl) ?_
        refine lv_iload hx hb dL_isPasted_126 (lv_at hl 7 rfl) ?_
        refine lv_icmp_ne (tgt := 177) hx hb dL_isPasted_128 (by decide) (fun q20 => ?_) (fun q20 => ?_)
        · replace h := if_some q20 h
          exact c_177 x3 vCar_19 vGoa_19 vEag tN_19 tF_19 cN_19 cF_19 mP_19 mS kCap_19 kGap_19 kCar_19 kCop_19 kGro kShr_19 hX_19 hC_19 hR_19 aF h H locs hP hD hS ls (lv_sub hl [3, 4, 6] rfl)
        · replace h := it_some q20 h
          refine lv_aload_n hx hb dL_isPasted_131 rfl (lv_at hl 3 rfl) ?_
          obtain ⟨r21, ec21, h⟩ := bd_some h
          refine cP_i (As := []) (rest := []) (wc := (wX7 cI cS hh vCar_19 vGoa_19 vEag tN_19 tF_19 cN_19 cF_19 mP_19 mS kCap_19 kGap_19 kCar_19 kCop_19 kGro kShr_19 bN bF rCmd rLet rNum fCap fGap fCar fCop fGro fShr hX_19 hC_19 hR_19)) (wc' := (wX7 cI cS hh vCar_19 vGoa_19 vEag tN_19 tF_19 cN_19 cF_19 mP_19 mS kCap_19 kGap_19 kCar_19 kCop_19 kGro kShr_19 bN bF rCmd rLet rNum fCap fGap fCar fCop fGro fShr hX_19 hC_19 hR_19)) (ws' := (wX7 cI cS hh vCar_19 vGoa_19 vEag tN_19 tF_19 cN_19 cF_19 mP_19 mS kCap_19 kGap_19 kCar_19 kCop_19 kGro kShr_19 bN bF rCmd rLet rNum fCap fGap fCar fCop fGro fShr hX_19 hC_19 hR_19 ++ wA64 cI h71 aF)) hx hb hml hown hg hK hP hD hS hA hl.1 (k_X7_length l D cI cS cL Z hh vCar_19 vGoa_19 vEag tN_19 tF_19 cN_19 cF_19 mP_19 mS kCap_19 kGap_19 kCar_19 kCop_19 kGro kShr_19 bN bF rCmd rLet rNum fCap fGap fCar fCop fGro fShr hX_19 hC_19 hR_19 ec21) gm_X7_length gw_357 ⟨rfl, rfl, by decide, by decide⟩ ⟨Nat.zero_le _, Nat.zero_le _⟩ (List.Perm.refl _) (List.Perm.refl _) fst_X7 rfl rfl rfl rfl rfl (Nat.le_of_ble_eq_true rfl) dL_isPasted_132 (fun H locs hP hD hS => ?_)
          refine lv_iload_n hx hb dL_isPasted_135 rfl (lv_at hl 6 rfl) ?_
          refine lv_iload hx hb dL_isPasted_136 (lv_at hl 7 rfl) ?_
          refine lv_isub hx hb dL_isPasted_138 ?_
          refine lv_icmp_ne (tgt := 177) hx hb dL_isPasted_139 (by decide) (fun q22 => ?_) (fun q22 => ?_)
          · replace h := if_some q22 h
            exact c_177 x3 vCar_19 vGoa_19 vEag tN_19 tF_19 cN_19 cF_19 mP_19 mS kCap_19 kGap_19 kCar_19 kCop_19 kGro kShr_19 hX_19 hC_19 hR_19 aF h H locs hP hD hS ls (lv_sub hl [3, 4, 6] rfl)
          · replace h := it_some q22 h
            refine lv_aload_n hx hb dL_isPasted_142 rfl (lv_at hl 3 rfl) ?_
            obtain ⟨r23, ec23, h⟩ := bd_some h
            refine cP_i (As := []) (rest := []) (wc := (wX7 cI cS hh vCar_19 vGoa_19 vEag tN_19 tF_19 cN_19 cF_19 mP_19 mS kCap_19 kGap_19 kCar_19 kCop_19 kGro kShr_19 bN bF rCmd rLet rNum fCap fGap fCar fCop fGro fShr hX_19 hC_19 hR_19)) (wc' := (wX7 cI cS hh vCar_19 vGoa_19 vEag tN_19 tF_19 cN_19 cF_19 mP_19 mS kCap_19 kGap_19 kCar_19 kCop_19 kGro kShr_19 bN bF rCmd rLet rNum fCap fGap fCar fCop fGro fShr hX_19 hC_19 hR_19)) (ws' := (wX7 cI cS hh vCar_19 vGoa_19 vEag tN_19 tF_19 cN_19 cF_19 mP_19 mS kCap_19 kGap_19 kCar_19 kCop_19 kGro kShr_19 bN bF rCmd rLet rNum fCap fGap fCar fCop fGro fShr hX_19 hC_19 hR_19 ++ wA64 cI h71 aF)) hx hb hml hown hg hK hP hD hS hA hl.1 (k_X7_growths l D cI cS cL Z hh vCar_19 vGoa_19 vEag tN_19 tF_19 cN_19 cF_19 mP_19 mS kCap_19 kGap_19 kCar_19 kCop_19 kGro kShr_19 bN bF rCmd rLet rNum fCap fGap fCar fCop fGro fShr hX_19 hC_19 hR_19 ec23) gm_X7_growths gw_650 ⟨rfl, rfl, by decide, by decide⟩ ⟨Nat.zero_le _, Nat.zero_le _⟩ (List.Perm.refl _) (List.Perm.refl _) fst_X7 rfl rfl rfl rfl rfl (Nat.le_of_ble_eq_true rfl) dL_isPasted_143 (fun H locs hP hD hS => ?_)
            refine lv_aload_n hx hb dL_isPasted_146 rfl (lv_at hl 3 rfl) ?_
            obtain ⟨r24, ec24, h⟩ := bd_some h
            refine cP_i (As := []) (rest := [.int r23]) (wc := (wX7 cI cS hh vCar_19 vGoa_19 vEag tN_19 tF_19 cN_19 cF_19 mP_19 mS kCap_19 kGap_19 kCar_19 kCop_19 kGro kShr_19 bN bF rCmd rLet rNum fCap fGap fCar fCop fGro fShr hX_19 hC_19 hR_19)) (wc' := (wX7 cI cS hh vCar_19 vGoa_19 vEag tN_19 tF_19 cN_19 cF_19 mP_19 mS kCap_19 kGap_19 kCar_19 kCop_19 kGro kShr_19 bN bF rCmd rLet rNum fCap fGap fCar fCop fGro fShr hX_19 hC_19 hR_19)) (ws' := (wX7 cI cS hh vCar_19 vGoa_19 vEag tN_19 tF_19 cN_19 cF_19 mP_19 mS kCap_19 kGap_19 kCar_19 kCop_19 kGro kShr_19 bN bF rCmd rLet rNum fCap fGap fCar fCop fGro fShr hX_19 hC_19 hR_19 ++ wA64 cI h71 aF)) hx hb hml hown hg hK hP hD hS hA hl.1 (k_X7_shrinks l D cI cS cL Z hh vCar_19 vGoa_19 vEag tN_19 tF_19 cN_19 cF_19 mP_19 mS kCap_19 kGap_19 kCar_19 kCop_19 kGro kShr_19 bN bF rCmd rLet rNum fCap fGap fCar fCop fGro fShr hX_19 hC_19 hR_19 ec24) gm_X7_shrinks gw_654 ⟨rfl, rfl, by decide, by decide⟩ ⟨Nat.zero_le _, Nat.zero_le _⟩ (List.Perm.refl _) (List.Perm.refl _) fst_X7 rfl rfl rfl rfl rfl (Nat.le_of_ble_eq_true rfl) dL_isPasted_147 (fun H locs hP hD hS => ?_)
            refine lv_iadd hx hb dL_isPasted_150 ?_
            refine lv_iload hx hb dL_isPasted_151 (lv_at hl 1 rfl) ?_
            refine lv_icmp_gt (tgt := 165) hx hb dL_isPasted_153 (by decide) (fun q25 => ?_) (fun q25 => ?_)
            · replace h := it_some q25 h
              exact c_165 x3 vCar_19 vGoa_19 vEag tN_19 tF_19 cN_19 cF_19 mP_19 mS kCap_19 kGap_19 kCar_19 kCop_19 kGro kShr_19 hX_19 hC_19 hR_19 aF h H locs hP hD hS ls (lv_sub hl [3, 4, 6] rfl)
            · replace h := if_some q25 h
              refine lv_aload_n hx hb dL_isPasted_156 rfl (lv_at hl 3 rfl) ?_
              obtain ⟨r26, ec26, h⟩ := bd_some h
              refine cP_i (As := []) (rest := []) (wc := (wX7 cI cS hh vCar_19 vGoa_19 vEag tN_19 tF_19 cN_19 cF_19 mP_19 mS kCap_19 kGap_19 kCar_19 kCop_19 kGro kShr_19 bN bF rCmd rLet rNum fCap fGap fCar fCop fGro fShr hX_19 hC_19 hR_19)) (wc' := (wX7 cI cS hh vCar_19 vGoa_19 vEag tN_19 tF_19 cN_19 cF_19 mP_19 mS kCap_19 kGap_19 kCar_19 kCop_19 kGro kShr_19 bN bF rCmd rLet rNum fCap fGap fCar fCop fGro fShr hX_19 hC_19 hR_19)) (ws' := (wX7 cI cS hh vCar_19 vGoa_19 vEag tN_19 tF_19 cN_19 cF_19 mP_19 mS kCap_19 kGap_19 kCar_19 kCop_19 kGro kShr_19 bN bF rCmd rLet rNum fCap fGap fCar fCop fGro fShr hX_19 hC_19 hR_19 ++ wA64 cI h71 aF)) hx hb hml hown hg hK hP hD hS hA hl.1 (k_X7_copied l D cI cS cL Z hh vCar_19 vGoa_19 vEag tN_19 tF_19 cN_19 cF_19 mP_19 mS kCap_19 kGap_19 kCar_19 kCop_19 kGro kShr_19 bN bF rCmd rLet rNum fCap fGap fCar fCop fGro fShr hX_19 hC_19 hR_19 ec26) gm_X7_copied gw_646 ⟨rfl, rfl, by decide, by decide⟩ ⟨Nat.zero_le _, Nat.zero_le _⟩ (List.Perm.refl _) (List.Perm.refl _) fst_X7 rfl rfl rfl rfl rfl (Nat.le_of_ble_eq_true rfl) dL_isPasted_157 (fun H locs hP hD hS => ?_)
              refine lv_iload hx hb dL_isPasted_160 (lv_at hl 2 rfl) ?_
              refine lv_icmp_ne (tgt := 177) hx hb dL_isPasted_162 (by decide) (fun q27 => ?_) (fun q27 => ?_)
              · replace h := if_some q27 h
                exact c_177 x3 vCar_19 vGoa_19 vEag tN_19 tF_19 cN_19 cF_19 mP_19 mS kCap_19 kGap_19 kCar_19 kCop_19 kGro kShr_19 hX_19 hC_19 hR_19 aF h H locs hP hD hS ls (lv_sub hl [3, 4, 6] rfl)
              · replace h := it_some q27 h
                exact c_165 x3 vCar_19 vGoa_19 vEag tN_19 tF_19 cN_19 cF_19 mP_19 mS kCap_19 kGap_19 kCar_19 kCop_19 kGro kShr_19 hX_19 hC_19 hR_19 aF h H locs hP hD hS ls (lv_sub hl [3, 4, 6] rfl)
      · replace h := if_some q14 h
        refine lv_aload_n hx hb dL_isPasted_84 rfl (lv_at hl 1 rfl) ?_
        refine lv_iload hx hb dL_isPasted_85 (lv_at hl 5 rfl) ?_
        refine lv_aload_n hx hb dL_isPasted_87 rfl (lv_at hl 0 rfl) ?_
        refine lv_iload hx hb dL_isPasted_88 (lv_at hl 5 rfl) ?_
        obtain ⟨r28, ec28, h⟩ := bd_some h
        refine cP_i (As := [.int x5]) (rest := [.int x5, .ref h71]) (wc := (wX7 cI cS hh vCar vGoa vEag tN tF cN cF mP mS kCap kGap kCar kCop kGro kShr bN bF rCmd rLet rNum fCap fGap fCar fCop fGro fShr hX hC hR)) (wc' := (wX7 cI cS hh vCar vGoa vEag tN tF cN cF mP mS kCap kGap kCar kCop kGro kShr bN bF rCmd rLet rNum fCap fGap fCar fCop fGro fShr hX hC hR)) (ws' := (wX7 cI cS hh vCar vGoa vEag tN tF cN cF mP mS kCap kGap kCar kCop kGro kShr bN bF rCmd rLet rNum fCap fGap fCar fCop fGro fShr hX hC hR ++ wA64 cI h71 aF)) hx hb hml hown hg hK hP hD hS hA hl.1 (k_X7_byteAt l D cI cS cL Z hh x5 vCar vGoa vEag tN tF cN cF mP mS kCap kGap kCar kCop kGro kShr bN bF rCmd rLet rNum fCap fGap fCar fCop fGro fShr hX hC hR (nx_some ec28)) gm_X7_byteAt gw_621 ⟨rfl, rfl, by decide, by decide⟩ ⟨Nat.zero_le _, Nat.zero_le _⟩ (List.Perm.refl _) (List.Perm.refl _) fst_X7 rfl rfl rfl rfl rfl (Nat.le_of_ble_eq_true rfl) dL_isPasted_90 (fun H locs hP hD hS => ?_)
        obtain ⟨v29, h⟩ := rd_some h
        obtain ⟨aF_30, eaF_30, h⟩ := kl_some h
        refine va_iast hx hb hK.1 hP hD hS 71 0 rfl rfl v29 dL_isPasted_93 (fun H locs hP hD hS => ?_)
        have hP : va_P D vwCl (wX7 cI cS hh vCar vGoa vEag tN tF cN cF mP mS kCap kGap kCar kCop kGro kShr bN bF rCmd rLet rNum fCap fGap fCar fCop fGro fShr hX hC hR ++ wA64 cI h71 aF_30) H := by rw [eaF_30]; exact hP
        have hD : va_D A (wX7 cI cS hh vCar vGoa vEag tN tF cN cF mP mS kCap kGap kCar kCop kGro kShr bN bF rCmd rLet rNum fCap fGap fCar fCop fGro fShr hX hC hR ++ wA64 cI h71 aF_30) := by rw [eaF_30]; exact hD
        obtain ⟨x5_31, ex5_31, h⟩ := kl_some h
        refine lv_iinc (v := x5_31) (lv' := [(5, .int x5_31), (0, .ref (hh 0)), (1, .ref h71), (2, .int p2), (3, .int x3), (4, .int x4)]) hx hb dL_isPasted_94 hl (k := 5) rfl (by rw [ex5_31]; rfl) (by decide) rfl (fun ls hl => ?_)
        refine lv_goto (tgt := 78) hx hb dL_isPasted_97 (by decide) ?_
        exact ih x3 x4 x5_31 vCar vGoa vEag tN tF cN cF mP mS kCap kGap kCar kCop kGro kShr hX hC hR aF_30 h H locs hP hD hS ls (lv_sub hl [1, 2, 3, 4, 5, 0] rfl)
  have c_53 : ∀ (x3 : Int32) (y0 : Int32) (vCar : Int32) (vGoa : Int32) (vEag : Int32) (tN : Int32) (tF : Nat → Int32) (cN : Int32) (cF : Nat → Int32) (mP : Nat → Int32) (mS : Nat → Int32) (kCap : Int32) (kGap : Int32) (kCar : Int32) (kCop : Int32) (kGro : Int32) (kShr : Int32) (hX : Int32) (hC : Int32) (hR : Nat → StT) (aF : Nat → Int32), f_L_isPasted_c53 Z p2 x3 y0 vCar vGoa vEag tN tF cN cF mP mS kCap kGap kCar kCop kGro kShr hX hC hR aF = some (r, vCar', vGoa', vEag', tN', tF', cN', cF', mP', mS', kCap', kGap', kCar', kCop', kGro', kShr', hX', hC', hR', aF') → ∀ (H : Heap) (locs : List Loc), va_P D vwCl (wX7 cI cS hh vCar vGoa vEag tN tF cN cF mP mS kCap kGap kCar kCop kGro kShr bN bF rCmd rLet rNum fCap fGap fCar fCop fGro fShr hX hC hR ++ wA64 cI h71 aF) H → va_D A (wX7 cI cS hh vCar vGoa vEag tN tF cN cF mP mS kCap kGap kCar kCop kGro kShr bN bF rCmd rLet rNum fCap fGap fCar fCop fGro fShr hX hC hR ++ wA64 cI h71 aF) → va_S A s.heap H locs → ∀ ls : Array Slot, lv_has ls 10 [(0, .ref (hh 0)), (1, .ref h71), (2, .int p2), (3, .int x3)] → W p l e rm_L_isPasted s m args below meth c H locs 0 0 (FI D below args s (wX7 cI cS hh (vCar') (vGoa') (vEag') (tN') (tF') (cN') (cF') (mP') (mS') (kCap') (kGap') (kCar') (kCop') (kGro') (kShr') bN bF rCmd rLet rNum fCap fGap fCar fCop fGro fShr (hX') (hC') (hR') ++ wA64 cI h71 (aF')) r A) (F0 m 53 ls [.int y0]) := by
    intro x3 y0 vCar vGoa vEag tN tF cN cF mP mS kCap kGap kCar kCop kGro kShr hX hC hR aF h H locs hP hD hS ls hl
    unfold f_L_isPasted_c53 at h
    refine lv_istore (lv' := [(4, .int y0), (0, .ref (hh 0)), (1, .ref h71), (2, .int p2), (3, .int x3)]) hx hb dL_isPasted_53 hl (by decide) rfl (fun ls hl => ?_)
    refine lv_iload hx hb dL_isPasted_55 (lv_at hl 0 rfl) ?_
    refine lv_bipush (v := 60) hx hb dL_isPasted_57 (by decide) ?_
    refine lv_icmp_gt (tgt := 73) hx hb dL_isPasted_59 (by decide) (fun q32 => ?_) (fun q32 => ?_)
    · replace h := it_some q32 h
      refine lv_iconst (v := 1) hx hb dL_isPasted_73 (by decide) ?_
      cases h
      exact ret_z hx hb hr hlocks hP hD hS dL_isPasted_74 (Or.inr rfl) rfl
    · replace h := if_some q32 h
      refine lv_iload hx hb dL_isPasted_62 (lv_at hl 0 rfl) ?_
      refine lv_if_eq (tgt := 73) hx hb dL_isPasted_64 (by decide) (fun q33 => ?_) (fun q33 => ?_)
      · replace h := it_some q33 h
        refine lv_iconst (v := 1) hx hb dL_isPasted_73 (by decide) ?_
        cases h
        exact ret_z hx hb hr hlocks hP hD hS dL_isPasted_74 (Or.inr rfl) rfl
      · replace h := if_some q33 h
        refine lv_iload_n hx hb dL_isPasted_67 rfl (lv_at hl 4 rfl) ?_
        refine lv_bipush (v := 64) hx hb dL_isPasted_68 (by decide) ?_
        refine lv_icmp_le (tgt := 75) hx hb dL_isPasted_70 (by decide) (fun q34 => ?_) (fun q34 => ?_)
        · replace h := it_some q34 h
          refine lv_iconst (v := 0) hx hb dL_isPasted_75 (by decide) ?_
          refine lv_istore (lv' := [(5, .int 0), (4, .int y0), (0, .ref (hh 0)), (1, .ref h71), (2, .int p2), (3, .int x3)]) hx hb dL_isPasted_76 hl (by decide) rfl (fun ls hl => ?_)
          exact c_78 Z x3 y0 0 vCar vGoa vEag tN tF cN cF mP mS kCap kGap kCar kCop kGro kShr hX hC hR aF h H locs hP hD hS ls (lv_sub hl [2, 3, 4, 5, 1, 0] rfl)
        · replace h := if_some q34 h
          refine lv_iconst (v := 1) hx hb dL_isPasted_73 (by decide) ?_
          cases h
          exact ret_z hx hb hr hlocks hP hD hS dL_isPasted_74 (Or.inr rfl) rfl
  have hl : lv_has ls 10 [(0, .ref (hh 0)), (1, .ref h71), (2, .int p2)] := hl
  have hP : va_P D vwCl (wX7 cI cS hh vCar vGoa vEag tN tF cN cF mP mS kCap kGap kCar kCop kGro kShr bN bF rCmd rLet rNum fCap fGap fCar fCop fGro fShr hX hC hR ++ wA64 cI h71 aF) s.heap := hP
  have hD : va_D A (wX7 cI cS hh vCar vGoa vEag tN tF cN cF mP mS kCap kGap kCar kCop kGro kShr bN bF rCmd rLet rNum fCap fGap fCar fCop fGro fShr hX hC hR ++ wA64 cI h71 aF) := hD
  show W p l e rm_L_isPasted s m args below meth c s.heap [] 0 0 (FI D below args s (wX7 cI cS hh (vCar') (vGoa') (vEag') (tN') (tF') (cN') (cF') (mP') (mS') (kCap') (kGap') (kCar') (kCop') (kGro') (kShr') bN bF rCmd rLet rNum fCap fGap fCar fCop fGro fShr (hX') (hC') (hR') ++ wA64 cI h71 (aF')) r A) (F0 m 0 ls [])
  unfold f_L_isPasted at h
  have hmain : ∀ (H : Heap) (locs : List Loc), va_P D vwCl (wX7 cI cS hh vCar vGoa vEag tN tF cN cF mP mS kCap kGap kCar kCop kGro kShr bN bF rCmd rLet rNum fCap fGap fCar fCop fGro fShr hX hC hR ++ wA64 cI h71 aF) H → va_S A s.heap H locs → W p l e rm_L_isPasted s m args below meth c H locs 0 0 (FI D below args s (wX7 cI cS hh (vCar') (vGoa') (vEag') (tN') (tF') (cN') (cF') (mP') (mS') (kCap') (kGap') (kCar') (kCop') (kGro') (kShr') bN bF rCmd rLet rNum fCap fGap fCar fCop fGro fShr (hX') (hC') (hR') ++ wA64 cI h71 (aF')) r A) (F0 m 0 ls []) := by
    intro H locs hP hS
    refine lv_aload_n hx hb dL_isPasted_0 rfl (lv_at hl 0 rfl) ?_
    obtain ⟨r35, ec35, h⟩ := bd_some h
    refine cP_i (As := []) (rest := []) (wc := (wX7 cI cS hh vCar vGoa vEag tN tF cN cF mP mS kCap kGap kCar kCop kGro kShr bN bF rCmd rLet rNum fCap fGap fCar fCop fGro fShr hX hC hR)) (wc' := (wX7 cI cS hh vCar vGoa vEag tN tF cN cF mP mS kCap kGap kCar kCop kGro kShr bN bF rCmd rLet rNum fCap fGap fCar fCop fGro fShr hX hC hR)) (ws' := (wX7 cI cS hh vCar vGoa vEag tN tF cN cF mP mS kCap kGap kCar kCop kGro kShr bN bF rCmd rLet rNum fCap fGap fCar fCop fGro fShr hX hC hR ++ wA64 cI h71 aF)) hx hb hml hown hg hK hP hD hS hA hl.1 (k_X7_length l D cI cS cL Z hh vCar vGoa vEag tN tF cN cF mP mS kCap kGap kCar kCop kGro kShr bN bF rCmd rLet rNum fCap fGap fCar fCop fGro fShr hX hC hR ec35) gm_X7_length gw_357 ⟨rfl, rfl, by decide, by decide⟩ ⟨Nat.zero_le _, Nat.zero_le _⟩ (List.Perm.refl _) (List.Perm.refl _) fst_X7 rfl rfl rfl rfl rfl (Nat.le_of_ble_eq_true rfl) dL_isPasted_1 (fun H locs hP hD hS => ?_)
    refine lv_istore_n (lv' := [(3, .int r35), (0, .ref (hh 0)), (1, .ref h71), (2, .int p2)]) hx hb dL_isPasted_4 rfl hl (by decide) rfl (fun ls hl => ?_)
    refine lv_aload_n hx hb dL_isPasted_5 rfl (lv_at hl 1 rfl) ?_
    refine lv_iload_n hx hb dL_isPasted_6 rfl (lv_at hl 3 rfl) ?_
    obtain ⟨r36, ec36, h⟩ := bd_some h
    refine cP_i (As := [.int p2]) (rest := []) (wc := (wX7 cI cS hh vCar vGoa vEag tN tF cN cF mP mS kCap kGap kCar kCop kGro kShr bN bF rCmd rLet rNum fCap fGap fCar fCop fGro fShr hX hC hR)) (wc' := (wX7 cI cS hh vCar vGoa vEag tN tF cN cF mP mS kCap kGap kCar kCop kGro kShr bN bF rCmd rLet rNum fCap fGap fCar fCop fGro fShr hX hC hR)) (ws' := (wX7 cI cS hh vCar vGoa vEag tN tF cN cF mP mS kCap kGap kCar kCop kGro kShr bN bF rCmd rLet rNum fCap fGap fCar fCop fGro fShr hX hC hR ++ wA64 cI h71 aF)) hx hb hml hown hg hK hP hD hS hA hl.1 (k_X7_mark l D cI cS cL Z hh p2 vCar vGoa vEag tN tF cN cF mP mS kCap kGap kCar kCop kGro kShr bN bF rCmd rLet rNum fCap fGap fCar fCop fGro fShr hX hC hR (nx_some ec36)) gm_X7_mark gw_362 ⟨rfl, rfl, by decide, by decide⟩ ⟨Nat.zero_le _, Nat.zero_le _⟩ (List.Perm.refl _) (List.Perm.refl _) fst_X7 rfl rfl rfl rfl rfl (Nat.le_of_ble_eq_true rfl) dL_isPasted_7 (fun H locs hP hD hS => ?_)
    refine lv_if_ge (tgt := 18) hx hb dL_isPasted_10 (by decide) (fun q37 => ?_) (fun q37 => ?_)
    · replace h := it_some q37 h
      refine lv_aload_n hx hb dL_isPasted_18 rfl (lv_at hl 1 rfl) ?_
      obtain ⟨r38, ec38, h⟩ := bd_some h
      refine cP_i (As := []) (rest := []) (wc := (wX7 cI cS hh vCar vGoa vEag tN tF cN cF mP mS kCap kGap kCar kCop kGro kShr bN bF rCmd rLet rNum fCap fGap fCar fCop fGro fShr hX hC hR)) (wc' := (wX7 cI cS hh vCar vGoa vEag tN tF cN cF mP mS kCap kGap kCar kCop kGro kShr bN bF rCmd rLet rNum fCap fGap fCar fCop fGro fShr hX hC hR)) (ws' := (wX7 cI cS hh vCar vGoa vEag tN tF cN cF mP mS kCap kGap kCar kCop kGro kShr bN bF rCmd rLet rNum fCap fGap fCar fCop fGro fShr hX hC hR ++ wA64 cI h71 aF)) hx hb hml hown hg hK hP hD hS hA hl.1 (k_X7_caret l D cI cS cL Z hh vCar vGoa vEag tN tF cN cF mP mS kCap kGap kCar kCop kGro kShr bN bF rCmd rLet rNum fCap fGap fCar fCop fGro fShr hX hC hR ec38) gm_X7_caret gw_386 ⟨rfl, rfl, by decide, by decide⟩ ⟨Nat.zero_le _, Nat.zero_le _⟩ (List.Perm.refl _) (List.Perm.refl _) fst_X7 rfl rfl rfl rfl rfl (Nat.le_of_ble_eq_true rfl) dL_isPasted_19 (fun H locs hP hD hS => ?_)
      refine lv_aload_n hx hb dL_isPasted_22 rfl (lv_at hl 1 rfl) ?_
      refine lv_iload_n hx hb dL_isPasted_23 rfl (lv_at hl 3 rfl) ?_
      obtain ⟨r39, ec39, h⟩ := bd_some h
      refine cP_i (As := [.int p2]) (rest := [.int r38]) (wc := (wX7 cI cS hh vCar vGoa vEag tN tF cN cF mP mS kCap kGap kCar kCop kGro kShr bN bF rCmd rLet rNum fCap fGap fCar fCop fGro fShr hX hC hR)) (wc' := (wX7 cI cS hh vCar vGoa vEag tN tF cN cF mP mS kCap kGap kCar kCop kGro kShr bN bF rCmd rLet rNum fCap fGap fCar fCop fGro fShr hX hC hR)) (ws' := (wX7 cI cS hh vCar vGoa vEag tN tF cN cF mP mS kCap kGap kCar kCop kGro kShr bN bF rCmd rLet rNum fCap fGap fCar fCop fGro fShr hX hC hR ++ wA64 cI h71 aF)) hx hb hml hown hg hK hP hD hS hA hl.1 (k_X7_mark l D cI cS cL Z hh p2 vCar vGoa vEag tN tF cN cF mP mS kCap kGap kCar kCop kGro kShr bN bF rCmd rLet rNum fCap fGap fCar fCop fGro fShr hX hC hR (nx_some ec39)) gm_X7_mark gw_362 ⟨rfl, rfl, by decide, by decide⟩ ⟨Nat.zero_le _, Nat.zero_le _⟩ (List.Perm.refl _) (List.Perm.refl _) fst_X7 rfl rfl rfl rfl rfl (Nat.le_of_ble_eq_true rfl) dL_isPasted_24 (fun H locs hP hD hS => ?_)
      refine lv_icmp_le (tgt := 43) hx hb dL_isPasted_27 (by decide) (fun q40 => ?_) (fun q40 => ?_)
      · replace h := it_some q40 h
        refine lv_aload_n hx hb dL_isPasted_43 rfl (lv_at hl 1 rfl) ?_
        refine lv_iload_n hx hb dL_isPasted_44 rfl (lv_at hl 3 rfl) ?_
        obtain ⟨r41, ec41, h⟩ := bd_some h
        refine cP_i (As := [.int p2]) (rest := []) (wc := (wX7 cI cS hh vCar vGoa vEag tN tF cN cF mP mS kCap kGap kCar kCop kGro kShr bN bF rCmd rLet rNum fCap fGap fCar fCop fGro fShr hX hC hR)) (wc' := (wX7 cI cS hh vCar vGoa vEag tN tF cN cF mP mS kCap kGap kCar kCop kGro kShr bN bF rCmd rLet rNum fCap fGap fCar fCop fGro fShr hX hC hR)) (ws' := (wX7 cI cS hh vCar vGoa vEag tN tF cN cF mP mS kCap kGap kCar kCop kGro kShr bN bF rCmd rLet rNum fCap fGap fCar fCop fGro fShr hX hC hR ++ wA64 cI h71 aF)) hx hb hml hown hg hK hP hD hS hA hl.1 (k_X7_mark l D cI cS cL Z hh p2 vCar vGoa vEag tN tF cN cF mP mS kCap kGap kCar kCop kGro kShr bN bF rCmd rLet rNum fCap fGap fCar fCop fGro fShr hX hC hR (nx_some ec41)) gm_X7_mark gw_362 ⟨rfl, rfl, by decide, by decide⟩ ⟨Nat.zero_le _, Nat.zero_le _⟩ (List.Perm.refl _) (List.Perm.refl _) fst_X7 rfl rfl rfl rfl rfl (Nat.le_of_ble_eq_true rfl) dL_isPasted_45 (fun H locs hP hD hS => ?_)
        refine lv_aload_n hx hb dL_isPasted_48 rfl (lv_at hl 1 rfl) ?_
        obtain ⟨r42, ec42, h⟩ := bd_some h
        refine cP_i (As := []) (rest := [.int r41]) (wc := (wX7 cI cS hh vCar vGoa vEag tN tF cN cF mP mS kCap kGap kCar kCop kGro kShr bN bF rCmd rLet rNum fCap fGap fCar fCop fGro fShr hX hC hR)) (wc' := (wX7 cI cS hh vCar vGoa vEag tN tF cN cF mP mS kCap kGap kCar kCop kGro kShr bN bF rCmd rLet rNum fCap fGap fCar fCop fGro fShr hX hC hR)) (ws' := (wX7 cI cS hh vCar vGoa vEag tN tF cN cF mP mS kCap kGap kCar kCop kGro kShr bN bF rCmd rLet rNum fCap fGap fCar fCop fGro fShr hX hC hR ++ wA64 cI h71 aF)) hx hb hml hown hg hK hP hD hS hA hl.1 (k_X7_caret l D cI cS cL Z hh vCar vGoa vEag tN tF cN cF mP mS kCap kGap kCar kCop kGro kShr bN bF rCmd rLet rNum fCap fGap fCar fCop fGro fShr hX hC hR ec42) gm_X7_caret gw_386 ⟨rfl, rfl, by decide, by decide⟩ ⟨Nat.zero_le _, Nat.zero_le _⟩ (List.Perm.refl _) (List.Perm.refl _) fst_X7 rfl rfl rfl rfl rfl (Nat.le_of_ble_eq_true rfl) dL_isPasted_49 (fun H locs hP hD hS => ?_)
        refine lv_isub hx hb dL_isPasted_52 ?_
        exact c_53 r35 (r41 - r42) vCar vGoa vEag tN tF cN cF mP mS kCap kGap kCar kCop kGro kShr hX hC hR aF h H locs hP hD hS ls (lv_sub hl [1, 2, 3, 0] rfl)
      · replace h := if_some q40 h
        refine lv_aload_n hx hb dL_isPasted_30 rfl (lv_at hl 1 rfl) ?_
        obtain ⟨r43, ec43, h⟩ := bd_some h
        refine cP_i (As := []) (rest := []) (wc := (wX7 cI cS hh vCar vGoa vEag tN tF cN cF mP mS kCap kGap kCar kCop kGro kShr bN bF rCmd rLet rNum fCap fGap fCar fCop fGro fShr hX hC hR)) (wc' := (wX7 cI cS hh vCar vGoa vEag tN tF cN cF mP mS kCap kGap kCar kCop kGro kShr bN bF rCmd rLet rNum fCap fGap fCar fCop fGro fShr hX hC hR)) (ws' := (wX7 cI cS hh vCar vGoa vEag tN tF cN cF mP mS kCap kGap kCar kCop kGro kShr bN bF rCmd rLet rNum fCap fGap fCar fCop fGro fShr hX hC hR ++ wA64 cI h71 aF)) hx hb hml hown hg hK hP hD hS hA hl.1 (k_X7_caret l D cI cS cL Z hh vCar vGoa vEag tN tF cN cF mP mS kCap kGap kCar kCop kGro kShr bN bF rCmd rLet rNum fCap fGap fCar fCop fGro fShr hX hC hR ec43) gm_X7_caret gw_386 ⟨rfl, rfl, by decide, by decide⟩ ⟨Nat.zero_le _, Nat.zero_le _⟩ (List.Perm.refl _) (List.Perm.refl _) fst_X7 rfl rfl rfl rfl rfl (Nat.le_of_ble_eq_true rfl) dL_isPasted_31 (fun H locs hP hD hS => ?_)
        refine lv_aload_n hx hb dL_isPasted_34 rfl (lv_at hl 1 rfl) ?_
        refine lv_iload_n hx hb dL_isPasted_35 rfl (lv_at hl 3 rfl) ?_
        obtain ⟨r44, ec44, h⟩ := bd_some h
        refine cP_i (As := [.int p2]) (rest := [.int r43]) (wc := (wX7 cI cS hh vCar vGoa vEag tN tF cN cF mP mS kCap kGap kCar kCop kGro kShr bN bF rCmd rLet rNum fCap fGap fCar fCop fGro fShr hX hC hR)) (wc' := (wX7 cI cS hh vCar vGoa vEag tN tF cN cF mP mS kCap kGap kCar kCop kGro kShr bN bF rCmd rLet rNum fCap fGap fCar fCop fGro fShr hX hC hR)) (ws' := (wX7 cI cS hh vCar vGoa vEag tN tF cN cF mP mS kCap kGap kCar kCop kGro kShr bN bF rCmd rLet rNum fCap fGap fCar fCop fGro fShr hX hC hR ++ wA64 cI h71 aF)) hx hb hml hown hg hK hP hD hS hA hl.1 (k_X7_mark l D cI cS cL Z hh p2 vCar vGoa vEag tN tF cN cF mP mS kCap kGap kCar kCop kGro kShr bN bF rCmd rLet rNum fCap fGap fCar fCop fGro fShr hX hC hR (nx_some ec44)) gm_X7_mark gw_362 ⟨rfl, rfl, by decide, by decide⟩ ⟨Nat.zero_le _, Nat.zero_le _⟩ (List.Perm.refl _) (List.Perm.refl _) fst_X7 rfl rfl rfl rfl rfl (Nat.le_of_ble_eq_true rfl) dL_isPasted_36 (fun H locs hP hD hS => ?_)
        refine lv_isub hx hb dL_isPasted_39 ?_
        refine lv_goto (tgt := 53) hx hb dL_isPasted_40 (by decide) ?_
        exact c_53 r35 (r43 - r44) vCar vGoa vEag tN tF cN cF mP mS kCap kGap kCar kCop kGro kShr hX hC hR aF h H locs hP hD hS ls (lv_sub hl [1, 2, 3, 0] rfl)
    · replace h := if_some q37 h
      refine lv_bipush (v := 99) hx hb dL_isPasted_13 (by decide) ?_
      refine lv_goto (tgt := 53) hx hb dL_isPasted_15 (by decide) ?_
      exact c_53 r35 99 vCar vGoa vEag tN tF cN cF mP mS kCap kGap kCar kCop kGro kShr hX hC hR aF h H locs hP hD hS ls (lv_sub hl [1, 2, 3, 0] rfl)
  exact hmain _ _ hP hS
