abbrev rm_L_act : Room := { frames := 6, cells := 0, slots := 0, locals := 135 }
def f_L_act_b450 (Z : Nat) (p1 : Int32) (p2 : Int32) (rec : Int32 → Int32 → Int32 → Int32 → Int32 → Int32 → (Nat → Int32) → Int32 → (Nat → Int32) → (Nat → Int32) → (Nat → Int32) → Int32 → Int32 → Int32 → Int32 → Int32 → Int32 → Int32 → Int32 → (Nat → StT) → Option (Int32 × Int32 × Int32 × Int32 × Int32 × (Nat → Int32) × Int32 × (Nat → Int32) × (Nat → Int32) × (Nat → Int32) × Int32 × Int32 × Int32 × Int32 × Int32 × Int32 × Int32 × Int32 × (Nat → StT))) (x3 : Int32) (x9 : Int32) (vCar : Int32) (vGoa : Int32) (vEag : Int32) (tN : Int32) (tF : Nat → Int32) (cN : Int32) (cF : Nat → Int32) (mP : Nat → Int32) (mS : Nat → Int32) (kCap : Int32) (kGap : Int32) (kCar : Int32) (kCop : Int32) (kGro : Int32) (kShr : Int32) (hX : Int32) (hC : Int32) (hR : Nat → StT) : Option (Int32 × Int32 × Int32 × Int32 × Int32 × (Nat → Int32) × Int32 × (Nat → Int32) × (Nat → Int32) × (Nat → Int32) × Int32 × Int32 × Int32 × Int32 × Int32 × Int32 × Int32 × Int32 × (Nat → StT)) :=
      (nx (f_X7_clip Z x9 cN cF)).bind fun r1 =>
      if r1 < 0 then
        if x9 = 0 then
          some ((-9), vCar, vGoa, vEag, tN, tF, cN, cF, mP, mS, kCap, kGap, kCar, kCop, kGro, kShr, hX, hC, hR)
        else
          if (x3 + x9) ≤ 256 then
            (nx (f_X7_paste Z vCar vGoa vEag tN tF cN cF mP mS kCap kGap kCar kCop kGro kShr hX hC hR)).bind fun (r5, vCar_5, vGoa_5, tN_5, tF_5, mP_5, kCap_5, kGap_5, kCar_5, kCop_5, kGro_5, hX_5, hC_5, hR_5) =>
            some (r5, vCar_5, vGoa_5, vEag, tN_5, tF_5, cN, cF, mP_5, mS, kCap_5, kGap_5, kCar_5, kCop_5, kGro_5, kShr, hX_5, hC_5, hR_5)
          else
            some ((-9), vCar, vGoa, vEag, tN, tF, cN, cF, mP, mS, kCap, kGap, kCar, kCop, kGro, kShr, hX, hC, hR)
      else
        kl (x9 + 1) fun x9_6 =>
        rec x3 x9_6 vCar vGoa vEag tN tF cN cF mP mS kCap kGap kCar kCop kGro kShr hX hC hR
def f_L_act_l450 (Z : Nat) (p1 : Int32) (p2 : Int32) : Nat → Int32 → Int32 → Int32 → Int32 → Int32 → Int32 → (Nat → Int32) → Int32 → (Nat → Int32) → (Nat → Int32) → (Nat → Int32) → Int32 → Int32 → Int32 → Int32 → Int32 → Int32 → Int32 → Int32 → (Nat → StT) → Option (Int32 × Int32 × Int32 × Int32 × Int32 × (Nat → Int32) × Int32 × (Nat → Int32) × (Nat → Int32) × (Nat → Int32) × Int32 × Int32 × Int32 × Int32 × Int32 × Int32 × Int32 × Int32 × (Nat → StT))
  | 0, _, _, _, _, _, _, _, _, _, _, _, _, _, _, _, _, _, _, _, _ => none
  | n + 1, x3, x9, vCar, vGoa, vEag, tN, tF, cN, cF, mP, mS, kCap, kGap, kCar, kCop, kGro, kShr, hX, hC, hR => f_L_act_b450 Z p1 p2 (f_L_act_l450 Z p1 p2 n) x3 x9 vCar vGoa vEag tN tF cN cF mP mS kCap kGap kCar kCop kGro kShr hX hC hR
def f_L_act_c211 (Z : Nat) (p1 : Int32) (p2 : Int32) (x3 : Int32) (x4 : Int32) (y0 : Int32) (y1 : Int32) (y2 : Int32) (vCar : Int32) (vGoa : Int32) (vEag : Int32) (tN : Int32) (tF : Nat → Int32) (cN : Int32) (cF : Nat → Int32) (mP : Nat → Int32) (mS : Nat → Int32) (kCap : Int32) (kGap : Int32) (kCar : Int32) (kCop : Int32) (kGro : Int32) (kShr : Int32) (hX : Int32) (hC : Int32) (hR : Nat → StT) : Option (Int32 × Int32 × Int32 × Int32 × Int32 × (Nat → Int32) × Int32 × (Nat → Int32) × (Nat → Int32) × (Nat → Int32) × Int32 × Int32 × Int32 × Int32 × Int32 × Int32 × Int32 × Int32 × (Nat → StT)) :=
    (f_L_low Z y1 y2).bind fun r7 =>
    kl (y0 + r7) fun x7_8 =>
    if (x3 + x7_8) ≤ 256 then
      (nx (f_X7_fill Z x4 x7_8 vCar vGoa vEag tN tF cN cF mP mS kCap kGap kCar kCop kGro kShr hX hC hR)).bind fun (r10, vCar_10, vGoa_10, tN_10, tF_10, mP_10, kCap_10, kGap_10, kCar_10, kCop_10, kGro_10, hX_10, hC_10, hR_10) =>
      some (r10, vCar_10, vGoa_10, vEag, tN_10, tF_10, cN, cF, mP_10, mS, kCap_10, kGap_10, kCar_10, kCop_10, kGro_10, kShr, hX_10, hC_10, hR_10)
    else
      some ((-9), vCar, vGoa, vEag, tN, tF, cN, cF, mP, mS, kCap, kGap, kCar, kCop, kGro, kShr, hX, hC, hR)
def f_L_act_c90 (Z : Nat) (p1 : Int32) (p2 : Int32) (x3 : Int32) (x4 : Int32) (x5 : Int32) (y0 : Int32) (vCar : Int32) (vGoa : Int32) (vEag : Int32) (tN : Int32) (tF : Nat → Int32) (cN : Int32) (cF : Nat → Int32) (mP : Nat → Int32) (mS : Nat → Int32) (kCap : Int32) (kGap : Int32) (kCar : Int32) (kCop : Int32) (kGro : Int32) (kShr : Int32) (hX : Int32) (hC : Int32) (hR : Nat → StT) : Option (Int32 × Int32 × Int32 × Int32 × Int32 × (Nat → Int32) × Int32 × (Nat → Int32) × (Nat → Int32) × (Nat → Int32) × Int32 × Int32 × Int32 × Int32 × Int32 × Int32 × Int32 × Int32 × (Nat → StT)) :=
    if (p1 &&& 15) = 0 then
      if x3 = 256 then
        some ((-9), vCar, vGoa, vEag, tN, tF, cN, cF, mP, mS, kCap, kGap, kCar, kCop, kGro, kShr, hX, hC, hR)
      else
        (nx (f_X7_type Z x4 vCar vGoa vEag tN tF cN cF mP mS kCap kGap kCar kCop kGro kShr hX hC hR)).bind fun (r13, vCar_13, vGoa_13, tN_13, tF_13, mP_13, kCap_13, kGap_13, kCar_13, kCop_13, kGro_13, hX_13, hC_13, hR_13) =>
        some (r13, vCar_13, vGoa_13, vEag, tN_13, tF_13, cN, cF, mP_13, mS, kCap_13, kGap_13, kCar_13, kCop_13, kGro_13, kShr, hX_13, hC_13, hR_13)
    else if (p1 &&& 15) = 1 then
      if x3 = 256 then
        some ((-9), vCar, vGoa, vEag, tN, tF, cN, cF, mP, mS, kCap, kGap, kCar, kCop, kGro, kShr, hX, hC, hR)
      else
        (nx (f_X7_type Z x4 vCar vGoa vEag tN tF cN cF mP mS kCap kGap kCar kCop kGro kShr hX hC hR)).bind fun (r16, vCar_16, vGoa_16, tN_16, tF_16, mP_16, kCap_16, kGap_16, kCar_16, kCop_16, kGro_16, hX_16, hC_16, hR_16) =>
        some (r16, vCar_16, vGoa_16, vEag, tN_16, tF_16, cN, cF, mP_16, mS, kCap_16, kGap_16, kCar_16, kCop_16, kGro_16, kShr, hX_16, hC_16, hR_16)
    else if (p1 &&& 15) = 2 then
      if ((p2 >>> (20 &&& 31)) &&& 1) = 0 then
        f_L_act_c211 Z p1 p2 x3 x4 1 (p2 >>> (4 &&& 31)) 9 vCar vGoa vEag tN tF cN cF mP mS kCap kGap kCar kCop kGro kShr hX hC hR
      else
        f_L_act_c211 Z p1 p2 x3 x4 1 (p2 >>> (4 &&& 31)) 100 vCar vGoa vEag tN tF cN cF mP mS kCap kGap kCar kCop kGro kShr hX hC hR
    else if (p1 &&& 15) = 3 then
      if ((p2 >>> (20 &&& 31)) &&& 1) = 0 then
        f_L_act_c211 Z p1 p2 x3 x4 1 (p2 >>> (4 &&& 31)) 9 vCar vGoa vEag tN tF cN cF mP mS kCap kGap kCar kCop kGro kShr hX hC hR
      else
        f_L_act_c211 Z p1 p2 x3 x4 1 (p2 >>> (4 &&& 31)) 100 vCar vGoa vEag tN tF cN cF mP mS kCap kGap kCar kCop kGro kShr hX hC hR
    else if (p1 &&& 15) = 4 then
      if ((p2 >>> (20 &&& 31)) &&& 1) = 0 then
        (f_L_low Z p2 9).bind fun r25 =>
        (nx (f_X7_erase Z (1 + r25) vCar vGoa vEag tN tF cN cF mP mS kCap kGap kCar kCop kGro kShr hX hC hR)).bind fun (r26, vCar_26, vGoa_26, tN_26, tF_26, mP_26, kCap_26, kGap_26, kCar_26, kCop_26, kShr_26, hX_26, hC_26, hR_26) =>
        some (r26, vCar_26, vGoa_26, vEag, tN_26, tF_26, cN, cF, mP_26, mS, kCap_26, kGap_26, kCar_26, kCop_26, kGro, kShr_26, hX_26, hC_26, hR_26)
      else
        (f_L_low Z p2 100).bind fun r23 =>
        (nx (f_X7_erase Z (1 + r23) vCar vGoa vEag tN tF cN cF mP mS kCap kGap kCar kCop kGro kShr hX hC hR)).bind fun (r24, vCar_24, vGoa_24, tN_24, tF_24, mP_24, kCap_24, kGap_24, kCar_24, kCop_24, kShr_24, hX_24, hC_24, hR_24) =>
        some (r24, vCar_24, vGoa_24, vEag, tN_24, tF_24, cN, cF, mP_24, mS, kCap_24, kGap_24, kCar_24, kCop_24, kGro, kShr_24, hX_24, hC_24, hR_24)
    else if (p1 &&& 15) = 5 then
      if ((p2 >>> (20 &&& 31)) &&& 1) = 0 then
        (f_L_low Z p2 9).bind fun r31 =>
        (nx (f_X7_backspace Z (1 + r31) vCar vGoa vEag tN tF cN cF mP mS kCap kGap kCar kCop kGro kShr hX hC hR)).bind fun (r32, vCar_32, vGoa_32, tN_32, tF_32, mP_32, kCap_32, kGap_32, kCar_32, kCop_32, kShr_32, hX_32, hC_32, hR_32) =>
        some (r32, vCar_32, vGoa_32, vEag, tN_32, tF_32, cN, cF, mP_32, mS, kCap_32, kGap_32, kCar_32, kCop_32, kGro, kShr_32, hX_32, hC_32, hR_32)
      else
        (f_L_low Z p2 100).bind fun r29 =>
        (nx (f_X7_backspace Z (1 + r29) vCar vGoa vEag tN tF cN cF mP mS kCap kGap kCar kCop kGro kShr hX hC hR)).bind fun (r30, vCar_30, vGoa_30, tN_30, tF_30, mP_30, kCap_30, kGap_30, kCar_30, kCop_30, kShr_30, hX_30, hC_30, hR_30) =>
        some (r30, vCar_30, vGoa_30, vEag, tN_30, tF_30, cN, cF, mP_30, mS, kCap_30, kGap_30, kCar_30, kCop_30, kGro, kShr_30, hX_30, hC_30, hR_30)
    else if (p1 &&& 15) = 6 then
      (f_L_low Z p2 (x3 + 1)).bind fun r34 =>
      (nx (f_X7_moveTo Z r34 vCar vGoa vEag tN tF cN cF mP mS kCap kGap kCar kCop kGro kShr hX hC hR)).bind fun (r35, vCar_35, vGoa_35, kGap_35, kCar_35, hX_35, hC_35, hR_35) =>
      some (r35, vCar_35, vGoa_35, vEag, tN, tF, cN, cF, mP, mS, kCap, kGap_35, kCar_35, kCop, kGro, kShr, hX_35, hC_35, hR_35)
    else if (p1 &&& 15) = 7 then
      (f_L_low Z p2 (x3 + 1)).bind fun r37 =>
      (nx (f_X7_moveTo Z r37 vCar vGoa vEag tN tF cN cF mP mS kCap kGap kCar kCop kGro kShr hX hC hR)).bind fun (r38, vCar_38, vGoa_38, kGap_38, kCar_38, hX_38, hC_38, hR_38) =>
      some (r38, vCar_38, vGoa_38, vEag, tN, tF, cN, cF, mP, mS, kCap, kGap_38, kCar_38, kCop, kGro, kShr, hX_38, hC_38, hR_38)
    else if (p1 &&& 15) = 8 then
      (f_L_low Z p2 201).bind fun r40 =>
      (nx (f_X7_moveBy Z (r40 - 100) vCar vGoa vEag tN tF cN cF mP mS kCap kGap kCar kCop kGro kShr hX hC hR)).bind fun (r41, vCar_41, vGoa_41, kGap_41, kCar_41, hX_41, hC_41, hR_41) =>
      some (r41, vCar_41, vGoa_41, vEag, tN, tF, cN, cF, mP, mS, kCap, kGap_41, kCar_41, kCop, kGro, kShr, hX_41, hC_41, hR_41)
    else if (p1 &&& 15) = 9 then
      if (p2 &&& 1) = 0 then
        (f_X7_up Z vCar vGoa vEag tN tF cN cF mP mS kCap kGap kCar kCop kGro kShr hX hC hR).bind fun (r45, vCar_45, kGap_45, kCar_45, hX_45, hC_45, hR_45) =>
        some (r45, vCar_45, vGoa, vEag, tN, tF, cN, cF, mP, mS, kCap, kGap_45, kCar_45, kCop, kGro, kShr, hX_45, hC_45, hR_45)
      else
        (f_X7_down Z vCar vGoa vEag tN tF cN cF mP mS kCap kGap kCar kCop kGro kShr hX hC hR).bind fun (r44, vCar_44, kGap_44, kCar_44, hX_44, hC_44, hR_44) =>
        some (r44, vCar_44, vGoa, vEag, tN, tF, cN, cF, mP, mS, kCap, kGap_44, kCar_44, kCop, kGro, kShr, hX_44, hC_44, hR_44)
    else if (p1 &&& 15) = 10 then
      if (p2 &&& 3) = 0 then
        if ((p2 >>> (2 &&& 31)) &&& 1) = 0 then
          (f_X7_setEager Z 1 vCar vGoa vEag tN tF cN cF mP mS kCap kGap kCar kCop kGro kShr hX hC hR).bind fun (r53, vEag_53, kGap_53, kCar_53, hX_53, hC_53, hR_53) =>
          some (r53, vCar, vGoa, vEag_53, tN, tF, cN, cF, mP, mS, kCap, kGap_53, kCar_53, kCop, kGro, kShr, hX_53, hC_53, hR_53)
        else
          (f_X7_setEager Z 0 vCar vGoa vEag tN tF cN cF mP mS kCap kGap kCar kCop kGro kShr hX hC hR).bind fun (r52, vEag_52, kGap_52, kCar_52, hX_52, hC_52, hR_52) =>
          some (r52, vCar, vGoa, vEag_52, tN, tF, cN, cF, mP, mS, kCap, kGap_52, kCar_52, kCop, kGro, kShr, hX_52, hC_52, hR_52)
      else
        if ((p2 >>> (2 &&& 31)) &&& 1) = 0 then
          (f_X7_moveInLine Z 1 vCar vGoa vEag tN tF cN cF mP mS kCap kGap kCar kCop kGro kShr hX hC hR).bind fun (r50, vCar_50, vGoa_50, kGap_50, kCar_50, hX_50, hC_50, hR_50) =>
          some (r50, vCar_50, vGoa_50, vEag, tN, tF, cN, cF, mP, mS, kCap, kGap_50, kCar_50, kCop, kGro, kShr, hX_50, hC_50, hR_50)
        else
          (f_X7_moveInLine Z 0 vCar vGoa vEag tN tF cN cF mP mS kCap kGap kCar kCop kGro kShr hX hC hR).bind fun (r49, vCar_49, vGoa_49, kGap_49, kCar_49, hX_49, hC_49, hR_49) =>
          some (r49, vCar_49, vGoa_49, vEag, tN, tF, cN, cF, mP, mS, kCap, kGap_49, kCar_49, kCop, kGro, kShr, hX_49, hC_49, hR_49)
    else if (p1 &&& 15) = 11 then
      (nx (f_X7_setMark Z x5 (p2 &&& 1) vCar vGoa vEag tN tF cN cF mP mS kCap kGap kCar kCop kGro kShr hX hC hR)).bind fun (r55, mP_55, mS_55, hX_55, hC_55, hR_55) =>
      if 0 ≤ r55 then
        some (r55, vCar, vGoa, vEag, tN, tF, cN, cF, mP_55, mS_55, kCap, kGap, kCar, kCop, kGro, kShr, hX_55, hC_55, hR_55)
      else
        some (999, vCar, vGoa, vEag, tN, tF, cN, cF, mP_55, mS_55, kCap, kGap, kCar, kCop, kGro, kShr, hX_55, hC_55, hR_55)
    else if (p1 &&& 15) = 12 then
      (nx (f_X7_setMark Z x5 (p2 &&& 1) vCar vGoa vEag tN tF cN cF mP mS kCap kGap kCar kCop kGro kShr hX hC hR)).bind fun (r58, mP_58, mS_58, hX_58, hC_58, hR_58) =>
      if 0 ≤ r58 then
        some (r58, vCar, vGoa, vEag, tN, tF, cN, cF, mP_58, mS_58, kCap, kGap, kCar, kCop, kGro, kShr, hX_58, hC_58, hR_58)
      else
        some (999, vCar, vGoa, vEag, tN, tF, cN, cF, mP_58, mS_58, kCap, kGap, kCar, kCop, kGro, kShr, hX_58, hC_58, hR_58)
    else if (p1 &&& 15) = 13 then
      if y0 ≤ 60 then
        (nx (f_X7_copy Z x5 vCar vGoa vEag tN tF cN cF mP mS kCap kGap kCar kCop kGro kShr hX hC hR)).bind fun (r62, cN_62, cF_62, hX_62, hC_62, hR_62) =>
        some (r62, vCar, vGoa, vEag, tN, tF, cN_62, cF_62, mP, mS, kCap, kGap, kCar, kCop, kGro, kShr, hX_62, hC_62, hR_62)
      else
        some ((-9), vCar, vGoa, vEag, tN, tF, cN, cF, mP, mS, kCap, kGap, kCar, kCop, kGro, kShr, hX, hC, hR)
    else if (p1 &&& 15) = 14 then
      if y0 ≤ 60 then
        (nx (f_X7_cut Z x5 vCar vGoa vEag tN tF cN cF mP mS kCap kGap kCar kCop kGro kShr hX hC hR)).bind fun (r65, vCar_65, vGoa_65, tN_65, tF_65, cN_65, cF_65, mP_65, kCap_65, kGap_65, kCar_65, kCop_65, kShr_65, hX_65, hC_65, hR_65) =>
        some (r65, vCar_65, vGoa_65, vEag, tN_65, tF_65, cN_65, cF_65, mP_65, mS, kCap_65, kGap_65, kCar_65, kCop_65, kGro, kShr_65, hX_65, hC_65, hR_65)
      else
        some ((-9), vCar, vGoa, vEag, tN, tF, cN, cF, mP, mS, kCap, kGap, kCar, kCop, kGro, kShr, hX, hC, hR)
    else if (p1 &&& 15) < 0 ∨ 14 < (p1 &&& 15) then
      f_L_act_l450 Z p1 p2 Z x3 0 vCar vGoa vEag tN tF cN cF mP mS kCap kGap kCar kCop kGro kShr hX hC hR
    else none
def f_L_act_c26 (Z : Nat) (p1 : Int32) (p2 : Int32) (x3 : Int32) (y0 : Int32) (vCar : Int32) (vGoa : Int32) (vEag : Int32) (tN : Int32) (tF : Nat → Int32) (cN : Int32) (cF : Nat → Int32) (mP : Nat → Int32) (mS : Nat → Int32) (kCap : Int32) (kGap : Int32) (kCar : Int32) (kCop : Int32) (kGro : Int32) (kShr : Int32) (hX : Int32) (hC : Int32) (hR : Nat → StT) : Option (Int32 × Int32 × Int32 × Int32 × Int32 × (Nat → Int32) × Int32 × (Nat → Int32) × (Nat → Int32) × (Nat → Int32) × Int32 × Int32 × Int32 × Int32 × Int32 × Int32 × Int32 × Int32 × (Nat → StT)) :=
    (f_L_low Z (p1 >>> (4 &&& 31)) 4).bind fun r67 =>
    (nx (f_X7_mark Z r67 mP)).bind fun r68 =>
    if 0 ≤ r68 then
      (f_X7_caret Z vCar).bind fun r70 =>
      (nx (f_X7_mark Z r67 mP)).bind fun r71 =>
      if r70 ≤ r71 then
        (nx (f_X7_mark Z r67 mP)).bind fun r73 =>
        (f_X7_caret Z vCar).bind fun r74 =>
        f_L_act_c90 Z p1 p2 x3 y0 r67 (r73 - r74) vCar vGoa vEag tN tF cN cF mP mS kCap kGap kCar kCop kGro kShr hX hC hR
      else
        (f_X7_caret Z vCar).bind fun r75 =>
        (nx (f_X7_mark Z r67 mP)).bind fun r76 =>
        f_L_act_c90 Z p1 p2 x3 y0 r67 (r75 - r76) vCar vGoa vEag tN tF cN cF mP mS kCap kGap kCar kCop kGro kShr hX hC hR
    else
      f_L_act_c90 Z p1 p2 x3 y0 r67 999 vCar vGoa vEag tN tF cN cF mP mS kCap kGap kCar kCop kGro kShr hX hC hR
def f_L_act (Z : Nat) (p1 : Int32) (p2 : Int32) (vCar : Int32) (vGoa : Int32) (vEag : Int32) (tN : Int32) (tF : Nat → Int32) (cN : Int32) (cF : Nat → Int32) (mP : Nat → Int32) (mS : Nat → Int32) (kCap : Int32) (kGap : Int32) (kCar : Int32) (kCop : Int32) (kGro : Int32) (kShr : Int32) (hX : Int32) (hC : Int32) (hR : Nat → StT) : Option (Int32 × Int32 × Int32 × Int32 × Int32 × (Nat → Int32) × Int32 × (Nat → Int32) × (Nat → Int32) × (Nat → Int32) × Int32 × Int32 × Int32 × Int32 × Int32 × Int32 × Int32 × Int32 × (Nat → StT)) :=
  (f_X7_length Z tN).bind fun r77 =>
  if (p2 &&& 3) = 0 then
    f_L_act_c26 Z p1 p2 r77 10 vCar vGoa vEag tN tF cN cF mP mS kCap kGap kCar kCop kGro kShr hX hC hR
  else
    (f_L_low Z (p2 >>> (2 &&& 31)) 4).bind fun r79 =>
    f_L_act_c26 Z p1 p2 r77 (97 + r79) vCar vGoa vEag tN tF cN cF mP mS kCap kGap kCar kCop kGro kShr hX hC hR
set_option maxRecDepth 100000 in
set_option maxHeartbeats 4000000 in
theorem k_L_act (l : Launch) (D : va_G) (cI cS cL : ClassId) (Z : Nat) (hh : Nat → Nat) (p1 : Int32) (p2 : Int32) (vCar : Int32) (vGoa : Int32) (vEag : Int32) (tN : Int32) (tF : Nat → Int32) (cN : Int32) (cF : Nat → Int32) (mP : Nat → Int32) (mS : Nat → Int32) (kCap : Int32) (kGap : Int32) (kCar : Int32) (kCop : Int32) (kGro : Int32) (kShr : Int32) (bN : Int32) (bF : Nat → Int32) (rCmd : Int32) (rLet : Int32) (rNum : Int32) (fCap : Int32) (fGap : Int32) (fCar : Int32) (fCop : Int32) (fGro : Int32) (fShr : Int32) (hX : Int32) (hC : Int32) (hR : Nat → StT) {r : Int32} {vCar' : Int32} {vGoa' : Int32} {vEag' : Int32} {tN' : Int32} {tF' : Nat → Int32} {cN' : Int32} {cF' : Nat → Int32} {mP' : Nat → Int32} {mS' : Nat → Int32} {kCap' : Int32} {kGap' : Int32} {kCar' : Int32} {kCop' : Int32} {kGro' : Int32} {kShr' : Int32} {hX' : Int32} {hC' : Int32} {hR' : Nat → StT} (h : f_L_act Z p1 p2 vCar vGoa vEag tN tF cN cF mP mS kCap kGap kCar kCop kGro kShr hX hC hR = some (r, vCar', vGoa', vEag', tN', tF', cN', cF', mP', mS', kCap', kGap', kCar', kCop', kGro', kShr', hX', hC', hR')) : CI l yL_act cL_act 10 (some .int) rm_L_act D cI cS cL [.ref (hh 0), .int p1, .int p2] (wX7 cI cS hh vCar vGoa vEag tN tF cN cF mP mS kCap kGap kCar kCop kGro kShr bN bF rCmd rLet rNum fCap fGap fCar fCop fGro fShr hX hC hR) (wX7 cI cS hh (vCar') (vGoa') (vEag') (tN') (tF') (cN') (cF') (mP') (mS') (kCap') (kGap') (kCar') (kCop') (kGro') (kShr') bN bF rCmd rLet rNum fCap fGap fCar fCop fGro fShr (hX') (hC') (hR')) r := by
  refine ent_i (by decide +kernel) (Nat.le_of_ble_eq_true rfl) ?_
  intro p e s m args below meth c A ls hx hb hr hml hlocks hg hown hK hP hD hS hA hl
  have hown : s.vm.findClass RL = some m.cls := hown
  have c_450 : ∀ (n : Nat) (x3 : Int32) (x9 : Int32) (vCar : Int32) (vGoa : Int32) (vEag : Int32) (tN : Int32) (tF : Nat → Int32) (cN : Int32) (cF : Nat → Int32) (mP : Nat → Int32) (mS : Nat → Int32) (kCap : Int32) (kGap : Int32) (kCar : Int32) (kCop : Int32) (kGro : Int32) (kShr : Int32) (hX : Int32) (hC : Int32) (hR : Nat → StT), f_L_act_l450 Z p1 p2 n x3 x9 vCar vGoa vEag tN tF cN cF mP mS kCap kGap kCar kCop kGro kShr hX hC hR = some (r, vCar', vGoa', vEag', tN', tF', cN', cF', mP', mS', kCap', kGap', kCar', kCop', kGro', kShr', hX', hC', hR') → ∀ (H : Heap) (locs : List Loc), va_P D vwCl (wX7 cI cS hh vCar vGoa vEag tN tF cN cF mP mS kCap kGap kCar kCop kGro kShr bN bF rCmd rLet rNum fCap fGap fCar fCop fGro fShr hX hC hR) H → va_D A (wX7 cI cS hh vCar vGoa vEag tN tF cN cF mP mS kCap kGap kCar kCop kGro kShr bN bF rCmd rLet rNum fCap fGap fCar fCop fGro fShr hX hC hR) → va_S A s.heap H locs → ∀ ls : Array Slot, lv_has ls 10 [(0, .ref (hh 0)), (3, .int x3), (9, .int x9)] → W p l e rm_L_act s m args below meth c H locs 0 0 (FI D below args s (wX7 cI cS hh (vCar') (vGoa') (vEag') (tN') (tF') (cN') (cF') (mP') (mS') (kCap') (kGap') (kCar') (kCop') (kGro') (kShr') bN bF rCmd rLet rNum fCap fGap fCar fCop fGro fShr (hX') (hC') (hR')) r A) (F0 m 450 ls []) := by
    intro n
    induction n with
    | zero => intro x3 x9 vCar vGoa vEag tN tF cN cF mP mS kCap kGap kCar kCop kGro kShr hX hC hR h; exact no_some h
    | succ n ih =>
      intro x3 x9 vCar vGoa vEag tN tF cN cF mP mS kCap kGap kCar kCop kGro kShr hX hC hR h H locs hP hD hS ls hl
      have h : f_L_act_b450 Z p1 p2 (f_L_act_l450 Z p1 p2 n) x3 x9 vCar vGoa vEag tN tF cN cF mP mS kCap kGap kCar kCop kGro kShr hX hC hR = some (r, vCar', vGoa', vEag', tN', tF', cN', cF', mP', mS', kCap', kGap', kCar', kCop', kGro', kShr', hX', hC', hR') := h
      unfold f_L_act_b450 at h
      refine lv_aload_n hx hb dL_act_450 rfl (lv_at hl 0 rfl) ?_
      refine lv_iload hx hb dL_act_451 (lv_at hl 2 rfl) ?_
      obtain ⟨r1, ec1, h⟩ := bd_some h
      refine cP_i (As := [.int x9]) (rest := []) (wc := (wX7 cI cS hh vCar vGoa vEag tN tF cN cF mP mS kCap kGap kCar kCop kGro kShr bN bF rCmd rLet rNum fCap fGap fCar fCop fGro fShr hX hC hR)) (wc' := (wX7 cI cS hh vCar vGoa vEag tN tF cN cF mP mS kCap kGap kCar kCop kGro kShr bN bF rCmd rLet rNum fCap fGap fCar fCop fGro fShr hX hC hR)) (ws' := (wX7 cI cS hh vCar vGoa vEag tN tF cN cF mP mS kCap kGap kCar kCop kGro kShr bN bF rCmd rLet rNum fCap fGap fCar fCop fGro fShr hX hC hR)) hx hb hml hown hg hK hP hD hS hA hl.1 (k_X7_clip l D cI cS cL Z hh x9 vCar vGoa vEag tN tF cN cF mP mS kCap kGap kCar kCop kGro kShr bN bF rCmd rLet rNum fCap fGap fCar fCop fGro fShr hX hC hR (nx_some ec1)) gm_X7_clip gw_588 ⟨rfl, rfl, by decide, by decide⟩ ⟨Nat.zero_le _, Nat.zero_le _⟩ pm_all pm_all fst_X7 rfl rfl rfl rfl rfl (Nat.le_of_ble_eq_true rfl) dL_act_453 (fun H locs hP hD hS => ?_)
      refine lv_if_lt (tgt := 465) hx hb dL_act_456 (by decide) (fun q2 => ?_) (fun q2 => ?_)
      · replace h := it_some q2 h
        refine lv_iload hx hb dL_act_465 (lv_at hl 2 rfl) ?_
        refine lv_if_eq (tgt := 480) hx hb dL_act_467 (by decide) (fun q3 => ?_) (fun q3 => ?_)
        · replace h := it_some q3 h
          refine lv_bipush (v := (-9)) hx hb dL_act_480 (by decide) ?_
          refine lv_goto (tgt := 489) hx hb dL_act_482 (by decide) ?_
          cases h
          exact ret_i hx hb hr hlocks hP hD hS dL_act_489 rfl
        · replace h := if_some q3 h
          refine lv_iload_n hx hb dL_act_470 rfl (lv_at hl 1 rfl) ?_
          refine lv_iload hx hb dL_act_471 (lv_at hl 2 rfl) ?_
          refine lv_iadd hx hb dL_act_473 ?_
          refine lv_sipush (v := 256) hx hb dL_act_474 (by decide) ?_
          refine lv_icmp_le (tgt := 485) hx hb dL_act_477 (by decide) (fun q4 => ?_) (fun q4 => ?_)
          · replace h := it_some q4 h
            refine lv_aload_n hx hb dL_act_485 rfl (lv_at hl 0 rfl) ?_
            obtain ⟨⟨r5, vCar_5, vGoa_5, tN_5, tF_5, mP_5, kCap_5, kGap_5, kCar_5, kCop_5, kGro_5, hX_5, hC_5, hR_5⟩, ec5, h⟩ := bd_some h
            refine cP_i (As := []) (rest := []) (wc := (wX7 cI cS hh vCar vGoa vEag tN tF cN cF mP mS kCap kGap kCar kCop kGro kShr bN bF rCmd rLet rNum fCap fGap fCar fCop fGro fShr hX hC hR)) (wc' := (wX7 cI cS hh vCar_5 vGoa_5 vEag tN_5 tF_5 cN cF mP_5 mS kCap_5 kGap_5 kCar_5 kCop_5 kGro_5 kShr bN bF rCmd rLet rNum fCap fGap fCar fCop fGro fShr hX_5 hC_5 hR_5)) (ws' := (wX7 cI cS hh vCar_5 vGoa_5 vEag tN_5 tF_5 cN cF mP_5 mS kCap_5 kGap_5 kCar_5 kCop_5 kGro_5 kShr bN bF rCmd rLet rNum fCap fGap fCar fCop fGro fShr hX_5 hC_5 hR_5)) hx hb hml hown hg hK hP hD hS hA hl.1 (k_X7_paste l D cI cS cL Z hh vCar vGoa vEag tN tF cN cF mP mS kCap kGap kCar kCop kGro kShr bN bF rCmd rLet rNum fCap fGap fCar fCop fGro fShr hX hC hR (nx_some ec5)) gm_X7_paste gw_593 ⟨rfl, rfl, by decide, by decide⟩ ⟨Nat.zero_le _, Nat.zero_le _⟩ pm_all pm_all fst_X7 rfl rfl rfl rfl rfl (Nat.le_of_ble_eq_true rfl) dL_act_486 (fun H locs hP hD hS => ?_)
            cases h
            exact ret_i hx hb hr hlocks hP hD hS dL_act_489 rfl
          · replace h := if_some q4 h
            refine lv_bipush (v := (-9)) hx hb dL_act_480 (by decide) ?_
            refine lv_goto (tgt := 489) hx hb dL_act_482 (by decide) ?_
            cases h
            exact ret_i hx hb hr hlocks hP hD hS dL_act_489 rfl
      · replace h := if_some q2 h
        obtain ⟨x9_6, ex9_6, h⟩ := kl_some h
        refine lv_iinc (v := x9_6) (lv' := [(9, .int x9_6), (0, .ref (hh 0)), (3, .int x3)]) hx hb dL_act_459 hl (k := 2) rfl (by rw [ex9_6]; rfl) (by decide) rfl (fun ls hl => ?_)
        refine lv_goto (tgt := 450) hx hb dL_act_462 (by decide) ?_
        exact ih x3 x9_6 vCar vGoa vEag tN tF cN cF mP mS kCap kGap kCar kCop kGro kShr hX hC hR h H locs hP hD hS ls (lv_sub hl [1, 2, 0] rfl)
  have c_211 : ∀ (x3 : Int32) (x4 : Int32) (y0 : Int32) (y1 : Int32) (y2 : Int32) (vCar : Int32) (vGoa : Int32) (vEag : Int32) (tN : Int32) (tF : Nat → Int32) (cN : Int32) (cF : Nat → Int32) (mP : Nat → Int32) (mS : Nat → Int32) (kCap : Int32) (kGap : Int32) (kCar : Int32) (kCop : Int32) (kGro : Int32) (kShr : Int32) (hX : Int32) (hC : Int32) (hR : Nat → StT), f_L_act_c211 Z p1 p2 x3 x4 y0 y1 y2 vCar vGoa vEag tN tF cN cF mP mS kCap kGap kCar kCop kGro kShr hX hC hR = some (r, vCar', vGoa', vEag', tN', tF', cN', cF', mP', mS', kCap', kGap', kCar', kCop', kGro', kShr', hX', hC', hR') → ∀ (H : Heap) (locs : List Loc), va_P D vwCl (wX7 cI cS hh vCar vGoa vEag tN tF cN cF mP mS kCap kGap kCar kCop kGro kShr bN bF rCmd rLet rNum fCap fGap fCar fCop fGro fShr hX hC hR) H → va_D A (wX7 cI cS hh vCar vGoa vEag tN tF cN cF mP mS kCap kGap kCar kCop kGro kShr bN bF rCmd rLet rNum fCap fGap fCar fCop fGro fShr hX hC hR) → va_S A s.heap H locs → ∀ ls : Array Slot, lv_has ls 10 [(0, .ref (hh 0)), (3, .int x3), (4, .int x4)] → W p l e rm_L_act s m args below meth c H locs 0 0 (FI D below args s (wX7 cI cS hh (vCar') (vGoa') (vEag') (tN') (tF') (cN') (cF') (mP') (mS') (kCap') (kGap') (kCar') (kCop') (kGro') (kShr') bN bF rCmd rLet rNum fCap fGap fCar fCop fGro fShr (hX') (hC') (hR')) r A) (F0 m 211 ls [.int y2, .int y1, .int y0]) := by
    intro x3 x4 y0 y1 y2 vCar vGoa vEag tN tF cN cF mP mS kCap kGap kCar kCop kGro kShr hX hC hR h H locs hP hD hS ls hl
    unfold f_L_act_c211 at h
    obtain ⟨r7, ec7, h⟩ := bd_some h
    refine cS_i (As := [.int y1, .int y2]) (rest := [.int y0]) (wc := []) (wc' := []) hx hb hml hown hg hK hP hD hS hA hl.1 (k_L_low l D cI cS cL Z y1 y2 ec7) gs_L_low gw_350 ⟨rfl, rfl, by decide, by decide⟩ ⟨Nat.zero_le _, Nat.zero_le _⟩ [] rfl rfl rfl rfl rfl (Nat.le_of_ble_eq_true rfl) dL_act_211 (fun H locs hP hD hS => ?_)
    have hP : va_P D vwCl (wX7 cI cS hh vCar vGoa vEag tN tF cN cF mP mS kCap kGap kCar kCop kGro kShr bN bF rCmd rLet rNum fCap fGap fCar fCop fGro fShr hX hC hR) H := hP
    have hD : va_D A (wX7 cI cS hh vCar vGoa vEag tN tF cN cF mP mS kCap kGap kCar kCop kGro kShr bN bF rCmd rLet rNum fCap fGap fCar fCop fGro fShr hX hC hR) := hD
    refine lv_iadd hx hb dL_act_214 ?_
    obtain ⟨x7_8, ex7_8, h⟩ := kl_some h
    refine nm_i ex7_8 ?_
    refine lv_istore (lv' := [(7, .int x7_8), (0, .ref (hh 0)), (3, .int x3), (4, .int x4)]) hx hb dL_act_215 hl (by decide) rfl (fun ls hl => ?_)
    refine lv_iload_n hx hb dL_act_217 rfl (lv_at hl 2 rfl) ?_
    refine lv_iload hx hb dL_act_218 (lv_at hl 0 rfl) ?_
    refine lv_iadd hx hb dL_act_220 ?_
    refine lv_sipush (v := 256) hx hb dL_act_221 (by decide) ?_
    refine lv_icmp_le (tgt := 232) hx hb dL_act_224 (by decide) (fun q9 => ?_) (fun q9 => ?_)
    · replace h := it_some q9 h
      refine lv_aload_n hx hb dL_act_232 rfl (lv_at hl 1 rfl) ?_
      refine lv_iload hx hb dL_act_233 (lv_at hl 3 rfl) ?_
      refine lv_iload hx hb dL_act_235 (lv_at hl 0 rfl) ?_
      obtain ⟨⟨r10, vCar_10, vGoa_10, tN_10, tF_10, mP_10, kCap_10, kGap_10, kCar_10, kCop_10, kGro_10, hX_10, hC_10, hR_10⟩, ec10, h⟩ := bd_some h
      refine cP_i (As := [.int x4, .int x7_8]) (rest := []) (wc := (wX7 cI cS hh vCar vGoa vEag tN tF cN cF mP mS kCap kGap kCar kCop kGro kShr bN bF rCmd rLet rNum fCap fGap fCar fCop fGro fShr hX hC hR)) (wc' := (wX7 cI cS hh vCar_10 vGoa_10 vEag tN_10 tF_10 cN cF mP_10 mS kCap_10 kGap_10 kCar_10 kCop_10 kGro_10 kShr bN bF rCmd rLet rNum fCap fGap fCar fCop fGro fShr hX_10 hC_10 hR_10)) (ws' := (wX7 cI cS hh vCar_10 vGoa_10 vEag tN_10 tF_10 cN cF mP_10 mS kCap_10 kGap_10 kCar_10 kCop_10 kGro_10 kShr bN bF rCmd rLet rNum fCap fGap fCar fCop fGro fShr hX_10 hC_10 hR_10)) hx hb hml hown hg hK hP hD hS hA hl.1 (k_X7_fill l D cI cS cL Z hh x4 x7_8 vCar vGoa vEag tN tF cN cF mP mS kCap kGap kCar kCop kGro kShr bN bF rCmd rLet rNum fCap fGap fCar fCop fGro fShr hX hC hR (nx_some ec10)) gm_X7_fill gw_457 ⟨rfl, rfl, by decide, by decide⟩ ⟨Nat.zero_le _, Nat.zero_le _⟩ pm_all pm_all fst_X7 rfl rfl rfl rfl rfl (Nat.le_of_ble_eq_true rfl) dL_act_237 (fun H locs hP hD hS => ?_)
      cases h
      exact ret_i hx hb hr hlocks hP hD hS dL_act_240 rfl
    · replace h := if_some q9 h
      refine lv_bipush (v := (-9)) hx hb dL_act_227 (by decide) ?_
      refine lv_goto (tgt := 240) hx hb dL_act_229 (by decide) ?_
      cases h
      exact ret_i hx hb hr hlocks hP hD hS dL_act_240 rfl
  have c_90 : ∀ (x3 : Int32) (x4 : Int32) (x5 : Int32) (y0 : Int32) (vCar : Int32) (vGoa : Int32) (vEag : Int32) (tN : Int32) (tF : Nat → Int32) (cN : Int32) (cF : Nat → Int32) (mP : Nat → Int32) (mS : Nat → Int32) (kCap : Int32) (kGap : Int32) (kCar : Int32) (kCop : Int32) (kGro : Int32) (kShr : Int32) (hX : Int32) (hC : Int32) (hR : Nat → StT), f_L_act_c90 Z p1 p2 x3 x4 x5 y0 vCar vGoa vEag tN tF cN cF mP mS kCap kGap kCar kCop kGro kShr hX hC hR = some (r, vCar', vGoa', vEag', tN', tF', cN', cF', mP', mS', kCap', kGap', kCar', kCop', kGro', kShr', hX', hC', hR') → ∀ (H : Heap) (locs : List Loc), va_P D vwCl (wX7 cI cS hh vCar vGoa vEag tN tF cN cF mP mS kCap kGap kCar kCop kGro kShr bN bF rCmd rLet rNum fCap fGap fCar fCop fGro fShr hX hC hR) H → va_D A (wX7 cI cS hh vCar vGoa vEag tN tF cN cF mP mS kCap kGap kCar kCop kGro kShr bN bF rCmd rLet rNum fCap fGap fCar fCop fGro fShr hX hC hR) → va_S A s.heap H locs → ∀ ls : Array Slot, lv_has ls 10 [(0, .ref (hh 0)), (1, .int p1), (2, .int p2), (3, .int x3), (4, .int x4), (5, .int x5)] → W p l e rm_L_act s m args below meth c H locs 0 0 (FI D below args s (wX7 cI cS hh (vCar') (vGoa') (vEag') (tN') (tF') (cN') (cF') (mP') (mS') (kCap') (kGap') (kCar') (kCop') (kGro') (kShr') bN bF rCmd rLet rNum fCap fGap fCar fCop fGro fShr (hX') (hC') (hR')) r A) (F0 m 90 ls [.int y0]) := by
    intro x3 x4 x5 y0 vCar vGoa vEag tN tF cN cF mP mS kCap kGap kCar kCop kGro kShr hX hC hR h H locs hP hD hS ls hl
    unfold f_L_act_c90 at h
    refine lv_istore (lv' := [(6, .int y0), (0, .ref (hh 0)), (1, .int p1), (2, .int p2), (3, .int x3), (4, .int x4), (5, .int x5)]) hx hb dL_act_90 hl (by decide) rfl (fun ls hl => ?_)
    refine lv_iload_n hx hb dL_act_92 rfl (lv_at hl 2 rfl) ?_
    refine lv_bipush (v := 15) hx hb dL_act_93 (by decide) ?_
    refine lv_iand hx hb dL_act_95 ?_
    by_cases q11 : (p1 &&& 15) = 0
    · replace h := it_some q11 h
      refine nm_i (y := 0) q11.symm ?_
      refine lv_tableIn (off := 76) (tgt := 172) hx hb dL_act_96 (by decide) (by decide) (by decide) (by decide) ?_
      refine lv_iload_n hx hb dL_act_172 rfl (lv_at hl 4 rfl) ?_
      refine lv_sipush (v := 256) hx hb dL_act_173 (by decide) ?_
      refine lv_icmp_ne (tgt := 184) hx hb dL_act_176 (by decide) (fun q12 => ?_) (fun q12 => ?_)
      · replace h := if_some q12 h
        refine lv_aload_n hx hb dL_act_184 rfl (lv_at hl 1 rfl) ?_
        refine lv_iload hx hb dL_act_185 (lv_at hl 5 rfl) ?_
        obtain ⟨⟨r13, vCar_13, vGoa_13, tN_13, tF_13, mP_13, kCap_13, kGap_13, kCar_13, kCop_13, kGro_13, hX_13, hC_13, hR_13⟩, ec13, h⟩ := bd_some h
        refine cP_i (As := [.int x4]) (rest := []) (wc := (wX7 cI cS hh vCar vGoa vEag tN tF cN cF mP mS kCap kGap kCar kCop kGro kShr bN bF rCmd rLet rNum fCap fGap fCar fCop fGro fShr hX hC hR)) (wc' := (wX7 cI cS hh vCar_13 vGoa_13 vEag tN_13 tF_13 cN cF mP_13 mS kCap_13 kGap_13 kCar_13 kCop_13 kGro_13 kShr bN bF rCmd rLet rNum fCap fGap fCar fCop fGro fShr hX_13 hC_13 hR_13)) (ws' := (wX7 cI cS hh vCar_13 vGoa_13 vEag tN_13 tF_13 cN cF mP_13 mS kCap_13 kGap_13 kCar_13 kCop_13 kGro_13 kShr bN bF rCmd rLet rNum fCap fGap fCar fCop fGro fShr hX_13 hC_13 hR_13)) hx hb hml hown hg hK hP hD hS hA hl.1 (k_X7_type l D cI cS cL Z hh x4 vCar vGoa vEag tN tF cN cF mP mS kCap kGap kCar kCop kGro kShr bN bF rCmd rLet rNum fCap fGap fCar fCop fGro fShr hX hC hR (nx_some ec13)) gm_X7_type gw_390 ⟨rfl, rfl, by decide, by decide⟩ ⟨Nat.zero_le _, Nat.zero_le _⟩ pm_all pm_all fst_X7 rfl rfl rfl rfl rfl (Nat.le_of_ble_eq_true rfl) dL_act_187 (fun H locs hP hD hS => ?_)
        cases h
        exact ret_i hx hb hr hlocks hP hD hS dL_act_190 rfl
      · replace h := it_some q12 h
        refine lv_bipush (v := (-9)) hx hb dL_act_179 (by decide) ?_
        refine lv_goto (tgt := 190) hx hb dL_act_181 (by decide) ?_
        cases h
        exact ret_i hx hb hr hlocks hP hD hS dL_act_190 rfl
    replace h := if_some q11 h
    by_cases q14 : (p1 &&& 15) = 1
    · replace h := it_some q14 h
      refine nm_i (y := 1) q14.symm ?_
      refine lv_tableIn (off := 76) (tgt := 172) hx hb dL_act_96 (by decide) (by decide) (by decide) (by decide) ?_
      refine lv_iload_n hx hb dL_act_172 rfl (lv_at hl 4 rfl) ?_
      refine lv_sipush (v := 256) hx hb dL_act_173 (by decide) ?_
      refine lv_icmp_ne (tgt := 184) hx hb dL_act_176 (by decide) (fun q15 => ?_) (fun q15 => ?_)
      · replace h := if_some q15 h
        refine lv_aload_n hx hb dL_act_184 rfl (lv_at hl 1 rfl) ?_
        refine lv_iload hx hb dL_act_185 (lv_at hl 5 rfl) ?_
        obtain ⟨⟨r16, vCar_16, vGoa_16, tN_16, tF_16, mP_16, kCap_16, kGap_16, kCar_16, kCop_16, kGro_16, hX_16, hC_16, hR_16⟩, ec16, h⟩ := bd_some h
        refine cP_i (As := [.int x4]) (rest := []) (wc := (wX7 cI cS hh vCar vGoa vEag tN tF cN cF mP mS kCap kGap kCar kCop kGro kShr bN bF rCmd rLet rNum fCap fGap fCar fCop fGro fShr hX hC hR)) (wc' := (wX7 cI cS hh vCar_16 vGoa_16 vEag tN_16 tF_16 cN cF mP_16 mS kCap_16 kGap_16 kCar_16 kCop_16 kGro_16 kShr bN bF rCmd rLet rNum fCap fGap fCar fCop fGro fShr hX_16 hC_16 hR_16)) (ws' := (wX7 cI cS hh vCar_16 vGoa_16 vEag tN_16 tF_16 cN cF mP_16 mS kCap_16 kGap_16 kCar_16 kCop_16 kGro_16 kShr bN bF rCmd rLet rNum fCap fGap fCar fCop fGro fShr hX_16 hC_16 hR_16)) hx hb hml hown hg hK hP hD hS hA hl.1 (k_X7_type l D cI cS cL Z hh x4 vCar vGoa vEag tN tF cN cF mP mS kCap kGap kCar kCop kGro kShr bN bF rCmd rLet rNum fCap fGap fCar fCop fGro fShr hX hC hR (nx_some ec16)) gm_X7_type gw_390 ⟨rfl, rfl, by decide, by decide⟩ ⟨Nat.zero_le _, Nat.zero_le _⟩ pm_all pm_all fst_X7 rfl rfl rfl rfl rfl (Nat.le_of_ble_eq_true rfl) dL_act_187 (fun H locs hP hD hS => ?_)
        cases h
        exact ret_i hx hb hr hlocks hP hD hS dL_act_190 rfl
      · replace h := it_some q15 h
        refine lv_bipush (v := (-9)) hx hb dL_act_179 (by decide) ?_
        refine lv_goto (tgt := 190) hx hb dL_act_181 (by decide) ?_
        cases h
        exact ret_i hx hb hr hlocks hP hD hS dL_act_190 rfl
    replace h := if_some q14 h
    by_cases q17 : (p1 &&& 15) = 2
    · replace h := it_some q17 h
      refine nm_i (y := 2) q17.symm ?_
      refine lv_tableIn (off := 95) (tgt := 191) hx hb dL_act_96 (by decide) (by decide) (by decide) (by decide) ?_
      refine lv_iconst (v := 1) hx hb dL_act_191 (by decide) ?_
      refine lv_iload_n hx hb dL_act_192 rfl (lv_at hl 3 rfl) ?_
      refine lv_iconst (v := 4) hx hb dL_act_193 (by decide) ?_
      refine lv_ishr hx hb dL_act_194 ?_
      refine lv_iload_n hx hb dL_act_195 rfl (lv_at hl 3 rfl) ?_
      refine lv_bipush (v := 20) hx hb dL_act_196 (by decide) ?_
      refine lv_ishr hx hb dL_act_198 ?_
      refine lv_iconst (v := 1) hx hb dL_act_199 (by decide) ?_
      refine lv_iand hx hb dL_act_200 ?_
      refine lv_if_ne (tgt := 209) hx hb dL_act_201 (by decide) (fun q18 => ?_) (fun q18 => ?_)
      · replace h := if_some q18 h
        refine lv_bipush (v := 100) hx hb dL_act_209 (by decide) ?_
        exact c_211 x3 x4 1 (p2 >>> (4 &&& 31)) 100 vCar vGoa vEag tN tF cN cF mP mS kCap kGap kCar kCop kGro kShr hX hC hR h H locs hP hD hS ls (lv_sub hl [1, 4, 5] rfl)
      · replace h := it_some q18 h
        refine lv_bipush (v := 9) hx hb dL_act_204 (by decide) ?_
        refine lv_goto (tgt := 211) hx hb dL_act_206 (by decide) ?_
        exact c_211 x3 x4 1 (p2 >>> (4 &&& 31)) 9 vCar vGoa vEag tN tF cN cF mP mS kCap kGap kCar kCop kGro kShr hX hC hR h H locs hP hD hS ls (lv_sub hl [1, 4, 5] rfl)
    replace h := if_some q17 h
    by_cases q19 : (p1 &&& 15) = 3
    · replace h := it_some q19 h
      refine nm_i (y := 3) q19.symm ?_
      refine lv_tableIn (off := 95) (tgt := 191) hx hb dL_act_96 (by decide) (by decide) (by decide) (by decide) ?_
      refine lv_iconst (v := 1) hx hb dL_act_191 (by decide) ?_
      refine lv_iload_n hx hb dL_act_192 rfl (lv_at hl 3 rfl) ?_
      refine lv_iconst (v := 4) hx hb dL_act_193 (by decide) ?_
      refine lv_ishr hx hb dL_act_194 ?_
      refine lv_iload_n hx hb dL_act_195 rfl (lv_at hl 3 rfl) ?_
      refine lv_bipush (v := 20) hx hb dL_act_196 (by decide) ?_
      refine lv_ishr hx hb dL_act_198 ?_
      refine lv_iconst (v := 1) hx hb dL_act_199 (by decide) ?_
      refine lv_iand hx hb dL_act_200 ?_
      refine lv_if_ne (tgt := 209) hx hb dL_act_201 (by decide) (fun q20 => ?_) (fun q20 => ?_)
      · replace h := if_some q20 h
        refine lv_bipush (v := 100) hx hb dL_act_209 (by decide) ?_
        exact c_211 x3 x4 1 (p2 >>> (4 &&& 31)) 100 vCar vGoa vEag tN tF cN cF mP mS kCap kGap kCar kCop kGro kShr hX hC hR h H locs hP hD hS ls (lv_sub hl [1, 4, 5] rfl)
      · replace h := it_some q20 h
        refine lv_bipush (v := 9) hx hb dL_act_204 (by decide) ?_
        refine lv_goto (tgt := 211) hx hb dL_act_206 (by decide) ?_
        exact c_211 x3 x4 1 (p2 >>> (4 &&& 31)) 9 vCar vGoa vEag tN tF cN cF mP mS kCap kGap kCar kCop kGro kShr hX hC hR h H locs hP hD hS ls (lv_sub hl [1, 4, 5] rfl)
    replace h := if_some q19 h
    by_cases q21 : (p1 &&& 15) = 4
    · replace h := it_some q21 h
      refine nm_i (y := 4) q21.symm ?_
      refine lv_tableIn (off := 145) (tgt := 241) hx hb dL_act_96 (by decide) (by decide) (by decide) (by decide) ?_
      refine lv_aload_n hx hb dL_act_241 rfl (lv_at hl 1 rfl) ?_
      refine lv_iconst (v := 1) hx hb dL_act_242 (by decide) ?_
      refine lv_iload_n hx hb dL_act_243 rfl (lv_at hl 3 rfl) ?_
      refine lv_iload_n hx hb dL_act_244 rfl (lv_at hl 3 rfl) ?_
      refine lv_bipush (v := 20) hx hb dL_act_245 (by decide) ?_
      refine lv_ishr hx hb dL_act_247 ?_
      refine lv_iconst (v := 1) hx hb dL_act_248 (by decide) ?_
      refine lv_iand hx hb dL_act_249 ?_
      refine lv_if_ne (tgt := 258) hx hb dL_act_250 (by decide) (fun q22 => ?_) (fun q22 => ?_)
      · replace h := if_some q22 h
        refine lv_bipush (v := 100) hx hb dL_act_258 (by decide) ?_
        obtain ⟨r23, ec23, h⟩ := bd_some h
        refine cS_i (As := [.int p2, .int 100]) (rest := [.int 1, .ref (hh 0)]) (wc := []) (wc' := []) hx hb hml hown hg hK hP hD hS hA hl.1 (k_L_low l D cI cS cL Z p2 100 ec23) gs_L_low gw_350 ⟨rfl, rfl, by decide, by decide⟩ ⟨Nat.zero_le _, Nat.zero_le _⟩ [] rfl rfl rfl rfl rfl (Nat.le_of_ble_eq_true rfl) dL_act_260 (fun H locs hP hD hS => ?_)
        have hP : va_P D vwCl (wX7 cI cS hh vCar vGoa vEag tN tF cN cF mP mS kCap kGap kCar kCop kGro kShr bN bF rCmd rLet rNum fCap fGap fCar fCop fGro fShr hX hC hR) H := hP
        have hD : va_D A (wX7 cI cS hh vCar vGoa vEag tN tF cN cF mP mS kCap kGap kCar kCop kGro kShr bN bF rCmd rLet rNum fCap fGap fCar fCop fGro fShr hX hC hR) := hD
        refine lv_iadd hx hb dL_act_263 ?_
        obtain ⟨⟨r24, vCar_24, vGoa_24, tN_24, tF_24, mP_24, kCap_24, kGap_24, kCar_24, kCop_24, kShr_24, hX_24, hC_24, hR_24⟩, ec24, h⟩ := bd_some h
        refine cP_i (As := [.int (1 + r23)]) (rest := []) (wc := (wX7 cI cS hh vCar vGoa vEag tN tF cN cF mP mS kCap kGap kCar kCop kGro kShr bN bF rCmd rLet rNum fCap fGap fCar fCop fGro fShr hX hC hR)) (wc' := (wX7 cI cS hh vCar_24 vGoa_24 vEag tN_24 tF_24 cN cF mP_24 mS kCap_24 kGap_24 kCar_24 kCop_24 kGro kShr_24 bN bF rCmd rLet rNum fCap fGap fCar fCop fGro fShr hX_24 hC_24 hR_24)) (ws' := (wX7 cI cS hh vCar_24 vGoa_24 vEag tN_24 tF_24 cN cF mP_24 mS kCap_24 kGap_24 kCar_24 kCop_24 kGro kShr_24 bN bF rCmd rLet rNum fCap fGap fCar fCop fGro fShr hX_24 hC_24 hR_24)) hx hb hml hown hg hK hP hD hS hA hl.1 (k_X7_erase l D cI cS cL Z hh (1 + r23) vCar vGoa vEag tN tF cN cF mP mS kCap kGap kCar kCop kGro kShr bN bF rCmd rLet rNum fCap fGap fCar fCop fGro fShr hX hC hR (nx_some ec24)) gm_X7_erase gw_464 ⟨rfl, rfl, by decide, by decide⟩ ⟨Nat.zero_le _, Nat.zero_le _⟩ pm_all pm_all fst_X7 rfl rfl rfl rfl rfl (Nat.le_of_ble_eq_true rfl) dL_act_264 (fun H locs hP hD hS => ?_)
        cases h
        exact ret_i hx hb hr hlocks hP hD hS dL_act_267 rfl
      · replace h := it_some q22 h
        refine lv_bipush (v := 9) hx hb dL_act_253 (by decide) ?_
        refine lv_goto (tgt := 260) hx hb dL_act_255 (by decide) ?_
        obtain ⟨r25, ec25, h⟩ := bd_some h
        refine cS_i (As := [.int p2, .int 9]) (rest := [.int 1, .ref (hh 0)]) (wc := []) (wc' := []) hx hb hml hown hg hK hP hD hS hA hl.1 (k_L_low l D cI cS cL Z p2 9 ec25) gs_L_low gw_350 ⟨rfl, rfl, by decide, by decide⟩ ⟨Nat.zero_le _, Nat.zero_le _⟩ [] rfl rfl rfl rfl rfl (Nat.le_of_ble_eq_true rfl) dL_act_260 (fun H locs hP hD hS => ?_)
        have hP : va_P D vwCl (wX7 cI cS hh vCar vGoa vEag tN tF cN cF mP mS kCap kGap kCar kCop kGro kShr bN bF rCmd rLet rNum fCap fGap fCar fCop fGro fShr hX hC hR) H := hP
        have hD : va_D A (wX7 cI cS hh vCar vGoa vEag tN tF cN cF mP mS kCap kGap kCar kCop kGro kShr bN bF rCmd rLet rNum fCap fGap fCar fCop fGro fShr hX hC hR) := hD
        refine lv_iadd hx hb dL_act_263 ?_
        obtain ⟨⟨r26, vCar_26, vGoa_26, tN_26, tF_26, mP_26, kCap_26, kGap_26, kCar_26, kCop_26, kShr_26, hX_26, hC_26, hR_26⟩, ec26, h⟩ := bd_some h
        refine cP_i (As := [.int (1 + r25)]) (rest := []) (wc := (wX7 cI cS hh vCar vGoa vEag tN tF cN cF mP mS kCap kGap kCar kCop kGro kShr bN bF rCmd rLet rNum fCap fGap fCar fCop fGro fShr hX hC hR)) (wc' := (wX7 cI cS hh vCar_26 vGoa_26 vEag tN_26 tF_26 cN cF mP_26 mS kCap_26 kGap_26 kCar_26 kCop_26 kGro kShr_26 bN bF rCmd rLet rNum fCap fGap fCar fCop fGro fShr hX_26 hC_26 hR_26)) (ws' := (wX7 cI cS hh vCar_26 vGoa_26 vEag tN_26 tF_26 cN cF mP_26 mS kCap_26 kGap_26 kCar_26 kCop_26 kGro kShr_26 bN bF rCmd rLet rNum fCap fGap fCar fCop fGro fShr hX_26 hC_26 hR_26)) hx hb hml hown hg hK hP hD hS hA hl.1 (k_X7_erase l D cI cS cL Z hh (1 + r25) vCar vGoa vEag tN tF cN cF mP mS kCap kGap kCar kCop kGro kShr bN bF rCmd rLet rNum fCap fGap fCar fCop fGro fShr hX hC hR (nx_some ec26)) gm_X7_erase gw_464 ⟨rfl, rfl, by decide, by decide⟩ ⟨Nat.zero_le _, Nat.zero_le _⟩ pm_all pm_all fst_X7 rfl rfl rfl rfl rfl (Nat.le_of_ble_eq_true rfl) dL_act_264 (fun H locs hP hD hS => ?_)
        cases h
        exact ret_i hx hb hr hlocks hP hD hS dL_act_267 rfl
    replace h := if_some q21 h
    by_cases q27 : (p1 &&& 15) = 5
    · replace h := it_some q27 h
      refine nm_i (y := 5) q27.symm ?_
      refine lv_tableIn (off := 172) (tgt := 268) hx hb dL_act_96 (by decide) (by decide) (by decide) (by decide) ?_
      refine lv_aload_n hx hb dL_act_268 rfl (lv_at hl 1 rfl) ?_
      refine lv_iconst (v := 1) hx hb dL_act_269 (by decide) ?_
      refine lv_iload_n hx hb dL_act_270 rfl (lv_at hl 3 rfl) ?_
      refine lv_iload_n hx hb dL_act_271 rfl (lv_at hl 3 rfl) ?_
      refine lv_bipush (v := 20) hx hb dL_act_272 (by decide) ?_
      refine lv_ishr hx hb dL_act_274 ?_
      refine lv_iconst (v := 1) hx hb dL_act_275 (by decide) ?_
      refine lv_iand hx hb dL_act_276 ?_
      refine lv_if_ne (tgt := 285) hx hb dL_act_277 (by decide) (fun q28 => ?_) (fun q28 => ?_)
      · replace h := if_some q28 h
        refine lv_bipush (v := 100) hx hb dL_act_285 (by decide) ?_
        obtain ⟨r29, ec29, h⟩ := bd_some h
        refine cS_i (As := [.int p2, .int 100]) (rest := [.int 1, .ref (hh 0)]) (wc := []) (wc' := []) hx hb hml hown hg hK hP hD hS hA hl.1 (k_L_low l D cI cS cL Z p2 100 ec29) gs_L_low gw_350 ⟨rfl, rfl, by decide, by decide⟩ ⟨Nat.zero_le _, Nat.zero_le _⟩ [] rfl rfl rfl rfl rfl (Nat.le_of_ble_eq_true rfl) dL_act_287 (fun H locs hP hD hS => ?_)
        have hP : va_P D vwCl (wX7 cI cS hh vCar vGoa vEag tN tF cN cF mP mS kCap kGap kCar kCop kGro kShr bN bF rCmd rLet rNum fCap fGap fCar fCop fGro fShr hX hC hR) H := hP
        have hD : va_D A (wX7 cI cS hh vCar vGoa vEag tN tF cN cF mP mS kCap kGap kCar kCop kGro kShr bN bF rCmd rLet rNum fCap fGap fCar fCop fGro fShr hX hC hR) := hD
        refine lv_iadd hx hb dL_act_290 ?_
        obtain ⟨⟨r30, vCar_30, vGoa_30, tN_30, tF_30, mP_30, kCap_30, kGap_30, kCar_30, kCop_30, kShr_30, hX_30, hC_30, hR_30⟩, ec30, h⟩ := bd_some h
        refine cP_i (As := [.int (1 + r29)]) (rest := []) (wc := (wX7 cI cS hh vCar vGoa vEag tN tF cN cF mP mS kCap kGap kCar kCop kGro kShr bN bF rCmd rLet rNum fCap fGap fCar fCop fGro fShr hX hC hR)) (wc' := (wX7 cI cS hh vCar_30 vGoa_30 vEag tN_30 tF_30 cN cF mP_30 mS kCap_30 kGap_30 kCar_30 kCop_30 kGro kShr_30 bN bF rCmd rLet rNum fCap fGap fCar fCop fGro fShr hX_30 hC_30 hR_30)) (ws' := (wX7 cI cS hh vCar_30 vGoa_30 vEag tN_30 tF_30 cN cF mP_30 mS kCap_30 kGap_30 kCar_30 kCop_30 kGro kShr_30 bN bF rCmd rLet rNum fCap fGap fCar fCop fGro fShr hX_30 hC_30 hR_30)) hx hb hml hown hg hK hP hD hS hA hl.1 (k_X7_backspace l D cI cS cL Z hh (1 + r29) vCar vGoa vEag tN tF cN cF mP mS kCap kGap kCar kCop kGro kShr bN bF rCmd rLet rNum fCap fGap fCar fCop fGro fShr hX hC hR (nx_some ec30)) gm_X7_backspace gw_494 ⟨rfl, rfl, by decide, by decide⟩ ⟨Nat.zero_le _, Nat.zero_le _⟩ pm_all pm_all fst_X7 rfl rfl rfl rfl rfl (Nat.le_of_ble_eq_true rfl) dL_act_291 (fun H locs hP hD hS => ?_)
        cases h
        exact ret_i hx hb hr hlocks hP hD hS dL_act_294 rfl
      · replace h := it_some q28 h
        refine lv_bipush (v := 9) hx hb dL_act_280 (by decide) ?_
        refine lv_goto (tgt := 287) hx hb dL_act_282 (by decide) ?_
        obtain ⟨r31, ec31, h⟩ := bd_some h
        refine cS_i (As := [.int p2, .int 9]) (rest := [.int 1, .ref (hh 0)]) (wc := []) (wc' := []) hx hb hml hown hg hK hP hD hS hA hl.1 (k_L_low l D cI cS cL Z p2 9 ec31) gs_L_low gw_350 ⟨rfl, rfl, by decide, by decide⟩ ⟨Nat.zero_le _, Nat.zero_le _⟩ [] rfl rfl rfl rfl rfl (Nat.le_of_ble_eq_true rfl) dL_act_287 (fun H locs hP hD hS => ?_)
        have hP : va_P D vwCl (wX7 cI cS hh vCar vGoa vEag tN tF cN cF mP mS kCap kGap kCar kCop kGro kShr bN bF rCmd rLet rNum fCap fGap fCar fCop fGro fShr hX hC hR) H := hP
        have hD : va_D A (wX7 cI cS hh vCar vGoa vEag tN tF cN cF mP mS kCap kGap kCar kCop kGro kShr bN bF rCmd rLet rNum fCap fGap fCar fCop fGro fShr hX hC hR) := hD
        refine lv_iadd hx hb dL_act_290 ?_
        obtain ⟨⟨r32, vCar_32, vGoa_32, tN_32, tF_32, mP_32, kCap_32, kGap_32, kCar_32, kCop_32, kShr_32, hX_32, hC_32, hR_32⟩, ec32, h⟩ := bd_some h
        refine cP_i (As := [.int (1 + r31)]) (rest := []) (wc := (wX7 cI cS hh vCar vGoa vEag tN tF cN cF mP mS kCap kGap kCar kCop kGro kShr bN bF rCmd rLet rNum fCap fGap fCar fCop fGro fShr hX hC hR)) (wc' := (wX7 cI cS hh vCar_32 vGoa_32 vEag tN_32 tF_32 cN cF mP_32 mS kCap_32 kGap_32 kCar_32 kCop_32 kGro kShr_32 bN bF rCmd rLet rNum fCap fGap fCar fCop fGro fShr hX_32 hC_32 hR_32)) (ws' := (wX7 cI cS hh vCar_32 vGoa_32 vEag tN_32 tF_32 cN cF mP_32 mS kCap_32 kGap_32 kCar_32 kCop_32 kGro kShr_32 bN bF rCmd rLet rNum fCap fGap fCar fCop fGro fShr hX_32 hC_32 hR_32)) hx hb hml hown hg hK hP hD hS hA hl.1 (k_X7_backspace l D cI cS cL Z hh (1 + r31) vCar vGoa vEag tN tF cN cF mP mS kCap kGap kCar kCop kGro kShr bN bF rCmd rLet rNum fCap fGap fCar fCop fGro fShr hX hC hR (nx_some ec32)) gm_X7_backspace gw_494 ⟨rfl, rfl, by decide, by decide⟩ ⟨Nat.zero_le _, Nat.zero_le _⟩ pm_all pm_all fst_X7 rfl rfl rfl rfl rfl (Nat.le_of_ble_eq_true rfl) dL_act_291 (fun H locs hP hD hS => ?_)
        cases h
        exact ret_i hx hb hr hlocks hP hD hS dL_act_294 rfl
    replace h := if_some q27 h
    by_cases q33 : (p1 &&& 15) = 6
    · replace h := it_some q33 h
      refine nm_i (y := 6) q33.symm ?_
      refine lv_tableIn (off := 199) (tgt := 295) hx hb dL_act_96 (by decide) (by decide) (by decide) (by decide) ?_
      refine lv_aload_n hx hb dL_act_295 rfl (lv_at hl 1 rfl) ?_
      refine lv_iload_n hx hb dL_act_296 rfl (lv_at hl 3 rfl) ?_
      refine lv_iload_n hx hb dL_act_297 rfl (lv_at hl 4 rfl) ?_
      refine lv_iconst (v := 1) hx hb dL_act_298 (by decide) ?_
      refine lv_iadd hx hb dL_act_299 ?_
      obtain ⟨r34, ec34, h⟩ := bd_some h
      refine cS_i (As := [.int p2, .int (x3 + 1)]) (rest := [.ref (hh 0)]) (wc := []) (wc' := []) hx hb hml hown hg hK hP hD hS hA hl.1 (k_L_low l D cI cS cL Z p2 (x3 + 1) ec34) gs_L_low gw_350 ⟨rfl, rfl, by decide, by decide⟩ ⟨Nat.zero_le _, Nat.zero_le _⟩ [] rfl rfl rfl rfl rfl (Nat.le_of_ble_eq_true rfl) dL_act_300 (fun H locs hP hD hS => ?_)
      have hP : va_P D vwCl (wX7 cI cS hh vCar vGoa vEag tN tF cN cF mP mS kCap kGap kCar kCop kGro kShr bN bF rCmd rLet rNum fCap fGap fCar fCop fGro fShr hX hC hR) H := hP
      have hD : va_D A (wX7 cI cS hh vCar vGoa vEag tN tF cN cF mP mS kCap kGap kCar kCop kGro kShr bN bF rCmd rLet rNum fCap fGap fCar fCop fGro fShr hX hC hR) := hD
      obtain ⟨⟨r35, vCar_35, vGoa_35, kGap_35, kCar_35, hX_35, hC_35, hR_35⟩, ec35, h⟩ := bd_some h
      refine cP_i (As := [.int r34]) (rest := []) (wc := (wX7 cI cS hh vCar vGoa vEag tN tF cN cF mP mS kCap kGap kCar kCop kGro kShr bN bF rCmd rLet rNum fCap fGap fCar fCop fGro fShr hX hC hR)) (wc' := (wX7 cI cS hh vCar_35 vGoa_35 vEag tN tF cN cF mP mS kCap kGap_35 kCar_35 kCop kGro kShr bN bF rCmd rLet rNum fCap fGap fCar fCop fGro fShr hX_35 hC_35 hR_35)) (ws' := (wX7 cI cS hh vCar_35 vGoa_35 vEag tN tF cN cF mP mS kCap kGap_35 kCar_35 kCop kGro kShr bN bF rCmd rLet rNum fCap fGap fCar fCop fGro fShr hX_35 hC_35 hR_35)) hx hb hml hown hg hK hP hD hS hA hl.1 (k_X7_moveTo l D cI cS cL Z hh r34 vCar vGoa vEag tN tF cN cF mP mS kCap kGap kCar kCop kGro kShr bN bF rCmd rLet rNum fCap fGap fCar fCop fGro fShr hX hC hR (nx_some ec35)) gm_X7_moveTo gw_502 ⟨rfl, rfl, by decide, by decide⟩ ⟨Nat.zero_le _, Nat.zero_le _⟩ pm_all pm_all fst_X7 rfl rfl rfl rfl rfl (Nat.le_of_ble_eq_true rfl) dL_act_303 (fun H locs hP hD hS => ?_)
      cases h
      exact ret_i hx hb hr hlocks hP hD hS dL_act_306 rfl
    replace h := if_some q33 h
    by_cases q36 : (p1 &&& 15) = 7
    · replace h := it_some q36 h
      refine nm_i (y := 7) q36.symm ?_
      refine lv_tableIn (off := 199) (tgt := 295) hx hb dL_act_96 (by decide) (by decide) (by decide) (by decide) ?_
      refine lv_aload_n hx hb dL_act_295 rfl (lv_at hl 1 rfl) ?_
      refine lv_iload_n hx hb dL_act_296 rfl (lv_at hl 3 rfl) ?_
      refine lv_iload_n hx hb dL_act_297 rfl (lv_at hl 4 rfl) ?_
      refine lv_iconst (v := 1) hx hb dL_act_298 (by decide) ?_
      refine lv_iadd hx hb dL_act_299 ?_
      obtain ⟨r37, ec37, h⟩ := bd_some h
      refine cS_i (As := [.int p2, .int (x3 + 1)]) (rest := [.ref (hh 0)]) (wc := []) (wc' := []) hx hb hml hown hg hK hP hD hS hA hl.1 (k_L_low l D cI cS cL Z p2 (x3 + 1) ec37) gs_L_low gw_350 ⟨rfl, rfl, by decide, by decide⟩ ⟨Nat.zero_le _, Nat.zero_le _⟩ [] rfl rfl rfl rfl rfl (Nat.le_of_ble_eq_true rfl) dL_act_300 (fun H locs hP hD hS => ?_)
      have hP : va_P D vwCl (wX7 cI cS hh vCar vGoa vEag tN tF cN cF mP mS kCap kGap kCar kCop kGro kShr bN bF rCmd rLet rNum fCap fGap fCar fCop fGro fShr hX hC hR) H := hP
      have hD : va_D A (wX7 cI cS hh vCar vGoa vEag tN tF cN cF mP mS kCap kGap kCar kCop kGro kShr bN bF rCmd rLet rNum fCap fGap fCar fCop fGro fShr hX hC hR) := hD
      obtain ⟨⟨r38, vCar_38, vGoa_38, kGap_38, kCar_38, hX_38, hC_38, hR_38⟩, ec38, h⟩ := bd_some h
      refine cP_i (As := [.int r37]) (rest := []) (wc := (wX7 cI cS hh vCar vGoa vEag tN tF cN cF mP mS kCap kGap kCar kCop kGro kShr bN bF rCmd rLet rNum fCap fGap fCar fCop fGro fShr hX hC hR)) (wc' := (wX7 cI cS hh vCar_38 vGoa_38 vEag tN tF cN cF mP mS kCap kGap_38 kCar_38 kCop kGro kShr bN bF rCmd rLet rNum fCap fGap fCar fCop fGro fShr hX_38 hC_38 hR_38)) (ws' := (wX7 cI cS hh vCar_38 vGoa_38 vEag tN tF cN cF mP mS kCap kGap_38 kCar_38 kCop kGro kShr bN bF rCmd rLet rNum fCap fGap fCar fCop fGro fShr hX_38 hC_38 hR_38)) hx hb hml hown hg hK hP hD hS hA hl.1 (k_X7_moveTo l D cI cS cL Z hh r37 vCar vGoa vEag tN tF cN cF mP mS kCap kGap kCar kCop kGro kShr bN bF rCmd rLet rNum fCap fGap fCar fCop fGro fShr hX hC hR (nx_some ec38)) gm_X7_moveTo gw_502 ⟨rfl, rfl, by decide, by decide⟩ ⟨Nat.zero_le _, Nat.zero_le _⟩ pm_all pm_all fst_X7 rfl rfl rfl rfl rfl (Nat.le_of_ble_eq_true rfl) dL_act_303 (fun H locs hP hD hS => ?_)
      cases h
      exact ret_i hx hb hr hlocks hP hD hS dL_act_306 rfl
    replace h := if_some q36 h
    by_cases q39 : (p1 &&& 15) = 8
    · replace h := it_some q39 h
      refine nm_i (y := 8) q39.symm ?_
      refine lv_tableIn (off := 211) (tgt := 307) hx hb dL_act_96 (by decide) (by decide) (by decide) (by decide) ?_
      refine lv_aload_n hx hb dL_act_307 rfl (lv_at hl 1 rfl) ?_
      refine lv_iload_n hx hb dL_act_308 rfl (lv_at hl 3 rfl) ?_
      refine lv_sipush (v := 201) hx hb dL_act_309 (by decide) ?_
      obtain ⟨r40, ec40, h⟩ := bd_some h
      refine cS_i (As := [.int p2, .int 201]) (rest := [.ref (hh 0)]) (wc := []) (wc' := []) hx hb hml hown hg hK hP hD hS hA hl.1 (k_L_low l D cI cS cL Z p2 201 ec40) gs_L_low gw_350 ⟨rfl, rfl, by decide, by decide⟩ ⟨Nat.zero_le _, Nat.zero_le _⟩ [] rfl rfl rfl rfl rfl (Nat.le_of_ble_eq_true rfl) dL_act_312 (fun H locs hP hD hS => ?_)
      have hP : va_P D vwCl (wX7 cI cS hh vCar vGoa vEag tN tF cN cF mP mS kCap kGap kCar kCop kGro kShr bN bF rCmd rLet rNum fCap fGap fCar fCop fGro fShr hX hC hR) H := hP
      have hD : va_D A (wX7 cI cS hh vCar vGoa vEag tN tF cN cF mP mS kCap kGap kCar kCop kGro kShr bN bF rCmd rLet rNum fCap fGap fCar fCop fGro fShr hX hC hR) := hD
      refine lv_bipush (v := 100) hx hb dL_act_315 (by decide) ?_
      refine lv_isub hx hb dL_act_317 ?_
      obtain ⟨⟨r41, vCar_41, vGoa_41, kGap_41, kCar_41, hX_41, hC_41, hR_41⟩, ec41, h⟩ := bd_some h
      refine cP_i (As := [.int (r40 - 100)]) (rest := []) (wc := (wX7 cI cS hh vCar vGoa vEag tN tF cN cF mP mS kCap kGap kCar kCop kGro kShr bN bF rCmd rLet rNum fCap fGap fCar fCop fGro fShr hX hC hR)) (wc' := (wX7 cI cS hh vCar_41 vGoa_41 vEag tN tF cN cF mP mS kCap kGap_41 kCar_41 kCop kGro kShr bN bF rCmd rLet rNum fCap fGap fCar fCop fGro fShr hX_41 hC_41 hR_41)) (ws' := (wX7 cI cS hh vCar_41 vGoa_41 vEag tN tF cN cF mP mS kCap kGap_41 kCar_41 kCop kGro kShr bN bF rCmd rLet rNum fCap fGap fCar fCop fGro fShr hX_41 hC_41 hR_41)) hx hb hml hown hg hK hP hD hS hA hl.1 (k_X7_moveBy l D cI cS cL Z hh (r40 - 100) vCar vGoa vEag tN tF cN cF mP mS kCap kGap kCar kCop kGro kShr bN bF rCmd rLet rNum fCap fGap fCar fCop fGro fShr hX hC hR (nx_some ec41)) gm_X7_moveBy gw_519 ⟨rfl, rfl, by decide, by decide⟩ ⟨Nat.zero_le _, Nat.zero_le _⟩ pm_all pm_all fst_X7 rfl rfl rfl rfl rfl (Nat.le_of_ble_eq_true rfl) dL_act_318 (fun H locs hP hD hS => ?_)
      cases h
      exact ret_i hx hb hr hlocks hP hD hS dL_act_321 rfl
    replace h := if_some q39 h
    by_cases q42 : (p1 &&& 15) = 9
    · replace h := it_some q42 h
      refine nm_i (y := 9) q42.symm ?_
      refine lv_tableIn (off := 226) (tgt := 322) hx hb dL_act_96 (by decide) (by decide) (by decide) (by decide) ?_
      refine lv_iload_n hx hb dL_act_322 rfl (lv_at hl 3 rfl) ?_
      refine lv_iconst (v := 1) hx hb dL_act_323 (by decide) ?_
      refine lv_iand hx hb dL_act_324 ?_
      refine lv_if_ne (tgt := 335) hx hb dL_act_325 (by decide) (fun q43 => ?_) (fun q43 => ?_)
      · replace h := if_some q43 h
        refine lv_aload_n hx hb dL_act_335 rfl (lv_at hl 1 rfl) ?_
        obtain ⟨⟨r44, vCar_44, kGap_44, kCar_44, hX_44, hC_44, hR_44⟩, ec44, h⟩ := bd_some h
        refine cP_i (As := []) (rest := []) (wc := (wX7 cI cS hh vCar vGoa vEag tN tF cN cF mP mS kCap kGap kCar kCop kGro kShr bN bF rCmd rLet rNum fCap fGap fCar fCop fGro fShr hX hC hR)) (wc' := (wX7 cI cS hh vCar_44 vGoa vEag tN tF cN cF mP mS kCap kGap_44 kCar_44 kCop kGro kShr bN bF rCmd rLet rNum fCap fGap fCar fCop fGro fShr hX_44 hC_44 hR_44)) (ws' := (wX7 cI cS hh vCar_44 vGoa vEag tN tF cN cF mP mS kCap kGap_44 kCar_44 kCop kGro kShr bN bF rCmd rLet rNum fCap fGap fCar fCop fGro fShr hX_44 hC_44 hR_44)) hx hb hml hown hg hK hP hD hS hA hl.1 (k_X7_down l D cI cS cL Z hh vCar vGoa vEag tN tF cN cF mP mS kCap kGap kCar kCop kGro kShr bN bF rCmd rLet rNum fCap fGap fCar fCop fGro fShr hX hC hR ec44) gm_X7_down gw_541 ⟨rfl, rfl, by decide, by decide⟩ ⟨Nat.zero_le _, Nat.zero_le _⟩ pm_all pm_all fst_X7 rfl rfl rfl rfl rfl (Nat.le_of_ble_eq_true rfl) dL_act_336 (fun H locs hP hD hS => ?_)
        cases h
        exact ret_i hx hb hr hlocks hP hD hS dL_act_339 rfl
      · replace h := it_some q43 h
        refine lv_aload_n hx hb dL_act_328 rfl (lv_at hl 1 rfl) ?_
        obtain ⟨⟨r45, vCar_45, kGap_45, kCar_45, hX_45, hC_45, hR_45⟩, ec45, h⟩ := bd_some h
        refine cP_i (As := []) (rest := []) (wc := (wX7 cI cS hh vCar vGoa vEag tN tF cN cF mP mS kCap kGap kCar kCop kGro kShr bN bF rCmd rLet rNum fCap fGap fCar fCop fGro fShr hX hC hR)) (wc' := (wX7 cI cS hh vCar_45 vGoa vEag tN tF cN cF mP mS kCap kGap_45 kCar_45 kCop kGro kShr bN bF rCmd rLet rNum fCap fGap fCar fCop fGro fShr hX_45 hC_45 hR_45)) (ws' := (wX7 cI cS hh vCar_45 vGoa vEag tN tF cN cF mP mS kCap kGap_45 kCar_45 kCop kGro kShr bN bF rCmd rLet rNum fCap fGap fCar fCop fGro fShr hX_45 hC_45 hR_45)) hx hb hml hown hg hK hP hD hS hA hl.1 (k_X7_up l D cI cS cL Z hh vCar vGoa vEag tN tF cN cF mP mS kCap kGap kCar kCop kGro kShr bN bF rCmd rLet rNum fCap fGap fCar fCop fGro fShr hX hC hR ec45) gm_X7_up gw_525 ⟨rfl, rfl, by decide, by decide⟩ ⟨Nat.zero_le _, Nat.zero_le _⟩ pm_all pm_all fst_X7 rfl rfl rfl rfl rfl (Nat.le_of_ble_eq_true rfl) dL_act_329 (fun H locs hP hD hS => ?_)
        refine lv_goto (tgt := 339) hx hb dL_act_332 (by decide) ?_
        cases h
        exact ret_i hx hb hr hlocks hP hD hS dL_act_339 rfl
    replace h := if_some q42 h
    by_cases q46 : (p1 &&& 15) = 10
    · replace h := it_some q46 h
      refine nm_i (y := 10) q46.symm ?_
      refine lv_tableIn (off := 244) (tgt := 340) hx hb dL_act_96 (by decide) (by decide) (by decide) (by decide) ?_
      refine lv_iload_n hx hb dL_act_340 rfl (lv_at hl 3 rfl) ?_
      refine lv_iconst (v := 3) hx hb dL_act_341 (by decide) ?_
      refine lv_iand hx hb dL_act_342 ?_
      refine lv_if_ne (tgt := 366) hx hb dL_act_343 (by decide) (fun q47 => ?_) (fun q47 => ?_)
      · replace h := if_some q47 h
        refine lv_aload_n hx hb dL_act_366 rfl (lv_at hl 1 rfl) ?_
        refine lv_iload_n hx hb dL_act_367 rfl (lv_at hl 3 rfl) ?_
        refine lv_iconst (v := 2) hx hb dL_act_368 (by decide) ?_
        refine lv_ishr hx hb dL_act_369 ?_
        refine lv_iconst (v := 1) hx hb dL_act_370 (by decide) ?_
        refine lv_iand hx hb dL_act_371 ?_
        refine lv_if_ne (tgt := 379) hx hb dL_act_372 (by decide) (fun q48 => ?_) (fun q48 => ?_)
        · replace h := if_some q48 h
          refine lv_iconst (v := 0) hx hb dL_act_379 (by decide) ?_
          obtain ⟨⟨r49, vCar_49, vGoa_49, kGap_49, kCar_49, hX_49, hC_49, hR_49⟩, ec49, h⟩ := bd_some h
          refine cP_i (As := [.int 0]) (rest := []) (wc := (wX7 cI cS hh vCar vGoa vEag tN tF cN cF mP mS kCap kGap kCar kCop kGro kShr bN bF rCmd rLet rNum fCap fGap fCar fCop fGro fShr hX hC hR)) (wc' := (wX7 cI cS hh vCar_49 vGoa_49 vEag tN tF cN cF mP mS kCap kGap_49 kCar_49 kCop kGro kShr bN bF rCmd rLet rNum fCap fGap fCar fCop fGro fShr hX_49 hC_49 hR_49)) (ws' := (wX7 cI cS hh vCar_49 vGoa_49 vEag tN tF cN cF mP mS kCap kGap_49 kCar_49 kCop kGro kShr bN bF rCmd rLet rNum fCap fGap fCar fCop fGro fShr hX_49 hC_49 hR_49)) hx hb hml hown hg hK hP hD hS hA hl.1 (k_X7_moveInLine l D cI cS cL Z hh 0 vCar vGoa vEag tN tF cN cF mP mS kCap kGap kCar kCop kGro kShr bN bF rCmd rLet rNum fCap fGap fCar fCop fGro fShr hX hC hR ec49) gm_X7_moveInLine gw_554 ⟨rfl, rfl, by decide, by decide⟩ ⟨Nat.zero_le _, Nat.zero_le _⟩ pm_all pm_all fst_X7 rfl rfl rfl rfl rfl (Nat.le_of_ble_eq_true rfl) dL_act_380 (fun H locs hP hD hS => ?_)
          cases h
          exact ret_i hx hb hr hlocks hP hD hS dL_act_383 rfl
        · replace h := it_some q48 h
          refine lv_iconst (v := 1) hx hb dL_act_375 (by decide) ?_
          refine lv_goto (tgt := 380) hx hb dL_act_376 (by decide) ?_
          obtain ⟨⟨r50, vCar_50, vGoa_50, kGap_50, kCar_50, hX_50, hC_50, hR_50⟩, ec50, h⟩ := bd_some h
          refine cP_i (As := [.int 1]) (rest := []) (wc := (wX7 cI cS hh vCar vGoa vEag tN tF cN cF mP mS kCap kGap kCar kCop kGro kShr bN bF rCmd rLet rNum fCap fGap fCar fCop fGro fShr hX hC hR)) (wc' := (wX7 cI cS hh vCar_50 vGoa_50 vEag tN tF cN cF mP mS kCap kGap_50 kCar_50 kCop kGro kShr bN bF rCmd rLet rNum fCap fGap fCar fCop fGro fShr hX_50 hC_50 hR_50)) (ws' := (wX7 cI cS hh vCar_50 vGoa_50 vEag tN tF cN cF mP mS kCap kGap_50 kCar_50 kCop kGro kShr bN bF rCmd rLet rNum fCap fGap fCar fCop fGro fShr hX_50 hC_50 hR_50)) hx hb hml hown hg hK hP hD hS hA hl.1 (k_X7_moveInLine l D cI cS cL Z hh 1 vCar vGoa vEag tN tF cN cF mP mS kCap kGap kCar kCop kGro kShr bN bF rCmd rLet rNum fCap fGap fCar fCop fGro fShr hX hC hR ec50) gm_X7_moveInLine gw_554 ⟨rfl, rfl, by decide, by decide⟩ ⟨Nat.zero_le _, Nat.zero_le _⟩ pm_all pm_all fst_X7 rfl rfl rfl rfl rfl (Nat.le_of_ble_eq_true rfl) dL_act_380 (fun H locs hP hD hS => ?_)
          cases h
          exact ret_i hx hb hr hlocks hP hD hS dL_act_383 rfl
      · replace h := it_some q47 h
        refine lv_aload_n hx hb dL_act_346 rfl (lv_at hl 1 rfl) ?_
        refine lv_iload_n hx hb dL_act_347 rfl (lv_at hl 3 rfl) ?_
        refine lv_iconst (v := 2) hx hb dL_act_348 (by decide) ?_
        refine lv_ishr hx hb dL_act_349 ?_
        refine lv_iconst (v := 1) hx hb dL_act_350 (by decide) ?_
        refine lv_iand hx hb dL_act_351 ?_
        refine lv_if_ne (tgt := 359) hx hb dL_act_352 (by decide) (fun q51 => ?_) (fun q51 => ?_)
        · replace h := if_some q51 h
          refine lv_iconst (v := 0) hx hb dL_act_359 (by decide) ?_
          obtain ⟨⟨r52, vEag_52, kGap_52, kCar_52, hX_52, hC_52, hR_52⟩, ec52, h⟩ := bd_some h
          refine cP_i (As := [.int 0]) (rest := []) (wc := (wX7 cI cS hh vCar vGoa vEag tN tF cN cF mP mS kCap kGap kCar kCop kGro kShr bN bF rCmd rLet rNum fCap fGap fCar fCop fGro fShr hX hC hR)) (wc' := (wX7 cI cS hh vCar vGoa vEag_52 tN tF cN cF mP mS kCap kGap_52 kCar_52 kCop kGro kShr bN bF rCmd rLet rNum fCap fGap fCar fCop fGro fShr hX_52 hC_52 hR_52)) (ws' := (wX7 cI cS hh vCar vGoa vEag_52 tN tF cN cF mP mS kCap kGap_52 kCar_52 kCop kGro kShr bN bF rCmd rLet rNum fCap fGap fCar fCop fGro fShr hX_52 hC_52 hR_52)) hx hb hml hown hg hK hP hD hS hA hl.1 (k_X7_setEager l D cI cS cL Z hh 0 vCar vGoa vEag tN tF cN cF mP mS kCap kGap kCar kCop kGro kShr bN bF rCmd rLet rNum fCap fGap fCar fCop fGro fShr hX hC hR ec52) gm_X7_setEager gw_549 ⟨rfl, rfl, by decide, by decide⟩ ⟨Nat.zero_le _, Nat.zero_le _⟩ pm_all pm_all fst_X7 rfl rfl rfl rfl rfl (Nat.le_of_ble_eq_true rfl) dL_act_360 (fun H locs hP hD hS => ?_)
          refine lv_goto (tgt := 383) hx hb dL_act_363 (by decide) ?_
          cases h
          exact ret_i hx hb hr hlocks hP hD hS dL_act_383 rfl
        · replace h := it_some q51 h
          refine lv_iconst (v := 1) hx hb dL_act_355 (by decide) ?_
          refine lv_goto (tgt := 360) hx hb dL_act_356 (by decide) ?_
          obtain ⟨⟨r53, vEag_53, kGap_53, kCar_53, hX_53, hC_53, hR_53⟩, ec53, h⟩ := bd_some h
          refine cP_i (As := [.int 1]) (rest := []) (wc := (wX7 cI cS hh vCar vGoa vEag tN tF cN cF mP mS kCap kGap kCar kCop kGro kShr bN bF rCmd rLet rNum fCap fGap fCar fCop fGro fShr hX hC hR)) (wc' := (wX7 cI cS hh vCar vGoa vEag_53 tN tF cN cF mP mS kCap kGap_53 kCar_53 kCop kGro kShr bN bF rCmd rLet rNum fCap fGap fCar fCop fGro fShr hX_53 hC_53 hR_53)) (ws' := (wX7 cI cS hh vCar vGoa vEag_53 tN tF cN cF mP mS kCap kGap_53 kCar_53 kCop kGro kShr bN bF rCmd rLet rNum fCap fGap fCar fCop fGro fShr hX_53 hC_53 hR_53)) hx hb hml hown hg hK hP hD hS hA hl.1 (k_X7_setEager l D cI cS cL Z hh 1 vCar vGoa vEag tN tF cN cF mP mS kCap kGap kCar kCop kGro kShr bN bF rCmd rLet rNum fCap fGap fCar fCop fGro fShr hX hC hR ec53) gm_X7_setEager gw_549 ⟨rfl, rfl, by decide, by decide⟩ ⟨Nat.zero_le _, Nat.zero_le _⟩ pm_all pm_all fst_X7 rfl rfl rfl rfl rfl (Nat.le_of_ble_eq_true rfl) dL_act_360 (fun H locs hP hD hS => ?_)
          refine lv_goto (tgt := 383) hx hb dL_act_363 (by decide) ?_
          cases h
          exact ret_i hx hb hr hlocks hP hD hS dL_act_383 rfl
    replace h := if_some q46 h
    by_cases q54 : (p1 &&& 15) = 11
    · replace h := it_some q54 h
      refine nm_i (y := 11) q54.symm ?_
      refine lv_tableIn (off := 288) (tgt := 384) hx hb dL_act_96 (by decide) (by decide) (by decide) (by decide) ?_
      refine lv_aload_n hx hb dL_act_384 rfl (lv_at hl 1 rfl) ?_
      refine lv_iload hx hb dL_act_385 (lv_at hl 6 rfl) ?_
      refine lv_iload_n hx hb dL_act_387 rfl (lv_at hl 3 rfl) ?_
      refine lv_iconst (v := 1) hx hb dL_act_388 (by decide) ?_
      refine lv_iand hx hb dL_act_389 ?_
      obtain ⟨⟨r55, mP_55, mS_55, hX_55, hC_55, hR_55⟩, ec55, h⟩ := bd_some h
      refine cP_i (As := [.int x5, .int (p2 &&& 1)]) (rest := []) (wc := (wX7 cI cS hh vCar vGoa vEag tN tF cN cF mP mS kCap kGap kCar kCop kGro kShr bN bF rCmd rLet rNum fCap fGap fCar fCop fGro fShr hX hC hR)) (wc' := (wX7 cI cS hh vCar vGoa vEag tN tF cN cF mP_55 mS_55 kCap kGap kCar kCop kGro kShr bN bF rCmd rLet rNum fCap fGap fCar fCop fGro fShr hX_55 hC_55 hR_55)) (ws' := (wX7 cI cS hh vCar vGoa vEag tN tF cN cF mP_55 mS_55 kCap kGap kCar kCop kGro kShr bN bF rCmd rLet rNum fCap fGap fCar fCop fGro fShr hX_55 hC_55 hR_55)) hx hb hml hown hg hK hP hD hS hA hl.1 (k_X7_setMark l D cI cS cL Z hh x5 (p2 &&& 1) vCar vGoa vEag tN tF cN cF mP mS kCap kGap kCar kCop kGro kShr bN bF rCmd rLet rNum fCap fGap fCar fCop fGro fShr hX hC hR (nx_some ec55)) gm_X7_setMark gw_560 ⟨rfl, rfl, by decide, by decide⟩ ⟨Nat.zero_le _, Nat.zero_le _⟩ pm_all pm_all fst_X7 rfl rfl rfl rfl rfl (Nat.le_of_ble_eq_true rfl) dL_act_390 (fun H locs hP hD hS => ?_)
      refine lv_istore (lv' := [(8, .int r55), (6, .int y0), (0, .ref (hh 0)), (1, .int p1), (2, .int p2), (3, .int x3), (4, .int x4), (5, .int x5)]) hx hb dL_act_393 hl (by decide) rfl (fun ls hl => ?_)
      refine lv_iload hx hb dL_act_395 (lv_at hl 0 rfl) ?_
      refine lv_if_ge (tgt := 406) hx hb dL_act_397 (by decide) (fun q56 => ?_) (fun q56 => ?_)
      · replace h := it_some q56 h
        refine lv_iload hx hb dL_act_406 (lv_at hl 0 rfl) ?_
        cases h
        exact ret_i hx hb hr hlocks hP hD hS dL_act_408 rfl
      · replace h := if_some q56 h
        refine lv_sipush (v := 999) hx hb dL_act_400 (by decide) ?_
        refine lv_goto (tgt := 408) hx hb dL_act_403 (by decide) ?_
        cases h
        exact ret_i hx hb hr hlocks hP hD hS dL_act_408 rfl
    replace h := if_some q54 h
    by_cases q57 : (p1 &&& 15) = 12
    · replace h := it_some q57 h
      refine nm_i (y := 12) q57.symm ?_
      refine lv_tableIn (off := 288) (tgt := 384) hx hb dL_act_96 (by decide) (by decide) (by decide) (by decide) ?_
      refine lv_aload_n hx hb dL_act_384 rfl (lv_at hl 1 rfl) ?_
      refine lv_iload hx hb dL_act_385 (lv_at hl 6 rfl) ?_
      refine lv_iload_n hx hb dL_act_387 rfl (lv_at hl 3 rfl) ?_
      refine lv_iconst (v := 1) hx hb dL_act_388 (by decide) ?_
      refine lv_iand hx hb dL_act_389 ?_
      obtain ⟨⟨r58, mP_58, mS_58, hX_58, hC_58, hR_58⟩, ec58, h⟩ := bd_some h
      refine cP_i (As := [.int x5, .int (p2 &&& 1)]) (rest := []) (wc := (wX7 cI cS hh vCar vGoa vEag tN tF cN cF mP mS kCap kGap kCar kCop kGro kShr bN bF rCmd rLet rNum fCap fGap fCar fCop fGro fShr hX hC hR)) (wc' := (wX7 cI cS hh vCar vGoa vEag tN tF cN cF mP_58 mS_58 kCap kGap kCar kCop kGro kShr bN bF rCmd rLet rNum fCap fGap fCar fCop fGro fShr hX_58 hC_58 hR_58)) (ws' := (wX7 cI cS hh vCar vGoa vEag tN tF cN cF mP_58 mS_58 kCap kGap kCar kCop kGro kShr bN bF rCmd rLet rNum fCap fGap fCar fCop fGro fShr hX_58 hC_58 hR_58)) hx hb hml hown hg hK hP hD hS hA hl.1 (k_X7_setMark l D cI cS cL Z hh x5 (p2 &&& 1) vCar vGoa vEag tN tF cN cF mP mS kCap kGap kCar kCop kGro kShr bN bF rCmd rLet rNum fCap fGap fCar fCop fGro fShr hX hC hR (nx_some ec58)) gm_X7_setMark gw_560 ⟨rfl, rfl, by decide, by decide⟩ ⟨Nat.zero_le _, Nat.zero_le _⟩ pm_all pm_all fst_X7 rfl rfl rfl rfl rfl (Nat.le_of_ble_eq_true rfl) dL_act_390 (fun H locs hP hD hS => ?_)
      refine lv_istore (lv' := [(8, .int r58), (6, .int y0), (0, .ref (hh 0)), (1, .int p1), (2, .int p2), (3, .int x3), (4, .int x4), (5, .int x5)]) hx hb dL_act_393 hl (by decide) rfl (fun ls hl => ?_)
      refine lv_iload hx hb dL_act_395 (lv_at hl 0 rfl) ?_
      refine lv_if_ge (tgt := 406) hx hb dL_act_397 (by decide) (fun q59 => ?_) (fun q59 => ?_)
      · replace h := it_some q59 h
        refine lv_iload hx hb dL_act_406 (lv_at hl 0 rfl) ?_
        cases h
        exact ret_i hx hb hr hlocks hP hD hS dL_act_408 rfl
      · replace h := if_some q59 h
        refine lv_sipush (v := 999) hx hb dL_act_400 (by decide) ?_
        refine lv_goto (tgt := 408) hx hb dL_act_403 (by decide) ?_
        cases h
        exact ret_i hx hb hr hlocks hP hD hS dL_act_408 rfl
    replace h := if_some q57 h
    by_cases q60 : (p1 &&& 15) = 13
    · replace h := it_some q60 h
      refine nm_i (y := 13) q60.symm ?_
      refine lv_tableIn (off := 313) (tgt := 409) hx hb dL_act_96 (by decide) (by decide) (by decide) (by decide) ?_
      refine lv_iload hx hb dL_act_409 (lv_at hl 0 rfl) ?_
      refine lv_bipush (v := 60) hx hb dL_act_411 (by decide) ?_
      refine lv_icmp_le (tgt := 421) hx hb dL_act_413 (by decide) (fun q61 => ?_) (fun q61 => ?_)
      · replace h := it_some q61 h
        refine lv_aload_n hx hb dL_act_421 rfl (lv_at hl 1 rfl) ?_
        refine lv_iload hx hb dL_act_422 (lv_at hl 6 rfl) ?_
        obtain ⟨⟨r62, cN_62, cF_62, hX_62, hC_62, hR_62⟩, ec62, h⟩ := bd_some h
        refine cP_i (As := [.int x5]) (rest := []) (wc := (wX7 cI cS hh vCar vGoa vEag tN tF cN cF mP mS kCap kGap kCar kCop kGro kShr bN bF rCmd rLet rNum fCap fGap fCar fCop fGro fShr hX hC hR)) (wc' := (wX7 cI cS hh vCar vGoa vEag tN tF cN_62 cF_62 mP mS kCap kGap kCar kCop kGro kShr bN bF rCmd rLet rNum fCap fGap fCar fCop fGro fShr hX_62 hC_62 hR_62)) (ws' := (wX7 cI cS hh vCar vGoa vEag tN tF cN_62 cF_62 mP mS kCap kGap kCar kCop kGro kShr bN bF rCmd rLet rNum fCap fGap fCar fCop fGro fShr hX_62 hC_62 hR_62)) hx hb hml hown hg hK hP hD hS hA hl.1 (k_X7_copy l D cI cS cL Z hh x5 vCar vGoa vEag tN tF cN cF mP mS kCap kGap kCar kCop kGro kShr bN bF rCmd rLet rNum fCap fGap fCar fCop fGro fShr hX hC hR (nx_some ec62)) gm_X7_copy gw_565 ⟨rfl, rfl, by decide, by decide⟩ ⟨Nat.zero_le _, Nat.zero_le _⟩ pm_all pm_all fst_X7 rfl rfl rfl rfl rfl (Nat.le_of_ble_eq_true rfl) dL_act_424 (fun H locs hP hD hS => ?_)
        cases h
        exact ret_i hx hb hr hlocks hP hD hS dL_act_427 rfl
      · replace h := if_some q61 h
        refine lv_bipush (v := (-9)) hx hb dL_act_416 (by decide) ?_
        refine lv_goto (tgt := 427) hx hb dL_act_418 (by decide) ?_
        cases h
        exact ret_i hx hb hr hlocks hP hD hS dL_act_427 rfl
    replace h := if_some q60 h
    by_cases q63 : (p1 &&& 15) = 14
    · replace h := it_some q63 h
      refine nm_i (y := 14) q63.symm ?_
      refine lv_tableIn (off := 332) (tgt := 428) hx hb dL_act_96 (by decide) (by decide) (by decide) (by decide) ?_
      refine lv_iload hx hb dL_act_428 (lv_at hl 0 rfl) ?_
      refine lv_bipush (v := 60) hx hb dL_act_430 (by decide) ?_
      refine lv_icmp_le (tgt := 440) hx hb dL_act_432 (by decide) (fun q64 => ?_) (fun q64 => ?_)
      · replace h := it_some q64 h
        refine lv_aload_n hx hb dL_act_440 rfl (lv_at hl 1 rfl) ?_
        refine lv_iload hx hb dL_act_441 (lv_at hl 6 rfl) ?_
        obtain ⟨⟨r65, vCar_65, vGoa_65, tN_65, tF_65, cN_65, cF_65, mP_65, kCap_65, kGap_65, kCar_65, kCop_65, kShr_65, hX_65, hC_65, hR_65⟩, ec65, h⟩ := bd_some h
        refine cP_i (As := [.int x5]) (rest := []) (wc := (wX7 cI cS hh vCar vGoa vEag tN tF cN cF mP mS kCap kGap kCar kCop kGro kShr bN bF rCmd rLet rNum fCap fGap fCar fCop fGro fShr hX hC hR)) (wc' := (wX7 cI cS hh vCar_65 vGoa_65 vEag tN_65 tF_65 cN_65 cF_65 mP_65 mS kCap_65 kGap_65 kCar_65 kCop_65 kGro kShr_65 bN bF rCmd rLet rNum fCap fGap fCar fCop fGro fShr hX_65 hC_65 hR_65)) (ws' := (wX7 cI cS hh vCar_65 vGoa_65 vEag tN_65 tF_65 cN_65 cF_65 mP_65 mS kCap_65 kGap_65 kCar_65 kCop_65 kGro kShr_65 bN bF rCmd rLet rNum fCap fGap fCar fCop fGro fShr hX_65 hC_65 hR_65)) hx hb hml hown hg hK hP hD hS hA hl.1 (k_X7_cut l D cI cS cL Z hh x5 vCar vGoa vEag tN tF cN cF mP mS kCap kGap kCar kCop kGro kShr bN bF rCmd rLet rNum fCap fGap fCar fCop fGro fShr hX hC hR (nx_some ec65)) gm_X7_cut gw_579 ⟨rfl, rfl, by decide, by decide⟩ ⟨Nat.zero_le _, Nat.zero_le _⟩ pm_all pm_all fst_X7 rfl rfl rfl rfl rfl (Nat.le_of_ble_eq_true rfl) dL_act_443 (fun H locs hP hD hS => ?_)
        cases h
        exact ret_i hx hb hr hlocks hP hD hS dL_act_446 rfl
      · replace h := if_some q64 h
        refine lv_bipush (v := (-9)) hx hb dL_act_435 (by decide) ?_
        refine lv_goto (tgt := 446) hx hb dL_act_437 (by decide) ?_
        cases h
        exact ret_i hx hb hr hlocks hP hD hS dL_act_446 rfl
    replace h := if_some q63 h
    by_cases q66 : (p1 &&& 15) < 0 ∨ 14 < (p1 &&& 15)
    · replace h := it_some q66 h
      refine lv_tableOut (tgt := 447) hx hb dL_act_96 (tb_out (b := 14) q66 (by decide)) (by decide) ?_
      refine lv_iconst (v := 0) hx hb dL_act_447 (by decide) ?_
      refine lv_istore (lv' := [(9, .int 0), (6, .int y0), (0, .ref (hh 0)), (1, .int p1), (2, .int p2), (3, .int x3), (4, .int x4), (5, .int x5)]) hx hb dL_act_448 hl (by decide) rfl (fun ls hl => ?_)
      exact c_450 Z x3 0 vCar vGoa vEag tN tF cN cF mP mS kCap kGap kCar kCop kGro kShr hX hC hR h H locs hP hD hS ls (lv_sub hl [2, 5, 0] rfl)
    exact no_some (if_some q66 h)
  have c_26 : ∀ (x3 : Int32) (y0 : Int32) (vCar : Int32) (vGoa : Int32) (vEag : Int32) (tN : Int32) (tF : Nat → Int32) (cN : Int32) (cF : Nat → Int32) (mP : Nat → Int32) (mS : Nat → Int32) (kCap : Int32) (kGap : Int32) (kCar : Int32) (kCop : Int32) (kGro : Int32) (kShr : Int32) (hX : Int32) (hC : Int32) (hR : Nat → StT), f_L_act_c26 Z p1 p2 x3 y0 vCar vGoa vEag tN tF cN cF mP mS kCap kGap kCar kCop kGro kShr hX hC hR = some (r, vCar', vGoa', vEag', tN', tF', cN', cF', mP', mS', kCap', kGap', kCar', kCop', kGro', kShr', hX', hC', hR') → ∀ (H : Heap) (locs : List Loc), va_P D vwCl (wX7 cI cS hh vCar vGoa vEag tN tF cN cF mP mS kCap kGap kCar kCop kGro kShr bN bF rCmd rLet rNum fCap fGap fCar fCop fGro fShr hX hC hR) H → va_D A (wX7 cI cS hh vCar vGoa vEag tN tF cN cF mP mS kCap kGap kCar kCop kGro kShr bN bF rCmd rLet rNum fCap fGap fCar fCop fGro fShr hX hC hR) → va_S A s.heap H locs → ∀ ls : Array Slot, lv_has ls 10 [(0, .ref (hh 0)), (1, .int p1), (2, .int p2), (3, .int x3)] → W p l e rm_L_act s m args below meth c H locs 0 0 (FI D below args s (wX7 cI cS hh (vCar') (vGoa') (vEag') (tN') (tF') (cN') (cF') (mP') (mS') (kCap') (kGap') (kCar') (kCop') (kGro') (kShr') bN bF rCmd rLet rNum fCap fGap fCar fCop fGro fShr (hX') (hC') (hR')) r A) (F0 m 26 ls [.int y0]) := by
    intro x3 y0 vCar vGoa vEag tN tF cN cF mP mS kCap kGap kCar kCop kGro kShr hX hC hR h H locs hP hD hS ls hl
    unfold f_L_act_c26 at h
    refine lv_istore (lv' := [(4, .int y0), (0, .ref (hh 0)), (1, .int p1), (2, .int p2), (3, .int x3)]) hx hb dL_act_26 hl (by decide) rfl (fun ls hl => ?_)
    refine lv_iload_n hx hb dL_act_28 rfl (lv_at hl 2 rfl) ?_
    refine lv_iconst (v := 4) hx hb dL_act_29 (by decide) ?_
    refine lv_ishr hx hb dL_act_30 ?_
    refine lv_iconst (v := 4) hx hb dL_act_31 (by decide) ?_
    obtain ⟨r67, ec67, h⟩ := bd_some h
    refine cS_i (As := [.int (p1 >>> (4 &&& 31)), .int 4]) (rest := []) (wc := []) (wc' := []) hx hb hml hown hg hK hP hD hS hA hl.1 (k_L_low l D cI cS cL Z (p1 >>> (4 &&& 31)) 4 ec67) gs_L_low gw_350 ⟨rfl, rfl, by decide, by decide⟩ ⟨Nat.zero_le _, Nat.zero_le _⟩ [] rfl rfl rfl rfl rfl (Nat.le_of_ble_eq_true rfl) dL_act_32 (fun H locs hP hD hS => ?_)
    have hP : va_P D vwCl (wX7 cI cS hh vCar vGoa vEag tN tF cN cF mP mS kCap kGap kCar kCop kGro kShr bN bF rCmd rLet rNum fCap fGap fCar fCop fGro fShr hX hC hR) H := hP
    have hD : va_D A (wX7 cI cS hh vCar vGoa vEag tN tF cN cF mP mS kCap kGap kCar kCop kGro kShr bN bF rCmd rLet rNum fCap fGap fCar fCop fGro fShr hX hC hR) := hD
    refine lv_istore (lv' := [(5, .int r67), (4, .int y0), (0, .ref (hh 0)), (1, .int p1), (2, .int p2), (3, .int x3)]) hx hb dL_act_35 hl (by decide) rfl (fun ls hl => ?_)
    refine lv_aload_n hx hb dL_act_37 rfl (lv_at hl 2 rfl) ?_
    refine lv_iload hx hb dL_act_38 (lv_at hl 0 rfl) ?_
    obtain ⟨r68, ec68, h⟩ := bd_some h
    refine cP_i (As := [.int r67]) (rest := []) (wc := (wX7 cI cS hh vCar vGoa vEag tN tF cN cF mP mS kCap kGap kCar kCop kGro kShr bN bF rCmd rLet rNum fCap fGap fCar fCop fGro fShr hX hC hR)) (wc' := (wX7 cI cS hh vCar vGoa vEag tN tF cN cF mP mS kCap kGap kCar kCop kGro kShr bN bF rCmd rLet rNum fCap fGap fCar fCop fGro fShr hX hC hR)) (ws' := (wX7 cI cS hh vCar vGoa vEag tN tF cN cF mP mS kCap kGap kCar kCop kGro kShr bN bF rCmd rLet rNum fCap fGap fCar fCop fGro fShr hX hC hR)) hx hb hml hown hg hK hP hD hS hA hl.1 (k_X7_mark l D cI cS cL Z hh r67 vCar vGoa vEag tN tF cN cF mP mS kCap kGap kCar kCop kGro kShr bN bF rCmd rLet rNum fCap fGap fCar fCop fGro fShr hX hC hR (nx_some ec68)) gm_X7_mark gw_362 ⟨rfl, rfl, by decide, by decide⟩ ⟨Nat.zero_le _, Nat.zero_le _⟩ pm_all pm_all fst_X7 rfl rfl rfl rfl rfl (Nat.le_of_ble_eq_true rfl) dL_act_40 (fun H locs hP hD hS => ?_)
    refine lv_if_ge (tgt := 52) hx hb dL_act_43 (by decide) (fun q69 => ?_) (fun q69 => ?_)
    · replace h := it_some q69 h
      refine lv_aload_n hx hb dL_act_52 rfl (lv_at hl 2 rfl) ?_
      obtain ⟨r70, ec70, h⟩ := bd_some h
      refine cP_i (As := []) (rest := []) (wc := (wX7 cI cS hh vCar vGoa vEag tN tF cN cF mP mS kCap kGap kCar kCop kGro kShr bN bF rCmd rLet rNum fCap fGap fCar fCop fGro fShr hX hC hR)) (wc' := (wX7 cI cS hh vCar vGoa vEag tN tF cN cF mP mS kCap kGap kCar kCop kGro kShr bN bF rCmd rLet rNum fCap fGap fCar fCop fGro fShr hX hC hR)) (ws' := (wX7 cI cS hh vCar vGoa vEag tN tF cN cF mP mS kCap kGap kCar kCop kGro kShr bN bF rCmd rLet rNum fCap fGap fCar fCop fGro fShr hX hC hR)) hx hb hml hown hg hK hP hD hS hA hl.1 (k_X7_caret l D cI cS cL Z hh vCar vGoa vEag tN tF cN cF mP mS kCap kGap kCar kCop kGro kShr bN bF rCmd rLet rNum fCap fGap fCar fCop fGro fShr hX hC hR ec70) gm_X7_caret gw_386 ⟨rfl, rfl, by decide, by decide⟩ ⟨Nat.zero_le _, Nat.zero_le _⟩ pm_all pm_all fst_X7 rfl rfl rfl rfl rfl (Nat.le_of_ble_eq_true rfl) dL_act_53 (fun H locs hP hD hS => ?_)
      refine lv_aload_n hx hb dL_act_56 rfl (lv_at hl 2 rfl) ?_
      refine lv_iload hx hb dL_act_57 (lv_at hl 0 rfl) ?_
      obtain ⟨r71, ec71, h⟩ := bd_some h
      refine cP_i (As := [.int r67]) (rest := [.int r70]) (wc := (wX7 cI cS hh vCar vGoa vEag tN tF cN cF mP mS kCap kGap kCar kCop kGro kShr bN bF rCmd rLet rNum fCap fGap fCar fCop fGro fShr hX hC hR)) (wc' := (wX7 cI cS hh vCar vGoa vEag tN tF cN cF mP mS kCap kGap kCar kCop kGro kShr bN bF rCmd rLet rNum fCap fGap fCar fCop fGro fShr hX hC hR)) (ws' := (wX7 cI cS hh vCar vGoa vEag tN tF cN cF mP mS kCap kGap kCar kCop kGro kShr bN bF rCmd rLet rNum fCap fGap fCar fCop fGro fShr hX hC hR)) hx hb hml hown hg hK hP hD hS hA hl.1 (k_X7_mark l D cI cS cL Z hh r67 vCar vGoa vEag tN tF cN cF mP mS kCap kGap kCar kCop kGro kShr bN bF rCmd rLet rNum fCap fGap fCar fCop fGro fShr hX hC hR (nx_some ec71)) gm_X7_mark gw_362 ⟨rfl, rfl, by decide, by decide⟩ ⟨Nat.zero_le _, Nat.zero_le _⟩ pm_all pm_all fst_X7 rfl rfl rfl rfl rfl (Nat.le_of_ble_eq_true rfl) dL_act_59 (fun H locs hP hD hS => ?_)
      refine lv_icmp_le (tgt := 79) hx hb dL_act_62 (by decide) (fun q72 => ?_) (fun q72 => ?_)
      · replace h := it_some q72 h
        refine lv_aload_n hx hb dL_act_79 rfl (lv_at hl 2 rfl) ?_
        refine lv_iload hx hb dL_act_80 (lv_at hl 0 rfl) ?_
        obtain ⟨r73, ec73, h⟩ := bd_some h
        refine cP_i (As := [.int r67]) (rest := []) (wc := (wX7 cI cS hh vCar vGoa vEag tN tF cN cF mP mS kCap kGap kCar kCop kGro kShr bN bF rCmd rLet rNum fCap fGap fCar fCop fGro fShr hX hC hR)) (wc' := (wX7 cI cS hh vCar vGoa vEag tN tF cN cF mP mS kCap kGap kCar kCop kGro kShr bN bF rCmd rLet rNum fCap fGap fCar fCop fGro fShr hX hC hR)) (ws' := (wX7 cI cS hh vCar vGoa vEag tN tF cN cF mP mS kCap kGap kCar kCop kGro kShr bN bF rCmd rLet rNum fCap fGap fCar fCop fGro fShr hX hC hR)) hx hb hml hown hg hK hP hD hS hA hl.1 (k_X7_mark l D cI cS cL Z hh r67 vCar vGoa vEag tN tF cN cF mP mS kCap kGap kCar kCop kGro kShr bN bF rCmd rLet rNum fCap fGap fCar fCop fGro fShr hX hC hR (nx_some ec73)) gm_X7_mark gw_362 ⟨rfl, rfl, by decide, by decide⟩ ⟨Nat.zero_le _, Nat.zero_le _⟩ pm_all pm_all fst_X7 rfl rfl rfl rfl rfl (Nat.le_of_ble_eq_true rfl) dL_act_82 (fun H locs hP hD hS => ?_)
        refine lv_aload_n hx hb dL_act_85 rfl (lv_at hl 2 rfl) ?_
        obtain ⟨r74, ec74, h⟩ := bd_some h
        refine cP_i (As := []) (rest := [.int r73]) (wc := (wX7 cI cS hh vCar vGoa vEag tN tF cN cF mP mS kCap kGap kCar kCop kGro kShr bN bF rCmd rLet rNum fCap fGap fCar fCop fGro fShr hX hC hR)) (wc' := (wX7 cI cS hh vCar vGoa vEag tN tF cN cF mP mS kCap kGap kCar kCop kGro kShr bN bF rCmd rLet rNum fCap fGap fCar fCop fGro fShr hX hC hR)) (ws' := (wX7 cI cS hh vCar vGoa vEag tN tF cN cF mP mS kCap kGap kCar kCop kGro kShr bN bF rCmd rLet rNum fCap fGap fCar fCop fGro fShr hX hC hR)) hx hb hml hown hg hK hP hD hS hA hl.1 (k_X7_caret l D cI cS cL Z hh vCar vGoa vEag tN tF cN cF mP mS kCap kGap kCar kCop kGro kShr bN bF rCmd rLet rNum fCap fGap fCar fCop fGro fShr hX hC hR ec74) gm_X7_caret gw_386 ⟨rfl, rfl, by decide, by decide⟩ ⟨Nat.zero_le _, Nat.zero_le _⟩ pm_all pm_all fst_X7 rfl rfl rfl rfl rfl (Nat.le_of_ble_eq_true rfl) dL_act_86 (fun H locs hP hD hS => ?_)
        refine lv_isub hx hb dL_act_89 ?_
        exact c_90 x3 y0 r67 (r73 - r74) vCar vGoa vEag tN tF cN cF mP mS kCap kGap kCar kCop kGro kShr hX hC hR h H locs hP hD hS ls (lv_sub hl [2, 3, 4, 5, 1, 0] rfl)
      · replace h := if_some q72 h
        refine lv_aload_n hx hb dL_act_65 rfl (lv_at hl 2 rfl) ?_
        obtain ⟨r75, ec75, h⟩ := bd_some h
        refine cP_i (As := []) (rest := []) (wc := (wX7 cI cS hh vCar vGoa vEag tN tF cN cF mP mS kCap kGap kCar kCop kGro kShr bN bF rCmd rLet rNum fCap fGap fCar fCop fGro fShr hX hC hR)) (wc' := (wX7 cI cS hh vCar vGoa vEag tN tF cN cF mP mS kCap kGap kCar kCop kGro kShr bN bF rCmd rLet rNum fCap fGap fCar fCop fGro fShr hX hC hR)) (ws' := (wX7 cI cS hh vCar vGoa vEag tN tF cN cF mP mS kCap kGap kCar kCop kGro kShr bN bF rCmd rLet rNum fCap fGap fCar fCop fGro fShr hX hC hR)) hx hb hml hown hg hK hP hD hS hA hl.1 (k_X7_caret l D cI cS cL Z hh vCar vGoa vEag tN tF cN cF mP mS kCap kGap kCar kCop kGro kShr bN bF rCmd rLet rNum fCap fGap fCar fCop fGro fShr hX hC hR ec75) gm_X7_caret gw_386 ⟨rfl, rfl, by decide, by decide⟩ ⟨Nat.zero_le _, Nat.zero_le _⟩ pm_all pm_all fst_X7 rfl rfl rfl rfl rfl (Nat.le_of_ble_eq_true rfl) dL_act_66 (fun H locs hP hD hS => ?_)
        refine lv_aload_n hx hb dL_act_69 rfl (lv_at hl 2 rfl) ?_
        refine lv_iload hx hb dL_act_70 (lv_at hl 0 rfl) ?_
        obtain ⟨r76, ec76, h⟩ := bd_some h
        refine cP_i (As := [.int r67]) (rest := [.int r75]) (wc := (wX7 cI cS hh vCar vGoa vEag tN tF cN cF mP mS kCap kGap kCar kCop kGro kShr bN bF rCmd rLet rNum fCap fGap fCar fCop fGro fShr hX hC hR)) (wc' := (wX7 cI cS hh vCar vGoa vEag tN tF cN cF mP mS kCap kGap kCar kCop kGro kShr bN bF rCmd rLet rNum fCap fGap fCar fCop fGro fShr hX hC hR)) (ws' := (wX7 cI cS hh vCar vGoa vEag tN tF cN cF mP mS kCap kGap kCar kCop kGro kShr bN bF rCmd rLet rNum fCap fGap fCar fCop fGro fShr hX hC hR)) hx hb hml hown hg hK hP hD hS hA hl.1 (k_X7_mark l D cI cS cL Z hh r67 vCar vGoa vEag tN tF cN cF mP mS kCap kGap kCar kCop kGro kShr bN bF rCmd rLet rNum fCap fGap fCar fCop fGro fShr hX hC hR (nx_some ec76)) gm_X7_mark gw_362 ⟨rfl, rfl, by decide, by decide⟩ ⟨Nat.zero_le _, Nat.zero_le _⟩ pm_all pm_all fst_X7 rfl rfl rfl rfl rfl (Nat.le_of_ble_eq_true rfl) dL_act_72 (fun H locs hP hD hS => ?_)
        refine lv_isub hx hb dL_act_75 ?_
        refine lv_goto (tgt := 90) hx hb dL_act_76 (by decide) ?_
        exact c_90 x3 y0 r67 (r75 - r76) vCar vGoa vEag tN tF cN cF mP mS kCap kGap kCar kCop kGro kShr hX hC hR h H locs hP hD hS ls (lv_sub hl [2, 3, 4, 5, 1, 0] rfl)
    · replace h := if_some q69 h
      refine lv_sipush (v := 999) hx hb dL_act_46 (by decide) ?_
      refine lv_goto (tgt := 90) hx hb dL_act_49 (by decide) ?_
      exact c_90 x3 y0 r67 999 vCar vGoa vEag tN tF cN cF mP mS kCap kGap kCar kCop kGro kShr hX hC hR h H locs hP hD hS ls (lv_sub hl [2, 3, 4, 5, 1, 0] rfl)
  have hl : lv_has ls 10 [(0, .ref (hh 0)), (1, .int p1), (2, .int p2)] := hl
  have hP : va_P D vwCl (wX7 cI cS hh vCar vGoa vEag tN tF cN cF mP mS kCap kGap kCar kCop kGro kShr bN bF rCmd rLet rNum fCap fGap fCar fCop fGro fShr hX hC hR) s.heap := hP
  have hD : va_D A (wX7 cI cS hh vCar vGoa vEag tN tF cN cF mP mS kCap kGap kCar kCop kGro kShr bN bF rCmd rLet rNum fCap fGap fCar fCop fGro fShr hX hC hR) := hD
  show W p l e rm_L_act s m args below meth c s.heap [] 0 0 (FI D below args s (wX7 cI cS hh (vCar') (vGoa') (vEag') (tN') (tF') (cN') (cF') (mP') (mS') (kCap') (kGap') (kCar') (kCop') (kGro') (kShr') bN bF rCmd rLet rNum fCap fGap fCar fCop fGro fShr (hX') (hC') (hR')) r A) (F0 m 0 ls [])
  unfold f_L_act at h
  have hmain : ∀ (H : Heap) (locs : List Loc), va_P D vwCl (wX7 cI cS hh vCar vGoa vEag tN tF cN cF mP mS kCap kGap kCar kCop kGro kShr bN bF rCmd rLet rNum fCap fGap fCar fCop fGro fShr hX hC hR) H → va_S A s.heap H locs → W p l e rm_L_act s m args below meth c H locs 0 0 (FI D below args s (wX7 cI cS hh (vCar') (vGoa') (vEag') (tN') (tF') (cN') (cF') (mP') (mS') (kCap') (kGap') (kCar') (kCop') (kGro') (kShr') bN bF rCmd rLet rNum fCap fGap fCar fCop fGro fShr (hX') (hC') (hR')) r A) (F0 m 0 ls []) := by
    intro H locs hP hS
    refine lv_aload_n hx hb dL_act_0 rfl (lv_at hl 0 rfl) ?_
    obtain ⟨r77, ec77, h⟩ := bd_some h
    refine cP_i (As := []) (rest := []) (wc := (wX7 cI cS hh vCar vGoa vEag tN tF cN cF mP mS kCap kGap kCar kCop kGro kShr bN bF rCmd rLet rNum fCap fGap fCar fCop fGro fShr hX hC hR)) (wc' := (wX7 cI cS hh vCar vGoa vEag tN tF cN cF mP mS kCap kGap kCar kCop kGro kShr bN bF rCmd rLet rNum fCap fGap fCar fCop fGro fShr hX hC hR)) (ws' := (wX7 cI cS hh vCar vGoa vEag tN tF cN cF mP mS kCap kGap kCar kCop kGro kShr bN bF rCmd rLet rNum fCap fGap fCar fCop fGro fShr hX hC hR)) hx hb hml hown hg hK hP hD hS hA hl.1 (k_X7_length l D cI cS cL Z hh vCar vGoa vEag tN tF cN cF mP mS kCap kGap kCar kCop kGro kShr bN bF rCmd rLet rNum fCap fGap fCar fCop fGro fShr hX hC hR ec77) gm_X7_length gw_357 ⟨rfl, rfl, by decide, by decide⟩ ⟨Nat.zero_le _, Nat.zero_le _⟩ pm_all pm_all fst_X7 rfl rfl rfl rfl rfl (Nat.le_of_ble_eq_true rfl) dL_act_1 (fun H locs hP hD hS => ?_)
    refine lv_istore_n (lv' := [(3, .int r77), (0, .ref (hh 0)), (1, .int p1), (2, .int p2)]) hx hb dL_act_4 rfl hl (by decide) rfl (fun ls hl => ?_)
    refine lv_iload_n hx hb dL_act_5 rfl (lv_at hl 3 rfl) ?_
    refine lv_iconst (v := 3) hx hb dL_act_6 (by decide) ?_
    refine lv_iand hx hb dL_act_7 ?_
    refine lv_if_ne (tgt := 16) hx hb dL_act_8 (by decide) (fun q78 => ?_) (fun q78 => ?_)
    · replace h := if_some q78 h
      refine lv_bipush (v := 97) hx hb dL_act_16 (by decide) ?_
      refine lv_iload_n hx hb dL_act_18 rfl (lv_at hl 3 rfl) ?_
      refine lv_iconst (v := 2) hx hb dL_act_19 (by decide) ?_
      refine lv_ishr hx hb dL_act_20 ?_
      refine lv_iconst (v := 4) hx hb dL_act_21 (by decide) ?_
      obtain ⟨r79, ec79, h⟩ := bd_some h
      refine cS_i (As := [.int (p2 >>> (2 &&& 31)), .int 4]) (rest := [.int 97]) (wc := []) (wc' := []) hx hb hml hown hg hK hP hD hS hA hl.1 (k_L_low l D cI cS cL Z (p2 >>> (2 &&& 31)) 4 ec79) gs_L_low gw_350 ⟨rfl, rfl, by decide, by decide⟩ ⟨Nat.zero_le _, Nat.zero_le _⟩ [] rfl rfl rfl rfl rfl (Nat.le_of_ble_eq_true rfl) dL_act_22 (fun H locs hP hD hS => ?_)
      have hP : va_P D vwCl (wX7 cI cS hh vCar vGoa vEag tN tF cN cF mP mS kCap kGap kCar kCop kGro kShr bN bF rCmd rLet rNum fCap fGap fCar fCop fGro fShr hX hC hR) H := hP
      have hD : va_D A (wX7 cI cS hh vCar vGoa vEag tN tF cN cF mP mS kCap kGap kCar kCop kGro kShr bN bF rCmd rLet rNum fCap fGap fCar fCop fGro fShr hX hC hR) := hD
      refine lv_iadd hx hb dL_act_25 ?_
      exact c_26 r77 (97 + r79) vCar vGoa vEag tN tF cN cF mP mS kCap kGap kCar kCop kGro kShr hX hC hR h H locs hP hD hS ls (lv_sub hl [1, 2, 3, 0] rfl)
    · replace h := it_some q78 h
      refine lv_bipush (v := 10) hx hb dL_act_11 (by decide) ?_
      refine lv_goto (tgt := 26) hx hb dL_act_13 (by decide) ?_
      exact c_26 r77 10 vCar vGoa vEag tN tF cN cF mP mS kCap kGap kCar kCop kGro kShr hX hC hR h H locs hP hD hS ls (lv_sub hl [1, 2, 3, 0] rfl)
  exact hmain _ _ hP hS
