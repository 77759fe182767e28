def f_X8_size (Z : Nat) (p0 : Int32) : Option (Int32) :=
  if 0 ≤ p0 then
    some p0
  else
    some (-p0)
def f_X8_startOf_b2 (Z : Nat) (p1 : Int32) (aS : Nat → Int32) (rec : Int32 → Option (Int32)) (x2 : Int32) : Option (Int32) :=
      if x2 ≤ 0 then
        some x2
      else
        rd ((80 + x2) - 1) 344 (
        if (aS (Int32.toNatClampNeg ((80 + x2) - 1))) = 10 then
          some x2
        else
          kl (x2 + (-1)) fun x2_4 =>
          rec x2_4)
def f_X8_startOf_l2 (Z : Nat) (p1 : Int32) (aS : Nat → Int32) : Nat → Int32 → Option (Int32)
  | 0, _ => none
  | n + 1, x2 => f_X8_startOf_b2 Z p1 aS (f_X8_startOf_l2 Z p1 aS n) x2
def f_X8_startOf (Z : Nat) (p1 : Int32) (aS : Nat → Int32) : Option (Int32) :=
  f_X8_startOf_l2 Z p1 aS Z p1
def f_X8_endOf_b2 (Z : Nat) (p1 : Int32) (aS : Nat → Int32) (rec : Int32 → Option (Int32)) (x2 : Int32) : Option (Int32) :=
      rd 0 344 (
      if (aS (Int32.toNatClampNeg 0)) ≤ x2 then
        some x2
      else
        rd (80 + x2) 344 (
        if (aS (Int32.toNatClampNeg (80 + x2))) = 10 then
          some x2
        else
          kl (x2 + 1) fun x2_5 =>
          rec x2_5))
def f_X8_endOf_l2 (Z : Nat) (p1 : Int32) (aS : Nat → Int32) : Nat → Int32 → Option (Int32)
  | 0, _ => none
  | n + 1, x2 => f_X8_endOf_b2 Z p1 aS (f_X8_endOf_l2 Z p1 aS n) x2
def f_X8_endOf (Z : Nat) (p1 : Int32) (aS : Nat → Int32) : Option (Int32) :=
  f_X8_endOf_l2 Z p1 aS Z p1
def f_X8_column (Z : Nat) (p1 : Int32) (aS : Nat → Int32) : Option (Int32) :=
  (f_X8_startOf Z p1 aS).bind fun r1 =>
  some (p1 - r1)
def f_X8_lineAt_b4 (Z : Nat) (p1 : Int32) (aS : Nat → Int32) (rec : Int32 → Int32 → Option (Int32)) (x2 : Int32) (x3 : Int32) : Option (Int32) :=
      if p1 ≤ x3 then
        some x2
      else
        rd (80 + x3) 344 (
        if (aS (Int32.toNatClampNeg (80 + x3))) = 10 then
          kl (x2 + 1) fun x2_6 =>
          kl (x3 + 1) fun x3_7 =>
          rec x2_6 x3_7
        else
          kl (x2 + 0) fun x2_4 =>
          kl (x3 + 1) fun x3_5 =>
          rec x2_4 x3_5)
def f_X8_lineAt_l4 (Z : Nat) (p1 : Int32) (aS : Nat → Int32) : Nat → Int32 → Int32 → Option (Int32)
  | 0, _, _ => none
  | n + 1, x2, x3 => f_X8_lineAt_b4 Z p1 aS (f_X8_lineAt_l4 Z p1 aS n) x2 x3
def f_X8_lineAt (Z : Nat) (p1 : Int32) (aS : Nat → Int32) : Option (Int32) :=
  f_X8_lineAt_l4 Z p1 aS Z 0 0
def f_X8_movesGap (Z : Nat) (p1 : Int32) (aS : Nat → Int32) : Option (Int32 × (Nat → Int32)) :=
  rd 2 344 (
  (f_X8_size Z ((aS (Int32.toNatClampNeg 2)) - p1)).bind fun r2 =>
  rd 4 344 (
  rd 4 344 (kl (upd aS (Int32.toNatClampNeg 4) ((aS (Int32.toNatClampNeg 4)) + r2)) fun aS_5 =>
  rd 2 344 (kl (upd aS_5 (Int32.toNatClampNeg 2) p1) fun aS_7 =>
  some (r2, aS_7)))))
def f_X8_setsGoal (Z : Nat) (aS : Nat → Int32) : Option ((Nat → Int32)) :=
  rd 1 344 (
  (f_X8_column Z (aS (Int32.toNatClampNeg 1)) aS).bind fun r2 =>
  rd 8 344 (kl (upd aS (Int32.toNatClampNeg 8) r2) fun aS_4 =>
  some aS_4))
def f_X8_movesMarks_b2 (Z : Nat) (p1 : Int32) (p2 : Int32) (rec : Int32 → (Nat → Int32) → Option ((Nat → Int32))) (x3 : Int32) (aS : Nat → Int32) : Option ((Nat → Int32)) :=
      if 4 ≤ x3 then
        some aS
      else
        rd (12 + x3) 344 (
        kl (aS (Int32.toNatClampNeg (12 + x3))) fun x4_3 =>
        if x4_3 = (-1) then
          if (0 : Int32) = 0 then
            rd (12 + x3) 344 (kl (upd aS (Int32.toNatClampNeg (12 + x3)) x4_3) fun aS_7 =>
            kl (x3 + 1) fun x3_8 =>
            rec x3_8 aS_7)
          else
            rd (12 + x3) 344 (kl (upd aS (Int32.toNatClampNeg (12 + x3)) (x4_3 + p2)) fun aS_10 =>
            kl (x3 + 1) fun x3_11 =>
            rec x3_11 aS_10)
        else
          if p1 < x4_3 then
            if (1 : Int32) = 0 then
              rd (12 + x3) 344 (kl (upd aS (Int32.toNatClampNeg (12 + x3)) x4_3) fun aS_15 =>
              kl (x3 + 1) fun x3_16 =>
              rec x3_16 aS_15)
            else
              rd (12 + x3) 344 (kl (upd aS (Int32.toNatClampNeg (12 + x3)) (x4_3 + p2)) fun aS_18 =>
              kl (x3 + 1) fun x3_19 =>
              rec x3_19 aS_18)
          else
            if x4_3 = p1 then
              rd (16 + x3) 344 (
              if (aS (Int32.toNatClampNeg (16 + x3))) = 1 then
                if (1 : Int32) = 0 then
                  rd (12 + x3) 344 (kl (upd aS (Int32.toNatClampNeg (12 + x3)) x4_3) fun aS_39 =>
                  kl (x3 + 1) fun x3_40 =>
                  rec x3_40 aS_39)
                else
                  rd (12 + x3) 344 (kl (upd aS (Int32.toNatClampNeg (12 + x3)) (x4_3 + p2)) fun aS_42 =>
                  kl (x3 + 1) fun x3_43 =>
                  rec x3_43 aS_42)
              else
                if (0 : Int32) = 0 then
                  rd (12 + x3) 344 (kl (upd aS (Int32.toNatClampNeg (12 + x3)) x4_3) fun aS_32 =>
                  kl (x3 + 1) fun x3_33 =>
                  rec x3_33 aS_32)
                else
                  rd (12 + x3) 344 (kl (upd aS (Int32.toNatClampNeg (12 + x3)) (x4_3 + p2)) fun aS_35 =>
                  kl (x3 + 1) fun x3_36 =>
                  rec x3_36 aS_35))
            else
              if (0 : Int32) = 0 then
                rd (12 + x3) 344 (kl (upd aS (Int32.toNatClampNeg (12 + x3)) x4_3) fun aS_23 =>
                kl (x3 + 1) fun x3_24 =>
                rec x3_24 aS_23)
              else
                rd (12 + x3) 344 (kl (upd aS (Int32.toNatClampNeg (12 + x3)) (x4_3 + p2)) fun aS_26 =>
                kl (x3 + 1) fun x3_27 =>
                rec x3_27 aS_26))
def f_X8_movesMarks_l2 (Z : Nat) (p1 : Int32) (p2 : Int32) : Nat → Int32 → (Nat → Int32) → Option ((Nat → Int32))
  | 0, _, _ => none
  | n + 1, x3, aS => f_X8_movesMarks_b2 Z p1 p2 (f_X8_movesMarks_l2 Z p1 p2 n) x3 aS
def f_X8_movesMarks (Z : Nat) (p1 : Int32) (p2 : Int32) (aS : Nat → Int32) : Option ((Nat → Int32)) :=
  f_X8_movesMarks_l2 Z p1 p2 Z 0 aS
def f_X8_inserts_b117 (Z : Nat) (aBm : Int32) (aBy : Nat → Int32) (rec : Int32 → Int32 → (Nat → Int32) → Option ((Nat → Int32))) (x1 : Int32) (x2 : Int32) (aS : Nat → Int32) : Option ((Nat → Int32)) :=
      if aBm ≤ x2 then
        rd 0 344 (
        rd 0 344 (kl (upd aS (Int32.toNatClampNeg 0) ((aS (Int32.toNatClampNeg 0)) + aBm)) fun aS_4 =>
        (f_X8_movesMarks Z x1 aBm aS_4).bind fun aS_5 =>
        rd 1 344 (kl (upd aS_5 (Int32.toNatClampNeg 1) (x1 + aBm)) fun aS_7 =>
        rd 1 344 (
        rd 2 344 (kl (upd aS_7 (Int32.toNatClampNeg 2) (aS_7 (Int32.toNatClampNeg 1))) fun aS_10 =>
        (f_X8_setsGoal Z aS_10).bind fun aS_11 =>
        some aS_11)))))
      else
        rd x2 100 (
        rd ((80 + x1) + x2) 344 (kl (upd aS (Int32.toNatClampNeg ((80 + x1) + x2)) (aBy (Int32.toNatClampNeg x2))) fun aS_14 =>
        kl (x2 + 1) fun x2_15 =>
        rec x1 x2_15 aS_14))
def f_X8_inserts_l117 (Z : Nat) (aBm : Int32) (aBy : Nat → Int32) : Nat → Int32 → Int32 → (Nat → Int32) → Option ((Nat → Int32))
  | 0, _, _, _ => none
  | n + 1, x1, x2, aS => f_X8_inserts_b117 Z aBm aBy (f_X8_inserts_l117 Z aBm aBy n) x1 x2 aS
def f_X8_inserts_b81 (Z : Nat) (aBm : Int32) (aBy : Nat → Int32) (rec : Int32 → Int32 → (Nat → Int32) → Option ((Nat → Int32))) (x1 : Int32) (x2 : Int32) (aS : Nat → Int32) : Option ((Nat → Int32)) :=
      if x2 < x1 then
        f_X8_inserts_l117 Z aBm aBy Z x1 0 aS
      else
        rd (80 + x2) 344 (
        rd ((80 + x2) + aBm) 344 (kl (upd aS (Int32.toNatClampNeg ((80 + x2) + aBm)) (aS (Int32.toNatClampNeg (80 + x2)))) fun aS_19 =>
        kl (x2 + (-1)) fun x2_20 =>
        rec x1 x2_20 aS_19))
def f_X8_inserts_l81 (Z : Nat) (aBm : Int32) (aBy : Nat → Int32) : Nat → Int32 → Int32 → (Nat → Int32) → Option ((Nat → Int32))
  | 0, _, _, _ => none
  | n + 1, x1, x2, aS => f_X8_inserts_b81 Z aBm aBy (f_X8_inserts_l81 Z aBm aBy n) x1 x2 aS
def f_X8_inserts_b13 (Z : Nat) (aBm : Int32) (aBy : Nat → Int32) (rec : Int32 → (Nat → Int32) → Option ((Nat → Int32))) (x1 : Int32) (aS : Nat → Int32) : Option ((Nat → Int32)) :=
      rd 3 344 (
      rd 0 344 (
      if aBm ≤ ((aS (Int32.toNatClampNeg 3)) - (aS (Int32.toNatClampNeg 0))) then
        rd 0 344 (
        kl ((aS (Int32.toNatClampNeg 0)) - 1) fun x2_25 =>
        f_X8_inserts_l81 Z aBm aBy Z x1 x2_25 aS)
      else
        rd 3 344 (
        rd 3 344 (kl (upd aS (Int32.toNatClampNeg 3) ((aS (Int32.toNatClampNeg 3)) * 2)) fun aS_28 =>
        rd 5 344 (
        rd 0 344 (
        rd 5 344 (kl (upd aS_28 (Int32.toNatClampNeg 5) ((aS_28 (Int32.toNatClampNeg 5)) + (aS_28 (Int32.toNatClampNeg 0)))) fun aS_32 =>
        rd 6 344 (
        rd 6 344 (kl (upd aS_32 (Int32.toNatClampNeg 6) ((aS_32 (Int32.toNatClampNeg 6)) + 1)) fun aS_35 =>
        rec x1 aS_35)))))))))
def f_X8_inserts_l13 (Z : Nat) (aBm : Int32) (aBy : Nat → Int32) : Nat → Int32 → (Nat → Int32) → Option ((Nat → Int32))
  | 0, _, _ => none
  | n + 1, x1, aS => f_X8_inserts_b13 Z aBm aBy (f_X8_inserts_l13 Z aBm aBy n) x1 aS
def f_X8_inserts (Z : Nat) (aBm : Int32) (aS : Nat → Int32) (aBy : Nat → Int32) : Option ((Nat → Int32)) :=
  rd 1 344 (
  kl (aS (Int32.toNatClampNeg 1)) fun x1_37 =>
  (f_X8_movesGap Z x1_37 aS).bind fun (r38, aS_38) =>
  f_X8_inserts_l13 Z aBm aBy Z x1_37 aS_38)
def f_X8_deletes_b183 (Z : Nat) (p1 : Int32) (p2 : Int32) (rec : (Nat → Int32) → Option ((Nat → Int32))) (aS : Nat → Int32) : Option ((Nat → Int32)) :=
      rd 3 344 (
      if (aS (Int32.toNatClampNeg 3)) ≤ 8 then
        (f_X8_setsGoal Z aS).bind fun aS_3 =>
        some aS_3
      else
        rd 0 344 (
        rd 3 344 (
        if (aS (Int32.toNatClampNeg 3)) < (4 * (aS (Int32.toNatClampNeg 0))) then
          (f_X8_setsGoal Z aS).bind fun aS_7 =>
          some aS_7
        else
          rd 3 344 (
          rd 3 344 (kl (upd aS (Int32.toNatClampNeg 3) ((aS (Int32.toNatClampNeg 3)) / 2)) fun aS_10 =>
          rd 5 344 (
          rd 0 344 (
          rd 5 344 (kl (upd aS_10 (Int32.toNatClampNeg 5) ((aS_10 (Int32.toNatClampNeg 5)) + (aS_10 (Int32.toNatClampNeg 0)))) fun aS_14 =>
          rd 7 344 (
          rd 7 344 (kl (upd aS_14 (Int32.toNatClampNeg 7) ((aS_14 (Int32.toNatClampNeg 7)) + 1)) fun aS_17 =>
          rec aS_17))))))))))
def f_X8_deletes_l183 (Z : Nat) (p1 : Int32) (p2 : Int32) : Nat → (Nat → Int32) → Option ((Nat → Int32))
  | 0, _ => none
  | n + 1, aS => f_X8_deletes_b183 Z p1 p2 (f_X8_deletes_l183 Z p1 p2 n) aS
def f_X8_deletes_b107 (Z : Nat) (p1 : Int32) (p2 : Int32) (rec : Int32 → (Nat → Int32) → Option ((Nat → Int32))) (x3 : Int32) (aS : Nat → Int32) : Option ((Nat → Int32)) :=
      if 4 ≤ x3 then
        rd 1 344 (kl (upd aS (Int32.toNatClampNeg 1) p1) fun aS_20 =>
        rd 2 344 (kl (upd aS_20 (Int32.toNatClampNeg 2) p1) fun aS_22 =>
        f_X8_deletes_l183 Z p1 p2 Z aS_22))
      else
        rd (12 + x3) 344 (
        kl (aS (Int32.toNatClampNeg (12 + x3))) fun x4_24 =>
        if (x4_24 - p2) ≤ p1 then
          if x4_24 ≤ p1 then
            rd (12 + x3) 344 (kl (upd aS (Int32.toNatClampNeg (12 + x3)) x4_24) fun aS_28 =>
            kl (x3 + 1) fun x3_29 =>
            rec x3_29 aS_28)
          else
            rd (12 + x3) 344 (kl (upd aS (Int32.toNatClampNeg (12 + x3)) p1) fun aS_31 =>
            kl (x3 + 1) fun x3_32 =>
            rec x3_32 aS_31)
        else
          kl (x4_24 - p2) fun x5_33 =>
          if x4_24 ≤ p1 then
            rd (12 + x3) 344 (kl (upd aS (Int32.toNatClampNeg (12 + x3)) x4_24) fun aS_36 =>
            kl (x3 + 1) fun x3_37 =>
            rec x3_37 aS_36)
          else
            rd (12 + x3) 344 (kl (upd aS (Int32.toNatClampNeg (12 + x3)) x5_33) fun aS_39 =>
            kl (x3 + 1) fun x3_40 =>
            rec x3_40 aS_39))
def f_X8_deletes_l107 (Z : Nat) (p1 : Int32) (p2 : Int32) : Nat → Int32 → (Nat → Int32) → Option ((Nat → Int32))
  | 0, _, _ => none
  | n + 1, x3, aS => f_X8_deletes_b107 Z p1 p2 (f_X8_deletes_l107 Z p1 p2 n) x3 aS
def f_X8_deletes_b77 (Z : Nat) (p1 : Int32) (p2 : Int32) (rec : Int32 → (Nat → Int32) → Option ((Nat → Int32))) (x3 : Int32) (aS : Nat → Int32) : Option ((Nat → Int32)) :=
      rd 0 344 (
      if ((aS (Int32.toNatClampNeg 0)) + p2) ≤ x3 then
        f_X8_deletes_l107 Z p1 p2 Z 0 aS
      else
        rd (80 + x3) 344 (kl (upd aS (Int32.toNatClampNeg (80 + x3)) 0) fun aS_44 =>
        kl (x3 + 1) fun x3_45 =>
        rec x3_45 aS_44))
def f_X8_deletes_l77 (Z : Nat) (p1 : Int32) (p2 : Int32) : Nat → Int32 → (Nat → Int32) → Option ((Nat → Int32))
  | 0, _, _ => none
  | n + 1, x3, aS => f_X8_deletes_b77 Z p1 p2 (f_X8_deletes_l77 Z p1 p2 n) x3 aS
def f_X8_deletes_b22 (Z : Nat) (p1 : Int32) (p2 : Int32) (rec : Int32 → (Nat → Int32) → Option ((Nat → Int32))) (x3 : Int32) (aS : Nat → Int32) : Option ((Nat → Int32)) :=
      rd 0 344 (
      if ((aS (Int32.toNatClampNeg 0)) - p2) ≤ x3 then
        rd 0 344 (
        rd 0 344 (kl (upd aS (Int32.toNatClampNeg 0) ((aS (Int32.toNatClampNeg 0)) - p2)) fun aS_50 =>
        rd 0 344 (
        kl (aS_50 (Int32.toNatClampNeg 0)) fun x3_52 =>
        f_X8_deletes_l77 Z p1 p2 Z x3_52 aS_50)))
      else
        rd ((80 + x3) + p2) 344 (
        rd (80 + x3) 344 (kl (upd aS (Int32.toNatClampNeg (80 + x3)) (aS (Int32.toNatClampNeg ((80 + x3) + p2)))) fun aS_55 =>
        kl (x3 + 1) fun x3_56 =>
        rec x3_56 aS_55)))
def f_X8_deletes_l22 (Z : Nat) (p1 : Int32) (p2 : Int32) : Nat → Int32 → (Nat → Int32) → Option ((Nat → Int32))
  | 0, _, _ => none
  | n + 1, x3, aS => f_X8_deletes_b22 Z p1 p2 (f_X8_deletes_l22 Z p1 p2 n) x3 aS
def f_X8_deletes (Z : Nat) (p1 : Int32) (p2 : Int32) (aS : Nat → Int32) : Option ((Nat → Int32)) :=
  if p2 = 0 then
    (f_X8_setsGoal Z aS).bind fun aS_60 =>
    some aS_60
  else
    rd 1 344 (
    (f_X8_movesGap Z (aS (Int32.toNatClampNeg 1)) aS).bind fun (r59, aS_59) =>
    f_X8_deletes_l22 Z p1 p2 Z p1 aS_59)
def f_X8_erases (Z : Nat) (p1 : Int32) (aS : Nat → Int32) : Option (Int32 × (Nat → Int32)) :=
  rd 0 344 (
  rd 1 344 (
  kl ((aS (Int32.toNatClampNeg 0)) - (aS (Int32.toNatClampNeg 1))) fun x2_3 =>
  if x2_3 ≤ p1 then
    rd 1 344 (
    (f_X8_deletes Z (aS (Int32.toNatClampNeg 1)) x2_3 aS).bind fun aS_6 =>
    some (x2_3, aS_6))
  else
    rd 1 344 (
    (f_X8_deletes Z (aS (Int32.toNatClampNeg 1)) p1 aS).bind fun aS_8 =>
    some (p1, aS_8))))
def f_X8_backs (Z : Nat) (p1 : Int32) (aS : Nat → Int32) : Option (Int32 × (Nat → Int32)) :=
  rd 1 344 (
  if (aS (Int32.toNatClampNeg 1)) ≤ p1 then
    rd 1 344 (
    kl (aS (Int32.toNatClampNeg 1)) fun x2_4 =>
    rd 1 344 (
    (f_X8_deletes Z ((aS (Int32.toNatClampNeg 1)) - x2_4) x2_4 aS).bind fun aS_6 =>
    some (x2_4, aS_6)))
  else
    rd 1 344 (
    (f_X8_deletes Z ((aS (Int32.toNatClampNeg 1)) - p1) p1 aS).bind fun aS_8 =>
    some (p1, aS_8)))
def f_X8_fillsBytes_b7 (Z : Nat) (p1 : Int32) (p2 : Int32) (rec : Int32 → Int32 → (Nat → Int32) → Option (Int32 × (Nat → Int32))) (x3 : Int32) (aBm : Int32) (aBy : Nat → Int32) : Option (Int32 × (Nat → Int32)) :=
      if p2 ≤ x3 then
        some (aBm, aBy)
      else
        rd x3 100 (kl (upd aBy (Int32.toNatClampNeg x3) p1) fun aBy_3 =>
        kl (x3 + 1) fun x3_4 =>
        rec x3_4 aBm aBy_3)
def f_X8_fillsBytes_l7 (Z : Nat) (p1 : Int32) (p2 : Int32) : Nat → Int32 → Int32 → (Nat → Int32) → Option (Int32 × (Nat → Int32))
  | 0, _, _, _ => none
  | n + 1, x3, aBm, aBy => f_X8_fillsBytes_b7 Z p1 p2 (f_X8_fillsBytes_l7 Z p1 p2 n) x3 aBm aBy
def f_X8_fillsBytes (Z : Nat) (p1 : Int32) (p2 : Int32) (aBm : Int32) (aBy : Nat → Int32) : Option (Int32 × (Nat → Int32)) :=
  f_X8_fillsBytes_l7 Z p1 p2 Z 0 p2 aBy
def f_X8_moves (Z : Nat) (p1 : Int32) (aS : Nat → Int32) : Option (Int32 × (Nat → Int32)) :=
  rd 1 344 (kl (upd aS (Int32.toNatClampNeg 1) p1) fun aS_2 =>
  rd 9 344 (
  if (aS_2 (Int32.toNatClampNeg 9)) = 1 then
    (f_X8_movesGap Z p1 aS_2).bind fun (r5, aS_5) =>
    some (r5, aS_5)
  else
    some (0, aS_2)))
def f_X8_movesAnew (Z : Nat) (p1 : Int32) (aS : Nat → Int32) : Option (Int32 × (Nat → Int32)) :=
  (f_X8_moves Z p1 aS).bind fun (r1, aS_1) =>
  (f_X8_setsGoal Z aS_1).bind fun aS_2 =>
  some (r1, aS_2)
def f_X8_goalFrom (Z : Nat) (p1 : Int32) (aS : Nat → Int32) : Option (Int32) :=
  (f_X8_endOf Z p1 aS).bind fun r1 =>
  rd 8 344 (
  if r1 ≤ (p1 + (aS (Int32.toNatClampNeg 8))) then
    some r1
  else
    rd 8 344 (
    some (p1 + (aS (Int32.toNatClampNeg 8)))))
def f_X8_region (Z : Nat) (p1 : Int32) (aS : Nat → Int32) : Option (Int32) :=
  rd 1 344 (
  rd (12 + p1) 344 (
  (f_X8_size Z ((aS (Int32.toNatClampNeg 1)) - (aS (Int32.toNatClampNeg (12 + p1))))).bind fun r3 =>
  some r3))
def f_X8_noRegion (Z : Nat) (p1 : Int32) (aS : Nat → Int32) : Option (Int32) :=
  rd (12 + p1) 344 (
  if (aS (Int32.toNatClampNeg (12 + p1))) = (-1) then
    some 2
  else
    (f_X8_region Z p1 aS).bind fun r3 =>
    if r3 ≤ 60 then
      some 0
    else
      some 3)
def f_X8_clips_b51 (Z : Nat) (p1 : Int32) (rec : Int32 → Int32 → (Nat → Int32) → Option ((Nat → Int32))) (x2 : Int32) (x3 : Int32) (aS : Nat → Int32) : Option ((Nat → Int32)) :=
      if 60 ≤ x3 then
        some aS
      else
        rd 10 344 (
        if (aS (Int32.toNatClampNeg 10)) ≤ x3 then
          rd (20 + x3) 344 (kl (upd aS (Int32.toNatClampNeg (20 + x3)) 0) fun aS_5 =>
          kl (x3 + 1) fun x3_6 =>
          rec x2 x3_6 aS_5)
        else
          rd ((80 + x2) + x3) 344 (
          rd (20 + x3) 344 (kl (upd aS (Int32.toNatClampNeg (20 + x3)) (aS (Int32.toNatClampNeg ((80 + x2) + x3)))) fun aS_9 =>
          kl (x3 + 1) fun x3_10 =>
          rec x2 x3_10 aS_9)))
def f_X8_clips_l51 (Z : Nat) (p1 : Int32) : Nat → Int32 → Int32 → (Nat → Int32) → Option ((Nat → Int32))
  | 0, _, _, _ => none
  | n + 1, x2, x3, aS => f_X8_clips_b51 Z p1 (f_X8_clips_l51 Z p1 n) x2 x3 aS
def f_X8_clips (Z : Nat) (p1 : Int32) (aS : Nat → Int32) : Option ((Nat → Int32)) :=
  rd (12 + p1) 344 (
  rd 1 344 (
  if (aS (Int32.toNatClampNeg 1)) ≤ (aS (Int32.toNatClampNeg (12 + p1))) then
    rd 1 344 (
    kl (aS (Int32.toNatClampNeg 1)) fun x2_15 =>
    (f_X8_region Z p1 aS).bind fun r16 =>
    rd 10 344 (kl (upd aS (Int32.toNatClampNeg 10) r16) fun aS_18 =>
    f_X8_clips_l51 Z p1 Z x2_15 0 aS_18))
  else
    rd (12 + p1) 344 (
    kl (aS (Int32.toNatClampNeg (12 + p1))) fun x2_20 =>
    (f_X8_region Z p1 aS).bind fun r21 =>
    rd 10 344 (kl (upd aS (Int32.toNatClampNeg 10) r21) fun aS_23 =>
    f_X8_clips_l51 Z p1 Z x2_20 0 aS_23))))
def f_X8_cuts (Z : Nat) (p1 : Int32) (aS : Nat → Int32) : Option ((Nat → Int32)) :=
  (f_X8_clips Z p1 aS).bind fun aS_1 =>
  rd (12 + p1) 344 (
  rd 1 344 (
  if (aS_1 (Int32.toNatClampNeg 1)) ≤ (aS_1 (Int32.toNatClampNeg (12 + p1))) then
    rd 1 344 (
    rd 10 344 (
    (f_X8_deletes Z (aS_1 (Int32.toNatClampNeg 1)) (aS_1 (Int32.toNatClampNeg 10)) aS_1).bind fun aS_7 =>
    some aS_7))
  else
    rd (12 + p1) 344 (
    rd 10 344 (
    (f_X8_deletes Z (aS_1 (Int32.toNatClampNeg (12 + p1))) (aS_1 (Int32.toNatClampNeg 10)) aS_1).bind fun aS_10 =>
    some aS_10))))
def f_X8_pastes_b13 (Z : Nat) (rec : Int32 → Int32 → (Nat → Int32) → (Nat → Int32) → Option (Int32 × (Nat → Int32) × (Nat → Int32))) (x1 : Int32) (aBm : Int32) (aS : Nat → Int32) (aBy : Nat → Int32) : Option (Int32 × (Nat → Int32) × (Nat → Int32)) :=
      if aBm ≤ x1 then
        (f_X8_inserts Z aBm aS aBy).bind fun aS_2 =>
        some (aBm, aS_2, aBy)
      else
        rd (20 + x1) 344 (
        rd x1 100 (kl (upd aBy (Int32.toNatClampNeg x1) (aS (Int32.toNatClampNeg (20 + x1)))) fun aBy_5 =>
        kl (x1 + 1) fun x1_6 =>
        rec x1_6 aBm aS aBy_5))
def f_X8_pastes_l13 (Z : Nat) : Nat → Int32 → Int32 → (Nat → Int32) → (Nat → Int32) → Option (Int32 × (Nat → Int32) × (Nat → Int32))
  | 0, _, _, _, _ => none
  | n + 1, x1, aBm, aS, aBy => f_X8_pastes_b13 Z (f_X8_pastes_l13 Z n) x1 aBm aS aBy
def f_X8_pastes (Z : Nat) (aBm : Int32) (aS : Nat → Int32) (aBy : Nat → Int32) : Option (Int32 × (Nat → Int32) × (Nat → Int32)) :=
  rd 10 344 (
  kl (aS (Int32.toNatClampNeg 10)) fun aBm_8 =>
  f_X8_pastes_l13 Z Z 0 aBm_8 aS aBy)
