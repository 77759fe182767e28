abbrev rm_X4_positionOf : Room := { frames := 1, cells := 0, slots := 0, locals := 20 }
def f_X4_positionOf (Z : Nat) (p1 : Int32) (mP : Nat → Int32) : Option (Int32) :=
  (f_X7_isMark Z p1).bind fun r1 =>
  if r1 = 0 then
    some (-1)
  else
    rd p1 4 (
    some (mP (Int32.toNatClampNeg p1)))
set_option maxRecDepth 100000 in
set_option maxHeartbeats 4000000 in
theorem k_X4_positionOf (l : Launch) (D : va_G) (cI cS cL : ClassId) (Z : Nat) (h0 : Nat) (h1 : Nat) (h2 : Nat) (p1 : Int32) (mP : Nat → Int32) (mS : Nat → Int32) {r : Int32} (h : f_X4_positionOf Z p1 mP = some r) : CI l yX4_positionOf cX4_positionOf 2 (some .int) rm_X4_positionOf D cI cS cL [.ref h0, .int p1] (wX4 cI h0 h1 h2 mP mS) (wX4 cI h0 h1 h2 mP mS) r := by
  refine ent_i (by decide +kernel) (Nat.le_of_ble_eq_true rfl) ?_
  intro p e s m args below meth c A ls hx hb hr hml hlocks hg hown hK hP hD hS hA hl
  have hown : s.vm.findClass RX4 = some m.cls := hown
  have hl : lv_has ls 2 [(0, .ref h0), (1, .int p1)] := hl
  have hP : va_P D vwCl (wX4 cI h0 h1 h2 mP mS) s.heap := hP
  have hD : va_D A (wX4 cI h0 h1 h2 mP mS) := hD
  show W p l e rm_X4_positionOf s m args below meth c s.heap [] 0 0 (FI D below args s (wX4 cI h0 h1 h2 mP mS) r A) (F0 m 0 ls [])
  unfold f_X4_positionOf at h
  have hmain : ∀ (H : Heap) (locs : List Loc), va_P D vwCl (wX4 cI h0 h1 h2 mP mS) H → va_S A s.heap H locs → W p l e rm_X4_positionOf s m args below meth c H locs 0 0 (FI D below args s (wX4 cI h0 h1 h2 mP mS) r A) (F0 m 0 ls []) := by
    intro H locs hP hS
    refine lv_iload_n hx hb dX4_positionOf_0 rfl (lv_at hl 1 rfl) ?_
    obtain ⟨r1, ec1, h⟩ := bd_some h
    refine cN_i (As := [.int p1]) (rest := []) (wc := []) (wc' := []) hx hb hml hown hg hK hP hD hS hA hl.1 (k_X7_isMark l D cI cS cL Z p1 ec1) gs_X7_isMark nw_298 ⟨rfl, rfl, by decide, by decide⟩ ⟨Nat.zero_le _, Nat.zero_le _⟩ [] rfl rfl rfl rfl rfl (Nat.le_of_ble_eq_true rfl) dX4_positionOf_1 (fun H locs hP hD hS => ?_)
    have hP : va_P D vwCl (wX4 cI h0 h1 h2 mP mS) H := hP
    have hD : va_D A (wX4 cI h0 h1 h2 mP mS) := hD
    refine lv_if_eq (tgt := 16) hx hb dX4_positionOf_4 (by decide) (fun q2 => ?_) (fun q2 => ?_)
    · replace h := it_some q2 h
      refine lv_iconst (v := (-1)) hx hb dX4_positionOf_16 (by decide) ?_
      cases h
      exact ret_i hx hb hr hlocks hP hD hS dX4_positionOf_17 rfl
    · replace h := if_some q2 h
      refine lv_aload_n hx hb dX4_positionOf_7 rfl (lv_at hl 0 rfl) ?_
      refine va_get (D := D) (ci := 4) (v := .ref h1) (C := RX4) (T := TX4) (N := 2) hx hb hg uX4 hown hK.1 hP 0 rfl rfl 0 (by decide) (hg _ gw_61) (fun _ h9 => h9) rfl dX4_positionOf_8 ?_
      refine lv_iload_n hx hb dX4_positionOf_11 rfl (lv_at hl 1 rfl) ?_
      obtain ⟨v3, h⟩ := rd_some h
      refine va_iald hx hb hK.1 hP 1 0 rfl rfl v3 dX4_positionOf_12 ?_
      refine lv_goto (tgt := 17) hx hb dX4_positionOf_13 (by decide) ?_
      cases h
      exact ret_i hx hb hr hlocks hP hD hS dX4_positionOf_17 rfl
  exact hmain _ _ hP hS
abbrev rm_X4_place : Room := { frames := 1, cells := 0, slots := 0, locals := 20 }
def f_X4_place (Z : Nat) (p1 : Int32) (p2 : Int32) (p3 : Int32) (mP : Nat → Int32) (mS : Nat → Int32) : Option ((Nat → Int32) × (Nat → Int32)) :=
  (f_X7_isMark Z p1).bind fun r1 =>
  if r1 = 0 then
    some (mP, mS)
  else
    rd p1 4 (kl (upd mP (Int32.toNatClampNeg p1) p2) fun mP_4 =>
    rd p1 4 (kl (upd mS (Int32.toNatClampNeg p1) p3) fun mS_6 =>
    some (mP_4, mS_6)))
set_option maxRecDepth 100000 in
set_option maxHeartbeats 4000000 in
theorem k_X4_place (l : Launch) (D : va_G) (cI cS cL : ClassId) (Z : Nat) (h0 : Nat) (h1 : Nat) (h2 : Nat) (p1 : Int32) (p2 : Int32) (p3 : Int32) (mP : Nat → Int32) (mS : Nat → Int32) {mP' : Nat → Int32} {mS' : Nat → Int32} (h : f_X4_place Z p1 p2 p3 mP mS = some (mP', mS')) : CV l yX4_place cX4_place 4 none rm_X4_place D cI cS cL [.ref h0, .int p1, .int p2, .int p3] (wX4 cI h0 h1 h2 mP mS) (wX4 cI h0 h1 h2 (mP') (mS')) := by
  refine ent_v (by decide +kernel) (Nat.le_of_ble_eq_true rfl) ?_
  intro p e s m args below meth c A ls hx hb hr hml hlocks hg hown hK hP hD hS hA hl
  have hown : s.vm.findClass RX4 = some m.cls := hown
  have hl : lv_has ls 4 [(0, .ref h0), (1, .int p1), (2, .int p2), (3, .int p3)] := hl
  have hP : va_P D vwCl (wX4 cI h0 h1 h2 mP mS) s.heap := hP
  have hD : va_D A (wX4 cI h0 h1 h2 mP mS) := hD
  show W p l e rm_X4_place s m args below meth c s.heap [] 0 0 (FV D below args s (wX4 cI h0 h1 h2 (mP') (mS')) A) (F0 m 0 ls [])
  unfold f_X4_place at h
  have hmain : ∀ (H : Heap) (locs : List Loc), va_P D vwCl (wX4 cI h0 h1 h2 mP mS) H → va_S A s.heap H locs → W p l e rm_X4_place s m args below meth c H locs 0 0 (FV D below args s (wX4 cI h0 h1 h2 (mP') (mS')) A) (F0 m 0 ls []) := by
    intro H locs hP hS
    refine lv_iload_n hx hb dX4_place_0 rfl (lv_at hl 1 rfl) ?_
    obtain ⟨r1, ec1, h⟩ := bd_some h
    refine cN_i (As := [.int p1]) (rest := []) (wc := []) (wc' := []) hx hb hml hown hg hK hP hD hS hA hl.1 (k_X7_isMark l D cI cS cL Z p1 ec1) gs_X7_isMark nw_298 ⟨rfl, rfl, by decide, by decide⟩ ⟨Nat.zero_le _, Nat.zero_le _⟩ [] rfl rfl rfl rfl rfl (Nat.le_of_ble_eq_true rfl) dX4_place_1 (fun H locs hP hD hS => ?_)
    have hP : va_P D vwCl (wX4 cI h0 h1 h2 mP mS) H := hP
    have hD : va_D A (wX4 cI h0 h1 h2 mP mS) := hD
    refine lv_if_eq (tgt := 21) hx hb dX4_place_4 (by decide) (fun q2 => ?_) (fun q2 => ?_)
    · replace h := it_some q2 h
      cases h
      exact ret_v hx hb hr hlocks hP hD hS dX4_place_21
    · replace h := if_some q2 h
      refine lv_aload_n hx hb dX4_place_7 rfl (lv_at hl 0 rfl) ?_
      refine va_get (D := D) (ci := 4) (v := .ref h1) (C := RX4) (T := TX4) (N := 2) hx hb hg uX4 hown hK.1 hP 0 rfl rfl 0 (by decide) (hg _ gw_61) (fun _ h9 => h9) rfl dX4_place_8 ?_
      refine lv_iload_n hx hb dX4_place_11 rfl (lv_at hl 1 rfl) ?_
      refine lv_iload_n hx hb dX4_place_12 rfl (lv_at hl 2 rfl) ?_
      obtain ⟨v3, h⟩ := rd_some h
      obtain ⟨mP_4, emP_4, h⟩ := kl_some h
      refine va_iast hx hb hK.1 hP hD hS 1 0 rfl rfl v3 dX4_place_13 (fun H locs hP hD hS => ?_)
      have hP : va_P D vwCl (wX4 cI h0 h1 h2 mP_4 mS) H := by rw [emP_4]; exact hP
      have hD : va_D A (wX4 cI h0 h1 h2 mP_4 mS) := by rw [emP_4]; exact hD
      refine lv_aload_n hx hb dX4_place_14 rfl (lv_at hl 0 rfl) ?_
      refine va_get (D := D) (ci := 4) (v := .ref h2) (C := RX4) (T := TX4) (N := 2) hx hb hg uX4 hown hK.1 hP 0 rfl rfl 1 (by decide) (hg _ gw_62) (fun _ h9 => h9) rfl dX4_place_15 ?_
      refine lv_iload_n hx hb dX4_place_18 rfl (lv_at hl 1 rfl) ?_
      refine lv_iload_n hx hb dX4_place_19 rfl (lv_at hl 3 rfl) ?_
      obtain ⟨v5, h⟩ := rd_some h
      obtain ⟨mS_6, emS_6, h⟩ := kl_some h
      refine va_iast hx hb hK.1 hP hD hS 2 0 rfl rfl v5 dX4_place_20 (fun H locs hP hD hS => ?_)
      have hP : va_P D vwCl (wX4 cI h0 h1 h2 mP_4 mS_6) H := by rw [emS_6]; exact hP
      have hD : va_D A (wX4 cI h0 h1 h2 mP_4 mS_6) := by rw [emS_6]; exact hD
      cases h
      exact ret_v hx hb hr hlocks hP hD hS dX4_place_21
  exact hmain _ _ hP hS
abbrev rm_X4_shiftForInsertion : Room := { frames := 0, cells := 0, slots := 0, locals := 0 }
def f_X4_shiftForInsertion_b2 (Z : Nat) (p1 : Int32) (p2 : Int32) (mS : Nat → Int32) (rec : Int32 → (Nat → Int32) → Option ((Nat → Int32))) (x3 : Int32) (mP : Nat → Int32) : Option ((Nat → Int32)) :=
      if 4 ≤ x3 then
        some mP
      else
        rd x3 4 (
        if (mP (Int32.toNatClampNeg x3)) = p1 then
          rd x3 4 (
          if (mS (Int32.toNatClampNeg x3)) = 1 then
            rd x3 4 (
            if p1 < (mP (Int32.toNatClampNeg x3)) then
              rd x3 4 (
              rd x3 4 (kl (upd mP (Int32.toNatClampNeg x3) ((mP (Int32.toNatClampNeg x3)) + p2)) fun mP_34 =>
              kl (x3 + 1) fun x3_35 =>
              rec x3_35 mP_34))
            else
              if (1 : Int32) = 0 then
                kl (x3 + 1) fun x3_37 =>
                rec x3_37 mP
              else
                rd x3 4 (
                rd x3 4 (kl (upd mP (Int32.toNatClampNeg x3) ((mP (Int32.toNatClampNeg x3)) + p2)) fun mP_40 =>
                kl (x3 + 1) fun x3_41 =>
                rec x3_41 mP_40)))
          else
            rd x3 4 (
            if p1 < (mP (Int32.toNatClampNeg x3)) then
              rd x3 4 (
              rd x3 4 (kl (upd mP (Int32.toNatClampNeg x3) ((mP (Int32.toNatClampNeg x3)) + p2)) fun mP_22 =>
              kl (x3 + 1) fun x3_23 =>
              rec x3_23 mP_22))
            else
              if (0 : Int32) = 0 then
                kl (x3 + 1) fun x3_25 =>
                rec x3_25 mP
              else
                rd x3 4 (
                rd x3 4 (kl (upd mP (Int32.toNatClampNeg x3) ((mP (Int32.toNatClampNeg x3)) + p2)) fun mP_28 =>
                kl (x3 + 1) fun x3_29 =>
                rec x3_29 mP_28))))
        else
          rd x3 4 (
          if p1 < (mP (Int32.toNatClampNeg x3)) then
            rd x3 4 (
            rd x3 4 (kl (upd mP (Int32.toNatClampNeg x3) ((mP (Int32.toNatClampNeg x3)) + p2)) fun mP_8 =>
            kl (x3 + 1) fun x3_9 =>
            rec x3_9 mP_8))
          else
            if (0 : Int32) = 0 then
              kl (x3 + 1) fun x3_11 =>
              rec x3_11 mP
            else
              rd x3 4 (
              rd x3 4 (kl (upd mP (Int32.toNatClampNeg x3) ((mP (Int32.toNatClampNeg x3)) + p2)) fun mP_14 =>
              kl (x3 + 1) fun x3_15 =>
              rec x3_15 mP_14))))
def f_X4_shiftForInsertion_l2 (Z : Nat) (p1 : Int32) (p2 : Int32) (mS : Nat → Int32) : Nat → Int32 → (Nat → Int32) → Option ((Nat → Int32))
  | 0, _, _ => none
  | n + 1, x3, mP => f_X4_shiftForInsertion_b2 Z p1 p2 mS (f_X4_shiftForInsertion_l2 Z p1 p2 mS n) x3 mP
def f_X4_shiftForInsertion (Z : Nat) (p1 : Int32) (p2 : Int32) (mP : Nat → Int32) (mS : Nat → Int32) : Option ((Nat → Int32)) :=
  f_X4_shiftForInsertion_l2 Z p1 p2 mS Z 0 mP
set_option maxRecDepth 100000 in
set_option maxHeartbeats 4000000 in
theorem k_X4_shiftForInsertion (l : Launch) (D : va_G) (cI cS cL : ClassId) (Z : Nat) (h0 : Nat) (h1 : Nat) (h2 : Nat) (p1 : Int32) (p2 : Int32) (mP : Nat → Int32) (mS : Nat → Int32) {mP' : Nat → Int32} (h : f_X4_shiftForInsertion Z p1 p2 mP mS = some mP') : CV l yX4_shiftForInsertion cX4_shiftForInsertion 5 none rm_X4_shiftForInsertion D cI cS cL [.ref h0, .int p1, .int p2] (wX4 cI h0 h1 h2 mP mS) (wX4 cI h0 h1 h2 (mP') mS) := by
  refine ent_v (by decide +kernel) (Nat.le_of_ble_eq_true rfl) ?_
  intro p e s m args below meth c A ls hx hb hr hml hlocks hg hown hK hP hD hS hA hl
  have hown : s.vm.findClass RX4 = some m.cls := hown
  have c_2 : ∀ (n : Nat) (x3 : Int32) (mP : Nat → Int32), f_X4_shiftForInsertion_l2 Z p1 p2 mS n x3 mP = some mP' → ∀ (H : Heap) (locs : List Loc), va_P D vwCl (wX4 cI h0 h1 h2 mP mS) H → va_D A (wX4 cI h0 h1 h2 mP mS) → va_S A s.heap H locs → ∀ ls : Array Slot, lv_has ls 5 [(0, .ref h0), (1, .int p1), (2, .int p2), (3, .int x3)] → W p l e rm_X4_shiftForInsertion s m args below meth c H locs 0 0 (FV D below args s (wX4 cI h0 h1 h2 (mP') mS) A) (F0 m 2 ls []) := by
    intro n
    induction n with
    | zero => intro x3 mP h; exact no_some h
    | succ n ih =>
      intro x3 mP h H locs hP hD hS ls hl
      have h : f_X4_shiftForInsertion_b2 Z p1 p2 mS (f_X4_shiftForInsertion_l2 Z p1 p2 mS n) x3 mP = some mP' := h
      unfold f_X4_shiftForInsertion_b2 at h
      refine lv_iload_n hx hb dX4_shiftForInsertion_2 rfl (lv_at hl 3 rfl) ?_
      refine lv_iconst (v := 4) hx hb dX4_shiftForInsertion_3 (by decide) ?_
      refine lv_icmp_ge (tgt := 65) hx hb dX4_shiftForInsertion_4 (by decide) (fun q1 => ?_) (fun q1 => ?_)
      · replace h := it_some q1 h
        cases h
        exact ret_v hx hb hr hlocks hP hD hS dX4_shiftForInsertion_65
      · replace h := if_some q1 h
        refine lv_aload_n hx hb dX4_shiftForInsertion_7 rfl (lv_at hl 0 rfl) ?_
        refine va_get (D := D) (ci := 4) (v := .ref h1) (C := RX4) (T := TX4) (N := 2) hx hb hg uX4 hown hK.1 hP 0 rfl rfl 0 (by decide) (hg _ gw_61) (fun _ h9 => h9) rfl dX4_shiftForInsertion_8 ?_
        refine lv_iload_n hx hb dX4_shiftForInsertion_11 rfl (lv_at hl 3 rfl) ?_
        obtain ⟨v2, h⟩ := rd_some h
        refine va_iald hx hb hK.1 hP 1 0 rfl rfl v2 dX4_shiftForInsertion_12 ?_
        refine lv_iload_n hx hb dX4_shiftForInsertion_13 rfl (lv_at hl 1 rfl) ?_
        refine lv_icmp_ne (tgt := 31) hx hb dX4_shiftForInsertion_14 (by decide) (fun q3 => ?_) (fun q3 => ?_)
        · replace h := if_some q3 h
          refine lv_iconst (v := 0) hx hb dX4_shiftForInsertion_31 (by decide) ?_
          refine lv_istore (lv' := [(4, .int 0), (0, .ref h0), (1, .int p1), (2, .int p2), (3, .int x3)]) hx hb dX4_shiftForInsertion_32 hl (by decide) rfl (fun ls hl => ?_)
          refine lv_aload_n hx hb dX4_shiftForInsertion_34 rfl (lv_at hl 1 rfl) ?_
          refine va_get (D := D) (ci := 4) (v := .ref h1) (C := RX4) (T := TX4) (N := 2) hx hb hg uX4 hown hK.1 hP 0 rfl rfl 0 (by decide) (hg _ gw_61) (fun _ h9 => h9) rfl dX4_shiftForInsertion_35 ?_
          refine lv_iload_n hx hb dX4_shiftForInsertion_38 rfl (lv_at hl 4 rfl) ?_
          obtain ⟨v4, h⟩ := rd_some h
          refine va_iald hx hb hK.1 hP 1 0 rfl rfl v4 dX4_shiftForInsertion_39 ?_
          refine lv_iload_n hx hb dX4_shiftForInsertion_40 rfl (lv_at hl 2 rfl) ?_
          refine lv_icmp_gt (tgt := 49) hx hb dX4_shiftForInsertion_41 (by decide) (fun q5 => ?_) (fun q5 => ?_)
          · replace h := it_some q5 h
            refine lv_aload_n hx hb dX4_shiftForInsertion_49 rfl (lv_at hl 1 rfl) ?_
            refine va_get (D := D) (ci := 4) (v := .ref h1) (C := RX4) (T := TX4) (N := 2) hx hb hg uX4 hown hK.1 hP 0 rfl rfl 0 (by decide) (hg _ gw_61) (fun _ h9 => h9) rfl dX4_shiftForInsertion_50 ?_
            refine lv_iload_n hx hb dX4_shiftForInsertion_53 rfl (lv_at hl 4 rfl) ?_
            refine lv_dup2_11 hx hb dX4_shiftForInsertion_54 rfl rfl ?_
            obtain ⟨v6, h⟩ := rd_some h
            refine va_iald hx hb hK.1 hP 1 0 rfl rfl v6 dX4_shiftForInsertion_55 ?_
            refine lv_iload_n hx hb dX4_shiftForInsertion_56 rfl (lv_at hl 3 rfl) ?_
            refine lv_iadd hx hb dX4_shiftForInsertion_57 ?_
            obtain ⟨v7, h⟩ := rd_some h
            obtain ⟨mP_8, emP_8, h⟩ := kl_some h
            refine va_iast hx hb hK.1 hP hD hS 1 0 rfl rfl v7 dX4_shiftForInsertion_58 (fun H locs hP hD hS => ?_)
            have hP : va_P D vwCl (wX4 cI h0 h1 h2 mP_8 mS) H := by rw [emP_8]; exact hP
            have hD : va_D A (wX4 cI h0 h1 h2 mP_8 mS) := by rw [emP_8]; exact hD
            obtain ⟨x3_9, ex3_9, h⟩ := kl_some h
            refine lv_iinc (v := x3_9) (lv' := [(3, .int x3_9), (4, .int 0), (0, .ref h0), (1, .int p1), (2, .int p2)]) hx hb dX4_shiftForInsertion_59 hl (k := 4) rfl (by rw [ex3_9]; rfl) (by decide) rfl (fun ls hl => ?_)
            refine lv_goto (tgt := 2) hx hb dX4_shiftForInsertion_62 (by decide) ?_
            exact ih x3_9 mP_8 h H locs hP hD hS ls (lv_sub hl [2, 3, 4, 0] rfl)
          · replace h := if_some q5 h
            refine lv_iload hx hb dX4_shiftForInsertion_44 (lv_at hl 0 rfl) ?_
            refine lv_if_eq (tgt := 59) hx hb dX4_shiftForInsertion_46 (by decide) (fun q10 => ?_) (fun q10 => ?_)
            · replace h := it_some q10 h
              obtain ⟨x3_11, ex3_11, h⟩ := kl_some h
              refine lv_iinc (v := x3_11) (lv' := [(3, .int x3_11), (4, .int 0), (0, .ref h0), (1, .int p1), (2, .int p2)]) hx hb dX4_shiftForInsertion_59 hl (k := 4) rfl (by rw [ex3_11]; rfl) (by decide) rfl (fun ls hl => ?_)
              refine lv_goto (tgt := 2) hx hb dX4_shiftForInsertion_62 (by decide) ?_
              exact ih x3_11 mP h H locs hP hD hS ls (lv_sub hl [2, 3, 4, 0] rfl)
            · replace h := if_some q10 h
              refine lv_aload_n hx hb dX4_shiftForInsertion_49 rfl (lv_at hl 1 rfl) ?_
              refine va_get (D := D) (ci := 4) (v := .ref h1) (C := RX4) (T := TX4) (N := 2) hx hb hg uX4 hown hK.1 hP 0 rfl rfl 0 (by decide) (hg _ gw_61) (fun _ h9 => h9) rfl dX4_shiftForInsertion_50 ?_
              refine lv_iload_n hx hb dX4_shiftForInsertion_53 rfl (lv_at hl 4 rfl) ?_
              refine lv_dup2_11 hx hb dX4_shiftForInsertion_54 rfl rfl ?_
              obtain ⟨v12, h⟩ := rd_some h
              refine va_iald hx hb hK.1 hP 1 0 rfl rfl v12 dX4_shiftForInsertion_55 ?_
              refine lv_iload_n hx hb dX4_shiftForInsertion_56 rfl (lv_at hl 3 rfl) ?_
              refine lv_iadd hx hb dX4_shiftForInsertion_57 ?_
              obtain ⟨v13, h⟩ := rd_some h
              obtain ⟨mP_14, emP_14, h⟩ := kl_some h
              refine va_iast hx hb hK.1 hP hD hS 1 0 rfl rfl v13 dX4_shiftForInsertion_58 (fun H locs hP hD hS => ?_)
              have hP : va_P D vwCl (wX4 cI h0 h1 h2 mP_14 mS) H := by rw [emP_14]; exact hP
              have hD : va_D A (wX4 cI h0 h1 h2 mP_14 mS) := by rw [emP_14]; exact hD
              obtain ⟨x3_15, ex3_15, h⟩ := kl_some h
              refine lv_iinc (v := x3_15) (lv' := [(3, .int x3_15), (4, .int 0), (0, .ref h0), (1, .int p1), (2, .int p2)]) hx hb dX4_shiftForInsertion_59 hl (k := 4) rfl (by rw [ex3_15]; rfl) (by decide) rfl (fun ls hl => ?_)
              refine lv_goto (tgt := 2) hx hb dX4_shiftForInsertion_62 (by decide) ?_
              exact ih x3_15 mP_14 h H locs hP hD hS ls (lv_sub hl [2, 3, 4, 0] rfl)
        · replace h := it_some q3 h
          refine lv_aload_n hx hb dX4_shiftForInsertion_17 rfl (lv_at hl 0 rfl) ?_
          refine va_get (D := D) (ci := 4) (v := .ref h2) (C := RX4) (T := TX4) (N := 2) hx hb hg uX4 hown hK.1 hP 0 rfl rfl 1 (by decide) (hg _ gw_62) (fun _ h9 => h9) rfl dX4_shiftForInsertion_18 ?_
          refine lv_iload_n hx hb dX4_shiftForInsertion_21 rfl (lv_at hl 3 rfl) ?_
          obtain ⟨v16, h⟩ := rd_some h
          refine va_iald hx hb hK.1 hP 2 0 rfl rfl v16 dX4_shiftForInsertion_22 ?_
          refine lv_iconst (v := 1) hx hb dX4_shiftForInsertion_23 (by decide) ?_
          refine lv_icmp_ne (tgt := 31) hx hb dX4_shiftForInsertion_24 (by decide) (fun q17 => ?_) (fun q17 => ?_)
          · replace h := if_some q17 h
            refine lv_iconst (v := 0) hx hb dX4_shiftForInsertion_31 (by decide) ?_
            refine lv_istore (lv' := [(4, .int 0), (0, .ref h0), (1, .int p1), (2, .int p2), (3, .int x3)]) hx hb dX4_shiftForInsertion_32 hl (by decide) rfl (fun ls hl => ?_)
            refine lv_aload_n hx hb dX4_shiftForInsertion_34 rfl (lv_at hl 1 rfl) ?_
            refine va_get (D := D) (ci := 4) (v := .ref h1) (C := RX4) (T := TX4) (N := 2) hx hb hg uX4 hown hK.1 hP 0 rfl rfl 0 (by decide) (hg _ gw_61) (fun _ h9 => h9) rfl dX4_shiftForInsertion_35 ?_
            refine lv_iload_n hx hb dX4_shiftForInsertion_38 rfl (lv_at hl 4 rfl) ?_
            obtain ⟨v18, h⟩ := rd_some h
            refine va_iald hx hb hK.1 hP 1 0 rfl rfl v18 dX4_shiftForInsertion_39 ?_
            refine lv_iload_n hx hb dX4_shiftForInsertion_40 rfl (lv_at hl 2 rfl) ?_
            refine lv_icmp_gt (tgt := 49) hx hb dX4_shiftForInsertion_41 (by decide) (fun q19 => ?_) (fun q19 => ?_)
            · replace h := it_some q19 h
              refine lv_aload_n hx hb dX4_shiftForInsertion_49 rfl (lv_at hl 1 rfl) ?_
              refine va_get (D := D) (ci := 4) (v := .ref h1) (C := RX4) (T := TX4) (N := 2) hx hb hg uX4 hown hK.1 hP 0 rfl rfl 0 (by decide) (hg _ gw_61) (fun _ h9 => h9) rfl dX4_shiftForInsertion_50 ?_
              refine lv_iload_n hx hb dX4_shiftForInsertion_53 rfl (lv_at hl 4 rfl) ?_
              refine lv_dup2_11 hx hb dX4_shiftForInsertion_54 rfl rfl ?_
              obtain ⟨v20, h⟩ := rd_some h
              refine va_iald hx hb hK.1 hP 1 0 rfl rfl v20 dX4_shiftForInsertion_55 ?_
              refine lv_iload_n hx hb dX4_shiftForInsertion_56 rfl (lv_at hl 3 rfl) ?_
              refine lv_iadd hx hb dX4_shiftForInsertion_57 ?_
              obtain ⟨v21, h⟩ := rd_some h
              obtain ⟨mP_22, emP_22, h⟩ := kl_some h
              refine va_iast hx hb hK.1 hP hD hS 1 0 rfl rfl v21 dX4_shiftForInsertion_58 (fun H locs hP hD hS => ?_)
              have hP : va_P D vwCl (wX4 cI h0 h1 h2 mP_22 mS) H := by rw [emP_22]; exact hP
              have hD : va_D A (wX4 cI h0 h1 h2 mP_22 mS) := by rw [emP_22]; exact hD
              obtain ⟨x3_23, ex3_23, h⟩ := kl_some h
              refine lv_iinc (v := x3_23) (lv' := [(3, .int x3_23), (4, .int 0), (0, .ref h0), (1, .int p1), (2, .int p2)]) hx hb dX4_shiftForInsertion_59 hl (k := 4) rfl (by rw [ex3_23]; rfl) (by decide) rfl (fun ls hl => ?_)
              refine lv_goto (tgt := 2) hx hb dX4_shiftForInsertion_62 (by decide) ?_
              exact ih x3_23 mP_22 h H locs hP hD hS ls (lv_sub hl [2, 3, 4, 0] rfl)
            · replace h := if_some q19 h
              refine lv_iload hx hb dX4_shiftForInsertion_44 (lv_at hl 0 rfl) ?_
              refine lv_if_eq (tgt := 59) hx hb dX4_shiftForInsertion_46 (by decide) (fun q24 => ?_) (fun q24 => ?_)
              · replace h := it_some q24 h
                obtain ⟨x3_25, ex3_25, h⟩ := kl_some h
                refine lv_iinc (v := x3_25) (lv' := [(3, .int x3_25), (4, .int 0), (0, .ref h0), (1, .int p1), (2, .int p2)]) hx hb dX4_shiftForInsertion_59 hl (k := 4) rfl (by rw [ex3_25]; rfl) (by decide) rfl (fun ls hl => ?_)
                refine lv_goto (tgt := 2) hx hb dX4_shiftForInsertion_62 (by decide) ?_
                exact ih x3_25 mP h H locs hP hD hS ls (lv_sub hl [2, 3, 4, 0] rfl)
              · replace h := if_some q24 h
                refine lv_aload_n hx hb dX4_shiftForInsertion_49 rfl (lv_at hl 1 rfl) ?_
                refine va_get (D := D) (ci := 4) (v := .ref h1) (C := RX4) (T := TX4) (N := 2) hx hb hg uX4 hown hK.1 hP 0 rfl rfl 0 (by decide) (hg _ gw_61) (fun _ h9 => h9) rfl dX4_shiftForInsertion_50 ?_
                refine lv_iload_n hx hb dX4_shiftForInsertion_53 rfl (lv_at hl 4 rfl) ?_
                refine lv_dup2_11 hx hb dX4_shiftForInsertion_54 rfl rfl ?_
                obtain ⟨v26, h⟩ := rd_some h
                refine va_iald hx hb hK.1 hP 1 0 rfl rfl v26 dX4_shiftForInsertion_55 ?_
                refine lv_iload_n hx hb dX4_shiftForInsertion_56 rfl (lv_at hl 3 rfl) ?_
                refine lv_iadd hx hb dX4_shiftForInsertion_57 ?_
                obtain ⟨v27, h⟩ := rd_some h
                obtain ⟨mP_28, emP_28, h⟩ := kl_some h
                refine va_iast hx hb hK.1 hP hD hS 1 0 rfl rfl v27 dX4_shiftForInsertion_58 (fun H locs hP hD hS => ?_)
                have hP : va_P D vwCl (wX4 cI h0 h1 h2 mP_28 mS) H := by rw [emP_28]; exact hP
                have hD : va_D A (wX4 cI h0 h1 h2 mP_28 mS) := by rw [emP_28]; exact hD
                obtain ⟨x3_29, ex3_29, h⟩ := kl_some h
                refine lv_iinc (v := x3_29) (lv' := [(3, .int x3_29), (4, .int 0), (0, .ref h0), (1, .int p1), (2, .int p2)]) hx hb dX4_shiftForInsertion_59 hl (k := 4) rfl (by rw [ex3_29]; rfl) (by decide) rfl (fun ls hl => ?_)
                refine lv_goto (tgt := 2) hx hb dX4_shiftForInsertion_62 (by decide) ?_
                exact ih x3_29 mP_28 h H locs hP hD hS ls (lv_sub hl [2, 3, 4, 0] rfl)
          · replace h := it_some q17 h
            refine lv_iconst (v := 1) hx hb dX4_shiftForInsertion_27 (by decide) ?_
            refine lv_goto (tgt := 32) hx hb dX4_shiftForInsertion_28 (by decide) ?_
            refine lv_istore (lv' := [(4, .int 1), (0, .ref h0), (1, .int p1), (2, .int p2), (3, .int x3)]) hx hb dX4_shiftForInsertion_32 hl (by decide) rfl (fun ls hl => ?_)
            refine lv_aload_n hx hb dX4_shiftForInsertion_34 rfl (lv_at hl 1 rfl) ?_
            refine va_get (D := D) (ci := 4) (v := .ref h1) (C := RX4) (T := TX4) (N := 2) hx hb hg uX4 hown hK.1 hP 0 rfl rfl 0 (by decide) (hg _ gw_61) (fun _ h9 => h9) rfl dX4_shiftForInsertion_35 ?_
            refine lv_iload_n hx hb dX4_shiftForInsertion_38 rfl (lv_at hl 4 rfl) ?_
            obtain ⟨v30, h⟩ := rd_some h
            refine va_iald hx hb hK.1 hP 1 0 rfl rfl v30 dX4_shiftForInsertion_39 ?_
            refine lv_iload_n hx hb dX4_shiftForInsertion_40 rfl (lv_at hl 2 rfl) ?_
            refine lv_icmp_gt (tgt := 49) hx hb dX4_shiftForInsertion_41 (by decide) (fun q31 => ?_) (fun q31 => ?_)
            · replace h := it_some q31 h
              refine lv_aload_n hx hb dX4_shiftForInsertion_49 rfl (lv_at hl 1 rfl) ?_
              refine va_get (D := D) (ci := 4) (v := .ref h1) (C := RX4) (T := TX4) (N := 2) hx hb hg uX4 hown hK.1 hP 0 rfl rfl 0 (by decide) (hg _ gw_61) (fun _ h9 => h9) rfl dX4_shiftForInsertion_50 ?_
              refine lv_iload_n hx hb dX4_shiftForInsertion_53 rfl (lv_at hl 4 rfl) ?_
              refine lv_dup2_11 hx hb dX4_shiftForInsertion_54 rfl rfl ?_
              obtain ⟨v32, h⟩ := rd_some h
              refine va_iald hx hb hK.1 hP 1 0 rfl rfl v32 dX4_shiftForInsertion_55 ?_
              refine lv_iload_n hx hb dX4_shiftForInsertion_56 rfl (lv_at hl 3 rfl) ?_
              refine lv_iadd hx hb dX4_shiftForInsertion_57 ?_
              obtain ⟨v33, h⟩ := rd_some h
              obtain ⟨mP_34, emP_34, h⟩ := kl_some h
              refine va_iast hx hb hK.1 hP hD hS 1 0 rfl rfl v33 dX4_shiftForInsertion_58 (fun H locs hP hD hS => ?_)
              have hP : va_P D vwCl (wX4 cI h0 h1 h2 mP_34 mS) H := by rw [emP_34]; exact hP
              have hD : va_D A (wX4 cI h0 h1 h2 mP_34 mS) := by rw [emP_34]; exact hD
              obtain ⟨x3_35, ex3_35, h⟩ := kl_some h
              refine lv_iinc (v := x3_35) (lv' := [(3, .int x3_35), (4, .int 1), (0, .ref h0), (1, .int p1), (2, .int p2)]) hx hb dX4_shiftForInsertion_59 hl (k := 4) rfl (by rw [ex3_35]; rfl) (by decide) rfl (fun ls hl => ?_)
              refine lv_goto (tgt := 2) hx hb dX4_shiftForInsertion_62 (by decide) ?_
              exact ih x3_35 mP_34 h H locs hP hD hS ls (lv_sub hl [2, 3, 4, 0] rfl)
            · replace h := if_some q31 h
              refine lv_iload hx hb dX4_shiftForInsertion_44 (lv_at hl 0 rfl) ?_
              refine lv_if_eq (tgt := 59) hx hb dX4_shiftForInsertion_46 (by decide) (fun q36 => ?_) (fun q36 => ?_)
              · replace h := it_some q36 h
                obtain ⟨x3_37, ex3_37, h⟩ := kl_some h
                refine lv_iinc (v := x3_37) (lv' := [(3, .int x3_37), (4, .int 1), (0, .ref h0), (1, .int p1), (2, .int p2)]) hx hb dX4_shiftForInsertion_59 hl (k := 4) rfl (by rw [ex3_37]; rfl) (by decide) rfl (fun ls hl => ?_)
                refine lv_goto (tgt := 2) hx hb dX4_shiftForInsertion_62 (by decide) ?_
                exact ih x3_37 mP h H locs hP hD hS ls (lv_sub hl [2, 3, 4, 0] rfl)
              · replace h := if_some q36 h
                refine lv_aload_n hx hb dX4_shiftForInsertion_49 rfl (lv_at hl 1 rfl) ?_
                refine va_get (D := D) (ci := 4) (v := .ref h1) (C := RX4) (T := TX4) (N := 2) hx hb hg uX4 hown hK.1 hP 0 rfl rfl 0 (by decide) (hg _ gw_61) (fun _ h9 => h9) rfl dX4_shiftForInsertion_50 ?_
                refine lv_iload_n hx hb dX4_shiftForInsertion_53 rfl (lv_at hl 4 rfl) ?_
                refine lv_dup2_11 hx hb dX4_shiftForInsertion_54 rfl rfl ?_
                obtain ⟨v38, h⟩ := rd_some h
                refine va_iald hx hb hK.1 hP 1 0 rfl rfl v38 dX4_shiftForInsertion_55 ?_
                refine lv_iload_n hx hb dX4_shiftForInsertion_56 rfl (lv_at hl 3 rfl) ?_
                refine lv_iadd hx hb dX4_shiftForInsertion_57 ?_
                obtain ⟨v39, h⟩ := rd_some h
                obtain ⟨mP_40, emP_40, h⟩ := kl_some h
                refine va_iast hx hb hK.1 hP hD hS 1 0 rfl rfl v39 dX4_shiftForInsertion_58 (fun H locs hP hD hS => ?_)
                have hP : va_P D vwCl (wX4 cI h0 h1 h2 mP_40 mS) H := by rw [emP_40]; exact hP
                have hD : va_D A (wX4 cI h0 h1 h2 mP_40 mS) := by rw [emP_40]; exact hD
                obtain ⟨x3_41, ex3_41, h⟩ := kl_some h
                refine lv_iinc (v := x3_41) (lv' := [(3, .int x3_41), (4, .int 1), (0, .ref h0), (1, .int p1), (2, .int p2)]) hx hb dX4_shiftForInsertion_59 hl (k := 4) rfl (by rw [ex3_41]; rfl) (by decide) rfl (fun ls hl => ?_)
                refine lv_goto (tgt := 2) hx hb dX4_shiftForInsertion_62 (by decide) ?_
                exact ih x3_41 mP_40 h H locs hP hD hS ls (lv_sub hl [2, 3, 4, 0] rfl)
  have hl : lv_has ls 5 [(0, .ref h0), (1, .int p1), (2, .int p2)] := hl
  have hP : va_P D vwCl (wX4 cI h0 h1 h2 mP mS) s.heap := hP
  have hD : va_D A (wX4 cI h0 h1 h2 mP mS) := hD
  show W p l e rm_X4_shiftForInsertion s m args below meth c s.heap [] 0 0 (FV D below args s (wX4 cI h0 h1 h2 (mP') mS) A) (F0 m 0 ls [])
  unfold f_X4_shiftForInsertion at h
  have hmain : ∀ (H : Heap) (locs : List Loc), va_P D vwCl (wX4 cI h0 h1 h2 mP mS) H → va_S A s.heap H locs → W p l e rm_X4_shiftForInsertion s m args below meth c H locs 0 0 (FV D below args s (wX4 cI h0 h1 h2 (mP') mS) A) (F0 m 0 ls []) := by
    intro H locs hP hS
    refine lv_iconst (v := 0) hx hb dX4_shiftForInsertion_0 (by decide) ?_
    refine lv_istore_n (lv' := [(3, .int 0), (0, .ref h0), (1, .int p1), (2, .int p2)]) hx hb dX4_shiftForInsertion_1 rfl hl (by decide) rfl (fun ls hl => ?_)
    exact c_2 Z 0 mP h H locs hP hD hS ls (lv_sub hl [1, 2, 3, 0] rfl)
  exact hmain _ _ hP hS
abbrev rm_X4_shiftForDeletion : Room := { frames := 1, cells := 0, slots := 0, locals := 21 }
def f_X4_shiftForDeletion_b2 (Z : Nat) (p1 : Int32) (p2 : Int32) (rec : Int32 → (Nat → Int32) → Option ((Nat → Int32))) (x3 : Int32) (mP : Nat → Int32) : Option ((Nat → Int32)) :=
      if 4 ≤ x3 then
        some mP
      else
        rd x3 4 (
        if (mP (Int32.toNatClampNeg x3)) ≤ p1 then
          kl (x3 + 1) fun x3_4 =>
          rec x3_4 mP
        else
          rd x3 4 (
          kl (if p1 < ((mP (Int32.toNatClampNeg x3)) - p2) then ((mP (Int32.toNatClampNeg x3)) - p2) else p1) fun z6 =>
          rd x3 4 (kl (upd mP (Int32.toNatClampNeg x3) z6) fun mP_8 =>
          kl (x3 + 1) fun x3_9 =>
          rec x3_9 mP_8)))
def f_X4_shiftForDeletion_l2 (Z : Nat) (p1 : Int32) (p2 : Int32) : Nat → Int32 → (Nat → Int32) → Option ((Nat → Int32))
  | 0, _, _ => none
  | n + 1, x3, mP => f_X4_shiftForDeletion_b2 Z p1 p2 (f_X4_shiftForDeletion_l2 Z p1 p2 n) x3 mP
def f_X4_shiftForDeletion (Z : Nat) (p1 : Int32) (p2 : Int32) (mP : Nat → Int32) : Option ((Nat → Int32)) :=
  f_X4_shiftForDeletion_l2 Z p1 p2 Z 0 mP
set_option maxRecDepth 100000 in
set_option maxHeartbeats 4000000 in
theorem k_X4_shiftForDeletion (l : Launch) (D : va_G) (cI cS cL : ClassId) (Z : Nat) (h0 : Nat) (h1 : Nat) (h2 : Nat) (p1 : Int32) (p2 : Int32) (mP : Nat → Int32) (mS : Nat → Int32) {mP' : Nat → Int32} (h : f_X4_shiftForDeletion Z p1 p2 mP = some mP') : CV l yX4_shiftForDeletion cX4_shiftForDeletion 4 none rm_X4_shiftForDeletion D cI cS cL [.ref h0, .int p1, .int p2] (wX4 cI h0 h1 h2 mP mS) (wX4 cI h0 h1 h2 (mP') mS) := by
  refine ent_v (by decide +kernel) (Nat.le_of_ble_eq_true rfl) ?_
  intro p e s m args below meth c A ls hx hb hr hml hlocks hg hown hK hP hD hS hA hl
  have hown : s.vm.findClass RX4 = some m.cls := hown
  have c_2 : ∀ (n : Nat) (x3 : Int32) (mP : Nat → Int32), f_X4_shiftForDeletion_l2 Z p1 p2 n x3 mP = some mP' → ∀ (H : Heap) (locs : List Loc), va_P D vwCl (wX4 cI h0 h1 h2 mP mS) H → va_D A (wX4 cI h0 h1 h2 mP mS) → va_S A s.heap H locs → ∀ ls : Array Slot, lv_has ls 4 [(0, .ref h0), (1, .int p1), (2, .int p2), (3, .int x3)] → W p l e rm_X4_shiftForDeletion s m args below meth c H locs 0 0 (FV D below args s (wX4 cI h0 h1 h2 (mP') mS) A) (F0 m 2 ls []) := by
    intro n
    induction n with
    | zero => intro x3 mP h; exact no_some h
    | succ n ih =>
      intro x3 mP h H locs hP hD hS ls hl
      have h : f_X4_shiftForDeletion_b2 Z p1 p2 (f_X4_shiftForDeletion_l2 Z p1 p2 n) x3 mP = some mP' := h
      unfold f_X4_shiftForDeletion_b2 at h
      refine lv_iload_n hx hb dX4_shiftForDeletion_2 rfl (lv_at hl 3 rfl) ?_
      refine lv_iconst (v := 4) hx hb dX4_shiftForDeletion_3 (by decide) ?_
      refine lv_icmp_ge (tgt := 41) hx hb dX4_shiftForDeletion_4 (by decide) (fun q1 => ?_) (fun q1 => ?_)
      · replace h := it_some q1 h
        cases h
        exact ret_v hx hb hr hlocks hP hD hS dX4_shiftForDeletion_41
      · replace h := if_some q1 h
        refine lv_aload_n hx hb dX4_shiftForDeletion_7 rfl (lv_at hl 0 rfl) ?_
        refine va_get (D := D) (ci := 4) (v := .ref h1) (C := RX4) (T := TX4) (N := 2) hx hb hg uX4 hown hK.1 hP 0 rfl rfl 0 (by decide) (hg _ gw_61) (fun _ h9 => h9) rfl dX4_shiftForDeletion_8 ?_
        refine lv_iload_n hx hb dX4_shiftForDeletion_11 rfl (lv_at hl 3 rfl) ?_
        obtain ⟨v2, h⟩ := rd_some h
        refine va_iald hx hb hK.1 hP 1 0 rfl rfl v2 dX4_shiftForDeletion_12 ?_
        refine lv_iload_n hx hb dX4_shiftForDeletion_13 rfl (lv_at hl 1 rfl) ?_
        refine lv_icmp_le (tgt := 35) hx hb dX4_shiftForDeletion_14 (by decide) (fun q3 => ?_) (fun q3 => ?_)
        · replace h := it_some q3 h
          obtain ⟨x3_4, ex3_4, h⟩ := kl_some h
          refine lv_iinc (v := x3_4) (lv' := [(3, .int x3_4), (0, .ref h0), (1, .int p1), (2, .int p2)]) hx hb dX4_shiftForDeletion_35 hl (k := 3) rfl (by rw [ex3_4]; rfl) (by decide) rfl (fun ls hl => ?_)
          refine lv_goto (tgt := 2) hx hb dX4_shiftForDeletion_38 (by decide) ?_
          exact ih x3_4 mP h H locs hP hD hS ls (lv_sub hl [1, 2, 3, 0] rfl)
        · replace h := if_some q3 h
          refine lv_aload_n hx hb dX4_shiftForDeletion_17 rfl (lv_at hl 0 rfl) ?_
          refine va_get (D := D) (ci := 4) (v := .ref h1) (C := RX4) (T := TX4) (N := 2) hx hb hg uX4 hown hK.1 hP 0 rfl rfl 0 (by decide) (hg _ gw_61) (fun _ h9 => h9) rfl dX4_shiftForDeletion_18 ?_
          refine lv_iload_n hx hb dX4_shiftForDeletion_21 rfl (lv_at hl 3 rfl) ?_
          refine lv_iload_n hx hb dX4_shiftForDeletion_22 rfl (lv_at hl 1 rfl) ?_
          refine lv_aload_n hx hb dX4_shiftForDeletion_23 rfl (lv_at hl 0 rfl) ?_
          refine va_get (D := D) (ci := 4) (v := .ref h1) (C := RX4) (T := TX4) (N := 2) hx hb hg uX4 hown hK.1 hP 0 rfl rfl 0 (by decide) (hg _ gw_61) (fun _ h9 => h9) rfl dX4_shiftForDeletion_24 ?_
          refine lv_iload_n hx hb dX4_shiftForDeletion_27 rfl (lv_at hl 3 rfl) ?_
          obtain ⟨v5, h⟩ := rd_some h
          refine va_iald hx hb hK.1 hP 1 0 rfl rfl v5 dX4_shiftForDeletion_28 ?_
          refine lv_iload_n hx hb dX4_shiftForDeletion_29 rfl (lv_at hl 2 rfl) ?_
          refine lv_isub hx hb dX4_shiftForDeletion_30 ?_
          obtain ⟨z6, ez6, h⟩ := kl_some h
          refine va_mmax hx hb (hml.trans hl.1.symm) hown (hg _ gw_493) (hg _ gw_45) (hg _ gw_11) (hg _ gw_46) (by decide) (Nat.le_of_ble_eq_true rfl) (Nat.le_of_ble_eq_true rfl) (Nat.le_of_ble_eq_true rfl) dX4_shiftForDeletion_31 ?_
          refine nm_i ez6 ?_
          obtain ⟨v7, h⟩ := rd_some h
          obtain ⟨mP_8, emP_8, h⟩ := kl_some h
          refine va_iast hx hb hK.1 hP hD hS 1 0 rfl rfl v7 dX4_shiftForDeletion_34 (fun H locs hP hD hS => ?_)
          have hP : va_P D vwCl (wX4 cI h0 h1 h2 mP_8 mS) H := by rw [emP_8]; exact hP
          have hD : va_D A (wX4 cI h0 h1 h2 mP_8 mS) := by rw [emP_8]; exact hD
          obtain ⟨x3_9, ex3_9, h⟩ := kl_some h
          refine lv_iinc (v := x3_9) (lv' := [(3, .int x3_9), (0, .ref h0), (1, .int p1), (2, .int p2)]) hx hb dX4_shiftForDeletion_35 hl (k := 3) rfl (by rw [ex3_9]; rfl) (by decide) rfl (fun ls hl => ?_)
          refine lv_goto (tgt := 2) hx hb dX4_shiftForDeletion_38 (by decide) ?_
          exact ih x3_9 mP_8 h H locs hP hD hS ls (lv_sub hl [1, 2, 3, 0] rfl)
  have hl : lv_has ls 4 [(0, .ref h0), (1, .int p1), (2, .int p2)] := hl
  have hP : va_P D vwCl (wX4 cI h0 h1 h2 mP mS) s.heap := hP
  have hD : va_D A (wX4 cI h0 h1 h2 mP mS) := hD
  show W p l e rm_X4_shiftForDeletion s m args below meth c s.heap [] 0 0 (FV D below args s (wX4 cI h0 h1 h2 (mP') mS) A) (F0 m 0 ls [])
  unfold f_X4_shiftForDeletion at h
  have hmain : ∀ (H : Heap) (locs : List Loc), va_P D vwCl (wX4 cI h0 h1 h2 mP mS) H → va_S A s.heap H locs → W p l e rm_X4_shiftForDeletion s m args below meth c H locs 0 0 (FV D below args s (wX4 cI h0 h1 h2 (mP') mS) A) (F0 m 0 ls []) := by
    intro H locs hP hS
    refine lv_iconst (v := 0) hx hb dX4_shiftForDeletion_0 (by decide) ?_
    refine lv_istore_n (lv' := [(3, .int 0), (0, .ref h0), (1, .int p1), (2, .int p2)]) hx hb dX4_shiftForDeletion_1 rfl hl (by decide) rfl (fun ls hl => ?_)
    exact c_2 Z 0 mP h H locs hP hD hS ls (lv_sub hl [1, 2, 3, 0] rfl)
  exact hmain _ _ hP hS
abbrev rm_X4_assign : Room := { frames := 2, cells := 0, slots := 0, locals := 43 }
def f_X4_assign_b2 (Z : Nat) (moP : Nat → Int32) (moS : Nat → Int32) (rec : Int32 → (Nat → Int32) → (Nat → Int32) → Option ((Nat → Int32) × (Nat → Int32))) (x2 : Int32) (mP : Nat → Int32) (mS : Nat → Int32) : Option ((Nat → Int32) × (Nat → Int32)) :=
      if 4 ≤ x2 then
        some (mP, mS)
      else
        rd x2 4 (
        rd x2 4 (
        (f_X4_place Z x2 (moP (Int32.toNatClampNeg x2)) (moS (Int32.toNatClampNeg x2)) mP mS).bind fun (mP_4, mS_4) =>
        kl (x2 + 1) fun x2_5 =>
        rec x2_5 mP_4 mS_4))
def f_X4_assign_l2 (Z : Nat) (moP : Nat → Int32) (moS : Nat → Int32) : Nat → Int32 → (Nat → Int32) → (Nat → Int32) → Option ((Nat → Int32) × (Nat → Int32))
  | 0, _, _, _ => none
  | n + 1, x2, mP, mS => f_X4_assign_b2 Z moP moS (f_X4_assign_l2 Z moP moS n) x2 mP mS
def f_X4_assign (Z : Nat) (mP : Nat → Int32) (mS : Nat → Int32) (moP : Nat → Int32) (moS : Nat → Int32) : Option ((Nat → Int32) × (Nat → Int32)) :=
  f_X4_assign_l2 Z moP moS Z 0 mP mS
set_option maxRecDepth 100000 in
set_option maxHeartbeats 4000000 in
theorem k_X4_assign (l : Launch) (D : va_G) (cI cS cL : ClassId) (Z : Nat) (h0 : Nat) (h1 : Nat) (h2 : Nat) (h3 : Nat) (h4 : Nat) (h5 : Nat) (mP : Nat → Int32) (mS : Nat → Int32) (moP : Nat → Int32) (moS : Nat → Int32) {mP' : Nat → Int32} {mS' : Nat → Int32} (h : f_X4_assign Z mP mS moP moS = some (mP', mS')) : CV l yX4_assign cX4_assign 3 none rm_X4_assign D cI cS cL [.ref h0, .ref h3] (wX4 cI h0 h1 h2 mP mS ++ wX4 cI h3 h4 h5 moP moS) (wX4 cI h0 h1 h2 (mP') (mS') ++ wX4 cI h3 h4 h5 moP moS) := by
  refine ent_v (by decide +kernel) (Nat.le_of_ble_eq_true rfl) ?_
  intro p e s m args below meth c A ls hx hb hr hml hlocks hg hown hK hP hD hS hA hl
  have hown : s.vm.findClass RX4 = some m.cls := hown
  have c_2 : ∀ (n : Nat) (x2 : Int32) (mP : Nat → Int32) (mS : Nat → Int32), f_X4_assign_l2 Z moP moS n x2 mP mS = some (mP', mS') → ∀ (H : Heap) (locs : List Loc), va_P D vwCl (wX4 cI h0 h1 h2 mP mS ++ wX4 cI h3 h4 h5 moP moS) H → va_D A (wX4 cI h0 h1 h2 mP mS ++ wX4 cI h3 h4 h5 moP moS) → va_S A s.heap H locs → ∀ ls : Array Slot, lv_has ls 3 [(0, .ref h0), (1, .ref h3), (2, .int x2)] → W p l e rm_X4_assign s m args below meth c H locs 0 0 (FV D below args s (wX4 cI h0 h1 h2 (mP') (mS') ++ wX4 cI h3 h4 h5 moP moS) A) (F0 m 2 ls []) := by
    intro n
    induction n with
    | zero => intro x2 mP mS h; exact no_some h
    | succ n ih =>
      intro x2 mP mS h H locs hP hD hS ls hl
      have h : f_X4_assign_b2 Z moP moS (f_X4_assign_l2 Z moP moS n) x2 mP mS = some (mP', mS') := h
      unfold f_X4_assign_b2 at h
      refine lv_iload_n hx hb dX4_assign_2 rfl (lv_at hl 2 rfl) ?_
      refine lv_iconst (v := 4) hx hb dX4_assign_3 (by decide) ?_
      refine lv_icmp_ge (tgt := 30) hx hb dX4_assign_4 (by decide) (fun q1 => ?_) (fun q1 => ?_)
      · replace h := it_some q1 h
        cases h
        exact ret_v hx hb hr hlocks hP hD hS dX4_assign_30
      · replace h := if_some q1 h
        refine lv_aload_n hx hb dX4_assign_7 rfl (lv_at hl 0 rfl) ?_
        refine lv_iload_n hx hb dX4_assign_8 rfl (lv_at hl 2 rfl) ?_
        refine lv_aload_n hx hb dX4_assign_9 rfl (lv_at hl 1 rfl) ?_
        refine va_get (D := D) (ci := 4) (v := .ref h4) (C := RX4) (T := TX4) (N := 2) hx hb hg uX4 hown hK.1 hP 3 rfl rfl 0 (by decide) (hg _ gw_61) (fun _ h9 => h9) rfl dX4_assign_10 ?_
        refine lv_iload_n hx hb dX4_assign_13 rfl (lv_at hl 2 rfl) ?_
        obtain ⟨v2, h⟩ := rd_some h
        refine va_iald hx hb hK.1 hP 4 0 rfl rfl v2 dX4_assign_14 ?_
        refine lv_aload_n hx hb dX4_assign_15 rfl (lv_at hl 1 rfl) ?_
        refine va_get (D := D) (ci := 4) (v := .ref h5) (C := RX4) (T := TX4) (N := 2) hx hb hg uX4 hown hK.1 hP 3 rfl rfl 1 (by decide) (hg _ gw_62) (fun _ h9 => h9) rfl dX4_assign_16 ?_
        refine lv_iload_n hx hb dX4_assign_19 rfl (lv_at hl 2 rfl) ?_
        obtain ⟨v3, h⟩ := rd_some h
        refine va_iald hx hb hK.1 hP 5 0 rfl rfl v3 dX4_assign_20 ?_
        obtain ⟨⟨mP_4, mS_4⟩, ec4, h⟩ := bd_some h
        refine cV_v (As := [.int x2, .int (moP (Int32.toNatClampNeg x2)), .int (moS (Int32.toNatClampNeg x2))]) (rest := []) (wc := (wX4 cI h0 h1 h2 mP mS)) (wc' := (wX4 cI h0 h1 h2 mP_4 mS_4)) hx hb hml hown hg hK hP hD hS hA hl.1 (k_X4_place l D cI cS cL Z h0 h1 h2 x2 (moP (Int32.toNatClampNeg x2)) (moS (Int32.toNatClampNeg x2)) mP mS ec4) gm_X4_place gw_294 ⟨rfl, rfl, by decide, by decide⟩ ⟨Nat.zero_le _, Nat.zero_le _⟩ [0, 1, 2] rfl rfl rfl rfl rfl rfl rfl rfl (Nat.le_of_ble_eq_true rfl) dX4_assign_21 (fun H locs hP hD hS => ?_)
        have hP : va_P D vwCl (wX4 cI h0 h1 h2 mP_4 mS_4 ++ wX4 cI h3 h4 h5 moP moS) H := hP
        have hD : va_D A (wX4 cI h0 h1 h2 mP_4 mS_4 ++ wX4 cI h3 h4 h5 moP moS) := hD
        obtain ⟨x2_5, ex2_5, h⟩ := kl_some h
        refine lv_iinc (v := x2_5) (lv' := [(2, .int x2_5), (0, .ref h0), (1, .ref h3)]) hx hb dX4_assign_24 hl (k := 2) rfl (by rw [ex2_5]; rfl) (by decide) rfl (fun ls hl => ?_)
        refine lv_goto (tgt := 2) hx hb dX4_assign_27 (by decide) ?_
        exact ih x2_5 mP_4 mS_4 h H locs hP hD hS ls (lv_sub hl [1, 2, 0] rfl)
  have hl : lv_has ls 3 [(0, .ref h0), (1, .ref h3)] := hl
  have hP : va_P D vwCl (wX4 cI h0 h1 h2 mP mS ++ wX4 cI h3 h4 h5 moP moS) s.heap := hP
  have hD : va_D A (wX4 cI h0 h1 h2 mP mS ++ wX4 cI h3 h4 h5 moP moS) := hD
  show W p l e rm_X4_assign s m args below meth c s.heap [] 0 0 (FV D below args s (wX4 cI h0 h1 h2 (mP') (mS') ++ wX4 cI h3 h4 h5 moP moS) A) (F0 m 0 ls [])
  unfold f_X4_assign at h
  have hmain : ∀ (H : Heap) (locs : List Loc), va_P D vwCl (wX4 cI h0 h1 h2 mP mS ++ wX4 cI h3 h4 h5 moP moS) H → va_S A s.heap H locs → W p l e rm_X4_assign s m args below meth c H locs 0 0 (FV D below args s (wX4 cI h0 h1 h2 (mP') (mS') ++ wX4 cI h3 h4 h5 moP moS) A) (F0 m 0 ls []) := by
    intro H locs hP hS
    refine lv_iconst (v := 0) hx hb dX4_assign_0 (by decide) ?_
    refine lv_istore_n (lv' := [(2, .int 0), (0, .ref h0), (1, .ref h3)]) hx hb dX4_assign_1 rfl hl (by decide) rfl (fun ls hl => ?_)
    exact c_2 Z 0 mP mS h H locs hP hD hS ls (lv_sub hl [1, 2, 0] rfl)
  exact hmain _ _ hP hS
