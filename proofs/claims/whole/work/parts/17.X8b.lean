abbrev rm_X8_clip : Room := { frames := 1, cells := 0, slots := 0, locals := 21 }
def f_X8_clip (Z : Nat) (p1 : Int32) (aTh : Int32) (aS : Nat → Int32) : Option (Int32 × Int32) :=
  if 0 ≤ p1 then
    rd 10 344 (
    if (aS (Int32.toNatClampNeg 10)) ≤ p1 then
      some ((-1), (0))
    else
      rd (20 + p1) 344 (
      some (aS (Int32.toNatClampNeg (20 + p1)), (0))))
  else
    (f_X8_fails Z 1 (0)).bind fun (r5, aTh_5) =>
    some (r5, aTh_5)
set_option maxRecDepth 100000 in
set_option maxHeartbeats 4000000 in
theorem k_X8_clip (l : Launch) (D : va_G) (cI cS cL : ClassId) (Z : Nat) (h0 : Nat) (h1 : Nat) (h2 : Nat) (h3 : Nat) (h4 : Nat) (h5 : Nat) (p1 : Int32) (aTh : Int32) (aSm : Int32) (aLn : Int32) (aAt : Int32) (aWe : Int32) (aRm : Int32) (aBm : Int32) (aHa : Int64) (aS : Nat → Int32) (aSv : Nat → Int32) (aCm : Nat → Int32) (aRd : Nat → Int32) (aBy : Nat → Int32) {r : Int32} {aTh' : Int32} (h : f_X8_clip Z p1 aTh aS = some (r, aTh')) : CI l yX8_clip cX8_clip 2 (some .int) rm_X8_clip D cI cS cL [.ref h0, .int p1] (wX8 cI h0 h1 h2 h3 h4 h5 aTh aSm aLn aAt aWe aRm aBm aHa aS aSv aCm aRd aBy) (wX8 cI h0 h1 h2 h3 h4 h5 (aTh') aSm aLn aAt aWe aRm aBm aHa aS aSv aCm aRd aBy) r := by
  refine ent_i (by decide +kernel) (Nat.le_of_ble_eq_true rfl) ?_
  intro p e s m args below meth c A ls hx hb hr hml hlocks hg hown hK hP hD hS hA hl
  have hown : s.vm.findClass RX8 = some m.cls := hown
  have hl : lv_has ls 2 [(0, .ref h0), (1, .int p1)] := hl
  have hP : va_P D vwCl (wX8 cI h0 h1 h2 h3 h4 h5 aTh aSm aLn aAt aWe aRm aBm aHa aS aSv aCm aRd aBy) s.heap := hP
  have hD : va_D A (wX8 cI h0 h1 h2 h3 h4 h5 aTh aSm aLn aAt aWe aRm aBm aHa aS aSv aCm aRd aBy) := hD
  show W p l e rm_X8_clip s m args below meth c s.heap [] 0 0 (FI D below args s (wX8 cI h0 h1 h2 h3 h4 h5 (aTh') aSm aLn aAt aWe aRm aBm aHa aS aSv aCm aRd aBy) r A) (F0 m 0 ls [])
  unfold f_X8_clip at h
  have hmain : ∀ (H : Heap) (locs : List Loc), va_P D vwCl (wX8 cI h0 h1 h2 h3 h4 h5 aTh aSm aLn aAt aWe aRm aBm aHa aS aSv aCm aRd aBy) H → va_S A s.heap H locs → W p l e rm_X8_clip s m args below meth c H locs 0 0 (FI D below args s (wX8 cI h0 h1 h2 h3 h4 h5 (aTh') aSm aLn aAt aWe aRm aBm aHa aS aSv aCm aRd aBy) r A) (F0 m 0 ls []) := by
    intro H locs hP hS
    refine lv_aload_n hx hb dX8_clip_0 rfl (lv_at hl 0 rfl) ?_
    refine lv_iconst (v := 0) hx hb dX8_clip_1 (by decide) ?_
    refine va_put (D := D) (ci := 8) (v := .int 0) (ty := tyX8 0) (C := RX8) (T := TX8) (N := 13) hx hb hg uX8 tyX8 tyX8_ok nmX8 hown hK.1 hP hD hS 0 rfl rfl 0 (by decide) (hg _ gw_940) (fun _ h9 => h9) rfl (tyX8_ok 0 (by decide)) rfl rfl (Nat.le_of_ble_eq_true rfl) dX8_clip_2 (fun H locs hP hD hS => ?_)
    have hP : va_P D vwCl (wX8 cI h0 h1 h2 h3 h4 h5 (0) aSm aLn aAt aWe aRm aBm aHa aS aSv aCm aRd aBy) H := hP
    have hD : va_D A (wX8 cI h0 h1 h2 h3 h4 h5 (0) aSm aLn aAt aWe aRm aBm aHa aS aSv aCm aRd aBy) := hD
    refine lv_iload_n hx hb dX8_clip_5 rfl (lv_at hl 1 rfl) ?_
    refine lv_if_ge (tgt := 15) hx hb dX8_clip_6 (by decide) (fun q1 => ?_) (fun q1 => ?_)
    · replace h := it_some q1 h
      refine lv_iload_n hx hb dX8_clip_15 rfl (lv_at hl 1 rfl) ?_
      refine lv_aload_n hx hb dX8_clip_16 rfl (lv_at hl 0 rfl) ?_
      refine va_get (D := D) (ci := 8) (v := .ref h1) (C := RX8) (T := TX8) (N := 13) hx hb hg uX8 hown hK.1 hP 0 rfl rfl 1 (by decide) (hg _ gw_941) (fun _ h9 => h9) rfl dX8_clip_17 ?_
      refine lv_bipush (v := 10) hx hb dX8_clip_20 (by decide) ?_
      obtain ⟨v2, h⟩ := rd_some h
      refine va_iald hx hb hK.1 hP 1 0 rfl rfl v2 dX8_clip_22 ?_
      refine lv_icmp_ge (tgt := 38) hx hb dX8_clip_23 (by decide) (fun q3 => ?_) (fun q3 => ?_)
      · replace h := it_some q3 h
        refine lv_iconst (v := (-1)) hx hb dX8_clip_38 (by decide) ?_
        cases h
        exact ret_i hx hb hr hlocks hP hD hS dX8_clip_39 rfl
      · replace h := if_some q3 h
        refine lv_aload_n hx hb dX8_clip_26 rfl (lv_at hl 0 rfl) ?_
        refine va_get (D := D) (ci := 8) (v := .ref h1) (C := RX8) (T := TX8) (N := 13) hx hb hg uX8 hown hK.1 hP 0 rfl rfl 1 (by decide) (hg _ gw_941) (fun _ h9 => h9) rfl dX8_clip_27 ?_
        refine lv_bipush (v := 20) hx hb dX8_clip_30 (by decide) ?_
        refine lv_iload_n hx hb dX8_clip_32 rfl (lv_at hl 1 rfl) ?_
        refine lv_iadd hx hb dX8_clip_33 ?_
        obtain ⟨v4, h⟩ := rd_some h
        refine va_iald hx hb hK.1 hP 1 0 rfl rfl v4 dX8_clip_34 ?_
        refine lv_goto (tgt := 39) hx hb dX8_clip_35 (by decide) ?_
        cases h
        exact ret_i hx hb hr hlocks hP hD hS dX8_clip_39 rfl
    · replace h := if_some q1 h
      refine lv_aload_n hx hb dX8_clip_9 rfl (lv_at hl 0 rfl) ?_
      refine lv_iconst (v := 1) hx hb dX8_clip_10 (by decide) ?_
      obtain ⟨⟨r5, aTh_5⟩, ec5, h⟩ := bd_some h
      refine cV_i (As := [.int 1]) (rest := []) (wc := (wX8 cI h0 h1 h2 h3 h4 h5 (0) aSm aLn aAt aWe aRm aBm aHa aS aSv aCm aRd aBy)) (wc' := (wX8 cI h0 h1 h2 h3 h4 h5 aTh_5 aSm aLn aAt aWe aRm aBm aHa aS aSv aCm aRd aBy)) hx hb hml hown hg hK hP hD hS hA hl.1 (k_X8_fails l D cI cS cL Z h0 h1 h2 h3 h4 h5 1 (0) aSm aLn aAt aWe aRm aBm aHa aS aSv aCm aRd aBy ec5) gm_X8_fails gw_994 ⟨rfl, rfl, by decide, by decide⟩ ⟨Nat.zero_le _, Nat.zero_le _⟩ [0, 1, 2, 3, 4, 5] rfl rfl rfl rfl rfl rfl rfl rfl (Nat.le_of_ble_eq_true rfl) dX8_clip_11 (fun H locs hP hD hS => ?_)
      have hP : va_P D vwCl (wX8 cI h0 h1 h2 h3 h4 h5 aTh_5 aSm aLn aAt aWe aRm aBm aHa aS aSv aCm aRd aBy) H := hP
      have hD : va_D A (wX8 cI h0 h1 h2 h3 h4 h5 aTh_5 aSm aLn aAt aWe aRm aBm aHa aS aSv aCm aRd aBy) := hD
      cases h
      exact ret_i hx hb hr hlocks hP hD hS dX8_clip_14 rfl
  exact hmain _ _ hP hS
abbrev rm_X8_isFound : Room := { frames := 0, cells := 0, slots := 0, locals := 0 }
def f_X8_isFound_b36 (Z : Nat) (p1 : Int32) (aS : Nat → Int32) (rec : Int32 → Int32 → Option (Int32)) (x2 : Int32) (x3 : Int32) : Option (Int32) :=
      rd 10 344 (
      if (aS (Int32.toNatClampNeg 10)) ≤ x3 then
        kb x2 (some x2)
      else
        if x2 = 0 then
          kb x2 (some x2)
        else
          rd ((80 + p1) + x3) 344 (
          rd (20 + x3) 344 (
          if (aS (Int32.toNatClampNeg ((80 + p1) + x3))) = (aS (Int32.toNatClampNeg (20 + x3))) then
            kl (x3 + 1) fun x3_10 =>
            rec 1 x3_10
          else
            kl (x3 + 1) fun x3_9 =>
            rec 0 x3_9)))
def f_X8_isFound_l36 (Z : Nat) (p1 : Int32) (aS : Nat → Int32) : Nat → Int32 → Int32 → Option (Int32)
  | 0, _, _ => none
  | n + 1, x2, x3 => f_X8_isFound_b36 Z p1 aS (f_X8_isFound_l36 Z p1 aS n) x2 x3
def f_X8_isFound (Z : Nat) (p1 : Int32) (aS : Nat → Int32) : Option (Int32) :=
  rd 10 344 (
  if (aS (Int32.toNatClampNeg 10)) ≤ 0 then
    f_X8_isFound_l36 Z p1 aS Z 0 0
  else
    rd 10 344 (
    rd 0 344 (
    if (aS (Int32.toNatClampNeg 0)) < (p1 + (aS (Int32.toNatClampNeg 10))) then
      f_X8_isFound_l36 Z p1 aS Z 0 0
    else
      f_X8_isFound_l36 Z p1 aS Z 1 0)))
set_option maxRecDepth 100000 in
set_option maxHeartbeats 4000000 in
theorem k_X8_isFound (l : Launch) (D : va_G) (cI cS cL : ClassId) (Z : Nat) (h0 : Nat) (h1 : Nat) (h2 : Nat) (h3 : Nat) (h4 : Nat) (h5 : Nat) (p1 : Int32) (aTh : Int32) (aSm : Int32) (aLn : Int32) (aAt : Int32) (aWe : Int32) (aRm : Int32) (aBm : Int32) (aHa : Int64) (aS : Nat → Int32) (aSv : Nat → Int32) (aCm : Nat → Int32) (aRd : Nat → Int32) (aBy : Nat → Int32) {r : Int32} (h : f_X8_isFound Z p1 aS = some r) : CI l yX8_isFound cX8_isFound 4 (some .boolean) rm_X8_isFound D cI cS cL [.ref h0, .int p1] (wX8 cI h0 h1 h2 h3 h4 h5 aTh aSm aLn aAt aWe aRm aBm aHa aS aSv aCm aRd aBy) (wX8 cI h0 h1 h2 h3 h4 h5 aTh aSm aLn aAt aWe aRm aBm aHa aS aSv aCm aRd aBy) r := by
  refine ent_i (by decide +kernel) (Nat.le_of_ble_eq_true rfl) ?_
  intro p e s m args below meth c A ls hx hb hr hml hlocks hg hown hK hP hD hS hA hl
  have hown : s.vm.findClass RX8 = some m.cls := hown
  have c_36 : ∀ (n : Nat) (x2 : Int32) (x3 : Int32), f_X8_isFound_l36 Z p1 aS n x2 x3 = some r → ∀ (H : Heap) (locs : List Loc), va_P D vwCl (wX8 cI h0 h1 h2 h3 h4 h5 aTh aSm aLn aAt aWe aRm aBm aHa aS aSv aCm aRd aBy) H → va_D A (wX8 cI h0 h1 h2 h3 h4 h5 aTh aSm aLn aAt aWe aRm aBm aHa aS aSv aCm aRd aBy) → va_S A s.heap H locs → ∀ ls : Array Slot, lv_has ls 4 [(0, .ref h0), (1, .int p1), (2, .int x2), (3, .int x3)] → W p l e rm_X8_isFound s m args below meth c H locs 0 0 (FI D below args s (wX8 cI h0 h1 h2 h3 h4 h5 aTh aSm aLn aAt aWe aRm aBm aHa aS aSv aCm aRd aBy) r A) (F0 m 36 ls []) := by
    intro n
    induction n with
    | zero => intro x2 x3 h; exact no_some h
    | succ n ih =>
      intro x2 x3 h H locs hP hD hS ls hl
      have h : f_X8_isFound_b36 Z p1 aS (f_X8_isFound_l36 Z p1 aS n) x2 x3 = some r := h
      unfold f_X8_isFound_b36 at h
      refine lv_iload_n hx hb dX8_isFound_36 rfl (lv_at hl 3 rfl) ?_
      refine lv_aload_n hx hb dX8_isFound_37 rfl (lv_at hl 0 rfl) ?_
      refine va_get (D := D) (ci := 8) (v := .ref h1) (C := RX8) (T := TX8) (N := 13) hx hb hg uX8 hown hK.1 hP 0 rfl rfl 1 (by decide) (hg _ gw_941) (fun _ h9 => h9) rfl dX8_isFound_38 ?_
      refine lv_bipush (v := 10) hx hb dX8_isFound_41 (by decide) ?_
      obtain ⟨v1, h⟩ := rd_some h
      refine va_iald hx hb hK.1 hP 1 0 rfl rfl v1 dX8_isFound_43 ?_
      refine lv_icmp_ge (tgt := 86) hx hb dX8_isFound_44 (by decide) (fun q2 => ?_) (fun q2 => ?_)
      · replace h := it_some q2 h
        refine lv_iload_n hx hb dX8_isFound_86 rfl (lv_at hl 2 rfl) ?_
        obtain ⟨b3, h⟩ := kb_some h
        cases h
        exact ret_z hx hb hr hlocks hP hD hS dX8_isFound_87 b3 rfl
      · replace h := if_some q2 h
        refine lv_iload_n hx hb dX8_isFound_47 rfl (lv_at hl 2 rfl) ?_
        refine lv_if_eq (tgt := 86) hx hb dX8_isFound_48 (by decide) (fun q4 => ?_) (fun q4 => ?_)
        · replace h := it_some q4 h
          refine lv_iload_n hx hb dX8_isFound_86 rfl (lv_at hl 2 rfl) ?_
          obtain ⟨b5, h⟩ := kb_some h
          cases h
          exact ret_z hx hb hr hlocks hP hD hS dX8_isFound_87 b5 rfl
        · replace h := if_some q4 h
          refine lv_aload_n hx hb dX8_isFound_51 rfl (lv_at hl 0 rfl) ?_
          refine va_get (D := D) (ci := 8) (v := .ref h1) (C := RX8) (T := TX8) (N := 13) hx hb hg uX8 hown hK.1 hP 0 rfl rfl 1 (by decide) (hg _ gw_941) (fun _ h9 => h9) rfl dX8_isFound_52 ?_
          refine lv_bipush (v := 80) hx hb dX8_isFound_55 (by decide) ?_
          refine lv_iload_n hx hb dX8_isFound_57 rfl (lv_at hl 1 rfl) ?_
          refine lv_iadd hx hb dX8_isFound_58 ?_
          refine lv_iload_n hx hb dX8_isFound_59 rfl (lv_at hl 3 rfl) ?_
          refine lv_iadd hx hb dX8_isFound_60 ?_
          obtain ⟨v6, h⟩ := rd_some h
          refine va_iald hx hb hK.1 hP 1 0 rfl rfl v6 dX8_isFound_61 ?_
          refine lv_aload_n hx hb dX8_isFound_62 rfl (lv_at hl 0 rfl) ?_
          refine va_get (D := D) (ci := 8) (v := .ref h1) (C := RX8) (T := TX8) (N := 13) hx hb hg uX8 hown hK.1 hP 0 rfl rfl 1 (by decide) (hg _ gw_941) (fun _ h9 => h9) rfl dX8_isFound_63 ?_
          refine lv_bipush (v := 20) hx hb dX8_isFound_66 (by decide) ?_
          refine lv_iload_n hx hb dX8_isFound_68 rfl (lv_at hl 3 rfl) ?_
          refine lv_iadd hx hb dX8_isFound_69 ?_
          obtain ⟨v7, h⟩ := rd_some h
          refine va_iald hx hb hK.1 hP 1 0 rfl rfl v7 dX8_isFound_70 ?_
          refine lv_icmp_ne (tgt := 78) hx hb dX8_isFound_71 (by decide) (fun q8 => ?_) (fun q8 => ?_)
          · replace h := if_some q8 h
            refine lv_iconst (v := 0) hx hb dX8_isFound_78 (by decide) ?_
            refine lv_istore_n (lv' := [(2, .int 0), (0, .ref h0), (1, .int p1), (3, .int x3)]) hx hb dX8_isFound_79 rfl hl (by decide) rfl (fun ls hl => ?_)
            obtain ⟨x3_9, ex3_9, h⟩ := kl_some h
            refine lv_iinc (v := x3_9) (lv' := [(3, .int x3_9), (2, .int 0), (0, .ref h0), (1, .int p1)]) hx hb dX8_isFound_80 hl (k := 3) rfl (by rw [ex3_9]; rfl) (by decide) rfl (fun ls hl => ?_)
            refine lv_goto (tgt := 36) hx hb dX8_isFound_83 (by decide) ?_
            exact ih 0 x3_9 h H locs hP hD hS ls (lv_sub hl [2, 3, 1, 0] rfl)
          · replace h := it_some q8 h
            refine lv_iconst (v := 1) hx hb dX8_isFound_74 (by decide) ?_
            refine lv_goto (tgt := 79) hx hb dX8_isFound_75 (by decide) ?_
            refine lv_istore_n (lv' := [(2, .int 1), (0, .ref h0), (1, .int p1), (3, .int x3)]) hx hb dX8_isFound_79 rfl hl (by decide) rfl (fun ls hl => ?_)
            obtain ⟨x3_10, ex3_10, h⟩ := kl_some h
            refine lv_iinc (v := x3_10) (lv' := [(3, .int x3_10), (2, .int 1), (0, .ref h0), (1, .int p1)]) hx hb dX8_isFound_80 hl (k := 3) rfl (by rw [ex3_10]; rfl) (by decide) rfl (fun ls hl => ?_)
            refine lv_goto (tgt := 36) hx hb dX8_isFound_83 (by decide) ?_
            exact ih 1 x3_10 h H locs hP hD hS ls (lv_sub hl [2, 3, 1, 0] rfl)
  have hl : lv_has ls 4 [(0, .ref h0), (1, .int p1)] := hl
  have hP : va_P D vwCl (wX8 cI h0 h1 h2 h3 h4 h5 aTh aSm aLn aAt aWe aRm aBm aHa aS aSv aCm aRd aBy) s.heap := hP
  have hD : va_D A (wX8 cI h0 h1 h2 h3 h4 h5 aTh aSm aLn aAt aWe aRm aBm aHa aS aSv aCm aRd aBy) := hD
  show W p l e rm_X8_isFound s m args below meth c s.heap [] 0 0 (FI D below args s (wX8 cI h0 h1 h2 h3 h4 h5 aTh aSm aLn aAt aWe aRm aBm aHa aS aSv aCm aRd aBy) r A) (F0 m 0 ls [])
  unfold f_X8_isFound at h
  have hmain : ∀ (H : Heap) (locs : List Loc), va_P D vwCl (wX8 cI h0 h1 h2 h3 h4 h5 aTh aSm aLn aAt aWe aRm aBm aHa aS aSv aCm aRd aBy) H → va_S A s.heap H locs → W p l e rm_X8_isFound s m args below meth c H locs 0 0 (FI D below args s (wX8 cI h0 h1 h2 h3 h4 h5 aTh aSm aLn aAt aWe aRm aBm aHa aS aSv aCm aRd aBy) r A) (F0 m 0 ls []) := by
    intro H locs hP hS
    refine lv_aload_n hx hb dX8_isFound_0 rfl (lv_at hl 0 rfl) ?_
    refine va_get (D := D) (ci := 8) (v := .ref h1) (C := RX8) (T := TX8) (N := 13) hx hb hg uX8 hown hK.1 hP 0 rfl rfl 1 (by decide) (hg _ gw_941) (fun _ h9 => h9) rfl dX8_isFound_1 ?_
    refine lv_bipush (v := 10) hx hb dX8_isFound_4 (by decide) ?_
    obtain ⟨v11, h⟩ := rd_some h
    refine va_iald hx hb hK.1 hP 1 0 rfl rfl v11 dX8_isFound_6 ?_
    refine lv_if_le (tgt := 32) hx hb dX8_isFound_7 (by decide) (fun q12 => ?_) (fun q12 => ?_)
    · replace h := it_some q12 h
      refine lv_iconst (v := 0) hx hb dX8_isFound_32 (by decide) ?_
      refine lv_istore_n (lv' := [(2, .int 0), (0, .ref h0), (1, .int p1)]) hx hb dX8_isFound_33 rfl hl (by decide) rfl (fun ls hl => ?_)
      refine lv_iconst (v := 0) hx hb dX8_isFound_34 (by decide) ?_
      refine lv_istore_n (lv' := [(3, .int 0), (2, .int 0), (0, .ref h0), (1, .int p1)]) hx hb dX8_isFound_35 rfl hl (by decide) rfl (fun ls hl => ?_)
      exact c_36 Z 0 0 h H locs hP hD hS ls (lv_sub hl [2, 3, 1, 0] rfl)
    · replace h := if_some q12 h
      refine lv_iload_n hx hb dX8_isFound_10 rfl (lv_at hl 1 rfl) ?_
      refine lv_aload_n hx hb dX8_isFound_11 rfl (lv_at hl 0 rfl) ?_
      refine va_get (D := D) (ci := 8) (v := .ref h1) (C := RX8) (T := TX8) (N := 13) hx hb hg uX8 hown hK.1 hP 0 rfl rfl 1 (by decide) (hg _ gw_941) (fun _ h9 => h9) rfl dX8_isFound_12 ?_
      refine lv_bipush (v := 10) hx hb dX8_isFound_15 (by decide) ?_
      obtain ⟨v13, h⟩ := rd_some h
      refine va_iald hx hb hK.1 hP 1 0 rfl rfl v13 dX8_isFound_17 ?_
      refine lv_iadd hx hb dX8_isFound_18 ?_
      refine lv_aload_n hx hb dX8_isFound_19 rfl (lv_at hl 0 rfl) ?_
      refine va_get (D := D) (ci := 8) (v := .ref h1) (C := RX8) (T := TX8) (N := 13) hx hb hg uX8 hown hK.1 hP 0 rfl rfl 1 (by decide) (hg _ gw_941) (fun _ h9 => h9) rfl dX8_isFound_20 ?_
      refine lv_iconst (v := 0) hx hb dX8_isFound_23 (by decide) ?_
      obtain ⟨v14, h⟩ := rd_some h
      refine va_iald hx hb hK.1 hP 1 0 rfl rfl v14 dX8_isFound_24 ?_
      refine lv_icmp_gt (tgt := 32) hx hb dX8_isFound_25 (by decide) (fun q15 => ?_) (fun q15 => ?_)
      · replace h := it_some q15 h
        refine lv_iconst (v := 0) hx hb dX8_isFound_32 (by decide) ?_
        refine lv_istore_n (lv' := [(2, .int 0), (0, .ref h0), (1, .int p1)]) hx hb dX8_isFound_33 rfl hl (by decide) rfl (fun ls hl => ?_)
        refine lv_iconst (v := 0) hx hb dX8_isFound_34 (by decide) ?_
        refine lv_istore_n (lv' := [(3, .int 0), (2, .int 0), (0, .ref h0), (1, .int p1)]) hx hb dX8_isFound_35 rfl hl (by decide) rfl (fun ls hl => ?_)
        exact c_36 Z 0 0 h H locs hP hD hS ls (lv_sub hl [2, 3, 1, 0] rfl)
      · replace h := if_some q15 h
        refine lv_iconst (v := 1) hx hb dX8_isFound_28 (by decide) ?_
        refine lv_goto (tgt := 33) hx hb dX8_isFound_29 (by decide) ?_
        refine lv_istore_n (lv' := [(2, .int 1), (0, .ref h0), (1, .int p1)]) hx hb dX8_isFound_33 rfl hl (by decide) rfl (fun ls hl => ?_)
        refine lv_iconst (v := 0) hx hb dX8_isFound_34 (by decide) ?_
        refine lv_istore_n (lv' := [(3, .int 0), (2, .int 1), (0, .ref h0), (1, .int p1)]) hx hb dX8_isFound_35 rfl hl (by decide) rfl (fun ls hl => ?_)
        exact c_36 Z 1 0 h H locs hP hD hS ls (lv_sub hl [2, 3, 1, 0] rfl)
  exact hmain _ _ hP hS
abbrev rm_X8_find : Room := { frames := 2, cells := 0, slots := 0, locals := 43 }
def f_X8_find_b21 (Z : Nat) (p1 : Int32) (aS : Nat → Int32) (rec : Int32 → Int32 → Option (Int32 × Int32)) (x2 : Int32) (aTh : Int32) : Option (Int32 × Int32) :=
      rd 0 344 (
      if (aS (Int32.toNatClampNeg 0)) ≤ x2 then
        some ((-1), aTh)
      else
        (f_X8_isFound Z x2 aS).bind fun r3 =>
        if r3 = 0 then
          kl (x2 + 1) fun x2_5 =>
          rec x2_5 aTh
        else
          some (x2, aTh))
def f_X8_find_l21 (Z : Nat) (p1 : Int32) (aS : Nat → Int32) : Nat → Int32 → Int32 → Option (Int32 × Int32)
  | 0, _, _ => none
  | n + 1, x2, aTh => f_X8_find_b21 Z p1 aS (f_X8_find_l21 Z p1 aS n) x2 aTh
def f_X8_find (Z : Nat) (p1 : Int32) (aTh : Int32) (aS : Nat → Int32) : Option (Int32 × Int32) :=
  (f_X8_isPosition Z p1 aS).bind fun r6 =>
  if r6 = 0 then
    (f_X8_fails Z 1 (0)).bind fun (r8, aTh_8) =>
    some (r8, aTh_8)
  else
    f_X8_find_l21 Z p1 aS Z p1 (0)
set_option maxRecDepth 100000 in
set_option maxHeartbeats 4000000 in
theorem k_X8_find (l : Launch) (D : va_G) (cI cS cL : ClassId) (Z : Nat) (h0 : Nat) (h1 : Nat) (h2 : Nat) (h3 : Nat) (h4 : Nat) (h5 : Nat) (p1 : Int32) (aTh : Int32) (aSm : Int32) (aLn : Int32) (aAt : Int32) (aWe : Int32) (aRm : Int32) (aBm : Int32) (aHa : Int64) (aS : Nat → Int32) (aSv : Nat → Int32) (aCm : Nat → Int32) (aRd : Nat → Int32) (aBy : Nat → Int32) {r : Int32} {aTh' : Int32} (h : f_X8_find Z p1 aTh aS = some (r, aTh')) : CI l yX8_find cX8_find 3 (some .int) rm_X8_find D cI cS cL [.ref h0, .int p1] (wX8 cI h0 h1 h2 h3 h4 h5 aTh aSm aLn aAt aWe aRm aBm aHa aS aSv aCm aRd aBy) (wX8 cI h0 h1 h2 h3 h4 h5 (aTh') aSm aLn aAt aWe aRm aBm aHa aS aSv aCm aRd aBy) r := by
  refine ent_i (by decide +kernel) (Nat.le_of_ble_eq_true rfl) ?_
  intro p e s m args below meth c A ls hx hb hr hml hlocks hg hown hK hP hD hS hA hl
  have hown : s.vm.findClass RX8 = some m.cls := hown
  have c_21 : ∀ (n : Nat) (x2 : Int32) (aTh : Int32), f_X8_find_l21 Z p1 aS n x2 aTh = some (r, aTh') → ∀ (H : Heap) (locs : List Loc), va_P D vwCl (wX8 cI h0 h1 h2 h3 h4 h5 aTh aSm aLn aAt aWe aRm aBm aHa aS aSv aCm aRd aBy) H → va_D A (wX8 cI h0 h1 h2 h3 h4 h5 aTh aSm aLn aAt aWe aRm aBm aHa aS aSv aCm aRd aBy) → va_S A s.heap H locs → ∀ ls : Array Slot, lv_has ls 3 [(0, .ref h0), (2, .int x2)] → W p l e rm_X8_find s m args below meth c H locs 0 0 (FI D below args s (wX8 cI h0 h1 h2 h3 h4 h5 (aTh') aSm aLn aAt aWe aRm aBm aHa aS aSv aCm aRd aBy) r A) (F0 m 21 ls []) := by
    intro n
    induction n with
    | zero => intro x2 aTh h; exact no_some h
    | succ n ih =>
      intro x2 aTh h H locs hP hD hS ls hl
      have h : f_X8_find_b21 Z p1 aS (f_X8_find_l21 Z p1 aS n) x2 aTh = some (r, aTh') := h
      unfold f_X8_find_b21 at h
      refine lv_iload_n hx hb dX8_find_21 rfl (lv_at hl 1 rfl) ?_
      refine lv_aload_n hx hb dX8_find_22 rfl (lv_at hl 0 rfl) ?_
      refine va_get (D := D) (ci := 8) (v := .ref h1) (C := RX8) (T := TX8) (N := 13) hx hb hg uX8 hown hK.1 hP 0 rfl rfl 1 (by decide) (hg _ gw_941) (fun _ h9 => h9) rfl dX8_find_23 ?_
      refine lv_iconst (v := 0) hx hb dX8_find_26 (by decide) ?_
      obtain ⟨v1, h⟩ := rd_some h
      refine va_iald hx hb hK.1 hP 1 0 rfl rfl v1 dX8_find_27 ?_
      refine lv_icmp_ge (tgt := 47) hx hb dX8_find_28 (by decide) (fun q2 => ?_) (fun q2 => ?_)
      · replace h := it_some q2 h
        refine lv_iconst (v := (-1)) hx hb dX8_find_47 (by decide) ?_
        cases h
        exact ret_i hx hb hr hlocks hP hD hS dX8_find_48 rfl
      · replace h := if_some q2 h
        refine lv_aload_n hx hb dX8_find_31 rfl (lv_at hl 0 rfl) ?_
        refine lv_iload_n hx hb dX8_find_32 rfl (lv_at hl 1 rfl) ?_
        obtain ⟨r3, ec3, h⟩ := bd_some h
        refine cV_i (As := [.int x2]) (rest := []) (wc := (wX8 cI h0 h1 h2 h3 h4 h5 aTh aSm aLn aAt aWe aRm aBm aHa aS aSv aCm aRd aBy)) (wc' := (wX8 cI h0 h1 h2 h3 h4 h5 aTh aSm aLn aAt aWe aRm aBm aHa aS aSv aCm aRd aBy)) hx hb hml hown hg hK hP hD hS hA hl.1 (k_X8_isFound l D cI cS cL Z h0 h1 h2 h3 h4 h5 x2 aTh aSm aLn aAt aWe aRm aBm aHa aS aSv aCm aRd aBy ec3) gm_X8_isFound gw_1156 ⟨rfl, rfl, by decide, by decide⟩ ⟨Nat.zero_le _, Nat.zero_le _⟩ [0, 1, 2, 3, 4, 5] rfl rfl rfl rfl rfl rfl rfl rfl (Nat.le_of_ble_eq_true rfl) dX8_find_33 (fun H locs hP hD hS => ?_)
        have hP : va_P D vwCl (wX8 cI h0 h1 h2 h3 h4 h5 aTh aSm aLn aAt aWe aRm aBm aHa aS aSv aCm aRd aBy) H := hP
        have hD : va_D A (wX8 cI h0 h1 h2 h3 h4 h5 aTh aSm aLn aAt aWe aRm aBm aHa aS aSv aCm aRd aBy) := hD
        refine lv_if_eq (tgt := 41) hx hb dX8_find_36 (by decide) (fun q4 => ?_) (fun q4 => ?_)
        · replace h := it_some q4 h
          obtain ⟨x2_5, ex2_5, h⟩ := kl_some h
          refine lv_iinc (v := x2_5) (lv' := [(2, .int x2_5), (0, .ref h0)]) hx hb dX8_find_41 hl (k := 1) rfl (by rw [ex2_5]; rfl) (by decide) rfl (fun ls hl => ?_)
          refine lv_goto (tgt := 21) hx hb dX8_find_44 (by decide) ?_
          exact ih x2_5 aTh h H locs hP hD hS ls (lv_sub hl [1, 0] rfl)
        · replace h := if_some q4 h
          refine lv_iload_n hx hb dX8_find_39 rfl (lv_at hl 1 rfl) ?_
          cases h
          exact ret_i hx hb hr hlocks hP hD hS dX8_find_40 rfl
  have hl : lv_has ls 3 [(0, .ref h0), (1, .int p1)] := hl
  have hP : va_P D vwCl (wX8 cI h0 h1 h2 h3 h4 h5 aTh aSm aLn aAt aWe aRm aBm aHa aS aSv aCm aRd aBy) s.heap := hP
  have hD : va_D A (wX8 cI h0 h1 h2 h3 h4 h5 aTh aSm aLn aAt aWe aRm aBm aHa aS aSv aCm aRd aBy) := hD
  show W p l e rm_X8_find s m args below meth c s.heap [] 0 0 (FI D below args s (wX8 cI h0 h1 h2 h3 h4 h5 (aTh') aSm aLn aAt aWe aRm aBm aHa aS aSv aCm aRd aBy) r A) (F0 m 0 ls [])
  unfold f_X8_find at h
  have hmain : ∀ (H : Heap) (locs : List Loc), va_P D vwCl (wX8 cI h0 h1 h2 h3 h4 h5 aTh aSm aLn aAt aWe aRm aBm aHa aS aSv aCm aRd aBy) H → va_S A s.heap H locs → W p l e rm_X8_find s m args below meth c H locs 0 0 (FI D below args s (wX8 cI h0 h1 h2 h3 h4 h5 (aTh') aSm aLn aAt aWe aRm aBm aHa aS aSv aCm aRd aBy) r A) (F0 m 0 ls []) := by
    intro H locs hP hS
    refine lv_aload_n hx hb dX8_find_0 rfl (lv_at hl 0 rfl) ?_
    refine lv_iconst (v := 0) hx hb dX8_find_1 (by decide) ?_
    refine va_put (D := D) (ci := 8) (v := .int 0) (ty := tyX8 0) (C := RX8) (T := TX8) (N := 13) hx hb hg uX8 tyX8 tyX8_ok nmX8 hown hK.1 hP hD hS 0 rfl rfl 0 (by decide) (hg _ gw_940) (fun _ h9 => h9) rfl (tyX8_ok 0 (by decide)) rfl rfl (Nat.le_of_ble_eq_true rfl) dX8_find_2 (fun H locs hP hD hS => ?_)
    have hP : va_P D vwCl (wX8 cI h0 h1 h2 h3 h4 h5 (0) aSm aLn aAt aWe aRm aBm aHa aS aSv aCm aRd aBy) H := hP
    have hD : va_D A (wX8 cI h0 h1 h2 h3 h4 h5 (0) aSm aLn aAt aWe aRm aBm aHa aS aSv aCm aRd aBy) := hD
    refine lv_aload_n hx hb dX8_find_5 rfl (lv_at hl 0 rfl) ?_
    refine lv_iload_n hx hb dX8_find_6 rfl (lv_at hl 1 rfl) ?_
    obtain ⟨r6, ec6, h⟩ := bd_some h
    refine cV_i (As := [.int p1]) (rest := []) (wc := (wX8 cI h0 h1 h2 h3 h4 h5 (0) aSm aLn aAt aWe aRm aBm aHa aS aSv aCm aRd aBy)) (wc' := (wX8 cI h0 h1 h2 h3 h4 h5 (0) aSm aLn aAt aWe aRm aBm aHa aS aSv aCm aRd aBy)) hx hb hml hown hg hK hP hD hS hA hl.1 (k_X8_isPosition l D cI cS cL Z h0 h1 h2 h3 h4 h5 p1 (0) aSm aLn aAt aWe aRm aBm aHa aS aSv aCm aRd aBy ec6) gm_X8_isPosition gw_1065 ⟨rfl, rfl, by decide, by decide⟩ ⟨Nat.zero_le _, Nat.zero_le _⟩ [0, 1, 2, 3, 4, 5] rfl rfl rfl rfl rfl rfl rfl rfl (Nat.le_of_ble_eq_true rfl) dX8_find_7 (fun H locs hP hD hS => ?_)
    have hP : va_P D vwCl (wX8 cI h0 h1 h2 h3 h4 h5 (0) aSm aLn aAt aWe aRm aBm aHa aS aSv aCm aRd aBy) H := hP
    have hD : va_D A (wX8 cI h0 h1 h2 h3 h4 h5 (0) aSm aLn aAt aWe aRm aBm aHa aS aSv aCm aRd aBy) := hD
    refine lv_if_ne (tgt := 19) hx hb dX8_find_10 (by decide) (fun q7 => ?_) (fun q7 => ?_)
    · replace h := if_some q7 h
      refine lv_iload_n hx hb dX8_find_19 rfl (lv_at hl 1 rfl) ?_
      refine lv_istore_n (lv' := [(2, .int p1), (0, .ref h0), (1, .int p1)]) hx hb dX8_find_20 rfl hl (by decide) rfl (fun ls hl => ?_)
      exact c_21 Z p1 (0) h H locs hP hD hS ls (lv_sub hl [1, 0] rfl)
    · replace h := it_some q7 h
      refine lv_aload_n hx hb dX8_find_13 rfl (lv_at hl 0 rfl) ?_
      refine lv_iconst (v := 1) hx hb dX8_find_14 (by decide) ?_
      obtain ⟨⟨r8, aTh_8⟩, ec8, h⟩ := bd_some h
      refine cV_i (As := [.int 1]) (rest := []) (wc := (wX8 cI h0 h1 h2 h3 h4 h5 (0) aSm aLn aAt aWe aRm aBm aHa aS aSv aCm aRd aBy)) (wc' := (wX8 cI h0 h1 h2 h3 h4 h5 aTh_8 aSm aLn aAt aWe aRm aBm aHa aS aSv aCm aRd aBy)) hx hb hml hown hg hK hP hD hS hA hl.1 (k_X8_fails l D cI cS cL Z h0 h1 h2 h3 h4 h5 1 (0) aSm aLn aAt aWe aRm aBm aHa aS aSv aCm aRd aBy ec8) gm_X8_fails gw_994 ⟨rfl, rfl, by decide, by decide⟩ ⟨Nat.zero_le _, Nat.zero_le _⟩ [0, 1, 2, 3, 4, 5] rfl rfl rfl rfl rfl rfl rfl rfl (Nat.le_of_ble_eq_true rfl) dX8_find_15 (fun H locs hP hD hS => ?_)
      have hP : va_P D vwCl (wX8 cI h0 h1 h2 h3 h4 h5 aTh_8 aSm aLn aAt aWe aRm aBm aHa aS aSv aCm aRd aBy) H := hP
      have hD : va_D A (wX8 cI h0 h1 h2 h3 h4 h5 aTh_8 aSm aLn aAt aWe aRm aBm aHa aS aSv aCm aRd aBy) := hD
      cases h
      exact ret_i hx hb hr hlocks hP hD hS dX8_find_18 rfl
  exact hmain _ _ hP hS
abbrev rm_X8_length : Room := { frames := 0, cells := 0, slots := 0, locals := 0 }
def f_X8_length (Z : Nat) (aTh : Int32) (aS : Nat → Int32) : Option (Int32 × Int32) :=
  rd 0 344 (
  some (aS (Int32.toNatClampNeg 0), (0)))
set_option maxRecDepth 100000 in
set_option maxHeartbeats 4000000 in
theorem k_X8_length (l : Launch) (D : va_G) (cI cS cL : ClassId) (Z : Nat) (h0 : Nat) (h1 : Nat) (h2 : Nat) (h3 : Nat) (h4 : Nat) (h5 : Nat) (aTh : Int32) (aSm : Int32) (aLn : Int32) (aAt : Int32) (aWe : Int32) (aRm : Int32) (aBm : Int32) (aHa : Int64) (aS : Nat → Int32) (aSv : Nat → Int32) (aCm : Nat → Int32) (aRd : Nat → Int32) (aBy : Nat → Int32) {r : Int32} {aTh' : Int32} (h : f_X8_length Z aTh aS = some (r, aTh')) : CI l yX8_length cX8_length 1 (some .int) rm_X8_length D cI cS cL [.ref h0] (wX8 cI h0 h1 h2 h3 h4 h5 aTh aSm aLn aAt aWe aRm aBm aHa aS aSv aCm aRd aBy) (wX8 cI h0 h1 h2 h3 h4 h5 (aTh') aSm aLn aAt aWe aRm aBm aHa aS aSv aCm aRd aBy) r := by
  refine ent_i (by decide +kernel) (Nat.le_of_ble_eq_true rfl) ?_
  intro p e s m args below meth c A ls hx hb hr hml hlocks hg hown hK hP hD hS hA hl
  have hown : s.vm.findClass RX8 = some m.cls := hown
  have hl : lv_has ls 1 [(0, .ref h0)] := hl
  have hP : va_P D vwCl (wX8 cI h0 h1 h2 h3 h4 h5 aTh aSm aLn aAt aWe aRm aBm aHa aS aSv aCm aRd aBy) s.heap := hP
  have hD : va_D A (wX8 cI h0 h1 h2 h3 h4 h5 aTh aSm aLn aAt aWe aRm aBm aHa aS aSv aCm aRd aBy) := hD
  show W p l e rm_X8_length s m args below meth c s.heap [] 0 0 (FI D below args s (wX8 cI h0 h1 h2 h3 h4 h5 (aTh') aSm aLn aAt aWe aRm aBm aHa aS aSv aCm aRd aBy) r A) (F0 m 0 ls [])
  unfold f_X8_length at h
  have hmain : ∀ (H : Heap) (locs : List Loc), va_P D vwCl (wX8 cI h0 h1 h2 h3 h4 h5 aTh aSm aLn aAt aWe aRm aBm aHa aS aSv aCm aRd aBy) H → va_S A s.heap H locs → W p l e rm_X8_length s m args below meth c H locs 0 0 (FI D below args s (wX8 cI h0 h1 h2 h3 h4 h5 (aTh') aSm aLn aAt aWe aRm aBm aHa aS aSv aCm aRd aBy) r A) (F0 m 0 ls []) := by
    intro H locs hP hS
    refine lv_aload_n hx hb dX8_length_0 rfl (lv_at hl 0 rfl) ?_
    refine lv_iconst (v := 0) hx hb dX8_length_1 (by decide) ?_
    refine va_put (D := D) (ci := 8) (v := .int 0) (ty := tyX8 0) (C := RX8) (T := TX8) (N := 13) hx hb hg uX8 tyX8 tyX8_ok nmX8 hown hK.1 hP hD hS 0 rfl rfl 0 (by decide) (hg _ gw_940) (fun _ h9 => h9) rfl (tyX8_ok 0 (by decide)) rfl rfl (Nat.le_of_ble_eq_true rfl) dX8_length_2 (fun H locs hP hD hS => ?_)
    have hP : va_P D vwCl (wX8 cI h0 h1 h2 h3 h4 h5 (0) aSm aLn aAt aWe aRm aBm aHa aS aSv aCm aRd aBy) H := hP
    have hD : va_D A (wX8 cI h0 h1 h2 h3 h4 h5 (0) aSm aLn aAt aWe aRm aBm aHa aS aSv aCm aRd aBy) := hD
    refine lv_aload_n hx hb dX8_length_5 rfl (lv_at hl 0 rfl) ?_
    refine va_get (D := D) (ci := 8) (v := .ref h1) (C := RX8) (T := TX8) (N := 13) hx hb hg uX8 hown hK.1 hP 0 rfl rfl 1 (by decide) (hg _ gw_941) (fun _ h9 => h9) rfl dX8_length_6 ?_
    refine lv_iconst (v := 0) hx hb dX8_length_9 (by decide) ?_
    obtain ⟨v1, h⟩ := rd_some h
    refine va_iald hx hb hK.1 hP 1 0 rfl rfl v1 dX8_length_10 ?_
    cases h
    exact ret_i hx hb hr hlocks hP hD hS dX8_length_11 rfl
  exact hmain _ _ hP hS
abbrev rm_X8_caret : Room := { frames := 0, cells := 0, slots := 0, locals := 0 }
def f_X8_caret (Z : Nat) (aTh : Int32) (aS : Nat → Int32) : Option (Int32 × Int32) :=
  rd 1 344 (
  some (aS (Int32.toNatClampNeg 1), (0)))
set_option maxRecDepth 100000 in
set_option maxHeartbeats 4000000 in
theorem k_X8_caret (l : Launch) (D : va_G) (cI cS cL : ClassId) (Z : Nat) (h0 : Nat) (h1 : Nat) (h2 : Nat) (h3 : Nat) (h4 : Nat) (h5 : Nat) (aTh : Int32) (aSm : Int32) (aLn : Int32) (aAt : Int32) (aWe : Int32) (aRm : Int32) (aBm : Int32) (aHa : Int64) (aS : Nat → Int32) (aSv : Nat → Int32) (aCm : Nat → Int32) (aRd : Nat → Int32) (aBy : Nat → Int32) {r : Int32} {aTh' : Int32} (h : f_X8_caret Z aTh aS = some (r, aTh')) : CI l yX8_caret cX8_caret 1 (some .int) rm_X8_caret D cI cS cL [.ref h0] (wX8 cI h0 h1 h2 h3 h4 h5 aTh aSm aLn aAt aWe aRm aBm aHa aS aSv aCm aRd aBy) (wX8 cI h0 h1 h2 h3 h4 h5 (aTh') aSm aLn aAt aWe aRm aBm aHa aS aSv aCm aRd aBy) r := by
  refine ent_i (by decide +kernel) (Nat.le_of_ble_eq_true rfl) ?_
  intro p e s m args below meth c A ls hx hb hr hml hlocks hg hown hK hP hD hS hA hl
  have hown : s.vm.findClass RX8 = some m.cls := hown
  have hl : lv_has ls 1 [(0, .ref h0)] := hl
  have hP : va_P D vwCl (wX8 cI h0 h1 h2 h3 h4 h5 aTh aSm aLn aAt aWe aRm aBm aHa aS aSv aCm aRd aBy) s.heap := hP
  have hD : va_D A (wX8 cI h0 h1 h2 h3 h4 h5 aTh aSm aLn aAt aWe aRm aBm aHa aS aSv aCm aRd aBy) := hD
  show W p l e rm_X8_caret s m args below meth c s.heap [] 0 0 (FI D below args s (wX8 cI h0 h1 h2 h3 h4 h5 (aTh') aSm aLn aAt aWe aRm aBm aHa aS aSv aCm aRd aBy) r A) (F0 m 0 ls [])
  unfold f_X8_caret at h
  have hmain : ∀ (H : Heap) (locs : List Loc), va_P D vwCl (wX8 cI h0 h1 h2 h3 h4 h5 aTh aSm aLn aAt aWe aRm aBm aHa aS aSv aCm aRd aBy) H → va_S A s.heap H locs → W p l e rm_X8_caret s m args below meth c H locs 0 0 (FI D below args s (wX8 cI h0 h1 h2 h3 h4 h5 (aTh') aSm aLn aAt aWe aRm aBm aHa aS aSv aCm aRd aBy) r A) (F0 m 0 ls []) := by
    intro H locs hP hS
    refine lv_aload_n hx hb dX8_caret_0 rfl (lv_at hl 0 rfl) ?_
    refine lv_iconst (v := 0) hx hb dX8_caret_1 (by decide) ?_
    refine va_put (D := D) (ci := 8) (v := .int 0) (ty := tyX8 0) (C := RX8) (T := TX8) (N := 13) hx hb hg uX8 tyX8 tyX8_ok nmX8 hown hK.1 hP hD hS 0 rfl rfl 0 (by decide) (hg _ gw_940) (fun _ h9 => h9) rfl (tyX8_ok 0 (by decide)) rfl rfl (Nat.le_of_ble_eq_true rfl) dX8_caret_2 (fun H locs hP hD hS => ?_)
    have hP : va_P D vwCl (wX8 cI h0 h1 h2 h3 h4 h5 (0) aSm aLn aAt aWe aRm aBm aHa aS aSv aCm aRd aBy) H := hP
    have hD : va_D A (wX8 cI h0 h1 h2 h3 h4 h5 (0) aSm aLn aAt aWe aRm aBm aHa aS aSv aCm aRd aBy) := hD
    refine lv_aload_n hx hb dX8_caret_5 rfl (lv_at hl 0 rfl) ?_
    refine va_get (D := D) (ci := 8) (v := .ref h1) (C := RX8) (T := TX8) (N := 13) hx hb hg uX8 hown hK.1 hP 0 rfl rfl 1 (by decide) (hg _ gw_941) (fun _ h9 => h9) rfl dX8_caret_6 ?_
    refine lv_iconst (v := 1) hx hb dX8_caret_9 (by decide) ?_
    obtain ⟨v1, h⟩ := rd_some h
    refine va_iald hx hb hK.1 hP 1 0 rfl rfl v1 dX8_caret_10 ?_
    cases h
    exact ret_i hx hb hr hlocks hP hD hS dX8_caret_11 rfl
  exact hmain _ _ hP hS
abbrev rm_X8_byteAt : Room := { frames := 1, cells := 0, slots := 0, locals := 22 }
def f_X8_byteAt (Z : Nat) (p1 : Int32) (aTh : Int32) (aS : Nat → Int32) : Option (Int32 × Int32) :=
  rd 0 344 (
  (f_X8_in Z p1 0 ((aS (Int32.toNatClampNeg 0)) - 1)).bind fun r2 =>
  if r2 = 0 then
    (f_X8_fails Z 1 (0)).bind fun (r4, aTh_4) =>
    some (r4, aTh_4)
  else
    rd (80 + p1) 344 (
    some (aS (Int32.toNatClampNeg (80 + p1)), (0))))
set_option maxRecDepth 100000 in
set_option maxHeartbeats 4000000 in
theorem k_X8_byteAt (l : Launch) (D : va_G) (cI cS cL : ClassId) (Z : Nat) (h0 : Nat) (h1 : Nat) (h2 : Nat) (h3 : Nat) (h4 : Nat) (h5 : Nat) (p1 : Int32) (aTh : Int32) (aSm : Int32) (aLn : Int32) (aAt : Int32) (aWe : Int32) (aRm : Int32) (aBm : Int32) (aHa : Int64) (aS : Nat → Int32) (aSv : Nat → Int32) (aCm : Nat → Int32) (aRd : Nat → Int32) (aBy : Nat → Int32) {r : Int32} {aTh' : Int32} (h : f_X8_byteAt Z p1 aTh aS = some (r, aTh')) : CI l yX8_byteAt cX8_byteAt 2 (some .int) rm_X8_byteAt D cI cS cL [.ref h0, .int p1] (wX8 cI h0 h1 h2 h3 h4 h5 aTh aSm aLn aAt aWe aRm aBm aHa aS aSv aCm aRd aBy) (wX8 cI h0 h1 h2 h3 h4 h5 (aTh') aSm aLn aAt aWe aRm aBm aHa aS aSv aCm aRd aBy) r := by
  refine ent_i (by decide +kernel) (Nat.le_of_ble_eq_true rfl) ?_
  intro p e s m args below meth c A ls hx hb hr hml hlocks hg hown hK hP hD hS hA hl
  have hown : s.vm.findClass RX8 = some m.cls := hown
  have hl : lv_has ls 2 [(0, .ref h0), (1, .int p1)] := hl
  have hP : va_P D vwCl (wX8 cI h0 h1 h2 h3 h4 h5 aTh aSm aLn aAt aWe aRm aBm aHa aS aSv aCm aRd aBy) s.heap := hP
  have hD : va_D A (wX8 cI h0 h1 h2 h3 h4 h5 aTh aSm aLn aAt aWe aRm aBm aHa aS aSv aCm aRd aBy) := hD
  show W p l e rm_X8_byteAt s m args below meth c s.heap [] 0 0 (FI D below args s (wX8 cI h0 h1 h2 h3 h4 h5 (aTh') aSm aLn aAt aWe aRm aBm aHa aS aSv aCm aRd aBy) r A) (F0 m 0 ls [])
  unfold f_X8_byteAt at h
  have hmain : ∀ (H : Heap) (locs : List Loc), va_P D vwCl (wX8 cI h0 h1 h2 h3 h4 h5 aTh aSm aLn aAt aWe aRm aBm aHa aS aSv aCm aRd aBy) H → va_S A s.heap H locs → W p l e rm_X8_byteAt s m args below meth c H locs 0 0 (FI D below args s (wX8 cI h0 h1 h2 h3 h4 h5 (aTh') aSm aLn aAt aWe aRm aBm aHa aS aSv aCm aRd aBy) r A) (F0 m 0 ls []) := by
    intro H locs hP hS
    refine lv_aload_n hx hb dX8_byteAt_0 rfl (lv_at hl 0 rfl) ?_
    refine lv_iconst (v := 0) hx hb dX8_byteAt_1 (by decide) ?_
    refine va_put (D := D) (ci := 8) (v := .int 0) (ty := tyX8 0) (C := RX8) (T := TX8) (N := 13) hx hb hg uX8 tyX8 tyX8_ok nmX8 hown hK.1 hP hD hS 0 rfl rfl 0 (by decide) (hg _ gw_940) (fun _ h9 => h9) rfl (tyX8_ok 0 (by decide)) rfl rfl (Nat.le_of_ble_eq_true rfl) dX8_byteAt_2 (fun H locs hP hD hS => ?_)
    have hP : va_P D vwCl (wX8 cI h0 h1 h2 h3 h4 h5 (0) aSm aLn aAt aWe aRm aBm aHa aS aSv aCm aRd aBy) H := hP
    have hD : va_D A (wX8 cI h0 h1 h2 h3 h4 h5 (0) aSm aLn aAt aWe aRm aBm aHa aS aSv aCm aRd aBy) := hD
    refine lv_iload_n hx hb dX8_byteAt_5 rfl (lv_at hl 1 rfl) ?_
    refine lv_iconst (v := 0) hx hb dX8_byteAt_6 (by decide) ?_
    refine lv_aload_n hx hb dX8_byteAt_7 rfl (lv_at hl 0 rfl) ?_
    refine va_get (D := D) (ci := 8) (v := .ref h1) (C := RX8) (T := TX8) (N := 13) hx hb hg uX8 hown hK.1 hP 0 rfl rfl 1 (by decide) (hg _ gw_941) (fun _ h9 => h9) rfl dX8_byteAt_8 ?_
    refine lv_iconst (v := 0) hx hb dX8_byteAt_11 (by decide) ?_
    obtain ⟨v1, h⟩ := rd_some h
    refine va_iald hx hb hK.1 hP 1 0 rfl rfl v1 dX8_byteAt_12 ?_
    refine lv_iconst (v := 1) hx hb dX8_byteAt_13 (by decide) ?_
    refine lv_isub hx hb dX8_byteAt_14 ?_
    obtain ⟨r2, ec2, h⟩ := bd_some h
    refine cS_i (As := [.int p1, .int 0, .int ((aS (Int32.toNatClampNeg 0)) - 1)]) (rest := []) (wc := []) (wc' := []) hx hb hml hown hg hK hP hD hS hA hl.1 (k_X8_in l D cI cS cL Z p1 0 ((aS (Int32.toNatClampNeg 0)) - 1) ec2) gs_X8_in gw_991 ⟨rfl, rfl, by decide, by decide⟩ ⟨Nat.zero_le _, Nat.zero_le _⟩ [] rfl rfl rfl rfl rfl (Nat.le_of_ble_eq_true rfl) dX8_byteAt_15 (fun H locs hP hD hS => ?_)
    have hP : va_P D vwCl (wX8 cI h0 h1 h2 h3 h4 h5 (0) aSm aLn aAt aWe aRm aBm aHa aS aSv aCm aRd aBy) H := hP
    have hD : va_D A (wX8 cI h0 h1 h2 h3 h4 h5 (0) aSm aLn aAt aWe aRm aBm aHa aS aSv aCm aRd aBy) := hD
    refine lv_if_eq (tgt := 33) hx hb dX8_byteAt_18 (by decide) (fun q3 => ?_) (fun q3 => ?_)
    · replace h := it_some q3 h
      refine lv_aload_n hx hb dX8_byteAt_33 rfl (lv_at hl 0 rfl) ?_
      refine lv_iconst (v := 1) hx hb dX8_byteAt_34 (by decide) ?_
      obtain ⟨⟨r4, aTh_4⟩, ec4, h⟩ := bd_some h
      refine cV_i (As := [.int 1]) (rest := []) (wc := (wX8 cI h0 h1 h2 h3 h4 h5 (0) aSm aLn aAt aWe aRm aBm aHa aS aSv aCm aRd aBy)) (wc' := (wX8 cI h0 h1 h2 h3 h4 h5 aTh_4 aSm aLn aAt aWe aRm aBm aHa aS aSv aCm aRd aBy)) hx hb hml hown hg hK hP hD hS hA hl.1 (k_X8_fails l D cI cS cL Z h0 h1 h2 h3 h4 h5 1 (0) aSm aLn aAt aWe aRm aBm aHa aS aSv aCm aRd aBy ec4) gm_X8_fails gw_994 ⟨rfl, rfl, by decide, by decide⟩ ⟨Nat.zero_le _, Nat.zero_le _⟩ [0, 1, 2, 3, 4, 5] rfl rfl rfl rfl rfl rfl rfl rfl (Nat.le_of_ble_eq_true rfl) dX8_byteAt_35 (fun H locs hP hD hS => ?_)
      have hP : va_P D vwCl (wX8 cI h0 h1 h2 h3 h4 h5 aTh_4 aSm aLn aAt aWe aRm aBm aHa aS aSv aCm aRd aBy) H := hP
      have hD : va_D A (wX8 cI h0 h1 h2 h3 h4 h5 aTh_4 aSm aLn aAt aWe aRm aBm aHa aS aSv aCm aRd aBy) := hD
      cases h
      exact ret_i hx hb hr hlocks hP hD hS dX8_byteAt_38 rfl
    · replace h := if_some q3 h
      refine lv_aload_n hx hb dX8_byteAt_21 rfl (lv_at hl 0 rfl) ?_
      refine va_get (D := D) (ci := 8) (v := .ref h1) (C := RX8) (T := TX8) (N := 13) hx hb hg uX8 hown hK.1 hP 0 rfl rfl 1 (by decide) (hg _ gw_941) (fun _ h9 => h9) rfl dX8_byteAt_22 ?_
      refine lv_bipush (v := 80) hx hb dX8_byteAt_25 (by decide) ?_
      refine lv_iload_n hx hb dX8_byteAt_27 rfl (lv_at hl 1 rfl) ?_
      refine lv_iadd hx hb dX8_byteAt_28 ?_
      obtain ⟨v5, h⟩ := rd_some h
      refine va_iald hx hb hK.1 hP 1 0 rfl rfl v5 dX8_byteAt_29 ?_
      refine lv_goto (tgt := 38) hx hb dX8_byteAt_30 (by decide) ?_
      cases h
      exact ret_i hx hb hr hlocks hP hD hS dX8_byteAt_38 rfl
  exact hmain _ _ hP hS
abbrev rm_X8_lines : Room := { frames := 1, cells := 0, slots := 0, locals := 23 }
def f_X8_lines (Z : Nat) (aTh : Int32) (aS : Nat → Int32) : Option (Int32 × Int32) :=
  rd 0 344 (
  (f_X8_lineAt Z (aS (Int32.toNatClampNeg 0)) aS).bind fun r2 =>
  some (r2 + 1, (0)))
set_option maxRecDepth 100000 in
set_option maxHeartbeats 4000000 in
theorem k_X8_lines (l : Launch) (D : va_G) (cI cS cL : ClassId) (Z : Nat) (h0 : Nat) (h1 : Nat) (h2 : Nat) (h3 : Nat) (h4 : Nat) (h5 : Nat) (aTh : Int32) (aSm : Int32) (aLn : Int32) (aAt : Int32) (aWe : Int32) (aRm : Int32) (aBm : Int32) (aHa : Int64) (aS : Nat → Int32) (aSv : Nat → Int32) (aCm : Nat → Int32) (aRd : Nat → Int32) (aBy : Nat → Int32) {r : Int32} {aTh' : Int32} (h : f_X8_lines Z aTh aS = some (r, aTh')) : CI l yX8_lines cX8_lines 1 (some .int) rm_X8_lines D cI cS cL [.ref h0] (wX8 cI h0 h1 h2 h3 h4 h5 aTh aSm aLn aAt aWe aRm aBm aHa aS aSv aCm aRd aBy) (wX8 cI h0 h1 h2 h3 h4 h5 (aTh') aSm aLn aAt aWe aRm aBm aHa aS aSv aCm aRd aBy) r := by
  refine ent_i (by decide +kernel) (Nat.le_of_ble_eq_true rfl) ?_
  intro p e s m args below meth c A ls hx hb hr hml hlocks hg hown hK hP hD hS hA hl
  have hown : s.vm.findClass RX8 = some m.cls := hown
  have hl : lv_has ls 1 [(0, .ref h0)] := hl
  have hP : va_P D vwCl (wX8 cI h0 h1 h2 h3 h4 h5 aTh aSm aLn aAt aWe aRm aBm aHa aS aSv aCm aRd aBy) s.heap := hP
  have hD : va_D A (wX8 cI h0 h1 h2 h3 h4 h5 aTh aSm aLn aAt aWe aRm aBm aHa aS aSv aCm aRd aBy) := hD
  show W p l e rm_X8_lines s m args below meth c s.heap [] 0 0 (FI D below args s (wX8 cI h0 h1 h2 h3 h4 h5 (aTh') aSm aLn aAt aWe aRm aBm aHa aS aSv aCm aRd aBy) r A) (F0 m 0 ls [])
  unfold f_X8_lines at h
  have hmain : ∀ (H : Heap) (locs : List Loc), va_P D vwCl (wX8 cI h0 h1 h2 h3 h4 h5 aTh aSm aLn aAt aWe aRm aBm aHa aS aSv aCm aRd aBy) H → va_S A s.heap H locs → W p l e rm_X8_lines s m args below meth c H locs 0 0 (FI D below args s (wX8 cI h0 h1 h2 h3 h4 h5 (aTh') aSm aLn aAt aWe aRm aBm aHa aS aSv aCm aRd aBy) r A) (F0 m 0 ls []) := by
    intro H locs hP hS
    refine lv_aload_n hx hb dX8_lines_0 rfl (lv_at hl 0 rfl) ?_
    refine lv_iconst (v := 0) hx hb dX8_lines_1 (by decide) ?_
    refine va_put (D := D) (ci := 8) (v := .int 0) (ty := tyX8 0) (C := RX8) (T := TX8) (N := 13) hx hb hg uX8 tyX8 tyX8_ok nmX8 hown hK.1 hP hD hS 0 rfl rfl 0 (by decide) (hg _ gw_940) (fun _ h9 => h9) rfl (tyX8_ok 0 (by decide)) rfl rfl (Nat.le_of_ble_eq_true rfl) dX8_lines_2 (fun H locs hP hD hS => ?_)
    have hP : va_P D vwCl (wX8 cI h0 h1 h2 h3 h4 h5 (0) aSm aLn aAt aWe aRm aBm aHa aS aSv aCm aRd aBy) H := hP
    have hD : va_D A (wX8 cI h0 h1 h2 h3 h4 h5 (0) aSm aLn aAt aWe aRm aBm aHa aS aSv aCm aRd aBy) := hD
    refine lv_aload_n hx hb dX8_lines_5 rfl (lv_at hl 0 rfl) ?_
    refine lv_aload_n hx hb dX8_lines_6 rfl (lv_at hl 0 rfl) ?_
    refine va_get (D := D) (ci := 8) (v := .ref h1) (C := RX8) (T := TX8) (N := 13) hx hb hg uX8 hown hK.1 hP 0 rfl rfl 1 (by decide) (hg _ gw_941) (fun _ h9 => h9) rfl dX8_lines_7 ?_
    refine lv_iconst (v := 0) hx hb dX8_lines_10 (by decide) ?_
    obtain ⟨v1, h⟩ := rd_some h
    refine va_iald hx hb hK.1 hP 1 0 rfl rfl v1 dX8_lines_11 ?_
    obtain ⟨r2, ec2, h⟩ := bd_some h
    refine cV_i (As := [.int (aS (Int32.toNatClampNeg 0))]) (rest := []) (wc := (wX8 cI h0 h1 h2 h3 h4 h5 (0) aSm aLn aAt aWe aRm aBm aHa aS aSv aCm aRd aBy)) (wc' := (wX8 cI h0 h1 h2 h3 h4 h5 (0) aSm aLn aAt aWe aRm aBm aHa aS aSv aCm aRd aBy)) hx hb hml hown hg hK hP hD hS hA hl.1 (k_X8_lineAt l D cI cS cL Z h0 h1 h2 h3 h4 h5 (aS (Int32.toNatClampNeg 0)) (0) aSm aLn aAt aWe aRm aBm aHa aS aSv aCm aRd aBy ec2) gm_X8_lineAt gw_1176 ⟨rfl, rfl, by decide, by decide⟩ ⟨Nat.zero_le _, Nat.zero_le _⟩ [0, 1, 2, 3, 4, 5] rfl rfl rfl rfl rfl rfl rfl rfl (Nat.le_of_ble_eq_true rfl) dX8_lines_12 (fun H locs hP hD hS => ?_)
    have hP : va_P D vwCl (wX8 cI h0 h1 h2 h3 h4 h5 (0) aSm aLn aAt aWe aRm aBm aHa aS aSv aCm aRd aBy) H := hP
    have hD : va_D A (wX8 cI h0 h1 h2 h3 h4 h5 (0) aSm aLn aAt aWe aRm aBm aHa aS aSv aCm aRd aBy) := hD
    refine lv_iconst (v := 1) hx hb dX8_lines_15 (by decide) ?_
    refine lv_iadd hx hb dX8_lines_16 ?_
    cases h
    exact ret_i hx hb hr hlocks hP hD hS dX8_lines_17 rfl
  exact hmain _ _ hP hS
abbrev rm_X8_lineOf : Room := { frames := 2, cells := 0, slots := 0, locals := 43 }
def f_X8_lineOf (Z : Nat) (p1 : Int32) (aTh : Int32) (aS : Nat → Int32) : Option (Int32 × Int32) :=
  (f_X8_isPosition Z p1 aS).bind fun r1 =>
  if r1 = 0 then
    (f_X8_fails Z 1 (0)).bind fun (r3, aTh_3) =>
    some (r3, aTh_3)
  else
    (f_X8_lineAt Z p1 aS).bind fun r4 =>
    some (r4, (0))
set_option maxRecDepth 100000 in
set_option maxHeartbeats 4000000 in
theorem k_X8_lineOf (l : Launch) (D : va_G) (cI cS cL : ClassId) (Z : Nat) (h0 : Nat) (h1 : Nat) (h2 : Nat) (h3 : Nat) (h4 : Nat) (h5 : Nat) (p1 : Int32) (aTh : Int32) (aSm : Int32) (aLn : Int32) (aAt : Int32) (aWe : Int32) (aRm : Int32) (aBm : Int32) (aHa : Int64) (aS : Nat → Int32) (aSv : Nat → Int32) (aCm : Nat → Int32) (aRd : Nat → Int32) (aBy : Nat → Int32) {r : Int32} {aTh' : Int32} (h : f_X8_lineOf Z p1 aTh aS = some (r, aTh')) : CI l yX8_lineOf cX8_lineOf 2 (some .int) rm_X8_lineOf D cI cS cL [.ref h0, .int p1] (wX8 cI h0 h1 h2 h3 h4 h5 aTh aSm aLn aAt aWe aRm aBm aHa aS aSv aCm aRd aBy) (wX8 cI h0 h1 h2 h3 h4 h5 (aTh') aSm aLn aAt aWe aRm aBm aHa aS aSv aCm aRd aBy) r := by
  refine ent_i (by decide +kernel) (Nat.le_of_ble_eq_true rfl) ?_
  intro p e s m args below meth c A ls hx hb hr hml hlocks hg hown hK hP hD hS hA hl
  have hown : s.vm.findClass RX8 = some m.cls := hown
  have hl : lv_has ls 2 [(0, .ref h0), (1, .int p1)] := hl
  have hP : va_P D vwCl (wX8 cI h0 h1 h2 h3 h4 h5 aTh aSm aLn aAt aWe aRm aBm aHa aS aSv aCm aRd aBy) s.heap := hP
  have hD : va_D A (wX8 cI h0 h1 h2 h3 h4 h5 aTh aSm aLn aAt aWe aRm aBm aHa aS aSv aCm aRd aBy) := hD
  show W p l e rm_X8_lineOf s m args below meth c s.heap [] 0 0 (FI D below args s (wX8 cI h0 h1 h2 h3 h4 h5 (aTh') aSm aLn aAt aWe aRm aBm aHa aS aSv aCm aRd aBy) r A) (F0 m 0 ls [])
  unfold f_X8_lineOf at h
  have hmain : ∀ (H : Heap) (locs : List Loc), va_P D vwCl (wX8 cI h0 h1 h2 h3 h4 h5 aTh aSm aLn aAt aWe aRm aBm aHa aS aSv aCm aRd aBy) H → va_S A s.heap H locs → W p l e rm_X8_lineOf s m args below meth c H locs 0 0 (FI D below args s (wX8 cI h0 h1 h2 h3 h4 h5 (aTh') aSm aLn aAt aWe aRm aBm aHa aS aSv aCm aRd aBy) r A) (F0 m 0 ls []) := by
    intro H locs hP hS
    refine lv_aload_n hx hb dX8_lineOf_0 rfl (lv_at hl 0 rfl) ?_
    refine lv_iconst (v := 0) hx hb dX8_lineOf_1 (by decide) ?_
    refine va_put (D := D) (ci := 8) (v := .int 0) (ty := tyX8 0) (C := RX8) (T := TX8) (N := 13) hx hb hg uX8 tyX8 tyX8_ok nmX8 hown hK.1 hP hD hS 0 rfl rfl 0 (by decide) (hg _ gw_940) (fun _ h9 => h9) rfl (tyX8_ok 0 (by decide)) rfl rfl (Nat.le_of_ble_eq_true rfl) dX8_lineOf_2 (fun H locs hP hD hS => ?_)
    have hP : va_P D vwCl (wX8 cI h0 h1 h2 h3 h4 h5 (0) aSm aLn aAt aWe aRm aBm aHa aS aSv aCm aRd aBy) H := hP
    have hD : va_D A (wX8 cI h0 h1 h2 h3 h4 h5 (0) aSm aLn aAt aWe aRm aBm aHa aS aSv aCm aRd aBy) := hD
    refine lv_aload_n hx hb dX8_lineOf_5 rfl (lv_at hl 0 rfl) ?_
    refine lv_iload_n hx hb dX8_lineOf_6 rfl (lv_at hl 1 rfl) ?_
    obtain ⟨r1, ec1, h⟩ := bd_some h
    refine cV_i (As := [.int p1]) (rest := []) (wc := (wX8 cI h0 h1 h2 h3 h4 h5 (0) aSm aLn aAt aWe aRm aBm aHa aS aSv aCm aRd aBy)) (wc' := (wX8 cI h0 h1 h2 h3 h4 h5 (0) aSm aLn aAt aWe aRm aBm aHa aS aSv aCm aRd aBy)) hx hb hml hown hg hK hP hD hS hA hl.1 (k_X8_isPosition l D cI cS cL Z h0 h1 h2 h3 h4 h5 p1 (0) aSm aLn aAt aWe aRm aBm aHa aS aSv aCm aRd aBy ec1) gm_X8_isPosition gw_1065 ⟨rfl, rfl, by decide, by decide⟩ ⟨Nat.zero_le _, Nat.zero_le _⟩ [0, 1, 2, 3, 4, 5] rfl rfl rfl rfl rfl rfl rfl rfl (Nat.le_of_ble_eq_true rfl) dX8_lineOf_7 (fun H locs hP hD hS => ?_)
    have hP : va_P D vwCl (wX8 cI h0 h1 h2 h3 h4 h5 (0) aSm aLn aAt aWe aRm aBm aHa aS aSv aCm aRd aBy) H := hP
    have hD : va_D A (wX8 cI h0 h1 h2 h3 h4 h5 (0) aSm aLn aAt aWe aRm aBm aHa aS aSv aCm aRd aBy) := hD
    refine lv_if_eq (tgt := 21) hx hb dX8_lineOf_10 (by decide) (fun q2 => ?_) (fun q2 => ?_)
    · replace h := it_some q2 h
      refine lv_aload_n hx hb dX8_lineOf_21 rfl (lv_at hl 0 rfl) ?_
      refine lv_iconst (v := 1) hx hb dX8_lineOf_22 (by decide) ?_
      obtain ⟨⟨r3, aTh_3⟩, ec3, h⟩ := bd_some h
      refine cV_i (As := [.int 1]) (rest := []) (wc := (wX8 cI h0 h1 h2 h3 h4 h5 (0) aSm aLn aAt aWe aRm aBm aHa aS aSv aCm aRd aBy)) (wc' := (wX8 cI h0 h1 h2 h3 h4 h5 aTh_3 aSm aLn aAt aWe aRm aBm aHa aS aSv aCm aRd aBy)) hx hb hml hown hg hK hP hD hS hA hl.1 (k_X8_fails l D cI cS cL Z h0 h1 h2 h3 h4 h5 1 (0) aSm aLn aAt aWe aRm aBm aHa aS aSv aCm aRd aBy ec3) gm_X8_fails gw_994 ⟨rfl, rfl, by decide, by decide⟩ ⟨Nat.zero_le _, Nat.zero_le _⟩ [0, 1, 2, 3, 4, 5] rfl rfl rfl rfl rfl rfl rfl rfl (Nat.le_of_ble_eq_true rfl) dX8_lineOf_23 (fun H locs hP hD hS => ?_)
      have hP : va_P D vwCl (wX8 cI h0 h1 h2 h3 h4 h5 aTh_3 aSm aLn aAt aWe aRm aBm aHa aS aSv aCm aRd aBy) H := hP
      have hD : va_D A (wX8 cI h0 h1 h2 h3 h4 h5 aTh_3 aSm aLn aAt aWe aRm aBm aHa aS aSv aCm aRd aBy) := hD
      cases h
      exact ret_i hx hb hr hlocks hP hD hS dX8_lineOf_26 rfl
    · replace h := if_some q2 h
      refine lv_aload_n hx hb dX8_lineOf_13 rfl (lv_at hl 0 rfl) ?_
      refine lv_iload_n hx hb dX8_lineOf_14 rfl (lv_at hl 1 rfl) ?_
      obtain ⟨r4, ec4, h⟩ := bd_some h
      refine cV_i (As := [.int p1]) (rest := []) (wc := (wX8 cI h0 h1 h2 h3 h4 h5 (0) aSm aLn aAt aWe aRm aBm aHa aS aSv aCm aRd aBy)) (wc' := (wX8 cI h0 h1 h2 h3 h4 h5 (0) aSm aLn aAt aWe aRm aBm aHa aS aSv aCm aRd aBy)) hx hb hml hown hg hK hP hD hS hA hl.1 (k_X8_lineAt l D cI cS cL Z h0 h1 h2 h3 h4 h5 p1 (0) aSm aLn aAt aWe aRm aBm aHa aS aSv aCm aRd aBy ec4) gm_X8_lineAt gw_1176 ⟨rfl, rfl, by decide, by decide⟩ ⟨Nat.zero_le _, Nat.zero_le _⟩ [0, 1, 2, 3, 4, 5] rfl rfl rfl rfl rfl rfl rfl rfl (Nat.le_of_ble_eq_true rfl) dX8_lineOf_15 (fun H locs hP hD hS => ?_)
      have hP : va_P D vwCl (wX8 cI h0 h1 h2 h3 h4 h5 (0) aSm aLn aAt aWe aRm aBm aHa aS aSv aCm aRd aBy) H := hP
      have hD : va_D A (wX8 cI h0 h1 h2 h3 h4 h5 (0) aSm aLn aAt aWe aRm aBm aHa aS aSv aCm aRd aBy) := hD
      refine lv_goto (tgt := 26) hx hb dX8_lineOf_18 (by decide) ?_
      cases h
      exact ret_i hx hb hr hlocks hP hD hS dX8_lineOf_26 rfl
  exact hmain _ _ hP hS
abbrev rm_X8_columnOf : Room := { frames := 2, cells := 0, slots := 0, locals := 43 }
def f_X8_columnOf (Z : Nat) (p1 : Int32) (aTh : Int32) (aS : Nat → Int32) : Option (Int32 × Int32) :=
  (f_X8_isPosition Z p1 aS).bind fun r1 =>
  if r1 = 0 then
    (f_X8_fails Z 1 (0)).bind fun (r3, aTh_3) =>
    some (r3, aTh_3)
  else
    (f_X8_column Z p1 aS).bind fun r4 =>
    some (r4, (0))
set_option maxRecDepth 100000 in
set_option maxHeartbeats 4000000 in
theorem k_X8_columnOf (l : Launch) (D : va_G) (cI cS cL : ClassId) (Z : Nat) (h0 : Nat) (h1 : Nat) (h2 : Nat) (h3 : Nat) (h4 : Nat) (h5 : Nat) (p1 : Int32) (aTh : Int32) (aSm : Int32) (aLn : Int32) (aAt : Int32) (aWe : Int32) (aRm : Int32) (aBm : Int32) (aHa : Int64) (aS : Nat → Int32) (aSv : Nat → Int32) (aCm : Nat → Int32) (aRd : Nat → Int32) (aBy : Nat → Int32) {r : Int32} {aTh' : Int32} (h : f_X8_columnOf Z p1 aTh aS = some (r, aTh')) : CI l yX8_columnOf cX8_columnOf 2 (some .int) rm_X8_columnOf D cI cS cL [.ref h0, .int p1] (wX8 cI h0 h1 h2 h3 h4 h5 aTh aSm aLn aAt aWe aRm aBm aHa aS aSv aCm aRd aBy) (wX8 cI h0 h1 h2 h3 h4 h5 (aTh') aSm aLn aAt aWe aRm aBm aHa aS aSv aCm aRd aBy) r := by
  refine ent_i (by decide +kernel) (Nat.le_of_ble_eq_true rfl) ?_
  intro p e s m args below meth c A ls hx hb hr hml hlocks hg hown hK hP hD hS hA hl
  have hown : s.vm.findClass RX8 = some m.cls := hown
  have hl : lv_has ls 2 [(0, .ref h0), (1, .int p1)] := hl
  have hP : va_P D vwCl (wX8 cI h0 h1 h2 h3 h4 h5 aTh aSm aLn aAt aWe aRm aBm aHa aS aSv aCm aRd aBy) s.heap := hP
  have hD : va_D A (wX8 cI h0 h1 h2 h3 h4 h5 aTh aSm aLn aAt aWe aRm aBm aHa aS aSv aCm aRd aBy) := hD
  show W p l e rm_X8_columnOf s m args below meth c s.heap [] 0 0 (FI D below args s (wX8 cI h0 h1 h2 h3 h4 h5 (aTh') aSm aLn aAt aWe aRm aBm aHa aS aSv aCm aRd aBy) r A) (F0 m 0 ls [])
  unfold f_X8_columnOf at h
  have hmain : ∀ (H : Heap) (locs : List Loc), va_P D vwCl (wX8 cI h0 h1 h2 h3 h4 h5 aTh aSm aLn aAt aWe aRm aBm aHa aS aSv aCm aRd aBy) H → va_S A s.heap H locs → W p l e rm_X8_columnOf s m args below meth c H locs 0 0 (FI D below args s (wX8 cI h0 h1 h2 h3 h4 h5 (aTh') aSm aLn aAt aWe aRm aBm aHa aS aSv aCm aRd aBy) r A) (F0 m 0 ls []) := by
    intro H locs hP hS
    refine lv_aload_n hx hb dX8_columnOf_0 rfl (lv_at hl 0 rfl) ?_
    refine lv_iconst (v := 0) hx hb dX8_columnOf_1 (by decide) ?_
    refine va_put (D := D) (ci := 8) (v := .int 0) (ty := tyX8 0) (C := RX8) (T := TX8) (N := 13) hx hb hg uX8 tyX8 tyX8_ok nmX8 hown hK.1 hP hD hS 0 rfl rfl 0 (by decide) (hg _ gw_940) (fun _ h9 => h9) rfl (tyX8_ok 0 (by decide)) rfl rfl (Nat.le_of_ble_eq_true rfl) dX8_columnOf_2 (fun H locs hP hD hS => ?_)
    have hP : va_P D vwCl (wX8 cI h0 h1 h2 h3 h4 h5 (0) aSm aLn aAt aWe aRm aBm aHa aS aSv aCm aRd aBy) H := hP
    have hD : va_D A (wX8 cI h0 h1 h2 h3 h4 h5 (0) aSm aLn aAt aWe aRm aBm aHa aS aSv aCm aRd aBy) := hD
    refine lv_aload_n hx hb dX8_columnOf_5 rfl (lv_at hl 0 rfl) ?_
    refine lv_iload_n hx hb dX8_columnOf_6 rfl (lv_at hl 1 rfl) ?_
    obtain ⟨r1, ec1, h⟩ := bd_some h
    refine cV_i (As := [.int p1]) (rest := []) (wc := (wX8 cI h0 h1 h2 h3 h4 h5 (0) aSm aLn aAt aWe aRm aBm aHa aS aSv aCm aRd aBy)) (wc' := (wX8 cI h0 h1 h2 h3 h4 h5 (0) aSm aLn aAt aWe aRm aBm aHa aS aSv aCm aRd aBy)) hx hb hml hown hg hK hP hD hS hA hl.1 (k_X8_isPosition l D cI cS cL Z h0 h1 h2 h3 h4 h5 p1 (0) aSm aLn aAt aWe aRm aBm aHa aS aSv aCm aRd aBy ec1) gm_X8_isPosition gw_1065 ⟨rfl, rfl, by decide, by decide⟩ ⟨Nat.zero_le _, Nat.zero_le _⟩ [0, 1, 2, 3, 4, 5] rfl rfl rfl rfl rfl rfl rfl rfl (Nat.le_of_ble_eq_true rfl) dX8_columnOf_7 (fun H locs hP hD hS => ?_)
    have hP : va_P D vwCl (wX8 cI h0 h1 h2 h3 h4 h5 (0) aSm aLn aAt aWe aRm aBm aHa aS aSv aCm aRd aBy) H := hP
    have hD : va_D A (wX8 cI h0 h1 h2 h3 h4 h5 (0) aSm aLn aAt aWe aRm aBm aHa aS aSv aCm aRd aBy) := hD
    refine lv_if_eq (tgt := 21) hx hb dX8_columnOf_10 (by decide) (fun q2 => ?_) (fun q2 => ?_)
    · replace h := it_some q2 h
      refine lv_aload_n hx hb dX8_columnOf_21 rfl (lv_at hl 0 rfl) ?_
      refine lv_iconst (v := 1) hx hb dX8_columnOf_22 (by decide) ?_
      obtain ⟨⟨r3, aTh_3⟩, ec3, h⟩ := bd_some h
      refine cV_i (As := [.int 1]) (rest := []) (wc := (wX8 cI h0 h1 h2 h3 h4 h5 (0) aSm aLn aAt aWe aRm aBm aHa aS aSv aCm aRd aBy)) (wc' := (wX8 cI h0 h1 h2 h3 h4 h5 aTh_3 aSm aLn aAt aWe aRm aBm aHa aS aSv aCm aRd aBy)) hx hb hml hown hg hK hP hD hS hA hl.1 (k_X8_fails l D cI cS cL Z h0 h1 h2 h3 h4 h5 1 (0) aSm aLn aAt aWe aRm aBm aHa aS aSv aCm aRd aBy ec3) gm_X8_fails gw_994 ⟨rfl, rfl, by decide, by decide⟩ ⟨Nat.zero_le _, Nat.zero_le _⟩ [0, 1, 2, 3, 4, 5] rfl rfl rfl rfl rfl rfl rfl rfl (Nat.le_of_ble_eq_true rfl) dX8_columnOf_23 (fun H locs hP hD hS => ?_)
      have hP : va_P D vwCl (wX8 cI h0 h1 h2 h3 h4 h5 aTh_3 aSm aLn aAt aWe aRm aBm aHa aS aSv aCm aRd aBy) H := hP
      have hD : va_D A (wX8 cI h0 h1 h2 h3 h4 h5 aTh_3 aSm aLn aAt aWe aRm aBm aHa aS aSv aCm aRd aBy) := hD
      cases h
      exact ret_i hx hb hr hlocks hP hD hS dX8_columnOf_26 rfl
    · replace h := if_some q2 h
      refine lv_aload_n hx hb dX8_columnOf_13 rfl (lv_at hl 0 rfl) ?_
      refine lv_iload_n hx hb dX8_columnOf_14 rfl (lv_at hl 1 rfl) ?_
      obtain ⟨r4, ec4, h⟩ := bd_some h
      refine cV_i (As := [.int p1]) (rest := []) (wc := (wX8 cI h0 h1 h2 h3 h4 h5 (0) aSm aLn aAt aWe aRm aBm aHa aS aSv aCm aRd aBy)) (wc' := (wX8 cI h0 h1 h2 h3 h4 h5 (0) aSm aLn aAt aWe aRm aBm aHa aS aSv aCm aRd aBy)) hx hb hml hown hg hK hP hD hS hA hl.1 (k_X8_column l D cI cS cL Z h0 h1 h2 h3 h4 h5 p1 (0) aSm aLn aAt aWe aRm aBm aHa aS aSv aCm aRd aBy ec4) gm_X8_column gw_1029 ⟨rfl, rfl, by decide, by decide⟩ ⟨Nat.zero_le _, Nat.zero_le _⟩ [0, 1, 2, 3, 4, 5] rfl rfl rfl rfl rfl rfl rfl rfl (Nat.le_of_ble_eq_true rfl) dX8_columnOf_15 (fun H locs hP hD hS => ?_)
      have hP : va_P D vwCl (wX8 cI h0 h1 h2 h3 h4 h5 (0) aSm aLn aAt aWe aRm aBm aHa aS aSv aCm aRd aBy) H := hP
      have hD : va_D A (wX8 cI h0 h1 h2 h3 h4 h5 (0) aSm aLn aAt aWe aRm aBm aHa aS aSv aCm aRd aBy) := hD
      refine lv_goto (tgt := 26) hx hb dX8_columnOf_18 (by decide) ?_
      cases h
      exact ret_i hx hb hr hlocks hP hD hS dX8_columnOf_26 rfl
  exact hmain _ _ hP hS
abbrev rm_X8_isLine : Room := { frames := 1, cells := 0, slots := 0, locals := 23 }
def f_X8_isLine (Z : Nat) (p1 : Int32) (aS : Nat → Int32) : Option (Int32) :=
  rd 0 344 (
  (f_X8_lineAt Z (aS (Int32.toNatClampNeg 0)) aS).bind fun r2 =>
  (f_X8_in Z p1 0 r2).bind fun r3 =>
  kb r3 (some r3))
set_option maxRecDepth 100000 in
set_option maxHeartbeats 4000000 in
theorem k_X8_isLine (l : Launch) (D : va_G) (cI cS cL : ClassId) (Z : Nat) (h0 : Nat) (h1 : Nat) (h2 : Nat) (h3 : Nat) (h4 : Nat) (h5 : Nat) (p1 : Int32) (aTh : Int32) (aSm : Int32) (aLn : Int32) (aAt : Int32) (aWe : Int32) (aRm : Int32) (aBm : Int32) (aHa : Int64) (aS : Nat → Int32) (aSv : Nat → Int32) (aCm : Nat → Int32) (aRd : Nat → Int32) (aBy : Nat → Int32) {r : Int32} (h : f_X8_isLine Z p1 aS = some r) : CI l yX8_isLine cX8_isLine 2 (some .boolean) rm_X8_isLine D cI cS cL [.ref h0, .int p1] (wX8 cI h0 h1 h2 h3 h4 h5 aTh aSm aLn aAt aWe aRm aBm aHa aS aSv aCm aRd aBy) (wX8 cI h0 h1 h2 h3 h4 h5 aTh aSm aLn aAt aWe aRm aBm aHa aS aSv aCm aRd aBy) r := by
  refine ent_i (by decide +kernel) (Nat.le_of_ble_eq_true rfl) ?_
  intro p e s m args below meth c A ls hx hb hr hml hlocks hg hown hK hP hD hS hA hl
  have hown : s.vm.findClass RX8 = some m.cls := hown
  have hl : lv_has ls 2 [(0, .ref h0), (1, .int p1)] := hl
  have hP : va_P D vwCl (wX8 cI h0 h1 h2 h3 h4 h5 aTh aSm aLn aAt aWe aRm aBm aHa aS aSv aCm aRd aBy) s.heap := hP
  have hD : va_D A (wX8 cI h0 h1 h2 h3 h4 h5 aTh aSm aLn aAt aWe aRm aBm aHa aS aSv aCm aRd aBy) := hD
  show W p l e rm_X8_isLine s m args below meth c s.heap [] 0 0 (FI D below args s (wX8 cI h0 h1 h2 h3 h4 h5 aTh aSm aLn aAt aWe aRm aBm aHa aS aSv aCm aRd aBy) r A) (F0 m 0 ls [])
  unfold f_X8_isLine at h
  have hmain : ∀ (H : Heap) (locs : List Loc), va_P D vwCl (wX8 cI h0 h1 h2 h3 h4 h5 aTh aSm aLn aAt aWe aRm aBm aHa aS aSv aCm aRd aBy) H → va_S A s.heap H locs → W p l e rm_X8_isLine s m args below meth c H locs 0 0 (FI D below args s (wX8 cI h0 h1 h2 h3 h4 h5 aTh aSm aLn aAt aWe aRm aBm aHa aS aSv aCm aRd aBy) r A) (F0 m 0 ls []) := by
    intro H locs hP hS
    refine lv_iload_n hx hb dX8_isLine_0 rfl (lv_at hl 1 rfl) ?_
    refine lv_iconst (v := 0) hx hb dX8_isLine_1 (by decide) ?_
    refine lv_aload_n hx hb dX8_isLine_2 rfl (lv_at hl 0 rfl) ?_
    refine lv_aload_n hx hb dX8_isLine_3 rfl (lv_at hl 0 rfl) ?_
    refine va_get (D := D) (ci := 8) (v := .ref h1) (C := RX8) (T := TX8) (N := 13) hx hb hg uX8 hown hK.1 hP 0 rfl rfl 1 (by decide) (hg _ gw_941) (fun _ h9 => h9) rfl dX8_isLine_4 ?_
    refine lv_iconst (v := 0) hx hb dX8_isLine_7 (by decide) ?_
    obtain ⟨v1, h⟩ := rd_some h
    refine va_iald hx hb hK.1 hP 1 0 rfl rfl v1 dX8_isLine_8 ?_
    obtain ⟨r2, ec2, h⟩ := bd_some h
    refine cV_i (As := [.int (aS (Int32.toNatClampNeg 0))]) (rest := [.int 0, .int p1]) (wc := (wX8 cI h0 h1 h2 h3 h4 h5 aTh aSm aLn aAt aWe aRm aBm aHa aS aSv aCm aRd aBy)) (wc' := (wX8 cI h0 h1 h2 h3 h4 h5 aTh aSm aLn aAt aWe aRm aBm aHa aS aSv aCm aRd aBy)) hx hb hml hown hg hK hP hD hS hA hl.1 (k_X8_lineAt l D cI cS cL Z h0 h1 h2 h3 h4 h5 (aS (Int32.toNatClampNeg 0)) aTh aSm aLn aAt aWe aRm aBm aHa aS aSv aCm aRd aBy ec2) gm_X8_lineAt gw_1176 ⟨rfl, rfl, by decide, by decide⟩ ⟨Nat.zero_le _, Nat.zero_le _⟩ [0, 1, 2, 3, 4, 5] rfl rfl rfl rfl rfl rfl rfl rfl (Nat.le_of_ble_eq_true rfl) dX8_isLine_9 (fun H locs hP hD hS => ?_)
    have hP : va_P D vwCl (wX8 cI h0 h1 h2 h3 h4 h5 aTh aSm aLn aAt aWe aRm aBm aHa aS aSv aCm aRd aBy) H := hP
    have hD : va_D A (wX8 cI h0 h1 h2 h3 h4 h5 aTh aSm aLn aAt aWe aRm aBm aHa aS aSv aCm aRd aBy) := hD
    obtain ⟨r3, ec3, h⟩ := bd_some h
    refine cS_i (As := [.int p1, .int 0, .int r2]) (rest := []) (wc := []) (wc' := []) hx hb hml hown hg hK hP hD hS hA hl.1 (k_X8_in l D cI cS cL Z p1 0 r2 ec3) gs_X8_in gw_991 ⟨rfl, rfl, by decide, by decide⟩ ⟨Nat.zero_le _, Nat.zero_le _⟩ [] rfl rfl rfl rfl rfl (Nat.le_of_ble_eq_true rfl) dX8_isLine_12 (fun H locs hP hD hS => ?_)
    have hP : va_P D vwCl (wX8 cI h0 h1 h2 h3 h4 h5 aTh aSm aLn aAt aWe aRm aBm aHa aS aSv aCm aRd aBy) H := hP
    have hD : va_D A (wX8 cI h0 h1 h2 h3 h4 h5 aTh aSm aLn aAt aWe aRm aBm aHa aS aSv aCm aRd aBy) := hD
    obtain ⟨b4, h⟩ := kb_some h
    cases h
    exact ret_z hx hb hr hlocks hP hD hS dX8_isLine_15 b4 rfl
  exact hmain _ _ hP hS
abbrev rm_X8_beginning : Room := { frames := 1, cells := 0, slots := 0, locals := 22 }
def f_X8_beginning_b4 (Z : Nat) (p1 : Int32) (aS : Nat → Int32) (rec : Int32 → Int32 → Option (Int32)) (x2 : Int32) (x3 : Int32) : Option (Int32) :=
      if p1 ≤ x3 then
        some x2
      else
        (f_X8_endOf Z x2 aS).bind fun r2 =>
        kl (r2 + 1) fun x2_3 =>
        kl (x3 + 1) fun x3_4 =>
        rec x2_3 x3_4
def f_X8_beginning_l4 (Z : Nat) (p1 : Int32) (aS : Nat → Int32) : Nat → Int32 → Int32 → Option (Int32)
  | 0, _, _ => none
  | n + 1, x2, x3 => f_X8_beginning_b4 Z p1 aS (f_X8_beginning_l4 Z p1 aS n) x2 x3
def f_X8_beginning (Z : Nat) (p1 : Int32) (aS : Nat → Int32) : Option (Int32) :=
  f_X8_beginning_l4 Z p1 aS Z 0 0
set_option maxRecDepth 100000 in
set_option maxHeartbeats 4000000 in
theorem k_X8_beginning (l : Launch) (D : va_G) (cI cS cL : ClassId) (Z : Nat) (h0 : Nat) (h1 : Nat) (h2 : Nat) (h3 : Nat) (h4 : Nat) (h5 : Nat) (p1 : Int32) (aTh : Int32) (aSm : Int32) (aLn : Int32) (aAt : Int32) (aWe : Int32) (aRm : Int32) (aBm : Int32) (aHa : Int64) (aS : Nat → Int32) (aSv : Nat → Int32) (aCm : Nat → Int32) (aRd : Nat → Int32) (aBy : Nat → Int32) {r : Int32} (h : f_X8_beginning Z p1 aS = some r) : CI l yX8_beginning cX8_beginning 4 (some .int) rm_X8_beginning D cI cS cL [.ref h0, .int p1] (wX8 cI h0 h1 h2 h3 h4 h5 aTh aSm aLn aAt aWe aRm aBm aHa aS aSv aCm aRd aBy) (wX8 cI h0 h1 h2 h3 h4 h5 aTh aSm aLn aAt aWe aRm aBm aHa aS aSv aCm aRd aBy) r := by
  refine ent_i (by decide +kernel) (Nat.le_of_ble_eq_true rfl) ?_
  intro p e s m args below meth c A ls hx hb hr hml hlocks hg hown hK hP hD hS hA hl
  have hown : s.vm.findClass RX8 = some m.cls := hown
  have c_4 : ∀ (n : Nat) (x2 : Int32) (x3 : Int32), f_X8_beginning_l4 Z p1 aS n x2 x3 = some r → ∀ (H : Heap) (locs : List Loc), va_P D vwCl (wX8 cI h0 h1 h2 h3 h4 h5 aTh aSm aLn aAt aWe aRm aBm aHa aS aSv aCm aRd aBy) H → va_D A (wX8 cI h0 h1 h2 h3 h4 h5 aTh aSm aLn aAt aWe aRm aBm aHa aS aSv aCm aRd aBy) → va_S A s.heap H locs → ∀ ls : Array Slot, lv_has ls 4 [(0, .ref h0), (1, .int p1), (2, .int x2), (3, .int x3)] → W p l e rm_X8_beginning s m args below meth c H locs 0 0 (FI D below args s (wX8 cI h0 h1 h2 h3 h4 h5 aTh aSm aLn aAt aWe aRm aBm aHa aS aSv aCm aRd aBy) r A) (F0 m 4 ls []) := by
    intro n
    induction n with
    | zero => intro x2 x3 h; exact no_some h
    | succ n ih =>
      intro x2 x3 h H locs hP hD hS ls hl
      have h : f_X8_beginning_b4 Z p1 aS (f_X8_beginning_l4 Z p1 aS n) x2 x3 = some r := h
      unfold f_X8_beginning_b4 at h
      refine lv_iload_n hx hb dX8_beginning_4 rfl (lv_at hl 3 rfl) ?_
      refine lv_iload_n hx hb dX8_beginning_5 rfl (lv_at hl 1 rfl) ?_
      refine lv_icmp_ge (tgt := 23) hx hb dX8_beginning_6 (by decide) (fun q1 => ?_) (fun q1 => ?_)
      · replace h := it_some q1 h
        refine lv_iload_n hx hb dX8_beginning_23 rfl (lv_at hl 2 rfl) ?_
        cases h
        exact ret_i hx hb hr hlocks hP hD hS dX8_beginning_24 rfl
      · replace h := if_some q1 h
        refine lv_aload_n hx hb dX8_beginning_9 rfl (lv_at hl 0 rfl) ?_
        refine lv_iload_n hx hb dX8_beginning_10 rfl (lv_at hl 2 rfl) ?_
        obtain ⟨r2, ec2, h⟩ := bd_some h
        refine cV_i (As := [.int x2]) (rest := []) (wc := (wX8 cI h0 h1 h2 h3 h4 h5 aTh aSm aLn aAt aWe aRm aBm aHa aS aSv aCm aRd aBy)) (wc' := (wX8 cI h0 h1 h2 h3 h4 h5 aTh aSm aLn aAt aWe aRm aBm aHa aS aSv aCm aRd aBy)) hx hb hml hown hg hK hP hD hS hA hl.1 (k_X8_endOf l D cI cS cL Z h0 h1 h2 h3 h4 h5 x2 aTh aSm aLn aAt aWe aRm aBm aHa aS aSv aCm aRd aBy ec2) gm_X8_endOf gw_1089 ⟨rfl, rfl, by decide, by decide⟩ ⟨Nat.zero_le _, Nat.zero_le _⟩ [0, 1, 2, 3, 4, 5] rfl rfl rfl rfl rfl rfl rfl rfl (Nat.le_of_ble_eq_true rfl) dX8_beginning_11 (fun H locs hP hD hS => ?_)
        have hP : va_P D vwCl (wX8 cI h0 h1 h2 h3 h4 h5 aTh aSm aLn aAt aWe aRm aBm aHa aS aSv aCm aRd aBy) H := hP
        have hD : va_D A (wX8 cI h0 h1 h2 h3 h4 h5 aTh aSm aLn aAt aWe aRm aBm aHa aS aSv aCm aRd aBy) := hD
        refine lv_iconst (v := 1) hx hb dX8_beginning_14 (by decide) ?_
        refine lv_iadd hx hb dX8_beginning_15 ?_
        obtain ⟨x2_3, ex2_3, h⟩ := kl_some h
        refine nm_i ex2_3 ?_
        refine lv_istore_n (lv' := [(2, .int x2_3), (0, .ref h0), (1, .int p1), (3, .int x3)]) hx hb dX8_beginning_16 rfl hl (by decide) rfl (fun ls hl => ?_)
        obtain ⟨x3_4, ex3_4, h⟩ := kl_some h
        refine lv_iinc (v := x3_4) (lv' := [(3, .int x3_4), (2, .int x2_3), (0, .ref h0), (1, .int p1)]) hx hb dX8_beginning_17 hl (k := 3) rfl (by rw [ex3_4]; rfl) (by decide) rfl (fun ls hl => ?_)
        refine lv_goto (tgt := 4) hx hb dX8_beginning_20 (by decide) ?_
        exact ih x2_3 x3_4 h H locs hP hD hS ls (lv_sub hl [2, 3, 1, 0] rfl)
  have hl : lv_has ls 4 [(0, .ref h0), (1, .int p1)] := hl
  have hP : va_P D vwCl (wX8 cI h0 h1 h2 h3 h4 h5 aTh aSm aLn aAt aWe aRm aBm aHa aS aSv aCm aRd aBy) s.heap := hP
  have hD : va_D A (wX8 cI h0 h1 h2 h3 h4 h5 aTh aSm aLn aAt aWe aRm aBm aHa aS aSv aCm aRd aBy) := hD
  show W p l e rm_X8_beginning s m args below meth c s.heap [] 0 0 (FI D below args s (wX8 cI h0 h1 h2 h3 h4 h5 aTh aSm aLn aAt aWe aRm aBm aHa aS aSv aCm aRd aBy) r A) (F0 m 0 ls [])
  unfold f_X8_beginning at h
  have hmain : ∀ (H : Heap) (locs : List Loc), va_P D vwCl (wX8 cI h0 h1 h2 h3 h4 h5 aTh aSm aLn aAt aWe aRm aBm aHa aS aSv aCm aRd aBy) H → va_S A s.heap H locs → W p l e rm_X8_beginning s m args below meth c H locs 0 0 (FI D below args s (wX8 cI h0 h1 h2 h3 h4 h5 aTh aSm aLn aAt aWe aRm aBm aHa aS aSv aCm aRd aBy) r A) (F0 m 0 ls []) := by
    intro H locs hP hS
    refine lv_iconst (v := 0) hx hb dX8_beginning_0 (by decide) ?_
    refine lv_istore_n (lv' := [(2, .int 0), (0, .ref h0), (1, .int p1)]) hx hb dX8_beginning_1 rfl hl (by decide) rfl (fun ls hl => ?_)
    refine lv_iconst (v := 0) hx hb dX8_beginning_2 (by decide) ?_
    refine lv_istore_n (lv' := [(3, .int 0), (2, .int 0), (0, .ref h0), (1, .int p1)]) hx hb dX8_beginning_3 rfl hl (by decide) rfl (fun ls hl => ?_)
    exact c_4 Z 0 0 h H locs hP hD hS ls (lv_sub hl [2, 3, 1, 0] rfl)
  exact hmain _ _ hP hS
abbrev rm_X8_lineStart : Room := { frames := 2, cells := 0, slots := 0, locals := 45 }
def f_X8_lineStart (Z : Nat) (p1 : Int32) (aTh : Int32) (aS : Nat → Int32) : Option (Int32 × Int32) :=
  (f_X8_isLine Z p1 aS).bind fun r1 =>
  if r1 = 0 then
    (f_X8_fails Z 1 (0)).bind fun (r3, aTh_3) =>
    some (r3, aTh_3)
  else
    (f_X8_beginning Z p1 aS).bind fun r4 =>
    some (r4, (0))
set_option maxRecDepth 100000 in
set_option maxHeartbeats 4000000 in
theorem k_X8_lineStart (l : Launch) (D : va_G) (cI cS cL : ClassId) (Z : Nat) (h0 : Nat) (h1 : Nat) (h2 : Nat) (h3 : Nat) (h4 : Nat) (h5 : Nat) (p1 : Int32) (aTh : Int32) (aSm : Int32) (aLn : Int32) (aAt : Int32) (aWe : Int32) (aRm : Int32) (aBm : Int32) (aHa : Int64) (aS : Nat → Int32) (aSv : Nat → Int32) (aCm : Nat → Int32) (aRd : Nat → Int32) (aBy : Nat → Int32) {r : Int32} {aTh' : Int32} (h : f_X8_lineStart Z p1 aTh aS = some (r, aTh')) : CI l yX8_lineStart cX8_lineStart 2 (some .int) rm_X8_lineStart D cI cS cL [.ref h0, .int p1] (wX8 cI h0 h1 h2 h3 h4 h5 aTh aSm aLn aAt aWe aRm aBm aHa aS aSv aCm aRd aBy) (wX8 cI h0 h1 h2 h3 h4 h5 (aTh') aSm aLn aAt aWe aRm aBm aHa aS aSv aCm aRd aBy) r := by
  refine ent_i (by decide +kernel) (Nat.le_of_ble_eq_true rfl) ?_
  intro p e s m args below meth c A ls hx hb hr hml hlocks hg hown hK hP hD hS hA hl
  have hown : s.vm.findClass RX8 = some m.cls := hown
  have hl : lv_has ls 2 [(0, .ref h0), (1, .int p1)] := hl
  have hP : va_P D vwCl (wX8 cI h0 h1 h2 h3 h4 h5 aTh aSm aLn aAt aWe aRm aBm aHa aS aSv aCm aRd aBy) s.heap := hP
  have hD : va_D A (wX8 cI h0 h1 h2 h3 h4 h5 aTh aSm aLn aAt aWe aRm aBm aHa aS aSv aCm aRd aBy) := hD
  show W p l e rm_X8_lineStart s m args below meth c s.heap [] 0 0 (FI D below args s (wX8 cI h0 h1 h2 h3 h4 h5 (aTh') aSm aLn aAt aWe aRm aBm aHa aS aSv aCm aRd aBy) r A) (F0 m 0 ls [])
  unfold f_X8_lineStart at h
  have hmain : ∀ (H : Heap) (locs : List Loc), va_P D vwCl (wX8 cI h0 h1 h2 h3 h4 h5 aTh aSm aLn aAt aWe aRm aBm aHa aS aSv aCm aRd aBy) H → va_S A s.heap H locs → W p l e rm_X8_lineStart s m args below meth c H locs 0 0 (FI D below args s (wX8 cI h0 h1 h2 h3 h4 h5 (aTh') aSm aLn aAt aWe aRm aBm aHa aS aSv aCm aRd aBy) r A) (F0 m 0 ls []) := by
    intro H locs hP hS
    refine lv_aload_n hx hb dX8_lineStart_0 rfl (lv_at hl 0 rfl) ?_
    refine lv_iconst (v := 0) hx hb dX8_lineStart_1 (by decide) ?_
    refine va_put (D := D) (ci := 8) (v := .int 0) (ty := tyX8 0) (C := RX8) (T := TX8) (N := 13) hx hb hg uX8 tyX8 tyX8_ok nmX8 hown hK.1 hP hD hS 0 rfl rfl 0 (by decide) (hg _ gw_940) (fun _ h9 => h9) rfl (tyX8_ok 0 (by decide)) rfl rfl (Nat.le_of_ble_eq_true rfl) dX8_lineStart_2 (fun H locs hP hD hS => ?_)
    have hP : va_P D vwCl (wX8 cI h0 h1 h2 h3 h4 h5 (0) aSm aLn aAt aWe aRm aBm aHa aS aSv aCm aRd aBy) H := hP
    have hD : va_D A (wX8 cI h0 h1 h2 h3 h4 h5 (0) aSm aLn aAt aWe aRm aBm aHa aS aSv aCm aRd aBy) := hD
    refine lv_aload_n hx hb dX8_lineStart_5 rfl (lv_at hl 0 rfl) ?_
    refine lv_iload_n hx hb dX8_lineStart_6 rfl (lv_at hl 1 rfl) ?_
    obtain ⟨r1, ec1, h⟩ := bd_some h
    refine cV_i (As := [.int p1]) (rest := []) (wc := (wX8 cI h0 h1 h2 h3 h4 h5 (0) aSm aLn aAt aWe aRm aBm aHa aS aSv aCm aRd aBy)) (wc' := (wX8 cI h0 h1 h2 h3 h4 h5 (0) aSm aLn aAt aWe aRm aBm aHa aS aSv aCm aRd aBy)) hx hb hml hown hg hK hP hD hS hA hl.1 (k_X8_isLine l D cI cS cL Z h0 h1 h2 h3 h4 h5 p1 (0) aSm aLn aAt aWe aRm aBm aHa aS aSv aCm aRd aBy ec1) gm_X8_isLine gw_1192 ⟨rfl, rfl, by decide, by decide⟩ ⟨Nat.zero_le _, Nat.zero_le _⟩ [0, 1, 2, 3, 4, 5] rfl rfl rfl rfl rfl rfl rfl rfl (Nat.le_of_ble_eq_true rfl) dX8_lineStart_7 (fun H locs hP hD hS => ?_)
    have hP : va_P D vwCl (wX8 cI h0 h1 h2 h3 h4 h5 (0) aSm aLn aAt aWe aRm aBm aHa aS aSv aCm aRd aBy) H := hP
    have hD : va_D A (wX8 cI h0 h1 h2 h3 h4 h5 (0) aSm aLn aAt aWe aRm aBm aHa aS aSv aCm aRd aBy) := hD
    refine lv_if_eq (tgt := 21) hx hb dX8_lineStart_10 (by decide) (fun q2 => ?_) (fun q2 => ?_)
    · replace h := it_some q2 h
      refine lv_aload_n hx hb dX8_lineStart_21 rfl (lv_at hl 0 rfl) ?_
      refine lv_iconst (v := 1) hx hb dX8_lineStart_22 (by decide) ?_
      obtain ⟨⟨r3, aTh_3⟩, ec3, h⟩ := bd_some h
      refine cV_i (As := [.int 1]) (rest := []) (wc := (wX8 cI h0 h1 h2 h3 h4 h5 (0) aSm aLn aAt aWe aRm aBm aHa aS aSv aCm aRd aBy)) (wc' := (wX8 cI h0 h1 h2 h3 h4 h5 aTh_3 aSm aLn aAt aWe aRm aBm aHa aS aSv aCm aRd aBy)) hx hb hml hown hg hK hP hD hS hA hl.1 (k_X8_fails l D cI cS cL Z h0 h1 h2 h3 h4 h5 1 (0) aSm aLn aAt aWe aRm aBm aHa aS aSv aCm aRd aBy ec3) gm_X8_fails gw_994 ⟨rfl, rfl, by decide, by decide⟩ ⟨Nat.zero_le _, Nat.zero_le _⟩ [0, 1, 2, 3, 4, 5] rfl rfl rfl rfl rfl rfl rfl rfl (Nat.le_of_ble_eq_true rfl) dX8_lineStart_23 (fun H locs hP hD hS => ?_)
      have hP : va_P D vwCl (wX8 cI h0 h1 h2 h3 h4 h5 aTh_3 aSm aLn aAt aWe aRm aBm aHa aS aSv aCm aRd aBy) H := hP
      have hD : va_D A (wX8 cI h0 h1 h2 h3 h4 h5 aTh_3 aSm aLn aAt aWe aRm aBm aHa aS aSv aCm aRd aBy) := hD
      cases h
      exact ret_i hx hb hr hlocks hP hD hS dX8_lineStart_26 rfl
    · replace h := if_some q2 h
      refine lv_aload_n hx hb dX8_lineStart_13 rfl (lv_at hl 0 rfl) ?_
      refine lv_iload_n hx hb dX8_lineStart_14 rfl (lv_at hl 1 rfl) ?_
      obtain ⟨r4, ec4, h⟩ := bd_some h
      refine cV_i (As := [.int p1]) (rest := []) (wc := (wX8 cI h0 h1 h2 h3 h4 h5 (0) aSm aLn aAt aWe aRm aBm aHa aS aSv aCm aRd aBy)) (wc' := (wX8 cI h0 h1 h2 h3 h4 h5 (0) aSm aLn aAt aWe aRm aBm aHa aS aSv aCm aRd aBy)) hx hb hml hown hg hK hP hD hS hA hl.1 (k_X8_beginning l D cI cS cL Z h0 h1 h2 h3 h4 h5 p1 (0) aSm aLn aAt aWe aRm aBm aHa aS aSv aCm aRd aBy ec4) gm_X8_beginning gw_1196 ⟨rfl, rfl, by decide, by decide⟩ ⟨Nat.zero_le _, Nat.zero_le _⟩ [0, 1, 2, 3, 4, 5] rfl rfl rfl rfl rfl rfl rfl rfl (Nat.le_of_ble_eq_true rfl) dX8_lineStart_15 (fun H locs hP hD hS => ?_)
      have hP : va_P D vwCl (wX8 cI h0 h1 h2 h3 h4 h5 (0) aSm aLn aAt aWe aRm aBm aHa aS aSv aCm aRd aBy) H := hP
      have hD : va_D A (wX8 cI h0 h1 h2 h3 h4 h5 (0) aSm aLn aAt aWe aRm aBm aHa aS aSv aCm aRd aBy) := hD
      refine lv_goto (tgt := 26) hx hb dX8_lineStart_18 (by decide) ?_
      cases h
      exact ret_i hx hb hr hlocks hP hD hS dX8_lineStart_26 rfl
  exact hmain _ _ hP hS
abbrev rm_X8_lineLength : Room := { frames := 2, cells := 0, slots := 0, locals := 45 }
def f_X8_lineLength (Z : Nat) (p1 : Int32) (aTh : Int32) (aS : Nat → Int32) : Option (Int32 × Int32) :=
  (f_X8_isLine Z p1 aS).bind fun r1 =>
  if r1 = 0 then
    (f_X8_fails Z 1 (0)).bind fun (r3, aTh_3) =>
    some (r3, aTh_3)
  else
    (f_X8_beginning Z p1 aS).bind fun r4 =>
    (f_X8_endOf Z r4 aS).bind fun r5 =>
    (f_X8_beginning Z p1 aS).bind fun r6 =>
    some (r5 - r6, (0))
set_option maxRecDepth 100000 in
set_option maxHeartbeats 4000000 in
theorem k_X8_lineLength (l : Launch) (D : va_G) (cI cS cL : ClassId) (Z : Nat) (h0 : Nat) (h1 : Nat) (h2 : Nat) (h3 : Nat) (h4 : Nat) (h5 : Nat) (p1 : Int32) (aTh : Int32) (aSm : Int32) (aLn : Int32) (aAt : Int32) (aWe : Int32) (aRm : Int32) (aBm : Int32) (aHa : Int64) (aS : Nat → Int32) (aSv : Nat → Int32) (aCm : Nat → Int32) (aRd : Nat → Int32) (aBy : Nat → Int32) {r : Int32} {aTh' : Int32} (h : f_X8_lineLength Z p1 aTh aS = some (r, aTh')) : CI l yX8_lineLength cX8_lineLength 2 (some .int) rm_X8_lineLength D cI cS cL [.ref h0, .int p1] (wX8 cI h0 h1 h2 h3 h4 h5 aTh aSm aLn aAt aWe aRm aBm aHa aS aSv aCm aRd aBy) (wX8 cI h0 h1 h2 h3 h4 h5 (aTh') aSm aLn aAt aWe aRm aBm aHa aS aSv aCm aRd aBy) r := by
  refine ent_i (by decide +kernel) (Nat.le_of_ble_eq_true rfl) ?_
  intro p e s m args below meth c A ls hx hb hr hml hlocks hg hown hK hP hD hS hA hl
  have hown : s.vm.findClass RX8 = some m.cls := hown
  have hl : lv_has ls 2 [(0, .ref h0), (1, .int p1)] := hl
  have hP : va_P D vwCl (wX8 cI h0 h1 h2 h3 h4 h5 aTh aSm aLn aAt aWe aRm aBm aHa aS aSv aCm aRd aBy) s.heap := hP
  have hD : va_D A (wX8 cI h0 h1 h2 h3 h4 h5 aTh aSm aLn aAt aWe aRm aBm aHa aS aSv aCm aRd aBy) := hD
  show W p l e rm_X8_lineLength s m args below meth c s.heap [] 0 0 (FI D below args s (wX8 cI h0 h1 h2 h3 h4 h5 (aTh') aSm aLn aAt aWe aRm aBm aHa aS aSv aCm aRd aBy) r A) (F0 m 0 ls [])
  unfold f_X8_lineLength at h
  have hmain : ∀ (H : Heap) (locs : List Loc), va_P D vwCl (wX8 cI h0 h1 h2 h3 h4 h5 aTh aSm aLn aAt aWe aRm aBm aHa aS aSv aCm aRd aBy) H → va_S A s.heap H locs → W p l e rm_X8_lineLength s m args below meth c H locs 0 0 (FI D below args s (wX8 cI h0 h1 h2 h3 h4 h5 (aTh') aSm aLn aAt aWe aRm aBm aHa aS aSv aCm aRd aBy) r A) (F0 m 0 ls []) := by
    intro H locs hP hS
    refine lv_aload_n hx hb dX8_lineLength_0 rfl (lv_at hl 0 rfl) ?_
    refine lv_iconst (v := 0) hx hb dX8_lineLength_1 (by decide) ?_
    refine va_put (D := D) (ci := 8) (v := .int 0) (ty := tyX8 0) (C := RX8) (T := TX8) (N := 13) hx hb hg uX8 tyX8 tyX8_ok nmX8 hown hK.1 hP hD hS 0 rfl rfl 0 (by decide) (hg _ gw_940) (fun _ h9 => h9) rfl (tyX8_ok 0 (by decide)) rfl rfl (Nat.le_of_ble_eq_true rfl) dX8_lineLength_2 (fun H locs hP hD hS => ?_)
    have hP : va_P D vwCl (wX8 cI h0 h1 h2 h3 h4 h5 (0) aSm aLn aAt aWe aRm aBm aHa aS aSv aCm aRd aBy) H := hP
    have hD : va_D A (wX8 cI h0 h1 h2 h3 h4 h5 (0) aSm aLn aAt aWe aRm aBm aHa aS aSv aCm aRd aBy) := hD
    refine lv_aload_n hx hb dX8_lineLength_5 rfl (lv_at hl 0 rfl) ?_
    refine lv_iload_n hx hb dX8_lineLength_6 rfl (lv_at hl 1 rfl) ?_
    obtain ⟨r1, ec1, h⟩ := bd_some h
    refine cV_i (As := [.int p1]) (rest := []) (wc := (wX8 cI h0 h1 h2 h3 h4 h5 (0) aSm aLn aAt aWe aRm aBm aHa aS aSv aCm aRd aBy)) (wc' := (wX8 cI h0 h1 h2 h3 h4 h5 (0) aSm aLn aAt aWe aRm aBm aHa aS aSv aCm aRd aBy)) hx hb hml hown hg hK hP hD hS hA hl.1 (k_X8_isLine l D cI cS cL Z h0 h1 h2 h3 h4 h5 p1 (0) aSm aLn aAt aWe aRm aBm aHa aS aSv aCm aRd aBy ec1) gm_X8_isLine gw_1192 ⟨rfl, rfl, by decide, by decide⟩ ⟨Nat.zero_le _, Nat.zero_le _⟩ [0, 1, 2, 3, 4, 5] rfl rfl rfl rfl rfl rfl rfl rfl (Nat.le_of_ble_eq_true rfl) dX8_lineLength_7 (fun H locs hP hD hS => ?_)
    have hP : va_P D vwCl (wX8 cI h0 h1 h2 h3 h4 h5 (0) aSm aLn aAt aWe aRm aBm aHa aS aSv aCm aRd aBy) H := hP
    have hD : va_D A (wX8 cI h0 h1 h2 h3 h4 h5 (0) aSm aLn aAt aWe aRm aBm aHa aS aSv aCm aRd aBy) := hD
    refine lv_if_eq (tgt := 31) hx hb dX8_lineLength_10 (by decide) (fun q2 => ?_) (fun q2 => ?_)
    · replace h := it_some q2 h
      refine lv_aload_n hx hb dX8_lineLength_31 rfl (lv_at hl 0 rfl) ?_
      refine lv_iconst (v := 1) hx hb dX8_lineLength_32 (by decide) ?_
      obtain ⟨⟨r3, aTh_3⟩, ec3, h⟩ := bd_some h
      refine cV_i (As := [.int 1]) (rest := []) (wc := (wX8 cI h0 h1 h2 h3 h4 h5 (0) aSm aLn aAt aWe aRm aBm aHa aS aSv aCm aRd aBy)) (wc' := (wX8 cI h0 h1 h2 h3 h4 h5 aTh_3 aSm aLn aAt aWe aRm aBm aHa aS aSv aCm aRd aBy)) hx hb hml hown hg hK hP hD hS hA hl.1 (k_X8_fails l D cI cS cL Z h0 h1 h2 h3 h4 h5 1 (0) aSm aLn aAt aWe aRm aBm aHa aS aSv aCm aRd aBy ec3) gm_X8_fails gw_994 ⟨rfl, rfl, by decide, by decide⟩ ⟨Nat.zero_le _, Nat.zero_le _⟩ [0, 1, 2, 3, 4, 5] rfl rfl rfl rfl rfl rfl rfl rfl (Nat.le_of_ble_eq_true rfl) dX8_lineLength_33 (fun H locs hP hD hS => ?_)
      have hP : va_P D vwCl (wX8 cI h0 h1 h2 h3 h4 h5 aTh_3 aSm aLn aAt aWe aRm aBm aHa aS aSv aCm aRd aBy) H := hP
      have hD : va_D A (wX8 cI h0 h1 h2 h3 h4 h5 aTh_3 aSm aLn aAt aWe aRm aBm aHa aS aSv aCm aRd aBy) := hD
      cases h
      exact ret_i hx hb hr hlocks hP hD hS dX8_lineLength_36 rfl
    · replace h := if_some q2 h
      refine lv_aload_n hx hb dX8_lineLength_13 rfl (lv_at hl 0 rfl) ?_
      refine lv_aload_n hx hb dX8_lineLength_14 rfl (lv_at hl 0 rfl) ?_
      refine lv_iload_n hx hb dX8_lineLength_15 rfl (lv_at hl 1 rfl) ?_
      obtain ⟨r4, ec4, h⟩ := bd_some h
      refine cV_i (As := [.int p1]) (rest := [.ref h0]) (wc := (wX8 cI h0 h1 h2 h3 h4 h5 (0) aSm aLn aAt aWe aRm aBm aHa aS aSv aCm aRd aBy)) (wc' := (wX8 cI h0 h1 h2 h3 h4 h5 (0) aSm aLn aAt aWe aRm aBm aHa aS aSv aCm aRd aBy)) hx hb hml hown hg hK hP hD hS hA hl.1 (k_X8_beginning l D cI cS cL Z h0 h1 h2 h3 h4 h5 p1 (0) aSm aLn aAt aWe aRm aBm aHa aS aSv aCm aRd aBy ec4) gm_X8_beginning gw_1196 ⟨rfl, rfl, by decide, by decide⟩ ⟨Nat.zero_le _, Nat.zero_le _⟩ [0, 1, 2, 3, 4, 5] rfl rfl rfl rfl rfl rfl rfl rfl (Nat.le_of_ble_eq_true rfl) dX8_lineLength_16 (fun H locs hP hD hS => ?_)
      have hP : va_P D vwCl (wX8 cI h0 h1 h2 h3 h4 h5 (0) aSm aLn aAt aWe aRm aBm aHa aS aSv aCm aRd aBy) H := hP
      have hD : va_D A (wX8 cI h0 h1 h2 h3 h4 h5 (0) aSm aLn aAt aWe aRm aBm aHa aS aSv aCm aRd aBy) := hD
      obtain ⟨r5, ec5, h⟩ := bd_some h
      refine cV_i (As := [.int r4]) (rest := []) (wc := (wX8 cI h0 h1 h2 h3 h4 h5 (0) aSm aLn aAt aWe aRm aBm aHa aS aSv aCm aRd aBy)) (wc' := (wX8 cI h0 h1 h2 h3 h4 h5 (0) aSm aLn aAt aWe aRm aBm aHa aS aSv aCm aRd aBy)) hx hb hml hown hg hK hP hD hS hA hl.1 (k_X8_endOf l D cI cS cL Z h0 h1 h2 h3 h4 h5 r4 (0) aSm aLn aAt aWe aRm aBm aHa aS aSv aCm aRd aBy ec5) gm_X8_endOf gw_1089 ⟨rfl, rfl, by decide, by decide⟩ ⟨Nat.zero_le _, Nat.zero_le _⟩ [0, 1, 2, 3, 4, 5] rfl rfl rfl rfl rfl rfl rfl rfl (Nat.le_of_ble_eq_true rfl) dX8_lineLength_19 (fun H locs hP hD hS => ?_)
      have hP : va_P D vwCl (wX8 cI h0 h1 h2 h3 h4 h5 (0) aSm aLn aAt aWe aRm aBm aHa aS aSv aCm aRd aBy) H := hP
      have hD : va_D A (wX8 cI h0 h1 h2 h3 h4 h5 (0) aSm aLn aAt aWe aRm aBm aHa aS aSv aCm aRd aBy) := hD
      refine lv_aload_n hx hb dX8_lineLength_22 rfl (lv_at hl 0 rfl) ?_
      refine lv_iload_n hx hb dX8_lineLength_23 rfl (lv_at hl 1 rfl) ?_
      obtain ⟨r6, ec6, h⟩ := bd_some h
      refine cV_i (As := [.int p1]) (rest := [.int r5]) (wc := (wX8 cI h0 h1 h2 h3 h4 h5 (0) aSm aLn aAt aWe aRm aBm aHa aS aSv aCm aRd aBy)) (wc' := (wX8 cI h0 h1 h2 h3 h4 h5 (0) aSm aLn aAt aWe aRm aBm aHa aS aSv aCm aRd aBy)) hx hb hml hown hg hK hP hD hS hA hl.1 (k_X8_beginning l D cI cS cL Z h0 h1 h2 h3 h4 h5 p1 (0) aSm aLn aAt aWe aRm aBm aHa aS aSv aCm aRd aBy ec6) gm_X8_beginning gw_1196 ⟨rfl, rfl, by decide, by decide⟩ ⟨Nat.zero_le _, Nat.zero_le _⟩ [0, 1, 2, 3, 4, 5] rfl rfl rfl rfl rfl rfl rfl rfl (Nat.le_of_ble_eq_true rfl) dX8_lineLength_24 (fun H locs hP hD hS => ?_)
      have hP : va_P D vwCl (wX8 cI h0 h1 h2 h3 h4 h5 (0) aSm aLn aAt aWe aRm aBm aHa aS aSv aCm aRd aBy) H := hP
      have hD : va_D A (wX8 cI h0 h1 h2 h3 h4 h5 (0) aSm aLn aAt aWe aRm aBm aHa aS aSv aCm aRd aBy) := hD
      refine lv_isub hx hb dX8_lineLength_27 ?_
      refine lv_goto (tgt := 36) hx hb dX8_lineLength_28 (by decide) ?_
      cases h
      exact ret_i hx hb hr hlocks hP hD hS dX8_lineLength_36 rfl
  exact hmain _ _ hP hS
abbrev rm_X8_capacity : Room := { frames := 0, cells := 0, slots := 0, locals := 0 }
def f_X8_capacity (Z : Nat) (aTh : Int32) (aS : Nat → Int32) : Option (Int32 × Int32) :=
  rd 3 344 (
  some (aS (Int32.toNatClampNeg 3), (0)))
set_option maxRecDepth 100000 in
set_option maxHeartbeats 4000000 in
theorem k_X8_capacity (l : Launch) (D : va_G) (cI cS cL : ClassId) (Z : Nat) (h0 : Nat) (h1 : Nat) (h2 : Nat) (h3 : Nat) (h4 : Nat) (h5 : Nat) (aTh : Int32) (aSm : Int32) (aLn : Int32) (aAt : Int32) (aWe : Int32) (aRm : Int32) (aBm : Int32) (aHa : Int64) (aS : Nat → Int32) (aSv : Nat → Int32) (aCm : Nat → Int32) (aRd : Nat → Int32) (aBy : Nat → Int32) {r : Int32} {aTh' : Int32} (h : f_X8_capacity Z aTh aS = some (r, aTh')) : CI l yX8_capacity cX8_capacity 1 (some .int) rm_X8_capacity D cI cS cL [.ref h0] (wX8 cI h0 h1 h2 h3 h4 h5 aTh aSm aLn aAt aWe aRm aBm aHa aS aSv aCm aRd aBy) (wX8 cI h0 h1 h2 h3 h4 h5 (aTh') aSm aLn aAt aWe aRm aBm aHa aS aSv aCm aRd aBy) r := by
  refine ent_i (by decide +kernel) (Nat.le_of_ble_eq_true rfl) ?_
  intro p e s m args below meth c A ls hx hb hr hml hlocks hg hown hK hP hD hS hA hl
  have hown : s.vm.findClass RX8 = some m.cls := hown
  have hl : lv_has ls 1 [(0, .ref h0)] := hl
  have hP : va_P D vwCl (wX8 cI h0 h1 h2 h3 h4 h5 aTh aSm aLn aAt aWe aRm aBm aHa aS aSv aCm aRd aBy) s.heap := hP
  have hD : va_D A (wX8 cI h0 h1 h2 h3 h4 h5 aTh aSm aLn aAt aWe aRm aBm aHa aS aSv aCm aRd aBy) := hD
  show W p l e rm_X8_capacity s m args below meth c s.heap [] 0 0 (FI D below args s (wX8 cI h0 h1 h2 h3 h4 h5 (aTh') aSm aLn aAt aWe aRm aBm aHa aS aSv aCm aRd aBy) r A) (F0 m 0 ls [])
  unfold f_X8_capacity at h
  have hmain : ∀ (H : Heap) (locs : List Loc), va_P D vwCl (wX8 cI h0 h1 h2 h3 h4 h5 aTh aSm aLn aAt aWe aRm aBm aHa aS aSv aCm aRd aBy) H → va_S A s.heap H locs → W p l e rm_X8_capacity s m args below meth c H locs 0 0 (FI D below args s (wX8 cI h0 h1 h2 h3 h4 h5 (aTh') aSm aLn aAt aWe aRm aBm aHa aS aSv aCm aRd aBy) r A) (F0 m 0 ls []) := by
    intro H locs hP hS
    refine lv_aload_n hx hb dX8_capacity_0 rfl (lv_at hl 0 rfl) ?_
    refine lv_iconst (v := 0) hx hb dX8_capacity_1 (by decide) ?_
    refine va_put (D := D) (ci := 8) (v := .int 0) (ty := tyX8 0) (C := RX8) (T := TX8) (N := 13) hx hb hg uX8 tyX8 tyX8_ok nmX8 hown hK.1 hP hD hS 0 rfl rfl 0 (by decide) (hg _ gw_940) (fun _ h9 => h9) rfl (tyX8_ok 0 (by decide)) rfl rfl (Nat.le_of_ble_eq_true rfl) dX8_capacity_2 (fun H locs hP hD hS => ?_)
    have hP : va_P D vwCl (wX8 cI h0 h1 h2 h3 h4 h5 (0) aSm aLn aAt aWe aRm aBm aHa aS aSv aCm aRd aBy) H := hP
    have hD : va_D A (wX8 cI h0 h1 h2 h3 h4 h5 (0) aSm aLn aAt aWe aRm aBm aHa aS aSv aCm aRd aBy) := hD
    refine lv_aload_n hx hb dX8_capacity_5 rfl (lv_at hl 0 rfl) ?_
    refine va_get (D := D) (ci := 8) (v := .ref h1) (C := RX8) (T := TX8) (N := 13) hx hb hg uX8 hown hK.1 hP 0 rfl rfl 1 (by decide) (hg _ gw_941) (fun _ h9 => h9) rfl dX8_capacity_6 ?_
    refine lv_iconst (v := 3) hx hb dX8_capacity_9 (by decide) ?_
    obtain ⟨v1, h⟩ := rd_some h
    refine va_iald hx hb hK.1 hP 1 0 rfl rfl v1 dX8_capacity_10 ?_
    cases h
    exact ret_i hx hb hr hlocks hP hD hS dX8_capacity_11 rfl
  exact hmain _ _ hP hS
abbrev rm_X8_gapStart : Room := { frames := 0, cells := 0, slots := 0, locals := 0 }
def f_X8_gapStart (Z : Nat) (aTh : Int32) (aS : Nat → Int32) : Option (Int32 × Int32) :=
  rd 2 344 (
  some (aS (Int32.toNatClampNeg 2), (0)))
set_option maxRecDepth 100000 in
set_option maxHeartbeats 4000000 in
theorem k_X8_gapStart (l : Launch) (D : va_G) (cI cS cL : ClassId) (Z : Nat) (h0 : Nat) (h1 : Nat) (h2 : Nat) (h3 : Nat) (h4 : Nat) (h5 : Nat) (aTh : Int32) (aSm : Int32) (aLn : Int32) (aAt : Int32) (aWe : Int32) (aRm : Int32) (aBm : Int32) (aHa : Int64) (aS : Nat → Int32) (aSv : Nat → Int32) (aCm : Nat → Int32) (aRd : Nat → Int32) (aBy : Nat → Int32) {r : Int32} {aTh' : Int32} (h : f_X8_gapStart Z aTh aS = some (r, aTh')) : CI l yX8_gapStart cX8_gapStart 1 (some .int) rm_X8_gapStart D cI cS cL [.ref h0] (wX8 cI h0 h1 h2 h3 h4 h5 aTh aSm aLn aAt aWe aRm aBm aHa aS aSv aCm aRd aBy) (wX8 cI h0 h1 h2 h3 h4 h5 (aTh') aSm aLn aAt aWe aRm aBm aHa aS aSv aCm aRd aBy) r := by
  refine ent_i (by decide +kernel) (Nat.le_of_ble_eq_true rfl) ?_
  intro p e s m args below meth c A ls hx hb hr hml hlocks hg hown hK hP hD hS hA hl
  have hown : s.vm.findClass RX8 = some m.cls := hown
  have hl : lv_has ls 1 [(0, .ref h0)] := hl
  have hP : va_P D vwCl (wX8 cI h0 h1 h2 h3 h4 h5 aTh aSm aLn aAt aWe aRm aBm aHa aS aSv aCm aRd aBy) s.heap := hP
  have hD : va_D A (wX8 cI h0 h1 h2 h3 h4 h5 aTh aSm aLn aAt aWe aRm aBm aHa aS aSv aCm aRd aBy) := hD
  show W p l e rm_X8_gapStart s m args below meth c s.heap [] 0 0 (FI D below args s (wX8 cI h0 h1 h2 h3 h4 h5 (aTh') aSm aLn aAt aWe aRm aBm aHa aS aSv aCm aRd aBy) r A) (F0 m 0 ls [])
  unfold f_X8_gapStart at h
  have hmain : ∀ (H : Heap) (locs : List Loc), va_P D vwCl (wX8 cI h0 h1 h2 h3 h4 h5 aTh aSm aLn aAt aWe aRm aBm aHa aS aSv aCm aRd aBy) H → va_S A s.heap H locs → W p l e rm_X8_gapStart s m args below meth c H locs 0 0 (FI D below args s (wX8 cI h0 h1 h2 h3 h4 h5 (aTh') aSm aLn aAt aWe aRm aBm aHa aS aSv aCm aRd aBy) r A) (F0 m 0 ls []) := by
    intro H locs hP hS
    refine lv_aload_n hx hb dX8_gapStart_0 rfl (lv_at hl 0 rfl) ?_
    refine lv_iconst (v := 0) hx hb dX8_gapStart_1 (by decide) ?_
    refine va_put (D := D) (ci := 8) (v := .int 0) (ty := tyX8 0) (C := RX8) (T := TX8) (N := 13) hx hb hg uX8 tyX8 tyX8_ok nmX8 hown hK.1 hP hD hS 0 rfl rfl 0 (by decide) (hg _ gw_940) (fun _ h9 => h9) rfl (tyX8_ok 0 (by decide)) rfl rfl (Nat.le_of_ble_eq_true rfl) dX8_gapStart_2 (fun H locs hP hD hS => ?_)
    have hP : va_P D vwCl (wX8 cI h0 h1 h2 h3 h4 h5 (0) aSm aLn aAt aWe aRm aBm aHa aS aSv aCm aRd aBy) H := hP
    have hD : va_D A (wX8 cI h0 h1 h2 h3 h4 h5 (0) aSm aLn aAt aWe aRm aBm aHa aS aSv aCm aRd aBy) := hD
    refine lv_aload_n hx hb dX8_gapStart_5 rfl (lv_at hl 0 rfl) ?_
    refine va_get (D := D) (ci := 8) (v := .ref h1) (C := RX8) (T := TX8) (N := 13) hx hb hg uX8 hown hK.1 hP 0 rfl rfl 1 (by decide) (hg _ gw_941) (fun _ h9 => h9) rfl dX8_gapStart_6 ?_
    refine lv_iconst (v := 2) hx hb dX8_gapStart_9 (by decide) ?_
    obtain ⟨v1, h⟩ := rd_some h
    refine va_iald hx hb hK.1 hP 1 0 rfl rfl v1 dX8_gapStart_10 ?_
    cases h
    exact ret_i hx hb hr hlocks hP hD hS dX8_gapStart_11 rfl
  exact hmain _ _ hP hS
abbrev rm_X8_cell : Room := { frames := 1, cells := 0, slots := 0, locals := 22 }
def f_X8_cell (Z : Nat) (p1 : Int32) (aTh : Int32) (aS : Nat → Int32) : Option (Int32 × Int32) :=
  rd 3 344 (
  (f_X8_in Z p1 0 ((aS (Int32.toNatClampNeg 3)) - 1)).bind fun r2 =>
  if r2 = 0 then
    (f_X8_fails Z 1 (0)).bind fun (r13, aTh_13) =>
    some (r13, aTh_13)
  else
    rd 3 344 (
    rd 0 344 (
    kl ((aS (Int32.toNatClampNeg 3)) - (aS (Int32.toNatClampNeg 0))) fun x2_6 =>
    rd 2 344 (
    if (aS (Int32.toNatClampNeg 2)) ≤ p1 then
      rd 2 344 (
      if ((aS (Int32.toNatClampNeg 2)) + x2_6) ≤ p1 then
        rd ((80 + p1) - x2_6) 344 (
        some (aS (Int32.toNatClampNeg ((80 + p1) - x2_6)), (0)))
      else
        some ((-1), (0)))
    else
      rd (80 + p1) 344 (
      some (aS (Int32.toNatClampNeg (80 + p1)), (0)))))))
set_option maxRecDepth 100000 in
set_option maxHeartbeats 4000000 in
theorem k_X8_cell (l : Launch) (D : va_G) (cI cS cL : ClassId) (Z : Nat) (h0 : Nat) (h1 : Nat) (h2 : Nat) (h3 : Nat) (h4 : Nat) (h5 : Nat) (p1 : Int32) (aTh : Int32) (aSm : Int32) (aLn : Int32) (aAt : Int32) (aWe : Int32) (aRm : Int32) (aBm : Int32) (aHa : Int64) (aS : Nat → Int32) (aSv : Nat → Int32) (aCm : Nat → Int32) (aRd : Nat → Int32) (aBy : Nat → Int32) {r : Int32} {aTh' : Int32} (h : f_X8_cell Z p1 aTh aS = some (r, aTh')) : CI l yX8_cell cX8_cell 3 (some .int) rm_X8_cell D cI cS cL [.ref h0, .int p1] (wX8 cI h0 h1 h2 h3 h4 h5 aTh aSm aLn aAt aWe aRm aBm aHa aS aSv aCm aRd aBy) (wX8 cI h0 h1 h2 h3 h4 h5 (aTh') aSm aLn aAt aWe aRm aBm aHa aS aSv aCm aRd aBy) r := by
  refine ent_i (by decide +kernel) (Nat.le_of_ble_eq_true rfl) ?_
  intro p e s m args below meth c A ls hx hb hr hml hlocks hg hown hK hP hD hS hA hl
  have hown : s.vm.findClass RX8 = some m.cls := hown
  have hl : lv_has ls 3 [(0, .ref h0), (1, .int p1)] := hl
  have hP : va_P D vwCl (wX8 cI h0 h1 h2 h3 h4 h5 aTh aSm aLn aAt aWe aRm aBm aHa aS aSv aCm aRd aBy) s.heap := hP
  have hD : va_D A (wX8 cI h0 h1 h2 h3 h4 h5 aTh aSm aLn aAt aWe aRm aBm aHa aS aSv aCm aRd aBy) := hD
  show W p l e rm_X8_cell s m args below meth c s.heap [] 0 0 (FI D below args s (wX8 cI h0 h1 h2 h3 h4 h5 (aTh') aSm aLn aAt aWe aRm aBm aHa aS aSv aCm aRd aBy) r A) (F0 m 0 ls [])
  unfold f_X8_cell at h
  have hmain : ∀ (H : Heap) (locs : List Loc), va_P D vwCl (wX8 cI h0 h1 h2 h3 h4 h5 aTh aSm aLn aAt aWe aRm aBm aHa aS aSv aCm aRd aBy) H → va_S A s.heap H locs → W p l e rm_X8_cell s m args below meth c H locs 0 0 (FI D below args s (wX8 cI h0 h1 h2 h3 h4 h5 (aTh') aSm aLn aAt aWe aRm aBm aHa aS aSv aCm aRd aBy) r A) (F0 m 0 ls []) := by
    intro H locs hP hS
    refine lv_aload_n hx hb dX8_cell_0 rfl (lv_at hl 0 rfl) ?_
    refine lv_iconst (v := 0) hx hb dX8_cell_1 (by decide) ?_
    refine va_put (D := D) (ci := 8) (v := .int 0) (ty := tyX8 0) (C := RX8) (T := TX8) (N := 13) hx hb hg uX8 tyX8 tyX8_ok nmX8 hown hK.1 hP hD hS 0 rfl rfl 0 (by decide) (hg _ gw_940) (fun _ h9 => h9) rfl (tyX8_ok 0 (by decide)) rfl rfl (Nat.le_of_ble_eq_true rfl) dX8_cell_2 (fun H locs hP hD hS => ?_)
    have hP : va_P D vwCl (wX8 cI h0 h1 h2 h3 h4 h5 (0) aSm aLn aAt aWe aRm aBm aHa aS aSv aCm aRd aBy) H := hP
    have hD : va_D A (wX8 cI h0 h1 h2 h3 h4 h5 (0) aSm aLn aAt aWe aRm aBm aHa aS aSv aCm aRd aBy) := hD
    refine lv_iload_n hx hb dX8_cell_5 rfl (lv_at hl 1 rfl) ?_
    refine lv_iconst (v := 0) hx hb dX8_cell_6 (by decide) ?_
    refine lv_aload_n hx hb dX8_cell_7 rfl (lv_at hl 0 rfl) ?_
    refine va_get (D := D) (ci := 8) (v := .ref h1) (C := RX8) (T := TX8) (N := 13) hx hb hg uX8 hown hK.1 hP 0 rfl rfl 1 (by decide) (hg _ gw_941) (fun _ h9 => h9) rfl dX8_cell_8 ?_
    refine lv_iconst (v := 3) hx hb dX8_cell_11 (by decide) ?_
    obtain ⟨v1, h⟩ := rd_some h
    refine va_iald hx hb hK.1 hP 1 0 rfl rfl v1 dX8_cell_12 ?_
    refine lv_iconst (v := 1) hx hb dX8_cell_13 (by decide) ?_
    refine lv_isub hx hb dX8_cell_14 ?_
    obtain ⟨r2, ec2, h⟩ := bd_some h
    refine cS_i (As := [.int p1, .int 0, .int ((aS (Int32.toNatClampNeg 3)) - 1)]) (rest := []) (wc := []) (wc' := []) hx hb hml hown hg hK hP hD hS hA hl.1 (k_X8_in l D cI cS cL Z p1 0 ((aS (Int32.toNatClampNeg 3)) - 1) ec2) gs_X8_in gw_991 ⟨rfl, rfl, by decide, by decide⟩ ⟨Nat.zero_le _, Nat.zero_le _⟩ [] rfl rfl rfl rfl rfl (Nat.le_of_ble_eq_true rfl) dX8_cell_15 (fun H locs hP hD hS => ?_)
    have hP : va_P D vwCl (wX8 cI h0 h1 h2 h3 h4 h5 (0) aSm aLn aAt aWe aRm aBm aHa aS aSv aCm aRd aBy) H := hP
    have hD : va_D A (wX8 cI h0 h1 h2 h3 h4 h5 (0) aSm aLn aAt aWe aRm aBm aHa aS aSv aCm aRd aBy) := hD
    refine lv_if_ne (tgt := 27) hx hb dX8_cell_18 (by decide) (fun q3 => ?_) (fun q3 => ?_)
    · replace h := if_some q3 h
      refine lv_aload_n hx hb dX8_cell_27 rfl (lv_at hl 0 rfl) ?_
      refine va_get (D := D) (ci := 8) (v := .ref h1) (C := RX8) (T := TX8) (N := 13) hx hb hg uX8 hown hK.1 hP 0 rfl rfl 1 (by decide) (hg _ gw_941) (fun _ h9 => h9) rfl dX8_cell_28 ?_
      refine lv_iconst (v := 3) hx hb dX8_cell_31 (by decide) ?_
      obtain ⟨v4, h⟩ := rd_some h
      refine va_iald hx hb hK.1 hP 1 0 rfl rfl v4 dX8_cell_32 ?_
      refine lv_aload_n hx hb dX8_cell_33 rfl (lv_at hl 0 rfl) ?_
      refine va_get (D := D) (ci := 8) (v := .ref h1) (C := RX8) (T := TX8) (N := 13) hx hb hg uX8 hown hK.1 hP 0 rfl rfl 1 (by decide) (hg _ gw_941) (fun _ h9 => h9) rfl dX8_cell_34 ?_
      refine lv_iconst (v := 0) hx hb dX8_cell_37 (by decide) ?_
      obtain ⟨v5, h⟩ := rd_some h
      refine va_iald hx hb hK.1 hP 1 0 rfl rfl v5 dX8_cell_38 ?_
      refine lv_isub hx hb dX8_cell_39 ?_
      obtain ⟨x2_6, ex2_6, h⟩ := kl_some h
      refine nm_i ex2_6 ?_
      refine lv_istore_n (lv' := [(2, .int x2_6), (0, .ref h0), (1, .int p1)]) hx hb dX8_cell_40 rfl hl (by decide) rfl (fun ls hl => ?_)
      refine lv_iload_n hx hb dX8_cell_41 rfl (lv_at hl 2 rfl) ?_
      refine lv_aload_n hx hb dX8_cell_42 rfl (lv_at hl 1 rfl) ?_
      refine va_get (D := D) (ci := 8) (v := .ref h1) (C := RX8) (T := TX8) (N := 13) hx hb hg uX8 hown hK.1 hP 0 rfl rfl 1 (by decide) (hg _ gw_941) (fun _ h9 => h9) rfl dX8_cell_43 ?_
      refine lv_iconst (v := 2) hx hb dX8_cell_46 (by decide) ?_
      obtain ⟨v7, h⟩ := rd_some h
      refine va_iald hx hb hK.1 hP 1 0 rfl rfl v7 dX8_cell_47 ?_
      refine lv_icmp_ge (tgt := 63) hx hb dX8_cell_48 (by decide) (fun q8 => ?_) (fun q8 => ?_)
      · replace h := it_some q8 h
        refine lv_iload_n hx hb dX8_cell_63 rfl (lv_at hl 2 rfl) ?_
        refine lv_aload_n hx hb dX8_cell_64 rfl (lv_at hl 1 rfl) ?_
        refine va_get (D := D) (ci := 8) (v := .ref h1) (C := RX8) (T := TX8) (N := 13) hx hb hg uX8 hown hK.1 hP 0 rfl rfl 1 (by decide) (hg _ gw_941) (fun _ h9 => h9) rfl dX8_cell_65 ?_
        refine lv_iconst (v := 2) hx hb dX8_cell_68 (by decide) ?_
        obtain ⟨v9, h⟩ := rd_some h
        refine va_iald hx hb hK.1 hP 1 0 rfl rfl v9 dX8_cell_69 ?_
        refine lv_iload_n hx hb dX8_cell_70 rfl (lv_at hl 0 rfl) ?_
        refine lv_iadd hx hb dX8_cell_71 ?_
        refine lv_icmp_ge (tgt := 79) hx hb dX8_cell_72 (by decide) (fun q10 => ?_) (fun q10 => ?_)
        · replace h := it_some q10 h
          refine lv_aload_n hx hb dX8_cell_79 rfl (lv_at hl 1 rfl) ?_
          refine va_get (D := D) (ci := 8) (v := .ref h1) (C := RX8) (T := TX8) (N := 13) hx hb hg uX8 hown hK.1 hP 0 rfl rfl 1 (by decide) (hg _ gw_941) (fun _ h9 => h9) rfl dX8_cell_80 ?_
          refine lv_bipush (v := 80) hx hb dX8_cell_83 (by decide) ?_
          refine lv_iload_n hx hb dX8_cell_85 rfl (lv_at hl 2 rfl) ?_
          refine lv_iadd hx hb dX8_cell_86 ?_
          refine lv_iload_n hx hb dX8_cell_87 rfl (lv_at hl 0 rfl) ?_
          refine lv_isub hx hb dX8_cell_88 ?_
          obtain ⟨v11, h⟩ := rd_some h
          refine va_iald hx hb hK.1 hP 1 0 rfl rfl v11 dX8_cell_89 ?_
          cases h
          exact ret_i hx hb hr hlocks hP hD hS dX8_cell_90 rfl
        · replace h := if_some q10 h
          refine lv_iconst (v := (-1)) hx hb dX8_cell_75 (by decide) ?_
          refine lv_goto (tgt := 90) hx hb dX8_cell_76 (by decide) ?_
          cases h
          exact ret_i hx hb hr hlocks hP hD hS dX8_cell_90 rfl
      · replace h := if_some q8 h
        refine lv_aload_n hx hb dX8_cell_51 rfl (lv_at hl 1 rfl) ?_
        refine va_get (D := D) (ci := 8) (v := .ref h1) (C := RX8) (T := TX8) (N := 13) hx hb hg uX8 hown hK.1 hP 0 rfl rfl 1 (by decide) (hg _ gw_941) (fun _ h9 => h9) rfl dX8_cell_52 ?_
        refine lv_bipush (v := 80) hx hb dX8_cell_55 (by decide) ?_
        refine lv_iload_n hx hb dX8_cell_57 rfl (lv_at hl 2 rfl) ?_
        refine lv_iadd hx hb dX8_cell_58 ?_
        obtain ⟨v12, h⟩ := rd_some h
        refine va_iald hx hb hK.1 hP 1 0 rfl rfl v12 dX8_cell_59 ?_
        refine lv_goto (tgt := 90) hx hb dX8_cell_60 (by decide) ?_
        cases h
        exact ret_i hx hb hr hlocks hP hD hS dX8_cell_90 rfl
    · replace h := it_some q3 h
      refine lv_aload_n hx hb dX8_cell_21 rfl (lv_at hl 0 rfl) ?_
      refine lv_iconst (v := 1) hx hb dX8_cell_22 (by decide) ?_
      obtain ⟨⟨r13, aTh_13⟩, ec13, h⟩ := bd_some h
      refine cV_i (As := [.int 1]) (rest := []) (wc := (wX8 cI h0 h1 h2 h3 h4 h5 (0) aSm aLn aAt aWe aRm aBm aHa aS aSv aCm aRd aBy)) (wc' := (wX8 cI h0 h1 h2 h3 h4 h5 aTh_13 aSm aLn aAt aWe aRm aBm aHa aS aSv aCm aRd aBy)) hx hb hml hown hg hK hP hD hS hA hl.1 (k_X8_fails l D cI cS cL Z h0 h1 h2 h3 h4 h5 1 (0) aSm aLn aAt aWe aRm aBm aHa aS aSv aCm aRd aBy ec13) gm_X8_fails gw_994 ⟨rfl, rfl, by decide, by decide⟩ ⟨Nat.zero_le _, Nat.zero_le _⟩ [0, 1, 2, 3, 4, 5] rfl rfl rfl rfl rfl rfl rfl rfl (Nat.le_of_ble_eq_true rfl) dX8_cell_23 (fun H locs hP hD hS => ?_)
      have hP : va_P D vwCl (wX8 cI h0 h1 h2 h3 h4 h5 aTh_13 aSm aLn aAt aWe aRm aBm aHa aS aSv aCm aRd aBy) H := hP
      have hD : va_D A (wX8 cI h0 h1 h2 h3 h4 h5 aTh_13 aSm aLn aAt aWe aRm aBm aHa aS aSv aCm aRd aBy) := hD
      cases h
      exact ret_i hx hb hr hlocks hP hD hS dX8_cell_26 rfl
  exact hmain _ _ hP hS
abbrev rm_X8_carried : Room := { frames := 0, cells := 0, slots := 0, locals := 0 }
def f_X8_carried (Z : Nat) (aTh : Int32) (aS : Nat → Int32) : Option (Int32 × Int32) :=
  rd 4 344 (
  some (aS (Int32.toNatClampNeg 4), (0)))
set_option maxRecDepth 100000 in
set_option maxHeartbeats 4000000 in
theorem k_X8_carried (l : Launch) (D : va_G) (cI cS cL : ClassId) (Z : Nat) (h0 : Nat) (h1 : Nat) (h2 : Nat) (h3 : Nat) (h4 : Nat) (h5 : Nat) (aTh : Int32) (aSm : Int32) (aLn : Int32) (aAt : Int32) (aWe : Int32) (aRm : Int32) (aBm : Int32) (aHa : Int64) (aS : Nat → Int32) (aSv : Nat → Int32) (aCm : Nat → Int32) (aRd : Nat → Int32) (aBy : Nat → Int32) {r : Int32} {aTh' : Int32} (h : f_X8_carried Z aTh aS = some (r, aTh')) : CI l yX8_carried cX8_carried 1 (some .int) rm_X8_carried D cI cS cL [.ref h0] (wX8 cI h0 h1 h2 h3 h4 h5 aTh aSm aLn aAt aWe aRm aBm aHa aS aSv aCm aRd aBy) (wX8 cI h0 h1 h2 h3 h4 h5 (aTh') aSm aLn aAt aWe aRm aBm aHa aS aSv aCm aRd aBy) r := by
  refine ent_i (by decide +kernel) (Nat.le_of_ble_eq_true rfl) ?_
  intro p e s m args below meth c A ls hx hb hr hml hlocks hg hown hK hP hD hS hA hl
  have hown : s.vm.findClass RX8 = some m.cls := hown
  have hl : lv_has ls 1 [(0, .ref h0)] := hl
  have hP : va_P D vwCl (wX8 cI h0 h1 h2 h3 h4 h5 aTh aSm aLn aAt aWe aRm aBm aHa aS aSv aCm aRd aBy) s.heap := hP
  have hD : va_D A (wX8 cI h0 h1 h2 h3 h4 h5 aTh aSm aLn aAt aWe aRm aBm aHa aS aSv aCm aRd aBy) := hD
  show W p l e rm_X8_carried s m args below meth c s.heap [] 0 0 (FI D below args s (wX8 cI h0 h1 h2 h3 h4 h5 (aTh') aSm aLn aAt aWe aRm aBm aHa aS aSv aCm aRd aBy) r A) (F0 m 0 ls [])
  unfold f_X8_carried at h
  have hmain : ∀ (H : Heap) (locs : List Loc), va_P D vwCl (wX8 cI h0 h1 h2 h3 h4 h5 aTh aSm aLn aAt aWe aRm aBm aHa aS aSv aCm aRd aBy) H → va_S A s.heap H locs → W p l e rm_X8_carried s m args below meth c H locs 0 0 (FI D below args s (wX8 cI h0 h1 h2 h3 h4 h5 (aTh') aSm aLn aAt aWe aRm aBm aHa aS aSv aCm aRd aBy) r A) (F0 m 0 ls []) := by
    intro H locs hP hS
    refine lv_aload_n hx hb dX8_carried_0 rfl (lv_at hl 0 rfl) ?_
    refine lv_iconst (v := 0) hx hb dX8_carried_1 (by decide) ?_
    refine va_put (D := D) (ci := 8) (v := .int 0) (ty := tyX8 0) (C := RX8) (T := TX8) (N := 13) hx hb hg uX8 tyX8 tyX8_ok nmX8 hown hK.1 hP hD hS 0 rfl rfl 0 (by decide) (hg _ gw_940) (fun _ h9 => h9) rfl (tyX8_ok 0 (by decide)) rfl rfl (Nat.le_of_ble_eq_true rfl) dX8_carried_2 (fun H locs hP hD hS => ?_)
    have hP : va_P D vwCl (wX8 cI h0 h1 h2 h3 h4 h5 (0) aSm aLn aAt aWe aRm aBm aHa aS aSv aCm aRd aBy) H := hP
    have hD : va_D A (wX8 cI h0 h1 h2 h3 h4 h5 (0) aSm aLn aAt aWe aRm aBm aHa aS aSv aCm aRd aBy) := hD
    refine lv_aload_n hx hb dX8_carried_5 rfl (lv_at hl 0 rfl) ?_
    refine va_get (D := D) (ci := 8) (v := .ref h1) (C := RX8) (T := TX8) (N := 13) hx hb hg uX8 hown hK.1 hP 0 rfl rfl 1 (by decide) (hg _ gw_941) (fun _ h9 => h9) rfl dX8_carried_6 ?_
    refine lv_iconst (v := 4) hx hb dX8_carried_9 (by decide) ?_
    obtain ⟨v1, h⟩ := rd_some h
    refine va_iald hx hb hK.1 hP 1 0 rfl rfl v1 dX8_carried_10 ?_
    cases h
    exact ret_i hx hb hr hlocks hP hD hS dX8_carried_11 rfl
  exact hmain _ _ hP hS
abbrev rm_X8_copied : Room := { frames := 0, cells := 0, slots := 0, locals := 0 }
def f_X8_copied (Z : Nat) (aTh : Int32) (aS : Nat → Int32) : Option (Int32 × Int32) :=
  rd 5 344 (
  some (aS (Int32.toNatClampNeg 5), (0)))
set_option maxRecDepth 100000 in
set_option maxHeartbeats 4000000 in
theorem k_X8_copied (l : Launch) (D : va_G) (cI cS cL : ClassId) (Z : Nat) (h0 : Nat) (h1 : Nat) (h2 : Nat) (h3 : Nat) (h4 : Nat) (h5 : Nat) (aTh : Int32) (aSm : Int32) (aLn : Int32) (aAt : Int32) (aWe : Int32) (aRm : Int32) (aBm : Int32) (aHa : Int64) (aS : Nat → Int32) (aSv : Nat → Int32) (aCm : Nat → Int32) (aRd : Nat → Int32) (aBy : Nat → Int32) {r : Int32} {aTh' : Int32} (h : f_X8_copied Z aTh aS = some (r, aTh')) : CI l yX8_copied cX8_copied 1 (some .int) rm_X8_copied D cI cS cL [.ref h0] (wX8 cI h0 h1 h2 h3 h4 h5 aTh aSm aLn aAt aWe aRm aBm aHa aS aSv aCm aRd aBy) (wX8 cI h0 h1 h2 h3 h4 h5 (aTh') aSm aLn aAt aWe aRm aBm aHa aS aSv aCm aRd aBy) r := by
  refine ent_i (by decide +kernel) (Nat.le_of_ble_eq_true rfl) ?_
  intro p e s m args below meth c A ls hx hb hr hml hlocks hg hown hK hP hD hS hA hl
  have hown : s.vm.findClass RX8 = some m.cls := hown
  have hl : lv_has ls 1 [(0, .ref h0)] := hl
  have hP : va_P D vwCl (wX8 cI h0 h1 h2 h3 h4 h5 aTh aSm aLn aAt aWe aRm aBm aHa aS aSv aCm aRd aBy) s.heap := hP
  have hD : va_D A (wX8 cI h0 h1 h2 h3 h4 h5 aTh aSm aLn aAt aWe aRm aBm aHa aS aSv aCm aRd aBy) := hD
  show W p l e rm_X8_copied s m args below meth c s.heap [] 0 0 (FI D below args s (wX8 cI h0 h1 h2 h3 h4 h5 (aTh') aSm aLn aAt aWe aRm aBm aHa aS aSv aCm aRd aBy) r A) (F0 m 0 ls [])
  unfold f_X8_copied at h
  have hmain : ∀ (H : Heap) (locs : List Loc), va_P D vwCl (wX8 cI h0 h1 h2 h3 h4 h5 aTh aSm aLn aAt aWe aRm aBm aHa aS aSv aCm aRd aBy) H → va_S A s.heap H locs → W p l e rm_X8_copied s m args below meth c H locs 0 0 (FI D below args s (wX8 cI h0 h1 h2 h3 h4 h5 (aTh') aSm aLn aAt aWe aRm aBm aHa aS aSv aCm aRd aBy) r A) (F0 m 0 ls []) := by
    intro H locs hP hS
    refine lv_aload_n hx hb dX8_copied_0 rfl (lv_at hl 0 rfl) ?_
    refine lv_iconst (v := 0) hx hb dX8_copied_1 (by decide) ?_
    refine va_put (D := D) (ci := 8) (v := .int 0) (ty := tyX8 0) (C := RX8) (T := TX8) (N := 13) hx hb hg uX8 tyX8 tyX8_ok nmX8 hown hK.1 hP hD hS 0 rfl rfl 0 (by decide) (hg _ gw_940) (fun _ h9 => h9) rfl (tyX8_ok 0 (by decide)) rfl rfl (Nat.le_of_ble_eq_true rfl) dX8_copied_2 (fun H locs hP hD hS => ?_)
    have hP : va_P D vwCl (wX8 cI h0 h1 h2 h3 h4 h5 (0) aSm aLn aAt aWe aRm aBm aHa aS aSv aCm aRd aBy) H := hP
    have hD : va_D A (wX8 cI h0 h1 h2 h3 h4 h5 (0) aSm aLn aAt aWe aRm aBm aHa aS aSv aCm aRd aBy) := hD
    refine lv_aload_n hx hb dX8_copied_5 rfl (lv_at hl 0 rfl) ?_
    refine va_get (D := D) (ci := 8) (v := .ref h1) (C := RX8) (T := TX8) (N := 13) hx hb hg uX8 hown hK.1 hP 0 rfl rfl 1 (by decide) (hg _ gw_941) (fun _ h9 => h9) rfl dX8_copied_6 ?_
    refine lv_iconst (v := 5) hx hb dX8_copied_9 (by decide) ?_
    obtain ⟨v1, h⟩ := rd_some h
    refine va_iald hx hb hK.1 hP 1 0 rfl rfl v1 dX8_copied_10 ?_
    cases h
    exact ret_i hx hb hr hlocks hP hD hS dX8_copied_11 rfl
  exact hmain _ _ hP hS
abbrev rm_X8_growths : Room := { frames := 0, cells := 0, slots := 0, locals := 0 }
def f_X8_growths (Z : Nat) (aTh : Int32) (aS : Nat → Int32) : Option (Int32 × Int32) :=
  rd 6 344 (
  some (aS (Int32.toNatClampNeg 6), (0)))
set_option maxRecDepth 100000 in
set_option maxHeartbeats 4000000 in
theorem k_X8_growths (l : Launch) (D : va_G) (cI cS cL : ClassId) (Z : Nat) (h0 : Nat) (h1 : Nat) (h2 : Nat) (h3 : Nat) (h4 : Nat) (h5 : Nat) (aTh : Int32) (aSm : Int32) (aLn : Int32) (aAt : Int32) (aWe : Int32) (aRm : Int32) (aBm : Int32) (aHa : Int64) (aS : Nat → Int32) (aSv : Nat → Int32) (aCm : Nat → Int32) (aRd : Nat → Int32) (aBy : Nat → Int32) {r : Int32} {aTh' : Int32} (h : f_X8_growths Z aTh aS = some (r, aTh')) : CI l yX8_growths cX8_growths 1 (some .int) rm_X8_growths D cI cS cL [.ref h0] (wX8 cI h0 h1 h2 h3 h4 h5 aTh aSm aLn aAt aWe aRm aBm aHa aS aSv aCm aRd aBy) (wX8 cI h0 h1 h2 h3 h4 h5 (aTh') aSm aLn aAt aWe aRm aBm aHa aS aSv aCm aRd aBy) r := by
  refine ent_i (by decide +kernel) (Nat.le_of_ble_eq_true rfl) ?_
  intro p e s m args below meth c A ls hx hb hr hml hlocks hg hown hK hP hD hS hA hl
  have hown : s.vm.findClass RX8 = some m.cls := hown
  have hl : lv_has ls 1 [(0, .ref h0)] := hl
  have hP : va_P D vwCl (wX8 cI h0 h1 h2 h3 h4 h5 aTh aSm aLn aAt aWe aRm aBm aHa aS aSv aCm aRd aBy) s.heap := hP
  have hD : va_D A (wX8 cI h0 h1 h2 h3 h4 h5 aTh aSm aLn aAt aWe aRm aBm aHa aS aSv aCm aRd aBy) := hD
  show W p l e rm_X8_growths s m args below meth c s.heap [] 0 0 (FI D below args s (wX8 cI h0 h1 h2 h3 h4 h5 (aTh') aSm aLn aAt aWe aRm aBm aHa aS aSv aCm aRd aBy) r A) (F0 m 0 ls [])
  unfold f_X8_growths at h
  have hmain : ∀ (H : Heap) (locs : List Loc), va_P D vwCl (wX8 cI h0 h1 h2 h3 h4 h5 aTh aSm aLn aAt aWe aRm aBm aHa aS aSv aCm aRd aBy) H → va_S A s.heap H locs → W p l e rm_X8_growths s m args below meth c H locs 0 0 (FI D below args s (wX8 cI h0 h1 h2 h3 h4 h5 (aTh') aSm aLn aAt aWe aRm aBm aHa aS aSv aCm aRd aBy) r A) (F0 m 0 ls []) := by
    intro H locs hP hS
    refine lv_aload_n hx hb dX8_growths_0 rfl (lv_at hl 0 rfl) ?_
    refine lv_iconst (v := 0) hx hb dX8_growths_1 (by decide) ?_
    refine va_put (D := D) (ci := 8) (v := .int 0) (ty := tyX8 0) (C := RX8) (T := TX8) (N := 13) hx hb hg uX8 tyX8 tyX8_ok nmX8 hown hK.1 hP hD hS 0 rfl rfl 0 (by decide) (hg _ gw_940) (fun _ h9 => h9) rfl (tyX8_ok 0 (by decide)) rfl rfl (Nat.le_of_ble_eq_true rfl) dX8_growths_2 (fun H locs hP hD hS => ?_)
    have hP : va_P D vwCl (wX8 cI h0 h1 h2 h3 h4 h5 (0) aSm aLn aAt aWe aRm aBm aHa aS aSv aCm aRd aBy) H := hP
    have hD : va_D A (wX8 cI h0 h1 h2 h3 h4 h5 (0) aSm aLn aAt aWe aRm aBm aHa aS aSv aCm aRd aBy) := hD
    refine lv_aload_n hx hb dX8_growths_5 rfl (lv_at hl 0 rfl) ?_
    refine va_get (D := D) (ci := 8) (v := .ref h1) (C := RX8) (T := TX8) (N := 13) hx hb hg uX8 hown hK.1 hP 0 rfl rfl 1 (by decide) (hg _ gw_941) (fun _ h9 => h9) rfl dX8_growths_6 ?_
    refine lv_bipush (v := 6) hx hb dX8_growths_9 (by decide) ?_
    obtain ⟨v1, h⟩ := rd_some h
    refine va_iald hx hb hK.1 hP 1 0 rfl rfl v1 dX8_growths_11 ?_
    cases h
    exact ret_i hx hb hr hlocks hP hD hS dX8_growths_12 rfl
  exact hmain _ _ hP hS
abbrev rm_X8_shrinks : Room := { frames := 0, cells := 0, slots := 0, locals := 0 }
def f_X8_shrinks (Z : Nat) (aTh : Int32) (aS : Nat → Int32) : Option (Int32 × Int32) :=
  rd 7 344 (
  some (aS (Int32.toNatClampNeg 7), (0)))
set_option maxRecDepth 100000 in
set_option maxHeartbeats 4000000 in
theorem k_X8_shrinks (l : Launch) (D : va_G) (cI cS cL : ClassId) (Z : Nat) (h0 : Nat) (h1 : Nat) (h2 : Nat) (h3 : Nat) (h4 : Nat) (h5 : Nat) (aTh : Int32) (aSm : Int32) (aLn : Int32) (aAt : Int32) (aWe : Int32) (aRm : Int32) (aBm : Int32) (aHa : Int64) (aS : Nat → Int32) (aSv : Nat → Int32) (aCm : Nat → Int32) (aRd : Nat → Int32) (aBy : Nat → Int32) {r : Int32} {aTh' : Int32} (h : f_X8_shrinks Z aTh aS = some (r, aTh')) : CI l yX8_shrinks cX8_shrinks 1 (some .int) rm_X8_shrinks D cI cS cL [.ref h0] (wX8 cI h0 h1 h2 h3 h4 h5 aTh aSm aLn aAt aWe aRm aBm aHa aS aSv aCm aRd aBy) (wX8 cI h0 h1 h2 h3 h4 h5 (aTh') aSm aLn aAt aWe aRm aBm aHa aS aSv aCm aRd aBy) r := by
  refine ent_i (by decide +kernel) (Nat.le_of_ble_eq_true rfl) ?_
  intro p e s m args below meth c A ls hx hb hr hml hlocks hg hown hK hP hD hS hA hl
  have hown : s.vm.findClass RX8 = some m.cls := hown
  have hl : lv_has ls 1 [(0, .ref h0)] := hl
  have hP : va_P D vwCl (wX8 cI h0 h1 h2 h3 h4 h5 aTh aSm aLn aAt aWe aRm aBm aHa aS aSv aCm aRd aBy) s.heap := hP
  have hD : va_D A (wX8 cI h0 h1 h2 h3 h4 h5 aTh aSm aLn aAt aWe aRm aBm aHa aS aSv aCm aRd aBy) := hD
  show W p l e rm_X8_shrinks s m args below meth c s.heap [] 0 0 (FI D below args s (wX8 cI h0 h1 h2 h3 h4 h5 (aTh') aSm aLn aAt aWe aRm aBm aHa aS aSv aCm aRd aBy) r A) (F0 m 0 ls [])
  unfold f_X8_shrinks at h
  have hmain : ∀ (H : Heap) (locs : List Loc), va_P D vwCl (wX8 cI h0 h1 h2 h3 h4 h5 aTh aSm aLn aAt aWe aRm aBm aHa aS aSv aCm aRd aBy) H → va_S A s.heap H locs → W p l e rm_X8_shrinks s m args below meth c H locs 0 0 (FI D below args s (wX8 cI h0 h1 h2 h3 h4 h5 (aTh') aSm aLn aAt aWe aRm aBm aHa aS aSv aCm aRd aBy) r A) (F0 m 0 ls []) := by
    intro H locs hP hS
    refine lv_aload_n hx hb dX8_shrinks_0 rfl (lv_at hl 0 rfl) ?_
    refine lv_iconst (v := 0) hx hb dX8_shrinks_1 (by decide) ?_
    refine va_put (D := D) (ci := 8) (v := .int 0) (ty := tyX8 0) (C := RX8) (T := TX8) (N := 13) hx hb hg uX8 tyX8 tyX8_ok nmX8 hown hK.1 hP hD hS 0 rfl rfl 0 (by decide) (hg _ gw_940) (fun _ h9 => h9) rfl (tyX8_ok 0 (by decide)) rfl rfl (Nat.le_of_ble_eq_true rfl) dX8_shrinks_2 (fun H locs hP hD hS => ?_)
    have hP : va_P D vwCl (wX8 cI h0 h1 h2 h3 h4 h5 (0) aSm aLn aAt aWe aRm aBm aHa aS aSv aCm aRd aBy) H := hP
    have hD : va_D A (wX8 cI h0 h1 h2 h3 h4 h5 (0) aSm aLn aAt aWe aRm aBm aHa aS aSv aCm aRd aBy) := hD
    refine lv_aload_n hx hb dX8_shrinks_5 rfl (lv_at hl 0 rfl) ?_
    refine va_get (D := D) (ci := 8) (v := .ref h1) (C := RX8) (T := TX8) (N := 13) hx hb hg uX8 hown hK.1 hP 0 rfl rfl 1 (by decide) (hg _ gw_941) (fun _ h9 => h9) rfl dX8_shrinks_6 ?_
    refine lv_bipush (v := 7) hx hb dX8_shrinks_9 (by decide) ?_
    obtain ⟨v1, h⟩ := rd_some h
    refine va_iald hx hb hK.1 hP 1 0 rfl rfl v1 dX8_shrinks_11 ?_
    cases h
    exact ret_i hx hb hr hlocks hP hD hS dX8_shrinks_12 rfl
  exact hmain _ _ hP hS
abbrev rm_X8_growing : Room := { frames := 0, cells := 0, slots := 0, locals := 0 }
def f_X8_growing_b5 (Z : Nat) (p0 : Int32) (p1 : Int32) (p2 : Int32) (rec : Int32 → Int32 → Option (Int32)) (x3 : Int32) (x4 : Int32) : Option (Int32) :=
      if p2 ≤ (x4 - p1) then
        some x3
      else
        kl (x3 + p1) fun x3_2 =>
        kl (x4 * 2) fun x4_3 =>
        rec x3_2 x4_3
def f_X8_growing_l5 (Z : Nat) (p0 : Int32) (p1 : Int32) (p2 : Int32) : Nat → Int32 → Int32 → Option (Int32)
  | 0, _, _ => none
  | n + 1, x3, x4 => f_X8_growing_b5 Z p0 p1 p2 (f_X8_growing_l5 Z p0 p1 p2 n) x3 x4
def f_X8_growing (Z : Nat) (p0 : Int32) (p1 : Int32) (p2 : Int32) : Option (Int32) :=
  f_X8_growing_l5 Z p0 p1 p2 Z 0 p0
set_option maxRecDepth 100000 in
set_option maxHeartbeats 4000000 in
theorem k_X8_growing (l : Launch) (D : va_G) (cI cS cL : ClassId) (Z : Nat) (p0 : Int32) (p1 : Int32) (p2 : Int32) {r : Int32} (h : f_X8_growing Z p0 p1 p2 = some r) : CI l yX8_growing cX8_growing 5 (some .int) rm_X8_growing D cI cS cL [.int p0, .int p1, .int p2] [] [] r := by
  refine ent_i (by decide +kernel) (Nat.le_of_ble_eq_true rfl) ?_
  intro p e s m args below meth c A ls hx hb hr hml hlocks hg hown hK hP hD hS hA hl
  have hown : s.vm.findClass RX8 = some m.cls := hown
  have c_5 : ∀ (n : Nat) (x3 : Int32) (x4 : Int32), f_X8_growing_l5 Z p0 p1 p2 n x3 x4 = some r → ∀ (H : Heap) (locs : List Loc), va_P D vwCl [] H → va_D A [] → va_S A s.heap H locs → ∀ ls : Array Slot, lv_has ls 5 [(1, .int p1), (2, .int p2), (3, .int x3), (4, .int x4)] → W p l e rm_X8_growing s m args below meth c H locs 0 0 (FI D below args s [] r A) (F0 m 5 ls []) := by
    intro n
    induction n with
    | zero => intro x3 x4 h; exact no_some h
    | succ n ih =>
      intro x3 x4 h H locs hP hD hS ls hl
      have h : f_X8_growing_b5 Z p0 p1 p2 (f_X8_growing_l5 Z p0 p1 p2 n) x3 x4 = some r := h
      unfold f_X8_growing_b5 at h
      refine lv_iload hx hb dX8_growing_5 (lv_at hl 3 rfl) ?_
      refine lv_iload_n hx hb dX8_growing_7 rfl (lv_at hl 0 rfl) ?_
      refine lv_isub hx hb dX8_growing_8 ?_
      refine lv_iload_n hx hb dX8_growing_9 rfl (lv_at hl 1 rfl) ?_
      refine lv_icmp_ge (tgt := 26) hx hb dX8_growing_10 (by decide) (fun q1 => ?_) (fun q1 => ?_)
      · replace h := it_some q1 h
        refine lv_iload_n hx hb dX8_growing_26 rfl (lv_at hl 2 rfl) ?_
        cases h
        exact ret_i hx hb hr hlocks hP hD hS dX8_growing_27 rfl
      · replace h := if_some q1 h
        refine lv_iload_n hx hb dX8_growing_13 rfl (lv_at hl 2 rfl) ?_
        refine lv_iload_n hx hb dX8_growing_14 rfl (lv_at hl 0 rfl) ?_
        refine lv_iadd hx hb dX8_growing_15 ?_
        obtain ⟨x3_2, ex3_2, h⟩ := kl_some h
        refine nm_i ex3_2 ?_
        refine lv_istore_n (lv' := [(3, .int x3_2), (1, .int p1), (2, .int p2), (4, .int x4)]) hx hb dX8_growing_16 rfl hl (by decide) rfl (fun ls hl => ?_)
        refine lv_iload hx hb dX8_growing_17 (lv_at hl 3 rfl) ?_
        refine lv_iconst (v := 2) hx hb dX8_growing_19 (by decide) ?_
        refine lv_imul hx hb dX8_growing_20 ?_
        obtain ⟨x4_3, ex4_3, h⟩ := kl_some h
        refine nm_i ex4_3 ?_
        refine lv_istore (lv' := [(4, .int x4_3), (3, .int x3_2), (1, .int p1), (2, .int p2)]) hx hb dX8_growing_21 hl (by decide) rfl (fun ls hl => ?_)
        refine lv_goto (tgt := 5) hx hb dX8_growing_23 (by decide) ?_
        exact ih x3_2 x4_3 h H locs hP hD hS ls (lv_sub hl [2, 3, 1, 0] rfl)
  have hl : lv_has ls 5 [(0, .int p0), (1, .int p1), (2, .int p2)] := hl
  have hP : va_P D vwCl [] s.heap := hP
  have hD : va_D A [] := hD
  show W p l e rm_X8_growing s m args below meth c s.heap [] 0 0 (FI D below args s [] r A) (F0 m 0 ls [])
  unfold f_X8_growing at h
  have hmain : ∀ (H : Heap) (locs : List Loc), va_P D vwCl [] H → va_S A s.heap H locs → W p l e rm_X8_growing s m args below meth c H locs 0 0 (FI D below args s [] r A) (F0 m 0 ls []) := by
    intro H locs hP hS
    refine lv_iconst (v := 0) hx hb dX8_growing_0 (by decide) ?_
    refine lv_istore_n (lv' := [(3, .int 0), (0, .int p0), (1, .int p1), (2, .int p2)]) hx hb dX8_growing_1 rfl hl (by decide) rfl (fun ls hl => ?_)
    refine lv_iload_n hx hb dX8_growing_2 rfl (lv_at hl 1 rfl) ?_
    refine lv_istore (lv' := [(4, .int p0), (3, .int 0), (0, .int p0), (1, .int p1), (2, .int p2)]) hx hb dX8_growing_3 hl (by decide) rfl (fun ls hl => ?_)
    exact c_5 Z 0 p0 h H locs hP hD hS ls (lv_sub hl [3, 4, 1, 0] rfl)
  exact hmain _ _ hP hS
abbrev rm_X8_costOf : Room := { frames := 2, cells := 0, slots := 0, locals := 43 }
def f_X8_costOf (Z : Nat) (p1 : Int32) (p2 : Int32) (aTh : Int32) (aS : Nat → Int32) : Option (Int32 × Int32) :=
  (f_X8_isPosition Z p1 aS).bind fun r1 =>
  if r1 = 0 then
    (f_X8_fails Z 1 (0)).bind fun (r13, aTh_13) =>
    some (r13, aTh_13)
  else
    (f_X8_in Z p2 1 100).bind fun r3 =>
    if r3 = 0 then
      (f_X8_fails Z 2 (0)).bind fun (r12, aTh_12) =>
      some (r12, aTh_12)
    else
      (f_X8_hasRoom Z p2 aS).bind fun r5 =>
      if r5 = 0 then
        some ((-1), (0))
      else
        rd 2 344 (
        (f_X8_size Z ((aS (Int32.toNatClampNeg 2)) - p1)).bind fun r8 =>
        rd 3 344 (
        rd 0 344 (
        (f_X8_growing Z (aS (Int32.toNatClampNeg 3)) (aS (Int32.toNatClampNeg 0)) p2).bind fun r11 =>
        some (r8 + r11, (0)))))
set_option maxRecDepth 100000 in
set_option maxHeartbeats 4000000 in
theorem k_X8_costOf (l : Launch) (D : va_G) (cI cS cL : ClassId) (Z : Nat) (h0 : Nat) (h1 : Nat) (h2 : Nat) (h3 : Nat) (h4 : Nat) (h5 : Nat) (p1 : Int32) (p2 : Int32) (aTh : Int32) (aSm : Int32) (aLn : Int32) (aAt : Int32) (aWe : Int32) (aRm : Int32) (aBm : Int32) (aHa : Int64) (aS : Nat → Int32) (aSv : Nat → Int32) (aCm : Nat → Int32) (aRd : Nat → Int32) (aBy : Nat → Int32) {r : Int32} {aTh' : Int32} (h : f_X8_costOf Z p1 p2 aTh aS = some (r, aTh')) : CI l yX8_costOf cX8_costOf 3 (some .int) rm_X8_costOf D cI cS cL [.ref h0, .int p1, .int p2] (wX8 cI h0 h1 h2 h3 h4 h5 aTh aSm aLn aAt aWe aRm aBm aHa aS aSv aCm aRd aBy) (wX8 cI h0 h1 h2 h3 h4 h5 (aTh') aSm aLn aAt aWe aRm aBm aHa aS aSv aCm aRd aBy) r := by
  refine ent_i (by decide +kernel) (Nat.le_of_ble_eq_true rfl) ?_
  intro p e s m args below meth c A ls hx hb hr hml hlocks hg hown hK hP hD hS hA hl
  have hown : s.vm.findClass RX8 = some m.cls := hown
  have hl : lv_has ls 3 [(0, .ref h0), (1, .int p1), (2, .int p2)] := hl
  have hP : va_P D vwCl (wX8 cI h0 h1 h2 h3 h4 h5 aTh aSm aLn aAt aWe aRm aBm aHa aS aSv aCm aRd aBy) s.heap := hP
  have hD : va_D A (wX8 cI h0 h1 h2 h3 h4 h5 aTh aSm aLn aAt aWe aRm aBm aHa aS aSv aCm aRd aBy) := hD
  show W p l e rm_X8_costOf s m args below meth c s.heap [] 0 0 (FI D below args s (wX8 cI h0 h1 h2 h3 h4 h5 (aTh') aSm aLn aAt aWe aRm aBm aHa aS aSv aCm aRd aBy) r A) (F0 m 0 ls [])
  unfold f_X8_costOf at h
  have hmain : ∀ (H : Heap) (locs : List Loc), va_P D vwCl (wX8 cI h0 h1 h2 h3 h4 h5 aTh aSm aLn aAt aWe aRm aBm aHa aS aSv aCm aRd aBy) H → va_S A s.heap H locs → W p l e rm_X8_costOf s m args below meth c H locs 0 0 (FI D below args s (wX8 cI h0 h1 h2 h3 h4 h5 (aTh') aSm aLn aAt aWe aRm aBm aHa aS aSv aCm aRd aBy) r A) (F0 m 0 ls []) := by
    intro H locs hP hS
    refine lv_aload_n hx hb dX8_costOf_0 rfl (lv_at hl 0 rfl) ?_
    refine lv_iconst (v := 0) hx hb dX8_costOf_1 (by decide) ?_
    refine va_put (D := D) (ci := 8) (v := .int 0) (ty := tyX8 0) (C := RX8) (T := TX8) (N := 13) hx hb hg uX8 tyX8 tyX8_ok nmX8 hown hK.1 hP hD hS 0 rfl rfl 0 (by decide) (hg _ gw_940) (fun _ h9 => h9) rfl (tyX8_ok 0 (by decide)) rfl rfl (Nat.le_of_ble_eq_true rfl) dX8_costOf_2 (fun H locs hP hD hS => ?_)
    have hP : va_P D vwCl (wX8 cI h0 h1 h2 h3 h4 h5 (0) aSm aLn aAt aWe aRm aBm aHa aS aSv aCm aRd aBy) H := hP
    have hD : va_D A (wX8 cI h0 h1 h2 h3 h4 h5 (0) aSm aLn aAt aWe aRm aBm aHa aS aSv aCm aRd aBy) := hD
    refine lv_aload_n hx hb dX8_costOf_5 rfl (lv_at hl 0 rfl) ?_
    refine lv_iload_n hx hb dX8_costOf_6 rfl (lv_at hl 1 rfl) ?_
    obtain ⟨r1, ec1, h⟩ := bd_some h
    refine cV_i (As := [.int p1]) (rest := []) (wc := (wX8 cI h0 h1 h2 h3 h4 h5 (0) aSm aLn aAt aWe aRm aBm aHa aS aSv aCm aRd aBy)) (wc' := (wX8 cI h0 h1 h2 h3 h4 h5 (0) aSm aLn aAt aWe aRm aBm aHa aS aSv aCm aRd aBy)) hx hb hml hown hg hK hP hD hS hA hl.1 (k_X8_isPosition l D cI cS cL Z h0 h1 h2 h3 h4 h5 p1 (0) aSm aLn aAt aWe aRm aBm aHa aS aSv aCm aRd aBy ec1) gm_X8_isPosition gw_1065 ⟨rfl, rfl, by decide, by decide⟩ ⟨Nat.zero_le _, Nat.zero_le _⟩ [0, 1, 2, 3, 4, 5] rfl rfl rfl rfl rfl rfl rfl rfl (Nat.le_of_ble_eq_true rfl) dX8_costOf_7 (fun H locs hP hD hS => ?_)
    have hP : va_P D vwCl (wX8 cI h0 h1 h2 h3 h4 h5 (0) aSm aLn aAt aWe aRm aBm aHa aS aSv aCm aRd aBy) H := hP
    have hD : va_D A (wX8 cI h0 h1 h2 h3 h4 h5 (0) aSm aLn aAt aWe aRm aBm aHa aS aSv aCm aRd aBy) := hD
    refine lv_if_ne (tgt := 19) hx hb dX8_costOf_10 (by decide) (fun q2 => ?_) (fun q2 => ?_)
    · replace h := if_some q2 h
      refine lv_iload_n hx hb dX8_costOf_19 rfl (lv_at hl 2 rfl) ?_
      refine lv_iconst (v := 1) hx hb dX8_costOf_20 (by decide) ?_
      refine lv_bipush (v := 100) hx hb dX8_costOf_21 (by decide) ?_
      obtain ⟨r3, ec3, h⟩ := bd_some h
      refine cS_i (As := [.int p2, .int 1, .int 100]) (rest := []) (wc := []) (wc' := []) hx hb hml hown hg hK hP hD hS hA hl.1 (k_X8_in l D cI cS cL Z p2 1 100 ec3) gs_X8_in gw_991 ⟨rfl, rfl, by decide, by decide⟩ ⟨Nat.zero_le _, Nat.zero_le _⟩ [] rfl rfl rfl rfl rfl (Nat.le_of_ble_eq_true rfl) dX8_costOf_23 (fun H locs hP hD hS => ?_)
      have hP : va_P D vwCl (wX8 cI h0 h1 h2 h3 h4 h5 (0) aSm aLn aAt aWe aRm aBm aHa aS aSv aCm aRd aBy) H := hP
      have hD : va_D A (wX8 cI h0 h1 h2 h3 h4 h5 (0) aSm aLn aAt aWe aRm aBm aHa aS aSv aCm aRd aBy) := hD
      refine lv_if_ne (tgt := 35) hx hb dX8_costOf_26 (by decide) (fun q4 => ?_) (fun q4 => ?_)
      · replace h := if_some q4 h
        refine lv_aload_n hx hb dX8_costOf_35 rfl (lv_at hl 0 rfl) ?_
        refine lv_iload_n hx hb dX8_costOf_36 rfl (lv_at hl 2 rfl) ?_
        obtain ⟨r5, ec5, h⟩ := bd_some h
        refine cV_i (As := [.int p2]) (rest := []) (wc := (wX8 cI h0 h1 h2 h3 h4 h5 (0) aSm aLn aAt aWe aRm aBm aHa aS aSv aCm aRd aBy)) (wc' := (wX8 cI h0 h1 h2 h3 h4 h5 (0) aSm aLn aAt aWe aRm aBm aHa aS aSv aCm aRd aBy)) hx hb hml hown hg hK hP hD hS hA hl.1 (k_X8_hasRoom l D cI cS cL Z h0 h1 h2 h3 h4 h5 p2 (0) aSm aLn aAt aWe aRm aBm aHa aS aSv aCm aRd aBy ec5) gm_X8_hasRoom gw_998 ⟨rfl, rfl, by decide, by decide⟩ ⟨Nat.zero_le _, Nat.zero_le _⟩ [0, 1, 2, 3, 4, 5] rfl rfl rfl rfl rfl rfl rfl rfl (Nat.le_of_ble_eq_true rfl) dX8_costOf_37 (fun H locs hP hD hS => ?_)
        have hP : va_P D vwCl (wX8 cI h0 h1 h2 h3 h4 h5 (0) aSm aLn aAt aWe aRm aBm aHa aS aSv aCm aRd aBy) H := hP
        have hD : va_D A (wX8 cI h0 h1 h2 h3 h4 h5 (0) aSm aLn aAt aWe aRm aBm aHa aS aSv aCm aRd aBy) := hD
        refine lv_if_eq (tgt := 74) hx hb dX8_costOf_40 (by decide) (fun q6 => ?_) (fun q6 => ?_)
        · replace h := it_some q6 h
          refine lv_iconst (v := (-1)) hx hb dX8_costOf_74 (by decide) ?_
          cases h
          exact ret_i hx hb hr hlocks hP hD hS dX8_costOf_75 rfl
        · replace h := if_some q6 h
          refine lv_aload_n hx hb dX8_costOf_43 rfl (lv_at hl 0 rfl) ?_
          refine va_get (D := D) (ci := 8) (v := .ref h1) (C := RX8) (T := TX8) (N := 13) hx hb hg uX8 hown hK.1 hP 0 rfl rfl 1 (by decide) (hg _ gw_941) (fun _ h9 => h9) rfl dX8_costOf_44 ?_
          refine lv_iconst (v := 2) hx hb dX8_costOf_47 (by decide) ?_
          obtain ⟨v7, h⟩ := rd_some h
          refine va_iald hx hb hK.1 hP 1 0 rfl rfl v7 dX8_costOf_48 ?_
          refine lv_iload_n hx hb dX8_costOf_49 rfl (lv_at hl 1 rfl) ?_
          refine lv_isub hx hb dX8_costOf_50 ?_
          obtain ⟨r8, ec8, h⟩ := bd_some h
          refine cS_i (As := [.int ((aS (Int32.toNatClampNeg 2)) - p1)]) (rest := []) (wc := []) (wc' := []) hx hb hml hown hg hK hP hD hS hA hl.1 (k_X8_size l D cI cS cL Z ((aS (Int32.toNatClampNeg 2)) - p1) ec8) gs_X8_size gw_1018 ⟨rfl, rfl, by decide, by decide⟩ ⟨Nat.zero_le _, Nat.zero_le _⟩ [] rfl rfl rfl rfl rfl (Nat.le_of_ble_eq_true rfl) dX8_costOf_51 (fun H locs hP hD hS => ?_)
          have hP : va_P D vwCl (wX8 cI h0 h1 h2 h3 h4 h5 (0) aSm aLn aAt aWe aRm aBm aHa aS aSv aCm aRd aBy) H := hP
          have hD : va_D A (wX8 cI h0 h1 h2 h3 h4 h5 (0) aSm aLn aAt aWe aRm aBm aHa aS aSv aCm aRd aBy) := hD
          refine lv_aload_n hx hb dX8_costOf_54 rfl (lv_at hl 0 rfl) ?_
          refine va_get (D := D) (ci := 8) (v := .ref h1) (C := RX8) (T := TX8) (N := 13) hx hb hg uX8 hown hK.1 hP 0 rfl rfl 1 (by decide) (hg _ gw_941) (fun _ h9 => h9) rfl dX8_costOf_55 ?_
          refine lv_iconst (v := 3) hx hb dX8_costOf_58 (by decide) ?_
          obtain ⟨v9, h⟩ := rd_some h
          refine va_iald hx hb hK.1 hP 1 0 rfl rfl v9 dX8_costOf_59 ?_
          refine lv_aload_n hx hb dX8_costOf_60 rfl (lv_at hl 0 rfl) ?_
          refine va_get (D := D) (ci := 8) (v := .ref h1) (C := RX8) (T := TX8) (N := 13) hx hb hg uX8 hown hK.1 hP 0 rfl rfl 1 (by decide) (hg _ gw_941) (fun _ h9 => h9) rfl dX8_costOf_61 ?_
          refine lv_iconst (v := 0) hx hb dX8_costOf_64 (by decide) ?_
          obtain ⟨v10, h⟩ := rd_some h
          refine va_iald hx hb hK.1 hP 1 0 rfl rfl v10 dX8_costOf_65 ?_
          refine lv_iload_n hx hb dX8_costOf_66 rfl (lv_at hl 2 rfl) ?_
          obtain ⟨r11, ec11, h⟩ := bd_some h
          refine cS_i (As := [.int (aS (Int32.toNatClampNeg 3)), .int (aS (Int32.toNatClampNeg 0)), .int p2]) (rest := [.int r8]) (wc := []) (wc' := []) hx hb hml hown hg hK hP hD hS hA hl.1 (k_X8_growing l D cI cS cL Z (aS (Int32.toNatClampNeg 3)) (aS (Int32.toNatClampNeg 0)) p2 ec11) gs_X8_growing gw_1236 ⟨rfl, rfl, by decide, by decide⟩ ⟨Nat.zero_le _, Nat.zero_le _⟩ [] rfl rfl rfl rfl rfl (Nat.le_of_ble_eq_true rfl) dX8_costOf_67 (fun H locs hP hD hS => ?_)
          have hP : va_P D vwCl (wX8 cI h0 h1 h2 h3 h4 h5 (0) aSm aLn aAt aWe aRm aBm aHa aS aSv aCm aRd aBy) H := hP
          have hD : va_D A (wX8 cI h0 h1 h2 h3 h4 h5 (0) aSm aLn aAt aWe aRm aBm aHa aS aSv aCm aRd aBy) := hD
          refine lv_iadd hx hb dX8_costOf_70 ?_
          refine lv_goto (tgt := 75) hx hb dX8_costOf_71 (by decide) ?_
          cases h
          exact ret_i hx hb hr hlocks hP hD hS dX8_costOf_75 rfl
      · replace h := it_some q4 h
        refine lv_aload_n hx hb dX8_costOf_29 rfl (lv_at hl 0 rfl) ?_
        refine lv_iconst (v := 2) hx hb dX8_costOf_30 (by decide) ?_
        obtain ⟨⟨r12, aTh_12⟩, ec12, h⟩ := bd_some h
        refine cV_i (As := [.int 2]) (rest := []) (wc := (wX8 cI h0 h1 h2 h3 h4 h5 (0) aSm aLn aAt aWe aRm aBm aHa aS aSv aCm aRd aBy)) (wc' := (wX8 cI h0 h1 h2 h3 h4 h5 aTh_12 aSm aLn aAt aWe aRm aBm aHa aS aSv aCm aRd aBy)) hx hb hml hown hg hK hP hD hS hA hl.1 (k_X8_fails l D cI cS cL Z h0 h1 h2 h3 h4 h5 2 (0) aSm aLn aAt aWe aRm aBm aHa aS aSv aCm aRd aBy ec12) gm_X8_fails gw_994 ⟨rfl, rfl, by decide, by decide⟩ ⟨Nat.zero_le _, Nat.zero_le _⟩ [0, 1, 2, 3, 4, 5] rfl rfl rfl rfl rfl rfl rfl rfl (Nat.le_of_ble_eq_true rfl) dX8_costOf_31 (fun H locs hP hD hS => ?_)
        have hP : va_P D vwCl (wX8 cI h0 h1 h2 h3 h4 h5 aTh_12 aSm aLn aAt aWe aRm aBm aHa aS aSv aCm aRd aBy) H := hP
        have hD : va_D A (wX8 cI h0 h1 h2 h3 h4 h5 aTh_12 aSm aLn aAt aWe aRm aBm aHa aS aSv aCm aRd aBy) := hD
        cases h
        exact ret_i hx hb hr hlocks hP hD hS dX8_costOf_34 rfl
    · replace h := it_some q2 h
      refine lv_aload_n hx hb dX8_costOf_13 rfl (lv_at hl 0 rfl) ?_
      refine lv_iconst (v := 1) hx hb dX8_costOf_14 (by decide) ?_
      obtain ⟨⟨r13, aTh_13⟩, ec13, h⟩ := bd_some h
      refine cV_i (As := [.int 1]) (rest := []) (wc := (wX8 cI h0 h1 h2 h3 h4 h5 (0) aSm aLn aAt aWe aRm aBm aHa aS aSv aCm aRd aBy)) (wc' := (wX8 cI h0 h1 h2 h3 h4 h5 aTh_13 aSm aLn aAt aWe aRm aBm aHa aS aSv aCm aRd aBy)) hx hb hml hown hg hK hP hD hS hA hl.1 (k_X8_fails l D cI cS cL Z h0 h1 h2 h3 h4 h5 1 (0) aSm aLn aAt aWe aRm aBm aHa aS aSv aCm aRd aBy ec13) gm_X8_fails gw_994 ⟨rfl, rfl, by decide, by decide⟩ ⟨Nat.zero_le _, Nat.zero_le _⟩ [0, 1, 2, 3, 4, 5] rfl rfl rfl rfl rfl rfl rfl rfl (Nat.le_of_ble_eq_true rfl) dX8_costOf_15 (fun H locs hP hD hS => ?_)
      have hP : va_P D vwCl (wX8 cI h0 h1 h2 h3 h4 h5 aTh_13 aSm aLn aAt aWe aRm aBm aHa aS aSv aCm aRd aBy) H := hP
      have hD : va_D A (wX8 cI h0 h1 h2 h3 h4 h5 aTh_13 aSm aLn aAt aWe aRm aBm aHa aS aSv aCm aRd aBy) := hD
      cases h
      exact ret_i hx hb hr hlocks hP hD hS dX8_costOf_18 rfl
  exact hmain _ _ hP hS
abbrev rm_X8_costOfTwo : Room := { frames := 2, cells := 0, slots := 0, locals := 43 }
def f_X8_costOfTwo (Z : Nat) (p1 : Int32) (p2 : Int32) (aTh : Int32) (aS : Nat → Int32) : Option (Int32 × Int32) :=
  (f_X8_isPosition Z p1 aS).bind fun r1 =>
  if r1 = 0 then
    (f_X8_fails Z 1 (0)).bind fun (r3, aTh_3) =>
    some (r3, aTh_3)
  else
    (f_X8_isPosition Z p2 aS).bind fun r4 =>
    if r4 = 0 then
      (f_X8_fails Z 1 (0)).bind fun (r42, aTh_42) =>
      some (r42, aTh_42)
    else
      (f_X8_hasRoom Z 2 aS).bind fun r6 =>
      if r6 = 0 then
        some ((-1), (0))
      else
        rd 3 344 (
        rd 0 344 (
        (f_X8_growing Z (aS (Int32.toNatClampNeg 3)) (aS (Int32.toNatClampNeg 0)) 1).bind fun r10 =>
        rd 3 344 (
        rd 0 344 (
        if (aS (Int32.toNatClampNeg 3)) = (aS (Int32.toNatClampNeg 0)) then
          rd 3 344 (
          kl (2 * (aS (Int32.toNatClampNeg 3))) fun x4_29 =>
          if p2 < p1 then
            rd 2 344 (
            (f_X8_size Z ((aS (Int32.toNatClampNeg 2)) - p1)).bind fun r32 =>
            (f_X8_size Z ((p1 + 1) - p2)).bind fun r33 =>
            rd 0 344 (
            (f_X8_growing Z x4_29 ((aS (Int32.toNatClampNeg 0)) + 1) 1).bind fun r35 =>
            some (((r32 + r10) + r33) + r35, (0))))
          else
            kl (p2 + 1) fun x5_36 =>
            rd 2 344 (
            (f_X8_size Z ((aS (Int32.toNatClampNeg 2)) - p1)).bind fun r38 =>
            (f_X8_size Z ((p1 + 1) - x5_36)).bind fun r39 =>
            rd 0 344 (
            (f_X8_growing Z x4_29 ((aS (Int32.toNatClampNeg 0)) + 1) 1).bind fun r41 =>
            some (((r38 + r10) + r39) + r41, (0)))))
        else
          rd 3 344 (
          kl (aS (Int32.toNatClampNeg 3)) fun x4_15 =>
          if p2 < p1 then
            rd 2 344 (
            (f_X8_size Z ((aS (Int32.toNatClampNeg 2)) - p1)).bind fun r18 =>
            (f_X8_size Z ((p1 + 1) - p2)).bind fun r19 =>
            rd 0 344 (
            (f_X8_growing Z x4_15 ((aS (Int32.toNatClampNeg 0)) + 1) 1).bind fun r21 =>
            some (((r18 + r10) + r19) + r21, (0))))
          else
            kl (p2 + 1) fun x5_22 =>
            rd 2 344 (
            (f_X8_size Z ((aS (Int32.toNatClampNeg 2)) - p1)).bind fun r24 =>
            (f_X8_size Z ((p1 + 1) - x5_22)).bind fun r25 =>
            rd 0 344 (
            (f_X8_growing Z x4_15 ((aS (Int32.toNatClampNeg 0)) + 1) 1).bind fun r27 =>
            some (((r24 + r10) + r25) + r27, (0)))))))))
set_option maxRecDepth 100000 in
set_option maxHeartbeats 4000000 in
theorem k_X8_costOfTwo (l : Launch) (D : va_G) (cI cS cL : ClassId) (Z : Nat) (h0 : Nat) (h1 : Nat) (h2 : Nat) (h3 : Nat) (h4 : Nat) (h5 : Nat) (p1 : Int32) (p2 : Int32) (aTh : Int32) (aSm : Int32) (aLn : Int32) (aAt : Int32) (aWe : Int32) (aRm : Int32) (aBm : Int32) (aHa : Int64) (aS : Nat → Int32) (aSv : Nat → Int32) (aCm : Nat → Int32) (aRd : Nat → Int32) (aBy : Nat → Int32) {r : Int32} {aTh' : Int32} (h : f_X8_costOfTwo Z p1 p2 aTh aS = some (r, aTh')) : CI l yX8_costOfTwo cX8_costOfTwo 6 (some .int) rm_X8_costOfTwo D cI cS cL [.ref h0, .int p1, .int p2] (wX8 cI h0 h1 h2 h3 h4 h5 aTh aSm aLn aAt aWe aRm aBm aHa aS aSv aCm aRd aBy) (wX8 cI h0 h1 h2 h3 h4 h5 (aTh') aSm aLn aAt aWe aRm aBm aHa aS aSv aCm aRd aBy) r := by
  refine ent_i (by decide +kernel) (Nat.le_of_ble_eq_true rfl) ?_
  intro p e s m args below meth c A ls hx hb hr hml hlocks hg hown hK hP hD hS hA hl
  have hown : s.vm.findClass RX8 = some m.cls := hown
  have hl : lv_has ls 6 [(0, .ref h0), (1, .int p1), (2, .int p2)] := hl
  have hP : va_P D vwCl (wX8 cI h0 h1 h2 h3 h4 h5 aTh aSm aLn aAt aWe aRm aBm aHa aS aSv aCm aRd aBy) s.heap := hP
  have hD : va_D A (wX8 cI h0 h1 h2 h3 h4 h5 aTh aSm aLn aAt aWe aRm aBm aHa aS aSv aCm aRd aBy) := hD
  show W p l e rm_X8_costOfTwo s m args below meth c s.heap [] 0 0 (FI D below args s (wX8 cI h0 h1 h2 h3 h4 h5 (aTh') aSm aLn aAt aWe aRm aBm aHa aS aSv aCm aRd aBy) r A) (F0 m 0 ls [])
  unfold f_X8_costOfTwo at h
  have hmain : ∀ (H : Heap) (locs : List Loc), va_P D vwCl (wX8 cI h0 h1 h2 h3 h4 h5 aTh aSm aLn aAt aWe aRm aBm aHa aS aSv aCm aRd aBy) H → va_S A s.heap H locs → W p l e rm_X8_costOfTwo s m args below meth c H locs 0 0 (FI D below args s (wX8 cI h0 h1 h2 h3 h4 h5 (aTh') aSm aLn aAt aWe aRm aBm aHa aS aSv aCm aRd aBy) r A) (F0 m 0 ls []) := by
    intro H locs hP hS
    refine lv_aload_n hx hb dX8_costOfTwo_0 rfl (lv_at hl 0 rfl) ?_
    refine lv_iconst (v := 0) hx hb dX8_costOfTwo_1 (by decide) ?_
    refine va_put (D := D) (ci := 8) (v := .int 0) (ty := tyX8 0) (C := RX8) (T := TX8) (N := 13) hx hb hg uX8 tyX8 tyX8_ok nmX8 hown hK.1 hP hD hS 0 rfl rfl 0 (by decide) (hg _ gw_940) (fun _ h9 => h9) rfl (tyX8_ok 0 (by decide)) rfl rfl (Nat.le_of_ble_eq_true rfl) dX8_costOfTwo_2 (fun H locs hP hD hS => ?_)
    have hP : va_P D vwCl (wX8 cI h0 h1 h2 h3 h4 h5 (0) aSm aLn aAt aWe aRm aBm aHa aS aSv aCm aRd aBy) H := hP
    have hD : va_D A (wX8 cI h0 h1 h2 h3 h4 h5 (0) aSm aLn aAt aWe aRm aBm aHa aS aSv aCm aRd aBy) := hD
    refine lv_aload_n hx hb dX8_costOfTwo_5 rfl (lv_at hl 0 rfl) ?_
    refine lv_iload_n hx hb dX8_costOfTwo_6 rfl (lv_at hl 1 rfl) ?_
    obtain ⟨r1, ec1, h⟩ := bd_some h
    refine cV_i (As := [.int p1]) (rest := []) (wc := (wX8 cI h0 h1 h2 h3 h4 h5 (0) aSm aLn aAt aWe aRm aBm aHa aS aSv aCm aRd aBy)) (wc' := (wX8 cI h0 h1 h2 h3 h4 h5 (0) aSm aLn aAt aWe aRm aBm aHa aS aSv aCm aRd aBy)) hx hb hml hown hg hK hP hD hS hA hl.1 (k_X8_isPosition l D cI cS cL Z h0 h1 h2 h3 h4 h5 p1 (0) aSm aLn aAt aWe aRm aBm aHa aS aSv aCm aRd aBy ec1) gm_X8_isPosition gw_1065 ⟨rfl, rfl, by decide, by decide⟩ ⟨Nat.zero_le _, Nat.zero_le _⟩ [0, 1, 2, 3, 4, 5] rfl rfl rfl rfl rfl rfl rfl rfl (Nat.le_of_ble_eq_true rfl) dX8_costOfTwo_7 (fun H locs hP hD hS => ?_)
    have hP : va_P D vwCl (wX8 cI h0 h1 h2 h3 h4 h5 (0) aSm aLn aAt aWe aRm aBm aHa aS aSv aCm aRd aBy) H := hP
    have hD : va_D A (wX8 cI h0 h1 h2 h3 h4 h5 (0) aSm aLn aAt aWe aRm aBm aHa aS aSv aCm aRd aBy) := hD
    refine lv_if_eq (tgt := 21) hx hb dX8_costOfTwo_10 (by decide) (fun q2 => ?_) (fun q2 => ?_)
    · replace h := it_some q2 h
      refine lv_aload_n hx hb dX8_costOfTwo_21 rfl (lv_at hl 0 rfl) ?_
      refine lv_iconst (v := 1) hx hb dX8_costOfTwo_22 (by decide) ?_
      obtain ⟨⟨r3, aTh_3⟩, ec3, h⟩ := bd_some h
      refine cV_i (As := [.int 1]) (rest := []) (wc := (wX8 cI h0 h1 h2 h3 h4 h5 (0) aSm aLn aAt aWe aRm aBm aHa aS aSv aCm aRd aBy)) (wc' := (wX8 cI h0 h1 h2 h3 h4 h5 aTh_3 aSm aLn aAt aWe aRm aBm aHa aS aSv aCm aRd aBy)) hx hb hml hown hg hK hP hD hS hA hl.1 (k_X8_fails l D cI cS cL Z h0 h1 h2 h3 h4 h5 1 (0) aSm aLn aAt aWe aRm aBm aHa aS aSv aCm aRd aBy ec3) gm_X8_fails gw_994 ⟨rfl, rfl, by decide, by decide⟩ ⟨Nat.zero_le _, Nat.zero_le _⟩ [0, 1, 2, 3, 4, 5] rfl rfl rfl rfl rfl rfl rfl rfl (Nat.le_of_ble_eq_true rfl) dX8_costOfTwo_23 (fun H locs hP hD hS => ?_)
      have hP : va_P D vwCl (wX8 cI h0 h1 h2 h3 h4 h5 aTh_3 aSm aLn aAt aWe aRm aBm aHa aS aSv aCm aRd aBy) H := hP
      have hD : va_D A (wX8 cI h0 h1 h2 h3 h4 h5 aTh_3 aSm aLn aAt aWe aRm aBm aHa aS aSv aCm aRd aBy) := hD
      cases h
      exact ret_i hx hb hr hlocks hP hD hS dX8_costOfTwo_26 rfl
    · replace h := if_some q2 h
      refine lv_aload_n hx hb dX8_costOfTwo_13 rfl (lv_at hl 0 rfl) ?_
      refine lv_iload_n hx hb dX8_costOfTwo_14 rfl (lv_at hl 2 rfl) ?_
      obtain ⟨r4, ec4, h⟩ := bd_some h
      refine cV_i (As := [.int p2]) (rest := []) (wc := (wX8 cI h0 h1 h2 h3 h4 h5 (0) aSm aLn aAt aWe aRm aBm aHa aS aSv aCm aRd aBy)) (wc' := (wX8 cI h0 h1 h2 h3 h4 h5 (0) aSm aLn aAt aWe aRm aBm aHa aS aSv aCm aRd aBy)) hx hb hml hown hg hK hP hD hS hA hl.1 (k_X8_isPosition l D cI cS cL Z h0 h1 h2 h3 h4 h5 p2 (0) aSm aLn aAt aWe aRm aBm aHa aS aSv aCm aRd aBy ec4) gm_X8_isPosition gw_1065 ⟨rfl, rfl, by decide, by decide⟩ ⟨Nat.zero_le _, Nat.zero_le _⟩ [0, 1, 2, 3, 4, 5] rfl rfl rfl rfl rfl rfl rfl rfl (Nat.le_of_ble_eq_true rfl) dX8_costOfTwo_15 (fun H locs hP hD hS => ?_)
      have hP : va_P D vwCl (wX8 cI h0 h1 h2 h3 h4 h5 (0) aSm aLn aAt aWe aRm aBm aHa aS aSv aCm aRd aBy) H := hP
      have hD : va_D A (wX8 cI h0 h1 h2 h3 h4 h5 (0) aSm aLn aAt aWe aRm aBm aHa aS aSv aCm aRd aBy) := hD
      refine lv_if_ne (tgt := 27) hx hb dX8_costOfTwo_18 (by decide) (fun q5 => ?_) (fun q5 => ?_)
      · replace h := if_some q5 h
        refine lv_aload_n hx hb dX8_costOfTwo_27 rfl (lv_at hl 0 rfl) ?_
        refine lv_iconst (v := 2) hx hb dX8_costOfTwo_28 (by decide) ?_
        obtain ⟨r6, ec6, h⟩ := bd_some h
        refine cV_i (As := [.int 2]) (rest := []) (wc := (wX8 cI h0 h1 h2 h3 h4 h5 (0) aSm aLn aAt aWe aRm aBm aHa aS aSv aCm aRd aBy)) (wc' := (wX8 cI h0 h1 h2 h3 h4 h5 (0) aSm aLn aAt aWe aRm aBm aHa aS aSv aCm aRd aBy)) hx hb hml hown hg hK hP hD hS hA hl.1 (k_X8_hasRoom l D cI cS cL Z h0 h1 h2 h3 h4 h5 2 (0) aSm aLn aAt aWe aRm aBm aHa aS aSv aCm aRd aBy ec6) gm_X8_hasRoom gw_998 ⟨rfl, rfl, by decide, by decide⟩ ⟨Nat.zero_le _, Nat.zero_le _⟩ [0, 1, 2, 3, 4, 5] rfl rfl rfl rfl rfl rfl rfl rfl (Nat.le_of_ble_eq_true rfl) dX8_costOfTwo_29 (fun H locs hP hD hS => ?_)
        have hP : va_P D vwCl (wX8 cI h0 h1 h2 h3 h4 h5 (0) aSm aLn aAt aWe aRm aBm aHa aS aSv aCm aRd aBy) H := hP
        have hD : va_D A (wX8 cI h0 h1 h2 h3 h4 h5 (0) aSm aLn aAt aWe aRm aBm aHa aS aSv aCm aRd aBy) := hD
        refine lv_if_ne (tgt := 37) hx hb dX8_costOfTwo_32 (by decide) (fun q7 => ?_) (fun q7 => ?_)
        · replace h := if_some q7 h
          refine lv_aload_n hx hb dX8_costOfTwo_37 rfl (lv_at hl 0 rfl) ?_
          refine va_get (D := D) (ci := 8) (v := .ref h1) (C := RX8) (T := TX8) (N := 13) hx hb hg uX8 hown hK.1 hP 0 rfl rfl 1 (by decide) (hg _ gw_941) (fun _ h9 => h9) rfl dX8_costOfTwo_38 ?_
          refine lv_iconst (v := 3) hx hb dX8_costOfTwo_41 (by decide) ?_
          obtain ⟨v8, h⟩ := rd_some h
          refine va_iald hx hb hK.1 hP 1 0 rfl rfl v8 dX8_costOfTwo_42 ?_
          refine lv_aload_n hx hb dX8_costOfTwo_43 rfl (lv_at hl 0 rfl) ?_
          refine va_get (D := D) (ci := 8) (v := .ref h1) (C := RX8) (T := TX8) (N := 13) hx hb hg uX8 hown hK.1 hP 0 rfl rfl 1 (by decide) (hg _ gw_941) (fun _ h9 => h9) rfl dX8_costOfTwo_44 ?_
          refine lv_iconst (v := 0) hx hb dX8_costOfTwo_47 (by decide) ?_
          obtain ⟨v9, h⟩ := rd_some h
          refine va_iald hx hb hK.1 hP 1 0 rfl rfl v9 dX8_costOfTwo_48 ?_
          refine lv_iconst (v := 1) hx hb dX8_costOfTwo_49 (by decide) ?_
          obtain ⟨r10, ec10, h⟩ := bd_some h
          refine cS_i (As := [.int (aS (Int32.toNatClampNeg 3)), .int (aS (Int32.toNatClampNeg 0)), .int 1]) (rest := []) (wc := []) (wc' := []) hx hb hml hown hg hK hP hD hS hA hl.1 (k_X8_growing l D cI cS cL Z (aS (Int32.toNatClampNeg 3)) (aS (Int32.toNatClampNeg 0)) 1 ec10) gs_X8_growing gw_1236 ⟨rfl, rfl, by decide, by decide⟩ ⟨Nat.zero_le _, Nat.zero_le _⟩ [] rfl rfl rfl rfl rfl (Nat.le_of_ble_eq_true rfl) dX8_costOfTwo_50 (fun H locs hP hD hS => ?_)
          have hP : va_P D vwCl (wX8 cI h0 h1 h2 h3 h4 h5 (0) aSm aLn aAt aWe aRm aBm aHa aS aSv aCm aRd aBy) H := hP
          have hD : va_D A (wX8 cI h0 h1 h2 h3 h4 h5 (0) aSm aLn aAt aWe aRm aBm aHa aS aSv aCm aRd aBy) := hD
          refine lv_istore_n (lv' := [(3, .int r10), (0, .ref h0), (1, .int p1), (2, .int p2)]) hx hb dX8_costOfTwo_53 rfl hl (by decide) rfl (fun ls hl => ?_)
          refine lv_aload_n hx hb dX8_costOfTwo_54 rfl (lv_at hl 1 rfl) ?_
          refine va_get (D := D) (ci := 8) (v := .ref h1) (C := RX8) (T := TX8) (N := 13) hx hb hg uX8 hown hK.1 hP 0 rfl rfl 1 (by decide) (hg _ gw_941) (fun _ h9 => h9) rfl dX8_costOfTwo_55 ?_
          refine lv_iconst (v := 3) hx hb dX8_costOfTwo_58 (by decide) ?_
          obtain ⟨v11, h⟩ := rd_some h
          refine va_iald hx hb hK.1 hP 1 0 rfl rfl v11 dX8_costOfTwo_59 ?_
          refine lv_aload_n hx hb dX8_costOfTwo_60 rfl (lv_at hl 1 rfl) ?_
          refine va_get (D := D) (ci := 8) (v := .ref h1) (C := RX8) (T := TX8) (N := 13) hx hb hg uX8 hown hK.1 hP 0 rfl rfl 1 (by decide) (hg _ gw_941) (fun _ h9 => h9) rfl dX8_costOfTwo_61 ?_
          refine lv_iconst (v := 0) hx hb dX8_costOfTwo_64 (by decide) ?_
          obtain ⟨v12, h⟩ := rd_some h
          refine va_iald hx hb hK.1 hP 1 0 rfl rfl v12 dX8_costOfTwo_65 ?_
          refine lv_icmp_ne (tgt := 80) hx hb dX8_costOfTwo_66 (by decide) (fun q13 => ?_) (fun q13 => ?_)
          · replace h := if_some q13 h
            refine lv_aload_n hx hb dX8_costOfTwo_80 rfl (lv_at hl 1 rfl) ?_
            refine va_get (D := D) (ci := 8) (v := .ref h1) (C := RX8) (T := TX8) (N := 13) hx hb hg uX8 hown hK.1 hP 0 rfl rfl 1 (by decide) (hg _ gw_941) (fun _ h9 => h9) rfl dX8_costOfTwo_81 ?_
            refine lv_iconst (v := 3) hx hb dX8_costOfTwo_84 (by decide) ?_
            obtain ⟨v14, h⟩ := rd_some h
            refine va_iald hx hb hK.1 hP 1 0 rfl rfl v14 dX8_costOfTwo_85 ?_
            obtain ⟨x4_15, ex4_15, h⟩ := kl_some h
            refine nm_i ex4_15 ?_
            refine lv_istore (lv' := [(4, .int x4_15), (3, .int r10), (0, .ref h0), (1, .int p1), (2, .int p2)]) hx hb dX8_costOfTwo_86 hl (by decide) rfl (fun ls hl => ?_)
            refine lv_iload_n hx hb dX8_costOfTwo_88 rfl (lv_at hl 4 rfl) ?_
            refine lv_iload_n hx hb dX8_costOfTwo_89 rfl (lv_at hl 3 rfl) ?_
            refine lv_icmp_lt (tgt := 99) hx hb dX8_costOfTwo_90 (by decide) (fun q16 => ?_) (fun q16 => ?_)
            · replace h := it_some q16 h
              refine lv_iload_n hx hb dX8_costOfTwo_99 rfl (lv_at hl 4 rfl) ?_
              refine lv_istore (lv' := [(5, .int p2), (4, .int x4_15), (3, .int r10), (0, .ref h0), (1, .int p1), (2, .int p2)]) hx hb dX8_costOfTwo_100 hl (by decide) rfl (fun ls hl => ?_)
              refine lv_aload_n hx hb dX8_costOfTwo_102 rfl (lv_at hl 3 rfl) ?_
              refine va_get (D := D) (ci := 8) (v := .ref h1) (C := RX8) (T := TX8) (N := 13) hx hb hg uX8 hown hK.1 hP 0 rfl rfl 1 (by decide) (hg _ gw_941) (fun _ h9 => h9) rfl dX8_costOfTwo_103 ?_
              refine lv_iconst (v := 2) hx hb dX8_costOfTwo_106 (by decide) ?_
              obtain ⟨v17, h⟩ := rd_some h
              refine va_iald hx hb hK.1 hP 1 0 rfl rfl v17 dX8_costOfTwo_107 ?_
              refine lv_iload_n hx hb dX8_costOfTwo_108 rfl (lv_at hl 4 rfl) ?_
              refine lv_isub hx hb dX8_costOfTwo_109 ?_
              obtain ⟨r18, ec18, h⟩ := bd_some h
              refine cS_i (As := [.int ((aS (Int32.toNatClampNeg 2)) - p1)]) (rest := []) (wc := []) (wc' := []) hx hb hml hown hg hK hP hD hS hA hl.1 (k_X8_size l D cI cS cL Z ((aS (Int32.toNatClampNeg 2)) - p1) ec18) gs_X8_size gw_1018 ⟨rfl, rfl, by decide, by decide⟩ ⟨Nat.zero_le _, Nat.zero_le _⟩ [] rfl rfl rfl rfl rfl (Nat.le_of_ble_eq_true rfl) dX8_costOfTwo_110 (fun H locs hP hD hS => ?_)
              have hP : va_P D vwCl (wX8 cI h0 h1 h2 h3 h4 h5 (0) aSm aLn aAt aWe aRm aBm aHa aS aSv aCm aRd aBy) H := hP
              have hD : va_D A (wX8 cI h0 h1 h2 h3 h4 h5 (0) aSm aLn aAt aWe aRm aBm aHa aS aSv aCm aRd aBy) := hD
              refine lv_iload_n hx hb dX8_costOfTwo_113 rfl (lv_at hl 2 rfl) ?_
              refine lv_iadd hx hb dX8_costOfTwo_114 ?_
              refine lv_iload_n hx hb dX8_costOfTwo_115 rfl (lv_at hl 4 rfl) ?_
              refine lv_iconst (v := 1) hx hb dX8_costOfTwo_116 (by decide) ?_
              refine lv_iadd hx hb dX8_costOfTwo_117 ?_
              refine lv_iload hx hb dX8_costOfTwo_118 (lv_at hl 0 rfl) ?_
              refine lv_isub hx hb dX8_costOfTwo_120 ?_
              obtain ⟨r19, ec19, h⟩ := bd_some h
              refine cS_i (As := [.int ((p1 + 1) - p2)]) (rest := [.int (r18 + r10)]) (wc := []) (wc' := []) hx hb hml hown hg hK hP hD hS hA hl.1 (k_X8_size l D cI cS cL Z ((p1 + 1) - p2) ec19) gs_X8_size gw_1018 ⟨rfl, rfl, by decide, by decide⟩ ⟨Nat.zero_le _, Nat.zero_le _⟩ [] rfl rfl rfl rfl rfl (Nat.le_of_ble_eq_true rfl) dX8_costOfTwo_121 (fun H locs hP hD hS => ?_)
              have hP : va_P D vwCl (wX8 cI h0 h1 h2 h3 h4 h5 (0) aSm aLn aAt aWe aRm aBm aHa aS aSv aCm aRd aBy) H := hP
              have hD : va_D A (wX8 cI h0 h1 h2 h3 h4 h5 (0) aSm aLn aAt aWe aRm aBm aHa aS aSv aCm aRd aBy) := hD
              refine lv_iadd hx hb dX8_costOfTwo_124 ?_
              refine lv_iload hx hb dX8_costOfTwo_125 (lv_at hl 1 rfl) ?_
              refine lv_aload_n hx hb dX8_costOfTwo_127 rfl (lv_at hl 3 rfl) ?_
              refine va_get (D := D) (ci := 8) (v := .ref h1) (C := RX8) (T := TX8) (N := 13) hx hb hg uX8 hown hK.1 hP 0 rfl rfl 1 (by decide) (hg _ gw_941) (fun _ h9 => h9) rfl dX8_costOfTwo_128 ?_
              refine lv_iconst (v := 0) hx hb dX8_costOfTwo_131 (by decide) ?_
              obtain ⟨v20, h⟩ := rd_some h
              refine va_iald hx hb hK.1 hP 1 0 rfl rfl v20 dX8_costOfTwo_132 ?_
              refine lv_iconst (v := 1) hx hb dX8_costOfTwo_133 (by decide) ?_
              refine lv_iadd hx hb dX8_costOfTwo_134 ?_
              refine lv_iconst (v := 1) hx hb dX8_costOfTwo_135 (by decide) ?_
              obtain ⟨r21, ec21, h⟩ := bd_some h
              refine cS_i (As := [.int x4_15, .int ((aS (Int32.toNatClampNeg 0)) + 1), .int 1]) (rest := [.int ((r18 + r10) + r19)]) (wc := []) (wc' := []) hx hb hml hown hg hK hP hD hS hA hl.1 (k_X8_growing l D cI cS cL Z x4_15 ((aS (Int32.toNatClampNeg 0)) + 1) 1 ec21) gs_X8_growing gw_1236 ⟨rfl, rfl, by decide, by decide⟩ ⟨Nat.zero_le _, Nat.zero_le _⟩ [] rfl rfl rfl rfl rfl (Nat.le_of_ble_eq_true rfl) dX8_costOfTwo_136 (fun H locs hP hD hS => ?_)
              have hP : va_P D vwCl (wX8 cI h0 h1 h2 h3 h4 h5 (0) aSm aLn aAt aWe aRm aBm aHa aS aSv aCm aRd aBy) H := hP
              have hD : va_D A (wX8 cI h0 h1 h2 h3 h4 h5 (0) aSm aLn aAt aWe aRm aBm aHa aS aSv aCm aRd aBy) := hD
              refine lv_iadd hx hb dX8_costOfTwo_139 ?_
              cases h
              exact ret_i hx hb hr hlocks hP hD hS dX8_costOfTwo_140 rfl
            · replace h := if_some q16 h
              refine lv_iload_n hx hb dX8_costOfTwo_93 rfl (lv_at hl 4 rfl) ?_
              refine lv_iconst (v := 1) hx hb dX8_costOfTwo_94 (by decide) ?_
              refine lv_iadd hx hb dX8_costOfTwo_95 ?_
              refine lv_goto (tgt := 100) hx hb dX8_costOfTwo_96 (by decide) ?_
              obtain ⟨x5_22, ex5_22, h⟩ := kl_some h
              refine nm_i ex5_22 ?_
              refine lv_istore (lv' := [(5, .int x5_22), (4, .int x4_15), (3, .int r10), (0, .ref h0), (1, .int p1), (2, .int p2)]) hx hb dX8_costOfTwo_100 hl (by decide) rfl (fun ls hl => ?_)
              refine lv_aload_n hx hb dX8_costOfTwo_102 rfl (lv_at hl 3 rfl) ?_
              refine va_get (D := D) (ci := 8) (v := .ref h1) (C := RX8) (T := TX8) (N := 13) hx hb hg uX8 hown hK.1 hP 0 rfl rfl 1 (by decide) (hg _ gw_941) (fun _ h9 => h9) rfl dX8_costOfTwo_103 ?_
              refine lv_iconst (v := 2) hx hb dX8_costOfTwo_106 (by decide) ?_
              obtain ⟨v23, h⟩ := rd_some h
              refine va_iald hx hb hK.1 hP 1 0 rfl rfl v23 dX8_costOfTwo_107 ?_
              refine lv_iload_n hx hb dX8_costOfTwo_108 rfl (lv_at hl 4 rfl) ?_
              refine lv_isub hx hb dX8_costOfTwo_109 ?_
              obtain ⟨r24, ec24, h⟩ := bd_some h
              refine cS_i (As := [.int ((aS (Int32.toNatClampNeg 2)) - p1)]) (rest := []) (wc := []) (wc' := []) hx hb hml hown hg hK hP hD hS hA hl.1 (k_X8_size l D cI cS cL Z ((aS (Int32.toNatClampNeg 2)) - p1) ec24) gs_X8_size gw_1018 ⟨rfl, rfl, by decide, by decide⟩ ⟨Nat.zero_le _, Nat.zero_le _⟩ [] rfl rfl rfl rfl rfl (Nat.le_of_ble_eq_true rfl) dX8_costOfTwo_110 (fun H locs hP hD hS => ?_)
              have hP : va_P D vwCl (wX8 cI h0 h1 h2 h3 h4 h5 (0) aSm aLn aAt aWe aRm aBm aHa aS aSv aCm aRd aBy) H := hP
              have hD : va_D A (wX8 cI h0 h1 h2 h3 h4 h5 (0) aSm aLn aAt aWe aRm aBm aHa aS aSv aCm aRd aBy) := hD
              refine lv_iload_n hx hb dX8_costOfTwo_113 rfl (lv_at hl 2 rfl) ?_
              refine lv_iadd hx hb dX8_costOfTwo_114 ?_
              refine lv_iload_n hx hb dX8_costOfTwo_115 rfl (lv_at hl 4 rfl) ?_
              refine lv_iconst (v := 1) hx hb dX8_costOfTwo_116 (by decide) ?_
              refine lv_iadd hx hb dX8_costOfTwo_117 ?_
              refine lv_iload hx hb dX8_costOfTwo_118 (lv_at hl 0 rfl) ?_
              refine lv_isub hx hb dX8_costOfTwo_120 ?_
              obtain ⟨r25, ec25, h⟩ := bd_some h
              refine cS_i (As := [.int ((p1 + 1) - x5_22)]) (rest := [.int (r24 + r10)]) (wc := []) (wc' := []) hx hb hml hown hg hK hP hD hS hA hl.1 (k_X8_size l D cI cS cL Z ((p1 + 1) - x5_22) ec25) gs_X8_size gw_1018 ⟨rfl, rfl, by decide, by decide⟩ ⟨Nat.zero_le _, Nat.zero_le _⟩ [] rfl rfl rfl rfl rfl (Nat.le_of_ble_eq_true rfl) dX8_costOfTwo_121 (fun H locs hP hD hS => ?_)
              have hP : va_P D vwCl (wX8 cI h0 h1 h2 h3 h4 h5 (0) aSm aLn aAt aWe aRm aBm aHa aS aSv aCm aRd aBy) H := hP
              have hD : va_D A (wX8 cI h0 h1 h2 h3 h4 h5 (0) aSm aLn aAt aWe aRm aBm aHa aS aSv aCm aRd aBy) := hD
              refine lv_iadd hx hb dX8_costOfTwo_124 ?_
              refine lv_iload hx hb dX8_costOfTwo_125 (lv_at hl 1 rfl) ?_
              refine lv_aload_n hx hb dX8_costOfTwo_127 rfl (lv_at hl 3 rfl) ?_
              refine va_get (D := D) (ci := 8) (v := .ref h1) (C := RX8) (T := TX8) (N := 13) hx hb hg uX8 hown hK.1 hP 0 rfl rfl 1 (by decide) (hg _ gw_941) (fun _ h9 => h9) rfl dX8_costOfTwo_128 ?_
              refine lv_iconst (v := 0) hx hb dX8_costOfTwo_131 (by decide) ?_
              obtain ⟨v26, h⟩ := rd_some h
              refine va_iald hx hb hK.1 hP 1 0 rfl rfl v26 dX8_costOfTwo_132 ?_
              refine lv_iconst (v := 1) hx hb dX8_costOfTwo_133 (by decide) ?_
              refine lv_iadd hx hb dX8_costOfTwo_134 ?_
              refine lv_iconst (v := 1) hx hb dX8_costOfTwo_135 (by decide) ?_
              obtain ⟨r27, ec27, h⟩ := bd_some h
              refine cS_i (As := [.int x4_15, .int ((aS (Int32.toNatClampNeg 0)) + 1), .int 1]) (rest := [.int ((r24 + r10) + r25)]) (wc := []) (wc' := []) hx hb hml hown hg hK hP hD hS hA hl.1 (k_X8_growing l D cI cS cL Z x4_15 ((aS (Int32.toNatClampNeg 0)) + 1) 1 ec27) gs_X8_growing gw_1236 ⟨rfl, rfl, by decide, by decide⟩ ⟨Nat.zero_le _, Nat.zero_le _⟩ [] rfl rfl rfl rfl rfl (Nat.le_of_ble_eq_true rfl) dX8_costOfTwo_136 (fun H locs hP hD hS => ?_)
              have hP : va_P D vwCl (wX8 cI h0 h1 h2 h3 h4 h5 (0) aSm aLn aAt aWe aRm aBm aHa aS aSv aCm aRd aBy) H := hP
              have hD : va_D A (wX8 cI h0 h1 h2 h3 h4 h5 (0) aSm aLn aAt aWe aRm aBm aHa aS aSv aCm aRd aBy) := hD
              refine lv_iadd hx hb dX8_costOfTwo_139 ?_
              cases h
              exact ret_i hx hb hr hlocks hP hD hS dX8_costOfTwo_140 rfl
          · replace h := it_some q13 h
            refine lv_iconst (v := 2) hx hb dX8_costOfTwo_69 (by decide) ?_
            refine lv_aload_n hx hb dX8_costOfTwo_70 rfl (lv_at hl 1 rfl) ?_
            refine va_get (D := D) (ci := 8) (v := .ref h1) (C := RX8) (T := TX8) (N := 13) hx hb hg uX8 hown hK.1 hP 0 rfl rfl 1 (by decide) (hg _ gw_941) (fun _ h9 => h9) rfl dX8_costOfTwo_71 ?_
            refine lv_iconst (v := 3) hx hb dX8_costOfTwo_74 (by decide) ?_
            obtain ⟨v28, h⟩ := rd_some h
            refine va_iald hx hb hK.1 hP 1 0 rfl rfl v28 dX8_costOfTwo_75 ?_
            refine lv_imul hx hb dX8_costOfTwo_76 ?_
            refine lv_goto (tgt := 86) hx hb dX8_costOfTwo_77 (by decide) ?_
            obtain ⟨x4_29, ex4_29, h⟩ := kl_some h
            refine nm_i ex4_29 ?_
            refine lv_istore (lv' := [(4, .int x4_29), (3, .int r10), (0, .ref h0), (1, .int p1), (2, .int p2)]) hx hb dX8_costOfTwo_86 hl (by decide) rfl (fun ls hl => ?_)
            refine lv_iload_n hx hb dX8_costOfTwo_88 rfl (lv_at hl 4 rfl) ?_
            refine lv_iload_n hx hb dX8_costOfTwo_89 rfl (lv_at hl 3 rfl) ?_
            refine lv_icmp_lt (tgt := 99) hx hb dX8_costOfTwo_90 (by decide) (fun q30 => ?_) (fun q30 => ?_)
            · replace h := it_some q30 h
              refine lv_iload_n hx hb dX8_costOfTwo_99 rfl (lv_at hl 4 rfl) ?_
              refine lv_istore (lv' := [(5, .int p2), (4, .int x4_29), (3, .int r10), (0, .ref h0), (1, .int p1), (2, .int p2)]) hx hb dX8_costOfTwo_100 hl (by decide) rfl (fun ls hl => ?_)
              refine lv_aload_n hx hb dX8_costOfTwo_102 rfl (lv_at hl 3 rfl) ?_
              refine va_get (D := D) (ci := 8) (v := .ref h1) (C := RX8) (T := TX8) (N := 13) hx hb hg uX8 hown hK.1 hP 0 rfl rfl 1 (by decide) (hg _ gw_941) (fun _ h9 => h9) rfl dX8_costOfTwo_103 ?_
              refine lv_iconst (v := 2) hx hb dX8_costOfTwo_106 (by decide) ?_
              obtain ⟨v31, h⟩ := rd_some h
              refine va_iald hx hb hK.1 hP 1 0 rfl rfl v31 dX8_costOfTwo_107 ?_
              refine lv_iload_n hx hb dX8_costOfTwo_108 rfl (lv_at hl 4 rfl) ?_
              refine lv_isub hx hb dX8_costOfTwo_109 ?_
              obtain ⟨r32, ec32, h⟩ := bd_some h
              refine cS_i (As := [.int ((aS (Int32.toNatClampNeg 2)) - p1)]) (rest := []) (wc := []) (wc' := []) hx hb hml hown hg hK hP hD hS hA hl.1 (k_X8_size l D cI cS cL Z ((aS (Int32.toNatClampNeg 2)) - p1) ec32) gs_X8_size gw_1018 ⟨rfl, rfl, by decide, by decide⟩ ⟨Nat.zero_le _, Nat.zero_le _⟩ [] rfl rfl rfl rfl rfl (Nat.le_of_ble_eq_true rfl) dX8_costOfTwo_110 (fun H locs hP hD hS => ?_)
              have hP : va_P D vwCl (wX8 cI h0 h1 h2 h3 h4 h5 (0) aSm aLn aAt aWe aRm aBm aHa aS aSv aCm aRd aBy) H := hP
              have hD : va_D A (wX8 cI h0 h1 h2 h3 h4 h5 (0) aSm aLn aAt aWe aRm aBm aHa aS aSv aCm aRd aBy) := hD
              refine lv_iload_n hx hb dX8_costOfTwo_113 rfl (lv_at hl 2 rfl) ?_
              refine lv_iadd hx hb dX8_costOfTwo_114 ?_
              refine lv_iload_n hx hb dX8_costOfTwo_115 rfl (lv_at hl 4 rfl) ?_
              refine lv_iconst (v := 1) hx hb dX8_costOfTwo_116 (by decide) ?_
              refine lv_iadd hx hb dX8_costOfTwo_117 ?_
              refine lv_iload hx hb dX8_costOfTwo_118 (lv_at hl 0 rfl) ?_
              refine lv_isub hx hb dX8_costOfTwo_120 ?_
              obtain ⟨r33, ec33, h⟩ := bd_some h
              refine cS_i (As := [.int ((p1 + 1) - p2)]) (rest := [.int (r32 + r10)]) (wc := []) (wc' := []) hx hb hml hown hg hK hP hD hS hA hl.1 (k_X8_size l D cI cS cL Z ((p1 + 1) - p2) ec33) gs_X8_size gw_1018 ⟨rfl, rfl, by decide, by decide⟩ ⟨Nat.zero_le _, Nat.zero_le _⟩ [] rfl rfl rfl rfl rfl (Nat.le_of_ble_eq_true rfl) dX8_costOfTwo_121 (fun H locs hP hD hS => ?_)
              have hP : va_P D vwCl (wX8 cI h0 h1 h2 h3 h4 h5 (0) aSm aLn aAt aWe aRm aBm aHa aS aSv aCm aRd aBy) H := hP
              have hD : va_D A (wX8 cI h0 h1 h2 h3 h4 h5 (0) aSm aLn aAt aWe aRm aBm aHa aS aSv aCm aRd aBy) := hD
              refine lv_iadd hx hb dX8_costOfTwo_124 ?_
              refine lv_iload hx hb dX8_costOfTwo_125 (lv_at hl 1 rfl) ?_
              refine lv_aload_n hx hb dX8_costOfTwo_127 rfl (lv_at hl 3 rfl) ?_
              refine va_get (D := D) (ci := 8) (v := .ref h1) (C := RX8) (T := TX8) (N := 13) hx hb hg uX8 hown hK.1 hP 0 rfl rfl 1 (by decide) (hg _ gw_941) (fun _ h9 => h9) rfl dX8_costOfTwo_128 ?_
              refine lv_iconst (v := 0) hx hb dX8_costOfTwo_131 (by decide) ?_
              obtain ⟨v34, h⟩ := rd_some h
              refine va_iald hx hb hK.1 hP 1 0 rfl rfl v34 dX8_costOfTwo_132 ?_
              refine lv_iconst (v := 1) hx hb dX8_costOfTwo_133 (by decide) ?_
              refine lv_iadd hx hb dX8_costOfTwo_134 ?_
              refine lv_iconst (v := 1) hx hb dX8_costOfTwo_135 (by decide) ?_
              obtain ⟨r35, ec35, h⟩ := bd_some h
              refine cS_i (As := [.int x4_29, .int ((aS (Int32.toNatClampNeg 0)) + 1), .int 1]) (rest := [.int ((r32 + r10) + r33)]) (wc := []) (wc' := []) hx hb hml hown hg hK hP hD hS hA hl.1 (k_X8_growing l D cI cS cL Z x4_29 ((aS (Int32.toNatClampNeg 0)) + 1) 1 ec35) gs_X8_growing gw_1236 ⟨rfl, rfl, by decide, by decide⟩ ⟨Nat.zero_le _, Nat.zero_le _⟩ [] rfl rfl rfl rfl rfl (Nat.le_of_ble_eq_true rfl) dX8_costOfTwo_136 (fun H locs hP hD hS => ?_)
              have hP : va_P D vwCl (wX8 cI h0 h1 h2 h3 h4 h5 (0) aSm aLn aAt aWe aRm aBm aHa aS aSv aCm aRd aBy) H := hP
              have hD : va_D A (wX8 cI h0 h1 h2 h3 h4 h5 (0) aSm aLn aAt aWe aRm aBm aHa aS aSv aCm aRd aBy) := hD
              refine lv_iadd hx hb dX8_costOfTwo_139 ?_
              cases h
              exact ret_i hx hb hr hlocks hP hD hS dX8_costOfTwo_140 rfl
            · replace h := if_some q30 h
              refine lv_iload_n hx hb dX8_costOfTwo_93 rfl (lv_at hl 4 rfl) ?_
              refine lv_iconst (v := 1) hx hb dX8_costOfTwo_94 (by decide) ?_
              refine lv_iadd hx hb dX8_costOfTwo_95 ?_
              refine lv_goto (tgt := 100) hx hb dX8_costOfTwo_96 (by decide) ?_
              obtain ⟨x5_36, ex5_36, h⟩ := kl_some h
              refine nm_i ex5_36 ?_
              refine lv_istore (lv' := [(5, .int x5_36), (4, .int x4_29), (3, .int r10), (0, .ref h0), (1, .int p1), (2, .int p2)]) hx hb dX8_costOfTwo_100 hl (by decide) rfl (fun ls hl => ?_)
              refine lv_aload_n hx hb dX8_costOfTwo_102 rfl (lv_at hl 3 rfl) ?_
              refine va_get (D := D) (ci := 8) (v := .ref h1) (C := RX8) (T := TX8) (N := 13) hx hb hg uX8 hown hK.1 hP 0 rfl rfl 1 (by decide) (hg _ gw_941) (fun _ h9 => h9) rfl dX8_costOfTwo_103 ?_
              refine lv_iconst (v := 2) hx hb dX8_costOfTwo_106 (by decide) ?_
              obtain ⟨v37, h⟩ := rd_some h
              refine va_iald hx hb hK.1 hP 1 0 rfl rfl v37 dX8_costOfTwo_107 ?_
              refine lv_iload_n hx hb dX8_costOfTwo_108 rfl (lv_at hl 4 rfl) ?_
              refine lv_isub hx hb dX8_costOfTwo_109 ?_
              obtain ⟨r38, ec38, h⟩ := bd_some h
              refine cS_i (As := [.int ((aS (Int32.toNatClampNeg 2)) - p1)]) (rest := []) (wc := []) (wc' := []) hx hb hml hown hg hK hP hD hS hA hl.1 (k_X8_size l D cI cS cL Z ((aS (Int32.toNatClampNeg 2)) - p1) ec38) gs_X8_size gw_1018 ⟨rfl, rfl, by decide, by decide⟩ ⟨Nat.zero_le _, Nat.zero_le _⟩ [] rfl rfl rfl rfl rfl (Nat.le_of_ble_eq_true rfl) dX8_costOfTwo_110 (fun H locs hP hD hS => ?_)
              have hP : va_P D vwCl (wX8 cI h0 h1 h2 h3 h4 h5 (0) aSm aLn aAt aWe aRm aBm aHa aS aSv aCm aRd aBy) H := hP
              have hD : va_D A (wX8 cI h0 h1 h2 h3 h4 h5 (0) aSm aLn aAt aWe aRm aBm aHa aS aSv aCm aRd aBy) := hD
              refine lv_iload_n hx hb dX8_costOfTwo_113 rfl (lv_at hl 2 rfl) ?_
              refine lv_iadd hx hb dX8_costOfTwo_114 ?_
              refine lv_iload_n hx hb dX8_costOfTwo_115 rfl (lv_at hl 4 rfl) ?_
              refine lv_iconst (v := 1) hx hb dX8_costOfTwo_116 (by decide) ?_
              refine lv_iadd hx hb dX8_costOfTwo_117 ?_
              refine lv_iload hx hb dX8_costOfTwo_118 (lv_at hl 0 rfl) ?_
              refine lv_isub hx hb dX8_costOfTwo_120 ?_
              obtain ⟨r39, ec39, h⟩ := bd_some h
              refine cS_i (As := [.int ((p1 + 1) - x5_36)]) (rest := [.int (r38 + r10)]) (wc := []) (wc' := []) hx hb hml hown hg hK hP hD hS hA hl.1 (k_X8_size l D cI cS cL Z ((p1 + 1) - x5_36) ec39) gs_X8_size gw_1018 ⟨rfl, rfl, by decide, by decide⟩ ⟨Nat.zero_le _, Nat.zero_le _⟩ [] rfl rfl rfl rfl rfl (Nat.le_of_ble_eq_true rfl) dX8_costOfTwo_121 (fun H locs hP hD hS => ?_)
              have hP : va_P D vwCl (wX8 cI h0 h1 h2 h3 h4 h5 (0) aSm aLn aAt aWe aRm aBm aHa aS aSv aCm aRd aBy) H := hP
              have hD : va_D A (wX8 cI h0 h1 h2 h3 h4 h5 (0) aSm aLn aAt aWe aRm aBm aHa aS aSv aCm aRd aBy) := hD
              refine lv_iadd hx hb dX8_costOfTwo_124 ?_
              refine lv_iload hx hb dX8_costOfTwo_125 (lv_at hl 1 rfl) ?_
              refine lv_aload_n hx hb dX8_costOfTwo_127 rfl (lv_at hl 3 rfl) ?_
              refine va_get (D := D) (ci := 8) (v := .ref h1) (C := RX8) (T := TX8) (N := 13) hx hb hg uX8 hown hK.1 hP 0 rfl rfl 1 (by decide) (hg _ gw_941) (fun _ h9 => h9) rfl dX8_costOfTwo_128 ?_
              refine lv_iconst (v := 0) hx hb dX8_costOfTwo_131 (by decide) ?_
              obtain ⟨v40, h⟩ := rd_some h
              refine va_iald hx hb hK.1 hP 1 0 rfl rfl v40 dX8_costOfTwo_132 ?_
              refine lv_iconst (v := 1) hx hb dX8_costOfTwo_133 (by decide) ?_
              refine lv_iadd hx hb dX8_costOfTwo_134 ?_
              refine lv_iconst (v := 1) hx hb dX8_costOfTwo_135 (by decide) ?_
              obtain ⟨r41, ec41, h⟩ := bd_some h
              refine cS_i (As := [.int x4_29, .int ((aS (Int32.toNatClampNeg 0)) + 1), .int 1]) (rest := [.int ((r38 + r10) + r39)]) (wc := []) (wc' := []) hx hb hml hown hg hK hP hD hS hA hl.1 (k_X8_growing l D cI cS cL Z x4_29 ((aS (Int32.toNatClampNeg 0)) + 1) 1 ec41) gs_X8_growing gw_1236 ⟨rfl, rfl, by decide, by decide⟩ ⟨Nat.zero_le _, Nat.zero_le _⟩ [] rfl rfl rfl rfl rfl (Nat.le_of_ble_eq_true rfl) dX8_costOfTwo_136 (fun H locs hP hD hS => ?_)
              have hP : va_P D vwCl (wX8 cI h0 h1 h2 h3 h4 h5 (0) aSm aLn aAt aWe aRm aBm aHa aS aSv aCm aRd aBy) H := hP
              have hD : va_D A (wX8 cI h0 h1 h2 h3 h4 h5 (0) aSm aLn aAt aWe aRm aBm aHa aS aSv aCm aRd aBy) := hD
              refine lv_iadd hx hb dX8_costOfTwo_139 ?_
              cases h
              exact ret_i hx hb hr hlocks hP hD hS dX8_costOfTwo_140 rfl
        · replace h := it_some q7 h
          refine lv_iconst (v := (-1)) hx hb dX8_costOfTwo_35 (by decide) ?_
          cases h
          exact ret_i hx hb hr hlocks hP hD hS dX8_costOfTwo_36 rfl
      · replace h := it_some q5 h
        refine lv_aload_n hx hb dX8_costOfTwo_21 rfl (lv_at hl 0 rfl) ?_
        refine lv_iconst (v := 1) hx hb dX8_costOfTwo_22 (by decide) ?_
        obtain ⟨⟨r42, aTh_42⟩, ec42, h⟩ := bd_some h
        refine cV_i (As := [.int 1]) (rest := []) (wc := (wX8 cI h0 h1 h2 h3 h4 h5 (0) aSm aLn aAt aWe aRm aBm aHa aS aSv aCm aRd aBy)) (wc' := (wX8 cI h0 h1 h2 h3 h4 h5 aTh_42 aSm aLn aAt aWe aRm aBm aHa aS aSv aCm aRd aBy)) hx hb hml hown hg hK hP hD hS hA hl.1 (k_X8_fails l D cI cS cL Z h0 h1 h2 h3 h4 h5 1 (0) aSm aLn aAt aWe aRm aBm aHa aS aSv aCm aRd aBy ec42) gm_X8_fails gw_994 ⟨rfl, rfl, by decide, by decide⟩ ⟨Nat.zero_le _, Nat.zero_le _⟩ [0, 1, 2, 3, 4, 5] rfl rfl rfl rfl rfl rfl rfl rfl (Nat.le_of_ble_eq_true rfl) dX8_costOfTwo_23 (fun H locs hP hD hS => ?_)
        have hP : va_P D vwCl (wX8 cI h0 h1 h2 h3 h4 h5 aTh_42 aSm aLn aAt aWe aRm aBm aHa aS aSv aCm aRd aBy) H := hP
        have hD : va_D A (wX8 cI h0 h1 h2 h3 h4 h5 aTh_42 aSm aLn aAt aWe aRm aBm aHa aS aSv aCm aRd aBy) := hD
        cases h
        exact ret_i hx hb hr hlocks hP hD hS dX8_costOfTwo_26 rfl
  exact hmain _ _ hP hS
abbrev rm_X8_room : Room := { frames := 0, cells := 0, slots := 0, locals := 0 }
def f_X8_room (Z : Nat) (aTh : Int32) (aS : Nat → Int32) : Option (Int32 × Int32) :=
  rd 3 344 (
  rd 0 344 (
  some ((aS (Int32.toNatClampNeg 3)) - (aS (Int32.toNatClampNeg 0)), (0))))
set_option maxRecDepth 100000 in
set_option maxHeartbeats 4000000 in
theorem k_X8_room (l : Launch) (D : va_G) (cI cS cL : ClassId) (Z : Nat) (h0 : Nat) (h1 : Nat) (h2 : Nat) (h3 : Nat) (h4 : Nat) (h5 : Nat) (aTh : Int32) (aSm : Int32) (aLn : Int32) (aAt : Int32) (aWe : Int32) (aRm : Int32) (aBm : Int32) (aHa : Int64) (aS : Nat → Int32) (aSv : Nat → Int32) (aCm : Nat → Int32) (aRd : Nat → Int32) (aBy : Nat → Int32) {r : Int32} {aTh' : Int32} (h : f_X8_room Z aTh aS = some (r, aTh')) : CI l yX8_room cX8_room 1 (some .int) rm_X8_room D cI cS cL [.ref h0] (wX8 cI h0 h1 h2 h3 h4 h5 aTh aSm aLn aAt aWe aRm aBm aHa aS aSv aCm aRd aBy) (wX8 cI h0 h1 h2 h3 h4 h5 (aTh') aSm aLn aAt aWe aRm aBm aHa aS aSv aCm aRd aBy) r := by
  refine ent_i (by decide +kernel) (Nat.le_of_ble_eq_true rfl) ?_
  intro p e s m args below meth c A ls hx hb hr hml hlocks hg hown hK hP hD hS hA hl
  have hown : s.vm.findClass RX8 = some m.cls := hown
  have hl : lv_has ls 1 [(0, .ref h0)] := hl
  have hP : va_P D vwCl (wX8 cI h0 h1 h2 h3 h4 h5 aTh aSm aLn aAt aWe aRm aBm aHa aS aSv aCm aRd aBy) s.heap := hP
  have hD : va_D A (wX8 cI h0 h1 h2 h3 h4 h5 aTh aSm aLn aAt aWe aRm aBm aHa aS aSv aCm aRd aBy) := hD
  show W p l e rm_X8_room s m args below meth c s.heap [] 0 0 (FI D below args s (wX8 cI h0 h1 h2 h3 h4 h5 (aTh') aSm aLn aAt aWe aRm aBm aHa aS aSv aCm aRd aBy) r A) (F0 m 0 ls [])
  unfold f_X8_room at h
  have hmain : ∀ (H : Heap) (locs : List Loc), va_P D vwCl (wX8 cI h0 h1 h2 h3 h4 h5 aTh aSm aLn aAt aWe aRm aBm aHa aS aSv aCm aRd aBy) H → va_S A s.heap H locs → W p l e rm_X8_room s m args below meth c H locs 0 0 (FI D below args s (wX8 cI h0 h1 h2 h3 h4 h5 (aTh') aSm aLn aAt aWe aRm aBm aHa aS aSv aCm aRd aBy) r A) (F0 m 0 ls []) := by
    intro H locs hP hS
    refine lv_aload_n hx hb dX8_room_0 rfl (lv_at hl 0 rfl) ?_
    refine lv_iconst (v := 0) hx hb dX8_room_1 (by decide) ?_
    refine va_put (D := D) (ci := 8) (v := .int 0) (ty := tyX8 0) (C := RX8) (T := TX8) (N := 13) hx hb hg uX8 tyX8 tyX8_ok nmX8 hown hK.1 hP hD hS 0 rfl rfl 0 (by decide) (hg _ gw_940) (fun _ h9 => h9) rfl (tyX8_ok 0 (by decide)) rfl rfl (Nat.le_of_ble_eq_true rfl) dX8_room_2 (fun H locs hP hD hS => ?_)
    have hP : va_P D vwCl (wX8 cI h0 h1 h2 h3 h4 h5 (0) aSm aLn aAt aWe aRm aBm aHa aS aSv aCm aRd aBy) H := hP
    have hD : va_D A (wX8 cI h0 h1 h2 h3 h4 h5 (0) aSm aLn aAt aWe aRm aBm aHa aS aSv aCm aRd aBy) := hD
    refine lv_aload_n hx hb dX8_room_5 rfl (lv_at hl 0 rfl) ?_
    refine va_get (D := D) (ci := 8) (v := .ref h1) (C := RX8) (T := TX8) (N := 13) hx hb hg uX8 hown hK.1 hP 0 rfl rfl 1 (by decide) (hg _ gw_941) (fun _ h9 => h9) rfl dX8_room_6 ?_
    refine lv_iconst (v := 3) hx hb dX8_room_9 (by decide) ?_
    obtain ⟨v1, h⟩ := rd_some h
    refine va_iald hx hb hK.1 hP 1 0 rfl rfl v1 dX8_room_10 ?_
    refine lv_aload_n hx hb dX8_room_11 rfl (lv_at hl 0 rfl) ?_
    refine va_get (D := D) (ci := 8) (v := .ref h1) (C := RX8) (T := TX8) (N := 13) hx hb hg uX8 hown hK.1 hP 0 rfl rfl 1 (by decide) (hg _ gw_941) (fun _ h9 => h9) rfl dX8_room_12 ?_
    refine lv_iconst (v := 0) hx hb dX8_room_15 (by decide) ?_
    obtain ⟨v2, h⟩ := rd_some h
    refine va_iald hx hb hK.1 hP 1 0 rfl rfl v2 dX8_room_16 ?_
    refine lv_isub hx hb dX8_room_17 ?_
    cases h
    exact ret_i hx hb hr hlocks hP hD hS dX8_room_18 rfl
  exact hmain _ _ hP hS
abbrev rm_X8_append : Room := { frames := 1, cells := 0, slots := 0, locals := 22 }
def f_X8_append (Z : Nat) (p1 : Int32) (aTh : Int32) (aLn : Int32) (aCm : Nat → Int32) : Option (Int32 × Int32 × Int32 × (Nat → Int32)) :=
  (f_X8_in Z p1 33 126).bind fun r1 =>
  if r1 = 0 then
    (f_X8_fails Z 1 (0)).bind fun (r8, aTh_8) =>
    some (r8, aTh_8, aLn, aCm)
  else
    if aLn = 60 then
      (f_X8_fails Z 2 (0)).bind fun (r7, aTh_7) =>
      some (r7, aTh_7, aLn, aCm)
    else
      rd aLn 60 (kl (upd aCm (Int32.toNatClampNeg aLn) p1) fun aCm_5 =>
      kl (aLn + 1) fun aLn_6 =>
      some (aLn_6, (0), aLn_6, aCm_5))
set_option maxRecDepth 100000 in
set_option maxHeartbeats 4000000 in
theorem k_X8_append (l : Launch) (D : va_G) (cI cS cL : ClassId) (Z : Nat) (h0 : Nat) (h1 : Nat) (h2 : Nat) (h3 : Nat) (h4 : Nat) (h5 : Nat) (p1 : Int32) (aTh : Int32) (aSm : Int32) (aLn : Int32) (aAt : Int32) (aWe : Int32) (aRm : Int32) (aBm : Int32) (aHa : Int64) (aS : Nat → Int32) (aSv : Nat → Int32) (aCm : Nat → Int32) (aRd : Nat → Int32) (aBy : Nat → Int32) {r : Int32} {aTh' : Int32} {aLn' : Int32} {aCm' : Nat → Int32} (h : f_X8_append Z p1 aTh aLn aCm = some (r, aTh', aLn', aCm')) : CI l yX8_append cX8_append 2 (some .int) rm_X8_append D cI cS cL [.ref h0, .int p1] (wX8 cI h0 h1 h2 h3 h4 h5 aTh aSm aLn aAt aWe aRm aBm aHa aS aSv aCm aRd aBy) (wX8 cI h0 h1 h2 h3 h4 h5 (aTh') aSm (aLn') aAt aWe aRm aBm aHa aS aSv (aCm') aRd aBy) r := by
  refine ent_i (by decide +kernel) (Nat.le_of_ble_eq_true rfl) ?_
  intro p e s m args below meth c A ls hx hb hr hml hlocks hg hown hK hP hD hS hA hl
  have hown : s.vm.findClass RX8 = some m.cls := hown
  have hl : lv_has ls 2 [(0, .ref h0), (1, .int p1)] := hl
  have hP : va_P D vwCl (wX8 cI h0 h1 h2 h3 h4 h5 aTh aSm aLn aAt aWe aRm aBm aHa aS aSv aCm aRd aBy) s.heap := hP
  have hD : va_D A (wX8 cI h0 h1 h2 h3 h4 h5 aTh aSm aLn aAt aWe aRm aBm aHa aS aSv aCm aRd aBy) := hD
  show W p l e rm_X8_append s m args below meth c s.heap [] 0 0 (FI D below args s (wX8 cI h0 h1 h2 h3 h4 h5 (aTh') aSm (aLn') aAt aWe aRm aBm aHa aS aSv (aCm') aRd aBy) r A) (F0 m 0 ls [])
  unfold f_X8_append at h
  have hmain : ∀ (H : Heap) (locs : List Loc), va_P D vwCl (wX8 cI h0 h1 h2 h3 h4 h5 aTh aSm aLn aAt aWe aRm aBm aHa aS aSv aCm aRd aBy) H → va_S A s.heap H locs → W p l e rm_X8_append s m args below meth c H locs 0 0 (FI D below args s (wX8 cI h0 h1 h2 h3 h4 h5 (aTh') aSm (aLn') aAt aWe aRm aBm aHa aS aSv (aCm') aRd aBy) r A) (F0 m 0 ls []) := by
    intro H locs hP hS
    refine lv_aload_n hx hb dX8_append_0 rfl (lv_at hl 0 rfl) ?_
    refine lv_iconst (v := 0) hx hb dX8_append_1 (by decide) ?_
    refine va_put (D := D) (ci := 8) (v := .int 0) (ty := tyX8 0) (C := RX8) (T := TX8) (N := 13) hx hb hg uX8 tyX8 tyX8_ok nmX8 hown hK.1 hP hD hS 0 rfl rfl 0 (by decide) (hg _ gw_940) (fun _ h9 => h9) rfl (tyX8_ok 0 (by decide)) rfl rfl (Nat.le_of_ble_eq_true rfl) dX8_append_2 (fun H locs hP hD hS => ?_)
    have hP : va_P D vwCl (wX8 cI h0 h1 h2 h3 h4 h5 (0) aSm aLn aAt aWe aRm aBm aHa aS aSv aCm aRd aBy) H := hP
    have hD : va_D A (wX8 cI h0 h1 h2 h3 h4 h5 (0) aSm aLn aAt aWe aRm aBm aHa aS aSv aCm aRd aBy) := hD
    refine lv_iload_n hx hb dX8_append_5 rfl (lv_at hl 1 rfl) ?_
    refine lv_bipush (v := 33) hx hb dX8_append_6 (by decide) ?_
    refine lv_bipush (v := 126) hx hb dX8_append_8 (by decide) ?_
    obtain ⟨r1, ec1, h⟩ := bd_some h
    refine cS_i (As := [.int p1, .int 33, .int 126]) (rest := []) (wc := []) (wc' := []) hx hb hml hown hg hK hP hD hS hA hl.1 (k_X8_in l D cI cS cL Z p1 33 126 ec1) gs_X8_in gw_991 ⟨rfl, rfl, by decide, by decide⟩ ⟨Nat.zero_le _, Nat.zero_le _⟩ [] rfl rfl rfl rfl rfl (Nat.le_of_ble_eq_true rfl) dX8_append_10 (fun H locs hP hD hS => ?_)
    have hP : va_P D vwCl (wX8 cI h0 h1 h2 h3 h4 h5 (0) aSm aLn aAt aWe aRm aBm aHa aS aSv aCm aRd aBy) H := hP
    have hD : va_D A (wX8 cI h0 h1 h2 h3 h4 h5 (0) aSm aLn aAt aWe aRm aBm aHa aS aSv aCm aRd aBy) := hD
    refine lv_if_ne (tgt := 22) hx hb dX8_append_13 (by decide) (fun q2 => ?_) (fun q2 => ?_)
    · replace h := if_some q2 h
      refine lv_aload_n hx hb dX8_append_22 rfl (lv_at hl 0 rfl) ?_
      refine va_get (D := D) (ci := 8) (v := .int aLn) (C := RX8) (T := TX8) (N := 13) hx hb hg uX8 hown hK.1 hP 0 rfl rfl 5 (by decide) (hg _ gw_945) (fun _ h9 => h9) rfl dX8_append_23 ?_
      refine lv_bipush (v := 60) hx hb dX8_append_26 (by decide) ?_
      refine lv_icmp_ne (tgt := 37) hx hb dX8_append_28 (by decide) (fun q3 => ?_) (fun q3 => ?_)
      · replace h := if_some q3 h
        refine lv_aload_n hx hb dX8_append_37 rfl (lv_at hl 0 rfl) ?_
        refine va_get (D := D) (ci := 8) (v := .ref h3) (C := RX8) (T := TX8) (N := 13) hx hb hg uX8 hown hK.1 hP 0 rfl rfl 4 (by decide) (hg _ gw_944) (fun _ h9 => h9) rfl dX8_append_38 ?_
        refine lv_aload_n hx hb dX8_append_41 rfl (lv_at hl 0 rfl) ?_
        refine va_get (D := D) (ci := 8) (v := .int aLn) (C := RX8) (T := TX8) (N := 13) hx hb hg uX8 hown hK.1 hP 0 rfl rfl 5 (by decide) (hg _ gw_945) (fun _ h9 => h9) rfl dX8_append_42 ?_
        refine lv_iload_n hx hb dX8_append_45 rfl (lv_at hl 1 rfl) ?_
        obtain ⟨v4, h⟩ := rd_some h
        obtain ⟨aCm_5, eaCm_5, h⟩ := kl_some h
        refine va_iast hx hb hK.1 hP hD hS 3 0 rfl rfl v4 dX8_append_46 (fun H locs hP hD hS => ?_)
        have hP : va_P D vwCl (wX8 cI h0 h1 h2 h3 h4 h5 (0) aSm aLn aAt aWe aRm aBm aHa aS aSv aCm_5 aRd aBy) H := by rw [eaCm_5]; exact hP
        have hD : va_D A (wX8 cI h0 h1 h2 h3 h4 h5 (0) aSm aLn aAt aWe aRm aBm aHa aS aSv aCm_5 aRd aBy) := by rw [eaCm_5]; exact hD
        refine lv_aload_n hx hb dX8_append_47 rfl (lv_at hl 0 rfl) ?_
        refine lv_dup hx hb dX8_append_48 rfl ?_
        refine va_get (D := D) (ci := 8) (v := .int aLn) (C := RX8) (T := TX8) (N := 13) hx hb hg uX8 hown hK.1 hP 0 rfl rfl 5 (by decide) (hg _ gw_945) (fun _ h9 => h9) rfl dX8_append_49 ?_
        refine lv_iconst (v := 1) hx hb dX8_append_52 (by decide) ?_
        refine lv_iadd hx hb dX8_append_53 ?_
        obtain ⟨aLn_6, eaLn_6, h⟩ := kl_some h
        refine nm_i eaLn_6 ?_
        refine va_put (D := D) (ci := 8) (v := .int aLn_6) (ty := tyX8 5) (C := RX8) (T := TX8) (N := 13) hx hb hg uX8 tyX8 tyX8_ok nmX8 hown hK.1 hP hD hS 0 rfl rfl 5 (by decide) (hg _ gw_945) (fun _ h9 => h9) rfl (tyX8_ok 5 (by decide)) rfl rfl (Nat.le_of_ble_eq_true rfl) dX8_append_54 (fun H locs hP hD hS => ?_)
        have hP : va_P D vwCl (wX8 cI h0 h1 h2 h3 h4 h5 (0) aSm aLn_6 aAt aWe aRm aBm aHa aS aSv aCm_5 aRd aBy) H := hP
        have hD : va_D A (wX8 cI h0 h1 h2 h3 h4 h5 (0) aSm aLn_6 aAt aWe aRm aBm aHa aS aSv aCm_5 aRd aBy) := hD
        refine lv_aload_n hx hb dX8_append_57 rfl (lv_at hl 0 rfl) ?_
        refine va_get (D := D) (ci := 8) (v := .int aLn_6) (C := RX8) (T := TX8) (N := 13) hx hb hg uX8 hown hK.1 hP 0 rfl rfl 5 (by decide) (hg _ gw_945) (fun _ h9 => h9) rfl dX8_append_58 ?_
        cases h
        exact ret_i hx hb hr hlocks hP hD hS dX8_append_61 rfl
      · replace h := it_some q3 h
        refine lv_aload_n hx hb dX8_append_31 rfl (lv_at hl 0 rfl) ?_
        refine lv_iconst (v := 2) hx hb dX8_append_32 (by decide) ?_
        obtain ⟨⟨r7, aTh_7⟩, ec7, h⟩ := bd_some h
        refine cV_i (As := [.int 2]) (rest := []) (wc := (wX8 cI h0 h1 h2 h3 h4 h5 (0) aSm aLn aAt aWe aRm aBm aHa aS aSv aCm aRd aBy)) (wc' := (wX8 cI h0 h1 h2 h3 h4 h5 aTh_7 aSm aLn aAt aWe aRm aBm aHa aS aSv aCm aRd aBy)) hx hb hml hown hg hK hP hD hS hA hl.1 (k_X8_fails l D cI cS cL Z h0 h1 h2 h3 h4 h5 2 (0) aSm aLn aAt aWe aRm aBm aHa aS aSv aCm aRd aBy ec7) gm_X8_fails gw_994 ⟨rfl, rfl, by decide, by decide⟩ ⟨Nat.zero_le _, Nat.zero_le _⟩ [0, 1, 2, 3, 4, 5] rfl rfl rfl rfl rfl rfl rfl rfl (Nat.le_of_ble_eq_true rfl) dX8_append_33 (fun H locs hP hD hS => ?_)
        have hP : va_P D vwCl (wX8 cI h0 h1 h2 h3 h4 h5 aTh_7 aSm aLn aAt aWe aRm aBm aHa aS aSv aCm aRd aBy) H := hP
        have hD : va_D A (wX8 cI h0 h1 h2 h3 h4 h5 aTh_7 aSm aLn aAt aWe aRm aBm aHa aS aSv aCm aRd aBy) := hD
        cases h
        exact ret_i hx hb hr hlocks hP hD hS dX8_append_36 rfl
    · replace h := it_some q2 h
      refine lv_aload_n hx hb dX8_append_16 rfl (lv_at hl 0 rfl) ?_
      refine lv_iconst (v := 1) hx hb dX8_append_17 (by decide) ?_
      obtain ⟨⟨r8, aTh_8⟩, ec8, h⟩ := bd_some h
      refine cV_i (As := [.int 1]) (rest := []) (wc := (wX8 cI h0 h1 h2 h3 h4 h5 (0) aSm aLn aAt aWe aRm aBm aHa aS aSv aCm aRd aBy)) (wc' := (wX8 cI h0 h1 h2 h3 h4 h5 aTh_8 aSm aLn aAt aWe aRm aBm aHa aS aSv aCm aRd aBy)) hx hb hml hown hg hK hP hD hS hA hl.1 (k_X8_fails l D cI cS cL Z h0 h1 h2 h3 h4 h5 1 (0) aSm aLn aAt aWe aRm aBm aHa aS aSv aCm aRd aBy ec8) gm_X8_fails gw_994 ⟨rfl, rfl, by decide, by decide⟩ ⟨Nat.zero_le _, Nat.zero_le _⟩ [0, 1, 2, 3, 4, 5] rfl rfl rfl rfl rfl rfl rfl rfl (Nat.le_of_ble_eq_true rfl) dX8_append_18 (fun H locs hP hD hS => ?_)
      have hP : va_P D vwCl (wX8 cI h0 h1 h2 h3 h4 h5 aTh_8 aSm aLn aAt aWe aRm aBm aHa aS aSv aCm aRd aBy) H := hP
      have hD : va_D A (wX8 cI h0 h1 h2 h3 h4 h5 aTh_8 aSm aLn aAt aWe aRm aBm aHa aS aSv aCm aRd aBy) := hD
      cases h
      exact ret_i hx hb hr hlocks hP hD hS dX8_append_21 rfl
  exact hmain _ _ hP hS
abbrev rm_X8_clearCommands : Room := { frames := 0, cells := 0, slots := 0, locals := 0 }
def f_X8_clearCommands (Z : Nat) (aTh : Int32) (aLn : Int32) : Option (Int32 × Int32 × Int32) :=
  some (aLn, (0), (0))
set_option maxRecDepth 100000 in
set_option maxHeartbeats 4000000 in
theorem k_X8_clearCommands (l : Launch) (D : va_G) (cI cS cL : ClassId) (Z : Nat) (h0 : Nat) (h1 : Nat) (h2 : Nat) (h3 : Nat) (h4 : Nat) (h5 : Nat) (aTh : Int32) (aSm : Int32) (aLn : Int32) (aAt : Int32) (aWe : Int32) (aRm : Int32) (aBm : Int32) (aHa : Int64) (aS : Nat → Int32) (aSv : Nat → Int32) (aCm : Nat → Int32) (aRd : Nat → Int32) (aBy : Nat → Int32) {r : Int32} {aTh' : Int32} {aLn' : Int32} (h : f_X8_clearCommands Z aTh aLn = some (r, aTh', aLn')) : CI l yX8_clearCommands cX8_clearCommands 2 (some .int) rm_X8_clearCommands D cI cS cL [.ref h0] (wX8 cI h0 h1 h2 h3 h4 h5 aTh aSm aLn aAt aWe aRm aBm aHa aS aSv aCm aRd aBy) (wX8 cI h0 h1 h2 h3 h4 h5 (aTh') aSm (aLn') aAt aWe aRm aBm aHa aS aSv aCm aRd aBy) r := by
  refine ent_i (by decide +kernel) (Nat.le_of_ble_eq_true rfl) ?_
  intro p e s m args below meth c A ls hx hb hr hml hlocks hg hown hK hP hD hS hA hl
  have hown : s.vm.findClass RX8 = some m.cls := hown
  have hl : lv_has ls 2 [(0, .ref h0)] := hl
  have hP : va_P D vwCl (wX8 cI h0 h1 h2 h3 h4 h5 aTh aSm aLn aAt aWe aRm aBm aHa aS aSv aCm aRd aBy) s.heap := hP
  have hD : va_D A (wX8 cI h0 h1 h2 h3 h4 h5 aTh aSm aLn aAt aWe aRm aBm aHa aS aSv aCm aRd aBy) := hD
  show W p l e rm_X8_clearCommands s m args below meth c s.heap [] 0 0 (FI D below args s (wX8 cI h0 h1 h2 h3 h4 h5 (aTh') aSm (aLn') aAt aWe aRm aBm aHa aS aSv aCm aRd aBy) r A) (F0 m 0 ls [])
  unfold f_X8_clearCommands at h
  have hmain : ∀ (H : Heap) (locs : List Loc), va_P D vwCl (wX8 cI h0 h1 h2 h3 h4 h5 aTh aSm aLn aAt aWe aRm aBm aHa aS aSv aCm aRd aBy) H → va_S A s.heap H locs → W p l e rm_X8_clearCommands s m args below meth c H locs 0 0 (FI D below args s (wX8 cI h0 h1 h2 h3 h4 h5 (aTh') aSm (aLn') aAt aWe aRm aBm aHa aS aSv aCm aRd aBy) r A) (F0 m 0 ls []) := by
    intro H locs hP hS
    refine lv_aload_n hx hb dX8_clearCommands_0 rfl (lv_at hl 0 rfl) ?_
    refine lv_iconst (v := 0) hx hb dX8_clearCommands_1 (by decide) ?_
    refine va_put (D := D) (ci := 8) (v := .int 0) (ty := tyX8 0) (C := RX8) (T := TX8) (N := 13) hx hb hg uX8 tyX8 tyX8_ok nmX8 hown hK.1 hP hD hS 0 rfl rfl 0 (by decide) (hg _ gw_940) (fun _ h9 => h9) rfl (tyX8_ok 0 (by decide)) rfl rfl (Nat.le_of_ble_eq_true rfl) dX8_clearCommands_2 (fun H locs hP hD hS => ?_)
    have hP : va_P D vwCl (wX8 cI h0 h1 h2 h3 h4 h5 (0) aSm aLn aAt aWe aRm aBm aHa aS aSv aCm aRd aBy) H := hP
    have hD : va_D A (wX8 cI h0 h1 h2 h3 h4 h5 (0) aSm aLn aAt aWe aRm aBm aHa aS aSv aCm aRd aBy) := hD
    refine lv_aload_n hx hb dX8_clearCommands_5 rfl (lv_at hl 0 rfl) ?_
    refine va_get (D := D) (ci := 8) (v := .int aLn) (C := RX8) (T := TX8) (N := 13) hx hb hg uX8 hown hK.1 hP 0 rfl rfl 5 (by decide) (hg _ gw_945) (fun _ h9 => h9) rfl dX8_clearCommands_6 ?_
    refine lv_istore_n (lv' := [(1, .int aLn), (0, .ref h0)]) hx hb dX8_clearCommands_9 rfl hl (by decide) rfl (fun ls hl => ?_)
    refine lv_aload_n hx hb dX8_clearCommands_10 rfl (lv_at hl 1 rfl) ?_
    refine lv_iconst (v := 0) hx hb dX8_clearCommands_11 (by decide) ?_
    refine va_put (D := D) (ci := 8) (v := .int 0) (ty := tyX8 5) (C := RX8) (T := TX8) (N := 13) hx hb hg uX8 tyX8 tyX8_ok nmX8 hown hK.1 hP hD hS 0 rfl rfl 5 (by decide) (hg _ gw_945) (fun _ h9 => h9) rfl (tyX8_ok 5 (by decide)) rfl rfl (Nat.le_of_ble_eq_true rfl) dX8_clearCommands_12 (fun H locs hP hD hS => ?_)
    have hP : va_P D vwCl (wX8 cI h0 h1 h2 h3 h4 h5 (0) aSm (0) aAt aWe aRm aBm aHa aS aSv aCm aRd aBy) H := hP
    have hD : va_D A (wX8 cI h0 h1 h2 h3 h4 h5 (0) aSm (0) aAt aWe aRm aBm aHa aS aSv aCm aRd aBy) := hD
    refine lv_iload_n hx hb dX8_clearCommands_15 rfl (lv_at hl 0 rfl) ?_
    cases h
    exact ret_i hx hb hr hlocks hP hD hS dX8_clearCommands_16 rfl
  exact hmain _ _ hP hS
abbrev rm_X8_sign : Room := { frames := 0, cells := 0, slots := 0, locals := 0 }
def f_X8_sign (Z : Nat) (aLn : Int32) (aAt : Int32) (aCm : Nat → Int32) : Option (Int32) :=
  if aLn ≤ aAt then
    some 0
  else
    rd aAt 60 (
    some (aCm (Int32.toNatClampNeg aAt)))
set_option maxRecDepth 100000 in
set_option maxHeartbeats 4000000 in
theorem k_X8_sign (l : Launch) (D : va_G) (cI cS cL : ClassId) (Z : Nat) (h0 : Nat) (h1 : Nat) (h2 : Nat) (h3 : Nat) (h4 : Nat) (h5 : Nat) (aTh : Int32) (aSm : Int32) (aLn : Int32) (aAt : Int32) (aWe : Int32) (aRm : Int32) (aBm : Int32) (aHa : Int64) (aS : Nat → Int32) (aSv : Nat → Int32) (aCm : Nat → Int32) (aRd : Nat → Int32) (aBy : Nat → Int32) {r : Int32} (h : f_X8_sign Z aLn aAt aCm = some r) : CI l yX8_sign cX8_sign 1 (some .int) rm_X8_sign D cI cS cL [.ref h0] (wX8 cI h0 h1 h2 h3 h4 h5 aTh aSm aLn aAt aWe aRm aBm aHa aS aSv aCm aRd aBy) (wX8 cI h0 h1 h2 h3 h4 h5 aTh aSm aLn aAt aWe aRm aBm aHa aS aSv aCm aRd aBy) r := by
  refine ent_i (by decide +kernel) (Nat.le_of_ble_eq_true rfl) ?_
  intro p e s m args below meth c A ls hx hb hr hml hlocks hg hown hK hP hD hS hA hl
  have hown : s.vm.findClass RX8 = some m.cls := hown
  have hl : lv_has ls 1 [(0, .ref h0)] := hl
  have hP : va_P D vwCl (wX8 cI h0 h1 h2 h3 h4 h5 aTh aSm aLn aAt aWe aRm aBm aHa aS aSv aCm aRd aBy) s.heap := hP
  have hD : va_D A (wX8 cI h0 h1 h2 h3 h4 h5 aTh aSm aLn aAt aWe aRm aBm aHa aS aSv aCm aRd aBy) := hD
  show W p l e rm_X8_sign s m args below meth c s.heap [] 0 0 (FI D below args s (wX8 cI h0 h1 h2 h3 h4 h5 aTh aSm aLn aAt aWe aRm aBm aHa aS aSv aCm aRd aBy) r A) (F0 m 0 ls [])
  unfold f_X8_sign at h
  have hmain : ∀ (H : Heap) (locs : List Loc), va_P D vwCl (wX8 cI h0 h1 h2 h3 h4 h5 aTh aSm aLn aAt aWe aRm aBm aHa aS aSv aCm aRd aBy) H → va_S A s.heap H locs → W p l e rm_X8_sign s m args below meth c H locs 0 0 (FI D below args s (wX8 cI h0 h1 h2 h3 h4 h5 aTh aSm aLn aAt aWe aRm aBm aHa aS aSv aCm aRd aBy) r A) (F0 m 0 ls []) := by
    intro H locs hP hS
    refine lv_aload_n hx hb dX8_sign_0 rfl (lv_at hl 0 rfl) ?_
    refine va_get (D := D) (ci := 8) (v := .int aAt) (C := RX8) (T := TX8) (N := 13) hx hb hg uX8 hown hK.1 hP 0 rfl rfl 6 (by decide) (hg _ gw_946) (fun _ h9 => h9) rfl dX8_sign_1 ?_
    refine lv_aload_n hx hb dX8_sign_4 rfl (lv_at hl 0 rfl) ?_
    refine va_get (D := D) (ci := 8) (v := .int aLn) (C := RX8) (T := TX8) (N := 13) hx hb hg uX8 hown hK.1 hP 0 rfl rfl 5 (by decide) (hg _ gw_945) (fun _ h9 => h9) rfl dX8_sign_5 ?_
    refine lv_icmp_ge (tgt := 23) hx hb dX8_sign_8 (by decide) (fun q1 => ?_) (fun q1 => ?_)
    · replace h := it_some q1 h
      refine lv_iconst (v := 0) hx hb dX8_sign_23 (by decide) ?_
      cases h
      exact ret_i hx hb hr hlocks hP hD hS dX8_sign_24 rfl
    · replace h := if_some q1 h
      refine lv_aload_n hx hb dX8_sign_11 rfl (lv_at hl 0 rfl) ?_
      refine va_get (D := D) (ci := 8) (v := .ref h3) (C := RX8) (T := TX8) (N := 13) hx hb hg uX8 hown hK.1 hP 0 rfl rfl 4 (by decide) (hg _ gw_944) (fun _ h9 => h9) rfl dX8_sign_12 ?_
      refine lv_aload_n hx hb dX8_sign_15 rfl (lv_at hl 0 rfl) ?_
      refine va_get (D := D) (ci := 8) (v := .int aAt) (C := RX8) (T := TX8) (N := 13) hx hb hg uX8 hown hK.1 hP 0 rfl rfl 6 (by decide) (hg _ gw_946) (fun _ h9 => h9) rfl dX8_sign_16 ?_
      obtain ⟨v2, h⟩ := rd_some h
      refine va_iald hx hb hK.1 hP 3 0 rfl rfl v2 dX8_sign_19 ?_
      refine lv_goto (tgt := 24) hx hb dX8_sign_20 (by decide) ?_
      cases h
      exact ret_i hx hb hr hlocks hP hD hS dX8_sign_24 rfl
  exact hmain _ _ hP hS
abbrev rm_X8_isFigure : Room := { frames := 1, cells := 0, slots := 0, locals := 22 }
def f_X8_isFigure (Z : Nat) (aLn : Int32) (aAt : Int32) (aCm : Nat → Int32) : Option (Int32) :=
  (f_X8_sign Z aLn aAt aCm).bind fun r1 =>
  (f_X8_in Z r1 48 57).bind fun r2 =>
  kb r2 (some r2)
set_option maxRecDepth 100000 in
set_option maxHeartbeats 4000000 in
theorem k_X8_isFigure (l : Launch) (D : va_G) (cI cS cL : ClassId) (Z : Nat) (h0 : Nat) (h1 : Nat) (h2 : Nat) (h3 : Nat) (h4 : Nat) (h5 : Nat) (aTh : Int32) (aSm : Int32) (aLn : Int32) (aAt : Int32) (aWe : Int32) (aRm : Int32) (aBm : Int32) (aHa : Int64) (aS : Nat → Int32) (aSv : Nat → Int32) (aCm : Nat → Int32) (aRd : Nat → Int32) (aBy : Nat → Int32) {r : Int32} (h : f_X8_isFigure Z aLn aAt aCm = some r) : CI l yX8_isFigure cX8_isFigure 1 (some .boolean) rm_X8_isFigure D cI cS cL [.ref h0] (wX8 cI h0 h1 h2 h3 h4 h5 aTh aSm aLn aAt aWe aRm aBm aHa aS aSv aCm aRd aBy) (wX8 cI h0 h1 h2 h3 h4 h5 aTh aSm aLn aAt aWe aRm aBm aHa aS aSv aCm aRd aBy) r := by
  refine ent_i (by decide +kernel) (Nat.le_of_ble_eq_true rfl) ?_
  intro p e s m args below meth c A ls hx hb hr hml hlocks hg hown hK hP hD hS hA hl
  have hown : s.vm.findClass RX8 = some m.cls := hown
  have hl : lv_has ls 1 [(0, .ref h0)] := hl
  have hP : va_P D vwCl (wX8 cI h0 h1 h2 h3 h4 h5 aTh aSm aLn aAt aWe aRm aBm aHa aS aSv aCm aRd aBy) s.heap := hP
  have hD : va_D A (wX8 cI h0 h1 h2 h3 h4 h5 aTh aSm aLn aAt aWe aRm aBm aHa aS aSv aCm aRd aBy) := hD
  show W p l e rm_X8_isFigure s m args below meth c s.heap [] 0 0 (FI D below args s (wX8 cI h0 h1 h2 h3 h4 h5 aTh aSm aLn aAt aWe aRm aBm aHa aS aSv aCm aRd aBy) r A) (F0 m 0 ls [])
  unfold f_X8_isFigure at h
  have hmain : ∀ (H : Heap) (locs : List Loc), va_P D vwCl (wX8 cI h0 h1 h2 h3 h4 h5 aTh aSm aLn aAt aWe aRm aBm aHa aS aSv aCm aRd aBy) H → va_S A s.heap H locs → W p l e rm_X8_isFigure s m args below meth c H locs 0 0 (FI D below args s (wX8 cI h0 h1 h2 h3 h4 h5 aTh aSm aLn aAt aWe aRm aBm aHa aS aSv aCm aRd aBy) r A) (F0 m 0 ls []) := by
    intro H locs hP hS
    refine lv_aload_n hx hb dX8_isFigure_0 rfl (lv_at hl 0 rfl) ?_
    obtain ⟨r1, ec1, h⟩ := bd_some h
    refine cV_i (As := []) (rest := []) (wc := (wX8 cI h0 h1 h2 h3 h4 h5 aTh aSm aLn aAt aWe aRm aBm aHa aS aSv aCm aRd aBy)) (wc' := (wX8 cI h0 h1 h2 h3 h4 h5 aTh aSm aLn aAt aWe aRm aBm aHa aS aSv aCm aRd aBy)) hx hb hml hown hg hK hP hD hS hA hl.1 (k_X8_sign l D cI cS cL Z h0 h1 h2 h3 h4 h5 aTh aSm aLn aAt aWe aRm aBm aHa aS aSv aCm aRd aBy ec1) gm_X8_sign gw_1267 ⟨rfl, rfl, by decide, by decide⟩ ⟨Nat.zero_le _, Nat.zero_le _⟩ [0, 1, 2, 3, 4, 5] rfl rfl rfl rfl rfl rfl rfl rfl (Nat.le_of_ble_eq_true rfl) dX8_isFigure_1 (fun H locs hP hD hS => ?_)
    have hP : va_P D vwCl (wX8 cI h0 h1 h2 h3 h4 h5 aTh aSm aLn aAt aWe aRm aBm aHa aS aSv aCm aRd aBy) H := hP
    have hD : va_D A (wX8 cI h0 h1 h2 h3 h4 h5 aTh aSm aLn aAt aWe aRm aBm aHa aS aSv aCm aRd aBy) := hD
    refine lv_bipush (v := 48) hx hb dX8_isFigure_4 (by decide) ?_
    refine lv_bipush (v := 57) hx hb dX8_isFigure_6 (by decide) ?_
    obtain ⟨r2, ec2, h⟩ := bd_some h
    refine cS_i (As := [.int r1, .int 48, .int 57]) (rest := []) (wc := []) (wc' := []) hx hb hml hown hg hK hP hD hS hA hl.1 (k_X8_in l D cI cS cL Z r1 48 57 ec2) gs_X8_in gw_991 ⟨rfl, rfl, by decide, by decide⟩ ⟨Nat.zero_le _, Nat.zero_le _⟩ [] rfl rfl rfl rfl rfl (Nat.le_of_ble_eq_true rfl) dX8_isFigure_8 (fun H locs hP hD hS => ?_)
    have hP : va_P D vwCl (wX8 cI h0 h1 h2 h3 h4 h5 aTh aSm aLn aAt aWe aRm aBm aHa aS aSv aCm aRd aBy) H := hP
    have hD : va_D A (wX8 cI h0 h1 h2 h3 h4 h5 aTh aSm aLn aAt aWe aRm aBm aHa aS aSv aCm aRd aBy) := hD
    obtain ⟨b3, h⟩ := kb_some h
    cases h
    exact ret_z hx hb hr hlocks hP hD hS dX8_isFigure_11 b3 rfl
  exact hmain _ _ hP hS
abbrev rm_X8_number : Room := { frames := 2, cells := 0, slots := 0, locals := 42 }
def f_X8_number_b83 (Z : Nat) (p1 : Int32) (p2 : Int32) (aLn : Int32) (aCm : Nat → Int32) (rec : Int32 → Int32 → Int32 → Option (Int32 × Int32 × Int32)) (x3 : Int32) (aAt : Int32) (aWe : Int32) : Option (Int32 × Int32 × Int32) :=
      if aWe = 0 then
        some (x3, aAt, aWe)
      else
        if x3 ≤ 0 then
          some (x3, aAt, aWe)
        else
          (f_X8_isFigure Z aLn aAt aCm).bind fun r3 =>
          if r3 = 0 then
            some (x3, aAt, aWe)
          else
            (f_X8_sign Z aLn aAt aCm).bind fun r5 =>
            if p2 < (((10 * x3) + r5) - 48) then
              some (x3, aAt, aWe)
            else
              (f_X8_sign Z aLn aAt aCm).bind fun r7 =>
              kl (((10 * x3) + r7) - 48) fun x3_8 =>
              kl (aAt + 1) fun aAt_9 =>
              rec x3_8 aAt_9 aWe
def f_X8_number_l83 (Z : Nat) (p1 : Int32) (p2 : Int32) (aLn : Int32) (aCm : Nat → Int32) : Nat → Int32 → Int32 → Int32 → Option (Int32 × Int32 × Int32)
  | 0, _, _, _ => none
  | n + 1, x3, aAt, aWe => f_X8_number_b83 Z p1 p2 aLn aCm (f_X8_number_l83 Z p1 p2 aLn aCm n) x3 aAt aWe
def f_X8_number_c79 (Z : Nat) (p1 : Int32) (p2 : Int32) (aLn : Int32) (aCm : Nat → Int32) (x3 : Int32) (y1 : Int32) (y2 : Int32) (aAt : Int32) (aWe : Int32) : Option (Int32 × Int32 × Int32) :=
    kl (y1 + y2) fun aAt_10 =>
    f_X8_number_l83 Z p1 p2 aLn aCm Z x3 aAt_10 aWe
def f_X8_number_c51 (Z : Nat) (p1 : Int32) (p2 : Int32) (aLn : Int32) (aCm : Nat → Int32) (y1 : Int32) (aAt : Int32) (aWe : Int32) : Option (Int32 × Int32 × Int32) :=
    kb y1 (
    (f_X8_sign Z aLn aAt aCm).bind fun r12 =>
    kl (r12 - 48) fun x3_13 =>
    if y1 = 0 then
      f_X8_number_c79 Z p1 p2 aLn aCm x3_13 aAt 0 aAt y1
    else
      f_X8_number_c79 Z p1 p2 aLn aCm x3_13 aAt 1 aAt y1)
def f_X8_number_c50 (Z : Nat) (p1 : Int32) (p2 : Int32) (aLn : Int32) (aCm : Nat → Int32) (aAt : Int32) (aWe : Int32) : Option (Int32 × Int32 × Int32) :=
    f_X8_number_c51 Z p1 p2 aLn aCm 0 aAt aWe
def f_X8_number_c32 (Z : Nat) (p1 : Int32) (p2 : Int32) (aLn : Int32) (aCm : Nat → Int32) (y1 : Int32) (y2 : Int32) (aAt : Int32) (aWe : Int32) : Option (Int32 × Int32 × Int32) :=
    if y1 < y2 then
      f_X8_number_c50 Z p1 p2 aLn aCm aAt aWe
    else
      (f_X8_sign Z aLn aAt aCm).bind fun r16 =>
      if p2 < (r16 - 48) then
        f_X8_number_c50 Z p1 p2 aLn aCm aAt aWe
      else
        f_X8_number_c51 Z p1 p2 aLn aCm 1 aAt aWe
def f_X8_number (Z : Nat) (p1 : Int32) (p2 : Int32) (aLn : Int32) (aAt : Int32) (aWe : Int32) (aCm : Nat → Int32) : Option (Int32 × Int32 × Int32) :=
  if aWe = 0 then
    f_X8_number_c50 Z p1 p2 aLn aCm aAt aWe
  else
    (f_X8_isFigure Z aLn aAt aCm).bind fun r19 =>
    if r19 = 0 then
      f_X8_number_c50 Z p1 p2 aLn aCm aAt aWe
    else
      (f_X8_sign Z aLn aAt aCm).bind fun r21 =>
      if 1 ≤ p1 then
        f_X8_number_c32 Z p1 p2 aLn aCm (r21 - 48) 1 aAt aWe
      else
        f_X8_number_c32 Z p1 p2 aLn aCm (r21 - 48) 0 aAt aWe
set_option maxRecDepth 100000 in
set_option maxHeartbeats 4000000 in
theorem k_X8_number (l : Launch) (D : va_G) (cI cS cL : ClassId) (Z : Nat) (h0 : Nat) (h1 : Nat) (h2 : Nat) (h3 : Nat) (h4 : Nat) (h5 : Nat) (p1 : Int32) (p2 : Int32) (aTh : Int32) (aSm : Int32) (aLn : Int32) (aAt : Int32) (aWe : Int32) (aRm : Int32) (aBm : Int32) (aHa : Int64) (aS : Nat → Int32) (aSv : Nat → Int32) (aCm : Nat → Int32) (aRd : Nat → Int32) (aBy : Nat → Int32) {r : Int32} {aAt' : Int32} {aWe' : Int32} (h : f_X8_number Z p1 p2 aLn aAt aWe aCm = some (r, aAt', aWe')) : CI l yX8_number cX8_number 4 (some .int) rm_X8_number D cI cS cL [.ref h0, .int p1, .int p2] (wX8 cI h0 h1 h2 h3 h4 h5 aTh aSm aLn aAt aWe aRm aBm aHa aS aSv aCm aRd aBy) (wX8 cI h0 h1 h2 h3 h4 h5 aTh aSm aLn (aAt') (aWe') aRm aBm aHa aS aSv aCm aRd aBy) r := by
  refine ent_i (by decide +kernel) (Nat.le_of_ble_eq_true rfl) ?_
  intro p e s m args below meth c A ls hx hb hr hml hlocks hg hown hK hP hD hS hA hl
  have hown : s.vm.findClass RX8 = some m.cls := hown
  have c_83 : ∀ (n : Nat) (x3 : Int32) (aAt : Int32) (aWe : Int32), f_X8_number_l83 Z p1 p2 aLn aCm n x3 aAt aWe = some (r, aAt', aWe') → ∀ (H : Heap) (locs : List Loc), va_P D vwCl (wX8 cI h0 h1 h2 h3 h4 h5 aTh aSm aLn aAt aWe aRm aBm aHa aS aSv aCm aRd aBy) H → va_D A (wX8 cI h0 h1 h2 h3 h4 h5 aTh aSm aLn aAt aWe aRm aBm aHa aS aSv aCm aRd aBy) → va_S A s.heap H locs → ∀ ls : Array Slot, lv_has ls 4 [(0, .ref h0), (2, .int p2), (3, .int x3)] → W p l e rm_X8_number s m args below meth c H locs 0 0 (FI D below args s (wX8 cI h0 h1 h2 h3 h4 h5 aTh aSm aLn (aAt') (aWe') aRm aBm aHa aS aSv aCm aRd aBy) r A) (F0 m 83 ls []) := by
    intro n
    induction n with
    | zero => intro x3 aAt aWe h; exact no_some h
    | succ n ih =>
      intro x3 aAt aWe h H locs hP hD hS ls hl
      have h : f_X8_number_b83 Z p1 p2 aLn aCm (f_X8_number_l83 Z p1 p2 aLn aCm n) x3 aAt aWe = some (r, aAt', aWe') := h
      unfold f_X8_number_b83 at h
      refine lv_aload_n hx hb dX8_number_83 rfl (lv_at hl 0 rfl) ?_
      refine va_get (D := D) (ci := 8) (v := .int aWe) (C := RX8) (T := TX8) (N := 13) hx hb hg uX8 hown hK.1 hP 0 rfl rfl 7 (by decide) (hg _ gw_947) (fun _ h9 => h9) rfl dX8_number_84 ?_
      refine lv_if_eq (tgt := 143) hx hb dX8_number_87 (by decide) (fun q1 => ?_) (fun q1 => ?_)
      · replace h := it_some q1 h
        refine lv_iload_n hx hb dX8_number_143 rfl (lv_at hl 2 rfl) ?_
        cases h
        exact ret_i hx hb hr hlocks hP hD hS dX8_number_144 rfl
      · replace h := if_some q1 h
        refine lv_iload_n hx hb dX8_number_90 rfl (lv_at hl 2 rfl) ?_
        refine lv_if_le (tgt := 143) hx hb dX8_number_91 (by decide) (fun q2 => ?_) (fun q2 => ?_)
        · replace h := it_some q2 h
          refine lv_iload_n hx hb dX8_number_143 rfl (lv_at hl 2 rfl) ?_
          cases h
          exact ret_i hx hb hr hlocks hP hD hS dX8_number_144 rfl
        · replace h := if_some q2 h
          refine lv_aload_n hx hb dX8_number_94 rfl (lv_at hl 0 rfl) ?_
          obtain ⟨r3, ec3, h⟩ := bd_some h
          refine cV_i (As := []) (rest := []) (wc := (wX8 cI h0 h1 h2 h3 h4 h5 aTh aSm aLn aAt aWe aRm aBm aHa aS aSv aCm aRd aBy)) (wc' := (wX8 cI h0 h1 h2 h3 h4 h5 aTh aSm aLn aAt aWe aRm aBm aHa aS aSv aCm aRd aBy)) hx hb hml hown hg hK hP hD hS hA hl.1 (k_X8_isFigure l D cI cS cL Z h0 h1 h2 h3 h4 h5 aTh aSm aLn aAt aWe aRm aBm aHa aS aSv aCm aRd aBy ec3) gm_X8_isFigure gw_1279 ⟨rfl, rfl, by decide, by decide⟩ ⟨Nat.zero_le _, Nat.zero_le _⟩ [0, 1, 2, 3, 4, 5] rfl rfl rfl rfl rfl rfl rfl rfl (Nat.le_of_ble_eq_true rfl) dX8_number_95 (fun H locs hP hD hS => ?_)
          have hP : va_P D vwCl (wX8 cI h0 h1 h2 h3 h4 h5 aTh aSm aLn aAt aWe aRm aBm aHa aS aSv aCm aRd aBy) H := hP
          have hD : va_D A (wX8 cI h0 h1 h2 h3 h4 h5 aTh aSm aLn aAt aWe aRm aBm aHa aS aSv aCm aRd aBy) := hD
          refine lv_if_eq (tgt := 143) hx hb dX8_number_98 (by decide) (fun q4 => ?_) (fun q4 => ?_)
          · replace h := it_some q4 h
            refine lv_iload_n hx hb dX8_number_143 rfl (lv_at hl 2 rfl) ?_
            cases h
            exact ret_i hx hb hr hlocks hP hD hS dX8_number_144 rfl
          · replace h := if_some q4 h
            refine lv_bipush (v := 10) hx hb dX8_number_101 (by decide) ?_
            refine lv_iload_n hx hb dX8_number_103 rfl (lv_at hl 2 rfl) ?_
            refine lv_imul hx hb dX8_number_104 ?_
            refine lv_aload_n hx hb dX8_number_105 rfl (lv_at hl 0 rfl) ?_
            obtain ⟨r5, ec5, h⟩ := bd_some h
            refine cV_i (As := []) (rest := [.int (10 * x3)]) (wc := (wX8 cI h0 h1 h2 h3 h4 h5 aTh aSm aLn aAt aWe aRm aBm aHa aS aSv aCm aRd aBy)) (wc' := (wX8 cI h0 h1 h2 h3 h4 h5 aTh aSm aLn aAt aWe aRm aBm aHa aS aSv aCm aRd aBy)) hx hb hml hown hg hK hP hD hS hA hl.1 (k_X8_sign l D cI cS cL Z h0 h1 h2 h3 h4 h5 aTh aSm aLn aAt aWe aRm aBm aHa aS aSv aCm aRd aBy ec5) gm_X8_sign gw_1267 ⟨rfl, rfl, by decide, by decide⟩ ⟨Nat.zero_le _, Nat.zero_le _⟩ [0, 1, 2, 3, 4, 5] rfl rfl rfl rfl rfl rfl rfl rfl (Nat.le_of_ble_eq_true rfl) dX8_number_106 (fun H locs hP hD hS => ?_)
            have hP : va_P D vwCl (wX8 cI h0 h1 h2 h3 h4 h5 aTh aSm aLn aAt aWe aRm aBm aHa aS aSv aCm aRd aBy) H := hP
            have hD : va_D A (wX8 cI h0 h1 h2 h3 h4 h5 aTh aSm aLn aAt aWe aRm aBm aHa aS aSv aCm aRd aBy) := hD
            refine lv_iadd hx hb dX8_number_109 ?_
            refine lv_bipush (v := 48) hx hb dX8_number_110 (by decide) ?_
            refine lv_isub hx hb dX8_number_112 ?_
            refine lv_iload_n hx hb dX8_number_113 rfl (lv_at hl 1 rfl) ?_
            refine lv_icmp_gt (tgt := 143) hx hb dX8_number_114 (by decide) (fun q6 => ?_) (fun q6 => ?_)
            · replace h := it_some q6 h
              refine lv_iload_n hx hb dX8_number_143 rfl (lv_at hl 2 rfl) ?_
              cases h
              exact ret_i hx hb hr hlocks hP hD hS dX8_number_144 rfl
            · replace h := if_some q6 h
              refine lv_bipush (v := 10) hx hb dX8_number_117 (by decide) ?_
              refine lv_iload_n hx hb dX8_number_119 rfl (lv_at hl 2 rfl) ?_
              refine lv_imul hx hb dX8_number_120 ?_
              refine lv_aload_n hx hb dX8_number_121 rfl (lv_at hl 0 rfl) ?_
              obtain ⟨r7, ec7, h⟩ := bd_some h
              refine cV_i (As := []) (rest := [.int (10 * x3)]) (wc := (wX8 cI h0 h1 h2 h3 h4 h5 aTh aSm aLn aAt aWe aRm aBm aHa aS aSv aCm aRd aBy)) (wc' := (wX8 cI h0 h1 h2 h3 h4 h5 aTh aSm aLn aAt aWe aRm aBm aHa aS aSv aCm aRd aBy)) hx hb hml hown hg hK hP hD hS hA hl.1 (k_X8_sign l D cI cS cL Z h0 h1 h2 h3 h4 h5 aTh aSm aLn aAt aWe aRm aBm aHa aS aSv aCm aRd aBy ec7) gm_X8_sign gw_1267 ⟨rfl, rfl, by decide, by decide⟩ ⟨Nat.zero_le _, Nat.zero_le _⟩ [0, 1, 2, 3, 4, 5] rfl rfl rfl rfl rfl rfl rfl rfl (Nat.le_of_ble_eq_true rfl) dX8_number_122 (fun H locs hP hD hS => ?_)
              have hP : va_P D vwCl (wX8 cI h0 h1 h2 h3 h4 h5 aTh aSm aLn aAt aWe aRm aBm aHa aS aSv aCm aRd aBy) H := hP
              have hD : va_D A (wX8 cI h0 h1 h2 h3 h4 h5 aTh aSm aLn aAt aWe aRm aBm aHa aS aSv aCm aRd aBy) := hD
              refine lv_iadd hx hb dX8_number_125 ?_
              refine lv_bipush (v := 48) hx hb dX8_number_126 (by decide) ?_
              refine lv_isub hx hb dX8_number_128 ?_
              obtain ⟨x3_8, ex3_8, h⟩ := kl_some h
              refine nm_i ex3_8 ?_
              refine lv_istore_n (lv' := [(3, .int x3_8), (0, .ref h0), (2, .int p2)]) hx hb dX8_number_129 rfl hl (by decide) rfl (fun ls hl => ?_)
              refine lv_aload_n hx hb dX8_number_130 rfl (lv_at hl 1 rfl) ?_
              refine lv_dup hx hb dX8_number_131 rfl ?_
              refine va_get (D := D) (ci := 8) (v := .int aAt) (C := RX8) (T := TX8) (N := 13) hx hb hg uX8 hown hK.1 hP 0 rfl rfl 6 (by decide) (hg _ gw_946) (fun _ h9 => h9) rfl dX8_number_132 ?_
              refine lv_iconst (v := 1) hx hb dX8_number_135 (by decide) ?_
              refine lv_iadd hx hb dX8_number_136 ?_
              obtain ⟨aAt_9, eaAt_9, h⟩ := kl_some h
              refine nm_i eaAt_9 ?_
              refine va_put (D := D) (ci := 8) (v := .int aAt_9) (ty := tyX8 6) (C := RX8) (T := TX8) (N := 13) hx hb hg uX8 tyX8 tyX8_ok nmX8 hown hK.1 hP hD hS 0 rfl rfl 6 (by decide) (hg _ gw_946) (fun _ h9 => h9) rfl (tyX8_ok 6 (by decide)) rfl rfl (Nat.le_of_ble_eq_true rfl) dX8_number_137 (fun H locs hP hD hS => ?_)
              have hP : va_P D vwCl (wX8 cI h0 h1 h2 h3 h4 h5 aTh aSm aLn aAt_9 aWe aRm aBm aHa aS aSv aCm aRd aBy) H := hP
              have hD : va_D A (wX8 cI h0 h1 h2 h3 h4 h5 aTh aSm aLn aAt_9 aWe aRm aBm aHa aS aSv aCm aRd aBy) := hD
              refine lv_goto (tgt := 83) hx hb dX8_number_140 (by decide) ?_
              exact ih x3_8 aAt_9 aWe h H locs hP hD hS ls (lv_sub hl [1, 2, 0] rfl)
  have c_79 : ∀ (x3 : Int32) (y1 : Int32) (y2 : Int32) (aAt : Int32) (aWe : Int32), f_X8_number_c79 Z p1 p2 aLn aCm x3 y1 y2 aAt aWe = some (r, aAt', aWe') → ∀ (H : Heap) (locs : List Loc), va_P D vwCl (wX8 cI h0 h1 h2 h3 h4 h5 aTh aSm aLn aAt aWe aRm aBm aHa aS aSv aCm aRd aBy) H → va_D A (wX8 cI h0 h1 h2 h3 h4 h5 aTh aSm aLn aAt aWe aRm aBm aHa aS aSv aCm aRd aBy) → va_S A s.heap H locs → ∀ ls : Array Slot, lv_has ls 4 [(0, .ref h0), (2, .int p2), (3, .int x3)] → W p l e rm_X8_number s m args below meth c H locs 0 0 (FI D below args s (wX8 cI h0 h1 h2 h3 h4 h5 aTh aSm aLn (aAt') (aWe') aRm aBm aHa aS aSv aCm aRd aBy) r A) (F0 m 79 ls [.int y2, .int y1, .ref h0]) := by
    intro x3 y1 y2 aAt aWe h H locs hP hD hS ls hl
    unfold f_X8_number_c79 at h
    refine lv_iadd hx hb dX8_number_79 ?_
    obtain ⟨aAt_10, eaAt_10, h⟩ := kl_some h
    refine nm_i eaAt_10 ?_
    refine va_put (D := D) (ci := 8) (v := .int aAt_10) (ty := tyX8 6) (C := RX8) (T := TX8) (N := 13) hx hb hg uX8 tyX8 tyX8_ok nmX8 hown hK.1 hP hD hS 0 rfl rfl 6 (by decide) (hg _ gw_946) (fun _ h9 => h9) rfl (tyX8_ok 6 (by decide)) rfl rfl (Nat.le_of_ble_eq_true rfl) dX8_number_80 (fun H locs hP hD hS => ?_)
    have hP : va_P D vwCl (wX8 cI h0 h1 h2 h3 h4 h5 aTh aSm aLn aAt_10 aWe aRm aBm aHa aS aSv aCm aRd aBy) H := hP
    have hD : va_D A (wX8 cI h0 h1 h2 h3 h4 h5 aTh aSm aLn aAt_10 aWe aRm aBm aHa aS aSv aCm aRd aBy) := hD
    exact c_83 Z x3 aAt_10 aWe h H locs hP hD hS ls (lv_sub hl [0, 1, 2] rfl)
  have c_51 : ∀ (y1 : Int32) (aAt : Int32) (aWe : Int32), f_X8_number_c51 Z p1 p2 aLn aCm y1 aAt aWe = some (r, aAt', aWe') → ∀ (H : Heap) (locs : List Loc), va_P D vwCl (wX8 cI h0 h1 h2 h3 h4 h5 aTh aSm aLn aAt aWe aRm aBm aHa aS aSv aCm aRd aBy) H → va_D A (wX8 cI h0 h1 h2 h3 h4 h5 aTh aSm aLn aAt aWe aRm aBm aHa aS aSv aCm aRd aBy) → va_S A s.heap H locs → ∀ ls : Array Slot, lv_has ls 4 [(0, .ref h0), (2, .int p2)] → W p l e rm_X8_number s m args below meth c H locs 0 0 (FI D below args s (wX8 cI h0 h1 h2 h3 h4 h5 aTh aSm aLn (aAt') (aWe') aRm aBm aHa aS aSv aCm aRd aBy) r A) (F0 m 51 ls [.int y1, .ref h0]) := by
    intro y1 aAt aWe h H locs hP hD hS ls hl
    unfold f_X8_number_c51 at h
    obtain ⟨b11, h⟩ := kb_some h
    refine va_put (D := D) (ci := 8) (v := .int y1) (ty := tyX8 7) (C := RX8) (T := TX8) (N := 13) hx hb hg uX8 tyX8 tyX8_ok nmX8 hown hK.1 hP hD hS 0 rfl rfl 7 (by decide) (hg _ gw_947) (fun _ h9 => h9) rfl (tyX8_ok 7 (by decide)) (nar_b b11) (fit_b b11) (Nat.le_of_ble_eq_true rfl) dX8_number_51 (fun H locs hP hD hS => ?_)
    have hP : va_P D vwCl (wX8 cI h0 h1 h2 h3 h4 h5 aTh aSm aLn aAt y1 aRm aBm aHa aS aSv aCm aRd aBy) H := hP
    have hD : va_D A (wX8 cI h0 h1 h2 h3 h4 h5 aTh aSm aLn aAt y1 aRm aBm aHa aS aSv aCm aRd aBy) := hD
    refine lv_aload_n hx hb dX8_number_54 rfl (lv_at hl 0 rfl) ?_
    obtain ⟨r12, ec12, h⟩ := bd_some h
    refine cV_i (As := []) (rest := []) (wc := (wX8 cI h0 h1 h2 h3 h4 h5 aTh aSm aLn aAt y1 aRm aBm aHa aS aSv aCm aRd aBy)) (wc' := (wX8 cI h0 h1 h2 h3 h4 h5 aTh aSm aLn aAt y1 aRm aBm aHa aS aSv aCm aRd aBy)) hx hb hml hown hg hK hP hD hS hA hl.1 (k_X8_sign l D cI cS cL Z h0 h1 h2 h3 h4 h5 aTh aSm aLn aAt y1 aRm aBm aHa aS aSv aCm aRd aBy ec12) gm_X8_sign gw_1267 ⟨rfl, rfl, by decide, by decide⟩ ⟨Nat.zero_le _, Nat.zero_le _⟩ [0, 1, 2, 3, 4, 5] rfl rfl rfl rfl rfl rfl rfl rfl (Nat.le_of_ble_eq_true rfl) dX8_number_55 (fun H locs hP hD hS => ?_)
    have hP : va_P D vwCl (wX8 cI h0 h1 h2 h3 h4 h5 aTh aSm aLn aAt y1 aRm aBm aHa aS aSv aCm aRd aBy) H := hP
    have hD : va_D A (wX8 cI h0 h1 h2 h3 h4 h5 aTh aSm aLn aAt y1 aRm aBm aHa aS aSv aCm aRd aBy) := hD
    refine lv_bipush (v := 48) hx hb dX8_number_58 (by decide) ?_
    refine lv_isub hx hb dX8_number_60 ?_
    obtain ⟨x3_13, ex3_13, h⟩ := kl_some h
    refine nm_i ex3_13 ?_
    refine lv_istore_n (lv' := [(3, .int x3_13), (0, .ref h0), (2, .int p2)]) hx hb dX8_number_61 rfl hl (by decide) rfl (fun ls hl => ?_)
    refine lv_aload_n hx hb dX8_number_62 rfl (lv_at hl 1 rfl) ?_
    refine lv_dup hx hb dX8_number_63 rfl ?_
    refine va_get (D := D) (ci := 8) (v := .int aAt) (C := RX8) (T := TX8) (N := 13) hx hb hg uX8 hown hK.1 hP 0 rfl rfl 6 (by decide) (hg _ gw_946) (fun _ h9 => h9) rfl dX8_number_64 ?_
    refine lv_aload_n hx hb dX8_number_67 rfl (lv_at hl 1 rfl) ?_
    refine va_get (D := D) (ci := 8) (v := .int y1) (C := RX8) (T := TX8) (N := 13) hx hb hg uX8 hown hK.1 hP 0 rfl rfl 7 (by decide) (hg _ gw_947) (fun _ h9 => h9) rfl dX8_number_68 ?_
    refine lv_if_eq (tgt := 78) hx hb dX8_number_71 (by decide) (fun q14 => ?_) (fun q14 => ?_)
    · replace h := it_some q14 h
      refine lv_iconst (v := 0) hx hb dX8_number_78 (by decide) ?_
      exact c_79 x3_13 aAt 0 aAt y1 h H locs hP hD hS ls (lv_sub hl [1, 2, 0] rfl)
    · replace h := if_some q14 h
      refine lv_iconst (v := 1) hx hb dX8_number_74 (by decide) ?_
      refine lv_goto (tgt := 79) hx hb dX8_number_75 (by decide) ?_
      exact c_79 x3_13 aAt 1 aAt y1 h H locs hP hD hS ls (lv_sub hl [1, 2, 0] rfl)
  have c_50 : ∀ (aAt : Int32) (aWe : Int32), f_X8_number_c50 Z p1 p2 aLn aCm aAt aWe = some (r, aAt', aWe') → ∀ (H : Heap) (locs : List Loc), va_P D vwCl (wX8 cI h0 h1 h2 h3 h4 h5 aTh aSm aLn aAt aWe aRm aBm aHa aS aSv aCm aRd aBy) H → va_D A (wX8 cI h0 h1 h2 h3 h4 h5 aTh aSm aLn aAt aWe aRm aBm aHa aS aSv aCm aRd aBy) → va_S A s.heap H locs → ∀ ls : Array Slot, lv_has ls 4 [(0, .ref h0), (2, .int p2)] → W p l e rm_X8_number s m args below meth c H locs 0 0 (FI D below args s (wX8 cI h0 h1 h2 h3 h4 h5 aTh aSm aLn (aAt') (aWe') aRm aBm aHa aS aSv aCm aRd aBy) r A) (F0 m 50 ls [.ref h0]) := by
    intro aAt aWe h H locs hP hD hS ls hl
    unfold f_X8_number_c50 at h
    refine lv_iconst (v := 0) hx hb dX8_number_50 (by decide) ?_
    exact c_51 0 aAt aWe h H locs hP hD hS ls (lv_sub hl [0, 1] rfl)
  have c_32 : ∀ (y1 : Int32) (y2 : Int32) (aAt : Int32) (aWe : Int32), f_X8_number_c32 Z p1 p2 aLn aCm y1 y2 aAt aWe = some (r, aAt', aWe') → ∀ (H : Heap) (locs : List Loc), va_P D vwCl (wX8 cI h0 h1 h2 h3 h4 h5 aTh aSm aLn aAt aWe aRm aBm aHa aS aSv aCm aRd aBy) H → va_D A (wX8 cI h0 h1 h2 h3 h4 h5 aTh aSm aLn aAt aWe aRm aBm aHa aS aSv aCm aRd aBy) → va_S A s.heap H locs → ∀ ls : Array Slot, lv_has ls 4 [(0, .ref h0), (2, .int p2)] → W p l e rm_X8_number s m args below meth c H locs 0 0 (FI D below args s (wX8 cI h0 h1 h2 h3 h4 h5 aTh aSm aLn (aAt') (aWe') aRm aBm aHa aS aSv aCm aRd aBy) r A) (F0 m 32 ls [.int y2, .int y1, .ref h0]) := by
    intro y1 y2 aAt aWe h H locs hP hD hS ls hl
    unfold f_X8_number_c32 at h
    refine lv_icmp_lt (tgt := 50) hx hb dX8_number_32 (by decide) (fun q15 => ?_) (fun q15 => ?_)
    · replace h := it_some q15 h
      exact c_50 aAt aWe h H locs hP hD hS ls (lv_sub hl [0, 1] rfl)
    · replace h := if_some q15 h
      refine lv_aload_n hx hb dX8_number_35 rfl (lv_at hl 0 rfl) ?_
      obtain ⟨r16, ec16, h⟩ := bd_some h
      refine cV_i (As := []) (rest := [.ref h0]) (wc := (wX8 cI h0 h1 h2 h3 h4 h5 aTh aSm aLn aAt aWe aRm aBm aHa aS aSv aCm aRd aBy)) (wc' := (wX8 cI h0 h1 h2 h3 h4 h5 aTh aSm aLn aAt aWe aRm aBm aHa aS aSv aCm aRd aBy)) hx hb hml hown hg hK hP hD hS hA hl.1 (k_X8_sign l D cI cS cL Z h0 h1 h2 h3 h4 h5 aTh aSm aLn aAt aWe aRm aBm aHa aS aSv aCm aRd aBy ec16) gm_X8_sign gw_1267 ⟨rfl, rfl, by decide, by decide⟩ ⟨Nat.zero_le _, Nat.zero_le _⟩ [0, 1, 2, 3, 4, 5] rfl rfl rfl rfl rfl rfl rfl rfl (Nat.le_of_ble_eq_true rfl) dX8_number_36 (fun H locs hP hD hS => ?_)
      have hP : va_P D vwCl (wX8 cI h0 h1 h2 h3 h4 h5 aTh aSm aLn aAt aWe aRm aBm aHa aS aSv aCm aRd aBy) H := hP
      have hD : va_D A (wX8 cI h0 h1 h2 h3 h4 h5 aTh aSm aLn aAt aWe aRm aBm aHa aS aSv aCm aRd aBy) := hD
      refine lv_bipush (v := 48) hx hb dX8_number_39 (by decide) ?_
      refine lv_isub hx hb dX8_number_41 ?_
      refine lv_iload_n hx hb dX8_number_42 rfl (lv_at hl 1 rfl) ?_
      refine lv_icmp_gt (tgt := 50) hx hb dX8_number_43 (by decide) (fun q17 => ?_) (fun q17 => ?_)
      · replace h := it_some q17 h
        exact c_50 aAt aWe h H locs hP hD hS ls (lv_sub hl [0, 1] rfl)
      · replace h := if_some q17 h
        refine lv_iconst (v := 1) hx hb dX8_number_46 (by decide) ?_
        refine lv_goto (tgt := 51) hx hb dX8_number_47 (by decide) ?_
        exact c_51 1 aAt aWe h H locs hP hD hS ls (lv_sub hl [0, 1] rfl)
  have hl : lv_has ls 4 [(0, .ref h0), (1, .int p1), (2, .int p2)] := hl
  have hP : va_P D vwCl (wX8 cI h0 h1 h2 h3 h4 h5 aTh aSm aLn aAt aWe aRm aBm aHa aS aSv aCm aRd aBy) s.heap := hP
  have hD : va_D A (wX8 cI h0 h1 h2 h3 h4 h5 aTh aSm aLn aAt aWe aRm aBm aHa aS aSv aCm aRd aBy) := hD
  show W p l e rm_X8_number s m args below meth c s.heap [] 0 0 (FI D below args s (wX8 cI h0 h1 h2 h3 h4 h5 aTh aSm aLn (aAt') (aWe') aRm aBm aHa aS aSv aCm aRd aBy) r A) (F0 m 0 ls [])
  unfold f_X8_number at h
  have hmain : ∀ (H : Heap) (locs : List Loc), va_P D vwCl (wX8 cI h0 h1 h2 h3 h4 h5 aTh aSm aLn aAt aWe aRm aBm aHa aS aSv aCm aRd aBy) H → va_S A s.heap H locs → W p l e rm_X8_number s m args below meth c H locs 0 0 (FI D below args s (wX8 cI h0 h1 h2 h3 h4 h5 aTh aSm aLn (aAt') (aWe') aRm aBm aHa aS aSv aCm aRd aBy) r A) (F0 m 0 ls []) := by
    intro H locs hP hS
    refine lv_aload_n hx hb dX8_number_0 rfl (lv_at hl 0 rfl) ?_
    refine lv_aload_n hx hb dX8_number_1 rfl (lv_at hl 0 rfl) ?_
    refine va_get (D := D) (ci := 8) (v := .int aWe) (C := RX8) (T := TX8) (N := 13) hx hb hg uX8 hown hK.1 hP 0 rfl rfl 7 (by decide) (hg _ gw_947) (fun _ h9 => h9) rfl dX8_number_2 ?_
    refine lv_if_eq (tgt := 50) hx hb dX8_number_5 (by decide) (fun q18 => ?_) (fun q18 => ?_)
    · replace h := it_some q18 h
      exact c_50 aAt aWe h H locs hP hD hS ls (lv_sub hl [0, 2] rfl)
    · replace h := if_some q18 h
      refine lv_aload_n hx hb dX8_number_8 rfl (lv_at hl 0 rfl) ?_
      obtain ⟨r19, ec19, h⟩ := bd_some h
      refine cV_i (As := []) (rest := [.ref h0]) (wc := (wX8 cI h0 h1 h2 h3 h4 h5 aTh aSm aLn aAt aWe aRm aBm aHa aS aSv aCm aRd aBy)) (wc' := (wX8 cI h0 h1 h2 h3 h4 h5 aTh aSm aLn aAt aWe aRm aBm aHa aS aSv aCm aRd aBy)) hx hb hml hown hg hK hP hD hS hA hl.1 (k_X8_isFigure l D cI cS cL Z h0 h1 h2 h3 h4 h5 aTh aSm aLn aAt aWe aRm aBm aHa aS aSv aCm aRd aBy ec19) gm_X8_isFigure gw_1279 ⟨rfl, rfl, by decide, by decide⟩ ⟨Nat.zero_le _, Nat.zero_le _⟩ [0, 1, 2, 3, 4, 5] rfl rfl rfl rfl rfl rfl rfl rfl (Nat.le_of_ble_eq_true rfl) dX8_number_9 (fun H locs hP hD hS => ?_)
      have hP : va_P D vwCl (wX8 cI h0 h1 h2 h3 h4 h5 aTh aSm aLn aAt aWe aRm aBm aHa aS aSv aCm aRd aBy) H := hP
      have hD : va_D A (wX8 cI h0 h1 h2 h3 h4 h5 aTh aSm aLn aAt aWe aRm aBm aHa aS aSv aCm aRd aBy) := hD
      refine lv_if_eq (tgt := 50) hx hb dX8_number_12 (by decide) (fun q20 => ?_) (fun q20 => ?_)
      · replace h := it_some q20 h
        exact c_50 aAt aWe h H locs hP hD hS ls (lv_sub hl [0, 2] rfl)
      · replace h := if_some q20 h
        refine lv_aload_n hx hb dX8_number_15 rfl (lv_at hl 0 rfl) ?_
        obtain ⟨r21, ec21, h⟩ := bd_some h
        refine cV_i (As := []) (rest := [.ref h0]) (wc := (wX8 cI h0 h1 h2 h3 h4 h5 aTh aSm aLn aAt aWe aRm aBm aHa aS aSv aCm aRd aBy)) (wc' := (wX8 cI h0 h1 h2 h3 h4 h5 aTh aSm aLn aAt aWe aRm aBm aHa aS aSv aCm aRd aBy)) hx hb hml hown hg hK hP hD hS hA hl.1 (k_X8_sign l D cI cS cL Z h0 h1 h2 h3 h4 h5 aTh aSm aLn aAt aWe aRm aBm aHa aS aSv aCm aRd aBy ec21) gm_X8_sign gw_1267 ⟨rfl, rfl, by decide, by decide⟩ ⟨Nat.zero_le _, Nat.zero_le _⟩ [0, 1, 2, 3, 4, 5] rfl rfl rfl rfl rfl rfl rfl rfl (Nat.le_of_ble_eq_true rfl) dX8_number_16 (fun H locs hP hD hS => ?_)
        have hP : va_P D vwCl (wX8 cI h0 h1 h2 h3 h4 h5 aTh aSm aLn aAt aWe aRm aBm aHa aS aSv aCm aRd aBy) H := hP
        have hD : va_D A (wX8 cI h0 h1 h2 h3 h4 h5 aTh aSm aLn aAt aWe aRm aBm aHa aS aSv aCm aRd aBy) := hD
        refine lv_bipush (v := 48) hx hb dX8_number_19 (by decide) ?_
        refine lv_isub hx hb dX8_number_21 ?_
        refine lv_iload_n hx hb dX8_number_22 rfl (lv_at hl 1 rfl) ?_
        refine lv_iconst (v := 1) hx hb dX8_number_23 (by decide) ?_
        refine lv_icmp_ge (tgt := 31) hx hb dX8_number_24 (by decide) (fun q22 => ?_) (fun q22 => ?_)
        · replace h := it_some q22 h
          refine lv_iconst (v := 1) hx hb dX8_number_31 (by decide) ?_
          exact c_32 (r21 - 48) 1 aAt aWe h H locs hP hD hS ls (lv_sub hl [0, 2] rfl)
        · replace h := if_some q22 h
          refine lv_iconst (v := 0) hx hb dX8_number_27 (by decide) ?_
          refine lv_goto (tgt := 32) hx hb dX8_number_28 (by decide) ?_
          exact c_32 (r21 - 48) 0 aAt aWe h H locs hP hD hS ls (lv_sub hl [0, 2] rfl)
  exact hmain _ _ hP hS
abbrev rm_X8_letters : Room := { frames := 1, cells := 0, slots := 0, locals := 22 }
def f_X8_letters_b2 (Z : Nat) (aLn : Int32) (aCm : Nat → Int32) (rec : Int32 → Int32 → Int32 → Option (Int32 × Int32 × Int32)) (x1 : Int32) (aAt : Int32) (aWe : Int32) : Option (Int32 × Int32 × Int32) :=
      if 20 ≤ x1 then
        if x1 ≤ 0 then
          some (x1, aAt, (0))
        else
          some (x1, aAt, (1))
      else
        (f_X8_sign Z aLn aAt aCm).bind fun r3 =>
        (f_X8_in Z r3 97 122).bind fun r4 =>
        if r4 = 0 then
          if x1 ≤ 0 then
            some (x1, aAt, (0))
          else
            some (x1, aAt, (1))
        else
          kl (aAt + 1) fun aAt_7 =>
          kl (x1 + 1) fun x1_8 =>
          rec x1_8 aAt_7 aWe
def f_X8_letters_l2 (Z : Nat) (aLn : Int32) (aCm : Nat → Int32) : Nat → Int32 → Int32 → Int32 → Option (Int32 × Int32 × Int32)
  | 0, _, _, _ => none
  | n + 1, x1, aAt, aWe => f_X8_letters_b2 Z aLn aCm (f_X8_letters_l2 Z aLn aCm n) x1 aAt aWe
def f_X8_letters (Z : Nat) (aLn : Int32) (aAt : Int32) (aWe : Int32) (aCm : Nat → Int32) : Option (Int32 × Int32 × Int32) :=
  f_X8_letters_l2 Z aLn aCm Z 0 aAt aWe
set_option maxRecDepth 100000 in
set_option maxHeartbeats 4000000 in
theorem k_X8_letters (l : Launch) (D : va_G) (cI cS cL : ClassId) (Z : Nat) (h0 : Nat) (h1 : Nat) (h2 : Nat) (h3 : Nat) (h4 : Nat) (h5 : Nat) (aTh : Int32) (aSm : Int32) (aLn : Int32) (aAt : Int32) (aWe : Int32) (aRm : Int32) (aBm : Int32) (aHa : Int64) (aS : Nat → Int32) (aSv : Nat → Int32) (aCm : Nat → Int32) (aRd : Nat → Int32) (aBy : Nat → Int32) {r : Int32} {aAt' : Int32} {aWe' : Int32} (h : f_X8_letters Z aLn aAt aWe aCm = some (r, aAt', aWe')) : CI l yX8_letters cX8_letters 2 (some .int) rm_X8_letters D cI cS cL [.ref h0] (wX8 cI h0 h1 h2 h3 h4 h5 aTh aSm aLn aAt aWe aRm aBm aHa aS aSv aCm aRd aBy) (wX8 cI h0 h1 h2 h3 h4 h5 aTh aSm aLn (aAt') (aWe') aRm aBm aHa aS aSv aCm aRd aBy) r := by
  refine ent_i (by decide +kernel) (Nat.le_of_ble_eq_true rfl) ?_
  intro p e s m args below meth c A ls hx hb hr hml hlocks hg hown hK hP hD hS hA hl
  have hown : s.vm.findClass RX8 = some m.cls := hown
  have c_2 : ∀ (n : Nat) (x1 : Int32) (aAt : Int32) (aWe : Int32), f_X8_letters_l2 Z aLn aCm n x1 aAt aWe = some (r, aAt', aWe') → ∀ (H : Heap) (locs : List Loc), va_P D vwCl (wX8 cI h0 h1 h2 h3 h4 h5 aTh aSm aLn aAt aWe aRm aBm aHa aS aSv aCm aRd aBy) H → va_D A (wX8 cI h0 h1 h2 h3 h4 h5 aTh aSm aLn aAt aWe aRm aBm aHa aS aSv aCm aRd aBy) → va_S A s.heap H locs → ∀ ls : Array Slot, lv_has ls 2 [(0, .ref h0), (1, .int x1)] → W p l e rm_X8_letters s m args below meth c H locs 0 0 (FI D below args s (wX8 cI h0 h1 h2 h3 h4 h5 aTh aSm aLn (aAt') (aWe') aRm aBm aHa aS aSv aCm aRd aBy) r A) (F0 m 2 ls []) := by
    intro n
    induction n with
    | zero => intro x1 aAt aWe h; exact no_some h
    | succ n ih =>
      intro x1 aAt aWe h H locs hP hD hS ls hl
      have h : f_X8_letters_b2 Z aLn aCm (f_X8_letters_l2 Z aLn aCm n) x1 aAt aWe = some (r, aAt', aWe') := h
      unfold f_X8_letters_b2 at h
      refine lv_iload_n hx hb dX8_letters_2 rfl (lv_at hl 1 rfl) ?_
      refine lv_bipush (v := 20) hx hb dX8_letters_3 (by decide) ?_
      refine lv_icmp_ge (tgt := 38) hx hb dX8_letters_5 (by decide) (fun q1 => ?_) (fun q1 => ?_)
      · replace h := it_some q1 h
        refine lv_aload_n hx hb dX8_letters_38 rfl (lv_at hl 0 rfl) ?_
        refine lv_iload_n hx hb dX8_letters_39 rfl (lv_at hl 1 rfl) ?_
        refine lv_if_le (tgt := 47) hx hb dX8_letters_40 (by decide) (fun q2 => ?_) (fun q2 => ?_)
        · replace h := it_some q2 h
          refine lv_iconst (v := 0) hx hb dX8_letters_47 (by decide) ?_
          refine va_put (D := D) (ci := 8) (v := .int 0) (ty := tyX8 7) (C := RX8) (T := TX8) (N := 13) hx hb hg uX8 tyX8 tyX8_ok nmX8 hown hK.1 hP hD hS 0 rfl rfl 7 (by decide) (hg _ gw_947) (fun _ h9 => h9) rfl (tyX8_ok 7 (by decide)) rfl rfl (Nat.le_of_ble_eq_true rfl) dX8_letters_48 (fun H locs hP hD hS => ?_)
          have hP : va_P D vwCl (wX8 cI h0 h1 h2 h3 h4 h5 aTh aSm aLn aAt (0) aRm aBm aHa aS aSv aCm aRd aBy) H := hP
          have hD : va_D A (wX8 cI h0 h1 h2 h3 h4 h5 aTh aSm aLn aAt (0) aRm aBm aHa aS aSv aCm aRd aBy) := hD
          refine lv_iload_n hx hb dX8_letters_51 rfl (lv_at hl 1 rfl) ?_
          cases h
          exact ret_i hx hb hr hlocks hP hD hS dX8_letters_52 rfl
        · replace h := if_some q2 h
          refine lv_iconst (v := 1) hx hb dX8_letters_43 (by decide) ?_
          refine lv_goto (tgt := 48) hx hb dX8_letters_44 (by decide) ?_
          refine va_put (D := D) (ci := 8) (v := .int 1) (ty := tyX8 7) (C := RX8) (T := TX8) (N := 13) hx hb hg uX8 tyX8 tyX8_ok nmX8 hown hK.1 hP hD hS 0 rfl rfl 7 (by decide) (hg _ gw_947) (fun _ h9 => h9) rfl (tyX8_ok 7 (by decide)) rfl rfl (Nat.le_of_ble_eq_true rfl) dX8_letters_48 (fun H locs hP hD hS => ?_)
          have hP : va_P D vwCl (wX8 cI h0 h1 h2 h3 h4 h5 aTh aSm aLn aAt (1) aRm aBm aHa aS aSv aCm aRd aBy) H := hP
          have hD : va_D A (wX8 cI h0 h1 h2 h3 h4 h5 aTh aSm aLn aAt (1) aRm aBm aHa aS aSv aCm aRd aBy) := hD
          refine lv_iload_n hx hb dX8_letters_51 rfl (lv_at hl 1 rfl) ?_
          cases h
          exact ret_i hx hb hr hlocks hP hD hS dX8_letters_52 rfl
      · replace h := if_some q1 h
        refine lv_aload_n hx hb dX8_letters_8 rfl (lv_at hl 0 rfl) ?_
        obtain ⟨r3, ec3, h⟩ := bd_some h
        refine cV_i (As := []) (rest := []) (wc := (wX8 cI h0 h1 h2 h3 h4 h5 aTh aSm aLn aAt aWe aRm aBm aHa aS aSv aCm aRd aBy)) (wc' := (wX8 cI h0 h1 h2 h3 h4 h5 aTh aSm aLn aAt aWe aRm aBm aHa aS aSv aCm aRd aBy)) hx hb hml hown hg hK hP hD hS hA hl.1 (k_X8_sign l D cI cS cL Z h0 h1 h2 h3 h4 h5 aTh aSm aLn aAt aWe aRm aBm aHa aS aSv aCm aRd aBy ec3) gm_X8_sign gw_1267 ⟨rfl, rfl, by decide, by decide⟩ ⟨Nat.zero_le _, Nat.zero_le _⟩ [0, 1, 2, 3, 4, 5] rfl rfl rfl rfl rfl rfl rfl rfl (Nat.le_of_ble_eq_true rfl) dX8_letters_9 (fun H locs hP hD hS => ?_)
        have hP : va_P D vwCl (wX8 cI h0 h1 h2 h3 h4 h5 aTh aSm aLn aAt aWe aRm aBm aHa aS aSv aCm aRd aBy) H := hP
        have hD : va_D A (wX8 cI h0 h1 h2 h3 h4 h5 aTh aSm aLn aAt aWe aRm aBm aHa aS aSv aCm aRd aBy) := hD
        refine lv_bipush (v := 97) hx hb dX8_letters_12 (by decide) ?_
        refine lv_bipush (v := 122) hx hb dX8_letters_14 (by decide) ?_
        obtain ⟨r4, ec4, h⟩ := bd_some h
        refine cS_i (As := [.int r3, .int 97, .int 122]) (rest := []) (wc := []) (wc' := []) hx hb hml hown hg hK hP hD hS hA hl.1 (k_X8_in l D cI cS cL Z r3 97 122 ec4) gs_X8_in gw_991 ⟨rfl, rfl, by decide, by decide⟩ ⟨Nat.zero_le _, Nat.zero_le _⟩ [] rfl rfl rfl rfl rfl (Nat.le_of_ble_eq_true rfl) dX8_letters_16 (fun H locs hP hD hS => ?_)
        have hP : va_P D vwCl (wX8 cI h0 h1 h2 h3 h4 h5 aTh aSm aLn aAt aWe aRm aBm aHa aS aSv aCm aRd aBy) H := hP
        have hD : va_D A (wX8 cI h0 h1 h2 h3 h4 h5 aTh aSm aLn aAt aWe aRm aBm aHa aS aSv aCm aRd aBy) := hD
        refine lv_if_eq (tgt := 38) hx hb dX8_letters_19 (by decide) (fun q5 => ?_) (fun q5 => ?_)
        · replace h := it_some q5 h
          refine lv_aload_n hx hb dX8_letters_38 rfl (lv_at hl 0 rfl) ?_
          refine lv_iload_n hx hb dX8_letters_39 rfl (lv_at hl 1 rfl) ?_
          refine lv_if_le (tgt := 47) hx hb dX8_letters_40 (by decide) (fun q6 => ?_) (fun q6 => ?_)
          · replace h := it_some q6 h
            refine lv_iconst (v := 0) hx hb dX8_letters_47 (by decide) ?_
            refine va_put (D := D) (ci := 8) (v := .int 0) (ty := tyX8 7) (C := RX8) (T := TX8) (N := 13) hx hb hg uX8 tyX8 tyX8_ok nmX8 hown hK.1 hP hD hS 0 rfl rfl 7 (by decide) (hg _ gw_947) (fun _ h9 => h9) rfl (tyX8_ok 7 (by decide)) rfl rfl (Nat.le_of_ble_eq_true rfl) dX8_letters_48 (fun H locs hP hD hS => ?_)
            have hP : va_P D vwCl (wX8 cI h0 h1 h2 h3 h4 h5 aTh aSm aLn aAt (0) aRm aBm aHa aS aSv aCm aRd aBy) H := hP
            have hD : va_D A (wX8 cI h0 h1 h2 h3 h4 h5 aTh aSm aLn aAt (0) aRm aBm aHa aS aSv aCm aRd aBy) := hD
            refine lv_iload_n hx hb dX8_letters_51 rfl (lv_at hl 1 rfl) ?_
            cases h
            exact ret_i hx hb hr hlocks hP hD hS dX8_letters_52 rfl
          · replace h := if_some q6 h
            refine lv_iconst (v := 1) hx hb dX8_letters_43 (by decide) ?_
            refine lv_goto (tgt := 48) hx hb dX8_letters_44 (by decide) ?_
            refine va_put (D := D) (ci := 8) (v := .int 1) (ty := tyX8 7) (C := RX8) (T := TX8) (N := 13) hx hb hg uX8 tyX8 tyX8_ok nmX8 hown hK.1 hP hD hS 0 rfl rfl 7 (by decide) (hg _ gw_947) (fun _ h9 => h9) rfl (tyX8_ok 7 (by decide)) rfl rfl (Nat.le_of_ble_eq_true rfl) dX8_letters_48 (fun H locs hP hD hS => ?_)
            have hP : va_P D vwCl (wX8 cI h0 h1 h2 h3 h4 h5 aTh aSm aLn aAt (1) aRm aBm aHa aS aSv aCm aRd aBy) H := hP
            have hD : va_D A (wX8 cI h0 h1 h2 h3 h4 h5 aTh aSm aLn aAt (1) aRm aBm aHa aS aSv aCm aRd aBy) := hD
            refine lv_iload_n hx hb dX8_letters_51 rfl (lv_at hl 1 rfl) ?_
            cases h
            exact ret_i hx hb hr hlocks hP hD hS dX8_letters_52 rfl
        · replace h := if_some q5 h
          refine lv_aload_n hx hb dX8_letters_22 rfl (lv_at hl 0 rfl) ?_
          refine lv_dup hx hb dX8_letters_23 rfl ?_
          refine va_get (D := D) (ci := 8) (v := .int aAt) (C := RX8) (T := TX8) (N := 13) hx hb hg uX8 hown hK.1 hP 0 rfl rfl 6 (by decide) (hg _ gw_946) (fun _ h9 => h9) rfl dX8_letters_24 ?_
          refine lv_iconst (v := 1) hx hb dX8_letters_27 (by decide) ?_
          refine lv_iadd hx hb dX8_letters_28 ?_
          obtain ⟨aAt_7, eaAt_7, h⟩ := kl_some h
          refine nm_i eaAt_7 ?_
          refine va_put (D := D) (ci := 8) (v := .int aAt_7) (ty := tyX8 6) (C := RX8) (T := TX8) (N := 13) hx hb hg uX8 tyX8 tyX8_ok nmX8 hown hK.1 hP hD hS 0 rfl rfl 6 (by decide) (hg _ gw_946) (fun _ h9 => h9) rfl (tyX8_ok 6 (by decide)) rfl rfl (Nat.le_of_ble_eq_true rfl) dX8_letters_29 (fun H locs hP hD hS => ?_)
          have hP : va_P D vwCl (wX8 cI h0 h1 h2 h3 h4 h5 aTh aSm aLn aAt_7 aWe aRm aBm aHa aS aSv aCm aRd aBy) H := hP
          have hD : va_D A (wX8 cI h0 h1 h2 h3 h4 h5 aTh aSm aLn aAt_7 aWe aRm aBm aHa aS aSv aCm aRd aBy) := hD
          obtain ⟨x1_8, ex1_8, h⟩ := kl_some h
          refine lv_iinc (v := x1_8) (lv' := [(1, .int x1_8), (0, .ref h0)]) hx hb dX8_letters_32 hl (k := 1) rfl (by rw [ex1_8]; rfl) (by decide) rfl (fun ls hl => ?_)
          refine lv_goto (tgt := 2) hx hb dX8_letters_35 (by decide) ?_
          exact ih x1_8 aAt_7 aWe h H locs hP hD hS ls (lv_sub hl [1, 0] rfl)
  have hl : lv_has ls 2 [(0, .ref h0)] := hl
  have hP : va_P D vwCl (wX8 cI h0 h1 h2 h3 h4 h5 aTh aSm aLn aAt aWe aRm aBm aHa aS aSv aCm aRd aBy) s.heap := hP
  have hD : va_D A (wX8 cI h0 h1 h2 h3 h4 h5 aTh aSm aLn aAt aWe aRm aBm aHa aS aSv aCm aRd aBy) := hD
  show W p l e rm_X8_letters s m args below meth c s.heap [] 0 0 (FI D below args s (wX8 cI h0 h1 h2 h3 h4 h5 aTh aSm aLn (aAt') (aWe') aRm aBm aHa aS aSv aCm aRd aBy) r A) (F0 m 0 ls [])
  unfold f_X8_letters at h
  have hmain : ∀ (H : Heap) (locs : List Loc), va_P D vwCl (wX8 cI h0 h1 h2 h3 h4 h5 aTh aSm aLn aAt aWe aRm aBm aHa aS aSv aCm aRd aBy) H → va_S A s.heap H locs → W p l e rm_X8_letters s m args below meth c H locs 0 0 (FI D below args s (wX8 cI h0 h1 h2 h3 h4 h5 aTh aSm aLn (aAt') (aWe') aRm aBm aHa aS aSv aCm aRd aBy) r A) (F0 m 0 ls []) := by
    intro H locs hP hS
    refine lv_iconst (v := 0) hx hb dX8_letters_0 (by decide) ?_
    refine lv_istore_n (lv' := [(1, .int 0), (0, .ref h0)]) hx hb dX8_letters_1 rfl hl (by decide) rfl (fun ls hl => ?_)
    exact c_2 Z 0 aAt aWe h H locs hP hD hS ls (lv_sub hl [1, 0] rfl)
  exact hmain _ _ hP hS
abbrev rm_X8_readsCommand : Room := { frames := 3, cells := 0, slots := 0, locals := 65 }
def f_X8_readsCommand_c220 (Z : Nat) (aLn : Int32) (aCm : Nat → Int32) (aAt : Int32) (aWe : Int32) (aRm : Int32) (aRd : Nat → Int32) : Option (Int32 × Int32 × Int32 × (Nat → Int32)) :=
    if aWe = 0 then
      kl (aRm + 0) fun aRm_2 =>
      some (aAt, aWe, aRm_2, aRd)
    else
      kl (aRm + 1) fun aRm_3 =>
      some (aAt, aWe, aRm_3, aRd)
def f_X8_readsCommand_c206 (Z : Nat) (aLn : Int32) (aCm : Nat → Int32) (x1 : Int32) (aAt : Int32) (aWe : Int32) (aRm : Int32) (aRd : Nat → Int32) : Option (Int32 × Int32 × Int32 × (Nat → Int32)) :=
    (f_X8_number Z 0 3 aLn aAt aWe aCm).bind fun (r4, aAt_4, aWe_4) =>
    rd (x1 + 1) 96 (kl (upd aRd (Int32.toNatClampNeg (x1 + 1)) r4) fun aRd_6 =>
    f_X8_readsCommand_c220 Z aLn aCm aAt_4 aWe_4 aRm aRd_6)
def f_X8_readsCommand_c151 (Z : Nat) (aLn : Int32) (aCm : Nat → Int32) (x1 : Int32) (aAt : Int32) (aWe : Int32) (aRm : Int32) (aRd : Nat → Int32) : Option (Int32 × Int32 × Int32 × (Nat → Int32)) :=
    (f_X8_number Z 1 99 aLn aAt aWe aCm).bind fun (r7, aAt_7, aWe_7) =>
    rd (x1 + 1) 96 (kl (upd aRd (Int32.toNatClampNeg (x1 + 1)) r7) fun aRd_9 =>
    f_X8_readsCommand_c220 Z aLn aCm aAt_7 aWe_7 aRm aRd_9)
def f_X8_readsCommand_c86 (Z : Nat) (aLn : Int32) (aCm : Nat → Int32) (x1 : Int32) (x2 : Int32) (y1 : Int32) (y2 : Int32) (aAt : Int32) (aWe : Int32) (aRm : Int32) (aRd : Nat → Int32) : Option (Int32 × Int32 × Int32 × (Nat → Int32)) :=
    kl (y1 + y2) fun aAt_10 =>
    rd x1 96 (kl (upd aRd (Int32.toNatClampNeg x1) x2) fun aRd_12 =>
    rd (x1 + 1) 96 (kl (upd aRd_12 (Int32.toNatClampNeg (x1 + 1)) 0) fun aRd_14 =>
    rd (x1 + 2) 96 (kl (upd aRd_14 (Int32.toNatClampNeg (x1 + 2)) aAt_10) fun aRd_16 =>
    if x2 = 43 then
      (f_X8_letters Z aLn aAt_10 aWe aCm).bind fun (r26, aAt_26, aWe_26) =>
      rd (x1 + 1) 96 (kl (upd aRd_16 (Int32.toNatClampNeg (x1 + 1)) r26) fun aRd_28 =>
      f_X8_readsCommand_c220 Z aLn aCm aAt_26 aWe_26 aRm aRd_28)
    else
      if x2 = 45 then
        f_X8_readsCommand_c151 Z aLn aCm x1 aAt_10 aWe aRm aRd_16
      else
        if x2 = 60 then
          f_X8_readsCommand_c151 Z aLn aCm x1 aAt_10 aWe aRm aRd_16
        else
          if x2 = 64 then
            (f_X8_number Z 0 256 aLn aAt_10 aWe aCm).bind fun (r23, aAt_23, aWe_23) =>
            rd (x1 + 1) 96 (kl (upd aRd_16 (Int32.toNatClampNeg (x1 + 1)) r23) fun aRd_25 =>
            f_X8_readsCommand_c220 Z aLn aCm aAt_23 aWe_23 aRm aRd_25)
          else
            if x2 = 109 then
              f_X8_readsCommand_c206 Z aLn aCm x1 aAt_10 aWe aRm aRd_16
            else
              if x2 = 120 then
                f_X8_readsCommand_c206 Z aLn aCm x1 aAt_10 aWe aRm aRd_16
              else
                f_X8_readsCommand_c220 Z aLn aCm aAt_10 aWe aRm aRd_16)))
def f_X8_readsCommand_c66 (Z : Nat) (aLn : Int32) (aCm : Nat → Int32) (x1 : Int32) (x2 : Int32) (y1 : Int32) (aAt : Int32) (aWe : Int32) (aRm : Int32) (aRd : Nat → Int32) : Option (Int32 × Int32 × Int32 × (Nat → Int32)) :=
    kb y1 (
    if y1 = 0 then
      f_X8_readsCommand_c86 Z aLn aCm x1 x2 aAt 0 aAt y1 aRm aRd
    else
      f_X8_readsCommand_c86 Z aLn aCm x1 x2 aAt 1 aAt y1 aRm aRd)
def f_X8_readsCommand_c61 (Z : Nat) (aLn : Int32) (aCm : Nat → Int32) (x1 : Int32) (x2 : Int32) (aAt : Int32) (aWe : Int32) (aRm : Int32) (aRd : Nat → Int32) : Option (Int32 × Int32 × Int32 × (Nat → Int32)) :=
    f_X8_readsCommand_c66 Z aLn aCm x1 x2 1 aAt aWe aRm aRd
def f_X8_readsCommand (Z : Nat) (aLn : Int32) (aAt : Int32) (aWe : Int32) (aRm : Int32) (aCm : Nat → Int32) (aRd : Nat → Int32) : Option (Int32 × Int32 × Int32 × (Nat → Int32)) :=
  kl (3 * aRm) fun x1_31 =>
  (f_X8_sign Z aLn aAt aCm).bind fun r32 =>
  if r32 = 43 then
    f_X8_readsCommand_c61 Z aLn aCm x1_31 r32 aAt aWe aRm aRd
  else
    if r32 = 110 then
      f_X8_readsCommand_c61 Z aLn aCm x1_31 r32 aAt aWe aRm aRd
    else
      if r32 = 45 then
        f_X8_readsCommand_c61 Z aLn aCm x1_31 r32 aAt aWe aRm aRd
      else
        if r32 = 60 then
          f_X8_readsCommand_c61 Z aLn aCm x1_31 r32 aAt aWe aRm aRd
        else
          if r32 = 64 then
            f_X8_readsCommand_c61 Z aLn aCm x1_31 r32 aAt aWe aRm aRd
          else
            if r32 = 109 then
              f_X8_readsCommand_c61 Z aLn aCm x1_31 r32 aAt aWe aRm aRd
            else
              if r32 = 120 then
                f_X8_readsCommand_c61 Z aLn aCm x1_31 r32 aAt aWe aRm aRd
              else
                if r32 = 112 then
                  f_X8_readsCommand_c61 Z aLn aCm x1_31 r32 aAt aWe aRm aRd
                else
                  f_X8_readsCommand_c66 Z aLn aCm x1_31 r32 0 aAt aWe aRm aRd
set_option maxRecDepth 100000 in
set_option maxHeartbeats 4000000 in
theorem k_X8_readsCommand (l : Launch) (D : va_G) (cI cS cL : ClassId) (Z : Nat) (h0 : Nat) (h1 : Nat) (h2 : Nat) (h3 : Nat) (h4 : Nat) (h5 : Nat) (aTh : Int32) (aSm : Int32) (aLn : Int32) (aAt : Int32) (aWe : Int32) (aRm : Int32) (aBm : Int32) (aHa : Int64) (aS : Nat → Int32) (aSv : Nat → Int32) (aCm : Nat → Int32) (aRd : Nat → Int32) (aBy : Nat → Int32) {aAt' : Int32} {aWe' : Int32} {aRm' : Int32} {aRd' : Nat → Int32} (h : f_X8_readsCommand Z aLn aAt aWe aRm aCm aRd = some (aAt', aWe', aRm', aRd')) : CV l yX8_readsCommand cX8_readsCommand 3 none rm_X8_readsCommand D cI cS cL [.ref h0] (wX8 cI h0 h1 h2 h3 h4 h5 aTh aSm aLn aAt aWe aRm aBm aHa aS aSv aCm aRd aBy) (wX8 cI h0 h1 h2 h3 h4 h5 aTh aSm aLn (aAt') (aWe') (aRm') aBm aHa aS aSv aCm (aRd') aBy) := by
  refine ent_v (by decide +kernel) (Nat.le_of_ble_eq_true rfl) ?_
  intro p e s m args below meth c A ls hx hb hr hml hlocks hg hown hK hP hD hS hA hl
  have hown : s.vm.findClass RX8 = some m.cls := hown
  have c_220 : ∀ (aAt : Int32) (aWe : Int32) (aRm : Int32) (aRd : Nat → Int32), f_X8_readsCommand_c220 Z aLn aCm aAt aWe aRm aRd = some (aAt', aWe', aRm', aRd') → ∀ (H : Heap) (locs : List Loc), va_P D vwCl (wX8 cI h0 h1 h2 h3 h4 h5 aTh aSm aLn aAt aWe aRm aBm aHa aS aSv aCm aRd aBy) H → va_D A (wX8 cI h0 h1 h2 h3 h4 h5 aTh aSm aLn aAt aWe aRm aBm aHa aS aSv aCm aRd aBy) → va_S A s.heap H locs → ∀ ls : Array Slot, lv_has ls 3 [(0, .ref h0)] → W p l e rm_X8_readsCommand s m args below meth c H locs 0 0 (FV D below args s (wX8 cI h0 h1 h2 h3 h4 h5 aTh aSm aLn (aAt') (aWe') (aRm') aBm aHa aS aSv aCm (aRd') aBy) A) (F0 m 220 ls []) := by
    intro aAt aWe aRm aRd h H locs hP hD hS ls hl
    unfold f_X8_readsCommand_c220 at h
    refine lv_aload_n hx hb dX8_readsCommand_220 rfl (lv_at hl 0 rfl) ?_
    refine lv_dup hx hb dX8_readsCommand_221 rfl ?_
    refine va_get (D := D) (ci := 8) (v := .int aRm) (C := RX8) (T := TX8) (N := 13) hx hb hg uX8 hown hK.1 hP 0 rfl rfl 9 (by decide) (hg _ gw_949) (fun _ h9 => h9) rfl dX8_readsCommand_222 ?_
    refine lv_aload_n hx hb dX8_readsCommand_225 rfl (lv_at hl 0 rfl) ?_
    refine va_get (D := D) (ci := 8) (v := .int aWe) (C := RX8) (T := TX8) (N := 13) hx hb hg uX8 hown hK.1 hP 0 rfl rfl 7 (by decide) (hg _ gw_947) (fun _ h9 => h9) rfl dX8_readsCommand_226 ?_
    refine lv_if_eq (tgt := 236) hx hb dX8_readsCommand_229 (by decide) (fun q1 => ?_) (fun q1 => ?_)
    · replace h := it_some q1 h
      refine lv_iconst (v := 0) hx hb dX8_readsCommand_236 (by decide) ?_
      refine lv_iadd hx hb dX8_readsCommand_237 ?_
      obtain ⟨aRm_2, eaRm_2, h⟩ := kl_some h
      refine nm_i eaRm_2 ?_
      refine va_put (D := D) (ci := 8) (v := .int aRm_2) (ty := tyX8 9) (C := RX8) (T := TX8) (N := 13) hx hb hg uX8 tyX8 tyX8_ok nmX8 hown hK.1 hP hD hS 0 rfl rfl 9 (by decide) (hg _ gw_949) (fun _ h9 => h9) rfl (tyX8_ok 9 (by decide)) rfl rfl (Nat.le_of_ble_eq_true rfl) dX8_readsCommand_238 (fun H locs hP hD hS => ?_)
      have hP : va_P D vwCl (wX8 cI h0 h1 h2 h3 h4 h5 aTh aSm aLn aAt aWe aRm_2 aBm aHa aS aSv aCm aRd aBy) H := hP
      have hD : va_D A (wX8 cI h0 h1 h2 h3 h4 h5 aTh aSm aLn aAt aWe aRm_2 aBm aHa aS aSv aCm aRd aBy) := hD
      cases h
      exact ret_v hx hb hr hlocks hP hD hS dX8_readsCommand_241
    · replace h := if_some q1 h
      refine lv_iconst (v := 1) hx hb dX8_readsCommand_232 (by decide) ?_
      refine lv_goto (tgt := 237) hx hb dX8_readsCommand_233 (by decide) ?_
      refine lv_iadd hx hb dX8_readsCommand_237 ?_
      obtain ⟨aRm_3, eaRm_3, h⟩ := kl_some h
      refine nm_i eaRm_3 ?_
      refine va_put (D := D) (ci := 8) (v := .int aRm_3) (ty := tyX8 9) (C := RX8) (T := TX8) (N := 13) hx hb hg uX8 tyX8 tyX8_ok nmX8 hown hK.1 hP hD hS 0 rfl rfl 9 (by decide) (hg _ gw_949) (fun _ h9 => h9) rfl (tyX8_ok 9 (by decide)) rfl rfl (Nat.le_of_ble_eq_true rfl) dX8_readsCommand_238 (fun H locs hP hD hS => ?_)
      have hP : va_P D vwCl (wX8 cI h0 h1 h2 h3 h4 h5 aTh aSm aLn aAt aWe aRm_3 aBm aHa aS aSv aCm aRd aBy) H := hP
      have hD : va_D A (wX8 cI h0 h1 h2 h3 h4 h5 aTh aSm aLn aAt aWe aRm_3 aBm aHa aS aSv aCm aRd aBy) := hD
      cases h
      exact ret_v hx hb hr hlocks hP hD hS dX8_readsCommand_241
  have c_206 : ∀ (x1 : Int32) (aAt : Int32) (aWe : Int32) (aRm : Int32) (aRd : Nat → Int32), f_X8_readsCommand_c206 Z aLn aCm x1 aAt aWe aRm aRd = some (aAt', aWe', aRm', aRd') → ∀ (H : Heap) (locs : List Loc), va_P D vwCl (wX8 cI h0 h1 h2 h3 h4 h5 aTh aSm aLn aAt aWe aRm aBm aHa aS aSv aCm aRd aBy) H → va_D A (wX8 cI h0 h1 h2 h3 h4 h5 aTh aSm aLn aAt aWe aRm aBm aHa aS aSv aCm aRd aBy) → va_S A s.heap H locs → ∀ ls : Array Slot, lv_has ls 3 [(0, .ref h0), (1, .int x1)] → W p l e rm_X8_readsCommand s m args below meth c H locs 0 0 (FV D below args s (wX8 cI h0 h1 h2 h3 h4 h5 aTh aSm aLn (aAt') (aWe') (aRm') aBm aHa aS aSv aCm (aRd') aBy) A) (F0 m 206 ls []) := by
    intro x1 aAt aWe aRm aRd h H locs hP hD hS ls hl
    unfold f_X8_readsCommand_c206 at h
    refine lv_aload_n hx hb dX8_readsCommand_206 rfl (lv_at hl 0 rfl) ?_
    refine va_get (D := D) (ci := 8) (v := .ref h4) (C := RX8) (T := TX8) (N := 13) hx hb hg uX8 hown hK.1 hP 0 rfl rfl 8 (by decide) (hg _ gw_948) (fun _ h9 => h9) rfl dX8_readsCommand_207 ?_
    refine lv_iload_n hx hb dX8_readsCommand_210 rfl (lv_at hl 1 rfl) ?_
    refine lv_iconst (v := 1) hx hb dX8_readsCommand_211 (by decide) ?_
    refine lv_iadd hx hb dX8_readsCommand_212 ?_
    refine lv_aload_n hx hb dX8_readsCommand_213 rfl (lv_at hl 0 rfl) ?_
    refine lv_iconst (v := 0) hx hb dX8_readsCommand_214 (by decide) ?_
    refine lv_iconst (v := 3) hx hb dX8_readsCommand_215 (by decide) ?_
    obtain ⟨⟨r4, aAt_4, aWe_4⟩, ec4, h⟩ := bd_some h
    refine cV_i (As := [.int 0, .int 3]) (rest := [.int (x1 + 1), .ref h4]) (wc := (wX8 cI h0 h1 h2 h3 h4 h5 aTh aSm aLn aAt aWe aRm aBm aHa aS aSv aCm aRd aBy)) (wc' := (wX8 cI h0 h1 h2 h3 h4 h5 aTh aSm aLn aAt_4 aWe_4 aRm aBm aHa aS aSv aCm aRd aBy)) hx hb hml hown hg hK hP hD hS hA hl.1 (k_X8_number l D cI cS cL Z h0 h1 h2 h3 h4 h5 0 3 aTh aSm aLn aAt aWe aRm aBm aHa aS aSv aCm aRd aBy ec4) gm_X8_number gw_1275 ⟨rfl, rfl, by decide, by decide⟩ ⟨Nat.zero_le _, Nat.zero_le _⟩ [0, 1, 2, 3, 4, 5] rfl rfl rfl rfl rfl rfl rfl rfl (Nat.le_of_ble_eq_true rfl) dX8_readsCommand_216 (fun H locs hP hD hS => ?_)
    have hP : va_P D vwCl (wX8 cI h0 h1 h2 h3 h4 h5 aTh aSm aLn aAt_4 aWe_4 aRm aBm aHa aS aSv aCm aRd aBy) H := hP
    have hD : va_D A (wX8 cI h0 h1 h2 h3 h4 h5 aTh aSm aLn aAt_4 aWe_4 aRm aBm aHa aS aSv aCm aRd aBy) := hD
    obtain ⟨v5, h⟩ := rd_some h
    obtain ⟨aRd_6, eaRd_6, h⟩ := kl_some h
    refine va_iast hx hb hK.1 hP hD hS 4 0 rfl rfl v5 dX8_readsCommand_219 (fun H locs hP hD hS => ?_)
    have hP : va_P D vwCl (wX8 cI h0 h1 h2 h3 h4 h5 aTh aSm aLn aAt_4 aWe_4 aRm aBm aHa aS aSv aCm aRd_6 aBy) H := by rw [eaRd_6]; exact hP
    have hD : va_D A (wX8 cI h0 h1 h2 h3 h4 h5 aTh aSm aLn aAt_4 aWe_4 aRm aBm aHa aS aSv aCm aRd_6 aBy) := by rw [eaRd_6]; exact hD
    exact c_220 aAt_4 aWe_4 aRm aRd_6 h H locs hP hD hS ls (lv_sub hl [0] rfl)
  have c_151 : ∀ (x1 : Int32) (aAt : Int32) (aWe : Int32) (aRm : Int32) (aRd : Nat → Int32), f_X8_readsCommand_c151 Z aLn aCm x1 aAt aWe aRm aRd = some (aAt', aWe', aRm', aRd') → ∀ (H : Heap) (locs : List Loc), va_P D vwCl (wX8 cI h0 h1 h2 h3 h4 h5 aTh aSm aLn aAt aWe aRm aBm aHa aS aSv aCm aRd aBy) H → va_D A (wX8 cI h0 h1 h2 h3 h4 h5 aTh aSm aLn aAt aWe aRm aBm aHa aS aSv aCm aRd aBy) → va_S A s.heap H locs → ∀ ls : Array Slot, lv_has ls 3 [(0, .ref h0), (1, .int x1)] → W p l e rm_X8_readsCommand s m args below meth c H locs 0 0 (FV D below args s (wX8 cI h0 h1 h2 h3 h4 h5 aTh aSm aLn (aAt') (aWe') (aRm') aBm aHa aS aSv aCm (aRd') aBy) A) (F0 m 151 ls []) := by
    intro x1 aAt aWe aRm aRd h H locs hP hD hS ls hl
    unfold f_X8_readsCommand_c151 at h
    refine lv_aload_n hx hb dX8_readsCommand_151 rfl (lv_at hl 0 rfl) ?_
    refine va_get (D := D) (ci := 8) (v := .ref h4) (C := RX8) (T := TX8) (N := 13) hx hb hg uX8 hown hK.1 hP 0 rfl rfl 8 (by decide) (hg _ gw_948) (fun _ h9 => h9) rfl dX8_readsCommand_152 ?_
    refine lv_iload_n hx hb dX8_readsCommand_155 rfl (lv_at hl 1 rfl) ?_
    refine lv_iconst (v := 1) hx hb dX8_readsCommand_156 (by decide) ?_
    refine lv_iadd hx hb dX8_readsCommand_157 ?_
    refine lv_aload_n hx hb dX8_readsCommand_158 rfl (lv_at hl 0 rfl) ?_
    refine lv_iconst (v := 1) hx hb dX8_readsCommand_159 (by decide) ?_
    refine lv_bipush (v := 99) hx hb dX8_readsCommand_160 (by decide) ?_
    obtain ⟨⟨r7, aAt_7, aWe_7⟩, ec7, h⟩ := bd_some h
    refine cV_i (As := [.int 1, .int 99]) (rest := [.int (x1 + 1), .ref h4]) (wc := (wX8 cI h0 h1 h2 h3 h4 h5 aTh aSm aLn aAt aWe aRm aBm aHa aS aSv aCm aRd aBy)) (wc' := (wX8 cI h0 h1 h2 h3 h4 h5 aTh aSm aLn aAt_7 aWe_7 aRm aBm aHa aS aSv aCm aRd aBy)) hx hb hml hown hg hK hP hD hS hA hl.1 (k_X8_number l D cI cS cL Z h0 h1 h2 h3 h4 h5 1 99 aTh aSm aLn aAt aWe aRm aBm aHa aS aSv aCm aRd aBy ec7) gm_X8_number gw_1275 ⟨rfl, rfl, by decide, by decide⟩ ⟨Nat.zero_le _, Nat.zero_le _⟩ [0, 1, 2, 3, 4, 5] rfl rfl rfl rfl rfl rfl rfl rfl (Nat.le_of_ble_eq_true rfl) dX8_readsCommand_162 (fun H locs hP hD hS => ?_)
    have hP : va_P D vwCl (wX8 cI h0 h1 h2 h3 h4 h5 aTh aSm aLn aAt_7 aWe_7 aRm aBm aHa aS aSv aCm aRd aBy) H := hP
    have hD : va_D A (wX8 cI h0 h1 h2 h3 h4 h5 aTh aSm aLn aAt_7 aWe_7 aRm aBm aHa aS aSv aCm aRd aBy) := hD
    obtain ⟨v8, h⟩ := rd_some h
    obtain ⟨aRd_9, eaRd_9, h⟩ := kl_some h
    refine va_iast hx hb hK.1 hP hD hS 4 0 rfl rfl v8 dX8_readsCommand_165 (fun H locs hP hD hS => ?_)
    have hP : va_P D vwCl (wX8 cI h0 h1 h2 h3 h4 h5 aTh aSm aLn aAt_7 aWe_7 aRm aBm aHa aS aSv aCm aRd_9 aBy) H := by rw [eaRd_9]; exact hP
    have hD : va_D A (wX8 cI h0 h1 h2 h3 h4 h5 aTh aSm aLn aAt_7 aWe_7 aRm aBm aHa aS aSv aCm aRd_9 aBy) := by rw [eaRd_9]; exact hD
    refine lv_goto (tgt := 220) hx hb dX8_readsCommand_166 (by decide) ?_
    exact c_220 aAt_7 aWe_7 aRm aRd_9 h H locs hP hD hS ls (lv_sub hl [0] rfl)
  have c_86 : ∀ (x1 : Int32) (x2 : Int32) (y1 : Int32) (y2 : Int32) (aAt : Int32) (aWe : Int32) (aRm : Int32) (aRd : Nat → Int32), f_X8_readsCommand_c86 Z aLn aCm x1 x2 y1 y2 aAt aWe aRm aRd = some (aAt', aWe', aRm', aRd') → ∀ (H : Heap) (locs : List Loc), va_P D vwCl (wX8 cI h0 h1 h2 h3 h4 h5 aTh aSm aLn aAt aWe aRm aBm aHa aS aSv aCm aRd aBy) H → va_D A (wX8 cI h0 h1 h2 h3 h4 h5 aTh aSm aLn aAt aWe aRm aBm aHa aS aSv aCm aRd aBy) → va_S A s.heap H locs → ∀ ls : Array Slot, lv_has ls 3 [(0, .ref h0), (1, .int x1), (2, .int x2)] → W p l e rm_X8_readsCommand s m args below meth c H locs 0 0 (FV D below args s (wX8 cI h0 h1 h2 h3 h4 h5 aTh aSm aLn (aAt') (aWe') (aRm') aBm aHa aS aSv aCm (aRd') aBy) A) (F0 m 86 ls [.int y2, .int y1, .ref h0]) := by
    intro x1 x2 y1 y2 aAt aWe aRm aRd h H locs hP hD hS ls hl
    unfold f_X8_readsCommand_c86 at h
    refine lv_iadd hx hb dX8_readsCommand_86 ?_
    obtain ⟨aAt_10, eaAt_10, h⟩ := kl_some h
    refine nm_i eaAt_10 ?_
    refine va_put (D := D) (ci := 8) (v := .int aAt_10) (ty := tyX8 6) (C := RX8) (T := TX8) (N := 13) hx hb hg uX8 tyX8 tyX8_ok nmX8 hown hK.1 hP hD hS 0 rfl rfl 6 (by decide) (hg _ gw_946) (fun _ h9 => h9) rfl (tyX8_ok 6 (by decide)) rfl rfl (Nat.le_of_ble_eq_true rfl) dX8_readsCommand_87 (fun H locs hP hD hS => ?_)
    have hP : va_P D vwCl (wX8 cI h0 h1 h2 h3 h4 h5 aTh aSm aLn aAt_10 aWe aRm aBm aHa aS aSv aCm aRd aBy) H := hP
    have hD : va_D A (wX8 cI h0 h1 h2 h3 h4 h5 aTh aSm aLn aAt_10 aWe aRm aBm aHa aS aSv aCm aRd aBy) := hD
    refine lv_aload_n hx hb dX8_readsCommand_90 rfl (lv_at hl 0 rfl) ?_
    refine va_get (D := D) (ci := 8) (v := .ref h4) (C := RX8) (T := TX8) (N := 13) hx hb hg uX8 hown hK.1 hP 0 rfl rfl 8 (by decide) (hg _ gw_948) (fun _ h9 => h9) rfl dX8_readsCommand_91 ?_
    refine lv_iload_n hx hb dX8_readsCommand_94 rfl (lv_at hl 1 rfl) ?_
    refine lv_iload_n hx hb dX8_readsCommand_95 rfl (lv_at hl 2 rfl) ?_
    obtain ⟨v11, h⟩ := rd_some h
    obtain ⟨aRd_12, eaRd_12, h⟩ := kl_some h
    refine va_iast hx hb hK.1 hP hD hS 4 0 rfl rfl v11 dX8_readsCommand_96 (fun H locs hP hD hS => ?_)
    have hP : va_P D vwCl (wX8 cI h0 h1 h2 h3 h4 h5 aTh aSm aLn aAt_10 aWe aRm aBm aHa aS aSv aCm aRd_12 aBy) H := by rw [eaRd_12]; exact hP
    have hD : va_D A (wX8 cI h0 h1 h2 h3 h4 h5 aTh aSm aLn aAt_10 aWe aRm aBm aHa aS aSv aCm aRd_12 aBy) := by rw [eaRd_12]; exact hD
    refine lv_aload_n hx hb dX8_readsCommand_97 rfl (lv_at hl 0 rfl) ?_
    refine va_get (D := D) (ci := 8) (v := .ref h4) (C := RX8) (T := TX8) (N := 13) hx hb hg uX8 hown hK.1 hP 0 rfl rfl 8 (by decide) (hg _ gw_948) (fun _ h9 => h9) rfl dX8_readsCommand_98 ?_
    refine lv_iload_n hx hb dX8_readsCommand_101 rfl (lv_at hl 1 rfl) ?_
    refine lv_iconst (v := 1) hx hb dX8_readsCommand_102 (by decide) ?_
    refine lv_iadd hx hb dX8_readsCommand_103 ?_
    refine lv_iconst (v := 0) hx hb dX8_readsCommand_104 (by decide) ?_
    obtain ⟨v13, h⟩ := rd_some h
    obtain ⟨aRd_14, eaRd_14, h⟩ := kl_some h
    refine va_iast hx hb hK.1 hP hD hS 4 0 rfl rfl v13 dX8_readsCommand_105 (fun H locs hP hD hS => ?_)
    have hP : va_P D vwCl (wX8 cI h0 h1 h2 h3 h4 h5 aTh aSm aLn aAt_10 aWe aRm aBm aHa aS aSv aCm aRd_14 aBy) H := by rw [eaRd_14]; exact hP
    have hD : va_D A (wX8 cI h0 h1 h2 h3 h4 h5 aTh aSm aLn aAt_10 aWe aRm aBm aHa aS aSv aCm aRd_14 aBy) := by rw [eaRd_14]; exact hD
    refine lv_aload_n hx hb dX8_readsCommand_106 rfl (lv_at hl 0 rfl) ?_
    refine va_get (D := D) (ci := 8) (v := .ref h4) (C := RX8) (T := TX8) (N := 13) hx hb hg uX8 hown hK.1 hP 0 rfl rfl 8 (by decide) (hg _ gw_948) (fun _ h9 => h9) rfl dX8_readsCommand_107 ?_
    refine lv_iload_n hx hb dX8_readsCommand_110 rfl (lv_at hl 1 rfl) ?_
    refine lv_iconst (v := 2) hx hb dX8_readsCommand_111 (by decide) ?_
    refine lv_iadd hx hb dX8_readsCommand_112 ?_
    refine lv_aload_n hx hb dX8_readsCommand_113 rfl (lv_at hl 0 rfl) ?_
    refine va_get (D := D) (ci := 8) (v := .int aAt_10) (C := RX8) (T := TX8) (N := 13) hx hb hg uX8 hown hK.1 hP 0 rfl rfl 6 (by decide) (hg _ gw_946) (fun _ h9 => h9) rfl dX8_readsCommand_114 ?_
    obtain ⟨v15, h⟩ := rd_some h
    obtain ⟨aRd_16, eaRd_16, h⟩ := kl_some h
    refine va_iast hx hb hK.1 hP hD hS 4 0 rfl rfl v15 dX8_readsCommand_117 (fun H locs hP hD hS => ?_)
    have hP : va_P D vwCl (wX8 cI h0 h1 h2 h3 h4 h5 aTh aSm aLn aAt_10 aWe aRm aBm aHa aS aSv aCm aRd_16 aBy) H := by rw [eaRd_16]; exact hP
    have hD : va_D A (wX8 cI h0 h1 h2 h3 h4 h5 aTh aSm aLn aAt_10 aWe aRm aBm aHa aS aSv aCm aRd_16 aBy) := by rw [eaRd_16]; exact hD
    refine lv_iload_n hx hb dX8_readsCommand_118 rfl (lv_at hl 2 rfl) ?_
    refine lv_bipush (v := 43) hx hb dX8_readsCommand_119 (by decide) ?_
    refine lv_icmp_ne (tgt := 139) hx hb dX8_readsCommand_121 (by decide) (fun q17 => ?_) (fun q17 => ?_)
    · replace h := if_some q17 h
      refine lv_iload_n hx hb dX8_readsCommand_139 rfl (lv_at hl 2 rfl) ?_
      refine lv_bipush (v := 45) hx hb dX8_readsCommand_140 (by decide) ?_
      refine lv_icmp_eq (tgt := 151) hx hb dX8_readsCommand_142 (by decide) (fun q18 => ?_) (fun q18 => ?_)
      · replace h := it_some q18 h
        exact c_151 x1 aAt_10 aWe aRm aRd_16 h H locs hP hD hS ls (lv_sub hl [0, 1] rfl)
      · replace h := if_some q18 h
        refine lv_iload_n hx hb dX8_readsCommand_145 rfl (lv_at hl 2 rfl) ?_
        refine lv_bipush (v := 60) hx hb dX8_readsCommand_146 (by decide) ?_
        refine lv_icmp_ne (tgt := 169) hx hb dX8_readsCommand_148 (by decide) (fun q19 => ?_) (fun q19 => ?_)
        · replace h := if_some q19 h
          refine lv_iload_n hx hb dX8_readsCommand_169 rfl (lv_at hl 2 rfl) ?_
          refine lv_bipush (v := 64) hx hb dX8_readsCommand_170 (by decide) ?_
          refine lv_icmp_ne (tgt := 194) hx hb dX8_readsCommand_172 (by decide) (fun q20 => ?_) (fun q20 => ?_)
          · replace h := if_some q20 h
            refine lv_iload_n hx hb dX8_readsCommand_194 rfl (lv_at hl 2 rfl) ?_
            refine lv_bipush (v := 109) hx hb dX8_readsCommand_195 (by decide) ?_
            refine lv_icmp_eq (tgt := 206) hx hb dX8_readsCommand_197 (by decide) (fun q21 => ?_) (fun q21 => ?_)
            · replace h := it_some q21 h
              exact c_206 x1 aAt_10 aWe aRm aRd_16 h H locs hP hD hS ls (lv_sub hl [0, 1] rfl)
            · replace h := if_some q21 h
              refine lv_iload_n hx hb dX8_readsCommand_200 rfl (lv_at hl 2 rfl) ?_
              refine lv_bipush (v := 120) hx hb dX8_readsCommand_201 (by decide) ?_
              refine lv_icmp_ne (tgt := 220) hx hb dX8_readsCommand_203 (by decide) (fun q22 => ?_) (fun q22 => ?_)
              · replace h := if_some q22 h
                exact c_220 aAt_10 aWe aRm aRd_16 h H locs hP hD hS ls (lv_sub hl [0] rfl)
              · replace h := it_some q22 h
                exact c_206 x1 aAt_10 aWe aRm aRd_16 h H locs hP hD hS ls (lv_sub hl [0, 1] rfl)
          · replace h := it_some q20 h
            refine lv_aload_n hx hb dX8_readsCommand_175 rfl (lv_at hl 0 rfl) ?_
            refine va_get (D := D) (ci := 8) (v := .ref h4) (C := RX8) (T := TX8) (N := 13) hx hb hg uX8 hown hK.1 hP 0 rfl rfl 8 (by decide) (hg _ gw_948) (fun _ h9 => h9) rfl dX8_readsCommand_176 ?_
            refine lv_iload_n hx hb dX8_readsCommand_179 rfl (lv_at hl 1 rfl) ?_
            refine lv_iconst (v := 1) hx hb dX8_readsCommand_180 (by decide) ?_
            refine lv_iadd hx hb dX8_readsCommand_181 ?_
            refine lv_aload_n hx hb dX8_readsCommand_182 rfl (lv_at hl 0 rfl) ?_
            refine lv_iconst (v := 0) hx hb dX8_readsCommand_183 (by decide) ?_
            refine lv_sipush (v := 256) hx hb dX8_readsCommand_184 (by decide) ?_
            obtain ⟨⟨r23, aAt_23, aWe_23⟩, ec23, h⟩ := bd_some h
            refine cV_i (As := [.int 0, .int 256]) (rest := [.int (x1 + 1), .ref h4]) (wc := (wX8 cI h0 h1 h2 h3 h4 h5 aTh aSm aLn aAt_10 aWe aRm aBm aHa aS aSv aCm aRd_16 aBy)) (wc' := (wX8 cI h0 h1 h2 h3 h4 h5 aTh aSm aLn aAt_23 aWe_23 aRm aBm aHa aS aSv aCm aRd_16 aBy)) hx hb hml hown hg hK hP hD hS hA hl.1 (k_X8_number l D cI cS cL Z h0 h1 h2 h3 h4 h5 0 256 aTh aSm aLn aAt_10 aWe aRm aBm aHa aS aSv aCm aRd_16 aBy ec23) gm_X8_number gw_1275 ⟨rfl, rfl, by decide, by decide⟩ ⟨Nat.zero_le _, Nat.zero_le _⟩ [0, 1, 2, 3, 4, 5] rfl rfl rfl rfl rfl rfl rfl rfl (Nat.le_of_ble_eq_true rfl) dX8_readsCommand_187 (fun H locs hP hD hS => ?_)
            have hP : va_P D vwCl (wX8 cI h0 h1 h2 h3 h4 h5 aTh aSm aLn aAt_23 aWe_23 aRm aBm aHa aS aSv aCm aRd_16 aBy) H := hP
            have hD : va_D A (wX8 cI h0 h1 h2 h3 h4 h5 aTh aSm aLn aAt_23 aWe_23 aRm aBm aHa aS aSv aCm aRd_16 aBy) := hD
            obtain ⟨v24, h⟩ := rd_some h
            obtain ⟨aRd_25, eaRd_25, h⟩ := kl_some h
            refine va_iast hx hb hK.1 hP hD hS 4 0 rfl rfl v24 dX8_readsCommand_190 (fun H locs hP hD hS => ?_)
            have hP : va_P D vwCl (wX8 cI h0 h1 h2 h3 h4 h5 aTh aSm aLn aAt_23 aWe_23 aRm aBm aHa aS aSv aCm aRd_25 aBy) H := by rw [eaRd_25]; exact hP
            have hD : va_D A (wX8 cI h0 h1 h2 h3 h4 h5 aTh aSm aLn aAt_23 aWe_23 aRm aBm aHa aS aSv aCm aRd_25 aBy) := by rw [eaRd_25]; exact hD
            refine lv_goto (tgt := 220) hx hb dX8_readsCommand_191 (by decide) ?_
            exact c_220 aAt_23 aWe_23 aRm aRd_25 h H locs hP hD hS ls (lv_sub hl [0] rfl)
        · replace h := it_some q19 h
          exact c_151 x1 aAt_10 aWe aRm aRd_16 h H locs hP hD hS ls (lv_sub hl [0, 1] rfl)
    · replace h := it_some q17 h
      refine lv_aload_n hx hb dX8_readsCommand_124 rfl (lv_at hl 0 rfl) ?_
      refine va_get (D := D) (ci := 8) (v := .ref h4) (C := RX8) (T := TX8) (N := 13) hx hb hg uX8 hown hK.1 hP 0 rfl rfl 8 (by decide) (hg _ gw_948) (fun _ h9 => h9) rfl dX8_readsCommand_125 ?_
      refine lv_iload_n hx hb dX8_readsCommand_128 rfl (lv_at hl 1 rfl) ?_
      refine lv_iconst (v := 1) hx hb dX8_readsCommand_129 (by decide) ?_
      refine lv_iadd hx hb dX8_readsCommand_130 ?_
      refine lv_aload_n hx hb dX8_readsCommand_131 rfl (lv_at hl 0 rfl) ?_
      obtain ⟨⟨r26, aAt_26, aWe_26⟩, ec26, h⟩ := bd_some h
      refine cV_i (As := []) (rest := [.int (x1 + 1), .ref h4]) (wc := (wX8 cI h0 h1 h2 h3 h4 h5 aTh aSm aLn aAt_10 aWe aRm aBm aHa aS aSv aCm aRd_16 aBy)) (wc' := (wX8 cI h0 h1 h2 h3 h4 h5 aTh aSm aLn aAt_26 aWe_26 aRm aBm aHa aS aSv aCm aRd_16 aBy)) hx hb hml hown hg hK hP hD hS hA hl.1 (k_X8_letters l D cI cS cL Z h0 h1 h2 h3 h4 h5 aTh aSm aLn aAt_10 aWe aRm aBm aHa aS aSv aCm aRd_16 aBy ec26) gm_X8_letters gw_1271 ⟨rfl, rfl, by decide, by decide⟩ ⟨Nat.zero_le _, Nat.zero_le _⟩ [0, 1, 2, 3, 4, 5] rfl rfl rfl rfl rfl rfl rfl rfl (Nat.le_of_ble_eq_true rfl) dX8_readsCommand_132 (fun H locs hP hD hS => ?_)
      have hP : va_P D vwCl (wX8 cI h0 h1 h2 h3 h4 h5 aTh aSm aLn aAt_26 aWe_26 aRm aBm aHa aS aSv aCm aRd_16 aBy) H := hP
      have hD : va_D A (wX8 cI h0 h1 h2 h3 h4 h5 aTh aSm aLn aAt_26 aWe_26 aRm aBm aHa aS aSv aCm aRd_16 aBy) := hD
      obtain ⟨v27, h⟩ := rd_some h
      obtain ⟨aRd_28, eaRd_28, h⟩ := kl_some h
      refine va_iast hx hb hK.1 hP hD hS 4 0 rfl rfl v27 dX8_readsCommand_135 (fun H locs hP hD hS => ?_)
      have hP : va_P D vwCl (wX8 cI h0 h1 h2 h3 h4 h5 aTh aSm aLn aAt_26 aWe_26 aRm aBm aHa aS aSv aCm aRd_28 aBy) H := by rw [eaRd_28]; exact hP
      have hD : va_D A (wX8 cI h0 h1 h2 h3 h4 h5 aTh aSm aLn aAt_26 aWe_26 aRm aBm aHa aS aSv aCm aRd_28 aBy) := by rw [eaRd_28]; exact hD
      refine lv_goto (tgt := 220) hx hb dX8_readsCommand_136 (by decide) ?_
      exact c_220 aAt_26 aWe_26 aRm aRd_28 h H locs hP hD hS ls (lv_sub hl [0] rfl)
  have c_66 : ∀ (x1 : Int32) (x2 : Int32) (y1 : Int32) (aAt : Int32) (aWe : Int32) (aRm : Int32) (aRd : Nat → Int32), f_X8_readsCommand_c66 Z aLn aCm x1 x2 y1 aAt aWe aRm aRd = some (aAt', aWe', aRm', aRd') → ∀ (H : Heap) (locs : List Loc), va_P D vwCl (wX8 cI h0 h1 h2 h3 h4 h5 aTh aSm aLn aAt aWe aRm aBm aHa aS aSv aCm aRd aBy) H → va_D A (wX8 cI h0 h1 h2 h3 h4 h5 aTh aSm aLn aAt aWe aRm aBm aHa aS aSv aCm aRd aBy) → va_S A s.heap H locs → ∀ ls : Array Slot, lv_has ls 3 [(0, .ref h0), (1, .int x1), (2, .int x2)] → W p l e rm_X8_readsCommand s m args below meth c H locs 0 0 (FV D below args s (wX8 cI h0 h1 h2 h3 h4 h5 aTh aSm aLn (aAt') (aWe') (aRm') aBm aHa aS aSv aCm (aRd') aBy) A) (F0 m 66 ls [.int y1, .ref h0]) := by
    intro x1 x2 y1 aAt aWe aRm aRd h H locs hP hD hS ls hl
    unfold f_X8_readsCommand_c66 at h
    obtain ⟨b29, h⟩ := kb_some h
    refine va_put (D := D) (ci := 8) (v := .int y1) (ty := tyX8 7) (C := RX8) (T := TX8) (N := 13) hx hb hg uX8 tyX8 tyX8_ok nmX8 hown hK.1 hP hD hS 0 rfl rfl 7 (by decide) (hg _ gw_947) (fun _ h9 => h9) rfl (tyX8_ok 7 (by decide)) (nar_b b29) (fit_b b29) (Nat.le_of_ble_eq_true rfl) dX8_readsCommand_66 (fun H locs hP hD hS => ?_)
    have hP : va_P D vwCl (wX8 cI h0 h1 h2 h3 h4 h5 aTh aSm aLn aAt y1 aRm aBm aHa aS aSv aCm aRd aBy) H := hP
    have hD : va_D A (wX8 cI h0 h1 h2 h3 h4 h5 aTh aSm aLn aAt y1 aRm aBm aHa aS aSv aCm aRd aBy) := hD
    refine lv_aload_n hx hb dX8_readsCommand_69 rfl (lv_at hl 0 rfl) ?_
    refine lv_dup hx hb dX8_readsCommand_70 rfl ?_
    refine va_get (D := D) (ci := 8) (v := .int aAt) (C := RX8) (T := TX8) (N := 13) hx hb hg uX8 hown hK.1 hP 0 rfl rfl 6 (by decide) (hg _ gw_946) (fun _ h9 => h9) rfl dX8_readsCommand_71 ?_
    refine lv_aload_n hx hb dX8_readsCommand_74 rfl (lv_at hl 0 rfl) ?_
    refine va_get (D := D) (ci := 8) (v := .int y1) (C := RX8) (T := TX8) (N := 13) hx hb hg uX8 hown hK.1 hP 0 rfl rfl 7 (by decide) (hg _ gw_947) (fun _ h9 => h9) rfl dX8_readsCommand_75 ?_
    refine lv_if_eq (tgt := 85) hx hb dX8_readsCommand_78 (by decide) (fun q30 => ?_) (fun q30 => ?_)
    · replace h := it_some q30 h
      refine lv_iconst (v := 0) hx hb dX8_readsCommand_85 (by decide) ?_
      exact c_86 x1 x2 aAt 0 aAt y1 aRm aRd h H locs hP hD hS ls (lv_sub hl [0, 1, 2] rfl)
    · replace h := if_some q30 h
      refine lv_iconst (v := 1) hx hb dX8_readsCommand_81 (by decide) ?_
      refine lv_goto (tgt := 86) hx hb dX8_readsCommand_82 (by decide) ?_
      exact c_86 x1 x2 aAt 1 aAt y1 aRm aRd h H locs hP hD hS ls (lv_sub hl [0, 1, 2] rfl)
  have c_61 : ∀ (x1 : Int32) (x2 : Int32) (aAt : Int32) (aWe : Int32) (aRm : Int32) (aRd : Nat → Int32), f_X8_readsCommand_c61 Z aLn aCm x1 x2 aAt aWe aRm aRd = some (aAt', aWe', aRm', aRd') → ∀ (H : Heap) (locs : List Loc), va_P D vwCl (wX8 cI h0 h1 h2 h3 h4 h5 aTh aSm aLn aAt aWe aRm aBm aHa aS aSv aCm aRd aBy) H → va_D A (wX8 cI h0 h1 h2 h3 h4 h5 aTh aSm aLn aAt aWe aRm aBm aHa aS aSv aCm aRd aBy) → va_S A s.heap H locs → ∀ ls : Array Slot, lv_has ls 3 [(0, .ref h0), (1, .int x1), (2, .int x2)] → W p l e rm_X8_readsCommand s m args below meth c H locs 0 0 (FV D below args s (wX8 cI h0 h1 h2 h3 h4 h5 aTh aSm aLn (aAt') (aWe') (aRm') aBm aHa aS aSv aCm (aRd') aBy) A) (F0 m 61 ls [.ref h0]) := by
    intro x1 x2 aAt aWe aRm aRd h H locs hP hD hS ls hl
    unfold f_X8_readsCommand_c61 at h
    refine lv_iconst (v := 1) hx hb dX8_readsCommand_61 (by decide) ?_
    refine lv_goto (tgt := 66) hx hb dX8_readsCommand_62 (by decide) ?_
    exact c_66 x1 x2 1 aAt aWe aRm aRd h H locs hP hD hS ls (lv_sub hl [0, 1, 2] rfl)
  have hl : lv_has ls 3 [(0, .ref h0)] := hl
  have hP : va_P D vwCl (wX8 cI h0 h1 h2 h3 h4 h5 aTh aSm aLn aAt aWe aRm aBm aHa aS aSv aCm aRd aBy) s.heap := hP
  have hD : va_D A (wX8 cI h0 h1 h2 h3 h4 h5 aTh aSm aLn aAt aWe aRm aBm aHa aS aSv aCm aRd aBy) := hD
  show W p l e rm_X8_readsCommand s m args below meth c s.heap [] 0 0 (FV D below args s (wX8 cI h0 h1 h2 h3 h4 h5 aTh aSm aLn (aAt') (aWe') (aRm') aBm aHa aS aSv aCm (aRd') aBy) A) (F0 m 0 ls [])
  unfold f_X8_readsCommand at h
  have hmain : ∀ (H : Heap) (locs : List Loc), va_P D vwCl (wX8 cI h0 h1 h2 h3 h4 h5 aTh aSm aLn aAt aWe aRm aBm aHa aS aSv aCm aRd aBy) H → va_S A s.heap H locs → W p l e rm_X8_readsCommand s m args below meth c H locs 0 0 (FV D below args s (wX8 cI h0 h1 h2 h3 h4 h5 aTh aSm aLn (aAt') (aWe') (aRm') aBm aHa aS aSv aCm (aRd') aBy) A) (F0 m 0 ls []) := by
    intro H locs hP hS
    refine lv_iconst (v := 3) hx hb dX8_readsCommand_0 (by decide) ?_
    refine lv_aload_n hx hb dX8_readsCommand_1 rfl (lv_at hl 0 rfl) ?_
    refine va_get (D := D) (ci := 8) (v := .int aRm) (C := RX8) (T := TX8) (N := 13) hx hb hg uX8 hown hK.1 hP 0 rfl rfl 9 (by decide) (hg _ gw_949) (fun _ h9 => h9) rfl dX8_readsCommand_2 ?_
    refine lv_imul hx hb dX8_readsCommand_5 ?_
    obtain ⟨x1_31, ex1_31, h⟩ := kl_some h
    refine nm_i ex1_31 ?_
    refine lv_istore_n (lv' := [(1, .int x1_31), (0, .ref h0)]) hx hb dX8_readsCommand_6 rfl hl (by decide) rfl (fun ls hl => ?_)
    refine lv_aload_n hx hb dX8_readsCommand_7 rfl (lv_at hl 1 rfl) ?_
    obtain ⟨r32, ec32, h⟩ := bd_some h
    refine cV_i (As := []) (rest := []) (wc := (wX8 cI h0 h1 h2 h3 h4 h5 aTh aSm aLn aAt aWe aRm aBm aHa aS aSv aCm aRd aBy)) (wc' := (wX8 cI h0 h1 h2 h3 h4 h5 aTh aSm aLn aAt aWe aRm aBm aHa aS aSv aCm aRd aBy)) hx hb hml hown hg hK hP hD hS hA hl.1 (k_X8_sign l D cI cS cL Z h0 h1 h2 h3 h4 h5 aTh aSm aLn aAt aWe aRm aBm aHa aS aSv aCm aRd aBy ec32) gm_X8_sign gw_1267 ⟨rfl, rfl, by decide, by decide⟩ ⟨Nat.zero_le _, Nat.zero_le _⟩ [0, 1, 2, 3, 4, 5] rfl rfl rfl rfl rfl rfl rfl rfl (Nat.le_of_ble_eq_true rfl) dX8_readsCommand_8 (fun H locs hP hD hS => ?_)
    have hP : va_P D vwCl (wX8 cI h0 h1 h2 h3 h4 h5 aTh aSm aLn aAt aWe aRm aBm aHa aS aSv aCm aRd aBy) H := hP
    have hD : va_D A (wX8 cI h0 h1 h2 h3 h4 h5 aTh aSm aLn aAt aWe aRm aBm aHa aS aSv aCm aRd aBy) := hD
    refine lv_istore_n (lv' := [(2, .int r32), (1, .int x1_31), (0, .ref h0)]) hx hb dX8_readsCommand_11 rfl hl (by decide) rfl (fun ls hl => ?_)
    refine lv_aload_n hx hb dX8_readsCommand_12 rfl (lv_at hl 2 rfl) ?_
    refine lv_iload_n hx hb dX8_readsCommand_13 rfl (lv_at hl 0 rfl) ?_
    refine lv_bipush (v := 43) hx hb dX8_readsCommand_14 (by decide) ?_
    refine lv_icmp_eq (tgt := 61) hx hb dX8_readsCommand_16 (by decide) (fun q33 => ?_) (fun q33 => ?_)
    · replace h := it_some q33 h
      exact c_61 x1_31 r32 aAt aWe aRm aRd h H locs hP hD hS ls (lv_sub hl [2, 1, 0] rfl)
    · replace h := if_some q33 h
      refine lv_iload_n hx hb dX8_readsCommand_19 rfl (lv_at hl 0 rfl) ?_
      refine lv_bipush (v := 110) hx hb dX8_readsCommand_20 (by decide) ?_
      refine lv_icmp_eq (tgt := 61) hx hb dX8_readsCommand_22 (by decide) (fun q34 => ?_) (fun q34 => ?_)
      · replace h := it_some q34 h
        exact c_61 x1_31 r32 aAt aWe aRm aRd h H locs hP hD hS ls (lv_sub hl [2, 1, 0] rfl)
      · replace h := if_some q34 h
        refine lv_iload_n hx hb dX8_readsCommand_25 rfl (lv_at hl 0 rfl) ?_
        refine lv_bipush (v := 45) hx hb dX8_readsCommand_26 (by decide) ?_
        refine lv_icmp_eq (tgt := 61) hx hb dX8_readsCommand_28 (by decide) (fun q35 => ?_) (fun q35 => ?_)
        · replace h := it_some q35 h
          exact c_61 x1_31 r32 aAt aWe aRm aRd h H locs hP hD hS ls (lv_sub hl [2, 1, 0] rfl)
        · replace h := if_some q35 h
          refine lv_iload_n hx hb dX8_readsCommand_31 rfl (lv_at hl 0 rfl) ?_
          refine lv_bipush (v := 60) hx hb dX8_readsCommand_32 (by decide) ?_
          refine lv_icmp_eq (tgt := 61) hx hb dX8_readsCommand_34 (by decide) (fun q36 => ?_) (fun q36 => ?_)
          · replace h := it_some q36 h
            exact c_61 x1_31 r32 aAt aWe aRm aRd h H locs hP hD hS ls (lv_sub hl [2, 1, 0] rfl)
          · replace h := if_some q36 h
            refine lv_iload_n hx hb dX8_readsCommand_37 rfl (lv_at hl 0 rfl) ?_
            refine lv_bipush (v := 64) hx hb dX8_readsCommand_38 (by decide) ?_
            refine lv_icmp_eq (tgt := 61) hx hb dX8_readsCommand_40 (by decide) (fun q37 => ?_) (fun q37 => ?_)
            · replace h := it_some q37 h
              exact c_61 x1_31 r32 aAt aWe aRm aRd h H locs hP hD hS ls (lv_sub hl [2, 1, 0] rfl)
            · replace h := if_some q37 h
              refine lv_iload_n hx hb dX8_readsCommand_43 rfl (lv_at hl 0 rfl) ?_
              refine lv_bipush (v := 109) hx hb dX8_readsCommand_44 (by decide) ?_
              refine lv_icmp_eq (tgt := 61) hx hb dX8_readsCommand_46 (by decide) (fun q38 => ?_) (fun q38 => ?_)
              · replace h := it_some q38 h
                exact c_61 x1_31 r32 aAt aWe aRm aRd h H locs hP hD hS ls (lv_sub hl [2, 1, 0] rfl)
              · replace h := if_some q38 h
                refine lv_iload_n hx hb dX8_readsCommand_49 rfl (lv_at hl 0 rfl) ?_
                refine lv_bipush (v := 120) hx hb dX8_readsCommand_50 (by decide) ?_
                refine lv_icmp_eq (tgt := 61) hx hb dX8_readsCommand_52 (by decide) (fun q39 => ?_) (fun q39 => ?_)
                · replace h := it_some q39 h
                  exact c_61 x1_31 r32 aAt aWe aRm aRd h H locs hP hD hS ls (lv_sub hl [2, 1, 0] rfl)
                · replace h := if_some q39 h
                  refine lv_iload_n hx hb dX8_readsCommand_55 rfl (lv_at hl 0 rfl) ?_
                  refine lv_bipush (v := 112) hx hb dX8_readsCommand_56 (by decide) ?_
                  refine lv_icmp_ne (tgt := 65) hx hb dX8_readsCommand_58 (by decide) (fun q40 => ?_) (fun q40 => ?_)
                  · replace h := if_some q40 h
                    refine lv_iconst (v := 0) hx hb dX8_readsCommand_65 (by decide) ?_
                    exact c_66 x1_31 r32 0 aAt aWe aRm aRd h H locs hP hD hS ls (lv_sub hl [2, 1, 0] rfl)
                  · replace h := it_some q40 h
                    exact c_61 x1_31 r32 aAt aWe aRm aRd h H locs hP hD hS ls (lv_sub hl [2, 1, 0] rfl)
  exact hmain _ _ hP hS
abbrev rm_X8_reads : Room := { frames := 4, cells := 0, slots := 0, locals := 87 }
def f_X8_reads_b14 (Z : Nat) (aLn : Int32) (aCm : Nat → Int32) (rec : Int32 → Int32 → Int32 → (Nat → Int32) → Option (Int32 × Int32 × Int32 × Int32 × (Nat → Int32))) (aAt : Int32) (aWe : Int32) (aRm : Int32) (aRd : Nat → Int32) : Option (Int32 × Int32 × Int32 × Int32 × (Nat → Int32)) :=
      if aWe = 0 then
        kb aWe (some (aWe, aAt, aWe, aRm, aRd))
      else
        if aLn ≤ aAt then
          kb aWe (some (aWe, aAt, aWe, aRm, aRd))
        else
          (f_X8_sign Z aLn aAt aCm).bind fun r5 =>
          if r5 = 59 then
            if ((1) : Int32) = 0 then
              kl (aAt + 0) fun aAt_15 =>
              if ((1) : Int32) = 0 then
                rec aAt_15 (1) aRm aRd
              else
                (f_X8_readsCommand Z aLn aAt_15 (1) aRm aCm aRd).bind fun (aAt_17, aWe_17, aRm_17, aRd_17) =>
                rec aAt_17 aWe_17 aRm_17 aRd_17
            else
              kl (aAt + 1) fun aAt_18 =>
              if ((1) : Int32) = 0 then
                rec aAt_18 (1) aRm aRd
              else
                (f_X8_readsCommand Z aLn aAt_18 (1) aRm aCm aRd).bind fun (aAt_20, aWe_20, aRm_20, aRd_20) =>
                rec aAt_20 aWe_20 aRm_20 aRd_20
          else
            if ((0) : Int32) = 0 then
              kl (aAt + 0) fun aAt_8 =>
              if ((0) : Int32) = 0 then
                rec aAt_8 (0) aRm aRd
              else
                (f_X8_readsCommand Z aLn aAt_8 (0) aRm aCm aRd).bind fun (aAt_10, aWe_10, aRm_10, aRd_10) =>
                rec aAt_10 aWe_10 aRm_10 aRd_10
            else
              kl (aAt + 1) fun aAt_11 =>
              if ((0) : Int32) = 0 then
                rec aAt_11 (0) aRm aRd
              else
                (f_X8_readsCommand Z aLn aAt_11 (0) aRm aCm aRd).bind fun (aAt_13, aWe_13, aRm_13, aRd_13) =>
                rec aAt_13 aWe_13 aRm_13 aRd_13
def f_X8_reads_l14 (Z : Nat) (aLn : Int32) (aCm : Nat → Int32) : Nat → Int32 → Int32 → Int32 → (Nat → Int32) → Option (Int32 × Int32 × Int32 × Int32 × (Nat → Int32))
  | 0, _, _, _, _ => none
  | n + 1, aAt, aWe, aRm, aRd => f_X8_reads_b14 Z aLn aCm (f_X8_reads_l14 Z aLn aCm n) aAt aWe aRm aRd
def f_X8_reads (Z : Nat) (aLn : Int32) (aAt : Int32) (aWe : Int32) (aRm : Int32) (aCm : Nat → Int32) (aRd : Nat → Int32) : Option (Int32 × Int32 × Int32 × Int32 × (Nat → Int32)) :=
  (f_X8_readsCommand Z aLn (0) aWe (0) aCm aRd).bind fun (aAt_21, aWe_21, aRm_21, aRd_21) =>
  f_X8_reads_l14 Z aLn aCm Z aAt_21 aWe_21 aRm_21 aRd_21
set_option maxRecDepth 100000 in
set_option maxHeartbeats 4000000 in
theorem k_X8_reads (l : Launch) (D : va_G) (cI cS cL : ClassId) (Z : Nat) (h0 : Nat) (h1 : Nat) (h2 : Nat) (h3 : Nat) (h4 : Nat) (h5 : Nat) (aTh : Int32) (aSm : Int32) (aLn : Int32) (aAt : Int32) (aWe : Int32) (aRm : Int32) (aBm : Int32) (aHa : Int64) (aS : Nat → Int32) (aSv : Nat → Int32) (aCm : Nat → Int32) (aRd : Nat → Int32) (aBy : Nat → Int32) {r : Int32} {aAt' : Int32} {aWe' : Int32} {aRm' : Int32} {aRd' : Nat → Int32} (h : f_X8_reads Z aLn aAt aWe aRm aCm aRd = some (r, aAt', aWe', aRm', aRd')) : CI l yX8_reads cX8_reads 1 (some .boolean) rm_X8_reads D cI cS cL [.ref h0] (wX8 cI h0 h1 h2 h3 h4 h5 aTh aSm aLn aAt aWe aRm aBm aHa aS aSv aCm aRd aBy) (wX8 cI h0 h1 h2 h3 h4 h5 aTh aSm aLn (aAt') (aWe') (aRm') aBm aHa aS aSv aCm (aRd') aBy) r := by
  refine ent_i (by decide +kernel) (Nat.le_of_ble_eq_true rfl) ?_
  intro p e s m args below meth c A ls hx hb hr hml hlocks hg hown hK hP hD hS hA hl
  have hown : s.vm.findClass RX8 = some m.cls := hown
  have c_14 : ∀ (n : Nat) (aAt : Int32) (aWe : Int32) (aRm : Int32) (aRd : Nat → Int32), f_X8_reads_l14 Z aLn aCm n aAt aWe aRm aRd = some (r, aAt', aWe', aRm', aRd') → ∀ (H : Heap) (locs : List Loc), va_P D vwCl (wX8 cI h0 h1 h2 h3 h4 h5 aTh aSm aLn aAt aWe aRm aBm aHa aS aSv aCm aRd aBy) H → va_D A (wX8 cI h0 h1 h2 h3 h4 h5 aTh aSm aLn aAt aWe aRm aBm aHa aS aSv aCm aRd aBy) → va_S A s.heap H locs → ∀ ls : Array Slot, lv_has ls 1 [(0, .ref h0)] → W p l e rm_X8_reads s m args below meth c H locs 0 0 (FI D below args s (wX8 cI h0 h1 h2 h3 h4 h5 aTh aSm aLn (aAt') (aWe') (aRm') aBm aHa aS aSv aCm (aRd') aBy) r A) (F0 m 14 ls []) := by
    intro n
    induction n with
    | zero => intro aAt aWe aRm aRd h; exact no_some h
    | succ n ih =>
      intro aAt aWe aRm aRd h H locs hP hD hS ls hl
      have h : f_X8_reads_b14 Z aLn aCm (f_X8_reads_l14 Z aLn aCm n) aAt aWe aRm aRd = some (r, aAt', aWe', aRm', aRd') := h
      unfold f_X8_reads_b14 at h
      refine lv_aload_n hx hb dX8_reads_14 rfl (lv_at hl 0 rfl) ?_
      refine va_get (D := D) (ci := 8) (v := .int aWe) (C := RX8) (T := TX8) (N := 13) hx hb hg uX8 hown hK.1 hP 0 rfl rfl 7 (by decide) (hg _ gw_947) (fun _ h9 => h9) rfl dX8_reads_15 ?_
      refine lv_if_eq (tgt := 85) hx hb dX8_reads_18 (by decide) (fun q1 => ?_) (fun q1 => ?_)
      · replace h := it_some q1 h
        refine lv_aload_n hx hb dX8_reads_85 rfl (lv_at hl 0 rfl) ?_
        refine va_get (D := D) (ci := 8) (v := .int aWe) (C := RX8) (T := TX8) (N := 13) hx hb hg uX8 hown hK.1 hP 0 rfl rfl 7 (by decide) (hg _ gw_947) (fun _ h9 => h9) rfl dX8_reads_86 ?_
        obtain ⟨b2, h⟩ := kb_some h
        cases h
        exact ret_z hx hb hr hlocks hP hD hS dX8_reads_89 b2 rfl
      · replace h := if_some q1 h
        refine lv_aload_n hx hb dX8_reads_21 rfl (lv_at hl 0 rfl) ?_
        refine va_get (D := D) (ci := 8) (v := .int aAt) (C := RX8) (T := TX8) (N := 13) hx hb hg uX8 hown hK.1 hP 0 rfl rfl 6 (by decide) (hg _ gw_946) (fun _ h9 => h9) rfl dX8_reads_22 ?_
        refine lv_aload_n hx hb dX8_reads_25 rfl (lv_at hl 0 rfl) ?_
        refine va_get (D := D) (ci := 8) (v := .int aLn) (C := RX8) (T := TX8) (N := 13) hx hb hg uX8 hown hK.1 hP 0 rfl rfl 5 (by decide) (hg _ gw_945) (fun _ h9 => h9) rfl dX8_reads_26 ?_
        refine lv_icmp_ge (tgt := 85) hx hb dX8_reads_29 (by decide) (fun q3 => ?_) (fun q3 => ?_)
        · replace h := it_some q3 h
          refine lv_aload_n hx hb dX8_reads_85 rfl (lv_at hl 0 rfl) ?_
          refine va_get (D := D) (ci := 8) (v := .int aWe) (C := RX8) (T := TX8) (N := 13) hx hb hg uX8 hown hK.1 hP 0 rfl rfl 7 (by decide) (hg _ gw_947) (fun _ h9 => h9) rfl dX8_reads_86 ?_
          obtain ⟨b4, h⟩ := kb_some h
          cases h
          exact ret_z hx hb hr hlocks hP hD hS dX8_reads_89 b4 rfl
        · replace h := if_some q3 h
          refine lv_aload_n hx hb dX8_reads_32 rfl (lv_at hl 0 rfl) ?_
          refine lv_aload_n hx hb dX8_reads_33 rfl (lv_at hl 0 rfl) ?_
          obtain ⟨r5, ec5, h⟩ := bd_some h
          refine cV_i (As := []) (rest := [.ref h0]) (wc := (wX8 cI h0 h1 h2 h3 h4 h5 aTh aSm aLn aAt aWe aRm aBm aHa aS aSv aCm aRd aBy)) (wc' := (wX8 cI h0 h1 h2 h3 h4 h5 aTh aSm aLn aAt aWe aRm aBm aHa aS aSv aCm aRd aBy)) hx hb hml hown hg hK hP hD hS hA hl.1 (k_X8_sign l D cI cS cL Z h0 h1 h2 h3 h4 h5 aTh aSm aLn aAt aWe aRm aBm aHa aS aSv aCm aRd aBy ec5) gm_X8_sign gw_1267 ⟨rfl, rfl, by decide, by decide⟩ ⟨Nat.zero_le _, Nat.zero_le _⟩ [0, 1, 2, 3, 4, 5] rfl rfl rfl rfl rfl rfl rfl rfl (Nat.le_of_ble_eq_true rfl) dX8_reads_34 (fun H locs hP hD hS => ?_)
          have hP : va_P D vwCl (wX8 cI h0 h1 h2 h3 h4 h5 aTh aSm aLn aAt aWe aRm aBm aHa aS aSv aCm aRd aBy) H := hP
          have hD : va_D A (wX8 cI h0 h1 h2 h3 h4 h5 aTh aSm aLn aAt aWe aRm aBm aHa aS aSv aCm aRd aBy) := hD
          refine lv_bipush (v := 59) hx hb dX8_reads_37 (by decide) ?_
          refine lv_icmp_ne (tgt := 46) hx hb dX8_reads_39 (by decide) (fun q6 => ?_) (fun q6 => ?_)
          · replace h := if_some q6 h
            refine lv_iconst (v := 0) hx hb dX8_reads_46 (by decide) ?_
            refine va_put (D := D) (ci := 8) (v := .int 0) (ty := tyX8 7) (C := RX8) (T := TX8) (N := 13) hx hb hg uX8 tyX8 tyX8_ok nmX8 hown hK.1 hP hD hS 0 rfl rfl 7 (by decide) (hg _ gw_947) (fun _ h9 => h9) rfl (tyX8_ok 7 (by decide)) rfl rfl (Nat.le_of_ble_eq_true rfl) dX8_reads_47 (fun H locs hP hD hS => ?_)
            have hP : va_P D vwCl (wX8 cI h0 h1 h2 h3 h4 h5 aTh aSm aLn aAt (0) aRm aBm aHa aS aSv aCm aRd aBy) H := hP
            have hD : va_D A (wX8 cI h0 h1 h2 h3 h4 h5 aTh aSm aLn aAt (0) aRm aBm aHa aS aSv aCm aRd aBy) := hD
            refine lv_aload_n hx hb dX8_reads_50 rfl (lv_at hl 0 rfl) ?_
            refine lv_dup hx hb dX8_reads_51 rfl ?_
            refine va_get (D := D) (ci := 8) (v := .int aAt) (C := RX8) (T := TX8) (N := 13) hx hb hg uX8 hown hK.1 hP 0 rfl rfl 6 (by decide) (hg _ gw_946) (fun _ h9 => h9) rfl dX8_reads_52 ?_
            refine lv_aload_n hx hb dX8_reads_55 rfl (lv_at hl 0 rfl) ?_
            refine va_get (D := D) (ci := 8) (v := .int (0)) (C := RX8) (T := TX8) (N := 13) hx hb hg uX8 hown hK.1 hP 0 rfl rfl 7 (by decide) (hg _ gw_947) (fun _ h9 => h9) rfl dX8_reads_56 ?_
            refine lv_if_eq (tgt := 66) hx hb dX8_reads_59 (by decide) (fun q7 => ?_) (fun q7 => ?_)
            · replace h := it_some q7 h
              refine lv_iconst (v := 0) hx hb dX8_reads_66 (by decide) ?_
              refine lv_iadd hx hb dX8_reads_67 ?_
              obtain ⟨aAt_8, eaAt_8, h⟩ := kl_some h
              refine nm_i eaAt_8 ?_
              refine va_put (D := D) (ci := 8) (v := .int aAt_8) (ty := tyX8 6) (C := RX8) (T := TX8) (N := 13) hx hb hg uX8 tyX8 tyX8_ok nmX8 hown hK.1 hP hD hS 0 rfl rfl 6 (by decide) (hg _ gw_946) (fun _ h9 => h9) rfl (tyX8_ok 6 (by decide)) rfl rfl (Nat.le_of_ble_eq_true rfl) dX8_reads_68 (fun H locs hP hD hS => ?_)
              have hP : va_P D vwCl (wX8 cI h0 h1 h2 h3 h4 h5 aTh aSm aLn aAt_8 (0) aRm aBm aHa aS aSv aCm aRd aBy) H := hP
              have hD : va_D A (wX8 cI h0 h1 h2 h3 h4 h5 aTh aSm aLn aAt_8 (0) aRm aBm aHa aS aSv aCm aRd aBy) := hD
              refine lv_aload_n hx hb dX8_reads_71 rfl (lv_at hl 0 rfl) ?_
              refine va_get (D := D) (ci := 8) (v := .int (0)) (C := RX8) (T := TX8) (N := 13) hx hb hg uX8 hown hK.1 hP 0 rfl rfl 7 (by decide) (hg _ gw_947) (fun _ h9 => h9) rfl dX8_reads_72 ?_
              refine lv_if_eq (tgt := 14) hx hb dX8_reads_75 (by decide) (fun q9 => ?_) (fun q9 => ?_)
              · replace h := it_some q9 h
                exact ih aAt_8 (0) aRm aRd h H locs hP hD hS ls (lv_sub hl [0] rfl)
              · replace h := if_some q9 h
                refine lv_aload_n hx hb dX8_reads_78 rfl (lv_at hl 0 rfl) ?_
                obtain ⟨⟨aAt_10, aWe_10, aRm_10, aRd_10⟩, ec10, h⟩ := bd_some h
                refine cV_v (As := []) (rest := []) (wc := (wX8 cI h0 h1 h2 h3 h4 h5 aTh aSm aLn aAt_8 (0) aRm aBm aHa aS aSv aCm aRd aBy)) (wc' := (wX8 cI h0 h1 h2 h3 h4 h5 aTh aSm aLn aAt_10 aWe_10 aRm_10 aBm aHa aS aSv aCm aRd_10 aBy)) hx hb hml hown hg hK hP hD hS hA hl.1 (k_X8_readsCommand l D cI cS cL Z h0 h1 h2 h3 h4 h5 aTh aSm aLn aAt_8 (0) aRm aBm aHa aS aSv aCm aRd aBy ec10) gm_X8_readsCommand gw_1263 ⟨rfl, rfl, by decide, by decide⟩ ⟨Nat.zero_le _, Nat.zero_le _⟩ [0, 1, 2, 3, 4, 5] rfl rfl rfl rfl rfl rfl rfl rfl (Nat.le_of_ble_eq_true rfl) dX8_reads_79 (fun H locs hP hD hS => ?_)
                have hP : va_P D vwCl (wX8 cI h0 h1 h2 h3 h4 h5 aTh aSm aLn aAt_10 aWe_10 aRm_10 aBm aHa aS aSv aCm aRd_10 aBy) H := hP
                have hD : va_D A (wX8 cI h0 h1 h2 h3 h4 h5 aTh aSm aLn aAt_10 aWe_10 aRm_10 aBm aHa aS aSv aCm aRd_10 aBy) := hD
                refine lv_goto (tgt := 14) hx hb dX8_reads_82 (by decide) ?_
                exact ih aAt_10 aWe_10 aRm_10 aRd_10 h H locs hP hD hS ls (lv_sub hl [0] rfl)
            · replace h := if_some q7 h
              refine lv_iconst (v := 1) hx hb dX8_reads_62 (by decide) ?_
              refine lv_goto (tgt := 67) hx hb dX8_reads_63 (by decide) ?_
              refine lv_iadd hx hb dX8_reads_67 ?_
              obtain ⟨aAt_11, eaAt_11, h⟩ := kl_some h
              refine nm_i eaAt_11 ?_
              refine va_put (D := D) (ci := 8) (v := .int aAt_11) (ty := tyX8 6) (C := RX8) (T := TX8) (N := 13) hx hb hg uX8 tyX8 tyX8_ok nmX8 hown hK.1 hP hD hS 0 rfl rfl 6 (by decide) (hg _ gw_946) (fun _ h9 => h9) rfl (tyX8_ok 6 (by decide)) rfl rfl (Nat.le_of_ble_eq_true rfl) dX8_reads_68 (fun H locs hP hD hS => ?_)
              have hP : va_P D vwCl (wX8 cI h0 h1 h2 h3 h4 h5 aTh aSm aLn aAt_11 (0) aRm aBm aHa aS aSv aCm aRd aBy) H := hP
              have hD : va_D A (wX8 cI h0 h1 h2 h3 h4 h5 aTh aSm aLn aAt_11 (0) aRm aBm aHa aS aSv aCm aRd aBy) := hD
              refine lv_aload_n hx hb dX8_reads_71 rfl (lv_at hl 0 rfl) ?_
              refine va_get (D := D) (ci := 8) (v := .int (0)) (C := RX8) (T := TX8) (N := 13) hx hb hg uX8 hown hK.1 hP 0 rfl rfl 7 (by decide) (hg _ gw_947) (fun _ h9 => h9) rfl dX8_reads_72 ?_
              refine lv_if_eq (tgt := 14) hx hb dX8_reads_75 (by decide) (fun q12 => ?_) (fun q12 => ?_)
              · replace h := it_some q12 h
                exact ih aAt_11 (0) aRm aRd h H locs hP hD hS ls (lv_sub hl [0] rfl)
              · replace h := if_some q12 h
                refine lv_aload_n hx hb dX8_reads_78 rfl (lv_at hl 0 rfl) ?_
                obtain ⟨⟨aAt_13, aWe_13, aRm_13, aRd_13⟩, ec13, h⟩ := bd_some h
                refine cV_v (As := []) (rest := []) (wc := (wX8 cI h0 h1 h2 h3 h4 h5 aTh aSm aLn aAt_11 (0) aRm aBm aHa aS aSv aCm aRd aBy)) (wc' := (wX8 cI h0 h1 h2 h3 h4 h5 aTh aSm aLn aAt_13 aWe_13 aRm_13 aBm aHa aS aSv aCm aRd_13 aBy)) hx hb hml hown hg hK hP hD hS hA hl.1 (k_X8_readsCommand l D cI cS cL Z h0 h1 h2 h3 h4 h5 aTh aSm aLn aAt_11 (0) aRm aBm aHa aS aSv aCm aRd aBy ec13) gm_X8_readsCommand gw_1263 ⟨rfl, rfl, by decide, by decide⟩ ⟨Nat.zero_le _, Nat.zero_le _⟩ [0, 1, 2, 3, 4, 5] rfl rfl rfl rfl rfl rfl rfl rfl (Nat.le_of_ble_eq_true rfl) dX8_reads_79 (fun H locs hP hD hS => ?_)
                have hP : va_P D vwCl (wX8 cI h0 h1 h2 h3 h4 h5 aTh aSm aLn aAt_13 aWe_13 aRm_13 aBm aHa aS aSv aCm aRd_13 aBy) H := hP
                have hD : va_D A (wX8 cI h0 h1 h2 h3 h4 h5 aTh aSm aLn aAt_13 aWe_13 aRm_13 aBm aHa aS aSv aCm aRd_13 aBy) := hD
                refine lv_goto (tgt := 14) hx hb dX8_reads_82 (by decide) ?_
                exact ih aAt_13 aWe_13 aRm_13 aRd_13 h H locs hP hD hS ls (lv_sub hl [0] rfl)
          · replace h := it_some q6 h
            refine lv_iconst (v := 1) hx hb dX8_reads_42 (by decide) ?_
            refine lv_goto (tgt := 47) hx hb dX8_reads_43 (by decide) ?_
            refine va_put (D := D) (ci := 8) (v := .int 1) (ty := tyX8 7) (C := RX8) (T := TX8) (N := 13) hx hb hg uX8 tyX8 tyX8_ok nmX8 hown hK.1 hP hD hS 0 rfl rfl 7 (by decide) (hg _ gw_947) (fun _ h9 => h9) rfl (tyX8_ok 7 (by decide)) rfl rfl (Nat.le_of_ble_eq_true rfl) dX8_reads_47 (fun H locs hP hD hS => ?_)
            have hP : va_P D vwCl (wX8 cI h0 h1 h2 h3 h4 h5 aTh aSm aLn aAt (1) aRm aBm aHa aS aSv aCm aRd aBy) H := hP
            have hD : va_D A (wX8 cI h0 h1 h2 h3 h4 h5 aTh aSm aLn aAt (1) aRm aBm aHa aS aSv aCm aRd aBy) := hD
            refine lv_aload_n hx hb dX8_reads_50 rfl (lv_at hl 0 rfl) ?_
            refine lv_dup hx hb dX8_reads_51 rfl ?_
            refine va_get (D := D) (ci := 8) (v := .int aAt) (C := RX8) (T := TX8) (N := 13) hx hb hg uX8 hown hK.1 hP 0 rfl rfl 6 (by decide) (hg _ gw_946) (fun _ h9 => h9) rfl dX8_reads_52 ?_
            refine lv_aload_n hx hb dX8_reads_55 rfl (lv_at hl 0 rfl) ?_
            refine va_get (D := D) (ci := 8) (v := .int (1)) (C := RX8) (T := TX8) (N := 13) hx hb hg uX8 hown hK.1 hP 0 rfl rfl 7 (by decide) (hg _ gw_947) (fun _ h9 => h9) rfl dX8_reads_56 ?_
            refine lv_if_eq (tgt := 66) hx hb dX8_reads_59 (by decide) (fun q14 => ?_) (fun q14 => ?_)
            · replace h := it_some q14 h
              refine lv_iconst (v := 0) hx hb dX8_reads_66 (by decide) ?_
              refine lv_iadd hx hb dX8_reads_67 ?_
              obtain ⟨aAt_15, eaAt_15, h⟩ := kl_some h
              refine nm_i eaAt_15 ?_
              refine va_put (D := D) (ci := 8) (v := .int aAt_15) (ty := tyX8 6) (C := RX8) (T := TX8) (N := 13) hx hb hg uX8 tyX8 tyX8_ok nmX8 hown hK.1 hP hD hS 0 rfl rfl 6 (by decide) (hg _ gw_946) (fun _ h9 => h9) rfl (tyX8_ok 6 (by decide)) rfl rfl (Nat.le_of_ble_eq_true rfl) dX8_reads_68 (fun H locs hP hD hS => ?_)
              have hP : va_P D vwCl (wX8 cI h0 h1 h2 h3 h4 h5 aTh aSm aLn aAt_15 (1) aRm aBm aHa aS aSv aCm aRd aBy) H := hP
              have hD : va_D A (wX8 cI h0 h1 h2 h3 h4 h5 aTh aSm aLn aAt_15 (1) aRm aBm aHa aS aSv aCm aRd aBy) := hD
              refine lv_aload_n hx hb dX8_reads_71 rfl (lv_at hl 0 rfl) ?_
              refine va_get (D := D) (ci := 8) (v := .int (1)) (C := RX8) (T := TX8) (N := 13) hx hb hg uX8 hown hK.1 hP 0 rfl rfl 7 (by decide) (hg _ gw_947) (fun _ h9 => h9) rfl dX8_reads_72 ?_
              refine lv_if_eq (tgt := 14) hx hb dX8_reads_75 (by decide) (fun q16 => ?_) (fun q16 => ?_)
              · replace h := it_some q16 h
                exact ih aAt_15 (1) aRm aRd h H locs hP hD hS ls (lv_sub hl [0] rfl)
              · replace h := if_some q16 h
                refine lv_aload_n hx hb dX8_reads_78 rfl (lv_at hl 0 rfl) ?_
                obtain ⟨⟨aAt_17, aWe_17, aRm_17, aRd_17⟩, ec17, h⟩ := bd_some h
                refine cV_v (As := []) (rest := []) (wc := (wX8 cI h0 h1 h2 h3 h4 h5 aTh aSm aLn aAt_15 (1) aRm aBm aHa aS aSv aCm aRd aBy)) (wc' := (wX8 cI h0 h1 h2 h3 h4 h5 aTh aSm aLn aAt_17 aWe_17 aRm_17 aBm aHa aS aSv aCm aRd_17 aBy)) hx hb hml hown hg hK hP hD hS hA hl.1 (k_X8_readsCommand l D cI cS cL Z h0 h1 h2 h3 h4 h5 aTh aSm aLn aAt_15 (1) aRm aBm aHa aS aSv aCm aRd aBy ec17) gm_X8_readsCommand gw_1263 ⟨rfl, rfl, by decide, by decide⟩ ⟨Nat.zero_le _, Nat.zero_le _⟩ [0, 1, 2, 3, 4, 5] rfl rfl rfl rfl rfl rfl rfl rfl (Nat.le_of_ble_eq_true rfl) dX8_reads_79 (fun H locs hP hD hS => ?_)
                have hP : va_P D vwCl (wX8 cI h0 h1 h2 h3 h4 h5 aTh aSm aLn aAt_17 aWe_17 aRm_17 aBm aHa aS aSv aCm aRd_17 aBy) H := hP
                have hD : va_D A (wX8 cI h0 h1 h2 h3 h4 h5 aTh aSm aLn aAt_17 aWe_17 aRm_17 aBm aHa aS aSv aCm aRd_17 aBy) := hD
                refine lv_goto (tgt := 14) hx hb dX8_reads_82 (by decide) ?_
                exact ih aAt_17 aWe_17 aRm_17 aRd_17 h H locs hP hD hS ls (lv_sub hl [0] rfl)
            · replace h := if_some q14 h
              refine lv_iconst (v := 1) hx hb dX8_reads_62 (by decide) ?_
              refine lv_goto (tgt := 67) hx hb dX8_reads_63 (by decide) ?_
              refine lv_iadd hx hb dX8_reads_67 ?_
              obtain ⟨aAt_18, eaAt_18, h⟩ := kl_some h
              refine nm_i eaAt_18 ?_
              refine va_put (D := D) (ci := 8) (v := .int aAt_18) (ty := tyX8 6) (C := RX8) (T := TX8) (N := 13) hx hb hg uX8 tyX8 tyX8_ok nmX8 hown hK.1 hP hD hS 0 rfl rfl 6 (by decide) (hg _ gw_946) (fun _ h9 => h9) rfl (tyX8_ok 6 (by decide)) rfl rfl (Nat.le_of_ble_eq_true rfl) dX8_reads_68 (fun H locs hP hD hS => ?_)
              have hP : va_P D vwCl (wX8 cI h0 h1 h2 h3 h4 h5 aTh aSm aLn aAt_18 (1) aRm aBm aHa aS aSv aCm aRd aBy) H := hP
              have hD : va_D A (wX8 cI h0 h1 h2 h3 h4 h5 aTh aSm aLn aAt_18 (1) aRm aBm aHa aS aSv aCm aRd aBy) := hD
              refine lv_aload_n hx hb dX8_reads_71 rfl (lv_at hl 0 rfl) ?_
              refine va_get (D := D) (ci := 8) (v := .int (1)) (C := RX8) (T := TX8) (N := 13) hx hb hg uX8 hown hK.1 hP 0 rfl rfl 7 (by decide) (hg _ gw_947) (fun _ h9 => h9) rfl dX8_reads_72 ?_
              refine lv_if_eq (tgt := 14) hx hb dX8_reads_75 (by decide) (fun q19 => ?_) (fun q19 => ?_)
              · replace h := it_some q19 h
                exact ih aAt_18 (1) aRm aRd h H locs hP hD hS ls (lv_sub hl [0] rfl)
              · replace h := if_some q19 h
                refine lv_aload_n hx hb dX8_reads_78 rfl (lv_at hl 0 rfl) ?_
                obtain ⟨⟨aAt_20, aWe_20, aRm_20, aRd_20⟩, ec20, h⟩ := bd_some h
                refine cV_v (As := []) (rest := []) (wc := (wX8 cI h0 h1 h2 h3 h4 h5 aTh aSm aLn aAt_18 (1) aRm aBm aHa aS aSv aCm aRd aBy)) (wc' := (wX8 cI h0 h1 h2 h3 h4 h5 aTh aSm aLn aAt_20 aWe_20 aRm_20 aBm aHa aS aSv aCm aRd_20 aBy)) hx hb hml hown hg hK hP hD hS hA hl.1 (k_X8_readsCommand l D cI cS cL Z h0 h1 h2 h3 h4 h5 aTh aSm aLn aAt_18 (1) aRm aBm aHa aS aSv aCm aRd aBy ec20) gm_X8_readsCommand gw_1263 ⟨rfl, rfl, by decide, by decide⟩ ⟨Nat.zero_le _, Nat.zero_le _⟩ [0, 1, 2, 3, 4, 5] rfl rfl rfl rfl rfl rfl rfl rfl (Nat.le_of_ble_eq_true rfl) dX8_reads_79 (fun H locs hP hD hS => ?_)
                have hP : va_P D vwCl (wX8 cI h0 h1 h2 h3 h4 h5 aTh aSm aLn aAt_20 aWe_20 aRm_20 aBm aHa aS aSv aCm aRd_20 aBy) H := hP
                have hD : va_D A (wX8 cI h0 h1 h2 h3 h4 h5 aTh aSm aLn aAt_20 aWe_20 aRm_20 aBm aHa aS aSv aCm aRd_20 aBy) := hD
                refine lv_goto (tgt := 14) hx hb dX8_reads_82 (by decide) ?_
                exact ih aAt_20 aWe_20 aRm_20 aRd_20 h H locs hP hD hS ls (lv_sub hl [0] rfl)
  have hl : lv_has ls 1 [(0, .ref h0)] := hl
  have hP : va_P D vwCl (wX8 cI h0 h1 h2 h3 h4 h5 aTh aSm aLn aAt aWe aRm aBm aHa aS aSv aCm aRd aBy) s.heap := hP
  have hD : va_D A (wX8 cI h0 h1 h2 h3 h4 h5 aTh aSm aLn aAt aWe aRm aBm aHa aS aSv aCm aRd aBy) := hD
  show W p l e rm_X8_reads s m args below meth c s.heap [] 0 0 (FI D below args s (wX8 cI h0 h1 h2 h3 h4 h5 aTh aSm aLn (aAt') (aWe') (aRm') aBm aHa aS aSv aCm (aRd') aBy) r A) (F0 m 0 ls [])
  unfold f_X8_reads at h
  have hmain : ∀ (H : Heap) (locs : List Loc), va_P D vwCl (wX8 cI h0 h1 h2 h3 h4 h5 aTh aSm aLn aAt aWe aRm aBm aHa aS aSv aCm aRd aBy) H → va_S A s.heap H locs → W p l e rm_X8_reads s m args below meth c H locs 0 0 (FI D below args s (wX8 cI h0 h1 h2 h3 h4 h5 aTh aSm aLn (aAt') (aWe') (aRm') aBm aHa aS aSv aCm (aRd') aBy) r A) (F0 m 0 ls []) := by
    intro H locs hP hS
    refine lv_aload_n hx hb dX8_reads_0 rfl (lv_at hl 0 rfl) ?_
    refine lv_iconst (v := 0) hx hb dX8_reads_1 (by decide) ?_
    refine va_put (D := D) (ci := 8) (v := .int 0) (ty := tyX8 6) (C := RX8) (T := TX8) (N := 13) hx hb hg uX8 tyX8 tyX8_ok nmX8 hown hK.1 hP hD hS 0 rfl rfl 6 (by decide) (hg _ gw_946) (fun _ h9 => h9) rfl (tyX8_ok 6 (by decide)) rfl rfl (Nat.le_of_ble_eq_true rfl) dX8_reads_2 (fun H locs hP hD hS => ?_)
    have hP : va_P D vwCl (wX8 cI h0 h1 h2 h3 h4 h5 aTh aSm aLn (0) aWe aRm aBm aHa aS aSv aCm aRd aBy) H := hP
    have hD : va_D A (wX8 cI h0 h1 h2 h3 h4 h5 aTh aSm aLn (0) aWe aRm aBm aHa aS aSv aCm aRd aBy) := hD
    refine lv_aload_n hx hb dX8_reads_5 rfl (lv_at hl 0 rfl) ?_
    refine lv_iconst (v := 0) hx hb dX8_reads_6 (by decide) ?_
    refine va_put (D := D) (ci := 8) (v := .int 0) (ty := tyX8 9) (C := RX8) (T := TX8) (N := 13) hx hb hg uX8 tyX8 tyX8_ok nmX8 hown hK.1 hP hD hS 0 rfl rfl 9 (by decide) (hg _ gw_949) (fun _ h9 => h9) rfl (tyX8_ok 9 (by decide)) rfl rfl (Nat.le_of_ble_eq_true rfl) dX8_reads_7 (fun H locs hP hD hS => ?_)
    have hP : va_P D vwCl (wX8 cI h0 h1 h2 h3 h4 h5 aTh aSm aLn (0) aWe (0) aBm aHa aS aSv aCm aRd aBy) H := hP
    have hD : va_D A (wX8 cI h0 h1 h2 h3 h4 h5 aTh aSm aLn (0) aWe (0) aBm aHa aS aSv aCm aRd aBy) := hD
    refine lv_aload_n hx hb dX8_reads_10 rfl (lv_at hl 0 rfl) ?_
    obtain ⟨⟨aAt_21, aWe_21, aRm_21, aRd_21⟩, ec21, h⟩ := bd_some h
    refine cV_v (As := []) (rest := []) (wc := (wX8 cI h0 h1 h2 h3 h4 h5 aTh aSm aLn (0) aWe (0) aBm aHa aS aSv aCm aRd aBy)) (wc' := (wX8 cI h0 h1 h2 h3 h4 h5 aTh aSm aLn aAt_21 aWe_21 aRm_21 aBm aHa aS aSv aCm aRd_21 aBy)) hx hb hml hown hg hK hP hD hS hA hl.1 (k_X8_readsCommand l D cI cS cL Z h0 h1 h2 h3 h4 h5 aTh aSm aLn (0) aWe (0) aBm aHa aS aSv aCm aRd aBy ec21) gm_X8_readsCommand gw_1263 ⟨rfl, rfl, by decide, by decide⟩ ⟨Nat.zero_le _, Nat.zero_le _⟩ [0, 1, 2, 3, 4, 5] rfl rfl rfl rfl rfl rfl rfl rfl (Nat.le_of_ble_eq_true rfl) dX8_reads_11 (fun H locs hP hD hS => ?_)
    have hP : va_P D vwCl (wX8 cI h0 h1 h2 h3 h4 h5 aTh aSm aLn aAt_21 aWe_21 aRm_21 aBm aHa aS aSv aCm aRd_21 aBy) H := hP
    have hD : va_D A (wX8 cI h0 h1 h2 h3 h4 h5 aTh aSm aLn aAt_21 aWe_21 aRm_21 aBm aHa aS aSv aCm aRd_21 aBy) := hD
    exact c_14 Z aAt_21 aWe_21 aRm_21 aRd_21 h H locs hP hD hS ls (lv_sub hl [0] rfl)
  exact hmain _ _ hP hS
abbrev rm_X8_firstError : Room := { frames := 5, cells := 0, slots := 0, locals := 107 }
def f_X8_firstError (Z : Nat) (aTh : Int32) (aLn : Int32) (aAt : Int32) (aWe : Int32) (aRm : Int32) (aCm : Nat → Int32) (aRd : Nat → Int32) : Option (Int32 × Int32 × Int32 × Int32 × Int32 × (Nat → Int32)) :=
  (f_X8_reads Z aLn aAt aWe aRm aCm aRd).bind fun (r1, aAt_1, aWe_1, aRm_1, aRd_1) =>
  if r1 = 0 then
    some (aAt_1, (0), aAt_1, aWe_1, aRm_1, aRd_1)
  else
    some (aLn, (0), aAt_1, aWe_1, aRm_1, aRd_1)
set_option maxRecDepth 100000 in
set_option maxHeartbeats 4000000 in
theorem k_X8_firstError (l : Launch) (D : va_G) (cI cS cL : ClassId) (Z : Nat) (h0 : Nat) (h1 : Nat) (h2 : Nat) (h3 : Nat) (h4 : Nat) (h5 : Nat) (aTh : Int32) (aSm : Int32) (aLn : Int32) (aAt : Int32) (aWe : Int32) (aRm : Int32) (aBm : Int32) (aHa : Int64) (aS : Nat → Int32) (aSv : Nat → Int32) (aCm : Nat → Int32) (aRd : Nat → Int32) (aBy : Nat → Int32) {r : Int32} {aTh' : Int32} {aAt' : Int32} {aWe' : Int32} {aRm' : Int32} {aRd' : Nat → Int32} (h : f_X8_firstError Z aTh aLn aAt aWe aRm aCm aRd = some (r, aTh', aAt', aWe', aRm', aRd')) : CI l yX8_firstError cX8_firstError 1 (some .int) rm_X8_firstError D cI cS cL [.ref h0] (wX8 cI h0 h1 h2 h3 h4 h5 aTh aSm aLn aAt aWe aRm aBm aHa aS aSv aCm aRd aBy) (wX8 cI h0 h1 h2 h3 h4 h5 (aTh') aSm aLn (aAt') (aWe') (aRm') aBm aHa aS aSv aCm (aRd') aBy) r := by
  refine ent_i (by decide +kernel) (Nat.le_of_ble_eq_true rfl) ?_
  intro p e s m args below meth c A ls hx hb hr hml hlocks hg hown hK hP hD hS hA hl
  have hown : s.vm.findClass RX8 = some m.cls := hown
  have hl : lv_has ls 1 [(0, .ref h0)] := hl
  have hP : va_P D vwCl (wX8 cI h0 h1 h2 h3 h4 h5 aTh aSm aLn aAt aWe aRm aBm aHa aS aSv aCm aRd aBy) s.heap := hP
  have hD : va_D A (wX8 cI h0 h1 h2 h3 h4 h5 aTh aSm aLn aAt aWe aRm aBm aHa aS aSv aCm aRd aBy) := hD
  show W p l e rm_X8_firstError s m args below meth c s.heap [] 0 0 (FI D below args s (wX8 cI h0 h1 h2 h3 h4 h5 (aTh') aSm aLn (aAt') (aWe') (aRm') aBm aHa aS aSv aCm (aRd') aBy) r A) (F0 m 0 ls [])
  unfold f_X8_firstError at h
  have hmain : ∀ (H : Heap) (locs : List Loc), va_P D vwCl (wX8 cI h0 h1 h2 h3 h4 h5 aTh aSm aLn aAt aWe aRm aBm aHa aS aSv aCm aRd aBy) H → va_S A s.heap H locs → W p l e rm_X8_firstError s m args below meth c H locs 0 0 (FI D below args s (wX8 cI h0 h1 h2 h3 h4 h5 (aTh') aSm aLn (aAt') (aWe') (aRm') aBm aHa aS aSv aCm (aRd') aBy) r A) (F0 m 0 ls []) := by
    intro H locs hP hS
    refine lv_aload_n hx hb dX8_firstError_0 rfl (lv_at hl 0 rfl) ?_
    refine lv_iconst (v := 0) hx hb dX8_firstError_1 (by decide) ?_
    refine va_put (D := D) (ci := 8) (v := .int 0) (ty := tyX8 0) (C := RX8) (T := TX8) (N := 13) hx hb hg uX8 tyX8 tyX8_ok nmX8 hown hK.1 hP hD hS 0 rfl rfl 0 (by decide) (hg _ gw_940) (fun _ h9 => h9) rfl (tyX8_ok 0 (by decide)) rfl rfl (Nat.le_of_ble_eq_true rfl) dX8_firstError_2 (fun H locs hP hD hS => ?_)
    have hP : va_P D vwCl (wX8 cI h0 h1 h2 h3 h4 h5 (0) aSm aLn aAt aWe aRm aBm aHa aS aSv aCm aRd aBy) H := hP
    have hD : va_D A (wX8 cI h0 h1 h2 h3 h4 h5 (0) aSm aLn aAt aWe aRm aBm aHa aS aSv aCm aRd aBy) := hD
    refine lv_aload_n hx hb dX8_firstError_5 rfl (lv_at hl 0 rfl) ?_
    obtain ⟨⟨r1, aAt_1, aWe_1, aRm_1, aRd_1⟩, ec1, h⟩ := bd_some h
    refine cV_i (As := []) (rest := []) (wc := (wX8 cI h0 h1 h2 h3 h4 h5 (0) aSm aLn aAt aWe aRm aBm aHa aS aSv aCm aRd aBy)) (wc' := (wX8 cI h0 h1 h2 h3 h4 h5 (0) aSm aLn aAt_1 aWe_1 aRm_1 aBm aHa aS aSv aCm aRd_1 aBy)) hx hb hml hown hg hK hP hD hS hA hl.1 (k_X8_reads l D cI cS cL Z h0 h1 h2 h3 h4 h5 (0) aSm aLn aAt aWe aRm aBm aHa aS aSv aCm aRd aBy ec1) gm_X8_reads gw_1259 ⟨rfl, rfl, by decide, by decide⟩ ⟨Nat.zero_le _, Nat.zero_le _⟩ [0, 1, 2, 3, 4, 5] rfl rfl rfl rfl rfl rfl rfl rfl (Nat.le_of_ble_eq_true rfl) dX8_firstError_6 (fun H locs hP hD hS => ?_)
    have hP : va_P D vwCl (wX8 cI h0 h1 h2 h3 h4 h5 (0) aSm aLn aAt_1 aWe_1 aRm_1 aBm aHa aS aSv aCm aRd_1 aBy) H := hP
    have hD : va_D A (wX8 cI h0 h1 h2 h3 h4 h5 (0) aSm aLn aAt_1 aWe_1 aRm_1 aBm aHa aS aSv aCm aRd_1 aBy) := hD
    refine lv_if_eq (tgt := 19) hx hb dX8_firstError_9 (by decide) (fun q2 => ?_) (fun q2 => ?_)
    · replace h := it_some q2 h
      refine lv_aload_n hx hb dX8_firstError_19 rfl (lv_at hl 0 rfl) ?_
      refine va_get (D := D) (ci := 8) (v := .int aAt_1) (C := RX8) (T := TX8) (N := 13) hx hb hg uX8 hown hK.1 hP 0 rfl rfl 6 (by decide) (hg _ gw_946) (fun _ h9 => h9) rfl dX8_firstError_20 ?_
      cases h
      exact ret_i hx hb hr hlocks hP hD hS dX8_firstError_23 rfl
    · replace h := if_some q2 h
      refine lv_aload_n hx hb dX8_firstError_12 rfl (lv_at hl 0 rfl) ?_
      refine va_get (D := D) (ci := 8) (v := .int aLn) (C := RX8) (T := TX8) (N := 13) hx hb hg uX8 hown hK.1 hP 0 rfl rfl 5 (by decide) (hg _ gw_945) (fun _ h9 => h9) rfl dX8_firstError_13 ?_
      refine lv_goto (tgt := 23) hx hb dX8_firstError_16 (by decide) ?_
      cases h
      exact ret_i hx hb hr hlocks hP hD hS dX8_firstError_23 rfl
  exact hmain _ _ hP hS
abbrev rm_X8_insertsIf : Room := { frames := 4, cells := 0, slots := 0, locals := 85 }
def f_X8_insertsIf (Z : Nat) (aBm : Int32) (aS : Nat → Int32) (aBy : Nat → Int32) : Option (Int32 × (Nat → Int32)) :=
  (f_X8_hasRoom Z aBm aS).bind fun r1 =>
  if r1 = 0 then
    some (1, aS)
  else
    (f_X8_inserts Z aBm aS aBy).bind fun aS_3 =>
    some (0, aS_3)
set_option maxRecDepth 100000 in
set_option maxHeartbeats 4000000 in
theorem k_X8_insertsIf (l : Launch) (D : va_G) (cI cS cL : ClassId) (Z : Nat) (h0 : Nat) (h1 : Nat) (h2 : Nat) (h3 : Nat) (h4 : Nat) (h5 : Nat) (aTh : Int32) (aSm : Int32) (aLn : Int32) (aAt : Int32) (aWe : Int32) (aRm : Int32) (aBm : Int32) (aHa : Int64) (aS : Nat → Int32) (aSv : Nat → Int32) (aCm : Nat → Int32) (aRd : Nat → Int32) (aBy : Nat → Int32) {r : Int32} {aS' : Nat → Int32} (h : f_X8_insertsIf Z aBm aS aBy = some (r, aS')) : CI l yX8_insertsIf cX8_insertsIf 1 (some .int) rm_X8_insertsIf D cI cS cL [.ref h0] (wX8 cI h0 h1 h2 h3 h4 h5 aTh aSm aLn aAt aWe aRm aBm aHa aS aSv aCm aRd aBy) (wX8 cI h0 h1 h2 h3 h4 h5 aTh aSm aLn aAt aWe aRm aBm aHa (aS') aSv aCm aRd aBy) r := by
  refine ent_i (by decide +kernel) (Nat.le_of_ble_eq_true rfl) ?_
  intro p e s m args below meth c A ls hx hb hr hml hlocks hg hown hK hP hD hS hA hl
  have hown : s.vm.findClass RX8 = some m.cls := hown
  have hl : lv_has ls 1 [(0, .ref h0)] := hl
  have hP : va_P D vwCl (wX8 cI h0 h1 h2 h3 h4 h5 aTh aSm aLn aAt aWe aRm aBm aHa aS aSv aCm aRd aBy) s.heap := hP
  have hD : va_D A (wX8 cI h0 h1 h2 h3 h4 h5 aTh aSm aLn aAt aWe aRm aBm aHa aS aSv aCm aRd aBy) := hD
  show W p l e rm_X8_insertsIf s m args below meth c s.heap [] 0 0 (FI D below args s (wX8 cI h0 h1 h2 h3 h4 h5 aTh aSm aLn aAt aWe aRm aBm aHa (aS') aSv aCm aRd aBy) r A) (F0 m 0 ls [])
  unfold f_X8_insertsIf at h
  have hmain : ∀ (H : Heap) (locs : List Loc), va_P D vwCl (wX8 cI h0 h1 h2 h3 h4 h5 aTh aSm aLn aAt aWe aRm aBm aHa aS aSv aCm aRd aBy) H → va_S A s.heap H locs → W p l e rm_X8_insertsIf s m args below meth c H locs 0 0 (FI D below args s (wX8 cI h0 h1 h2 h3 h4 h5 aTh aSm aLn aAt aWe aRm aBm aHa (aS') aSv aCm aRd aBy) r A) (F0 m 0 ls []) := by
    intro H locs hP hS
    refine lv_aload_n hx hb dX8_insertsIf_0 rfl (lv_at hl 0 rfl) ?_
    refine lv_aload_n hx hb dX8_insertsIf_1 rfl (lv_at hl 0 rfl) ?_
    refine va_get (D := D) (ci := 8) (v := .int aBm) (C := RX8) (T := TX8) (N := 13) hx hb hg uX8 hown hK.1 hP 0 rfl rfl 11 (by decide) (hg _ gw_951) (fun _ h9 => h9) rfl dX8_insertsIf_2 ?_
    obtain ⟨r1, ec1, h⟩ := bd_some h
    refine cV_i (As := [.int aBm]) (rest := []) (wc := (wX8 cI h0 h1 h2 h3 h4 h5 aTh aSm aLn aAt aWe aRm aBm aHa aS aSv aCm aRd aBy)) (wc' := (wX8 cI h0 h1 h2 h3 h4 h5 aTh aSm aLn aAt aWe aRm aBm aHa aS aSv aCm aRd aBy)) hx hb hml hown hg hK hP hD hS hA hl.1 (k_X8_hasRoom l D cI cS cL Z h0 h1 h2 h3 h4 h5 aBm aTh aSm aLn aAt aWe aRm aBm aHa aS aSv aCm aRd aBy ec1) gm_X8_hasRoom gw_998 ⟨rfl, rfl, by decide, by decide⟩ ⟨Nat.zero_le _, Nat.zero_le _⟩ [0, 1, 2, 3, 4, 5] rfl rfl rfl rfl rfl rfl rfl rfl (Nat.le_of_ble_eq_true rfl) dX8_insertsIf_5 (fun H locs hP hD hS => ?_)
    have hP : va_P D vwCl (wX8 cI h0 h1 h2 h3 h4 h5 aTh aSm aLn aAt aWe aRm aBm aHa aS aSv aCm aRd aBy) H := hP
    have hD : va_D A (wX8 cI h0 h1 h2 h3 h4 h5 aTh aSm aLn aAt aWe aRm aBm aHa aS aSv aCm aRd aBy) := hD
    refine lv_if_ne (tgt := 13) hx hb dX8_insertsIf_8 (by decide) (fun q2 => ?_) (fun q2 => ?_)
    · replace h := if_some q2 h
      refine lv_aload_n hx hb dX8_insertsIf_13 rfl (lv_at hl 0 rfl) ?_
      obtain ⟨aS_3, ec3, h⟩ := bd_some h
      refine cV_v (As := []) (rest := []) (wc := (wX8 cI h0 h1 h2 h3 h4 h5 aTh aSm aLn aAt aWe aRm aBm aHa aS aSv aCm aRd aBy)) (wc' := (wX8 cI h0 h1 h2 h3 h4 h5 aTh aSm aLn aAt aWe aRm aBm aHa aS_3 aSv aCm aRd aBy)) hx hb hml hown hg hK hP hD hS hA hl.1 (k_X8_inserts l D cI cS cL Z h0 h1 h2 h3 h4 h5 aTh aSm aLn aAt aWe aRm aBm aHa aS aSv aCm aRd aBy ec3) gm_X8_inserts gw_1010 ⟨rfl, rfl, by decide, by decide⟩ ⟨Nat.zero_le _, Nat.zero_le _⟩ [0, 1, 2, 3, 4, 5] rfl rfl rfl rfl rfl rfl rfl rfl (Nat.le_of_ble_eq_true rfl) dX8_insertsIf_14 (fun H locs hP hD hS => ?_)
      have hP : va_P D vwCl (wX8 cI h0 h1 h2 h3 h4 h5 aTh aSm aLn aAt aWe aRm aBm aHa aS_3 aSv aCm aRd aBy) H := hP
      have hD : va_D A (wX8 cI h0 h1 h2 h3 h4 h5 aTh aSm aLn aAt aWe aRm aBm aHa aS_3 aSv aCm aRd aBy) := hD
      refine lv_iconst (v := 0) hx hb dX8_insertsIf_17 (by decide) ?_
      cases h
      exact ret_i hx hb hr hlocks hP hD hS dX8_insertsIf_18 rfl
    · replace h := it_some q2 h
      refine lv_iconst (v := 1) hx hb dX8_insertsIf_11 (by decide) ?_
      cases h
      exact ret_i hx hb hr hlocks hP hD hS dX8_insertsIf_12 rfl
  exact hmain _ _ hP hS
abbrev rm_X8_insertsLetters : Room := { frames := 5, cells := 0, slots := 0, locals := 105 }
def f_X8_insertsLetters_b7 (Z : Nat) (p1 : Int32) (p2 : Int32) (aCm : Nat → Int32) (rec : Int32 → Int32 → (Nat → Int32) → (Nat → Int32) → Option (Int32 × Int32 × (Nat → Int32) × (Nat → Int32))) (x3 : Int32) (aBm : Int32) (aS : Nat → Int32) (aBy : Nat → Int32) : Option (Int32 × Int32 × (Nat → Int32) × (Nat → Int32)) :=
      if p2 ≤ x3 then
        (f_X8_insertsIf Z aBm aS aBy).bind fun (r2, aS_2) =>
        some (r2, aBm, aS_2, aBy)
      else
        rd (p1 + x3) 60 (
        rd x3 100 (kl (upd aBy (Int32.toNatClampNeg x3) (aCm (Int32.toNatClampNeg (p1 + x3)))) fun aBy_5 =>
        kl (x3 + 1) fun x3_6 =>
        rec x3_6 aBm aS aBy_5))
def f_X8_insertsLetters_l7 (Z : Nat) (p1 : Int32) (p2 : Int32) (aCm : Nat → Int32) : Nat → Int32 → Int32 → (Nat → Int32) → (Nat → Int32) → Option (Int32 × Int32 × (Nat → Int32) × (Nat → Int32))
  | 0, _, _, _, _ => none
  | n + 1, x3, aBm, aS, aBy => f_X8_insertsLetters_b7 Z p1 p2 aCm (f_X8_insertsLetters_l7 Z p1 p2 aCm n) x3 aBm aS aBy
def f_X8_insertsLetters (Z : Nat) (p1 : Int32) (p2 : Int32) (aBm : Int32) (aS : Nat → Int32) (aCm : Nat → Int32) (aBy : Nat → Int32) : Option (Int32 × Int32 × (Nat → Int32) × (Nat → Int32)) :=
  f_X8_insertsLetters_l7 Z p1 p2 aCm Z 0 p2 aS aBy
set_option maxRecDepth 100000 in
set_option maxHeartbeats 4000000 in
theorem k_X8_insertsLetters (l : Launch) (D : va_G) (cI cS cL : ClassId) (Z : Nat) (h0 : Nat) (h1 : Nat) (h2 : Nat) (h3 : Nat) (h4 : Nat) (h5 : Nat) (p1 : Int32) (p2 : Int32) (aTh : Int32) (aSm : Int32) (aLn : Int32) (aAt : Int32) (aWe : Int32) (aRm : Int32) (aBm : Int32) (aHa : Int64) (aS : Nat → Int32) (aSv : Nat → Int32) (aCm : Nat → Int32) (aRd : Nat → Int32) (aBy : Nat → Int32) {r : Int32} {aBm' : Int32} {aS' : Nat → Int32} {aBy' : Nat → Int32} (h : f_X8_insertsLetters Z p1 p2 aBm aS aCm aBy = some (r, aBm', aS', aBy')) : CI l yX8_insertsLetters cX8_insertsLetters 4 (some .int) rm_X8_insertsLetters D cI cS cL [.ref h0, .int p1, .int p2] (wX8 cI h0 h1 h2 h3 h4 h5 aTh aSm aLn aAt aWe aRm aBm aHa aS aSv aCm aRd aBy) (wX8 cI h0 h1 h2 h3 h4 h5 aTh aSm aLn aAt aWe aRm (aBm') aHa (aS') aSv aCm aRd (aBy')) r := by
  refine ent_i (by decide +kernel) (Nat.le_of_ble_eq_true rfl) ?_
  intro p e s m args below meth c A ls hx hb hr hml hlocks hg hown hK hP hD hS hA hl
  have hown : s.vm.findClass RX8 = some m.cls := hown
  have c_7 : ∀ (n : Nat) (x3 : Int32) (aBm : Int32) (aS : Nat → Int32) (aBy : Nat → Int32), f_X8_insertsLetters_l7 Z p1 p2 aCm n x3 aBm aS aBy = some (r, aBm', aS', aBy') → ∀ (H : Heap) (locs : List Loc), va_P D vwCl (wX8 cI h0 h1 h2 h3 h4 h5 aTh aSm aLn aAt aWe aRm aBm aHa aS aSv aCm aRd aBy) H → va_D A (wX8 cI h0 h1 h2 h3 h4 h5 aTh aSm aLn aAt aWe aRm aBm aHa aS aSv aCm aRd aBy) → va_S A s.heap H locs → ∀ ls : Array Slot, lv_has ls 4 [(0, .ref h0), (1, .int p1), (2, .int p2), (3, .int x3)] → W p l e rm_X8_insertsLetters s m args below meth c H locs 0 0 (FI D below args s (wX8 cI h0 h1 h2 h3 h4 h5 aTh aSm aLn aAt aWe aRm (aBm') aHa (aS') aSv aCm aRd (aBy')) r A) (F0 m 7 ls []) := by
    intro n
    induction n with
    | zero => intro x3 aBm aS aBy h; exact no_some h
    | succ n ih =>
      intro x3 aBm aS aBy h H locs hP hD hS ls hl
      have h : f_X8_insertsLetters_b7 Z p1 p2 aCm (f_X8_insertsLetters_l7 Z p1 p2 aCm n) x3 aBm aS aBy = some (r, aBm', aS', aBy') := h
      unfold f_X8_insertsLetters_b7 at h
      refine lv_iload_n hx hb dX8_insertsLetters_7 rfl (lv_at hl 3 rfl) ?_
      refine lv_iload_n hx hb dX8_insertsLetters_8 rfl (lv_at hl 2 rfl) ?_
      refine lv_icmp_ge (tgt := 32) hx hb dX8_insertsLetters_9 (by decide) (fun q1 => ?_) (fun q1 => ?_)
      · replace h := it_some q1 h
        refine lv_aload_n hx hb dX8_insertsLetters_32 rfl (lv_at hl 0 rfl) ?_
        obtain ⟨⟨r2, aS_2⟩, ec2, h⟩ := bd_some h
        refine cV_i (As := []) (rest := []) (wc := (wX8 cI h0 h1 h2 h3 h4 h5 aTh aSm aLn aAt aWe aRm aBm aHa aS aSv aCm aRd aBy)) (wc' := (wX8 cI h0 h1 h2 h3 h4 h5 aTh aSm aLn aAt aWe aRm aBm aHa aS_2 aSv aCm aRd aBy)) hx hb hml hown hg hK hP hD hS hA hl.1 (k_X8_insertsIf l D cI cS cL Z h0 h1 h2 h3 h4 h5 aTh aSm aLn aAt aWe aRm aBm aHa aS aSv aCm aRd aBy ec2) gm_X8_insertsIf gw_1295 ⟨rfl, rfl, by decide, by decide⟩ ⟨Nat.zero_le _, Nat.zero_le _⟩ [0, 1, 2, 3, 4, 5] rfl rfl rfl rfl rfl rfl rfl rfl (Nat.le_of_ble_eq_true rfl) dX8_insertsLetters_33 (fun H locs hP hD hS => ?_)
        have hP : va_P D vwCl (wX8 cI h0 h1 h2 h3 h4 h5 aTh aSm aLn aAt aWe aRm aBm aHa aS_2 aSv aCm aRd aBy) H := hP
        have hD : va_D A (wX8 cI h0 h1 h2 h3 h4 h5 aTh aSm aLn aAt aWe aRm aBm aHa aS_2 aSv aCm aRd aBy) := hD
        cases h
        exact ret_i hx hb hr hlocks hP hD hS dX8_insertsLetters_36 rfl
      · replace h := if_some q1 h
        refine lv_aload_n hx hb dX8_insertsLetters_12 rfl (lv_at hl 0 rfl) ?_
        refine va_get (D := D) (ci := 8) (v := .ref h5) (C := RX8) (T := TX8) (N := 13) hx hb hg uX8 hown hK.1 hP 0 rfl rfl 10 (by decide) (hg _ gw_950) (fun _ h9 => h9) rfl dX8_insertsLetters_13 ?_
        refine lv_iload_n hx hb dX8_insertsLetters_16 rfl (lv_at hl 3 rfl) ?_
        refine lv_aload_n hx hb dX8_insertsLetters_17 rfl (lv_at hl 0 rfl) ?_
        refine va_get (D := D) (ci := 8) (v := .ref h3) (C := RX8) (T := TX8) (N := 13) hx hb hg uX8 hown hK.1 hP 0 rfl rfl 4 (by decide) (hg _ gw_944) (fun _ h9 => h9) rfl dX8_insertsLetters_18 ?_
        refine lv_iload_n hx hb dX8_insertsLetters_21 rfl (lv_at hl 1 rfl) ?_
        refine lv_iload_n hx hb dX8_insertsLetters_22 rfl (lv_at hl 3 rfl) ?_
        refine lv_iadd hx hb dX8_insertsLetters_23 ?_
        obtain ⟨v3, h⟩ := rd_some h
        refine va_iald hx hb hK.1 hP 3 0 rfl rfl v3 dX8_insertsLetters_24 ?_
        obtain ⟨v4, h⟩ := rd_some h
        obtain ⟨aBy_5, eaBy_5, h⟩ := kl_some h
        refine va_iast hx hb hK.1 hP hD hS 5 0 rfl rfl v4 dX8_insertsLetters_25 (fun H locs hP hD hS => ?_)
        have hP : va_P D vwCl (wX8 cI h0 h1 h2 h3 h4 h5 aTh aSm aLn aAt aWe aRm aBm aHa aS aSv aCm aRd aBy_5) H := by rw [eaBy_5]; exact hP
        have hD : va_D A (wX8 cI h0 h1 h2 h3 h4 h5 aTh aSm aLn aAt aWe aRm aBm aHa aS aSv aCm aRd aBy_5) := by rw [eaBy_5]; exact hD
        obtain ⟨x3_6, ex3_6, h⟩ := kl_some h
        refine lv_iinc (v := x3_6) (lv' := [(3, .int x3_6), (0, .ref h0), (1, .int p1), (2, .int p2)]) hx hb dX8_insertsLetters_26 hl (k := 3) rfl (by rw [ex3_6]; rfl) (by decide) rfl (fun ls hl => ?_)
        refine lv_goto (tgt := 7) hx hb dX8_insertsLetters_29 (by decide) ?_
        exact ih x3_6 aBm aS aBy_5 h H locs hP hD hS ls (lv_sub hl [1, 2, 3, 0] rfl)
  have hl : lv_has ls 4 [(0, .ref h0), (1, .int p1), (2, .int p2)] := hl
  have hP : va_P D vwCl (wX8 cI h0 h1 h2 h3 h4 h5 aTh aSm aLn aAt aWe aRm aBm aHa aS aSv aCm aRd aBy) s.heap := hP
  have hD : va_D A (wX8 cI h0 h1 h2 h3 h4 h5 aTh aSm aLn aAt aWe aRm aBm aHa aS aSv aCm aRd aBy) := hD
  show W p l e rm_X8_insertsLetters s m args below meth c s.heap [] 0 0 (FI D below args s (wX8 cI h0 h1 h2 h3 h4 h5 aTh aSm aLn aAt aWe aRm (aBm') aHa (aS') aSv aCm aRd (aBy')) r A) (F0 m 0 ls [])
  unfold f_X8_insertsLetters at h
  have hmain : ∀ (H : Heap) (locs : List Loc), va_P D vwCl (wX8 cI h0 h1 h2 h3 h4 h5 aTh aSm aLn aAt aWe aRm aBm aHa aS aSv aCm aRd aBy) H → va_S A s.heap H locs → W p l e rm_X8_insertsLetters s m args below meth c H locs 0 0 (FI D below args s (wX8 cI h0 h1 h2 h3 h4 h5 aTh aSm aLn aAt aWe aRm (aBm') aHa (aS') aSv aCm aRd (aBy')) r A) (F0 m 0 ls []) := by
    intro H locs hP hS
    refine lv_aload_n hx hb dX8_insertsLetters_0 rfl (lv_at hl 0 rfl) ?_
    refine lv_iload_n hx hb dX8_insertsLetters_1 rfl (lv_at hl 2 rfl) ?_
    refine va_put (D := D) (ci := 8) (v := .int p2) (ty := tyX8 11) (C := RX8) (T := TX8) (N := 13) hx hb hg uX8 tyX8 tyX8_ok nmX8 hown hK.1 hP hD hS 0 rfl rfl 11 (by decide) (hg _ gw_951) (fun _ h9 => h9) rfl (tyX8_ok 11 (by decide)) rfl rfl (Nat.le_of_ble_eq_true rfl) dX8_insertsLetters_2 (fun H locs hP hD hS => ?_)
    have hP : va_P D vwCl (wX8 cI h0 h1 h2 h3 h4 h5 aTh aSm aLn aAt aWe aRm p2 aHa aS aSv aCm aRd aBy) H := hP
    have hD : va_D A (wX8 cI h0 h1 h2 h3 h4 h5 aTh aSm aLn aAt aWe aRm p2 aHa aS aSv aCm aRd aBy) := hD
    refine lv_iconst (v := 0) hx hb dX8_insertsLetters_5 (by decide) ?_
    refine lv_istore_n (lv' := [(3, .int 0), (0, .ref h0), (1, .int p1), (2, .int p2)]) hx hb dX8_insertsLetters_6 rfl hl (by decide) rfl (fun ls hl => ?_)
    exact c_7 Z 0 p2 aS aBy h H locs hP hD hS ls (lv_sub hl [1, 2, 3, 0] rfl)
  exact hmain _ _ hP hS
abbrev rm_X8_pastesIf : Room := { frames := 5, cells := 0, slots := 0, locals := 106 }
def f_X8_pastesIf (Z : Nat) (aBm : Int32) (aS : Nat → Int32) (aBy : Nat → Int32) : Option (Int32 × Int32 × (Nat → Int32) × (Nat → Int32)) :=
  rd 10 344 (
  if (aS (Int32.toNatClampNeg 10)) = 0 then
    some (4, aBm, aS, aBy)
  else
    rd 10 344 (
    (f_X8_hasRoom Z (aS (Int32.toNatClampNeg 10)) aS).bind fun r4 =>
    if r4 = 0 then
      some (1, aBm, aS, aBy)
    else
      (f_X8_pastes Z aBm aS aBy).bind fun (aBm_6, aS_6, aBy_6) =>
      some (0, aBm_6, aS_6, aBy_6)))
set_option maxRecDepth 100000 in
set_option maxHeartbeats 4000000 in
theorem k_X8_pastesIf (l : Launch) (D : va_G) (cI cS cL : ClassId) (Z : Nat) (h0 : Nat) (h1 : Nat) (h2 : Nat) (h3 : Nat) (h4 : Nat) (h5 : Nat) (aTh : Int32) (aSm : Int32) (aLn : Int32) (aAt : Int32) (aWe : Int32) (aRm : Int32) (aBm : Int32) (aHa : Int64) (aS : Nat → Int32) (aSv : Nat → Int32) (aCm : Nat → Int32) (aRd : Nat → Int32) (aBy : Nat → Int32) {r : Int32} {aBm' : Int32} {aS' : Nat → Int32} {aBy' : Nat → Int32} (h : f_X8_pastesIf Z aBm aS aBy = some (r, aBm', aS', aBy')) : CI l yX8_pastesIf cX8_pastesIf 1 (some .int) rm_X8_pastesIf D cI cS cL [.ref h0] (wX8 cI h0 h1 h2 h3 h4 h5 aTh aSm aLn aAt aWe aRm aBm aHa aS aSv aCm aRd aBy) (wX8 cI h0 h1 h2 h3 h4 h5 aTh aSm aLn aAt aWe aRm (aBm') aHa (aS') aSv aCm aRd (aBy')) r := by
  refine ent_i (by decide +kernel) (Nat.le_of_ble_eq_true rfl) ?_
  intro p e s m args below meth c A ls hx hb hr hml hlocks hg hown hK hP hD hS hA hl
  have hown : s.vm.findClass RX8 = some m.cls := hown
  have hl : lv_has ls 1 [(0, .ref h0)] := hl
  have hP : va_P D vwCl (wX8 cI h0 h1 h2 h3 h4 h5 aTh aSm aLn aAt aWe aRm aBm aHa aS aSv aCm aRd aBy) s.heap := hP
  have hD : va_D A (wX8 cI h0 h1 h2 h3 h4 h5 aTh aSm aLn aAt aWe aRm aBm aHa aS aSv aCm aRd aBy) := hD
  show W p l e rm_X8_pastesIf s m args below meth c s.heap [] 0 0 (FI D below args s (wX8 cI h0 h1 h2 h3 h4 h5 aTh aSm aLn aAt aWe aRm (aBm') aHa (aS') aSv aCm aRd (aBy')) r A) (F0 m 0 ls [])
  unfold f_X8_pastesIf at h
  have hmain : ∀ (H : Heap) (locs : List Loc), va_P D vwCl (wX8 cI h0 h1 h2 h3 h4 h5 aTh aSm aLn aAt aWe aRm aBm aHa aS aSv aCm aRd aBy) H → va_S A s.heap H locs → W p l e rm_X8_pastesIf s m args below meth c H locs 0 0 (FI D below args s (wX8 cI h0 h1 h2 h3 h4 h5 aTh aSm aLn aAt aWe aRm (aBm') aHa (aS') aSv aCm aRd (aBy')) r A) (F0 m 0 ls []) := by
    intro H locs hP hS
    refine lv_aload_n hx hb dX8_pastesIf_0 rfl (lv_at hl 0 rfl) ?_
    refine va_get (D := D) (ci := 8) (v := .ref h1) (C := RX8) (T := TX8) (N := 13) hx hb hg uX8 hown hK.1 hP 0 rfl rfl 1 (by decide) (hg _ gw_941) (fun _ h9 => h9) rfl dX8_pastesIf_1 ?_
    refine lv_bipush (v := 10) hx hb dX8_pastesIf_4 (by decide) ?_
    obtain ⟨v1, h⟩ := rd_some h
    refine va_iald hx hb hK.1 hP 1 0 rfl rfl v1 dX8_pastesIf_6 ?_
    refine lv_if_ne (tgt := 12) hx hb dX8_pastesIf_7 (by decide) (fun q2 => ?_) (fun q2 => ?_)
    · replace h := if_some q2 h
      refine lv_aload_n hx hb dX8_pastesIf_12 rfl (lv_at hl 0 rfl) ?_
      refine lv_aload_n hx hb dX8_pastesIf_13 rfl (lv_at hl 0 rfl) ?_
      refine va_get (D := D) (ci := 8) (v := .ref h1) (C := RX8) (T := TX8) (N := 13) hx hb hg uX8 hown hK.1 hP 0 rfl rfl 1 (by decide) (hg _ gw_941) (fun _ h9 => h9) rfl dX8_pastesIf_14 ?_
      refine lv_bipush (v := 10) hx hb dX8_pastesIf_17 (by decide) ?_
      obtain ⟨v3, h⟩ := rd_some h
      refine va_iald hx hb hK.1 hP 1 0 rfl rfl v3 dX8_pastesIf_19 ?_
      obtain ⟨r4, ec4, h⟩ := bd_some h
      refine cV_i (As := [.int (aS (Int32.toNatClampNeg 10))]) (rest := []) (wc := (wX8 cI h0 h1 h2 h3 h4 h5 aTh aSm aLn aAt aWe aRm aBm aHa aS aSv aCm aRd aBy)) (wc' := (wX8 cI h0 h1 h2 h3 h4 h5 aTh aSm aLn aAt aWe aRm aBm aHa aS aSv aCm aRd aBy)) hx hb hml hown hg hK hP hD hS hA hl.1 (k_X8_hasRoom l D cI cS cL Z h0 h1 h2 h3 h4 h5 (aS (Int32.toNatClampNeg 10)) aTh aSm aLn aAt aWe aRm aBm aHa aS aSv aCm aRd aBy ec4) gm_X8_hasRoom gw_998 ⟨rfl, rfl, by decide, by decide⟩ ⟨Nat.zero_le _, Nat.zero_le _⟩ [0, 1, 2, 3, 4, 5] rfl rfl rfl rfl rfl rfl rfl rfl (Nat.le_of_ble_eq_true rfl) dX8_pastesIf_20 (fun H locs hP hD hS => ?_)
      have hP : va_P D vwCl (wX8 cI h0 h1 h2 h3 h4 h5 aTh aSm aLn aAt aWe aRm aBm aHa aS aSv aCm aRd aBy) H := hP
      have hD : va_D A (wX8 cI h0 h1 h2 h3 h4 h5 aTh aSm aLn aAt aWe aRm aBm aHa aS aSv aCm aRd aBy) := hD
      refine lv_if_ne (tgt := 28) hx hb dX8_pastesIf_23 (by decide) (fun q5 => ?_) (fun q5 => ?_)
      · replace h := if_some q5 h
        refine lv_aload_n hx hb dX8_pastesIf_28 rfl (lv_at hl 0 rfl) ?_
        obtain ⟨⟨aBm_6, aS_6, aBy_6⟩, ec6, h⟩ := bd_some h
        refine cV_v (As := []) (rest := []) (wc := (wX8 cI h0 h1 h2 h3 h4 h5 aTh aSm aLn aAt aWe aRm aBm aHa aS aSv aCm aRd aBy)) (wc' := (wX8 cI h0 h1 h2 h3 h4 h5 aTh aSm aLn aAt aWe aRm aBm_6 aHa aS_6 aSv aCm aRd aBy_6)) hx hb hml hown hg hK hP hD hS hA hl.1 (k_X8_pastes l D cI cS cL Z h0 h1 h2 h3 h4 h5 aTh aSm aLn aAt aWe aRm aBm aHa aS aSv aCm aRd aBy ec6) gm_X8_pastes gw_1140 ⟨rfl, rfl, by decide, by decide⟩ ⟨Nat.zero_le _, Nat.zero_le _⟩ [0, 1, 2, 3, 4, 5] rfl rfl rfl rfl rfl rfl rfl rfl (Nat.le_of_ble_eq_true rfl) dX8_pastesIf_29 (fun H locs hP hD hS => ?_)
        have hP : va_P D vwCl (wX8 cI h0 h1 h2 h3 h4 h5 aTh aSm aLn aAt aWe aRm aBm_6 aHa aS_6 aSv aCm aRd aBy_6) H := hP
        have hD : va_D A (wX8 cI h0 h1 h2 h3 h4 h5 aTh aSm aLn aAt aWe aRm aBm_6 aHa aS_6 aSv aCm aRd aBy_6) := hD
        refine lv_iconst (v := 0) hx hb dX8_pastesIf_32 (by decide) ?_
        cases h
        exact ret_i hx hb hr hlocks hP hD hS dX8_pastesIf_33 rfl
      · replace h := it_some q5 h
        refine lv_iconst (v := 1) hx hb dX8_pastesIf_26 (by decide) ?_
        cases h
        exact ret_i hx hb hr hlocks hP hD hS dX8_pastesIf_27 rfl
    · replace h := it_some q2 h
      refine lv_iconst (v := 4) hx hb dX8_pastesIf_10 (by decide) ?_
      cases h
      exact ret_i hx hb hr hlocks hP hD hS dX8_pastesIf_11 rfl
  exact hmain _ _ hP hS
abbrev rm_X8_movesIf : Room := { frames := 4, cells := 0, slots := 0, locals := 85 }
def f_X8_movesIf (Z : Nat) (p1 : Int32) (aS : Nat → Int32) : Option (Int32 × (Nat → Int32)) :=
  (f_X8_isPosition Z p1 aS).bind fun r1 =>
  if r1 = 0 then
    some (5, aS)
  else
    (f_X8_movesAnew Z p1 aS).bind fun (r3, aS_3) =>
    some (0, aS_3)
set_option maxRecDepth 100000 in
set_option maxHeartbeats 4000000 in
theorem k_X8_movesIf (l : Launch) (D : va_G) (cI cS cL : ClassId) (Z : Nat) (h0 : Nat) (h1 : Nat) (h2 : Nat) (h3 : Nat) (h4 : Nat) (h5 : Nat) (p1 : Int32) (aTh : Int32) (aSm : Int32) (aLn : Int32) (aAt : Int32) (aWe : Int32) (aRm : Int32) (aBm : Int32) (aHa : Int64) (aS : Nat → Int32) (aSv : Nat → Int32) (aCm : Nat → Int32) (aRd : Nat → Int32) (aBy : Nat → Int32) {r : Int32} {aS' : Nat → Int32} (h : f_X8_movesIf Z p1 aS = some (r, aS')) : CI l yX8_movesIf cX8_movesIf 2 (some .int) rm_X8_movesIf D cI cS cL [.ref h0, .int p1] (wX8 cI h0 h1 h2 h3 h4 h5 aTh aSm aLn aAt aWe aRm aBm aHa aS aSv aCm aRd aBy) (wX8 cI h0 h1 h2 h3 h4 h5 aTh aSm aLn aAt aWe aRm aBm aHa (aS') aSv aCm aRd aBy) r := by
  refine ent_i (by decide +kernel) (Nat.le_of_ble_eq_true rfl) ?_
  intro p e s m args below meth c A ls hx hb hr hml hlocks hg hown hK hP hD hS hA hl
  have hown : s.vm.findClass RX8 = some m.cls := hown
  have hl : lv_has ls 2 [(0, .ref h0), (1, .int p1)] := hl
  have hP : va_P D vwCl (wX8 cI h0 h1 h2 h3 h4 h5 aTh aSm aLn aAt aWe aRm aBm aHa aS aSv aCm aRd aBy) s.heap := hP
  have hD : va_D A (wX8 cI h0 h1 h2 h3 h4 h5 aTh aSm aLn aAt aWe aRm aBm aHa aS aSv aCm aRd aBy) := hD
  show W p l e rm_X8_movesIf s m args below meth c s.heap [] 0 0 (FI D below args s (wX8 cI h0 h1 h2 h3 h4 h5 aTh aSm aLn aAt aWe aRm aBm aHa (aS') aSv aCm aRd aBy) r A) (F0 m 0 ls [])
  unfold f_X8_movesIf at h
  have hmain : ∀ (H : Heap) (locs : List Loc), va_P D vwCl (wX8 cI h0 h1 h2 h3 h4 h5 aTh aSm aLn aAt aWe aRm aBm aHa aS aSv aCm aRd aBy) H → va_S A s.heap H locs → W p l e rm_X8_movesIf s m args below meth c H locs 0 0 (FI D below args s (wX8 cI h0 h1 h2 h3 h4 h5 aTh aSm aLn aAt aWe aRm aBm aHa (aS') aSv aCm aRd aBy) r A) (F0 m 0 ls []) := by
    intro H locs hP hS
    refine lv_aload_n hx hb dX8_movesIf_0 rfl (lv_at hl 0 rfl) ?_
    refine lv_iload_n hx hb dX8_movesIf_1 rfl (lv_at hl 1 rfl) ?_
    obtain ⟨r1, ec1, h⟩ := bd_some h
    refine cV_i (As := [.int p1]) (rest := []) (wc := (wX8 cI h0 h1 h2 h3 h4 h5 aTh aSm aLn aAt aWe aRm aBm aHa aS aSv aCm aRd aBy)) (wc' := (wX8 cI h0 h1 h2 h3 h4 h5 aTh aSm aLn aAt aWe aRm aBm aHa aS aSv aCm aRd aBy)) hx hb hml hown hg hK hP hD hS hA hl.1 (k_X8_isPosition l D cI cS cL Z h0 h1 h2 h3 h4 h5 p1 aTh aSm aLn aAt aWe aRm aBm aHa aS aSv aCm aRd aBy ec1) gm_X8_isPosition gw_1065 ⟨rfl, rfl, by decide, by decide⟩ ⟨Nat.zero_le _, Nat.zero_le _⟩ [0, 1, 2, 3, 4, 5] rfl rfl rfl rfl rfl rfl rfl rfl (Nat.le_of_ble_eq_true rfl) dX8_movesIf_2 (fun H locs hP hD hS => ?_)
    have hP : va_P D vwCl (wX8 cI h0 h1 h2 h3 h4 h5 aTh aSm aLn aAt aWe aRm aBm aHa aS aSv aCm aRd aBy) H := hP
    have hD : va_D A (wX8 cI h0 h1 h2 h3 h4 h5 aTh aSm aLn aAt aWe aRm aBm aHa aS aSv aCm aRd aBy) := hD
    refine lv_if_ne (tgt := 10) hx hb dX8_movesIf_5 (by decide) (fun q2 => ?_) (fun q2 => ?_)
    · replace h := if_some q2 h
      refine lv_aload_n hx hb dX8_movesIf_10 rfl (lv_at hl 0 rfl) ?_
      refine lv_iload_n hx hb dX8_movesIf_11 rfl (lv_at hl 1 rfl) ?_
      obtain ⟨⟨r3, aS_3⟩, ec3, h⟩ := bd_some h
      refine cV_i (As := [.int p1]) (rest := []) (wc := (wX8 cI h0 h1 h2 h3 h4 h5 aTh aSm aLn aAt aWe aRm aBm aHa aS aSv aCm aRd aBy)) (wc' := (wX8 cI h0 h1 h2 h3 h4 h5 aTh aSm aLn aAt aWe aRm aBm aHa aS_3 aSv aCm aRd aBy)) hx hb hml hown hg hK hP hD hS hA hl.1 (k_X8_movesAnew l D cI cS cL Z h0 h1 h2 h3 h4 h5 p1 aTh aSm aLn aAt aWe aRm aBm aHa aS aSv aCm aRd aBy ec3) gm_X8_movesAnew gw_1069 ⟨rfl, rfl, by decide, by decide⟩ ⟨Nat.zero_le _, Nat.zero_le _⟩ [0, 1, 2, 3, 4, 5] rfl rfl rfl rfl rfl rfl rfl rfl (Nat.le_of_ble_eq_true rfl) dX8_movesIf_12 (fun H locs hP hD hS => ?_)
      have hP : va_P D vwCl (wX8 cI h0 h1 h2 h3 h4 h5 aTh aSm aLn aAt aWe aRm aBm aHa aS_3 aSv aCm aRd aBy) H := hP
      have hD : va_D A (wX8 cI h0 h1 h2 h3 h4 h5 aTh aSm aLn aAt aWe aRm aBm aHa aS_3 aSv aCm aRd aBy) := hD
      refine lv_pop hx hb dX8_movesIf_15 rfl ?_
      refine lv_iconst (v := 0) hx hb dX8_movesIf_16 (by decide) ?_
      cases h
      exact ret_i hx hb hr hlocks hP hD hS dX8_movesIf_17 rfl
    · replace h := it_some q2 h
      refine lv_iconst (v := 5) hx hb dX8_movesIf_8 (by decide) ?_
      cases h
      exact ret_i hx hb hr hlocks hP hD hS dX8_movesIf_9 rfl
  exact hmain _ _ hP hS
abbrev rm_X8_cutsIf : Room := { frames := 5, cells := 0, slots := 0, locals := 109 }
def f_X8_cutsIf (Z : Nat) (p1 : Int32) (aS : Nat → Int32) : Option (Int32 × (Nat → Int32)) :=
  (f_X8_noRegion Z p1 aS).bind fun r1 =>
  if r1 = 0 then
    (f_X8_cuts Z p1 aS).bind fun aS_3 =>
    some (r1, aS_3)
  else
    some (r1, aS)
set_option maxRecDepth 100000 in
set_option maxHeartbeats 4000000 in
theorem k_X8_cutsIf (l : Launch) (D : va_G) (cI cS cL : ClassId) (Z : Nat) (h0 : Nat) (h1 : Nat) (h2 : Nat) (h3 : Nat) (h4 : Nat) (h5 : Nat) (p1 : Int32) (aTh : Int32) (aSm : Int32) (aLn : Int32) (aAt : Int32) (aWe : Int32) (aRm : Int32) (aBm : Int32) (aHa : Int64) (aS : Nat → Int32) (aSv : Nat → Int32) (aCm : Nat → Int32) (aRd : Nat → Int32) (aBy : Nat → Int32) {r : Int32} {aS' : Nat → Int32} (h : f_X8_cutsIf Z p1 aS = some (r, aS')) : CI l yX8_cutsIf cX8_cutsIf 3 (some .int) rm_X8_cutsIf D cI cS cL [.ref h0, .int p1] (wX8 cI h0 h1 h2 h3 h4 h5 aTh aSm aLn aAt aWe aRm aBm aHa aS aSv aCm aRd aBy) (wX8 cI h0 h1 h2 h3 h4 h5 aTh aSm aLn aAt aWe aRm aBm aHa (aS') aSv aCm aRd aBy) r := by
  refine ent_i (by decide +kernel) (Nat.le_of_ble_eq_true rfl) ?_
  intro p e s m args below meth c A ls hx hb hr hml hlocks hg hown hK hP hD hS hA hl
  have hown : s.vm.findClass RX8 = some m.cls := hown
  have hl : lv_has ls 3 [(0, .ref h0), (1, .int p1)] := hl
  have hP : va_P D vwCl (wX8 cI h0 h1 h2 h3 h4 h5 aTh aSm aLn aAt aWe aRm aBm aHa aS aSv aCm aRd aBy) s.heap := hP
  have hD : va_D A (wX8 cI h0 h1 h2 h3 h4 h5 aTh aSm aLn aAt aWe aRm aBm aHa aS aSv aCm aRd aBy) := hD
  show W p l e rm_X8_cutsIf s m args below meth c s.heap [] 0 0 (FI D below args s (wX8 cI h0 h1 h2 h3 h4 h5 aTh aSm aLn aAt aWe aRm aBm aHa (aS') aSv aCm aRd aBy) r A) (F0 m 0 ls [])
  unfold f_X8_cutsIf at h
  have hmain : ∀ (H : Heap) (locs : List Loc), va_P D vwCl (wX8 cI h0 h1 h2 h3 h4 h5 aTh aSm aLn aAt aWe aRm aBm aHa aS aSv aCm aRd aBy) H → va_S A s.heap H locs → W p l e rm_X8_cutsIf s m args below meth c H locs 0 0 (FI D below args s (wX8 cI h0 h1 h2 h3 h4 h5 aTh aSm aLn aAt aWe aRm aBm aHa (aS') aSv aCm aRd aBy) r A) (F0 m 0 ls []) := by
    intro H locs hP hS
    refine lv_aload_n hx hb dX8_cutsIf_0 rfl (lv_at hl 0 rfl) ?_
    refine lv_iload_n hx hb dX8_cutsIf_1 rfl (lv_at hl 1 rfl) ?_
    obtain ⟨r1, ec1, h⟩ := bd_some h
    refine cV_i (As := [.int p1]) (rest := []) (wc := (wX8 cI h0 h1 h2 h3 h4 h5 aTh aSm aLn aAt aWe aRm aBm aHa aS aSv aCm aRd aBy)) (wc' := (wX8 cI h0 h1 h2 h3 h4 h5 aTh aSm aLn aAt aWe aRm aBm aHa aS aSv aCm aRd aBy)) hx hb hml hown hg hK hP hD hS hA hl.1 (k_X8_noRegion l D cI cS cL Z h0 h1 h2 h3 h4 h5 p1 aTh aSm aLn aAt aWe aRm aBm aHa aS aSv aCm aRd aBy ec1) gm_X8_noRegion gw_1116 ⟨rfl, rfl, by decide, by decide⟩ ⟨Nat.zero_le _, Nat.zero_le _⟩ [0, 1, 2, 3, 4, 5] rfl rfl rfl rfl rfl rfl rfl rfl (Nat.le_of_ble_eq_true rfl) dX8_cutsIf_2 (fun H locs hP hD hS => ?_)
    have hP : va_P D vwCl (wX8 cI h0 h1 h2 h3 h4 h5 aTh aSm aLn aAt aWe aRm aBm aHa aS aSv aCm aRd aBy) H := hP
    have hD : va_D A (wX8 cI h0 h1 h2 h3 h4 h5 aTh aSm aLn aAt aWe aRm aBm aHa aS aSv aCm aRd aBy) := hD
    refine lv_istore_n (lv' := [(2, .int r1), (0, .ref h0), (1, .int p1)]) hx hb dX8_cutsIf_5 rfl hl (by decide) rfl (fun ls hl => ?_)
    refine lv_iload_n hx hb dX8_cutsIf_6 rfl (lv_at hl 0 rfl) ?_
    refine lv_if_ne (tgt := 15) hx hb dX8_cutsIf_7 (by decide) (fun q2 => ?_) (fun q2 => ?_)
    · replace h := if_some q2 h
      refine lv_iload_n hx hb dX8_cutsIf_15 rfl (lv_at hl 0 rfl) ?_
      cases h
      exact ret_i hx hb hr hlocks hP hD hS dX8_cutsIf_16 rfl
    · replace h := it_some q2 h
      refine lv_aload_n hx hb dX8_cutsIf_10 rfl (lv_at hl 1 rfl) ?_
      refine lv_iload_n hx hb dX8_cutsIf_11 rfl (lv_at hl 2 rfl) ?_
      obtain ⟨aS_3, ec3, h⟩ := bd_some h
      refine cV_v (As := [.int p1]) (rest := []) (wc := (wX8 cI h0 h1 h2 h3 h4 h5 aTh aSm aLn aAt aWe aRm aBm aHa aS aSv aCm aRd aBy)) (wc' := (wX8 cI h0 h1 h2 h3 h4 h5 aTh aSm aLn aAt aWe aRm aBm aHa aS_3 aSv aCm aRd aBy)) hx hb hml hown hg hK hP hD hS hA hl.1 (k_X8_cuts l D cI cS cL Z h0 h1 h2 h3 h4 h5 p1 aTh aSm aLn aAt aWe aRm aBm aHa aS aSv aCm aRd aBy ec3) gm_X8_cuts gw_1132 ⟨rfl, rfl, by decide, by decide⟩ ⟨Nat.zero_le _, Nat.zero_le _⟩ [0, 1, 2, 3, 4, 5] rfl rfl rfl rfl rfl rfl rfl rfl (Nat.le_of_ble_eq_true rfl) dX8_cutsIf_12 (fun H locs hP hD hS => ?_)
      have hP : va_P D vwCl (wX8 cI h0 h1 h2 h3 h4 h5 aTh aSm aLn aAt aWe aRm aBm aHa aS_3 aSv aCm aRd aBy) H := hP
      have hD : va_D A (wX8 cI h0 h1 h2 h3 h4 h5 aTh aSm aLn aAt aWe aRm aBm aHa aS_3 aSv aCm aRd aBy) := hD
      refine lv_iload_n hx hb dX8_cutsIf_15 rfl (lv_at hl 0 rfl) ?_
      cases h
      exact ret_i hx hb hr hlocks hP hD hS dX8_cutsIf_16 rfl
  exact hmain _ _ hP hS
abbrev rm_X8_executes : Room := { frames := 6, cells := 0, slots := 0, locals := 131 }
def f_X8_executes (Z : Nat) (p1 : Int32) (aBm : Int32) (aS : Nat → Int32) (aCm : Nat → Int32) (aRd : Nat → Int32) (aBy : Nat → Int32) : Option (Int32 × Int32 × (Nat → Int32) × (Nat → Int32)) :=
  rd (p1 + 1) 96 (
  kl (aRd (Int32.toNatClampNeg (p1 + 1))) fun x2_2 =>
  rd p1 96 (
  if (aRd (Int32.toNatClampNeg p1)) = 43 then
    rd (p1 + 2) 96 (
    (f_X8_insertsLetters Z (aRd (Int32.toNatClampNeg (p1 + 2))) x2_2 aBm aS aCm aBy).bind fun (r6, aBm_6, aS_6, aBy_6) =>
    some (r6, aBm_6, aS_6, aBy_6))
  else if (aRd (Int32.toNatClampNeg p1)) = 45 then
    (f_X8_erases Z x2_2 aS).bind fun (r8, aS_8) =>
    some (0, aBm, aS_8, aBy)
  else if (aRd (Int32.toNatClampNeg p1)) = 60 then
    (f_X8_backs Z x2_2 aS).bind fun (r10, aS_10) =>
    some (0, aBm, aS_10, aBy)
  else if (aRd (Int32.toNatClampNeg p1)) = 64 then
    (f_X8_movesIf Z x2_2 aS).bind fun (r12, aS_12) =>
    some (r12, aBm, aS_12, aBy)
  else if (aRd (Int32.toNatClampNeg p1)) = 109 then
    rd 1 344 (
    rd (12 + x2_2) 344 (kl (upd aS (Int32.toNatClampNeg (12 + x2_2)) (aS (Int32.toNatClampNeg 1))) fun aS_16 =>
    rd (16 + x2_2) 344 (kl (upd aS_16 (Int32.toNatClampNeg (16 + x2_2)) 1) fun aS_18 =>
    some (0, aBm, aS_18, aBy))))
  else if (aRd (Int32.toNatClampNeg p1)) = 110 then
    (f_X8_fillsBytes Z 10 1 aBm aBy).bind fun (aBm_20, aBy_20) =>
    (f_X8_insertsIf Z aBm_20 aS aBy_20).bind fun (r21, aS_21) =>
    some (r21, aBm_20, aS_21, aBy_20)
  else if (aRd (Int32.toNatClampNeg p1)) = 120 then
    (f_X8_cutsIf Z x2_2 aS).bind fun (r23, aS_23) =>
    some (r23, aBm, aS_23, aBy)
  else 
    (f_X8_pastesIf Z aBm aS aBy).bind fun (r24, aBm_24, aS_24, aBy_24) =>
  some (r24, aBm_24, aS_24, aBy_24)))
set_option maxRecDepth 100000 in
set_option maxHeartbeats 4000000 in
theorem k_X8_executes (l : Launch) (D : va_G) (cI cS cL : ClassId) (Z : Nat) (h0 : Nat) (h1 : Nat) (h2 : Nat) (h3 : Nat) (h4 : Nat) (h5 : Nat) (p1 : Int32) (aTh : Int32) (aSm : Int32) (aLn : Int32) (aAt : Int32) (aWe : Int32) (aRm : Int32) (aBm : Int32) (aHa : Int64) (aS : Nat → Int32) (aSv : Nat → Int32) (aCm : Nat → Int32) (aRd : Nat → Int32) (aBy : Nat → Int32) {r : Int32} {aBm' : Int32} {aS' : Nat → Int32} {aBy' : Nat → Int32} (h : f_X8_executes Z p1 aBm aS aCm aRd aBy = some (r, aBm', aS', aBy')) : CI l yX8_executes cX8_executes 3 (some .int) rm_X8_executes D cI cS cL [.ref h0, .int p1] (wX8 cI h0 h1 h2 h3 h4 h5 aTh aSm aLn aAt aWe aRm aBm aHa aS aSv aCm aRd aBy) (wX8 cI h0 h1 h2 h3 h4 h5 aTh aSm aLn aAt aWe aRm (aBm') aHa (aS') aSv aCm aRd (aBy')) r := by
  refine ent_i (by decide +kernel) (Nat.le_of_ble_eq_true rfl) ?_
  intro p e s m args below meth c A ls hx hb hr hml hlocks hg hown hK hP hD hS hA hl
  have hown : s.vm.findClass RX8 = some m.cls := hown
  have hl : lv_has ls 3 [(0, .ref h0), (1, .int p1)] := hl
  have hP : va_P D vwCl (wX8 cI h0 h1 h2 h3 h4 h5 aTh aSm aLn aAt aWe aRm aBm aHa aS aSv aCm aRd aBy) s.heap := hP
  have hD : va_D A (wX8 cI h0 h1 h2 h3 h4 h5 aTh aSm aLn aAt aWe aRm aBm aHa aS aSv aCm aRd aBy) := hD
  show W p l e rm_X8_executes s m args below meth c s.heap [] 0 0 (FI D below args s (wX8 cI h0 h1 h2 h3 h4 h5 aTh aSm aLn aAt aWe aRm (aBm') aHa (aS') aSv aCm aRd (aBy')) r A) (F0 m 0 ls [])
  unfold f_X8_executes at h
  have hmain : ∀ (H : Heap) (locs : List Loc), va_P D vwCl (wX8 cI h0 h1 h2 h3 h4 h5 aTh aSm aLn aAt aWe aRm aBm aHa aS aSv aCm aRd aBy) H → va_S A s.heap H locs → W p l e rm_X8_executes s m args below meth c H locs 0 0 (FI D below args s (wX8 cI h0 h1 h2 h3 h4 h5 aTh aSm aLn aAt aWe aRm (aBm') aHa (aS') aSv aCm aRd (aBy')) r A) (F0 m 0 ls []) := by
    intro H locs hP hS
    refine lv_aload_n hx hb dX8_executes_0 rfl (lv_at hl 0 rfl) ?_
    refine va_get (D := D) (ci := 8) (v := .ref h4) (C := RX8) (T := TX8) (N := 13) hx hb hg uX8 hown hK.1 hP 0 rfl rfl 8 (by decide) (hg _ gw_948) (fun _ h9 => h9) rfl dX8_executes_1 ?_
    refine lv_iload_n hx hb dX8_executes_4 rfl (lv_at hl 1 rfl) ?_
    refine lv_iconst (v := 1) hx hb dX8_executes_5 (by decide) ?_
    refine lv_iadd hx hb dX8_executes_6 ?_
    obtain ⟨v1, h⟩ := rd_some h
    refine va_iald hx hb hK.1 hP 4 0 rfl rfl v1 dX8_executes_7 ?_
    obtain ⟨x2_2, ex2_2, h⟩ := kl_some h
    refine nm_i ex2_2 ?_
    refine lv_istore_n (lv' := [(2, .int x2_2), (0, .ref h0), (1, .int p1)]) hx hb dX8_executes_8 rfl hl (by decide) rfl (fun ls hl => ?_)
    refine lv_aload_n hx hb dX8_executes_9 rfl (lv_at hl 1 rfl) ?_
    refine va_get (D := D) (ci := 8) (v := .ref h4) (C := RX8) (T := TX8) (N := 13) hx hb hg uX8 hown hK.1 hP 0 rfl rfl 8 (by decide) (hg _ gw_948) (fun _ h9 => h9) rfl dX8_executes_10 ?_
    refine lv_iload_n hx hb dX8_executes_13 rfl (lv_at hl 2 rfl) ?_
    obtain ⟨v3, h⟩ := rd_some h
    refine va_iald hx hb hK.1 hP 4 0 rfl rfl v3 dX8_executes_14 ?_
    by_cases q4 : (aRd (Int32.toNatClampNeg p1)) = 43
    · replace h := it_some q4 h
      refine lv_lookup (off := 65) (tgt := 80) hx hb dX8_executes_15 (by decide) (show Op.lookupswitch.offset [(43, 65), (45, 91), (60, 99), (64, 107), (109, 113), (110, 79), (120, 140)] 146 (aRd (Int32.toNatClampNeg p1)).toInt = 65 from (osw_hit (k := 43) q4 rfl)) (by decide) ?_
      refine lv_aload_n hx hb dX8_executes_80 rfl (lv_at hl 1 rfl) ?_
      refine lv_aload_n hx hb dX8_executes_81 rfl (lv_at hl 1 rfl) ?_
      refine va_get (D := D) (ci := 8) (v := .ref h4) (C := RX8) (T := TX8) (N := 13) hx hb hg uX8 hown hK.1 hP 0 rfl rfl 8 (by decide) (hg _ gw_948) (fun _ h9 => h9) rfl dX8_executes_82 ?_
      refine lv_iload_n hx hb dX8_executes_85 rfl (lv_at hl 2 rfl) ?_
      refine lv_iconst (v := 2) hx hb dX8_executes_86 (by decide) ?_
      refine lv_iadd hx hb dX8_executes_87 ?_
      obtain ⟨v5, h⟩ := rd_some h
      refine va_iald hx hb hK.1 hP 4 0 rfl rfl v5 dX8_executes_88 ?_
      refine lv_iload_n hx hb dX8_executes_89 rfl (lv_at hl 0 rfl) ?_
      obtain ⟨⟨r6, aBm_6, aS_6, aBy_6⟩, ec6, h⟩ := bd_some h
      refine cV_i (As := [.int (aRd (Int32.toNatClampNeg (p1 + 2))), .int x2_2]) (rest := []) (wc := (wX8 cI h0 h1 h2 h3 h4 h5 aTh aSm aLn aAt aWe aRm aBm aHa aS aSv aCm aRd aBy)) (wc' := (wX8 cI h0 h1 h2 h3 h4 h5 aTh aSm aLn aAt aWe aRm aBm_6 aHa aS_6 aSv aCm aRd aBy_6)) hx hb hml hown hg hK hP hD hS hA hl.1 (k_X8_insertsLetters l D cI cS cL Z h0 h1 h2 h3 h4 h5 (aRd (Int32.toNatClampNeg (p1 + 2))) x2_2 aTh aSm aLn aAt aWe aRm aBm aHa aS aSv aCm aRd aBy ec6) gm_X8_insertsLetters gw_1291 ⟨rfl, rfl, by decide, by decide⟩ ⟨Nat.zero_le _, Nat.zero_le _⟩ [0, 1, 2, 3, 4, 5] rfl rfl rfl rfl rfl rfl rfl rfl (Nat.le_of_ble_eq_true rfl) dX8_executes_90 (fun H locs hP hD hS => ?_)
      have hP : va_P D vwCl (wX8 cI h0 h1 h2 h3 h4 h5 aTh aSm aLn aAt aWe aRm aBm_6 aHa aS_6 aSv aCm aRd aBy_6) H := hP
      have hD : va_D A (wX8 cI h0 h1 h2 h3 h4 h5 aTh aSm aLn aAt aWe aRm aBm_6 aHa aS_6 aSv aCm aRd aBy_6) := hD
      cases h
      exact ret_i hx hb hr hlocks hP hD hS dX8_executes_93 rfl
    replace h := if_some q4 h
    by_cases q7 : (aRd (Int32.toNatClampNeg p1)) = 45
    · replace h := it_some q7 h
      refine lv_lookup (off := 91) (tgt := 106) hx hb dX8_executes_15 (by decide) (show Op.lookupswitch.offset [(43, 65), (45, 91), (60, 99), (64, 107), (109, 113), (110, 79), (120, 140)] 146 (aRd (Int32.toNatClampNeg p1)).toInt = 91 from ((lv_osw (k := 43) q4 rfl).trans (osw_hit (k := 45) q7 rfl))) (by decide) ?_
      refine lv_aload_n hx hb dX8_executes_106 rfl (lv_at hl 1 rfl) ?_
      refine lv_iload_n hx hb dX8_executes_107 rfl (lv_at hl 0 rfl) ?_
      obtain ⟨⟨r8, aS_8⟩, ec8, h⟩ := bd_some h
      refine cV_i (As := [.int x2_2]) (rest := []) (wc := (wX8 cI h0 h1 h2 h3 h4 h5 aTh aSm aLn aAt aWe aRm aBm aHa aS aSv aCm aRd aBy)) (wc' := (wX8 cI h0 h1 h2 h3 h4 h5 aTh aSm aLn aAt aWe aRm aBm aHa aS_8 aSv aCm aRd aBy)) hx hb hml hown hg hK hP hD hS hA hl.1 (k_X8_erases l D cI cS cL Z h0 h1 h2 h3 h4 h5 x2_2 aTh aSm aLn aAt aWe aRm aBm aHa aS aSv aCm aRd aBy ec8) gm_X8_erases gw_1045 ⟨rfl, rfl, by decide, by decide⟩ ⟨Nat.zero_le _, Nat.zero_le _⟩ [0, 1, 2, 3, 4, 5] rfl rfl rfl rfl rfl rfl rfl rfl (Nat.le_of_ble_eq_true rfl) dX8_executes_108 (fun H locs hP hD hS => ?_)
      have hP : va_P D vwCl (wX8 cI h0 h1 h2 h3 h4 h5 aTh aSm aLn aAt aWe aRm aBm aHa aS_8 aSv aCm aRd aBy) H := hP
      have hD : va_D A (wX8 cI h0 h1 h2 h3 h4 h5 aTh aSm aLn aAt aWe aRm aBm aHa aS_8 aSv aCm aRd aBy) := hD
      refine lv_pop hx hb dX8_executes_111 rfl ?_
      refine lv_iconst (v := 0) hx hb dX8_executes_112 (by decide) ?_
      cases h
      exact ret_i hx hb hr hlocks hP hD hS dX8_executes_113 rfl
    replace h := if_some q7 h
    by_cases q9 : (aRd (Int32.toNatClampNeg p1)) = 60
    · replace h := it_some q9 h
      refine lv_lookup (off := 99) (tgt := 114) hx hb dX8_executes_15 (by decide) (show Op.lookupswitch.offset [(43, 65), (45, 91), (60, 99), (64, 107), (109, 113), (110, 79), (120, 140)] 146 (aRd (Int32.toNatClampNeg p1)).toInt = 99 from ((lv_osw (k := 43) q4 rfl).trans ((lv_osw (k := 45) q7 rfl).trans (osw_hit (k := 60) q9 rfl)))) (by decide) ?_
      refine lv_aload_n hx hb dX8_executes_114 rfl (lv_at hl 1 rfl) ?_
      refine lv_iload_n hx hb dX8_executes_115 rfl (lv_at hl 0 rfl) ?_
      obtain ⟨⟨r10, aS_10⟩, ec10, h⟩ := bd_some h
      refine cV_i (As := [.int x2_2]) (rest := []) (wc := (wX8 cI h0 h1 h2 h3 h4 h5 aTh aSm aLn aAt aWe aRm aBm aHa aS aSv aCm aRd aBy)) (wc' := (wX8 cI h0 h1 h2 h3 h4 h5 aTh aSm aLn aAt aWe aRm aBm aHa aS_10 aSv aCm aRd aBy)) hx hb hml hown hg hK hP hD hS hA hl.1 (k_X8_backs l D cI cS cL Z h0 h1 h2 h3 h4 h5 x2_2 aTh aSm aLn aAt aWe aRm aBm aHa aS aSv aCm aRd aBy ec10) gm_X8_backs gw_1057 ⟨rfl, rfl, by decide, by decide⟩ ⟨Nat.zero_le _, Nat.zero_le _⟩ [0, 1, 2, 3, 4, 5] rfl rfl rfl rfl rfl rfl rfl rfl (Nat.le_of_ble_eq_true rfl) dX8_executes_116 (fun H locs hP hD hS => ?_)
      have hP : va_P D vwCl (wX8 cI h0 h1 h2 h3 h4 h5 aTh aSm aLn aAt aWe aRm aBm aHa aS_10 aSv aCm aRd aBy) H := hP
      have hD : va_D A (wX8 cI h0 h1 h2 h3 h4 h5 aTh aSm aLn aAt aWe aRm aBm aHa aS_10 aSv aCm aRd aBy) := hD
      refine lv_pop hx hb dX8_executes_119 rfl ?_
      refine lv_iconst (v := 0) hx hb dX8_executes_120 (by decide) ?_
      cases h
      exact ret_i hx hb hr hlocks hP hD hS dX8_executes_121 rfl
    replace h := if_some q9 h
    by_cases q11 : (aRd (Int32.toNatClampNeg p1)) = 64
    · replace h := it_some q11 h
      refine lv_lookup (off := 107) (tgt := 122) hx hb dX8_executes_15 (by decide) (show Op.lookupswitch.offset [(43, 65), (45, 91), (60, 99), (64, 107), (109, 113), (110, 79), (120, 140)] 146 (aRd (Int32.toNatClampNeg p1)).toInt = 107 from ((lv_osw (k := 43) q4 rfl).trans ((lv_osw (k := 45) q7 rfl).trans ((lv_osw (k := 60) q9 rfl).trans (osw_hit (k := 64) q11 rfl))))) (by decide) ?_
      refine lv_aload_n hx hb dX8_executes_122 rfl (lv_at hl 1 rfl) ?_
      refine lv_iload_n hx hb dX8_executes_123 rfl (lv_at hl 0 rfl) ?_
      obtain ⟨⟨r12, aS_12⟩, ec12, h⟩ := bd_some h
      refine cV_i (As := [.int x2_2]) (rest := []) (wc := (wX8 cI h0 h1 h2 h3 h4 h5 aTh aSm aLn aAt aWe aRm aBm aHa aS aSv aCm aRd aBy)) (wc' := (wX8 cI h0 h1 h2 h3 h4 h5 aTh aSm aLn aAt aWe aRm aBm aHa aS_12 aSv aCm aRd aBy)) hx hb hml hown hg hK hP hD hS hA hl.1 (k_X8_movesIf l D cI cS cL Z h0 h1 h2 h3 h4 h5 x2_2 aTh aSm aLn aAt aWe aRm aBm aHa aS aSv aCm aRd aBy ec12) gm_X8_movesIf gw_1299 ⟨rfl, rfl, by decide, by decide⟩ ⟨Nat.zero_le _, Nat.zero_le _⟩ [0, 1, 2, 3, 4, 5] rfl rfl rfl rfl rfl rfl rfl rfl (Nat.le_of_ble_eq_true rfl) dX8_executes_124 (fun H locs hP hD hS => ?_)
      have hP : va_P D vwCl (wX8 cI h0 h1 h2 h3 h4 h5 aTh aSm aLn aAt aWe aRm aBm aHa aS_12 aSv aCm aRd aBy) H := hP
      have hD : va_D A (wX8 cI h0 h1 h2 h3 h4 h5 aTh aSm aLn aAt aWe aRm aBm aHa aS_12 aSv aCm aRd aBy) := hD
      cases h
      exact ret_i hx hb hr hlocks hP hD hS dX8_executes_127 rfl
    replace h := if_some q11 h
    by_cases q13 : (aRd (Int32.toNatClampNeg p1)) = 109
    · replace h := it_some q13 h
      refine lv_lookup (off := 113) (tgt := 128) hx hb dX8_executes_15 (by decide) (show Op.lookupswitch.offset [(43, 65), (45, 91), (60, 99), (64, 107), (109, 113), (110, 79), (120, 140)] 146 (aRd (Int32.toNatClampNeg p1)).toInt = 113 from ((lv_osw (k := 43) q4 rfl).trans ((lv_osw (k := 45) q7 rfl).trans ((lv_osw (k := 60) q9 rfl).trans ((lv_osw (k := 64) q11 rfl).trans (osw_hit (k := 109) q13 rfl)))))) (by decide) ?_
      refine lv_aload_n hx hb dX8_executes_128 rfl (lv_at hl 1 rfl) ?_
      refine va_get (D := D) (ci := 8) (v := .ref h1) (C := RX8) (T := TX8) (N := 13) hx hb hg uX8 hown hK.1 hP 0 rfl rfl 1 (by decide) (hg _ gw_941) (fun _ h9 => h9) rfl dX8_executes_129 ?_
      refine lv_bipush (v := 12) hx hb dX8_executes_132 (by decide) ?_
      refine lv_iload_n hx hb dX8_executes_134 rfl (lv_at hl 0 rfl) ?_
      refine lv_iadd hx hb dX8_executes_135 ?_
      refine lv_aload_n hx hb dX8_executes_136 rfl (lv_at hl 1 rfl) ?_
      refine va_get (D := D) (ci := 8) (v := .ref h1) (C := RX8) (T := TX8) (N := 13) hx hb hg uX8 hown hK.1 hP 0 rfl rfl 1 (by decide) (hg _ gw_941) (fun _ h9 => h9) rfl dX8_executes_137 ?_
      refine lv_iconst (v := 1) hx hb dX8_executes_140 (by decide) ?_
      obtain ⟨v14, h⟩ := rd_some h
      refine va_iald hx hb hK.1 hP 1 0 rfl rfl v14 dX8_executes_141 ?_
      obtain ⟨v15, h⟩ := rd_some h
      obtain ⟨aS_16, eaS_16, h⟩ := kl_some h
      refine va_iast hx hb hK.1 hP hD hS 1 0 rfl rfl v15 dX8_executes_142 (fun H locs hP hD hS => ?_)
      have hP : va_P D vwCl (wX8 cI h0 h1 h2 h3 h4 h5 aTh aSm aLn aAt aWe aRm aBm aHa aS_16 aSv aCm aRd aBy) H := by rw [eaS_16]; exact hP
      have hD : va_D A (wX8 cI h0 h1 h2 h3 h4 h5 aTh aSm aLn aAt aWe aRm aBm aHa aS_16 aSv aCm aRd aBy) := by rw [eaS_16]; exact hD
      refine lv_aload_n hx hb dX8_executes_143 rfl (lv_at hl 1 rfl) ?_
      refine va_get (D := D) (ci := 8) (v := .ref h1) (C := RX8) (T := TX8) (N := 13) hx hb hg uX8 hown hK.1 hP 0 rfl rfl 1 (by decide) (hg _ gw_941) (fun _ h9 => h9) rfl dX8_executes_144 ?_
      refine lv_bipush (v := 16) hx hb dX8_executes_147 (by decide) ?_
      refine lv_iload_n hx hb dX8_executes_149 rfl (lv_at hl 0 rfl) ?_
      refine lv_iadd hx hb dX8_executes_150 ?_
      refine lv_iconst (v := 1) hx hb dX8_executes_151 (by decide) ?_
      obtain ⟨v17, h⟩ := rd_some h
      obtain ⟨aS_18, eaS_18, h⟩ := kl_some h
      refine va_iast hx hb hK.1 hP hD hS 1 0 rfl rfl v17 dX8_executes_152 (fun H locs hP hD hS => ?_)
      have hP : va_P D vwCl (wX8 cI h0 h1 h2 h3 h4 h5 aTh aSm aLn aAt aWe aRm aBm aHa aS_18 aSv aCm aRd aBy) H := by rw [eaS_18]; exact hP
      have hD : va_D A (wX8 cI h0 h1 h2 h3 h4 h5 aTh aSm aLn aAt aWe aRm aBm aHa aS_18 aSv aCm aRd aBy) := by rw [eaS_18]; exact hD
      refine lv_iconst (v := 0) hx hb dX8_executes_153 (by decide) ?_
      cases h
      exact ret_i hx hb hr hlocks hP hD hS dX8_executes_154 rfl
    replace h := if_some q13 h
    by_cases q19 : (aRd (Int32.toNatClampNeg p1)) = 110
    · replace h := it_some q19 h
      refine lv_lookup (off := 79) (tgt := 94) hx hb dX8_executes_15 (by decide) (show Op.lookupswitch.offset [(43, 65), (45, 91), (60, 99), (64, 107), (109, 113), (110, 79), (120, 140)] 146 (aRd (Int32.toNatClampNeg p1)).toInt = 79 from ((lv_osw (k := 43) q4 rfl).trans ((lv_osw (k := 45) q7 rfl).trans ((lv_osw (k := 60) q9 rfl).trans ((lv_osw (k := 64) q11 rfl).trans ((lv_osw (k := 109) q13 rfl).trans (osw_hit (k := 110) q19 rfl))))))) (by decide) ?_
      refine lv_aload_n hx hb dX8_executes_94 rfl (lv_at hl 1 rfl) ?_
      refine lv_bipush (v := 10) hx hb dX8_executes_95 (by decide) ?_
      refine lv_iconst (v := 1) hx hb dX8_executes_97 (by decide) ?_
      obtain ⟨⟨aBm_20, aBy_20⟩, ec20, h⟩ := bd_some h
      refine cV_v (As := [.int 10, .int 1]) (rest := []) (wc := (wX8 cI h0 h1 h2 h3 h4 h5 aTh aSm aLn aAt aWe aRm aBm aHa aS aSv aCm aRd aBy)) (wc' := (wX8 cI h0 h1 h2 h3 h4 h5 aTh aSm aLn aAt aWe aRm aBm_20 aHa aS aSv aCm aRd aBy_20)) hx hb hml hown hg hK hP hD hS hA hl.1 (k_X8_fillsBytes l D cI cS cL Z h0 h1 h2 h3 h4 h5 10 1 aTh aSm aLn aAt aWe aRm aBm aHa aS aSv aCm aRd aBy ec20) gm_X8_fillsBytes gw_1006 ⟨rfl, rfl, by decide, by decide⟩ ⟨Nat.zero_le _, Nat.zero_le _⟩ [0, 1, 2, 3, 4, 5] rfl rfl rfl rfl rfl rfl rfl rfl (Nat.le_of_ble_eq_true rfl) dX8_executes_98 (fun H locs hP hD hS => ?_)
      have hP : va_P D vwCl (wX8 cI h0 h1 h2 h3 h4 h5 aTh aSm aLn aAt aWe aRm aBm_20 aHa aS aSv aCm aRd aBy_20) H := hP
      have hD : va_D A (wX8 cI h0 h1 h2 h3 h4 h5 aTh aSm aLn aAt aWe aRm aBm_20 aHa aS aSv aCm aRd aBy_20) := hD
      refine lv_aload_n hx hb dX8_executes_101 rfl (lv_at hl 1 rfl) ?_
      obtain ⟨⟨r21, aS_21⟩, ec21, h⟩ := bd_some h
      refine cV_i (As := []) (rest := []) (wc := (wX8 cI h0 h1 h2 h3 h4 h5 aTh aSm aLn aAt aWe aRm aBm_20 aHa aS aSv aCm aRd aBy_20)) (wc' := (wX8 cI h0 h1 h2 h3 h4 h5 aTh aSm aLn aAt aWe aRm aBm_20 aHa aS_21 aSv aCm aRd aBy_20)) hx hb hml hown hg hK hP hD hS hA hl.1 (k_X8_insertsIf l D cI cS cL Z h0 h1 h2 h3 h4 h5 aTh aSm aLn aAt aWe aRm aBm_20 aHa aS aSv aCm aRd aBy_20 ec21) gm_X8_insertsIf gw_1295 ⟨rfl, rfl, by decide, by decide⟩ ⟨Nat.zero_le _, Nat.zero_le _⟩ [0, 1, 2, 3, 4, 5] rfl rfl rfl rfl rfl rfl rfl rfl (Nat.le_of_ble_eq_true rfl) dX8_executes_102 (fun H locs hP hD hS => ?_)
      have hP : va_P D vwCl (wX8 cI h0 h1 h2 h3 h4 h5 aTh aSm aLn aAt aWe aRm aBm_20 aHa aS_21 aSv aCm aRd aBy_20) H := hP
      have hD : va_D A (wX8 cI h0 h1 h2 h3 h4 h5 aTh aSm aLn aAt aWe aRm aBm_20 aHa aS_21 aSv aCm aRd aBy_20) := hD
      cases h
      exact ret_i hx hb hr hlocks hP hD hS dX8_executes_105 rfl
    replace h := if_some q19 h
    by_cases q22 : (aRd (Int32.toNatClampNeg p1)) = 120
    · replace h := it_some q22 h
      refine lv_lookup (off := 140) (tgt := 155) hx hb dX8_executes_15 (by decide) (show Op.lookupswitch.offset [(43, 65), (45, 91), (60, 99), (64, 107), (109, 113), (110, 79), (120, 140)] 146 (aRd (Int32.toNatClampNeg p1)).toInt = 140 from ((lv_osw (k := 43) q4 rfl).trans ((lv_osw (k := 45) q7 rfl).trans ((lv_osw (k := 60) q9 rfl).trans ((lv_osw (k := 64) q11 rfl).trans ((lv_osw (k := 109) q13 rfl).trans ((lv_osw (k := 110) q19 rfl).trans (osw_hit (k := 120) q22 rfl)))))))) (by decide) ?_
      refine lv_aload_n hx hb dX8_executes_155 rfl (lv_at hl 1 rfl) ?_
      refine lv_iload_n hx hb dX8_executes_156 rfl (lv_at hl 0 rfl) ?_
      obtain ⟨⟨r23, aS_23⟩, ec23, h⟩ := bd_some h
      refine cV_i (As := [.int x2_2]) (rest := []) (wc := (wX8 cI h0 h1 h2 h3 h4 h5 aTh aSm aLn aAt aWe aRm aBm aHa aS aSv aCm aRd aBy)) (wc' := (wX8 cI h0 h1 h2 h3 h4 h5 aTh aSm aLn aAt aWe aRm aBm aHa aS_23 aSv aCm aRd aBy)) hx hb hml hown hg hK hP hD hS hA hl.1 (k_X8_cutsIf l D cI cS cL Z h0 h1 h2 h3 h4 h5 x2_2 aTh aSm aLn aAt aWe aRm aBm aHa aS aSv aCm aRd aBy ec23) gm_X8_cutsIf gw_1303 ⟨rfl, rfl, by decide, by decide⟩ ⟨Nat.zero_le _, Nat.zero_le _⟩ [0, 1, 2, 3, 4, 5] rfl rfl rfl rfl rfl rfl rfl rfl (Nat.le_of_ble_eq_true rfl) dX8_executes_157 (fun H locs hP hD hS => ?_)
      have hP : va_P D vwCl (wX8 cI h0 h1 h2 h3 h4 h5 aTh aSm aLn aAt aWe aRm aBm aHa aS_23 aSv aCm aRd aBy) H := hP
      have hD : va_D A (wX8 cI h0 h1 h2 h3 h4 h5 aTh aSm aLn aAt aWe aRm aBm aHa aS_23 aSv aCm aRd aBy) := hD
      cases h
      exact ret_i hx hb hr hlocks hP hD hS dX8_executes_160 rfl
    replace h := if_some q22 h
    refine lv_lookup (off := 146) (tgt := 161) hx hb dX8_executes_15 (by decide) (show Op.lookupswitch.offset [(43, 65), (45, 91), (60, 99), (64, 107), (109, 113), (110, 79), (120, 140)] 146 (aRd (Int32.toNatClampNeg p1)).toInt = 146 from ((lv_osw (k := 43) q4 rfl).trans ((lv_osw (k := 45) q7 rfl).trans ((lv_osw (k := 60) q9 rfl).trans ((lv_osw (k := 64) q11 rfl).trans ((lv_osw (k := 109) q13 rfl).trans ((lv_osw (k := 110) q19 rfl).trans ((lv_osw (k := 120) q22 rfl).trans rfl)))))))) (by decide) ?_
    refine lv_aload_n hx hb dX8_executes_161 rfl (lv_at hl 1 rfl) ?_
    obtain ⟨⟨r24, aBm_24, aS_24, aBy_24⟩, ec24, h⟩ := bd_some h
    refine cV_i (As := []) (rest := []) (wc := (wX8 cI h0 h1 h2 h3 h4 h5 aTh aSm aLn aAt aWe aRm aBm aHa aS aSv aCm aRd aBy)) (wc' := (wX8 cI h0 h1 h2 h3 h4 h5 aTh aSm aLn aAt aWe aRm aBm_24 aHa aS_24 aSv aCm aRd aBy_24)) hx hb hml hown hg hK hP hD hS hA hl.1 (k_X8_pastesIf l D cI cS cL Z h0 h1 h2 h3 h4 h5 aTh aSm aLn aAt aWe aRm aBm aHa aS aSv aCm aRd aBy ec24) gm_X8_pastesIf gw_1307 ⟨rfl, rfl, by decide, by decide⟩ ⟨Nat.zero_le _, Nat.zero_le _⟩ [0, 1, 2, 3, 4, 5] rfl rfl rfl rfl rfl rfl rfl rfl (Nat.le_of_ble_eq_true rfl) dX8_executes_162 (fun H locs hP hD hS => ?_)
    have hP : va_P D vwCl (wX8 cI h0 h1 h2 h3 h4 h5 aTh aSm aLn aAt aWe aRm aBm_24 aHa aS_24 aSv aCm aRd aBy_24) H := hP
    have hD : va_D A (wX8 cI h0 h1 h2 h3 h4 h5 aTh aSm aLn aAt aWe aRm aBm_24 aHa aS_24 aSv aCm aRd aBy_24) := hD
    cases h
    exact ret_i hx hb hr hlocks hP hD hS dX8_executes_165 rfl
  exact hmain _ _ hP hS
abbrev rm_X8_run : Room := { frames := 7, cells := 0, slots := 0, locals := 153 }
def f_X8_run_b26 (Z : Nat) (aCm : Nat → Int32) (rec : Int32 → Int32 → Int32 → Int32 → Int32 → Int32 → Int32 → Int32 → Int32 → (Nat → Int32) → (Nat → Int32) → (Nat → Int32) → (Nat → Int32) → Option (Int32 × Int32 × Int32 × Int32 × Int32 × Int32 × Int32 × Int32 × (Nat → Int32) × (Nat → Int32) × (Nat → Int32) × (Nat → Int32))) (x1 : Int32) (x2 : Int32) (aTh : Int32) (aSm : Int32) (aLn : Int32) (aAt : Int32) (aWe : Int32) (aRm : Int32) (aBm : Int32) (aS : Nat → Int32) (aSv : Nat → Int32) (aRd : Nat → Int32) (aBy : Nat → Int32) : Option (Int32 × Int32 × Int32 × Int32 × Int32 × Int32 × Int32 × Int32 × (Nat → Int32) × (Nat → Int32) × (Nat → Int32) × (Nat → Int32)) :=
      if aRm ≤ x1 then
        if x2 = 0 then
          some (0, aTh, aSm, (0), aAt, aWe, aRm, aBm, aS, aSv, aRd, aBy)
        else
          some ((10 * x1) + x2, aTh, aSm, (0), aAt, aWe, aRm, aBm, aS, aSv, aRd, aBy)
      else
        if x2 = 0 then
          (f_X8_executes Z (3 * x1) aBm aS aCm aRd aBy).bind fun (r5, aBm_5, aS_5, aBy_5) =>
          if r5 = 0 then
            kl (x1 + 1) fun x1_8 =>
            rec x1_8 r5 aTh aSm aLn aAt aWe aRm aBm_5 aS_5 aSv aRd aBy_5
          else
            kl (x1 + 0) fun x1_7 =>
            rec x1_7 r5 aTh aSm aLn aAt aWe aRm aBm_5 aS_5 aSv aRd aBy_5
        else
          if x2 = 0 then
            some (0, aTh, aSm, (0), aAt, aWe, aRm, aBm, aS, aSv, aRd, aBy)
          else
            some ((10 * x1) + x2, aTh, aSm, (0), aAt, aWe, aRm, aBm, aS, aSv, aRd, aBy)
def f_X8_run_l26 (Z : Nat) (aCm : Nat → Int32) : Nat → Int32 → Int32 → Int32 → Int32 → Int32 → Int32 → Int32 → Int32 → Int32 → (Nat → Int32) → (Nat → Int32) → (Nat → Int32) → (Nat → Int32) → Option (Int32 × Int32 × Int32 × Int32 × Int32 × Int32 × Int32 × Int32 × (Nat → Int32) × (Nat → Int32) × (Nat → Int32) × (Nat → Int32))
  | 0, _, _, _, _, _, _, _, _, _, _, _, _, _ => none
  | n + 1, x1, x2, aTh, aSm, aLn, aAt, aWe, aRm, aBm, aS, aSv, aRd, aBy => f_X8_run_b26 Z aCm (f_X8_run_l26 Z aCm n) x1 x2 aTh aSm aLn aAt aWe aRm aBm aS aSv aRd aBy
def f_X8_run (Z : Nat) (aTh : Int32) (aSm : Int32) (aLn : Int32) (aAt : Int32) (aWe : Int32) (aRm : Int32) (aBm : Int32) (aS : Nat → Int32) (aSv : Nat → Int32) (aCm : Nat → Int32) (aRd : Nat → Int32) (aBy : Nat → Int32) : Option (Int32 × Int32 × Int32 × Int32 × Int32 × Int32 × Int32 × Int32 × (Nat → Int32) × (Nat → Int32) × (Nat → Int32) × (Nat → Int32)) :=
  (f_X8_reads Z aLn aAt aWe aRm aCm aRd).bind fun (r9, aAt_9, aWe_9, aRm_9, aRd_9) =>
  if r9 = 0 then
    (f_X8_fails Z 1 (0)).bind fun (r12, aTh_12) =>
    some (r12, aTh_12, aSm, aLn, aAt_9, aWe_9, aRm_9, aBm, aS, aSv, aRd_9, aBy)
  else
    (f_X8_saves Z aSm aS aSv).bind fun (aSm_11, aSv_11) =>
    f_X8_run_l26 Z aCm Z 0 0 (0) aSm_11 aLn aAt_9 aWe_9 aRm_9 aBm aS aSv_11 aRd_9 aBy
set_option maxRecDepth 100000 in
set_option maxHeartbeats 4000000 in
theorem k_X8_run (l : Launch) (D : va_G) (cI cS cL : ClassId) (Z : Nat) (h0 : Nat) (h1 : Nat) (h2 : Nat) (h3 : Nat) (h4 : Nat) (h5 : Nat) (aTh : Int32) (aSm : Int32) (aLn : Int32) (aAt : Int32) (aWe : Int32) (aRm : Int32) (aBm : Int32) (aHa : Int64) (aS : Nat → Int32) (aSv : Nat → Int32) (aCm : Nat → Int32) (aRd : Nat → Int32) (aBy : Nat → Int32) {r : Int32} {aTh' : Int32} {aSm' : Int32} {aLn' : Int32} {aAt' : Int32} {aWe' : Int32} {aRm' : Int32} {aBm' : Int32} {aS' : Nat → Int32} {aSv' : Nat → Int32} {aRd' : Nat → Int32} {aBy' : Nat → Int32} (h : f_X8_run Z aTh aSm aLn aAt aWe aRm aBm aS aSv aCm aRd aBy = some (r, aTh', aSm', aLn', aAt', aWe', aRm', aBm', aS', aSv', aRd', aBy')) : CI l yX8_run cX8_run 3 (some .int) rm_X8_run D cI cS cL [.ref h0] (wX8 cI h0 h1 h2 h3 h4 h5 aTh aSm aLn aAt aWe aRm aBm aHa aS aSv aCm aRd aBy) (wX8 cI h0 h1 h2 h3 h4 h5 (aTh') (aSm') (aLn') (aAt') (aWe') (aRm') (aBm') aHa (aS') (aSv') aCm (aRd') (aBy')) r := by
  refine ent_i (by decide +kernel) (Nat.le_of_ble_eq_true rfl) ?_
  intro p e s m args below meth c A ls hx hb hr hml hlocks hg hown hK hP hD hS hA hl
  have hown : s.vm.findClass RX8 = some m.cls := hown
  have c_26 : ∀ (n : Nat) (x1 : Int32) (x2 : Int32) (aTh : Int32) (aSm : Int32) (aLn : Int32) (aAt : Int32) (aWe : Int32) (aRm : Int32) (aBm : Int32) (aS : Nat → Int32) (aSv : Nat → Int32) (aRd : Nat → Int32) (aBy : Nat → Int32), f_X8_run_l26 Z aCm n x1 x2 aTh aSm aLn aAt aWe aRm aBm aS aSv aRd aBy = some (r, aTh', aSm', aLn', aAt', aWe', aRm', aBm', aS', aSv', aRd', aBy') → ∀ (H : Heap) (locs : List Loc), va_P D vwCl (wX8 cI h0 h1 h2 h3 h4 h5 aTh aSm aLn aAt aWe aRm aBm aHa aS aSv aCm aRd aBy) H → va_D A (wX8 cI h0 h1 h2 h3 h4 h5 aTh aSm aLn aAt aWe aRm aBm aHa aS aSv aCm aRd aBy) → va_S A s.heap H locs → ∀ ls : Array Slot, lv_has ls 3 [(0, .ref h0), (1, .int x1), (2, .int x2)] → W p l e rm_X8_run s m args below meth c H locs 0 0 (FI D below args s (wX8 cI h0 h1 h2 h3 h4 h5 (aTh') (aSm') (aLn') (aAt') (aWe') (aRm') (aBm') aHa (aS') (aSv') aCm (aRd') (aBy')) r A) (F0 m 26 ls []) := by
    intro n
    induction n with
    | zero => intro x1 x2 aTh aSm aLn aAt aWe aRm aBm aS aSv aRd aBy h; exact no_some h
    | succ n ih =>
      intro x1 x2 aTh aSm aLn aAt aWe aRm aBm aS aSv aRd aBy h H locs hP hD hS ls hl
      have h : f_X8_run_b26 Z aCm (f_X8_run_l26 Z aCm n) x1 x2 aTh aSm aLn aAt aWe aRm aBm aS aSv aRd aBy = some (r, aTh', aSm', aLn', aAt', aWe', aRm', aBm', aS', aSv', aRd', aBy') := h
      unfold f_X8_run_b26 at h
      refine lv_iload_n hx hb dX8_run_26 rfl (lv_at hl 1 rfl) ?_
      refine lv_aload_n hx hb dX8_run_27 rfl (lv_at hl 0 rfl) ?_
      refine va_get (D := D) (ci := 8) (v := .int aRm) (C := RX8) (T := TX8) (N := 13) hx hb hg uX8 hown hK.1 hP 0 rfl rfl 9 (by decide) (hg _ gw_949) (fun _ h9 => h9) rfl dX8_run_28 ?_
      refine lv_icmp_ge (tgt := 61) hx hb dX8_run_31 (by decide) (fun q1 => ?_) (fun q1 => ?_)
      · replace h := it_some q1 h
        refine lv_aload_n hx hb dX8_run_61 rfl (lv_at hl 0 rfl) ?_
        refine lv_iconst (v := 0) hx hb dX8_run_62 (by decide) ?_
        refine va_put (D := D) (ci := 8) (v := .int 0) (ty := tyX8 5) (C := RX8) (T := TX8) (N := 13) hx hb hg uX8 tyX8 tyX8_ok nmX8 hown hK.1 hP hD hS 0 rfl rfl 5 (by decide) (hg _ gw_945) (fun _ h9 => h9) rfl (tyX8_ok 5 (by decide)) rfl rfl (Nat.le_of_ble_eq_true rfl) dX8_run_63 (fun H locs hP hD hS => ?_)
        have hP : va_P D vwCl (wX8 cI h0 h1 h2 h3 h4 h5 aTh aSm (0) aAt aWe aRm aBm aHa aS aSv aCm aRd aBy) H := hP
        have hD : va_D A (wX8 cI h0 h1 h2 h3 h4 h5 aTh aSm (0) aAt aWe aRm aBm aHa aS aSv aCm aRd aBy) := hD
        refine lv_iload_n hx hb dX8_run_66 rfl (lv_at hl 2 rfl) ?_
        refine lv_if_ne (tgt := 74) hx hb dX8_run_67 (by decide) (fun q2 => ?_) (fun q2 => ?_)
        · replace h := if_some q2 h
          refine lv_bipush (v := 10) hx hb dX8_run_74 (by decide) ?_
          refine lv_iload_n hx hb dX8_run_76 rfl (lv_at hl 1 rfl) ?_
          refine lv_imul hx hb dX8_run_77 ?_
          refine lv_iload_n hx hb dX8_run_78 rfl (lv_at hl 2 rfl) ?_
          refine lv_iadd hx hb dX8_run_79 ?_
          cases h
          exact ret_i hx hb hr hlocks hP hD hS dX8_run_80 rfl
        · replace h := it_some q2 h
          refine lv_iconst (v := 0) hx hb dX8_run_70 (by decide) ?_
          refine lv_goto (tgt := 80) hx hb dX8_run_71 (by decide) ?_
          cases h
          exact ret_i hx hb hr hlocks hP hD hS dX8_run_80 rfl
      · replace h := if_some q1 h
        refine lv_iload_n hx hb dX8_run_34 rfl (lv_at hl 2 rfl) ?_
        refine lv_if_ne (tgt := 61) hx hb dX8_run_35 (by decide) (fun q3 => ?_) (fun q3 => ?_)
        · replace h := if_some q3 h
          refine lv_aload_n hx hb dX8_run_61 rfl (lv_at hl 0 rfl) ?_
          refine lv_iconst (v := 0) hx hb dX8_run_62 (by decide) ?_
          refine va_put (D := D) (ci := 8) (v := .int 0) (ty := tyX8 5) (C := RX8) (T := TX8) (N := 13) hx hb hg uX8 tyX8 tyX8_ok nmX8 hown hK.1 hP hD hS 0 rfl rfl 5 (by decide) (hg _ gw_945) (fun _ h9 => h9) rfl (tyX8_ok 5 (by decide)) rfl rfl (Nat.le_of_ble_eq_true rfl) dX8_run_63 (fun H locs hP hD hS => ?_)
          have hP : va_P D vwCl (wX8 cI h0 h1 h2 h3 h4 h5 aTh aSm (0) aAt aWe aRm aBm aHa aS aSv aCm aRd aBy) H := hP
          have hD : va_D A (wX8 cI h0 h1 h2 h3 h4 h5 aTh aSm (0) aAt aWe aRm aBm aHa aS aSv aCm aRd aBy) := hD
          refine lv_iload_n hx hb dX8_run_66 rfl (lv_at hl 2 rfl) ?_
          refine lv_if_ne (tgt := 74) hx hb dX8_run_67 (by decide) (fun q4 => ?_) (fun q4 => ?_)
          · replace h := if_some q4 h
            refine lv_bipush (v := 10) hx hb dX8_run_74 (by decide) ?_
            refine lv_iload_n hx hb dX8_run_76 rfl (lv_at hl 1 rfl) ?_
            refine lv_imul hx hb dX8_run_77 ?_
            refine lv_iload_n hx hb dX8_run_78 rfl (lv_at hl 2 rfl) ?_
            refine lv_iadd hx hb dX8_run_79 ?_
            cases h
            exact ret_i hx hb hr hlocks hP hD hS dX8_run_80 rfl
          · replace h := it_some q4 h
            refine lv_iconst (v := 0) hx hb dX8_run_70 (by decide) ?_
            refine lv_goto (tgt := 80) hx hb dX8_run_71 (by decide) ?_
            cases h
            exact ret_i hx hb hr hlocks hP hD hS dX8_run_80 rfl
        · replace h := it_some q3 h
          refine lv_aload_n hx hb dX8_run_38 rfl (lv_at hl 0 rfl) ?_
          refine lv_iconst (v := 3) hx hb dX8_run_39 (by decide) ?_
          refine lv_iload_n hx hb dX8_run_40 rfl (lv_at hl 1 rfl) ?_
          refine lv_imul hx hb dX8_run_41 ?_
          obtain ⟨⟨r5, aBm_5, aS_5, aBy_5⟩, ec5, h⟩ := bd_some h
          refine cV_i (As := [.int (3 * x1)]) (rest := []) (wc := (wX8 cI h0 h1 h2 h3 h4 h5 aTh aSm aLn aAt aWe aRm aBm aHa aS aSv aCm aRd aBy)) (wc' := (wX8 cI h0 h1 h2 h3 h4 h5 aTh aSm aLn aAt aWe aRm aBm_5 aHa aS_5 aSv aCm aRd aBy_5)) hx hb hml hown hg hK hP hD hS hA hl.1 (k_X8_executes l D cI cS cL Z h0 h1 h2 h3 h4 h5 (3 * x1) aTh aSm aLn aAt aWe aRm aBm aHa aS aSv aCm aRd aBy ec5) gm_X8_executes gw_1287 ⟨rfl, rfl, by decide, by decide⟩ ⟨Nat.zero_le _, Nat.zero_le _⟩ [0, 1, 2, 3, 4, 5] rfl rfl rfl rfl rfl rfl rfl rfl (Nat.le_of_ble_eq_true rfl) dX8_run_42 (fun H locs hP hD hS => ?_)
          have hP : va_P D vwCl (wX8 cI h0 h1 h2 h3 h4 h5 aTh aSm aLn aAt aWe aRm aBm_5 aHa aS_5 aSv aCm aRd aBy_5) H := hP
          have hD : va_D A (wX8 cI h0 h1 h2 h3 h4 h5 aTh aSm aLn aAt aWe aRm aBm_5 aHa aS_5 aSv aCm aRd aBy_5) := hD
          refine lv_istore_n (lv' := [(2, .int r5), (0, .ref h0), (1, .int x1)]) hx hb dX8_run_45 rfl hl (by decide) rfl (fun ls hl => ?_)
          refine lv_iload_n hx hb dX8_run_46 rfl (lv_at hl 2 rfl) ?_
          refine lv_iload_n hx hb dX8_run_47 rfl (lv_at hl 0 rfl) ?_
          refine lv_if_ne (tgt := 55) hx hb dX8_run_48 (by decide) (fun q6 => ?_) (fun q6 => ?_)
          · replace h := if_some q6 h
            refine lv_iconst (v := 0) hx hb dX8_run_55 (by decide) ?_
            refine lv_iadd hx hb dX8_run_56 ?_
            obtain ⟨x1_7, ex1_7, h⟩ := kl_some h
            refine nm_i ex1_7 ?_
            refine lv_istore_n (lv' := [(1, .int x1_7), (2, .int r5), (0, .ref h0)]) hx hb dX8_run_57 rfl hl (by decide) rfl (fun ls hl => ?_)
            refine lv_goto (tgt := 26) hx hb dX8_run_58 (by decide) ?_
            exact ih x1_7 r5 aTh aSm aLn aAt aWe aRm aBm_5 aS_5 aSv aRd aBy_5 h H locs hP hD hS ls (lv_sub hl [2, 0, 1] rfl)
          · replace h := it_some q6 h
            refine lv_iconst (v := 1) hx hb dX8_run_51 (by decide) ?_
            refine lv_goto (tgt := 56) hx hb dX8_run_52 (by decide) ?_
            refine lv_iadd hx hb dX8_run_56 ?_
            obtain ⟨x1_8, ex1_8, h⟩ := kl_some h
            refine nm_i ex1_8 ?_
            refine lv_istore_n (lv' := [(1, .int x1_8), (2, .int r5), (0, .ref h0)]) hx hb dX8_run_57 rfl hl (by decide) rfl (fun ls hl => ?_)
            refine lv_goto (tgt := 26) hx hb dX8_run_58 (by decide) ?_
            exact ih x1_8 r5 aTh aSm aLn aAt aWe aRm aBm_5 aS_5 aSv aRd aBy_5 h H locs hP hD hS ls (lv_sub hl [2, 0, 1] rfl)
  have hl : lv_has ls 3 [(0, .ref h0)] := hl
  have hP : va_P D vwCl (wX8 cI h0 h1 h2 h3 h4 h5 aTh aSm aLn aAt aWe aRm aBm aHa aS aSv aCm aRd aBy) s.heap := hP
  have hD : va_D A (wX8 cI h0 h1 h2 h3 h4 h5 aTh aSm aLn aAt aWe aRm aBm aHa aS aSv aCm aRd aBy) := hD
  show W p l e rm_X8_run s m args below meth c s.heap [] 0 0 (FI D below args s (wX8 cI h0 h1 h2 h3 h4 h5 (aTh') (aSm') (aLn') (aAt') (aWe') (aRm') (aBm') aHa (aS') (aSv') aCm (aRd') (aBy')) r A) (F0 m 0 ls [])
  unfold f_X8_run at h
  have hmain : ∀ (H : Heap) (locs : List Loc), va_P D vwCl (wX8 cI h0 h1 h2 h3 h4 h5 aTh aSm aLn aAt aWe aRm aBm aHa aS aSv aCm aRd aBy) H → va_S A s.heap H locs → W p l e rm_X8_run s m args below meth c H locs 0 0 (FI D below args s (wX8 cI h0 h1 h2 h3 h4 h5 (aTh') (aSm') (aLn') (aAt') (aWe') (aRm') (aBm') aHa (aS') (aSv') aCm (aRd') (aBy')) r A) (F0 m 0 ls []) := by
    intro H locs hP hS
    refine lv_aload_n hx hb dX8_run_0 rfl (lv_at hl 0 rfl) ?_
    refine lv_iconst (v := 0) hx hb dX8_run_1 (by decide) ?_
    refine va_put (D := D) (ci := 8) (v := .int 0) (ty := tyX8 0) (C := RX8) (T := TX8) (N := 13) hx hb hg uX8 tyX8 tyX8_ok nmX8 hown hK.1 hP hD hS 0 rfl rfl 0 (by decide) (hg _ gw_940) (fun _ h9 => h9) rfl (tyX8_ok 0 (by decide)) rfl rfl (Nat.le_of_ble_eq_true rfl) dX8_run_2 (fun H locs hP hD hS => ?_)
    have hP : va_P D vwCl (wX8 cI h0 h1 h2 h3 h4 h5 (0) aSm aLn aAt aWe aRm aBm aHa aS aSv aCm aRd aBy) H := hP
    have hD : va_D A (wX8 cI h0 h1 h2 h3 h4 h5 (0) aSm aLn aAt aWe aRm aBm aHa aS aSv aCm aRd aBy) := hD
    refine lv_aload_n hx hb dX8_run_5 rfl (lv_at hl 0 rfl) ?_
    obtain ⟨⟨r9, aAt_9, aWe_9, aRm_9, aRd_9⟩, ec9, h⟩ := bd_some h
    refine cV_i (As := []) (rest := []) (wc := (wX8 cI h0 h1 h2 h3 h4 h5 (0) aSm aLn aAt aWe aRm aBm aHa aS aSv aCm aRd aBy)) (wc' := (wX8 cI h0 h1 h2 h3 h4 h5 (0) aSm aLn aAt_9 aWe_9 aRm_9 aBm aHa aS aSv aCm aRd_9 aBy)) hx hb hml hown hg hK hP hD hS hA hl.1 (k_X8_reads l D cI cS cL Z h0 h1 h2 h3 h4 h5 (0) aSm aLn aAt aWe aRm aBm aHa aS aSv aCm aRd aBy ec9) gm_X8_reads gw_1259 ⟨rfl, rfl, by decide, by decide⟩ ⟨Nat.zero_le _, Nat.zero_le _⟩ [0, 1, 2, 3, 4, 5] rfl rfl rfl rfl rfl rfl rfl rfl (Nat.le_of_ble_eq_true rfl) dX8_run_6 (fun H locs hP hD hS => ?_)
    have hP : va_P D vwCl (wX8 cI h0 h1 h2 h3 h4 h5 (0) aSm aLn aAt_9 aWe_9 aRm_9 aBm aHa aS aSv aCm aRd_9 aBy) H := hP
    have hD : va_D A (wX8 cI h0 h1 h2 h3 h4 h5 (0) aSm aLn aAt_9 aWe_9 aRm_9 aBm aHa aS aSv aCm aRd_9 aBy) := hD
    refine lv_if_ne (tgt := 18) hx hb dX8_run_9 (by decide) (fun q10 => ?_) (fun q10 => ?_)
    · replace h := if_some q10 h
      refine lv_aload_n hx hb dX8_run_18 rfl (lv_at hl 0 rfl) ?_
      obtain ⟨⟨aSm_11, aSv_11⟩, ec11, h⟩ := bd_some h
      refine cV_v (As := []) (rest := []) (wc := (wX8 cI h0 h1 h2 h3 h4 h5 (0) aSm aLn aAt_9 aWe_9 aRm_9 aBm aHa aS aSv aCm aRd_9 aBy)) (wc' := (wX8 cI h0 h1 h2 h3 h4 h5 (0) aSm_11 aLn aAt_9 aWe_9 aRm_9 aBm aHa aS aSv_11 aCm aRd_9 aBy)) hx hb hml hown hg hK hP hD hS hA hl.1 (k_X8_saves l D cI cS cL Z h0 h1 h2 h3 h4 h5 (0) aSm aLn aAt_9 aWe_9 aRm_9 aBm aHa aS aSv aCm aRd_9 aBy ec11) gm_X8_saves gw_1002 ⟨rfl, rfl, by decide, by decide⟩ ⟨Nat.zero_le _, Nat.zero_le _⟩ [0, 1, 2, 3, 4, 5] rfl rfl rfl rfl rfl rfl rfl rfl (Nat.le_of_ble_eq_true rfl) dX8_run_19 (fun H locs hP hD hS => ?_)
      have hP : va_P D vwCl (wX8 cI h0 h1 h2 h3 h4 h5 (0) aSm_11 aLn aAt_9 aWe_9 aRm_9 aBm aHa aS aSv_11 aCm aRd_9 aBy) H := hP
      have hD : va_D A (wX8 cI h0 h1 h2 h3 h4 h5 (0) aSm_11 aLn aAt_9 aWe_9 aRm_9 aBm aHa aS aSv_11 aCm aRd_9 aBy) := hD
      refine lv_iconst (v := 0) hx hb dX8_run_22 (by decide) ?_
      refine lv_istore_n (lv' := [(1, .int 0), (0, .ref h0)]) hx hb dX8_run_23 rfl hl (by decide) rfl (fun ls hl => ?_)
      refine lv_iconst (v := 0) hx hb dX8_run_24 (by decide) ?_
      refine lv_istore_n (lv' := [(2, .int 0), (1, .int 0), (0, .ref h0)]) hx hb dX8_run_25 rfl hl (by decide) rfl (fun ls hl => ?_)
      exact c_26 Z 0 0 (0) aSm_11 aLn aAt_9 aWe_9 aRm_9 aBm aS aSv_11 aRd_9 aBy h H locs hP hD hS ls (lv_sub hl [2, 1, 0] rfl)
    · replace h := it_some q10 h
      refine lv_aload_n hx hb dX8_run_12 rfl (lv_at hl 0 rfl) ?_
      refine lv_iconst (v := 1) hx hb dX8_run_13 (by decide) ?_
      obtain ⟨⟨r12, aTh_12⟩, ec12, h⟩ := bd_some h
      refine cV_i (As := [.int 1]) (rest := []) (wc := (wX8 cI h0 h1 h2 h3 h4 h5 (0) aSm aLn aAt_9 aWe_9 aRm_9 aBm aHa aS aSv aCm aRd_9 aBy)) (wc' := (wX8 cI h0 h1 h2 h3 h4 h5 aTh_12 aSm aLn aAt_9 aWe_9 aRm_9 aBm aHa aS aSv aCm aRd_9 aBy)) hx hb hml hown hg hK hP hD hS hA hl.1 (k_X8_fails l D cI cS cL Z h0 h1 h2 h3 h4 h5 1 (0) aSm aLn aAt_9 aWe_9 aRm_9 aBm aHa aS aSv aCm aRd_9 aBy ec12) gm_X8_fails gw_994 ⟨rfl, rfl, by decide, by decide⟩ ⟨Nat.zero_le _, Nat.zero_le _⟩ [0, 1, 2, 3, 4, 5] rfl rfl rfl rfl rfl rfl rfl rfl (Nat.le_of_ble_eq_true rfl) dX8_run_14 (fun H locs hP hD hS => ?_)
      have hP : va_P D vwCl (wX8 cI h0 h1 h2 h3 h4 h5 aTh_12 aSm aLn aAt_9 aWe_9 aRm_9 aBm aHa aS aSv aCm aRd_9 aBy) H := hP
      have hD : va_D A (wX8 cI h0 h1 h2 h3 h4 h5 aTh_12 aSm aLn aAt_9 aWe_9 aRm_9 aBm aHa aS aSv aCm aRd_9 aBy) := hD
      cases h
      exact ret_i hx hb hr hlocks hP hD hS dX8_run_17 rfl
  exact hmain _ _ hP hS
abbrev rm_X8_undo : Room := { frames := 1, cells := 0, slots := 0, locals := 21 }
def f_X8_undo_b30 (Z : Nat) (aSv : Nat → Int32) (rec : Int32 → Int32 → Int32 → (Nat → Int32) → Option (Int32 × Int32 × Int32 × (Nat → Int32))) (x1 : Int32) (aTh : Int32) (aSm : Int32) (aS : Nat → Int32) : Option (Int32 × Int32 × Int32 × (Nat → Int32)) :=
      if 344 ≤ x1 then
        some (aSm, aTh, aSm, aS)
      else
        rd ((344 * aSm) + x1) 2064 (
        rd x1 344 (kl (upd aS (Int32.toNatClampNeg x1) (aSv (Int32.toNatClampNeg ((344 * aSm) + x1)))) fun aS_4 =>
        kl (x1 + 1) fun x1_5 =>
        rec x1_5 aTh aSm aS_4))
def f_X8_undo_l30 (Z : Nat) (aSv : Nat → Int32) : Nat → Int32 → Int32 → Int32 → (Nat → Int32) → Option (Int32 × Int32 × Int32 × (Nat → Int32))
  | 0, _, _, _, _ => none
  | n + 1, x1, aTh, aSm, aS => f_X8_undo_b30 Z aSv (f_X8_undo_l30 Z aSv n) x1 aTh aSm aS
def f_X8_undo (Z : Nat) (aTh : Int32) (aSm : Int32) (aS : Nat → Int32) (aSv : Nat → Int32) : Option (Int32 × Int32 × Int32 × (Nat → Int32)) :=
  if aSm = 0 then
    (f_X8_fails Z 1 (0)).bind fun (r8, aTh_8) =>
    some (r8, aTh_8, aSm, aS)
  else
    kl (aSm - 1) fun aSm_7 =>
    f_X8_undo_l30 Z aSv Z 0 (0) aSm_7 aS
set_option maxRecDepth 100000 in
set_option maxHeartbeats 4000000 in
theorem k_X8_undo (l : Launch) (D : va_G) (cI cS cL : ClassId) (Z : Nat) (h0 : Nat) (h1 : Nat) (h2 : Nat) (h3 : Nat) (h4 : Nat) (h5 : Nat) (aTh : Int32) (aSm : Int32) (aLn : Int32) (aAt : Int32) (aWe : Int32) (aRm : Int32) (aBm : Int32) (aHa : Int64) (aS : Nat → Int32) (aSv : Nat → Int32) (aCm : Nat → Int32) (aRd : Nat → Int32) (aBy : Nat → Int32) {r : Int32} {aTh' : Int32} {aSm' : Int32} {aS' : Nat → Int32} (h : f_X8_undo Z aTh aSm aS aSv = some (r, aTh', aSm', aS')) : CI l yX8_undo cX8_undo 2 (some .int) rm_X8_undo D cI cS cL [.ref h0] (wX8 cI h0 h1 h2 h3 h4 h5 aTh aSm aLn aAt aWe aRm aBm aHa aS aSv aCm aRd aBy) (wX8 cI h0 h1 h2 h3 h4 h5 (aTh') (aSm') aLn aAt aWe aRm aBm aHa (aS') aSv aCm aRd aBy) r := by
  refine ent_i (by decide +kernel) (Nat.le_of_ble_eq_true rfl) ?_
  intro p e s m args below meth c A ls hx hb hr hml hlocks hg hown hK hP hD hS hA hl
  have hown : s.vm.findClass RX8 = some m.cls := hown
  have c_30 : ∀ (n : Nat) (x1 : Int32) (aTh : Int32) (aSm : Int32) (aS : Nat → Int32), f_X8_undo_l30 Z aSv n x1 aTh aSm aS = some (r, aTh', aSm', aS') → ∀ (H : Heap) (locs : List Loc), va_P D vwCl (wX8 cI h0 h1 h2 h3 h4 h5 aTh aSm aLn aAt aWe aRm aBm aHa aS aSv aCm aRd aBy) H → va_D A (wX8 cI h0 h1 h2 h3 h4 h5 aTh aSm aLn aAt aWe aRm aBm aHa aS aSv aCm aRd aBy) → va_S A s.heap H locs → ∀ ls : Array Slot, lv_has ls 2 [(0, .ref h0), (1, .int x1)] → W p l e rm_X8_undo s m args below meth c H locs 0 0 (FI D below args s (wX8 cI h0 h1 h2 h3 h4 h5 (aTh') (aSm') aLn aAt aWe aRm aBm aHa (aS') aSv aCm aRd aBy) r A) (F0 m 30 ls []) := by
    intro n
    induction n with
    | zero => intro x1 aTh aSm aS h; exact no_some h
    | succ n ih =>
      intro x1 aTh aSm aS h H locs hP hD hS ls hl
      have h : f_X8_undo_b30 Z aSv (f_X8_undo_l30 Z aSv n) x1 aTh aSm aS = some (r, aTh', aSm', aS') := h
      unfold f_X8_undo_b30 at h
      refine lv_iload_n hx hb dX8_undo_30 rfl (lv_at hl 1 rfl) ?_
      refine lv_sipush (v := 344) hx hb dX8_undo_31 (by decide) ?_
      refine lv_icmp_ge (tgt := 64) hx hb dX8_undo_34 (by decide) (fun q1 => ?_) (fun q1 => ?_)
      · replace h := it_some q1 h
        refine lv_aload_n hx hb dX8_undo_64 rfl (lv_at hl 0 rfl) ?_
        refine va_get (D := D) (ci := 8) (v := .int aSm) (C := RX8) (T := TX8) (N := 13) hx hb hg uX8 hown hK.1 hP 0 rfl rfl 3 (by decide) (hg _ gw_943) (fun _ h9 => h9) rfl dX8_undo_65 ?_
        cases h
        exact ret_i hx hb hr hlocks hP hD hS dX8_undo_68 rfl
      · replace h := if_some q1 h
        refine lv_aload_n hx hb dX8_undo_37 rfl (lv_at hl 0 rfl) ?_
        refine va_get (D := D) (ci := 8) (v := .ref h1) (C := RX8) (T := TX8) (N := 13) hx hb hg uX8 hown hK.1 hP 0 rfl rfl 1 (by decide) (hg _ gw_941) (fun _ h9 => h9) rfl dX8_undo_38 ?_
        refine lv_iload_n hx hb dX8_undo_41 rfl (lv_at hl 1 rfl) ?_
        refine lv_aload_n hx hb dX8_undo_42 rfl (lv_at hl 0 rfl) ?_
        refine va_get (D := D) (ci := 8) (v := .ref h2) (C := RX8) (T := TX8) (N := 13) hx hb hg uX8 hown hK.1 hP 0 rfl rfl 2 (by decide) (hg _ gw_942) (fun _ h9 => h9) rfl dX8_undo_43 ?_
        refine lv_sipush (v := 344) hx hb dX8_undo_46 (by decide) ?_
        refine lv_aload_n hx hb dX8_undo_49 rfl (lv_at hl 0 rfl) ?_
        refine va_get (D := D) (ci := 8) (v := .int aSm) (C := RX8) (T := TX8) (N := 13) hx hb hg uX8 hown hK.1 hP 0 rfl rfl 3 (by decide) (hg _ gw_943) (fun _ h9 => h9) rfl dX8_undo_50 ?_
        refine lv_imul hx hb dX8_undo_53 ?_
        refine lv_iload_n hx hb dX8_undo_54 rfl (lv_at hl 1 rfl) ?_
        refine lv_iadd hx hb dX8_undo_55 ?_
        obtain ⟨v2, h⟩ := rd_some h
        refine va_iald hx hb hK.1 hP 2 0 rfl rfl v2 dX8_undo_56 ?_
        obtain ⟨v3, h⟩ := rd_some h
        obtain ⟨aS_4, eaS_4, h⟩ := kl_some h
        refine va_iast hx hb hK.1 hP hD hS 1 0 rfl rfl v3 dX8_undo_57 (fun H locs hP hD hS => ?_)
        have hP : va_P D vwCl (wX8 cI h0 h1 h2 h3 h4 h5 aTh aSm aLn aAt aWe aRm aBm aHa aS_4 aSv aCm aRd aBy) H := by rw [eaS_4]; exact hP
        have hD : va_D A (wX8 cI h0 h1 h2 h3 h4 h5 aTh aSm aLn aAt aWe aRm aBm aHa aS_4 aSv aCm aRd aBy) := by rw [eaS_4]; exact hD
        obtain ⟨x1_5, ex1_5, h⟩ := kl_some h
        refine lv_iinc (v := x1_5) (lv' := [(1, .int x1_5), (0, .ref h0)]) hx hb dX8_undo_58 hl (k := 1) rfl (by rw [ex1_5]; rfl) (by decide) rfl (fun ls hl => ?_)
        refine lv_goto (tgt := 30) hx hb dX8_undo_61 (by decide) ?_
        exact ih x1_5 aTh aSm aS_4 h H locs hP hD hS ls (lv_sub hl [1, 0] rfl)
  have hl : lv_has ls 2 [(0, .ref h0)] := hl
  have hP : va_P D vwCl (wX8 cI h0 h1 h2 h3 h4 h5 aTh aSm aLn aAt aWe aRm aBm aHa aS aSv aCm aRd aBy) s.heap := hP
  have hD : va_D A (wX8 cI h0 h1 h2 h3 h4 h5 aTh aSm aLn aAt aWe aRm aBm aHa aS aSv aCm aRd aBy) := hD
  show W p l e rm_X8_undo s m args below meth c s.heap [] 0 0 (FI D below args s (wX8 cI h0 h1 h2 h3 h4 h5 (aTh') (aSm') aLn aAt aWe aRm aBm aHa (aS') aSv aCm aRd aBy) r A) (F0 m 0 ls [])
  unfold f_X8_undo at h
  have hmain : ∀ (H : Heap) (locs : List Loc), va_P D vwCl (wX8 cI h0 h1 h2 h3 h4 h5 aTh aSm aLn aAt aWe aRm aBm aHa aS aSv aCm aRd aBy) H → va_S A s.heap H locs → W p l e rm_X8_undo s m args below meth c H locs 0 0 (FI D below args s (wX8 cI h0 h1 h2 h3 h4 h5 (aTh') (aSm') aLn aAt aWe aRm aBm aHa (aS') aSv aCm aRd aBy) r A) (F0 m 0 ls []) := by
    intro H locs hP hS
    refine lv_aload_n hx hb dX8_undo_0 rfl (lv_at hl 0 rfl) ?_
    refine lv_iconst (v := 0) hx hb dX8_undo_1 (by decide) ?_
    refine va_put (D := D) (ci := 8) (v := .int 0) (ty := tyX8 0) (C := RX8) (T := TX8) (N := 13) hx hb hg uX8 tyX8 tyX8_ok nmX8 hown hK.1 hP hD hS 0 rfl rfl 0 (by decide) (hg _ gw_940) (fun _ h9 => h9) rfl (tyX8_ok 0 (by decide)) rfl rfl (Nat.le_of_ble_eq_true rfl) dX8_undo_2 (fun H locs hP hD hS => ?_)
    have hP : va_P D vwCl (wX8 cI h0 h1 h2 h3 h4 h5 (0) aSm aLn aAt aWe aRm aBm aHa aS aSv aCm aRd aBy) H := hP
    have hD : va_D A (wX8 cI h0 h1 h2 h3 h4 h5 (0) aSm aLn aAt aWe aRm aBm aHa aS aSv aCm aRd aBy) := hD
    refine lv_aload_n hx hb dX8_undo_5 rfl (lv_at hl 0 rfl) ?_
    refine va_get (D := D) (ci := 8) (v := .int aSm) (C := RX8) (T := TX8) (N := 13) hx hb hg uX8 hown hK.1 hP 0 rfl rfl 3 (by decide) (hg _ gw_943) (fun _ h9 => h9) rfl dX8_undo_6 ?_
    refine lv_if_ne (tgt := 18) hx hb dX8_undo_9 (by decide) (fun q6 => ?_) (fun q6 => ?_)
    · replace h := if_some q6 h
      refine lv_aload_n hx hb dX8_undo_18 rfl (lv_at hl 0 rfl) ?_
      refine lv_dup hx hb dX8_undo_19 rfl ?_
      refine va_get (D := D) (ci := 8) (v := .int aSm) (C := RX8) (T := TX8) (N := 13) hx hb hg uX8 hown hK.1 hP 0 rfl rfl 3 (by decide) (hg _ gw_943) (fun _ h9 => h9) rfl dX8_undo_20 ?_
      refine lv_iconst (v := 1) hx hb dX8_undo_23 (by decide) ?_
      refine lv_isub hx hb dX8_undo_24 ?_
      obtain ⟨aSm_7, eaSm_7, h⟩ := kl_some h
      refine nm_i eaSm_7 ?_
      refine va_put (D := D) (ci := 8) (v := .int aSm_7) (ty := tyX8 3) (C := RX8) (T := TX8) (N := 13) hx hb hg uX8 tyX8 tyX8_ok nmX8 hown hK.1 hP hD hS 0 rfl rfl 3 (by decide) (hg _ gw_943) (fun _ h9 => h9) rfl (tyX8_ok 3 (by decide)) rfl rfl (Nat.le_of_ble_eq_true rfl) dX8_undo_25 (fun H locs hP hD hS => ?_)
      have hP : va_P D vwCl (wX8 cI h0 h1 h2 h3 h4 h5 (0) aSm_7 aLn aAt aWe aRm aBm aHa aS aSv aCm aRd aBy) H := hP
      have hD : va_D A (wX8 cI h0 h1 h2 h3 h4 h5 (0) aSm_7 aLn aAt aWe aRm aBm aHa aS aSv aCm aRd aBy) := hD
      refine lv_iconst (v := 0) hx hb dX8_undo_28 (by decide) ?_
      refine lv_istore_n (lv' := [(1, .int 0), (0, .ref h0)]) hx hb dX8_undo_29 rfl hl (by decide) rfl (fun ls hl => ?_)
      exact c_30 Z 0 (0) aSm_7 aS h H locs hP hD hS ls (lv_sub hl [1, 0] rfl)
    · replace h := it_some q6 h
      refine lv_aload_n hx hb dX8_undo_12 rfl (lv_at hl 0 rfl) ?_
      refine lv_iconst (v := 1) hx hb dX8_undo_13 (by decide) ?_
      obtain ⟨⟨r8, aTh_8⟩, ec8, h⟩ := bd_some h
      refine cV_i (As := [.int 1]) (rest := []) (wc := (wX8 cI h0 h1 h2 h3 h4 h5 (0) aSm aLn aAt aWe aRm aBm aHa aS aSv aCm aRd aBy)) (wc' := (wX8 cI h0 h1 h2 h3 h4 h5 aTh_8 aSm aLn aAt aWe aRm aBm aHa aS aSv aCm aRd aBy)) hx hb hml hown hg hK hP hD hS hA hl.1 (k_X8_fails l D cI cS cL Z h0 h1 h2 h3 h4 h5 1 (0) aSm aLn aAt aWe aRm aBm aHa aS aSv aCm aRd aBy ec8) gm_X8_fails gw_994 ⟨rfl, rfl, by decide, by decide⟩ ⟨Nat.zero_le _, Nat.zero_le _⟩ [0, 1, 2, 3, 4, 5] rfl rfl rfl rfl rfl rfl rfl rfl (Nat.le_of_ble_eq_true rfl) dX8_undo_14 (fun H locs hP hD hS => ?_)
      have hP : va_P D vwCl (wX8 cI h0 h1 h2 h3 h4 h5 aTh_8 aSm aLn aAt aWe aRm aBm aHa aS aSv aCm aRd aBy) H := hP
      have hD : va_D A (wX8 cI h0 h1 h2 h3 h4 h5 aTh_8 aSm aLn aAt aWe aRm aBm aHa aS aSv aCm aRd aBy) := hD
      cases h
      exact ret_i hx hb hr hlocks hP hD hS dX8_undo_17 rfl
  exact hmain _ _ hP hS
abbrev rm_X8_savedStates : Room := { frames := 0, cells := 0, slots := 0, locals := 0 }
def f_X8_savedStates (Z : Nat) (aTh : Int32) (aSm : Int32) : Option (Int32 × Int32) :=
  some (aSm, (0))
set_option maxRecDepth 100000 in
set_option maxHeartbeats 4000000 in
theorem k_X8_savedStates (l : Launch) (D : va_G) (cI cS cL : ClassId) (Z : Nat) (h0 : Nat) (h1 : Nat) (h2 : Nat) (h3 : Nat) (h4 : Nat) (h5 : Nat) (aTh : Int32) (aSm : Int32) (aLn : Int32) (aAt : Int32) (aWe : Int32) (aRm : Int32) (aBm : Int32) (aHa : Int64) (aS : Nat → Int32) (aSv : Nat → Int32) (aCm : Nat → Int32) (aRd : Nat → Int32) (aBy : Nat → Int32) {r : Int32} {aTh' : Int32} (h : f_X8_savedStates Z aTh aSm = some (r, aTh')) : CI l yX8_savedStates cX8_savedStates 1 (some .int) rm_X8_savedStates D cI cS cL [.ref h0] (wX8 cI h0 h1 h2 h3 h4 h5 aTh aSm aLn aAt aWe aRm aBm aHa aS aSv aCm aRd aBy) (wX8 cI h0 h1 h2 h3 h4 h5 (aTh') aSm aLn aAt aWe aRm aBm aHa aS aSv aCm aRd aBy) r := by
  refine ent_i (by decide +kernel) (Nat.le_of_ble_eq_true rfl) ?_
  intro p e s m args below meth c A ls hx hb hr hml hlocks hg hown hK hP hD hS hA hl
  have hown : s.vm.findClass RX8 = some m.cls := hown
  have hl : lv_has ls 1 [(0, .ref h0)] := hl
  have hP : va_P D vwCl (wX8 cI h0 h1 h2 h3 h4 h5 aTh aSm aLn aAt aWe aRm aBm aHa aS aSv aCm aRd aBy) s.heap := hP
  have hD : va_D A (wX8 cI h0 h1 h2 h3 h4 h5 aTh aSm aLn aAt aWe aRm aBm aHa aS aSv aCm aRd aBy) := hD
  show W p l e rm_X8_savedStates s m args below meth c s.heap [] 0 0 (FI D below args s (wX8 cI h0 h1 h2 h3 h4 h5 (aTh') aSm aLn aAt aWe aRm aBm aHa aS aSv aCm aRd aBy) r A) (F0 m 0 ls [])
  unfold f_X8_savedStates at h
  have hmain : ∀ (H : Heap) (locs : List Loc), va_P D vwCl (wX8 cI h0 h1 h2 h3 h4 h5 aTh aSm aLn aAt aWe aRm aBm aHa aS aSv aCm aRd aBy) H → va_S A s.heap H locs → W p l e rm_X8_savedStates s m args below meth c H locs 0 0 (FI D below args s (wX8 cI h0 h1 h2 h3 h4 h5 (aTh') aSm aLn aAt aWe aRm aBm aHa aS aSv aCm aRd aBy) r A) (F0 m 0 ls []) := by
    intro H locs hP hS
    refine lv_aload_n hx hb dX8_savedStates_0 rfl (lv_at hl 0 rfl) ?_
    refine lv_iconst (v := 0) hx hb dX8_savedStates_1 (by decide) ?_
    refine va_put (D := D) (ci := 8) (v := .int 0) (ty := tyX8 0) (C := RX8) (T := TX8) (N := 13) hx hb hg uX8 tyX8 tyX8_ok nmX8 hown hK.1 hP hD hS 0 rfl rfl 0 (by decide) (hg _ gw_940) (fun _ h9 => h9) rfl (tyX8_ok 0 (by decide)) rfl rfl (Nat.le_of_ble_eq_true rfl) dX8_savedStates_2 (fun H locs hP hD hS => ?_)
    have hP : va_P D vwCl (wX8 cI h0 h1 h2 h3 h4 h5 (0) aSm aLn aAt aWe aRm aBm aHa aS aSv aCm aRd aBy) H := hP
    have hD : va_D A (wX8 cI h0 h1 h2 h3 h4 h5 (0) aSm aLn aAt aWe aRm aBm aHa aS aSv aCm aRd aBy) := hD
    refine lv_aload_n hx hb dX8_savedStates_5 rfl (lv_at hl 0 rfl) ?_
    refine va_get (D := D) (ci := 8) (v := .int aSm) (C := RX8) (T := TX8) (N := 13) hx hb hg uX8 hown hK.1 hP 0 rfl rfl 3 (by decide) (hg _ gw_943) (fun _ h9 => h9) rfl dX8_savedStates_6 ?_
    cases h
    exact ret_i hx hb hr hlocks hP hD hS dX8_savedStates_9 rfl
  exact hmain _ _ hP hS
abbrev rm_X8_hashes : Room := { frames := 0, cells := 0, slots := 0, locals := 0 }
def f_X8_hashes (Z : Nat) (p1 : Int32) (aHa : Int64) : Option (Int64) :=
  kl ((31 * aHa) + ((p1 : Int32).toInt64)) fun aHa_1 =>
  some aHa_1
set_option maxRecDepth 100000 in
set_option maxHeartbeats 4000000 in
theorem k_X8_hashes (l : Launch) (D : va_G) (cI cS cL : ClassId) (Z : Nat) (h0 : Nat) (h1 : Nat) (h2 : Nat) (h3 : Nat) (h4 : Nat) (h5 : Nat) (p1 : Int32) (aTh : Int32) (aSm : Int32) (aLn : Int32) (aAt : Int32) (aWe : Int32) (aRm : Int32) (aBm : Int32) (aHa : Int64) (aS : Nat → Int32) (aSv : Nat → Int32) (aCm : Nat → Int32) (aRd : Nat → Int32) (aBy : Nat → Int32) {aHa' : Int64} (h : f_X8_hashes Z p1 aHa = some aHa') : CV l yX8_hashes cX8_hashes 2 none rm_X8_hashes D cI cS cL [.ref h0, .int p1] (wX8 cI h0 h1 h2 h3 h4 h5 aTh aSm aLn aAt aWe aRm aBm aHa aS aSv aCm aRd aBy) (wX8 cI h0 h1 h2 h3 h4 h5 aTh aSm aLn aAt aWe aRm aBm (aHa') aS aSv aCm aRd aBy) := by
  refine ent_v (by decide +kernel) (Nat.le_of_ble_eq_true rfl) ?_
  intro p e s m args below meth c A ls hx hb hr hml hlocks hg hown hK hP hD hS hA hl
  have hown : s.vm.findClass RX8 = some m.cls := hown
  have hl : lv_has ls 2 [(0, .ref h0), (1, .int p1)] := hl
  have hP : va_P D vwCl (wX8 cI h0 h1 h2 h3 h4 h5 aTh aSm aLn aAt aWe aRm aBm aHa aS aSv aCm aRd aBy) s.heap := hP
  have hD : va_D A (wX8 cI h0 h1 h2 h3 h4 h5 aTh aSm aLn aAt aWe aRm aBm aHa aS aSv aCm aRd aBy) := hD
  show W p l e rm_X8_hashes s m args below meth c s.heap [] 0 0 (FV D below args s (wX8 cI h0 h1 h2 h3 h4 h5 aTh aSm aLn aAt aWe aRm aBm (aHa') aS aSv aCm aRd aBy) A) (F0 m 0 ls [])
  unfold f_X8_hashes at h
  have hmain : ∀ (H : Heap) (locs : List Loc), va_P D vwCl (wX8 cI h0 h1 h2 h3 h4 h5 aTh aSm aLn aAt aWe aRm aBm aHa aS aSv aCm aRd aBy) H → va_S A s.heap H locs → W p l e rm_X8_hashes s m args below meth c H locs 0 0 (FV D below args s (wX8 cI h0 h1 h2 h3 h4 h5 aTh aSm aLn aAt aWe aRm aBm (aHa') aS aSv aCm aRd aBy) A) (F0 m 0 ls []) := by
    intro H locs hP hS
    refine lv_aload_n hx hb dX8_hashes_0 rfl (lv_at hl 0 rfl) ?_
    refine lv_ldc2 (v := 31) hx hb hown (hg _ gw_1328) dX8_hashes_1 ?_
    refine lv_aload_n hx hb dX8_hashes_4 rfl (lv_at hl 0 rfl) ?_
    refine va_get (D := D) (ci := 8) (v := .long aHa) (C := RX8) (T := TX8) (N := 13) hx hb hg uX8 hown hK.1 hP 0 rfl rfl 12 (by decide) (hg _ gw_952) (fun _ h9 => h9) rfl dX8_hashes_5 ?_
    refine lv_lmul hx hb dX8_hashes_8 ?_
    refine lv_iload_n hx hb dX8_hashes_9 rfl (lv_at hl 1 rfl) ?_
    refine lv_i2l (v := (p1 : Int32).toInt64) hx hb dX8_hashes_10 rfl ?_
    refine lv_ladd hx hb dX8_hashes_11 ?_
    obtain ⟨aHa_1, eaHa_1, h⟩ := kl_some h
    refine nm_l eaHa_1 ?_
    refine va_put (D := D) (ci := 8) (v := .long aHa_1) (ty := tyX8 12) (C := RX8) (T := TX8) (N := 13) hx hb hg uX8 tyX8 tyX8_ok nmX8 hown hK.1 hP hD hS 0 rfl rfl 12 (by decide) (hg _ gw_952) (fun _ h9 => h9) rfl (tyX8_ok 12 (by decide)) rfl rfl (Nat.le_of_ble_eq_true rfl) dX8_hashes_12 (fun H locs hP hD hS => ?_)
    have hP : va_P D vwCl (wX8 cI h0 h1 h2 h3 h4 h5 aTh aSm aLn aAt aWe aRm aBm aHa_1 aS aSv aCm aRd aBy) H := hP
    have hD : va_D A (wX8 cI h0 h1 h2 h3 h4 h5 aTh aSm aLn aAt aWe aRm aBm aHa_1 aS aSv aCm aRd aBy) := hD
    cases h
    exact ret_v hx hb hr hlocks hP hD hS dX8_hashes_15
  exact hmain _ _ hP hS
abbrev rm_X8_digest : Room := { frames := 2, cells := 0, slots := 0, locals := 43 }
def f_X8_digest_b205 (Z : Nat) (aS : Nat → Int32) (rec : Int32 → Int32 → Int64 → Option (Int64 × Int32 × Int64)) (x1 : Int32) (aTh : Int32) (aHa : Int64) : Option (Int64 × Int32 × Int64) :=
      rd 10 344 (
      if (aS (Int32.toNatClampNeg 10)) ≤ x1 then
        some (aHa, aTh, aHa)
      else
        rd (20 + x1) 344 (
        (f_X8_hashes Z (aS (Int32.toNatClampNeg (20 + x1))) aHa).bind fun aHa_4 =>
        kl (x1 + 1) fun x1_5 =>
        rec x1_5 aTh aHa_4))
def f_X8_digest_l205 (Z : Nat) (aS : Nat → Int32) : Nat → Int32 → Int32 → Int64 → Option (Int64 × Int32 × Int64)
  | 0, _, _, _ => none
  | n + 1, x1, aTh, aHa => f_X8_digest_b205 Z aS (f_X8_digest_l205 Z aS n) x1 aTh aHa
def f_X8_digest_b163 (Z : Nat) (aS : Nat → Int32) (rec : Int32 → Int32 → Int64 → Option (Int64 × Int32 × Int64)) (x1 : Int32) (aTh : Int32) (aHa : Int64) : Option (Int64 × Int32 × Int64) :=
      rd 0 344 (
      if (aS (Int32.toNatClampNeg 0)) ≤ x1 then
        rd 10 344 (
        (f_X8_hashes Z (aS (Int32.toNatClampNeg 10)) aHa).bind fun aHa_9 =>
        f_X8_digest_l205 Z aS Z 0 aTh aHa_9)
      else
        rd (80 + x1) 344 (
        (f_X8_hashes Z (aS (Int32.toNatClampNeg (80 + x1))) aHa).bind fun aHa_11 =>
        kl (x1 + 1) fun x1_12 =>
        rec x1_12 aTh aHa_11))
def f_X8_digest_l163 (Z : Nat) (aS : Nat → Int32) : Nat → Int32 → Int32 → Int64 → Option (Int64 × Int32 × Int64)
  | 0, _, _, _ => none
  | n + 1, x1, aTh, aHa => f_X8_digest_b163 Z aS (f_X8_digest_l163 Z aS n) x1 aTh aHa
def f_X8_digest_b137 (Z : Nat) (aS : Nat → Int32) (rec : Int32 → Int32 → Int64 → Option (Int64 × Int32 × Int64)) (x1 : Int32) (aTh : Int32) (aHa : Int64) : Option (Int64 × Int32 × Int64) :=
      if 4 ≤ x1 then
        f_X8_digest_l163 Z aS Z 0 aTh aHa
      else
        rd (12 + x1) 344 (
        (f_X8_hashes Z (aS (Int32.toNatClampNeg (12 + x1))) aHa).bind fun aHa_15 =>
        kl (x1 + 1) fun x1_16 =>
        rec x1_16 aTh aHa_15)
def f_X8_digest_l137 (Z : Nat) (aS : Nat → Int32) : Nat → Int32 → Int32 → Int64 → Option (Int64 × Int32 × Int64)
  | 0, _, _, _ => none
  | n + 1, x1, aTh, aHa => f_X8_digest_b137 Z aS (f_X8_digest_l137 Z aS n) x1 aTh aHa
def f_X8_digest (Z : Nat) (aTh : Int32) (aHa : Int64) (aS : Nat → Int32) : Option (Int64 × Int32 × Int64) :=
  rd 0 344 (
  (f_X8_hashes Z (aS (Int32.toNatClampNeg 0)) (8134)).bind fun aHa_18 =>
  rd 1 344 (
  (f_X8_hashes Z (aS (Int32.toNatClampNeg 1)) aHa_18).bind fun aHa_20 =>
  rd 3 344 (
  (f_X8_hashes Z (aS (Int32.toNatClampNeg 3)) aHa_20).bind fun aHa_22 =>
  rd 2 344 (
  (f_X8_hashes Z (aS (Int32.toNatClampNeg 2)) aHa_22).bind fun aHa_24 =>
  rd 4 344 (
  (f_X8_hashes Z (aS (Int32.toNatClampNeg 4)) aHa_24).bind fun aHa_26 =>
  rd 5 344 (
  (f_X8_hashes Z (aS (Int32.toNatClampNeg 5)) aHa_26).bind fun aHa_28 =>
  rd 6 344 (
  (f_X8_hashes Z (aS (Int32.toNatClampNeg 6)) aHa_28).bind fun aHa_30 =>
  rd 7 344 (
  (f_X8_hashes Z (aS (Int32.toNatClampNeg 7)) aHa_30).bind fun aHa_32 =>
  rd 0 344 (
  (f_X8_lineAt Z (aS (Int32.toNatClampNeg 0)) aS).bind fun r34 =>
  (f_X8_hashes Z (r34 + 1) aHa_32).bind fun aHa_35 =>
  rd 1 344 (
  (f_X8_column Z (aS (Int32.toNatClampNeg 1)) aS).bind fun r37 =>
  (f_X8_hashes Z r37 aHa_35).bind fun aHa_38 =>
  rd 9 344 (
  (f_X8_hashes Z (aS (Int32.toNatClampNeg 9)) aHa_38).bind fun aHa_40 =>
  f_X8_digest_l137 Z aS Z 0 (0) aHa_40)))))))))))
set_option maxRecDepth 100000 in
set_option maxHeartbeats 4000000 in
theorem k_X8_digest (l : Launch) (D : va_G) (cI cS cL : ClassId) (Z : Nat) (h0 : Nat) (h1 : Nat) (h2 : Nat) (h3 : Nat) (h4 : Nat) (h5 : Nat) (aTh : Int32) (aSm : Int32) (aLn : Int32) (aAt : Int32) (aWe : Int32) (aRm : Int32) (aBm : Int32) (aHa : Int64) (aS : Nat → Int32) (aSv : Nat → Int32) (aCm : Nat → Int32) (aRd : Nat → Int32) (aBy : Nat → Int32) {r : Int64} {aTh' : Int32} {aHa' : Int64} (h : f_X8_digest Z aTh aHa aS = some (r, aTh', aHa')) : CJ l yX8_digest cX8_digest 2 (some .long) rm_X8_digest D cI cS cL [.ref h0] (wX8 cI h0 h1 h2 h3 h4 h5 aTh aSm aLn aAt aWe aRm aBm aHa aS aSv aCm aRd aBy) (wX8 cI h0 h1 h2 h3 h4 h5 (aTh') aSm aLn aAt aWe aRm aBm (aHa') aS aSv aCm aRd aBy) r := by
  refine ent_j (by decide +kernel) (Nat.le_of_ble_eq_true rfl) ?_
  intro p e s m args below meth c A ls hx hb hr hml hlocks hg hown hK hP hD hS hA hl
  have hown : s.vm.findClass RX8 = some m.cls := hown
  have c_205 : ∀ (n : Nat) (x1 : Int32) (aTh : Int32) (aHa : Int64), f_X8_digest_l205 Z aS n x1 aTh aHa = some (r, aTh', aHa') → ∀ (H : Heap) (locs : List Loc), va_P D vwCl (wX8 cI h0 h1 h2 h3 h4 h5 aTh aSm aLn aAt aWe aRm aBm aHa aS aSv aCm aRd aBy) H → va_D A (wX8 cI h0 h1 h2 h3 h4 h5 aTh aSm aLn aAt aWe aRm aBm aHa aS aSv aCm aRd aBy) → va_S A s.heap H locs → ∀ ls : Array Slot, lv_has ls 2 [(0, .ref h0), (1, .int x1)] → W p l e rm_X8_digest s m args below meth c H locs 0 0 (FJ D below args s (wX8 cI h0 h1 h2 h3 h4 h5 (aTh') aSm aLn aAt aWe aRm aBm (aHa') aS aSv aCm aRd aBy) r A) (F0 m 205 ls []) := by
    intro n
    induction n with
    | zero => intro x1 aTh aHa h; exact no_some h
    | succ n ih =>
      intro x1 aTh aHa h H locs hP hD hS ls hl
      have h : f_X8_digest_b205 Z aS (f_X8_digest_l205 Z aS n) x1 aTh aHa = some (r, aTh', aHa') := h
      unfold f_X8_digest_b205 at h
      refine lv_iload_n hx hb dX8_digest_205 rfl (lv_at hl 1 rfl) ?_
      refine lv_aload_n hx hb dX8_digest_206 rfl (lv_at hl 0 rfl) ?_
      refine va_get (D := D) (ci := 8) (v := .ref h1) (C := RX8) (T := TX8) (N := 13) hx hb hg uX8 hown hK.1 hP 0 rfl rfl 1 (by decide) (hg _ gw_941) (fun _ h9 => h9) rfl dX8_digest_207 ?_
      refine lv_bipush (v := 10) hx hb dX8_digest_210 (by decide) ?_
      obtain ⟨v1, h⟩ := rd_some h
      refine va_iald hx hb hK.1 hP 1 0 rfl rfl v1 dX8_digest_212 ?_
      refine lv_icmp_ge (tgt := 235) hx hb dX8_digest_213 (by decide) (fun q2 => ?_) (fun q2 => ?_)
      · replace h := it_some q2 h
        refine lv_aload_n hx hb dX8_digest_235 rfl (lv_at hl 0 rfl) ?_
        refine va_get (D := D) (ci := 8) (v := .long aHa) (C := RX8) (T := TX8) (N := 13) hx hb hg uX8 hown hK.1 hP 0 rfl rfl 12 (by decide) (hg _ gw_952) (fun _ h9 => h9) rfl dX8_digest_236 ?_
        cases h
        exact ret_j hx hb hr hlocks hP hD hS dX8_digest_239 rfl
      · replace h := if_some q2 h
        refine lv_aload_n hx hb dX8_digest_216 rfl (lv_at hl 0 rfl) ?_
        refine lv_aload_n hx hb dX8_digest_217 rfl (lv_at hl 0 rfl) ?_
        refine va_get (D := D) (ci := 8) (v := .ref h1) (C := RX8) (T := TX8) (N := 13) hx hb hg uX8 hown hK.1 hP 0 rfl rfl 1 (by decide) (hg _ gw_941) (fun _ h9 => h9) rfl dX8_digest_218 ?_
        refine lv_bipush (v := 20) hx hb dX8_digest_221 (by decide) ?_
        refine lv_iload_n hx hb dX8_digest_223 rfl (lv_at hl 1 rfl) ?_
        refine lv_iadd hx hb dX8_digest_224 ?_
        obtain ⟨v3, h⟩ := rd_some h
        refine va_iald hx hb hK.1 hP 1 0 rfl rfl v3 dX8_digest_225 ?_
        obtain ⟨aHa_4, ec4, h⟩ := bd_some h
        refine cV_v (As := [.int (aS (Int32.toNatClampNeg (20 + x1)))]) (rest := []) (wc := (wX8 cI h0 h1 h2 h3 h4 h5 aTh aSm aLn aAt aWe aRm aBm aHa aS aSv aCm aRd aBy)) (wc' := (wX8 cI h0 h1 h2 h3 h4 h5 aTh aSm aLn aAt aWe aRm aBm aHa_4 aS aSv aCm aRd aBy)) hx hb hml hown hg hK hP hD hS hA hl.1 (k_X8_hashes l D cI cS cL Z h0 h1 h2 h3 h4 h5 (aS (Int32.toNatClampNeg (20 + x1))) aTh aSm aLn aAt aWe aRm aBm aHa aS aSv aCm aRd aBy ec4) gm_X8_hashes gw_1324 ⟨rfl, rfl, by decide, by decide⟩ ⟨Nat.zero_le _, Nat.zero_le _⟩ [0, 1, 2, 3, 4, 5] rfl rfl rfl rfl rfl rfl rfl rfl (Nat.le_of_ble_eq_true rfl) dX8_digest_226 (fun H locs hP hD hS => ?_)
        have hP : va_P D vwCl (wX8 cI h0 h1 h2 h3 h4 h5 aTh aSm aLn aAt aWe aRm aBm aHa_4 aS aSv aCm aRd aBy) H := hP
        have hD : va_D A (wX8 cI h0 h1 h2 h3 h4 h5 aTh aSm aLn aAt aWe aRm aBm aHa_4 aS aSv aCm aRd aBy) := hD
        obtain ⟨x1_5, ex1_5, h⟩ := kl_some h
        refine lv_iinc (v := x1_5) (lv' := [(1, .int x1_5), (0, .ref h0)]) hx hb dX8_digest_229 hl (k := 1) rfl (by rw [ex1_5]; rfl) (by decide) rfl (fun ls hl => ?_)
        refine lv_goto (tgt := 205) hx hb dX8_digest_232 (by decide) ?_
        exact ih x1_5 aTh aHa_4 h H locs hP hD hS ls (lv_sub hl [1, 0] rfl)
  have c_163 : ∀ (n : Nat) (x1 : Int32) (aTh : Int32) (aHa : Int64), f_X8_digest_l163 Z aS n x1 aTh aHa = some (r, aTh', aHa') → ∀ (H : Heap) (locs : List Loc), va_P D vwCl (wX8 cI h0 h1 h2 h3 h4 h5 aTh aSm aLn aAt aWe aRm aBm aHa aS aSv aCm aRd aBy) H → va_D A (wX8 cI h0 h1 h2 h3 h4 h5 aTh aSm aLn aAt aWe aRm aBm aHa aS aSv aCm aRd aBy) → va_S A s.heap H locs → ∀ ls : Array Slot, lv_has ls 2 [(0, .ref h0), (1, .int x1)] → W p l e rm_X8_digest s m args below meth c H locs 0 0 (FJ D below args s (wX8 cI h0 h1 h2 h3 h4 h5 (aTh') aSm aLn aAt aWe aRm aBm (aHa') aS aSv aCm aRd aBy) r A) (F0 m 163 ls []) := by
    intro n
    induction n with
    | zero => intro x1 aTh aHa h; exact no_some h
    | succ n ih =>
      intro x1 aTh aHa h H locs hP hD hS ls hl
      have h : f_X8_digest_b163 Z aS (f_X8_digest_l163 Z aS n) x1 aTh aHa = some (r, aTh', aHa') := h
      unfold f_X8_digest_b163 at h
      refine lv_iload_n hx hb dX8_digest_163 rfl (lv_at hl 1 rfl) ?_
      refine lv_aload_n hx hb dX8_digest_164 rfl (lv_at hl 0 rfl) ?_
      refine va_get (D := D) (ci := 8) (v := .ref h1) (C := RX8) (T := TX8) (N := 13) hx hb hg uX8 hown hK.1 hP 0 rfl rfl 1 (by decide) (hg _ gw_941) (fun _ h9 => h9) rfl dX8_digest_165 ?_
      refine lv_iconst (v := 0) hx hb dX8_digest_168 (by decide) ?_
      obtain ⟨v6, h⟩ := rd_some h
      refine va_iald hx hb hK.1 hP 1 0 rfl rfl v6 dX8_digest_169 ?_
      refine lv_icmp_ge (tgt := 192) hx hb dX8_digest_170 (by decide) (fun q7 => ?_) (fun q7 => ?_)
      · replace h := it_some q7 h
        refine lv_aload_n hx hb dX8_digest_192 rfl (lv_at hl 0 rfl) ?_
        refine lv_aload_n hx hb dX8_digest_193 rfl (lv_at hl 0 rfl) ?_
        refine va_get (D := D) (ci := 8) (v := .ref h1) (C := RX8) (T := TX8) (N := 13) hx hb hg uX8 hown hK.1 hP 0 rfl rfl 1 (by decide) (hg _ gw_941) (fun _ h9 => h9) rfl dX8_digest_194 ?_
        refine lv_bipush (v := 10) hx hb dX8_digest_197 (by decide) ?_
        obtain ⟨v8, h⟩ := rd_some h
        refine va_iald hx hb hK.1 hP 1 0 rfl rfl v8 dX8_digest_199 ?_
        obtain ⟨aHa_9, ec9, h⟩ := bd_some h
        refine cV_v (As := [.int (aS (Int32.toNatClampNeg 10))]) (rest := []) (wc := (wX8 cI h0 h1 h2 h3 h4 h5 aTh aSm aLn aAt aWe aRm aBm aHa aS aSv aCm aRd aBy)) (wc' := (wX8 cI h0 h1 h2 h3 h4 h5 aTh aSm aLn aAt aWe aRm aBm aHa_9 aS aSv aCm aRd aBy)) hx hb hml hown hg hK hP hD hS hA hl.1 (k_X8_hashes l D cI cS cL Z h0 h1 h2 h3 h4 h5 (aS (Int32.toNatClampNeg 10)) aTh aSm aLn aAt aWe aRm aBm aHa aS aSv aCm aRd aBy ec9) gm_X8_hashes gw_1324 ⟨rfl, rfl, by decide, by decide⟩ ⟨Nat.zero_le _, Nat.zero_le _⟩ [0, 1, 2, 3, 4, 5] rfl rfl rfl rfl rfl rfl rfl rfl (Nat.le_of_ble_eq_true rfl) dX8_digest_200 (fun H locs hP hD hS => ?_)
        have hP : va_P D vwCl (wX8 cI h0 h1 h2 h3 h4 h5 aTh aSm aLn aAt aWe aRm aBm aHa_9 aS aSv aCm aRd aBy) H := hP
        have hD : va_D A (wX8 cI h0 h1 h2 h3 h4 h5 aTh aSm aLn aAt aWe aRm aBm aHa_9 aS aSv aCm aRd aBy) := hD
        refine lv_iconst (v := 0) hx hb dX8_digest_203 (by decide) ?_
        refine lv_istore_n (lv' := [(1, .int 0), (0, .ref h0)]) hx hb dX8_digest_204 rfl hl (by decide) rfl (fun ls hl => ?_)
        exact c_205 Z 0 aTh aHa_9 h H locs hP hD hS ls (lv_sub hl [1, 0] rfl)
      · replace h := if_some q7 h
        refine lv_aload_n hx hb dX8_digest_173 rfl (lv_at hl 0 rfl) ?_
        refine lv_aload_n hx hb dX8_digest_174 rfl (lv_at hl 0 rfl) ?_
        refine va_get (D := D) (ci := 8) (v := .ref h1) (C := RX8) (T := TX8) (N := 13) hx hb hg uX8 hown hK.1 hP 0 rfl rfl 1 (by decide) (hg _ gw_941) (fun _ h9 => h9) rfl dX8_digest_175 ?_
        refine lv_bipush (v := 80) hx hb dX8_digest_178 (by decide) ?_
        refine lv_iload_n hx hb dX8_digest_180 rfl (lv_at hl 1 rfl) ?_
        refine lv_iadd hx hb dX8_digest_181 ?_
        obtain ⟨v10, h⟩ := rd_some h
        refine va_iald hx hb hK.1 hP 1 0 rfl rfl v10 dX8_digest_182 ?_
        obtain ⟨aHa_11, ec11, h⟩ := bd_some h
        refine cV_v (As := [.int (aS (Int32.toNatClampNeg (80 + x1)))]) (rest := []) (wc := (wX8 cI h0 h1 h2 h3 h4 h5 aTh aSm aLn aAt aWe aRm aBm aHa aS aSv aCm aRd aBy)) (wc' := (wX8 cI h0 h1 h2 h3 h4 h5 aTh aSm aLn aAt aWe aRm aBm aHa_11 aS aSv aCm aRd aBy)) hx hb hml hown hg hK hP hD hS hA hl.1 (k_X8_hashes l D cI cS cL Z h0 h1 h2 h3 h4 h5 (aS (Int32.toNatClampNeg (80 + x1))) aTh aSm aLn aAt aWe aRm aBm aHa aS aSv aCm aRd aBy ec11) gm_X8_hashes gw_1324 ⟨rfl, rfl, by decide, by decide⟩ ⟨Nat.zero_le _, Nat.zero_le _⟩ [0, 1, 2, 3, 4, 5] rfl rfl rfl rfl rfl rfl rfl rfl (Nat.le_of_ble_eq_true rfl) dX8_digest_183 (fun H locs hP hD hS => ?_)
        have hP : va_P D vwCl (wX8 cI h0 h1 h2 h3 h4 h5 aTh aSm aLn aAt aWe aRm aBm aHa_11 aS aSv aCm aRd aBy) H := hP
        have hD : va_D A (wX8 cI h0 h1 h2 h3 h4 h5 aTh aSm aLn aAt aWe aRm aBm aHa_11 aS aSv aCm aRd aBy) := hD
        obtain ⟨x1_12, ex1_12, h⟩ := kl_some h
        refine lv_iinc (v := x1_12) (lv' := [(1, .int x1_12), (0, .ref h0)]) hx hb dX8_digest_186 hl (k := 1) rfl (by rw [ex1_12]; rfl) (by decide) rfl (fun ls hl => ?_)
        refine lv_goto (tgt := 163) hx hb dX8_digest_189 (by decide) ?_
        exact ih x1_12 aTh aHa_11 h H locs hP hD hS ls (lv_sub hl [1, 0] rfl)
  have c_137 : ∀ (n : Nat) (x1 : Int32) (aTh : Int32) (aHa : Int64), f_X8_digest_l137 Z aS n x1 aTh aHa = some (r, aTh', aHa') → ∀ (H : Heap) (locs : List Loc), va_P D vwCl (wX8 cI h0 h1 h2 h3 h4 h5 aTh aSm aLn aAt aWe aRm aBm aHa aS aSv aCm aRd aBy) H → va_D A (wX8 cI h0 h1 h2 h3 h4 h5 aTh aSm aLn aAt aWe aRm aBm aHa aS aSv aCm aRd aBy) → va_S A s.heap H locs → ∀ ls : Array Slot, lv_has ls 2 [(0, .ref h0), (1, .int x1)] → W p l e rm_X8_digest s m args below meth c H locs 0 0 (FJ D below args s (wX8 cI h0 h1 h2 h3 h4 h5 (aTh') aSm aLn aAt aWe aRm aBm (aHa') aS aSv aCm aRd aBy) r A) (F0 m 137 ls []) := by
    intro n
    induction n with
    | zero => intro x1 aTh aHa h; exact no_some h
    | succ n ih =>
      intro x1 aTh aHa h H locs hP hD hS ls hl
      have h : f_X8_digest_b137 Z aS (f_X8_digest_l137 Z aS n) x1 aTh aHa = some (r, aTh', aHa') := h
      unfold f_X8_digest_b137 at h
      refine lv_iload_n hx hb dX8_digest_137 rfl (lv_at hl 1 rfl) ?_
      refine lv_iconst (v := 4) hx hb dX8_digest_138 (by decide) ?_
      refine lv_icmp_ge (tgt := 161) hx hb dX8_digest_139 (by decide) (fun q13 => ?_) (fun q13 => ?_)
      · replace h := it_some q13 h
        refine lv_iconst (v := 0) hx hb dX8_digest_161 (by decide) ?_
        refine lv_istore_n (lv' := [(1, .int 0), (0, .ref h0)]) hx hb dX8_digest_162 rfl hl (by decide) rfl (fun ls hl => ?_)
        exact c_163 Z 0 aTh aHa h H locs hP hD hS ls (lv_sub hl [1, 0] rfl)
      · replace h := if_some q13 h
        refine lv_aload_n hx hb dX8_digest_142 rfl (lv_at hl 0 rfl) ?_
        refine lv_aload_n hx hb dX8_digest_143 rfl (lv_at hl 0 rfl) ?_
        refine va_get (D := D) (ci := 8) (v := .ref h1) (C := RX8) (T := TX8) (N := 13) hx hb hg uX8 hown hK.1 hP 0 rfl rfl 1 (by decide) (hg _ gw_941) (fun _ h9 => h9) rfl dX8_digest_144 ?_
        refine lv_bipush (v := 12) hx hb dX8_digest_147 (by decide) ?_
        refine lv_iload_n hx hb dX8_digest_149 rfl (lv_at hl 1 rfl) ?_
        refine lv_iadd hx hb dX8_digest_150 ?_
        obtain ⟨v14, h⟩ := rd_some h
        refine va_iald hx hb hK.1 hP 1 0 rfl rfl v14 dX8_digest_151 ?_
        obtain ⟨aHa_15, ec15, h⟩ := bd_some h
        refine cV_v (As := [.int (aS (Int32.toNatClampNeg (12 + x1)))]) (rest := []) (wc := (wX8 cI h0 h1 h2 h3 h4 h5 aTh aSm aLn aAt aWe aRm aBm aHa aS aSv aCm aRd aBy)) (wc' := (wX8 cI h0 h1 h2 h3 h4 h5 aTh aSm aLn aAt aWe aRm aBm aHa_15 aS aSv aCm aRd aBy)) hx hb hml hown hg hK hP hD hS hA hl.1 (k_X8_hashes l D cI cS cL Z h0 h1 h2 h3 h4 h5 (aS (Int32.toNatClampNeg (12 + x1))) aTh aSm aLn aAt aWe aRm aBm aHa aS aSv aCm aRd aBy ec15) gm_X8_hashes gw_1324 ⟨rfl, rfl, by decide, by decide⟩ ⟨Nat.zero_le _, Nat.zero_le _⟩ [0, 1, 2, 3, 4, 5] rfl rfl rfl rfl rfl rfl rfl rfl (Nat.le_of_ble_eq_true rfl) dX8_digest_152 (fun H locs hP hD hS => ?_)
        have hP : va_P D vwCl (wX8 cI h0 h1 h2 h3 h4 h5 aTh aSm aLn aAt aWe aRm aBm aHa_15 aS aSv aCm aRd aBy) H := hP
        have hD : va_D A (wX8 cI h0 h1 h2 h3 h4 h5 aTh aSm aLn aAt aWe aRm aBm aHa_15 aS aSv aCm aRd aBy) := hD
        obtain ⟨x1_16, ex1_16, h⟩ := kl_some h
        refine lv_iinc (v := x1_16) (lv' := [(1, .int x1_16), (0, .ref h0)]) hx hb dX8_digest_155 hl (k := 1) rfl (by rw [ex1_16]; rfl) (by decide) rfl (fun ls hl => ?_)
        refine lv_goto (tgt := 137) hx hb dX8_digest_158 (by decide) ?_
        exact ih x1_16 aTh aHa_15 h H locs hP hD hS ls (lv_sub hl [1, 0] rfl)
  have hl : lv_has ls 2 [(0, .ref h0)] := hl
  have hP : va_P D vwCl (wX8 cI h0 h1 h2 h3 h4 h5 aTh aSm aLn aAt aWe aRm aBm aHa aS aSv aCm aRd aBy) s.heap := hP
  have hD : va_D A (wX8 cI h0 h1 h2 h3 h4 h5 aTh aSm aLn aAt aWe aRm aBm aHa aS aSv aCm aRd aBy) := hD
  show W p l e rm_X8_digest s m args below meth c s.heap [] 0 0 (FJ D below args s (wX8 cI h0 h1 h2 h3 h4 h5 (aTh') aSm aLn aAt aWe aRm aBm (aHa') aS aSv aCm aRd aBy) r A) (F0 m 0 ls [])
  unfold f_X8_digest at h
  have hmain : ∀ (H : Heap) (locs : List Loc), va_P D vwCl (wX8 cI h0 h1 h2 h3 h4 h5 aTh aSm aLn aAt aWe aRm aBm aHa aS aSv aCm aRd aBy) H → va_S A s.heap H locs → W p l e rm_X8_digest s m args below meth c H locs 0 0 (FJ D below args s (wX8 cI h0 h1 h2 h3 h4 h5 (aTh') aSm aLn aAt aWe aRm aBm (aHa') aS aSv aCm aRd aBy) r A) (F0 m 0 ls []) := by
    intro H locs hP hS
    refine lv_aload_n hx hb dX8_digest_0 rfl (lv_at hl 0 rfl) ?_
    refine lv_iconst (v := 0) hx hb dX8_digest_1 (by decide) ?_
    refine va_put (D := D) (ci := 8) (v := .int 0) (ty := tyX8 0) (C := RX8) (T := TX8) (N := 13) hx hb hg uX8 tyX8 tyX8_ok nmX8 hown hK.1 hP hD hS 0 rfl rfl 0 (by decide) (hg _ gw_940) (fun _ h9 => h9) rfl (tyX8_ok 0 (by decide)) rfl rfl (Nat.le_of_ble_eq_true rfl) dX8_digest_2 (fun H locs hP hD hS => ?_)
    have hP : va_P D vwCl (wX8 cI h0 h1 h2 h3 h4 h5 (0) aSm aLn aAt aWe aRm aBm aHa aS aSv aCm aRd aBy) H := hP
    have hD : va_D A (wX8 cI h0 h1 h2 h3 h4 h5 (0) aSm aLn aAt aWe aRm aBm aHa aS aSv aCm aRd aBy) := hD
    refine lv_aload_n hx hb dX8_digest_5 rfl (lv_at hl 0 rfl) ?_
    refine lv_ldc2 (v := 8134) hx hb hown (hg _ gw_1323) dX8_digest_6 ?_
    refine va_put (D := D) (ci := 8) (v := .long 8134) (ty := tyX8 12) (C := RX8) (T := TX8) (N := 13) hx hb hg uX8 tyX8 tyX8_ok nmX8 hown hK.1 hP hD hS 0 rfl rfl 12 (by decide) (hg _ gw_952) (fun _ h9 => h9) rfl (tyX8_ok 12 (by decide)) rfl rfl (Nat.le_of_ble_eq_true rfl) dX8_digest_9 (fun H locs hP hD hS => ?_)
    have hP : va_P D vwCl (wX8 cI h0 h1 h2 h3 h4 h5 (0) aSm aLn aAt aWe aRm aBm (8134) aS aSv aCm aRd aBy) H := hP
    have hD : va_D A (wX8 cI h0 h1 h2 h3 h4 h5 (0) aSm aLn aAt aWe aRm aBm (8134) aS aSv aCm aRd aBy) := hD
    refine lv_aload_n hx hb dX8_digest_12 rfl (lv_at hl 0 rfl) ?_
    refine lv_aload_n hx hb dX8_digest_13 rfl (lv_at hl 0 rfl) ?_
    refine va_get (D := D) (ci := 8) (v := .ref h1) (C := RX8) (T := TX8) (N := 13) hx hb hg uX8 hown hK.1 hP 0 rfl rfl 1 (by decide) (hg _ gw_941) (fun _ h9 => h9) rfl dX8_digest_14 ?_
    refine lv_iconst (v := 0) hx hb dX8_digest_17 (by decide) ?_
    obtain ⟨v17, h⟩ := rd_some h
    refine va_iald hx hb hK.1 hP 1 0 rfl rfl v17 dX8_digest_18 ?_
    obtain ⟨aHa_18, ec18, h⟩ := bd_some h
    refine cV_v (As := [.int (aS (Int32.toNatClampNeg 0))]) (rest := []) (wc := (wX8 cI h0 h1 h2 h3 h4 h5 (0) aSm aLn aAt aWe aRm aBm (8134) aS aSv aCm aRd aBy)) (wc' := (wX8 cI h0 h1 h2 h3 h4 h5 (0) aSm aLn aAt aWe aRm aBm aHa_18 aS aSv aCm aRd aBy)) hx hb hml hown hg hK hP hD hS hA hl.1 (k_X8_hashes l D cI cS cL Z h0 h1 h2 h3 h4 h5 (aS (Int32.toNatClampNeg 0)) (0) aSm aLn aAt aWe aRm aBm (8134) aS aSv aCm aRd aBy ec18) gm_X8_hashes gw_1324 ⟨rfl, rfl, by decide, by decide⟩ ⟨Nat.zero_le _, Nat.zero_le _⟩ [0, 1, 2, 3, 4, 5] rfl rfl rfl rfl rfl rfl rfl rfl (Nat.le_of_ble_eq_true rfl) dX8_digest_19 (fun H locs hP hD hS => ?_)
    have hP : va_P D vwCl (wX8 cI h0 h1 h2 h3 h4 h5 (0) aSm aLn aAt aWe aRm aBm aHa_18 aS aSv aCm aRd aBy) H := hP
    have hD : va_D A (wX8 cI h0 h1 h2 h3 h4 h5 (0) aSm aLn aAt aWe aRm aBm aHa_18 aS aSv aCm aRd aBy) := hD
    refine lv_aload_n hx hb dX8_digest_22 rfl (lv_at hl 0 rfl) ?_
    refine lv_aload_n hx hb dX8_digest_23 rfl (lv_at hl 0 rfl) ?_
    refine va_get (D := D) (ci := 8) (v := .ref h1) (C := RX8) (T := TX8) (N := 13) hx hb hg uX8 hown hK.1 hP 0 rfl rfl 1 (by decide) (hg _ gw_941) (fun _ h9 => h9) rfl dX8_digest_24 ?_
    refine lv_iconst (v := 1) hx hb dX8_digest_27 (by decide) ?_
    obtain ⟨v19, h⟩ := rd_some h
    refine va_iald hx hb hK.1 hP 1 0 rfl rfl v19 dX8_digest_28 ?_
    obtain ⟨aHa_20, ec20, h⟩ := bd_some h
    refine cV_v (As := [.int (aS (Int32.toNatClampNeg 1))]) (rest := []) (wc := (wX8 cI h0 h1 h2 h3 h4 h5 (0) aSm aLn aAt aWe aRm aBm aHa_18 aS aSv aCm aRd aBy)) (wc' := (wX8 cI h0 h1 h2 h3 h4 h5 (0) aSm aLn aAt aWe aRm aBm aHa_20 aS aSv aCm aRd aBy)) hx hb hml hown hg hK hP hD hS hA hl.1 (k_X8_hashes l D cI cS cL Z h0 h1 h2 h3 h4 h5 (aS (Int32.toNatClampNeg 1)) (0) aSm aLn aAt aWe aRm aBm aHa_18 aS aSv aCm aRd aBy ec20) gm_X8_hashes gw_1324 ⟨rfl, rfl, by decide, by decide⟩ ⟨Nat.zero_le _, Nat.zero_le _⟩ [0, 1, 2, 3, 4, 5] rfl rfl rfl rfl rfl rfl rfl rfl (Nat.le_of_ble_eq_true rfl) dX8_digest_29 (fun H locs hP hD hS => ?_)
    have hP : va_P D vwCl (wX8 cI h0 h1 h2 h3 h4 h5 (0) aSm aLn aAt aWe aRm aBm aHa_20 aS aSv aCm aRd aBy) H := hP
    have hD : va_D A (wX8 cI h0 h1 h2 h3 h4 h5 (0) aSm aLn aAt aWe aRm aBm aHa_20 aS aSv aCm aRd aBy) := hD
    refine lv_aload_n hx hb dX8_digest_32 rfl (lv_at hl 0 rfl) ?_
    refine lv_aload_n hx hb dX8_digest_33 rfl (lv_at hl 0 rfl) ?_
    refine va_get (D := D) (ci := 8) (v := .ref h1) (C := RX8) (T := TX8) (N := 13) hx hb hg uX8 hown hK.1 hP 0 rfl rfl 1 (by decide) (hg _ gw_941) (fun _ h9 => h9) rfl dX8_digest_34 ?_
    refine lv_iconst (v := 3) hx hb dX8_digest_37 (by decide) ?_
    obtain ⟨v21, h⟩ := rd_some h
    refine va_iald hx hb hK.1 hP 1 0 rfl rfl v21 dX8_digest_38 ?_
    obtain ⟨aHa_22, ec22, h⟩ := bd_some h
    refine cV_v (As := [.int (aS (Int32.toNatClampNeg 3))]) (rest := []) (wc := (wX8 cI h0 h1 h2 h3 h4 h5 (0) aSm aLn aAt aWe aRm aBm aHa_20 aS aSv aCm aRd aBy)) (wc' := (wX8 cI h0 h1 h2 h3 h4 h5 (0) aSm aLn aAt aWe aRm aBm aHa_22 aS aSv aCm aRd aBy)) hx hb hml hown hg hK hP hD hS hA hl.1 (k_X8_hashes l D cI cS cL Z h0 h1 h2 h3 h4 h5 (aS (Int32.toNatClampNeg 3)) (0) aSm aLn aAt aWe aRm aBm aHa_20 aS aSv aCm aRd aBy ec22) gm_X8_hashes gw_1324 ⟨rfl, rfl, by decide, by decide⟩ ⟨Nat.zero_le _, Nat.zero_le _⟩ [0, 1, 2, 3, 4, 5] rfl rfl rfl rfl rfl rfl rfl rfl (Nat.le_of_ble_eq_true rfl) dX8_digest_39 (fun H locs hP hD hS => ?_)
    have hP : va_P D vwCl (wX8 cI h0 h1 h2 h3 h4 h5 (0) aSm aLn aAt aWe aRm aBm aHa_22 aS aSv aCm aRd aBy) H := hP
    have hD : va_D A (wX8 cI h0 h1 h2 h3 h4 h5 (0) aSm aLn aAt aWe aRm aBm aHa_22 aS aSv aCm aRd aBy) := hD
    refine lv_aload_n hx hb dX8_digest_42 rfl (lv_at hl 0 rfl) ?_
    refine lv_aload_n hx hb dX8_digest_43 rfl (lv_at hl 0 rfl) ?_
    refine va_get (D := D) (ci := 8) (v := .ref h1) (C := RX8) (T := TX8) (N := 13) hx hb hg uX8 hown hK.1 hP 0 rfl rfl 1 (by decide) (hg _ gw_941) (fun _ h9 => h9) rfl dX8_digest_44 ?_
    refine lv_iconst (v := 2) hx hb dX8_digest_47 (by decide) ?_
    obtain ⟨v23, h⟩ := rd_some h
    refine va_iald hx hb hK.1 hP 1 0 rfl rfl v23 dX8_digest_48 ?_
    obtain ⟨aHa_24, ec24, h⟩ := bd_some h
    refine cV_v (As := [.int (aS (Int32.toNatClampNeg 2))]) (rest := []) (wc := (wX8 cI h0 h1 h2 h3 h4 h5 (0) aSm aLn aAt aWe aRm aBm aHa_22 aS aSv aCm aRd aBy)) (wc' := (wX8 cI h0 h1 h2 h3 h4 h5 (0) aSm aLn aAt aWe aRm aBm aHa_24 aS aSv aCm aRd aBy)) hx hb hml hown hg hK hP hD hS hA hl.1 (k_X8_hashes l D cI cS cL Z h0 h1 h2 h3 h4 h5 (aS (Int32.toNatClampNeg 2)) (0) aSm aLn aAt aWe aRm aBm aHa_22 aS aSv aCm aRd aBy ec24) gm_X8_hashes gw_1324 ⟨rfl, rfl, by decide, by decide⟩ ⟨Nat.zero_le _, Nat.zero_le _⟩ [0, 1, 2, 3, 4, 5] rfl rfl rfl rfl rfl rfl rfl rfl (Nat.le_of_ble_eq_true rfl) dX8_digest_49 (fun H locs hP hD hS => ?_)
    have hP : va_P D vwCl (wX8 cI h0 h1 h2 h3 h4 h5 (0) aSm aLn aAt aWe aRm aBm aHa_24 aS aSv aCm aRd aBy) H := hP
    have hD : va_D A (wX8 cI h0 h1 h2 h3 h4 h5 (0) aSm aLn aAt aWe aRm aBm aHa_24 aS aSv aCm aRd aBy) := hD
    refine lv_aload_n hx hb dX8_digest_52 rfl (lv_at hl 0 rfl) ?_
    refine lv_aload_n hx hb dX8_digest_53 rfl (lv_at hl 0 rfl) ?_
    refine va_get (D := D) (ci := 8) (v := .ref h1) (C := RX8) (T := TX8) (N := 13) hx hb hg uX8 hown hK.1 hP 0 rfl rfl 1 (by decide) (hg _ gw_941) (fun _ h9 => h9) rfl dX8_digest_54 ?_
    refine lv_iconst (v := 4) hx hb dX8_digest_57 (by decide) ?_
    obtain ⟨v25, h⟩ := rd_some h
    refine va_iald hx hb hK.1 hP 1 0 rfl rfl v25 dX8_digest_58 ?_
    obtain ⟨aHa_26, ec26, h⟩ := bd_some h
    refine cV_v (As := [.int (aS (Int32.toNatClampNeg 4))]) (rest := []) (wc := (wX8 cI h0 h1 h2 h3 h4 h5 (0) aSm aLn aAt aWe aRm aBm aHa_24 aS aSv aCm aRd aBy)) (wc' := (wX8 cI h0 h1 h2 h3 h4 h5 (0) aSm aLn aAt aWe aRm aBm aHa_26 aS aSv aCm aRd aBy)) hx hb hml hown hg hK hP hD hS hA hl.1 (k_X8_hashes l D cI cS cL Z h0 h1 h2 h3 h4 h5 (aS (Int32.toNatClampNeg 4)) (0) aSm aLn aAt aWe aRm aBm aHa_24 aS aSv aCm aRd aBy ec26) gm_X8_hashes gw_1324 ⟨rfl, rfl, by decide, by decide⟩ ⟨Nat.zero_le _, Nat.zero_le _⟩ [0, 1, 2, 3, 4, 5] rfl rfl rfl rfl rfl rfl rfl rfl (Nat.le_of_ble_eq_true rfl) dX8_digest_59 (fun H locs hP hD hS => ?_)
    have hP : va_P D vwCl (wX8 cI h0 h1 h2 h3 h4 h5 (0) aSm aLn aAt aWe aRm aBm aHa_26 aS aSv aCm aRd aBy) H := hP
    have hD : va_D A (wX8 cI h0 h1 h2 h3 h4 h5 (0) aSm aLn aAt aWe aRm aBm aHa_26 aS aSv aCm aRd aBy) := hD
    refine lv_aload_n hx hb dX8_digest_62 rfl (lv_at hl 0 rfl) ?_
    refine lv_aload_n hx hb dX8_digest_63 rfl (lv_at hl 0 rfl) ?_
    refine va_get (D := D) (ci := 8) (v := .ref h1) (C := RX8) (T := TX8) (N := 13) hx hb hg uX8 hown hK.1 hP 0 rfl rfl 1 (by decide) (hg _ gw_941) (fun _ h9 => h9) rfl dX8_digest_64 ?_
    refine lv_iconst (v := 5) hx hb dX8_digest_67 (by decide) ?_
    obtain ⟨v27, h⟩ := rd_some h
    refine va_iald hx hb hK.1 hP 1 0 rfl rfl v27 dX8_digest_68 ?_
    obtain ⟨aHa_28, ec28, h⟩ := bd_some h
    refine cV_v (As := [.int (aS (Int32.toNatClampNeg 5))]) (rest := []) (wc := (wX8 cI h0 h1 h2 h3 h4 h5 (0) aSm aLn aAt aWe aRm aBm aHa_26 aS aSv aCm aRd aBy)) (wc' := (wX8 cI h0 h1 h2 h3 h4 h5 (0) aSm aLn aAt aWe aRm aBm aHa_28 aS aSv aCm aRd aBy)) hx hb hml hown hg hK hP hD hS hA hl.1 (k_X8_hashes l D cI cS cL Z h0 h1 h2 h3 h4 h5 (aS (Int32.toNatClampNeg 5)) (0) aSm aLn aAt aWe aRm aBm aHa_26 aS aSv aCm aRd aBy ec28) gm_X8_hashes gw_1324 ⟨rfl, rfl, by decide, by decide⟩ ⟨Nat.zero_le _, Nat.zero_le _⟩ [0, 1, 2, 3, 4, 5] rfl rfl rfl rfl rfl rfl rfl rfl (Nat.le_of_ble_eq_true rfl) dX8_digest_69 (fun H locs hP hD hS => ?_)
    have hP : va_P D vwCl (wX8 cI h0 h1 h2 h3 h4 h5 (0) aSm aLn aAt aWe aRm aBm aHa_28 aS aSv aCm aRd aBy) H := hP
    have hD : va_D A (wX8 cI h0 h1 h2 h3 h4 h5 (0) aSm aLn aAt aWe aRm aBm aHa_28 aS aSv aCm aRd aBy) := hD
    refine lv_aload_n hx hb dX8_digest_72 rfl (lv_at hl 0 rfl) ?_
    refine lv_aload_n hx hb dX8_digest_73 rfl (lv_at hl 0 rfl) ?_
    refine va_get (D := D) (ci := 8) (v := .ref h1) (C := RX8) (T := TX8) (N := 13) hx hb hg uX8 hown hK.1 hP 0 rfl rfl 1 (by decide) (hg _ gw_941) (fun _ h9 => h9) rfl dX8_digest_74 ?_
    refine lv_bipush (v := 6) hx hb dX8_digest_77 (by decide) ?_
    obtain ⟨v29, h⟩ := rd_some h
    refine va_iald hx hb hK.1 hP 1 0 rfl rfl v29 dX8_digest_79 ?_
    obtain ⟨aHa_30, ec30, h⟩ := bd_some h
    refine cV_v (As := [.int (aS (Int32.toNatClampNeg 6))]) (rest := []) (wc := (wX8 cI h0 h1 h2 h3 h4 h5 (0) aSm aLn aAt aWe aRm aBm aHa_28 aS aSv aCm aRd aBy)) (wc' := (wX8 cI h0 h1 h2 h3 h4 h5 (0) aSm aLn aAt aWe aRm aBm aHa_30 aS aSv aCm aRd aBy)) hx hb hml hown hg hK hP hD hS hA hl.1 (k_X8_hashes l D cI cS cL Z h0 h1 h2 h3 h4 h5 (aS (Int32.toNatClampNeg 6)) (0) aSm aLn aAt aWe aRm aBm aHa_28 aS aSv aCm aRd aBy ec30) gm_X8_hashes gw_1324 ⟨rfl, rfl, by decide, by decide⟩ ⟨Nat.zero_le _, Nat.zero_le _⟩ [0, 1, 2, 3, 4, 5] rfl rfl rfl rfl rfl rfl rfl rfl (Nat.le_of_ble_eq_true rfl) dX8_digest_80 (fun H locs hP hD hS => ?_)
    have hP : va_P D vwCl (wX8 cI h0 h1 h2 h3 h4 h5 (0) aSm aLn aAt aWe aRm aBm aHa_30 aS aSv aCm aRd aBy) H := hP
    have hD : va_D A (wX8 cI h0 h1 h2 h3 h4 h5 (0) aSm aLn aAt aWe aRm aBm aHa_30 aS aSv aCm aRd aBy) := hD
    refine lv_aload_n hx hb dX8_digest_83 rfl (lv_at hl 0 rfl) ?_
    refine lv_aload_n hx hb dX8_digest_84 rfl (lv_at hl 0 rfl) ?_
    refine va_get (D := D) (ci := 8) (v := .ref h1) (C := RX8) (T := TX8) (N := 13) hx hb hg uX8 hown hK.1 hP 0 rfl rfl 1 (by decide) (hg _ gw_941) (fun _ h9 => h9) rfl dX8_digest_85 ?_
    refine lv_bipush (v := 7) hx hb dX8_digest_88 (by decide) ?_
    obtain ⟨v31, h⟩ := rd_some h
    refine va_iald hx hb hK.1 hP 1 0 rfl rfl v31 dX8_digest_90 ?_
    obtain ⟨aHa_32, ec32, h⟩ := bd_some h
    refine cV_v (As := [.int (aS (Int32.toNatClampNeg 7))]) (rest := []) (wc := (wX8 cI h0 h1 h2 h3 h4 h5 (0) aSm aLn aAt aWe aRm aBm aHa_30 aS aSv aCm aRd aBy)) (wc' := (wX8 cI h0 h1 h2 h3 h4 h5 (0) aSm aLn aAt aWe aRm aBm aHa_32 aS aSv aCm aRd aBy)) hx hb hml hown hg hK hP hD hS hA hl.1 (k_X8_hashes l D cI cS cL Z h0 h1 h2 h3 h4 h5 (aS (Int32.toNatClampNeg 7)) (0) aSm aLn aAt aWe aRm aBm aHa_30 aS aSv aCm aRd aBy ec32) gm_X8_hashes gw_1324 ⟨rfl, rfl, by decide, by decide⟩ ⟨Nat.zero_le _, Nat.zero_le _⟩ [0, 1, 2, 3, 4, 5] rfl rfl rfl rfl rfl rfl rfl rfl (Nat.le_of_ble_eq_true rfl) dX8_digest_91 (fun H locs hP hD hS => ?_)
    have hP : va_P D vwCl (wX8 cI h0 h1 h2 h3 h4 h5 (0) aSm aLn aAt aWe aRm aBm aHa_32 aS aSv aCm aRd aBy) H := hP
    have hD : va_D A (wX8 cI h0 h1 h2 h3 h4 h5 (0) aSm aLn aAt aWe aRm aBm aHa_32 aS aSv aCm aRd aBy) := hD
    refine lv_aload_n hx hb dX8_digest_94 rfl (lv_at hl 0 rfl) ?_
    refine lv_aload_n hx hb dX8_digest_95 rfl (lv_at hl 0 rfl) ?_
    refine lv_aload_n hx hb dX8_digest_96 rfl (lv_at hl 0 rfl) ?_
    refine va_get (D := D) (ci := 8) (v := .ref h1) (C := RX8) (T := TX8) (N := 13) hx hb hg uX8 hown hK.1 hP 0 rfl rfl 1 (by decide) (hg _ gw_941) (fun _ h9 => h9) rfl dX8_digest_97 ?_
    refine lv_iconst (v := 0) hx hb dX8_digest_100 (by decide) ?_
    obtain ⟨v33, h⟩ := rd_some h
    refine va_iald hx hb hK.1 hP 1 0 rfl rfl v33 dX8_digest_101 ?_
    obtain ⟨r34, ec34, h⟩ := bd_some h
    refine cV_i (As := [.int (aS (Int32.toNatClampNeg 0))]) (rest := [.ref h0]) (wc := (wX8 cI h0 h1 h2 h3 h4 h5 (0) aSm aLn aAt aWe aRm aBm aHa_32 aS aSv aCm aRd aBy)) (wc' := (wX8 cI h0 h1 h2 h3 h4 h5 (0) aSm aLn aAt aWe aRm aBm aHa_32 aS aSv aCm aRd aBy)) hx hb hml hown hg hK hP hD hS hA hl.1 (k_X8_lineAt l D cI cS cL Z h0 h1 h2 h3 h4 h5 (aS (Int32.toNatClampNeg 0)) (0) aSm aLn aAt aWe aRm aBm aHa_32 aS aSv aCm aRd aBy ec34) gm_X8_lineAt gw_1176 ⟨rfl, rfl, by decide, by decide⟩ ⟨Nat.zero_le _, Nat.zero_le _⟩ [0, 1, 2, 3, 4, 5] rfl rfl rfl rfl rfl rfl rfl rfl (Nat.le_of_ble_eq_true rfl) dX8_digest_102 (fun H locs hP hD hS => ?_)
    have hP : va_P D vwCl (wX8 cI h0 h1 h2 h3 h4 h5 (0) aSm aLn aAt aWe aRm aBm aHa_32 aS aSv aCm aRd aBy) H := hP
    have hD : va_D A (wX8 cI h0 h1 h2 h3 h4 h5 (0) aSm aLn aAt aWe aRm aBm aHa_32 aS aSv aCm aRd aBy) := hD
    refine lv_iconst (v := 1) hx hb dX8_digest_105 (by decide) ?_
    refine lv_iadd hx hb dX8_digest_106 ?_
    obtain ⟨aHa_35, ec35, h⟩ := bd_some h
    refine cV_v (As := [.int (r34 + 1)]) (rest := []) (wc := (wX8 cI h0 h1 h2 h3 h4 h5 (0) aSm aLn aAt aWe aRm aBm aHa_32 aS aSv aCm aRd aBy)) (wc' := (wX8 cI h0 h1 h2 h3 h4 h5 (0) aSm aLn aAt aWe aRm aBm aHa_35 aS aSv aCm aRd aBy)) hx hb hml hown hg hK hP hD hS hA hl.1 (k_X8_hashes l D cI cS cL Z h0 h1 h2 h3 h4 h5 (r34 + 1) (0) aSm aLn aAt aWe aRm aBm aHa_32 aS aSv aCm aRd aBy ec35) gm_X8_hashes gw_1324 ⟨rfl, rfl, by decide, by decide⟩ ⟨Nat.zero_le _, Nat.zero_le _⟩ [0, 1, 2, 3, 4, 5] rfl rfl rfl rfl rfl rfl rfl rfl (Nat.le_of_ble_eq_true rfl) dX8_digest_107 (fun H locs hP hD hS => ?_)
    have hP : va_P D vwCl (wX8 cI h0 h1 h2 h3 h4 h5 (0) aSm aLn aAt aWe aRm aBm aHa_35 aS aSv aCm aRd aBy) H := hP
    have hD : va_D A (wX8 cI h0 h1 h2 h3 h4 h5 (0) aSm aLn aAt aWe aRm aBm aHa_35 aS aSv aCm aRd aBy) := hD
    refine lv_aload_n hx hb dX8_digest_110 rfl (lv_at hl 0 rfl) ?_
    refine lv_aload_n hx hb dX8_digest_111 rfl (lv_at hl 0 rfl) ?_
    refine lv_aload_n hx hb dX8_digest_112 rfl (lv_at hl 0 rfl) ?_
    refine va_get (D := D) (ci := 8) (v := .ref h1) (C := RX8) (T := TX8) (N := 13) hx hb hg uX8 hown hK.1 hP 0 rfl rfl 1 (by decide) (hg _ gw_941) (fun _ h9 => h9) rfl dX8_digest_113 ?_
    refine lv_iconst (v := 1) hx hb dX8_digest_116 (by decide) ?_
    obtain ⟨v36, h⟩ := rd_some h
    refine va_iald hx hb hK.1 hP 1 0 rfl rfl v36 dX8_digest_117 ?_
    obtain ⟨r37, ec37, h⟩ := bd_some h
    refine cV_i (As := [.int (aS (Int32.toNatClampNeg 1))]) (rest := [.ref h0]) (wc := (wX8 cI h0 h1 h2 h3 h4 h5 (0) aSm aLn aAt aWe aRm aBm aHa_35 aS aSv aCm aRd aBy)) (wc' := (wX8 cI h0 h1 h2 h3 h4 h5 (0) aSm aLn aAt aWe aRm aBm aHa_35 aS aSv aCm aRd aBy)) hx hb hml hown hg hK hP hD hS hA hl.1 (k_X8_column l D cI cS cL Z h0 h1 h2 h3 h4 h5 (aS (Int32.toNatClampNeg 1)) (0) aSm aLn aAt aWe aRm aBm aHa_35 aS aSv aCm aRd aBy ec37) gm_X8_column gw_1029 ⟨rfl, rfl, by decide, by decide⟩ ⟨Nat.zero_le _, Nat.zero_le _⟩ [0, 1, 2, 3, 4, 5] rfl rfl rfl rfl rfl rfl rfl rfl (Nat.le_of_ble_eq_true rfl) dX8_digest_118 (fun H locs hP hD hS => ?_)
    have hP : va_P D vwCl (wX8 cI h0 h1 h2 h3 h4 h5 (0) aSm aLn aAt aWe aRm aBm aHa_35 aS aSv aCm aRd aBy) H := hP
    have hD : va_D A (wX8 cI h0 h1 h2 h3 h4 h5 (0) aSm aLn aAt aWe aRm aBm aHa_35 aS aSv aCm aRd aBy) := hD
    obtain ⟨aHa_38, ec38, h⟩ := bd_some h
    refine cV_v (As := [.int r37]) (rest := []) (wc := (wX8 cI h0 h1 h2 h3 h4 h5 (0) aSm aLn aAt aWe aRm aBm aHa_35 aS aSv aCm aRd aBy)) (wc' := (wX8 cI h0 h1 h2 h3 h4 h5 (0) aSm aLn aAt aWe aRm aBm aHa_38 aS aSv aCm aRd aBy)) hx hb hml hown hg hK hP hD hS hA hl.1 (k_X8_hashes l D cI cS cL Z h0 h1 h2 h3 h4 h5 r37 (0) aSm aLn aAt aWe aRm aBm aHa_35 aS aSv aCm aRd aBy ec38) gm_X8_hashes gw_1324 ⟨rfl, rfl, by decide, by decide⟩ ⟨Nat.zero_le _, Nat.zero_le _⟩ [0, 1, 2, 3, 4, 5] rfl rfl rfl rfl rfl rfl rfl rfl (Nat.le_of_ble_eq_true rfl) dX8_digest_121 (fun H locs hP hD hS => ?_)
    have hP : va_P D vwCl (wX8 cI h0 h1 h2 h3 h4 h5 (0) aSm aLn aAt aWe aRm aBm aHa_38 aS aSv aCm aRd aBy) H := hP
    have hD : va_D A (wX8 cI h0 h1 h2 h3 h4 h5 (0) aSm aLn aAt aWe aRm aBm aHa_38 aS aSv aCm aRd aBy) := hD
    refine lv_aload_n hx hb dX8_digest_124 rfl (lv_at hl 0 rfl) ?_
    refine lv_aload_n hx hb dX8_digest_125 rfl (lv_at hl 0 rfl) ?_
    refine va_get (D := D) (ci := 8) (v := .ref h1) (C := RX8) (T := TX8) (N := 13) hx hb hg uX8 hown hK.1 hP 0 rfl rfl 1 (by decide) (hg _ gw_941) (fun _ h9 => h9) rfl dX8_digest_126 ?_
    refine lv_bipush (v := 9) hx hb dX8_digest_129 (by decide) ?_
    obtain ⟨v39, h⟩ := rd_some h
    refine va_iald hx hb hK.1 hP 1 0 rfl rfl v39 dX8_digest_131 ?_
    obtain ⟨aHa_40, ec40, h⟩ := bd_some h
    refine cV_v (As := [.int (aS (Int32.toNatClampNeg 9))]) (rest := []) (wc := (wX8 cI h0 h1 h2 h3 h4 h5 (0) aSm aLn aAt aWe aRm aBm aHa_38 aS aSv aCm aRd aBy)) (wc' := (wX8 cI h0 h1 h2 h3 h4 h5 (0) aSm aLn aAt aWe aRm aBm aHa_40 aS aSv aCm aRd aBy)) hx hb hml hown hg hK hP hD hS hA hl.1 (k_X8_hashes l D cI cS cL Z h0 h1 h2 h3 h4 h5 (aS (Int32.toNatClampNeg 9)) (0) aSm aLn aAt aWe aRm aBm aHa_38 aS aSv aCm aRd aBy ec40) gm_X8_hashes gw_1324 ⟨rfl, rfl, by decide, by decide⟩ ⟨Nat.zero_le _, Nat.zero_le _⟩ [0, 1, 2, 3, 4, 5] rfl rfl rfl rfl rfl rfl rfl rfl (Nat.le_of_ble_eq_true rfl) dX8_digest_132 (fun H locs hP hD hS => ?_)
    have hP : va_P D vwCl (wX8 cI h0 h1 h2 h3 h4 h5 (0) aSm aLn aAt aWe aRm aBm aHa_40 aS aSv aCm aRd aBy) H := hP
    have hD : va_D A (wX8 cI h0 h1 h2 h3 h4 h5 (0) aSm aLn aAt aWe aRm aBm aHa_40 aS aSv aCm aRd aBy) := hD
    refine lv_iconst (v := 0) hx hb dX8_digest_135 (by decide) ?_
    refine lv_istore_n (lv' := [(1, .int 0), (0, .ref h0)]) hx hb dX8_digest_136 rfl hl (by decide) rfl (fun ls hl => ?_)
    exact c_137 Z 0 (0) aHa_40 h H locs hP hD hS ls (lv_sub hl [1, 0] rfl)
  exact hmain _ _ hP hS
