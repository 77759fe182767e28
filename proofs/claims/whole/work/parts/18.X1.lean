abbrev rm_X1_firstFault : Room := { frames := 3, cells := 0, slots := 0, locals := 65 }
def f_X1_firstFault_b9 (Z : Nat) (bN : Int32) (bF : Nat → Int32) (rec : Int32 → Int32 → Int32 → Int32 → Option (Int32 × Int32 × Int32 × Int32)) (x1 : Int32) (rCmd : Int32) (rLet : Int32) (rNum : Int32) : Option (Int32 × Int32 × Int32 × Int32) :=
      (f_X0_size Z 60 bN).bind fun r1 =>
      if r1 ≤ x1 then
        (f_X0_size Z 60 bN).bind fun r3 =>
        some (r3, rCmd, rLet, rNum)
      else
        (f_X0_at Z x1 60 bN bF).bind fun r4 =>
        (f_X5_accept Z r4 rCmd rLet rNum).bind fun (r5, rCmd_5, rLet_5, rNum_5) =>
        if r5 = 0 then
          some (x1, rCmd_5, rLet_5, rNum_5)
        else
          kl (x1 + 1) fun x1_7 =>
          rec x1_7 rCmd_5 rLet_5 rNum_5
def f_X1_firstFault_l9 (Z : Nat) (bN : Int32) (bF : Nat → Int32) : Nat → Int32 → Int32 → Int32 → Int32 → Option (Int32 × Int32 × Int32 × Int32)
  | 0, _, _, _, _ => none
  | n + 1, x1, rCmd, rLet, rNum => f_X1_firstFault_b9 Z bN bF (f_X1_firstFault_l9 Z bN bF n) x1 rCmd rLet rNum
def f_X1_firstFault (Z : Nat) (bN : Int32) (bF : Nat → Int32) (rCmd : Int32) (rLet : Int32) (rNum : Int32) : Option (Int32 × Int32 × Int32 × Int32) :=
  (f_X5_restart Z rCmd rLet rNum).bind fun (rCmd_8, rLet_8, rNum_8) =>
  f_X1_firstFault_l9 Z bN bF Z 0 rCmd_8 rLet_8 rNum_8
set_option maxRecDepth 100000 in
set_option maxHeartbeats 4000000 in
theorem k_X1_firstFault (l : Launch) (D : va_G) (cI cS cL : ClassId) (Z : Nat) (h0 : Nat) (h1 : Nat) (h2 : Nat) (h3 : Nat) (bN : Int32) (bF : Nat → Int32) (rCmd : Int32) (rLet : Int32) (rNum : Int32) {r : Int32} {rCmd' : Int32} {rLet' : Int32} {rNum' : Int32} (h : f_X1_firstFault Z bN bF rCmd rLet rNum = some (r, rCmd', rLet', rNum')) : CI l yX1_firstFault cX1_firstFault 2 (some .int) rm_X1_firstFault D cI cS cL [.ref h0] (wX1 cI h0 h1 h2 h3 bN bF rCmd rLet rNum) (wX1 cI h0 h1 h2 h3 bN bF (rCmd') (rLet') (rNum')) r := by
  refine ent_i (by decide +kernel) (Nat.le_of_ble_eq_true rfl) ?_
  intro p e s m args below meth c A ls hx hb hr hml hlocks hg hown hK hP hD hS hA hl
  have hown : s.vm.findClass RX1 = some m.cls := hown
  have c_9 : ∀ (n : Nat) (x1 : Int32) (rCmd : Int32) (rLet : Int32) (rNum : Int32), f_X1_firstFault_l9 Z bN bF n x1 rCmd rLet rNum = some (r, rCmd', rLet', rNum') → ∀ (H : Heap) (locs : List Loc), va_P D vwCl (wX1 cI h0 h1 h2 h3 bN bF rCmd rLet rNum) H → va_D A (wX1 cI h0 h1 h2 h3 bN bF rCmd rLet rNum) → va_S A s.heap H locs → ∀ ls : Array Slot, lv_has ls 2 [(0, .ref h0), (1, .int x1)] → W p l e rm_X1_firstFault s m args below meth c H locs 0 0 (FI D below args s (wX1 cI h0 h1 h2 h3 bN bF (rCmd') (rLet') (rNum')) r A) (F0 m 9 ls []) := by
    intro n
    induction n with
    | zero => intro x1 rCmd rLet rNum h; exact no_some h
    | succ n ih =>
      intro x1 rCmd rLet rNum h H locs hP hD hS ls hl
      have h : f_X1_firstFault_b9 Z bN bF (f_X1_firstFault_l9 Z bN bF n) x1 rCmd rLet rNum = some (r, rCmd', rLet', rNum') := h
      unfold f_X1_firstFault_b9 at h
      refine lv_iload_n hx hb dX1_firstFault_9 rfl (lv_at hl 1 rfl) ?_
      refine lv_aload_n hx hb dX1_firstFault_10 rfl (lv_at hl 0 rfl) ?_
      refine va_get (D := D) (ci := 1) (v := .ref h1) (C := RX1) (T := TX1) (N := 2) hx hb hg uX1 hown hK.1 hP 0 rfl rfl 0 (by decide) (hg _ gw_234) (fun _ h9 => h9) rfl dX1_firstFault_11 ?_
      obtain ⟨r1, ec1, h⟩ := bd_some h
      refine cV_i (As := []) (rest := [.int x1]) (wc := (wX0 cI h1 h2 60 bN bF)) (wc' := (wX0 cI h1 h2 60 bN bF)) hx hb hml hown hg hK hP hD hS hA hl.1 (k_X0_size l D cI cS cL Z h1 h2 60 bN bF ec1) gm_X0_size gw_426 ⟨rfl, rfl, by decide, by decide⟩ ⟨Nat.zero_le _, Nat.zero_le _⟩ [1, 2] rfl rfl rfl rfl rfl rfl rfl rfl (Nat.le_of_ble_eq_true rfl) dX1_firstFault_14 (fun H locs hP hD hS => ?_)
      have hP : va_P D vwCl (wX1 cI h0 h1 h2 h3 bN bF rCmd rLet rNum) H := hP
      have hD : va_D A (wX1 cI h0 h1 h2 h3 bN bF rCmd rLet rNum) := hD
      refine lv_icmp_ge (tgt := 46) hx hb dX1_firstFault_17 (by decide) (fun q2 => ?_) (fun q2 => ?_)
      · replace h := it_some q2 h
        refine lv_aload_n hx hb dX1_firstFault_46 rfl (lv_at hl 0 rfl) ?_
        refine va_get (D := D) (ci := 1) (v := .ref h1) (C := RX1) (T := TX1) (N := 2) hx hb hg uX1 hown hK.1 hP 0 rfl rfl 0 (by decide) (hg _ gw_234) (fun _ h9 => h9) rfl dX1_firstFault_47 ?_
        obtain ⟨r3, ec3, h⟩ := bd_some h
        refine cV_i (As := []) (rest := []) (wc := (wX0 cI h1 h2 60 bN bF)) (wc' := (wX0 cI h1 h2 60 bN bF)) hx hb hml hown hg hK hP hD hS hA hl.1 (k_X0_size l D cI cS cL Z h1 h2 60 bN bF ec3) gm_X0_size gw_426 ⟨rfl, rfl, by decide, by decide⟩ ⟨Nat.zero_le _, Nat.zero_le _⟩ [1, 2] rfl rfl rfl rfl rfl rfl rfl rfl (Nat.le_of_ble_eq_true rfl) dX1_firstFault_50 (fun H locs hP hD hS => ?_)
        have hP : va_P D vwCl (wX1 cI h0 h1 h2 h3 bN bF rCmd rLet rNum) H := hP
        have hD : va_D A (wX1 cI h0 h1 h2 h3 bN bF rCmd rLet rNum) := hD
        cases h
        exact ret_i hx hb hr hlocks hP hD hS dX1_firstFault_53 rfl
      · replace h := if_some q2 h
        refine lv_aload_n hx hb dX1_firstFault_20 rfl (lv_at hl 0 rfl) ?_
        refine va_get (D := D) (ci := 1) (v := .ref h3) (C := RX1) (T := TX1) (N := 2) hx hb hg uX1 hown hK.1 hP 0 rfl rfl 1 (by decide) (hg _ gw_236) (fun _ h9 => h9) rfl dX1_firstFault_21 ?_
        refine lv_aload_n hx hb dX1_firstFault_24 rfl (lv_at hl 0 rfl) ?_
        refine va_get (D := D) (ci := 1) (v := .ref h1) (C := RX1) (T := TX1) (N := 2) hx hb hg uX1 hown hK.1 hP 0 rfl rfl 0 (by decide) (hg _ gw_234) (fun _ h9 => h9) rfl dX1_firstFault_25 ?_
        refine lv_iload_n hx hb dX1_firstFault_28 rfl (lv_at hl 1 rfl) ?_
        obtain ⟨r4, ec4, h⟩ := bd_some h
        refine cV_i (As := [.int x1]) (rest := [.ref h3]) (wc := (wX0 cI h1 h2 60 bN bF)) (wc' := (wX0 cI h1 h2 60 bN bF)) hx hb hml hown hg hK hP hD hS hA hl.1 (k_X0_at l D cI cS cL Z h1 h2 x1 60 bN bF ec4) gm_X0_at gw_427 ⟨rfl, rfl, by decide, by decide⟩ ⟨Nat.zero_le _, Nat.zero_le _⟩ [1, 2] rfl rfl rfl rfl rfl rfl rfl rfl (Nat.le_of_ble_eq_true rfl) dX1_firstFault_29 (fun H locs hP hD hS => ?_)
        have hP : va_P D vwCl (wX1 cI h0 h1 h2 h3 bN bF rCmd rLet rNum) H := hP
        have hD : va_D A (wX1 cI h0 h1 h2 h3 bN bF rCmd rLet rNum) := hD
        obtain ⟨⟨r5, rCmd_5, rLet_5, rNum_5⟩, ec5, h⟩ := bd_some h
        refine cV_i (As := [.int r4]) (rest := []) (wc := (wX5 cI h3 rCmd rLet rNum)) (wc' := (wX5 cI h3 rCmd_5 rLet_5 rNum_5)) hx hb hml hown hg hK hP hD hS hA hl.1 (k_X5_accept l D cI cS cL Z h3 r4 rCmd rLet rNum ec5) gm_X5_accept gw_428 ⟨rfl, rfl, by decide, by decide⟩ ⟨Nat.zero_le _, Nat.zero_le _⟩ [3] rfl rfl rfl rfl rfl rfl rfl rfl (Nat.le_of_ble_eq_true rfl) dX1_firstFault_32 (fun H locs hP hD hS => ?_)
        have hP : va_P D vwCl (wX1 cI h0 h1 h2 h3 bN bF rCmd_5 rLet_5 rNum_5) H := hP
        have hD : va_D A (wX1 cI h0 h1 h2 h3 bN bF rCmd_5 rLet_5 rNum_5) := hD
        refine lv_if_ne (tgt := 40) hx hb dX1_firstFault_35 (by decide) (fun q6 => ?_) (fun q6 => ?_)
        · replace h := if_some q6 h
          obtain ⟨x1_7, ex1_7, h⟩ := kl_some h
          refine lv_iinc (v := x1_7) (lv' := [(1, .int x1_7), (0, .ref h0)]) hx hb dX1_firstFault_40 hl (k := 1) rfl (by rw [ex1_7]; rfl) (by decide) rfl (fun ls hl => ?_)
          refine lv_goto (tgt := 9) hx hb dX1_firstFault_43 (by decide) ?_
          exact ih x1_7 rCmd_5 rLet_5 rNum_5 h H locs hP hD hS ls (lv_sub hl [1, 0] rfl)
        · replace h := it_some q6 h
          refine lv_iload_n hx hb dX1_firstFault_38 rfl (lv_at hl 1 rfl) ?_
          cases h
          exact ret_i hx hb hr hlocks hP hD hS dX1_firstFault_39 rfl
  have hl : lv_has ls 2 [(0, .ref h0)] := hl
  have hP : va_P D vwCl (wX1 cI h0 h1 h2 h3 bN bF rCmd rLet rNum) s.heap := hP
  have hD : va_D A (wX1 cI h0 h1 h2 h3 bN bF rCmd rLet rNum) := hD
  show W p l e rm_X1_firstFault s m args below meth c s.heap [] 0 0 (FI D below args s (wX1 cI h0 h1 h2 h3 bN bF (rCmd') (rLet') (rNum')) r A) (F0 m 0 ls [])
  unfold f_X1_firstFault at h
  have hmain : ∀ (H : Heap) (locs : List Loc), va_P D vwCl (wX1 cI h0 h1 h2 h3 bN bF rCmd rLet rNum) H → va_S A s.heap H locs → W p l e rm_X1_firstFault s m args below meth c H locs 0 0 (FI D below args s (wX1 cI h0 h1 h2 h3 bN bF (rCmd') (rLet') (rNum')) r A) (F0 m 0 ls []) := by
    intro H locs hP hS
    refine lv_aload_n hx hb dX1_firstFault_0 rfl (lv_at hl 0 rfl) ?_
    refine va_get (D := D) (ci := 1) (v := .ref h3) (C := RX1) (T := TX1) (N := 2) hx hb hg uX1 hown hK.1 hP 0 rfl rfl 1 (by decide) (hg _ gw_236) (fun _ h9 => h9) rfl dX1_firstFault_1 ?_
    obtain ⟨⟨rCmd_8, rLet_8, rNum_8⟩, ec8, h⟩ := bd_some h
    refine cV_v (As := []) (rest := []) (wc := (wX5 cI h3 rCmd rLet rNum)) (wc' := (wX5 cI h3 rCmd_8 rLet_8 rNum_8)) hx hb hml hown hg hK hP hD hS hA hl.1 (k_X5_restart l D cI cS cL Z h3 rCmd rLet rNum ec8) gm_X5_restart gw_422 ⟨rfl, rfl, by decide, by decide⟩ ⟨Nat.zero_le _, Nat.zero_le _⟩ [3] rfl rfl rfl rfl rfl rfl rfl rfl (Nat.le_of_ble_eq_true rfl) dX1_firstFault_4 (fun H locs hP hD hS => ?_)
    have hP : va_P D vwCl (wX1 cI h0 h1 h2 h3 bN bF rCmd_8 rLet_8 rNum_8) H := hP
    have hD : va_D A (wX1 cI h0 h1 h2 h3 bN bF rCmd_8 rLet_8 rNum_8) := hD
    refine lv_iconst (v := 0) hx hb dX1_firstFault_7 (by decide) ?_
    refine lv_istore_n (lv' := [(1, .int 0), (0, .ref h0)]) hx hb dX1_firstFault_8 rfl hl (by decide) rfl (fun ls hl => ?_)
    exact c_9 Z 0 rCmd_8 rLet_8 rNum_8 h H locs hP hD hS ls (lv_sub hl [1, 0] rfl)
  exact hmain _ _ hP hS
abbrev rm_X1_isComplete : Room := { frames := 4, cells := 0, slots := 0, locals := 86 }
def f_X1_isComplete (Z : Nat) (bN : Int32) (bF : Nat → Int32) (rCmd : Int32) (rLet : Int32) (rNum : Int32) : Option (Int32 × Int32 × Int32 × Int32) :=
  (f_X1_firstFault Z bN bF rCmd rLet rNum).bind fun (r1, rCmd_1, rLet_1, rNum_1) =>
  (f_X0_size Z 60 bN).bind fun r2 =>
  if r1 = r2 then
    (f_X5_isAtEnd Z rCmd_1 rLet_1 rNum_1).bind fun r4 =>
    if r4 = 0 then
      some (0, rCmd_1, rLet_1, rNum_1)
    else
      some (1, rCmd_1, rLet_1, rNum_1)
  else
    some (0, rCmd_1, rLet_1, rNum_1)
set_option maxRecDepth 100000 in
set_option maxHeartbeats 4000000 in
theorem k_X1_isComplete (l : Launch) (D : va_G) (cI cS cL : ClassId) (Z : Nat) (h0 : Nat) (h1 : Nat) (h2 : Nat) (h3 : Nat) (bN : Int32) (bF : Nat → Int32) (rCmd : Int32) (rLet : Int32) (rNum : Int32) {r : Int32} {rCmd' : Int32} {rLet' : Int32} {rNum' : Int32} (h : f_X1_isComplete Z bN bF rCmd rLet rNum = some (r, rCmd', rLet', rNum')) : CI l yX1_isComplete cX1_isComplete 1 (some .boolean) rm_X1_isComplete D cI cS cL [.ref h0] (wX1 cI h0 h1 h2 h3 bN bF rCmd rLet rNum) (wX1 cI h0 h1 h2 h3 bN bF (rCmd') (rLet') (rNum')) r := by
  refine ent_i (by decide +kernel) (Nat.le_of_ble_eq_true rfl) ?_
  intro p e s m args below meth c A ls hx hb hr hml hlocks hg hown hK hP hD hS hA hl
  have hown : s.vm.findClass RX1 = some m.cls := hown
  have hl : lv_has ls 1 [(0, .ref h0)] := hl
  have hP : va_P D vwCl (wX1 cI h0 h1 h2 h3 bN bF rCmd rLet rNum) s.heap := hP
  have hD : va_D A (wX1 cI h0 h1 h2 h3 bN bF rCmd rLet rNum) := hD
  show W p l e rm_X1_isComplete s m args below meth c s.heap [] 0 0 (FI D below args s (wX1 cI h0 h1 h2 h3 bN bF (rCmd') (rLet') (rNum')) r A) (F0 m 0 ls [])
  unfold f_X1_isComplete at h
  have hmain : ∀ (H : Heap) (locs : List Loc), va_P D vwCl (wX1 cI h0 h1 h2 h3 bN bF rCmd rLet rNum) H → va_S A s.heap H locs → W p l e rm_X1_isComplete s m args below meth c H locs 0 0 (FI D below args s (wX1 cI h0 h1 h2 h3 bN bF (rCmd') (rLet') (rNum')) r A) (F0 m 0 ls []) := by
    intro H locs hP hS
    refine lv_aload_n hx hb dX1_isComplete_0 rfl (lv_at hl 0 rfl) ?_
    obtain ⟨⟨r1, rCmd_1, rLet_1, rNum_1⟩, ec1, h⟩ := bd_some h
    refine cV_i (As := []) (rest := []) (wc := (wX1 cI h0 h1 h2 h3 bN bF rCmd rLet rNum)) (wc' := (wX1 cI h0 h1 h2 h3 bN bF rCmd_1 rLet_1 rNum_1)) hx hb hml hown hg hK hP hD hS hA hl.1 (k_X1_firstFault l D cI cS cL Z h0 h1 h2 h3 bN bF rCmd rLet rNum ec1) gm_X1_firstFault gw_891 ⟨rfl, rfl, by decide, by decide⟩ ⟨Nat.zero_le _, Nat.zero_le _⟩ [0, 1, 2, 3] rfl rfl rfl rfl rfl rfl rfl rfl (Nat.le_of_ble_eq_true rfl) dX1_isComplete_1 (fun H locs hP hD hS => ?_)
    have hP : va_P D vwCl (wX1 cI h0 h1 h2 h3 bN bF rCmd_1 rLet_1 rNum_1) H := hP
    have hD : va_D A (wX1 cI h0 h1 h2 h3 bN bF rCmd_1 rLet_1 rNum_1) := hD
    refine lv_aload_n hx hb dX1_isComplete_4 rfl (lv_at hl 0 rfl) ?_
    refine va_get (D := D) (ci := 1) (v := .ref h1) (C := RX1) (T := TX1) (N := 2) hx hb hg uX1 hown hK.1 hP 0 rfl rfl 0 (by decide) (hg _ gw_234) (fun _ h9 => h9) rfl dX1_isComplete_5 ?_
    obtain ⟨r2, ec2, h⟩ := bd_some h
    refine cV_i (As := []) (rest := [.int r1]) (wc := (wX0 cI h1 h2 60 bN bF)) (wc' := (wX0 cI h1 h2 60 bN bF)) hx hb hml hown hg hK hP hD hS hA hl.1 (k_X0_size l D cI cS cL Z h1 h2 60 bN bF ec2) gm_X0_size gw_426 ⟨rfl, rfl, by decide, by decide⟩ ⟨Nat.zero_le _, Nat.zero_le _⟩ [1, 2] rfl rfl rfl rfl rfl rfl rfl rfl (Nat.le_of_ble_eq_true rfl) dX1_isComplete_8 (fun H locs hP hD hS => ?_)
    have hP : va_P D vwCl (wX1 cI h0 h1 h2 h3 bN bF rCmd_1 rLet_1 rNum_1) H := hP
    have hD : va_D A (wX1 cI h0 h1 h2 h3 bN bF rCmd_1 rLet_1 rNum_1) := hD
    refine lv_icmp_ne (tgt := 28) hx hb dX1_isComplete_11 (by decide) (fun q3 => ?_) (fun q3 => ?_)
    · replace h := if_some q3 h
      refine lv_iconst (v := 0) hx hb dX1_isComplete_28 (by decide) ?_
      cases h
      exact ret_z hx hb hr hlocks hP hD hS dX1_isComplete_29 (Or.inl rfl) rfl
    · replace h := it_some q3 h
      refine lv_aload_n hx hb dX1_isComplete_14 rfl (lv_at hl 0 rfl) ?_
      refine va_get (D := D) (ci := 1) (v := .ref h3) (C := RX1) (T := TX1) (N := 2) hx hb hg uX1 hown hK.1 hP 0 rfl rfl 1 (by decide) (hg _ gw_236) (fun _ h9 => h9) rfl dX1_isComplete_15 ?_
      obtain ⟨r4, ec4, h⟩ := bd_some h
      refine cV_i (As := []) (rest := []) (wc := (wX5 cI h3 rCmd_1 rLet_1 rNum_1)) (wc' := (wX5 cI h3 rCmd_1 rLet_1 rNum_1)) hx hb hml hown hg hK hP hD hS hA hl.1 (k_X5_isAtEnd l D cI cS cL Z h3 rCmd_1 rLet_1 rNum_1 ec4) gm_X5_isAtEnd gw_892 ⟨rfl, rfl, by decide, by decide⟩ ⟨Nat.zero_le _, Nat.zero_le _⟩ [3] rfl rfl rfl rfl rfl rfl rfl rfl (Nat.le_of_ble_eq_true rfl) dX1_isComplete_18 (fun H locs hP hD hS => ?_)
      have hP : va_P D vwCl (wX1 cI h0 h1 h2 h3 bN bF rCmd_1 rLet_1 rNum_1) H := hP
      have hD : va_D A (wX1 cI h0 h1 h2 h3 bN bF rCmd_1 rLet_1 rNum_1) := hD
      refine lv_if_eq (tgt := 28) hx hb dX1_isComplete_21 (by decide) (fun q5 => ?_) (fun q5 => ?_)
      · replace h := it_some q5 h
        refine lv_iconst (v := 0) hx hb dX1_isComplete_28 (by decide) ?_
        cases h
        exact ret_z hx hb hr hlocks hP hD hS dX1_isComplete_29 (Or.inl rfl) rfl
      · replace h := if_some q5 h
        refine lv_iconst (v := 1) hx hb dX1_isComplete_24 (by decide) ?_
        refine lv_goto (tgt := 29) hx hb dX1_isComplete_25 (by decide) ?_
        cases h
        exact ret_z hx hb hr hlocks hP hD hS dX1_isComplete_29 (Or.inr rfl) rfl
  exact hmain _ _ hP hS
abbrev rm_X1_isEndOfCommand : Room := { frames := 1, cells := 0, slots := 0, locals := 21 }
def f_X1_isEndOfCommand (Z : Nat) (p1 : Int32) (bN : Int32) (bF : Nat → Int32) : Option (Int32) :=
  (f_X0_size Z 60 bN).bind fun r1 =>
  if p1 = r1 then
    some 1
  else
    (f_X0_at Z p1 60 bN bF).bind fun r3 =>
    if r3 = 59 then
      some 1
    else
      some 0
set_option maxRecDepth 100000 in
set_option maxHeartbeats 4000000 in
theorem k_X1_isEndOfCommand (l : Launch) (D : va_G) (cI cS cL : ClassId) (Z : Nat) (h0 : Nat) (h1 : Nat) (h2 : Nat) (h3 : Nat) (p1 : Int32) (bN : Int32) (bF : Nat → Int32) (rCmd : Int32) (rLet : Int32) (rNum : Int32) {r : Int32} (h : f_X1_isEndOfCommand Z p1 bN bF = some r) : CI l yX1_isEndOfCommand cX1_isEndOfCommand 2 (some .boolean) rm_X1_isEndOfCommand D cI cS cL [.ref h0, .int p1] (wX1 cI h0 h1 h2 h3 bN bF rCmd rLet rNum) (wX1 cI h0 h1 h2 h3 bN bF rCmd rLet rNum) r := by
  refine ent_i (by decide +kernel) (Nat.le_of_ble_eq_true rfl) ?_
  intro p e s m args below meth c A ls hx hb hr hml hlocks hg hown hK hP hD hS hA hl
  have hown : s.vm.findClass RX1 = some m.cls := hown
  have hl : lv_has ls 2 [(0, .ref h0), (1, .int p1)] := hl
  have hP : va_P D vwCl (wX1 cI h0 h1 h2 h3 bN bF rCmd rLet rNum) s.heap := hP
  have hD : va_D A (wX1 cI h0 h1 h2 h3 bN bF rCmd rLet rNum) := hD
  show W p l e rm_X1_isEndOfCommand s m args below meth c s.heap [] 0 0 (FI D below args s (wX1 cI h0 h1 h2 h3 bN bF rCmd rLet rNum) r A) (F0 m 0 ls [])
  unfold f_X1_isEndOfCommand at h
  have hmain : ∀ (H : Heap) (locs : List Loc), va_P D vwCl (wX1 cI h0 h1 h2 h3 bN bF rCmd rLet rNum) H → va_S A s.heap H locs → W p l e rm_X1_isEndOfCommand s m args below meth c H locs 0 0 (FI D below args s (wX1 cI h0 h1 h2 h3 bN bF rCmd rLet rNum) r A) (F0 m 0 ls []) := by
    intro H locs hP hS
    refine lv_iload_n hx hb dX1_isEndOfCommand_0 rfl (lv_at hl 1 rfl) ?_
    refine lv_aload_n hx hb dX1_isEndOfCommand_1 rfl (lv_at hl 0 rfl) ?_
    refine va_get (D := D) (ci := 1) (v := .ref h1) (C := RX1) (T := TX1) (N := 2) hx hb hg uX1 hown hK.1 hP 0 rfl rfl 0 (by decide) (hg _ gw_234) (fun _ h9 => h9) rfl dX1_isEndOfCommand_2 ?_
    obtain ⟨r1, ec1, h⟩ := bd_some h
    refine cV_i (As := []) (rest := [.int p1]) (wc := (wX0 cI h1 h2 60 bN bF)) (wc' := (wX0 cI h1 h2 60 bN bF)) hx hb hml hown hg hK hP hD hS hA hl.1 (k_X0_size l D cI cS cL Z h1 h2 60 bN bF ec1) gm_X0_size gw_426 ⟨rfl, rfl, by decide, by decide⟩ ⟨Nat.zero_le _, Nat.zero_le _⟩ [1, 2] rfl rfl rfl rfl rfl rfl rfl rfl (Nat.le_of_ble_eq_true rfl) dX1_isEndOfCommand_5 (fun H locs hP hD hS => ?_)
    have hP : va_P D vwCl (wX1 cI h0 h1 h2 h3 bN bF rCmd rLet rNum) H := hP
    have hD : va_D A (wX1 cI h0 h1 h2 h3 bN bF rCmd rLet rNum) := hD
    refine lv_icmp_eq (tgt := 24) hx hb dX1_isEndOfCommand_8 (by decide) (fun q2 => ?_) (fun q2 => ?_)
    · replace h := it_some q2 h
      refine lv_iconst (v := 1) hx hb dX1_isEndOfCommand_24 (by decide) ?_
      refine lv_goto (tgt := 29) hx hb dX1_isEndOfCommand_25 (by decide) ?_
      cases h
      exact ret_z hx hb hr hlocks hP hD hS dX1_isEndOfCommand_29 (Or.inr rfl) rfl
    · replace h := if_some q2 h
      refine lv_aload_n hx hb dX1_isEndOfCommand_11 rfl (lv_at hl 0 rfl) ?_
      refine va_get (D := D) (ci := 1) (v := .ref h1) (C := RX1) (T := TX1) (N := 2) hx hb hg uX1 hown hK.1 hP 0 rfl rfl 0 (by decide) (hg _ gw_234) (fun _ h9 => h9) rfl dX1_isEndOfCommand_12 ?_
      refine lv_iload_n hx hb dX1_isEndOfCommand_15 rfl (lv_at hl 1 rfl) ?_
      obtain ⟨r3, ec3, h⟩ := bd_some h
      refine cV_i (As := [.int p1]) (rest := []) (wc := (wX0 cI h1 h2 60 bN bF)) (wc' := (wX0 cI h1 h2 60 bN bF)) hx hb hml hown hg hK hP hD hS hA hl.1 (k_X0_at l D cI cS cL Z h1 h2 p1 60 bN bF ec3) gm_X0_at gw_427 ⟨rfl, rfl, by decide, by decide⟩ ⟨Nat.zero_le _, Nat.zero_le _⟩ [1, 2] rfl rfl rfl rfl rfl rfl rfl rfl (Nat.le_of_ble_eq_true rfl) dX1_isEndOfCommand_16 (fun H locs hP hD hS => ?_)
      have hP : va_P D vwCl (wX1 cI h0 h1 h2 h3 bN bF rCmd rLet rNum) H := hP
      have hD : va_D A (wX1 cI h0 h1 h2 h3 bN bF rCmd rLet rNum) := hD
      refine lv_bipush (v := 59) hx hb dX1_isEndOfCommand_19 (by decide) ?_
      refine lv_icmp_ne (tgt := 28) hx hb dX1_isEndOfCommand_21 (by decide) (fun q4 => ?_) (fun q4 => ?_)
      · replace h := if_some q4 h
        refine lv_iconst (v := 0) hx hb dX1_isEndOfCommand_28 (by decide) ?_
        cases h
        exact ret_z hx hb hr hlocks hP hD hS dX1_isEndOfCommand_29 (Or.inl rfl) rfl
      · replace h := it_some q4 h
        refine lv_iconst (v := 1) hx hb dX1_isEndOfCommand_24 (by decide) ?_
        refine lv_goto (tgt := 29) hx hb dX1_isEndOfCommand_25 (by decide) ?_
        cases h
        exact ret_z hx hb hr hlocks hP hD hS dX1_isEndOfCommand_29 (Or.inr rfl) rfl
  exact hmain _ _ hP hS
abbrev rm_X1_faultOn : Room := { frames := 3, cells := 0, slots := 0, locals := 63 }
def f_X1_faultOn (Z : Nat) (rCmd : Int32) (rLet : Int32) (rNum : Int32) (voCar : Int32) (toN : Int32) (coN : Int32) (moP : Nat → Int32) : Option (Int32) :=
  if rCmd = 43 then
    (f_X6_insertFault Z rLet toN).bind fun r2 =>
    some r2
  else if rCmd = 64 then
    (f_X6_positionFault Z rNum toN).bind fun r4 =>
    some r4
  else if rCmd = 110 then
    (f_X6_insertFault Z 1 toN).bind fun r6 =>
    some r6
  else if rCmd = 112 then
    (f_X6_pasteFault Z toN coN).bind fun r8 =>
    some r8
  else if rCmd = 120 then
    (f_X6_regionFault Z rNum voCar moP).bind fun r10 =>
    some r10
  else 
    some 0
set_option maxRecDepth 100000 in
set_option maxHeartbeats 4000000 in
theorem k_X1_faultOn (l : Launch) (D : va_G) (cI cS cL : ClassId) (Z : Nat) (h0 : Nat) (h1 : Nat) (h2 : Nat) (h3 : Nat) (h4 : Nat) (h5 : Nat) (h6 : Nat) (h7 : Nat) (h8 : Nat) (h9 : Nat) (h10 : Nat) (h11 : Nat) (h12 : Nat) (bN : Int32) (bF : Nat → Int32) (rCmd : Int32) (rLet : Int32) (rNum : Int32) (voCar : Int32) (voGoa : Int32) (voEag : Int32) (toN : Int32) (toF : Nat → Int32) (coN : Int32) (coF : Nat → Int32) (moP : Nat → Int32) (moS : Nat → Int32) (koCap : Int32) (koGap : Int32) (koCar : Int32) (koCop : Int32) (koGro : Int32) (koShr : Int32) {r : Int32} (h : f_X1_faultOn Z rCmd rLet rNum voCar toN coN moP = some r) : CI l yX1_faultOn cX1_faultOn 2 (some .int) rm_X1_faultOn D cI cS cL [.ref h0, .ref h4] (wX1 cI h0 h1 h2 h3 bN bF rCmd rLet rNum ++ wX6 cI h4 h5 h6 h7 h8 h9 h10 h11 h12 voCar voGoa voEag toN toF coN coF moP moS koCap koGap koCar koCop koGro koShr) (wX1 cI h0 h1 h2 h3 bN bF rCmd rLet rNum ++ wX6 cI h4 h5 h6 h7 h8 h9 h10 h11 h12 voCar voGoa voEag toN toF coN coF moP moS koCap koGap koCar koCop koGro koShr) r := by
  refine ent_i (by decide +kernel) (Nat.le_of_ble_eq_true rfl) ?_
  intro p e s m args below meth c A ls hx hb hr hml hlocks hg hown hK hP hD hS hA hl
  have hown : s.vm.findClass RX1 = some m.cls := hown
  have hl : lv_has ls 2 [(0, .ref h0), (1, .ref h4)] := hl
  have hP : va_P D vwCl (wX1 cI h0 h1 h2 h3 bN bF rCmd rLet rNum ++ wX6 cI h4 h5 h6 h7 h8 h9 h10 h11 h12 voCar voGoa voEag toN toF coN coF moP moS koCap koGap koCar koCop koGro koShr) s.heap := hP
  have hD : va_D A (wX1 cI h0 h1 h2 h3 bN bF rCmd rLet rNum ++ wX6 cI h4 h5 h6 h7 h8 h9 h10 h11 h12 voCar voGoa voEag toN toF coN coF moP moS koCap koGap koCar koCop koGro koShr) := hD
  show W p l e rm_X1_faultOn s m args below meth c s.heap [] 0 0 (FI D below args s (wX1 cI h0 h1 h2 h3 bN bF rCmd rLet rNum ++ wX6 cI h4 h5 h6 h7 h8 h9 h10 h11 h12 voCar voGoa voEag toN toF coN coF moP moS koCap koGap koCar koCop koGro koShr) r A) (F0 m 0 ls [])
  unfold f_X1_faultOn at h
  have hmain : ∀ (H : Heap) (locs : List Loc), va_P D vwCl (wX1 cI h0 h1 h2 h3 bN bF rCmd rLet rNum ++ wX6 cI h4 h5 h6 h7 h8 h9 h10 h11 h12 voCar voGoa voEag toN toF coN coF moP moS koCap koGap koCar koCop koGro koShr) H → va_S A s.heap H locs → W p l e rm_X1_faultOn s m args below meth c H locs 0 0 (FI D below args s (wX1 cI h0 h1 h2 h3 bN bF rCmd rLet rNum ++ wX6 cI h4 h5 h6 h7 h8 h9 h10 h11 h12 voCar voGoa voEag toN toF coN coF moP moS koCap koGap koCar koCop koGro koShr) r A) (F0 m 0 ls []) := by
    intro H locs hP hS
    refine lv_aload_n hx hb dX1_faultOn_0 rfl (lv_at hl 0 rfl) ?_
    refine va_get (D := D) (ci := 1) (v := .ref h3) (C := RX1) (T := TX1) (N := 2) hx hb hg uX1 hown hK.1 hP 0 rfl rfl 1 (by decide) (hg _ gw_236) (fun _ h9 => h9) rfl dX1_faultOn_1 ?_
    refine va_getN (D := D) (ci := 5) (v := .int rCmd) (C := RX5) (T := TX5) (N := 3) hx hb hg uX5 hown hK.1 hP 3 rfl rfl 0 (by decide) (kk_nest hK nw_222) (fun _ h9 => h9) rfl dX1_faultOn_4 ?_
    by_cases q1 : rCmd = 43
    · replace h := it_some q1 h
      refine lv_lookup (off := 49) (tgt := 56) hx hb dX1_faultOn_7 (by decide) (show Op.lookupswitch.offset [(43, 49), (64, 67), (110, 61), (112, 91), (120, 79)] 96 (rCmd).toInt = 49 from (osw_hit (k := 43) q1 rfl)) (by decide) ?_
      refine lv_aload_n hx hb dX1_faultOn_56 rfl (lv_at hl 1 rfl) ?_
      refine lv_aload_n hx hb dX1_faultOn_57 rfl (lv_at hl 0 rfl) ?_
      refine va_get (D := D) (ci := 1) (v := .ref h3) (C := RX1) (T := TX1) (N := 2) hx hb hg uX1 hown hK.1 hP 0 rfl rfl 1 (by decide) (hg _ gw_236) (fun _ h9 => h9) rfl dX1_faultOn_58 ?_
      refine va_getN (D := D) (ci := 5) (v := .int rLet) (C := RX5) (T := TX5) (N := 3) hx hb hg uX5 hown hK.1 hP 3 rfl rfl 1 (by decide) (kk_nest hK nw_224) (fun _ h9 => h9) rfl dX1_faultOn_61 ?_
      obtain ⟨r2, ec2, h⟩ := bd_some h
      refine cV_i (As := [.int rLet]) (rest := []) (wc := (wX6 cI h4 h5 h6 h7 h8 h9 h10 h11 h12 voCar voGoa voEag toN toF coN coF moP moS koCap koGap koCar koCop koGro koShr)) (wc' := (wX6 cI h4 h5 h6 h7 h8 h9 h10 h11 h12 voCar voGoa voEag toN toF coN coF moP moS koCap koGap koCar koCop koGro koShr)) hx hb hml hown hg hK hP hD hS hA hl.1 (k_X6_insertFault l D cI cS cL Z h4 h5 h6 h7 h8 h9 h10 h11 h12 rLet voCar voGoa voEag toN toF coN coF moP moS koCap koGap koCar koCop koGro koShr ec2) gm_X6_insertFault gw_905 ⟨rfl, rfl, by decide, by decide⟩ ⟨Nat.zero_le _, Nat.zero_le _⟩ [4, 5, 6, 7, 8, 9, 10, 11, 12] rfl rfl rfl rfl rfl rfl rfl rfl (Nat.le_of_ble_eq_true rfl) dX1_faultOn_64 (fun H locs hP hD hS => ?_)
      have hP : va_P D vwCl (wX1 cI h0 h1 h2 h3 bN bF rCmd rLet rNum ++ wX6 cI h4 h5 h6 h7 h8 h9 h10 h11 h12 voCar voGoa voEag toN toF coN coF moP moS koCap koGap koCar koCop koGro koShr) H := hP
      have hD : va_D A (wX1 cI h0 h1 h2 h3 bN bF rCmd rLet rNum ++ wX6 cI h4 h5 h6 h7 h8 h9 h10 h11 h12 voCar voGoa voEag toN toF coN coF moP moS koCap koGap koCar koCop koGro koShr) := hD
      cases h
      exact ret_i hx hb hr hlocks hP hD hS dX1_faultOn_67 rfl
    replace h := if_some q1 h
    by_cases q3 : rCmd = 64
    · replace h := it_some q3 h
      refine lv_lookup (off := 67) (tgt := 74) hx hb dX1_faultOn_7 (by decide) (show Op.lookupswitch.offset [(43, 49), (64, 67), (110, 61), (112, 91), (120, 79)] 96 (rCmd).toInt = 67 from ((lv_osw (k := 43) q1 rfl).trans (osw_hit (k := 64) q3 rfl))) (by decide) ?_
      refine lv_aload_n hx hb dX1_faultOn_74 rfl (lv_at hl 1 rfl) ?_
      refine lv_aload_n hx hb dX1_faultOn_75 rfl (lv_at hl 0 rfl) ?_
      refine va_get (D := D) (ci := 1) (v := .ref h3) (C := RX1) (T := TX1) (N := 2) hx hb hg uX1 hown hK.1 hP 0 rfl rfl 1 (by decide) (hg _ gw_236) (fun _ h9 => h9) rfl dX1_faultOn_76 ?_
      refine va_getN (D := D) (ci := 5) (v := .int rNum) (C := RX5) (T := TX5) (N := 3) hx hb hg uX5 hown hK.1 hP 3 rfl rfl 2 (by decide) (kk_nest hK nw_226) (fun _ h9 => h9) rfl dX1_faultOn_79 ?_
      obtain ⟨r4, ec4, h⟩ := bd_some h
      refine cV_i (As := [.int rNum]) (rest := []) (wc := (wX6 cI h4 h5 h6 h7 h8 h9 h10 h11 h12 voCar voGoa voEag toN toF coN coF moP moS koCap koGap koCar koCop koGro koShr)) (wc' := (wX6 cI h4 h5 h6 h7 h8 h9 h10 h11 h12 voCar voGoa voEag toN toF coN coF moP moS koCap koGap koCar koCop koGro koShr)) hx hb hml hown hg hK hP hD hS hA hl.1 (k_X6_positionFault l D cI cS cL Z h4 h5 h6 h7 h8 h9 h10 h11 h12 rNum voCar voGoa voEag toN toF coN coF moP moS koCap koGap koCar koCop koGro koShr ec4) gm_X6_positionFault gw_906 ⟨rfl, rfl, by decide, by decide⟩ ⟨Nat.zero_le _, Nat.zero_le _⟩ [4, 5, 6, 7, 8, 9, 10, 11, 12] rfl rfl rfl rfl rfl rfl rfl rfl (Nat.le_of_ble_eq_true rfl) dX1_faultOn_82 (fun H locs hP hD hS => ?_)
      have hP : va_P D vwCl (wX1 cI h0 h1 h2 h3 bN bF rCmd rLet rNum ++ wX6 cI h4 h5 h6 h7 h8 h9 h10 h11 h12 voCar voGoa voEag toN toF coN coF moP moS koCap koGap koCar koCop koGro koShr) H := hP
      have hD : va_D A (wX1 cI h0 h1 h2 h3 bN bF rCmd rLet rNum ++ wX6 cI h4 h5 h6 h7 h8 h9 h10 h11 h12 voCar voGoa voEag toN toF coN coF moP moS koCap koGap koCar koCop koGro koShr) := hD
      cases h
      exact ret_i hx hb hr hlocks hP hD hS dX1_faultOn_85 rfl
    replace h := if_some q3 h
    by_cases q5 : rCmd = 110
    · replace h := it_some q5 h
      refine lv_lookup (off := 61) (tgt := 68) hx hb dX1_faultOn_7 (by decide) (show Op.lookupswitch.offset [(43, 49), (64, 67), (110, 61), (112, 91), (120, 79)] 96 (rCmd).toInt = 61 from ((lv_osw (k := 43) q1 rfl).trans ((lv_osw (k := 64) q3 rfl).trans (osw_hit (k := 110) q5 rfl)))) (by decide) ?_
      refine lv_aload_n hx hb dX1_faultOn_68 rfl (lv_at hl 1 rfl) ?_
      refine lv_iconst (v := 1) hx hb dX1_faultOn_69 (by decide) ?_
      obtain ⟨r6, ec6, h⟩ := bd_some h
      refine cV_i (As := [.int 1]) (rest := []) (wc := (wX6 cI h4 h5 h6 h7 h8 h9 h10 h11 h12 voCar voGoa voEag toN toF coN coF moP moS koCap koGap koCar koCop koGro koShr)) (wc' := (wX6 cI h4 h5 h6 h7 h8 h9 h10 h11 h12 voCar voGoa voEag toN toF coN coF moP moS koCap koGap koCar koCop koGro koShr)) hx hb hml hown hg hK hP hD hS hA hl.1 (k_X6_insertFault l D cI cS cL Z h4 h5 h6 h7 h8 h9 h10 h11 h12 1 voCar voGoa voEag toN toF coN coF moP moS koCap koGap koCar koCop koGro koShr ec6) gm_X6_insertFault gw_905 ⟨rfl, rfl, by decide, by decide⟩ ⟨Nat.zero_le _, Nat.zero_le _⟩ [4, 5, 6, 7, 8, 9, 10, 11, 12] rfl rfl rfl rfl rfl rfl rfl rfl (Nat.le_of_ble_eq_true rfl) dX1_faultOn_70 (fun H locs hP hD hS => ?_)
      have hP : va_P D vwCl (wX1 cI h0 h1 h2 h3 bN bF rCmd rLet rNum ++ wX6 cI h4 h5 h6 h7 h8 h9 h10 h11 h12 voCar voGoa voEag toN toF coN coF moP moS koCap koGap koCar koCop koGro koShr) H := hP
      have hD : va_D A (wX1 cI h0 h1 h2 h3 bN bF rCmd rLet rNum ++ wX6 cI h4 h5 h6 h7 h8 h9 h10 h11 h12 voCar voGoa voEag toN toF coN coF moP moS koCap koGap koCar koCop koGro koShr) := hD
      cases h
      exact ret_i hx hb hr hlocks hP hD hS dX1_faultOn_73 rfl
    replace h := if_some q5 h
    by_cases q7 : rCmd = 112
    · replace h := it_some q7 h
      refine lv_lookup (off := 91) (tgt := 98) hx hb dX1_faultOn_7 (by decide) (show Op.lookupswitch.offset [(43, 49), (64, 67), (110, 61), (112, 91), (120, 79)] 96 (rCmd).toInt = 91 from ((lv_osw (k := 43) q1 rfl).trans ((lv_osw (k := 64) q3 rfl).trans ((lv_osw (k := 110) q5 rfl).trans (osw_hit (k := 112) q7 rfl))))) (by decide) ?_
      refine lv_aload_n hx hb dX1_faultOn_98 rfl (lv_at hl 1 rfl) ?_
      obtain ⟨r8, ec8, h⟩ := bd_some h
      refine cV_i (As := []) (rest := []) (wc := (wX6 cI h4 h5 h6 h7 h8 h9 h10 h11 h12 voCar voGoa voEag toN toF coN coF moP moS koCap koGap koCar koCop koGro koShr)) (wc' := (wX6 cI h4 h5 h6 h7 h8 h9 h10 h11 h12 voCar voGoa voEag toN toF coN coF moP moS koCap koGap koCar koCop koGro koShr)) hx hb hml hown hg hK hP hD hS hA hl.1 (k_X6_pasteFault l D cI cS cL Z h4 h5 h6 h7 h8 h9 h10 h11 h12 voCar voGoa voEag toN toF coN coF moP moS koCap koGap koCar koCop koGro koShr ec8) gm_X6_pasteFault gw_911 ⟨rfl, rfl, by decide, by decide⟩ ⟨Nat.zero_le _, Nat.zero_le _⟩ [4, 5, 6, 7, 8, 9, 10, 11, 12] rfl rfl rfl rfl rfl rfl rfl rfl (Nat.le_of_ble_eq_true rfl) dX1_faultOn_99 (fun H locs hP hD hS => ?_)
      have hP : va_P D vwCl (wX1 cI h0 h1 h2 h3 bN bF rCmd rLet rNum ++ wX6 cI h4 h5 h6 h7 h8 h9 h10 h11 h12 voCar voGoa voEag toN toF coN coF moP moS koCap koGap koCar koCop koGro koShr) H := hP
      have hD : va_D A (wX1 cI h0 h1 h2 h3 bN bF rCmd rLet rNum ++ wX6 cI h4 h5 h6 h7 h8 h9 h10 h11 h12 voCar voGoa voEag toN toF coN coF moP moS koCap koGap koCar koCop koGro koShr) := hD
      cases h
      exact ret_i hx hb hr hlocks hP hD hS dX1_faultOn_102 rfl
    replace h := if_some q7 h
    by_cases q9 : rCmd = 120
    · replace h := it_some q9 h
      refine lv_lookup (off := 79) (tgt := 86) hx hb dX1_faultOn_7 (by decide) (show Op.lookupswitch.offset [(43, 49), (64, 67), (110, 61), (112, 91), (120, 79)] 96 (rCmd).toInt = 79 from ((lv_osw (k := 43) q1 rfl).trans ((lv_osw (k := 64) q3 rfl).trans ((lv_osw (k := 110) q5 rfl).trans ((lv_osw (k := 112) q7 rfl).trans (osw_hit (k := 120) q9 rfl)))))) (by decide) ?_
      refine lv_aload_n hx hb dX1_faultOn_86 rfl (lv_at hl 1 rfl) ?_
      refine lv_aload_n hx hb dX1_faultOn_87 rfl (lv_at hl 0 rfl) ?_
      refine va_get (D := D) (ci := 1) (v := .ref h3) (C := RX1) (T := TX1) (N := 2) hx hb hg uX1 hown hK.1 hP 0 rfl rfl 1 (by decide) (hg _ gw_236) (fun _ h9 => h9) rfl dX1_faultOn_88 ?_
      refine va_getN (D := D) (ci := 5) (v := .int rNum) (C := RX5) (T := TX5) (N := 3) hx hb hg uX5 hown hK.1 hP 3 rfl rfl 2 (by decide) (kk_nest hK nw_226) (fun _ h9 => h9) rfl dX1_faultOn_91 ?_
      obtain ⟨r10, ec10, h⟩ := bd_some h
      refine cV_i (As := [.int rNum]) (rest := []) (wc := (wX6 cI h4 h5 h6 h7 h8 h9 h10 h11 h12 voCar voGoa voEag toN toF coN coF moP moS koCap koGap koCar koCop koGro koShr)) (wc' := (wX6 cI h4 h5 h6 h7 h8 h9 h10 h11 h12 voCar voGoa voEag toN toF coN coF moP moS koCap koGap koCar koCop koGro koShr)) hx hb hml hown hg hK hP hD hS hA hl.1 (k_X6_regionFault l D cI cS cL Z h4 h5 h6 h7 h8 h9 h10 h11 h12 rNum voCar voGoa voEag toN toF coN coF moP moS koCap koGap koCar koCop koGro koShr ec10) gm_X6_regionFault gw_910 ⟨rfl, rfl, by decide, by decide⟩ ⟨Nat.zero_le _, Nat.zero_le _⟩ [4, 5, 6, 7, 8, 9, 10, 11, 12] rfl rfl rfl rfl rfl rfl rfl rfl (Nat.le_of_ble_eq_true rfl) dX1_faultOn_94 (fun H locs hP hD hS => ?_)
      have hP : va_P D vwCl (wX1 cI h0 h1 h2 h3 bN bF rCmd rLet rNum ++ wX6 cI h4 h5 h6 h7 h8 h9 h10 h11 h12 voCar voGoa voEag toN toF coN coF moP moS koCap koGap koCar koCop koGro koShr) H := hP
      have hD : va_D A (wX1 cI h0 h1 h2 h3 bN bF rCmd rLet rNum ++ wX6 cI h4 h5 h6 h7 h8 h9 h10 h11 h12 voCar voGoa voEag toN toF coN coF moP moS koCap koGap koCar koCop koGro koShr) := hD
      cases h
      exact ret_i hx hb hr hlocks hP hD hS dX1_faultOn_97 rfl
    replace h := if_some q9 h
    refine lv_lookup (off := 96) (tgt := 103) hx hb dX1_faultOn_7 (by decide) (show Op.lookupswitch.offset [(43, 49), (64, 67), (110, 61), (112, 91), (120, 79)] 96 (rCmd).toInt = 96 from ((lv_osw (k := 43) q1 rfl).trans ((lv_osw (k := 64) q3 rfl).trans ((lv_osw (k := 110) q5 rfl).trans ((lv_osw (k := 112) q7 rfl).trans ((lv_osw (k := 120) q9 rfl).trans rfl)))))) (by decide) ?_
    refine lv_iconst (v := 0) hx hb dX1_faultOn_103 (by decide) ?_
    cases h
    exact ret_i hx hb hr hlocks hP hD hS dX1_faultOn_104 rfl
  exact hmain _ _ hP hS
abbrev rm_X1_execute : Room := { frames := 5, cells := 0, slots := 0, locals := 114 }
def f_X1_execute (Z : Nat) (p2 : Int32) (bN : Int32) (bF : Nat → Int32) (rCmd : Int32) (rLet : Int32) (rNum : Int32) (voCar : Int32) (voGoa : Int32) (voEag : Int32) (toN : Int32) (toF : Nat → Int32) (coN : Int32) (coF : Nat → Int32) (moP : Nat → Int32) (moS : Nat → Int32) (koCap : Int32) (koGap : Int32) (koCar : Int32) (koCop : Int32) (koGro : Int32) (koShr : Int32) : Option (Int32 × Int32 × Int32 × (Nat → Int32) × Int32 × (Nat → Int32) × (Nat → Int32) × (Nat → Int32) × Int32 × Int32 × Int32 × Int32 × Int32 × Int32) :=
  if rCmd = 43 then
    (f_X6_insertPart Z (p2 - rLet) rLet 60 voCar voGoa toN toF moP moS koCap koGap koCar koCop koGro bN bF).bind fun (voCar_2, voGoa_2, toN_2, toF_2, moP_2, koCap_2, koGap_2, koCar_2, koCop_2, koGro_2) =>
    some (voCar_2, voGoa_2, toN_2, toF_2, coN, coF, moP_2, moS, koCap_2, koGap_2, koCar_2, koCop_2, koGro_2, koShr)
  else if rCmd = 45 then
    (f_X6_deleteBehind Z rNum voCar voGoa toN toF moP koCap koGap koCar koCop koShr).bind fun (r4, voCar_4, voGoa_4, toN_4, toF_4, moP_4, koCap_4, koGap_4, koCar_4, koCop_4, koShr_4) =>
    some (voCar_4, voGoa_4, toN_4, toF_4, coN, coF, moP_4, moS, koCap_4, koGap_4, koCar_4, koCop_4, koGro, koShr_4)
  else if rCmd = 60 then
    (f_X6_deleteBefore Z rNum voCar voGoa toN toF moP koCap koGap koCar koCop koShr).bind fun (r6, voCar_6, voGoa_6, toN_6, toF_6, moP_6, koCap_6, koGap_6, koCar_6, koCop_6, koShr_6) =>
    some (voCar_6, voGoa_6, toN_6, toF_6, coN, coF, moP_6, moS, koCap_6, koGap_6, koCar_6, koCop_6, koGro, koShr_6)
  else if rCmd = 64 then
    (f_X6_moveCaret Z rNum voCar voGoa voEag toN toF koGap koCar).bind fun (r8, voCar_8, voGoa_8, koGap_8, koCar_8) =>
    some (voCar_8, voGoa_8, toN, toF, coN, coF, moP, moS, koCap, koGap_8, koCar_8, koCop, koGro, koShr)
  else if rCmd = 109 then
    (f_X4_place Z rNum voCar 1 moP moS).bind fun (moP_10, moS_10) =>
    some (voCar, voGoa, toN, toF, coN, coF, moP_10, moS_10, koCap, koGap, koCar, koCop, koGro, koShr)
  else if rCmd = 110 then
    (f_X6_insertRepeated Z 10 1 voCar voGoa toN toF moP moS koCap koGap koCar koCop koGro).bind fun (voCar_12, voGoa_12, toN_12, toF_12, moP_12, koCap_12, koGap_12, koCar_12, koCop_12, koGro_12) =>
    some (voCar_12, voGoa_12, toN_12, toF_12, coN, coF, moP_12, moS, koCap_12, koGap_12, koCar_12, koCop_12, koGro_12, koShr)
  else if rCmd = 112 then
    (f_X0_size Z 60 coN).bind fun r14 =>
    (f_X6_insertPart_s Z 0 r14 voCar voGoa toN toF coN coF moP moS koCap koGap koCar koCop koGro).bind fun (voCar_15, voGoa_15, toN_15, toF_15, moP_15, koCap_15, koGap_15, koCar_15, koCop_15, koGro_15) =>
    some (voCar_15, voGoa_15, toN_15, toF_15, coN, coF, moP_15, moS, koCap_15, koGap_15, koCar_15, koCop_15, koGro_15, koShr)
  else if rCmd = 120 then
    (f_X6_cutRegion Z rNum voCar voGoa toN toF coN coF moP koCap koGap koCar koCop koShr).bind fun (voCar_17, voGoa_17, toN_17, toF_17, coN_17, coF_17, moP_17, koCap_17, koGap_17, koCar_17, koCop_17, koShr_17) =>
    some (voCar_17, voGoa_17, toN_17, toF_17, coN_17, coF_17, moP_17, moS, koCap_17, koGap_17, koCar_17, koCop_17, koGro, koShr_17)
  else 
    some (voCar, voGoa, toN, toF, coN, coF, moP, moS, koCap, koGap, koCar, koCop, koGro, koShr)
set_option maxRecDepth 100000 in
set_option maxHeartbeats 4000000 in
theorem k_X1_execute (l : Launch) (D : va_G) (cI cS cL : ClassId) (Z : Nat) (h0 : Nat) (h1 : Nat) (h2 : Nat) (h3 : Nat) (h4 : Nat) (h5 : Nat) (h6 : Nat) (h7 : Nat) (h8 : Nat) (h9 : Nat) (h10 : Nat) (h11 : Nat) (h12 : Nat) (p2 : Int32) (bN : Int32) (bF : Nat → Int32) (rCmd : Int32) (rLet : Int32) (rNum : Int32) (voCar : Int32) (voGoa : Int32) (voEag : Int32) (toN : Int32) (toF : Nat → Int32) (coN : Int32) (coF : Nat → Int32) (moP : Nat → Int32) (moS : Nat → Int32) (koCap : Int32) (koGap : Int32) (koCar : Int32) (koCop : Int32) (koGro : Int32) (koShr : Int32) {voCar' : Int32} {voGoa' : Int32} {toN' : Int32} {toF' : Nat → Int32} {coN' : Int32} {coF' : Nat → Int32} {moP' : Nat → Int32} {moS' : Nat → Int32} {koCap' : Int32} {koGap' : Int32} {koCar' : Int32} {koCop' : Int32} {koGro' : Int32} {koShr' : Int32} (h : f_X1_execute Z p2 bN bF rCmd rLet rNum voCar voGoa voEag toN toF coN coF moP moS koCap koGap koCar koCop koGro koShr = some (voCar', voGoa', toN', toF', coN', coF', moP', moS', koCap', koGap', koCar', koCop', koGro', koShr')) : CV l yX1_execute cX1_execute 3 none rm_X1_execute D cI cS cL [.ref h0, .ref h4, .int p2] (wX1 cI h0 h1 h2 h3 bN bF rCmd rLet rNum ++ wX6 cI h4 h5 h6 h7 h8 h9 h10 h11 h12 voCar voGoa voEag toN toF coN coF moP moS koCap koGap koCar koCop koGro koShr) (wX1 cI h0 h1 h2 h3 bN bF rCmd rLet rNum ++ wX6 cI h4 h5 h6 h7 h8 h9 h10 h11 h12 (voCar') (voGoa') voEag (toN') (toF') (coN') (coF') (moP') (moS') (koCap') (koGap') (koCar') (koCop') (koGro') (koShr')) := by
  refine ent_v (by decide +kernel) (Nat.le_of_ble_eq_true rfl) ?_
  intro p e s m args below meth c A ls hx hb hr hml hlocks hg hown hK hP hD hS hA hl
  have hown : s.vm.findClass RX1 = some m.cls := hown
  have hl : lv_has ls 3 [(0, .ref h0), (1, .ref h4), (2, .int p2)] := hl
  have hP : va_P D vwCl (wX1 cI h0 h1 h2 h3 bN bF rCmd rLet rNum ++ wX6 cI h4 h5 h6 h7 h8 h9 h10 h11 h12 voCar voGoa voEag toN toF coN coF moP moS koCap koGap koCar koCop koGro koShr) s.heap := hP
  have hD : va_D A (wX1 cI h0 h1 h2 h3 bN bF rCmd rLet rNum ++ wX6 cI h4 h5 h6 h7 h8 h9 h10 h11 h12 voCar voGoa voEag toN toF coN coF moP moS koCap koGap koCar koCop koGro koShr) := hD
  show W p l e rm_X1_execute s m args below meth c s.heap [] 0 0 (FV D below args s (wX1 cI h0 h1 h2 h3 bN bF rCmd rLet rNum ++ wX6 cI h4 h5 h6 h7 h8 h9 h10 h11 h12 (voCar') (voGoa') voEag (toN') (toF') (coN') (coF') (moP') (moS') (koCap') (koGap') (koCar') (koCop') (koGro') (koShr')) A) (F0 m 0 ls [])
  unfold f_X1_execute at h
  have hmain : ∀ (H : Heap) (locs : List Loc), va_P D vwCl (wX1 cI h0 h1 h2 h3 bN bF rCmd rLet rNum ++ wX6 cI h4 h5 h6 h7 h8 h9 h10 h11 h12 voCar voGoa voEag toN toF coN coF moP moS koCap koGap koCar koCop koGro koShr) H → va_S A s.heap H locs → W p l e rm_X1_execute s m args below meth c H locs 0 0 (FV D below args s (wX1 cI h0 h1 h2 h3 bN bF rCmd rLet rNum ++ wX6 cI h4 h5 h6 h7 h8 h9 h10 h11 h12 (voCar') (voGoa') voEag (toN') (toF') (coN') (coF') (moP') (moS') (koCap') (koGap') (koCar') (koCop') (koGro') (koShr')) A) (F0 m 0 ls []) := by
    intro H locs hP hS
    refine lv_aload_n hx hb dX1_execute_0 rfl (lv_at hl 0 rfl) ?_
    refine va_get (D := D) (ci := 1) (v := .ref h3) (C := RX1) (T := TX1) (N := 2) hx hb hg uX1 hown hK.1 hP 0 rfl rfl 1 (by decide) (hg _ gw_236) (fun _ h9 => h9) rfl dX1_execute_1 ?_
    refine va_getN (D := D) (ci := 5) (v := .int rCmd) (C := RX5) (T := TX5) (N := 3) hx hb hg uX5 hown hK.1 hP 3 rfl rfl 0 (by decide) (kk_nest hK nw_222) (fun _ h9 => h9) rfl dX1_execute_4 ?_
    by_cases q1 : rCmd = 43
    · replace h := it_some q1 h
      refine lv_lookup (off := 73) (tgt := 80) hx hb dX1_execute_7 (by decide) (show Op.lookupswitch.offset [(43, 73), (45, 110), (60, 125), (64, 140), (109, 155), (110, 100), (112, 191), (120, 177)] 210 (rCmd).toInt = 73 from (osw_hit (k := 43) q1 rfl)) (by decide) ?_
      refine lv_aload_n hx hb dX1_execute_80 rfl (lv_at hl 1 rfl) ?_
      refine lv_aload_n hx hb dX1_execute_81 rfl (lv_at hl 0 rfl) ?_
      refine va_get (D := D) (ci := 1) (v := .ref h1) (C := RX1) (T := TX1) (N := 2) hx hb hg uX1 hown hK.1 hP 0 rfl rfl 0 (by decide) (hg _ gw_234) (fun _ h9 => h9) rfl dX1_execute_82 ?_
      refine lv_iload_n hx hb dX1_execute_85 rfl (lv_at hl 2 rfl) ?_
      refine lv_aload_n hx hb dX1_execute_86 rfl (lv_at hl 0 rfl) ?_
      refine va_get (D := D) (ci := 1) (v := .ref h3) (C := RX1) (T := TX1) (N := 2) hx hb hg uX1 hown hK.1 hP 0 rfl rfl 1 (by decide) (hg _ gw_236) (fun _ h9 => h9) rfl dX1_execute_87 ?_
      refine va_getN (D := D) (ci := 5) (v := .int rLet) (C := RX5) (T := TX5) (N := 3) hx hb hg uX5 hown hK.1 hP 3 rfl rfl 1 (by decide) (kk_nest hK nw_224) (fun _ h9 => h9) rfl dX1_execute_90 ?_
      refine lv_isub hx hb dX1_execute_93 ?_
      refine lv_aload_n hx hb dX1_execute_94 rfl (lv_at hl 0 rfl) ?_
      refine va_get (D := D) (ci := 1) (v := .ref h3) (C := RX1) (T := TX1) (N := 2) hx hb hg uX1 hown hK.1 hP 0 rfl rfl 1 (by decide) (hg _ gw_236) (fun _ h9 => h9) rfl dX1_execute_95 ?_
      refine va_getN (D := D) (ci := 5) (v := .int rLet) (C := RX5) (T := TX5) (N := 3) hx hb hg uX5 hown hK.1 hP 3 rfl rfl 1 (by decide) (kk_nest hK nw_224) (fun _ h9 => h9) rfl dX1_execute_98 ?_
      obtain ⟨⟨voCar_2, voGoa_2, toN_2, toF_2, moP_2, koCap_2, koGap_2, koCar_2, koCop_2, koGro_2⟩, ec2, h⟩ := bd_some h
      refine cV_v (As := [.ref h1, .int (p2 - rLet), .int rLet]) (rest := []) (wc := (wX6 cI h4 h5 h6 h7 h8 h9 h10 h11 h12 voCar voGoa voEag toN toF coN coF moP moS koCap koGap koCar koCop koGro koShr ++ wX0 cI h1 h2 60 bN bF)) (wc' := (wX6 cI h4 h5 h6 h7 h8 h9 h10 h11 h12 voCar_2 voGoa_2 voEag toN_2 toF_2 coN coF moP_2 moS koCap_2 koGap_2 koCar_2 koCop_2 koGro_2 koShr ++ wX0 cI h1 h2 60 bN bF)) hx hb hml hown hg hK hP hD hS hA hl.1 (k_X6_insertPart l D cI cS cL Z h4 h5 h6 h7 h8 h9 h10 h11 h12 h1 h2 (p2 - rLet) rLet 60 voCar voGoa voEag toN toF coN coF moP moS koCap koGap koCar koCop koGro koShr bN bF ec2) gm_X6_insertPart gw_916 ⟨rfl, rfl, by decide, by decide⟩ ⟨Nat.zero_le _, Nat.zero_le _⟩ [4, 5, 6, 7, 8, 9, 10, 11, 12, 1, 2] rfl rfl rfl rfl rfl rfl rfl rfl (Nat.le_of_ble_eq_true rfl) dX1_execute_101 (fun H locs hP hD hS => ?_)
      have hP : va_P D vwCl (wX1 cI h0 h1 h2 h3 bN bF rCmd rLet rNum ++ wX6 cI h4 h5 h6 h7 h8 h9 h10 h11 h12 voCar_2 voGoa_2 voEag toN_2 toF_2 coN coF moP_2 moS koCap_2 koGap_2 koCar_2 koCop_2 koGro_2 koShr) H := hP
      have hD : va_D A (wX1 cI h0 h1 h2 h3 bN bF rCmd rLet rNum ++ wX6 cI h4 h5 h6 h7 h8 h9 h10 h11 h12 voCar_2 voGoa_2 voEag toN_2 toF_2 coN coF moP_2 moS koCap_2 koGap_2 koCar_2 koCop_2 koGro_2 koShr) := hD
      refine lv_goto (tgt := 217) hx hb dX1_execute_104 (by decide) ?_
      cases h
      exact ret_v hx hb hr hlocks hP hD hS dX1_execute_217
    replace h := if_some q1 h
    by_cases q3 : rCmd = 45
    · replace h := it_some q3 h
      refine lv_lookup (off := 110) (tgt := 117) hx hb dX1_execute_7 (by decide) (show Op.lookupswitch.offset [(43, 73), (45, 110), (60, 125), (64, 140), (109, 155), (110, 100), (112, 191), (120, 177)] 210 (rCmd).toInt = 110 from ((lv_osw (k := 43) q1 rfl).trans (osw_hit (k := 45) q3 rfl))) (by decide) ?_
      refine lv_aload_n hx hb dX1_execute_117 rfl (lv_at hl 1 rfl) ?_
      refine lv_aload_n hx hb dX1_execute_118 rfl (lv_at hl 0 rfl) ?_
      refine va_get (D := D) (ci := 1) (v := .ref h3) (C := RX1) (T := TX1) (N := 2) hx hb hg uX1 hown hK.1 hP 0 rfl rfl 1 (by decide) (hg _ gw_236) (fun _ h9 => h9) rfl dX1_execute_119 ?_
      refine va_getN (D := D) (ci := 5) (v := .int rNum) (C := RX5) (T := TX5) (N := 3) hx hb hg uX5 hown hK.1 hP 3 rfl rfl 2 (by decide) (kk_nest hK nw_226) (fun _ h9 => h9) rfl dX1_execute_122 ?_
      obtain ⟨⟨r4, voCar_4, voGoa_4, toN_4, toF_4, moP_4, koCap_4, koGap_4, koCar_4, koCop_4, koShr_4⟩, ec4, h⟩ := bd_some h
      refine cV_i (As := [.int rNum]) (rest := []) (wc := (wX6 cI h4 h5 h6 h7 h8 h9 h10 h11 h12 voCar voGoa voEag toN toF coN coF moP moS koCap koGap koCar koCop koGro koShr)) (wc' := (wX6 cI h4 h5 h6 h7 h8 h9 h10 h11 h12 voCar_4 voGoa_4 voEag toN_4 toF_4 coN coF moP_4 moS koCap_4 koGap_4 koCar_4 koCop_4 koGro koShr_4)) hx hb hml hown hg hK hP hD hS hA hl.1 (k_X6_deleteBehind l D cI cS cL Z h4 h5 h6 h7 h8 h9 h10 h11 h12 rNum voCar voGoa voEag toN toF coN coF moP moS koCap koGap koCar koCop koGro koShr ec4) gm_X6_deleteBehind gw_918 ⟨rfl, rfl, by decide, by decide⟩ ⟨Nat.zero_le _, Nat.zero_le _⟩ [4, 5, 6, 7, 8, 9, 10, 11, 12] rfl rfl rfl rfl rfl rfl rfl rfl (Nat.le_of_ble_eq_true rfl) dX1_execute_125 (fun H locs hP hD hS => ?_)
      have hP : va_P D vwCl (wX1 cI h0 h1 h2 h3 bN bF rCmd rLet rNum ++ wX6 cI h4 h5 h6 h7 h8 h9 h10 h11 h12 voCar_4 voGoa_4 voEag toN_4 toF_4 coN coF moP_4 moS koCap_4 koGap_4 koCar_4 koCop_4 koGro koShr_4) H := hP
      have hD : va_D A (wX1 cI h0 h1 h2 h3 bN bF rCmd rLet rNum ++ wX6 cI h4 h5 h6 h7 h8 h9 h10 h11 h12 voCar_4 voGoa_4 voEag toN_4 toF_4 coN coF moP_4 moS koCap_4 koGap_4 koCar_4 koCop_4 koGro koShr_4) := hD
      refine lv_pop hx hb dX1_execute_128 rfl ?_
      refine lv_goto (tgt := 217) hx hb dX1_execute_129 (by decide) ?_
      cases h
      exact ret_v hx hb hr hlocks hP hD hS dX1_execute_217
    replace h := if_some q3 h
    by_cases q5 : rCmd = 60
    · replace h := it_some q5 h
      refine lv_lookup (off := 125) (tgt := 132) hx hb dX1_execute_7 (by decide) (show Op.lookupswitch.offset [(43, 73), (45, 110), (60, 125), (64, 140), (109, 155), (110, 100), (112, 191), (120, 177)] 210 (rCmd).toInt = 125 from ((lv_osw (k := 43) q1 rfl).trans ((lv_osw (k := 45) q3 rfl).trans (osw_hit (k := 60) q5 rfl)))) (by decide) ?_
      refine lv_aload_n hx hb dX1_execute_132 rfl (lv_at hl 1 rfl) ?_
      refine lv_aload_n hx hb dX1_execute_133 rfl (lv_at hl 0 rfl) ?_
      refine va_get (D := D) (ci := 1) (v := .ref h3) (C := RX1) (T := TX1) (N := 2) hx hb hg uX1 hown hK.1 hP 0 rfl rfl 1 (by decide) (hg _ gw_236) (fun _ h9 => h9) rfl dX1_execute_134 ?_
      refine va_getN (D := D) (ci := 5) (v := .int rNum) (C := RX5) (T := TX5) (N := 3) hx hb hg uX5 hown hK.1 hP 3 rfl rfl 2 (by decide) (kk_nest hK nw_226) (fun _ h9 => h9) rfl dX1_execute_137 ?_
      obtain ⟨⟨r6, voCar_6, voGoa_6, toN_6, toF_6, moP_6, koCap_6, koGap_6, koCar_6, koCop_6, koShr_6⟩, ec6, h⟩ := bd_some h
      refine cV_i (As := [.int rNum]) (rest := []) (wc := (wX6 cI h4 h5 h6 h7 h8 h9 h10 h11 h12 voCar voGoa voEag toN toF coN coF moP moS koCap koGap koCar koCop koGro koShr)) (wc' := (wX6 cI h4 h5 h6 h7 h8 h9 h10 h11 h12 voCar_6 voGoa_6 voEag toN_6 toF_6 coN coF moP_6 moS koCap_6 koGap_6 koCar_6 koCop_6 koGro koShr_6)) hx hb hml hown hg hK hP hD hS hA hl.1 (k_X6_deleteBefore l D cI cS cL Z h4 h5 h6 h7 h8 h9 h10 h11 h12 rNum voCar voGoa voEag toN toF coN coF moP moS koCap koGap koCar koCop koGro koShr ec6) gm_X6_deleteBefore gw_919 ⟨rfl, rfl, by decide, by decide⟩ ⟨Nat.zero_le _, Nat.zero_le _⟩ [4, 5, 6, 7, 8, 9, 10, 11, 12] rfl rfl rfl rfl rfl rfl rfl rfl (Nat.le_of_ble_eq_true rfl) dX1_execute_140 (fun H locs hP hD hS => ?_)
      have hP : va_P D vwCl (wX1 cI h0 h1 h2 h3 bN bF rCmd rLet rNum ++ wX6 cI h4 h5 h6 h7 h8 h9 h10 h11 h12 voCar_6 voGoa_6 voEag toN_6 toF_6 coN coF moP_6 moS koCap_6 koGap_6 koCar_6 koCop_6 koGro koShr_6) H := hP
      have hD : va_D A (wX1 cI h0 h1 h2 h3 bN bF rCmd rLet rNum ++ wX6 cI h4 h5 h6 h7 h8 h9 h10 h11 h12 voCar_6 voGoa_6 voEag toN_6 toF_6 coN coF moP_6 moS koCap_6 koGap_6 koCar_6 koCop_6 koGro koShr_6) := hD
      refine lv_pop hx hb dX1_execute_143 rfl ?_
      refine lv_goto (tgt := 217) hx hb dX1_execute_144 (by decide) ?_
      cases h
      exact ret_v hx hb hr hlocks hP hD hS dX1_execute_217
    replace h := if_some q5 h
    by_cases q7 : rCmd = 64
    · replace h := it_some q7 h
      refine lv_lookup (off := 140) (tgt := 147) hx hb dX1_execute_7 (by decide) (show Op.lookupswitch.offset [(43, 73), (45, 110), (60, 125), (64, 140), (109, 155), (110, 100), (112, 191), (120, 177)] 210 (rCmd).toInt = 140 from ((lv_osw (k := 43) q1 rfl).trans ((lv_osw (k := 45) q3 rfl).trans ((lv_osw (k := 60) q5 rfl).trans (osw_hit (k := 64) q7 rfl))))) (by decide) ?_
      refine lv_aload_n hx hb dX1_execute_147 rfl (lv_at hl 1 rfl) ?_
      refine lv_aload_n hx hb dX1_execute_148 rfl (lv_at hl 0 rfl) ?_
      refine va_get (D := D) (ci := 1) (v := .ref h3) (C := RX1) (T := TX1) (N := 2) hx hb hg uX1 hown hK.1 hP 0 rfl rfl 1 (by decide) (hg _ gw_236) (fun _ h9 => h9) rfl dX1_execute_149 ?_
      refine va_getN (D := D) (ci := 5) (v := .int rNum) (C := RX5) (T := TX5) (N := 3) hx hb hg uX5 hown hK.1 hP 3 rfl rfl 2 (by decide) (kk_nest hK nw_226) (fun _ h9 => h9) rfl dX1_execute_152 ?_
      obtain ⟨⟨r8, voCar_8, voGoa_8, koGap_8, koCar_8⟩, ec8, h⟩ := bd_some h
      refine cV_i (As := [.int rNum]) (rest := []) (wc := (wX6 cI h4 h5 h6 h7 h8 h9 h10 h11 h12 voCar voGoa voEag toN toF coN coF moP moS koCap koGap koCar koCop koGro koShr)) (wc' := (wX6 cI h4 h5 h6 h7 h8 h9 h10 h11 h12 voCar_8 voGoa_8 voEag toN toF coN coF moP moS koCap koGap_8 koCar_8 koCop koGro koShr)) hx hb hml hown hg hK hP hD hS hA hl.1 (k_X6_moveCaret l D cI cS cL Z h4 h5 h6 h7 h8 h9 h10 h11 h12 rNum voCar voGoa voEag toN toF coN coF moP moS koCap koGap koCar koCop koGro koShr ec8) gm_X6_moveCaret gw_920 ⟨rfl, rfl, by decide, by decide⟩ ⟨Nat.zero_le _, Nat.zero_le _⟩ [4, 5, 6, 7, 8, 9, 10, 11, 12] rfl rfl rfl rfl rfl rfl rfl rfl (Nat.le_of_ble_eq_true rfl) dX1_execute_155 (fun H locs hP hD hS => ?_)
      have hP : va_P D vwCl (wX1 cI h0 h1 h2 h3 bN bF rCmd rLet rNum ++ wX6 cI h4 h5 h6 h7 h8 h9 h10 h11 h12 voCar_8 voGoa_8 voEag toN toF coN coF moP moS koCap koGap_8 koCar_8 koCop koGro koShr) H := hP
      have hD : va_D A (wX1 cI h0 h1 h2 h3 bN bF rCmd rLet rNum ++ wX6 cI h4 h5 h6 h7 h8 h9 h10 h11 h12 voCar_8 voGoa_8 voEag toN toF coN coF moP moS koCap koGap_8 koCar_8 koCop koGro koShr) := hD
      refine lv_pop hx hb dX1_execute_158 rfl ?_
      refine lv_goto (tgt := 217) hx hb dX1_execute_159 (by decide) ?_
      cases h
      exact ret_v hx hb hr hlocks hP hD hS dX1_execute_217
    replace h := if_some q7 h
    by_cases q9 : rCmd = 109
    · replace h := it_some q9 h
      refine lv_lookup (off := 155) (tgt := 162) hx hb dX1_execute_7 (by decide) (show Op.lookupswitch.offset [(43, 73), (45, 110), (60, 125), (64, 140), (109, 155), (110, 100), (112, 191), (120, 177)] 210 (rCmd).toInt = 155 from ((lv_osw (k := 43) q1 rfl).trans ((lv_osw (k := 45) q3 rfl).trans ((lv_osw (k := 60) q5 rfl).trans ((lv_osw (k := 64) q7 rfl).trans (osw_hit (k := 109) q9 rfl)))))) (by decide) ?_
      refine lv_aload_n hx hb dX1_execute_162 rfl (lv_at hl 1 rfl) ?_
      refine va_getN (D := D) (ci := 6) (v := .ref h9) (C := RX6) (T := TX6) (N := 7) hx hb hg uX6 hown hK.1 hP 4 rfl rfl 2 (by decide) (kk_nest hK nw_163) (fun _ h9 => h9) rfl dX1_execute_163 ?_
      refine lv_aload_n hx hb dX1_execute_166 rfl (lv_at hl 0 rfl) ?_
      refine va_get (D := D) (ci := 1) (v := .ref h3) (C := RX1) (T := TX1) (N := 2) hx hb hg uX1 hown hK.1 hP 0 rfl rfl 1 (by decide) (hg _ gw_236) (fun _ h9 => h9) rfl dX1_execute_167 ?_
      refine va_getN (D := D) (ci := 5) (v := .int rNum) (C := RX5) (T := TX5) (N := 3) hx hb hg uX5 hown hK.1 hP 3 rfl rfl 2 (by decide) (kk_nest hK nw_226) (fun _ h9 => h9) rfl dX1_execute_170 ?_
      refine lv_aload_n hx hb dX1_execute_173 rfl (lv_at hl 1 rfl) ?_
      refine va_getN (D := D) (ci := 6) (v := .int voCar) (C := RX6) (T := TX6) (N := 7) hx hb hg uX6 hown hK.1 hP 4 rfl rfl 4 (by decide) (kk_nest hK nw_169) (fun _ h9 => h9) rfl dX1_execute_174 ?_
      refine lv_iconst (v := 1) hx hb dX1_execute_177 (by decide) ?_
      obtain ⟨⟨moP_10, moS_10⟩, ec10, h⟩ := bd_some h
      refine cV_v (As := [.int rNum, .int voCar, .int 1]) (rest := []) (wc := (wX4 cI h9 h10 h11 moP moS)) (wc' := (wX4 cI h9 h10 h11 moP_10 moS_10)) hx hb hml hown hg hK hP hD hS hA hl.1 (k_X4_place l D cI cS cL Z h9 h10 h11 rNum voCar 1 moP moS ec10) gm_X4_place gw_921 ⟨rfl, rfl, by decide, by decide⟩ ⟨Nat.zero_le _, Nat.zero_le _⟩ [9, 10, 11] rfl rfl rfl rfl rfl rfl rfl rfl (Nat.le_of_ble_eq_true rfl) dX1_execute_178 (fun H locs hP hD hS => ?_)
      have hP : va_P D vwCl (wX1 cI h0 h1 h2 h3 bN bF rCmd rLet rNum ++ wX6 cI h4 h5 h6 h7 h8 h9 h10 h11 h12 voCar voGoa voEag toN toF coN coF moP_10 moS_10 koCap koGap koCar koCop koGro koShr) H := hP
      have hD : va_D A (wX1 cI h0 h1 h2 h3 bN bF rCmd rLet rNum ++ wX6 cI h4 h5 h6 h7 h8 h9 h10 h11 h12 voCar voGoa voEag toN toF coN coF moP_10 moS_10 koCap koGap koCar koCop koGro koShr) := hD
      refine lv_goto (tgt := 217) hx hb dX1_execute_181 (by decide) ?_
      cases h
      exact ret_v hx hb hr hlocks hP hD hS dX1_execute_217
    replace h := if_some q9 h
    by_cases q11 : rCmd = 110
    · replace h := it_some q11 h
      refine lv_lookup (off := 100) (tgt := 107) hx hb dX1_execute_7 (by decide) (show Op.lookupswitch.offset [(43, 73), (45, 110), (60, 125), (64, 140), (109, 155), (110, 100), (112, 191), (120, 177)] 210 (rCmd).toInt = 100 from ((lv_osw (k := 43) q1 rfl).trans ((lv_osw (k := 45) q3 rfl).trans ((lv_osw (k := 60) q5 rfl).trans ((lv_osw (k := 64) q7 rfl).trans ((lv_osw (k := 109) q9 rfl).trans (osw_hit (k := 110) q11 rfl))))))) (by decide) ?_
      refine lv_aload_n hx hb dX1_execute_107 rfl (lv_at hl 1 rfl) ?_
      refine lv_bipush (v := 10) hx hb dX1_execute_108 (by decide) ?_
      refine lv_iconst (v := 1) hx hb dX1_execute_110 (by decide) ?_
      obtain ⟨⟨voCar_12, voGoa_12, toN_12, toF_12, moP_12, koCap_12, koGap_12, koCar_12, koCop_12, koGro_12⟩, ec12, h⟩ := bd_some h
      refine cV_v (As := [.int 10, .int 1]) (rest := []) (wc := (wX6 cI h4 h5 h6 h7 h8 h9 h10 h11 h12 voCar voGoa voEag toN toF coN coF moP moS koCap koGap koCar koCop koGro koShr)) (wc' := (wX6 cI h4 h5 h6 h7 h8 h9 h10 h11 h12 voCar_12 voGoa_12 voEag toN_12 toF_12 coN coF moP_12 moS koCap_12 koGap_12 koCar_12 koCop_12 koGro_12 koShr)) hx hb hml hown hg hK hP hD hS hA hl.1 (k_X6_insertRepeated l D cI cS cL Z h4 h5 h6 h7 h8 h9 h10 h11 h12 10 1 voCar voGoa voEag toN toF coN coF moP moS koCap koGap koCar koCop koGro koShr ec12) gm_X6_insertRepeated gw_917 ⟨rfl, rfl, by decide, by decide⟩ ⟨Nat.zero_le _, Nat.zero_le _⟩ [4, 5, 6, 7, 8, 9, 10, 11, 12] rfl rfl rfl rfl rfl rfl rfl rfl (Nat.le_of_ble_eq_true rfl) dX1_execute_111 (fun H locs hP hD hS => ?_)
      have hP : va_P D vwCl (wX1 cI h0 h1 h2 h3 bN bF rCmd rLet rNum ++ wX6 cI h4 h5 h6 h7 h8 h9 h10 h11 h12 voCar_12 voGoa_12 voEag toN_12 toF_12 coN coF moP_12 moS koCap_12 koGap_12 koCar_12 koCop_12 koGro_12 koShr) H := hP
      have hD : va_D A (wX1 cI h0 h1 h2 h3 bN bF rCmd rLet rNum ++ wX6 cI h4 h5 h6 h7 h8 h9 h10 h11 h12 voCar_12 voGoa_12 voEag toN_12 toF_12 coN coF moP_12 moS koCap_12 koGap_12 koCar_12 koCop_12 koGro_12 koShr) := hD
      refine lv_goto (tgt := 217) hx hb dX1_execute_114 (by decide) ?_
      cases h
      exact ret_v hx hb hr hlocks hP hD hS dX1_execute_217
    replace h := if_some q11 h
    by_cases q13 : rCmd = 112
    · replace h := it_some q13 h
      refine lv_lookup (off := 191) (tgt := 198) hx hb dX1_execute_7 (by decide) (show Op.lookupswitch.offset [(43, 73), (45, 110), (60, 125), (64, 140), (109, 155), (110, 100), (112, 191), (120, 177)] 210 (rCmd).toInt = 191 from ((lv_osw (k := 43) q1 rfl).trans ((lv_osw (k := 45) q3 rfl).trans ((lv_osw (k := 60) q5 rfl).trans ((lv_osw (k := 64) q7 rfl).trans ((lv_osw (k := 109) q9 rfl).trans ((lv_osw (k := 110) q11 rfl).trans (osw_hit (k := 112) q13 rfl)))))))) (by decide) ?_
      refine lv_aload_n hx hb dX1_execute_198 rfl (lv_at hl 1 rfl) ?_
      refine lv_aload_n hx hb dX1_execute_199 rfl (lv_at hl 1 rfl) ?_
      refine va_getN (D := D) (ci := 6) (v := .ref h7) (C := RX6) (T := TX6) (N := 7) hx hb hg uX6 hown hK.1 hP 4 rfl rfl 1 (by decide) (kk_nest hK nw_160) (fun _ h9 => h9) rfl dX1_execute_200 ?_
      refine lv_iconst (v := 0) hx hb dX1_execute_203 (by decide) ?_
      refine lv_aload_n hx hb dX1_execute_204 rfl (lv_at hl 1 rfl) ?_
      refine va_getN (D := D) (ci := 6) (v := .ref h7) (C := RX6) (T := TX6) (N := 7) hx hb hg uX6 hown hK.1 hP 4 rfl rfl 1 (by decide) (kk_nest hK nw_160) (fun _ h9 => h9) rfl dX1_execute_205 ?_
      obtain ⟨r14, ec14, h⟩ := bd_some h
      refine cV_i (As := []) (rest := [.int 0, .ref h7, .ref h4]) (wc := (wX0 cI h7 h8 60 coN coF)) (wc' := (wX0 cI h7 h8 60 coN coF)) hx hb hml hown hg hK hP hD hS hA hl.1 (k_X0_size l D cI cS cL Z h7 h8 60 coN coF ec14) gm_X0_size gw_426 ⟨rfl, rfl, by decide, by decide⟩ ⟨Nat.zero_le _, Nat.zero_le _⟩ [7, 8] rfl rfl rfl rfl rfl rfl rfl rfl (Nat.le_of_ble_eq_true rfl) dX1_execute_208 (fun H locs hP hD hS => ?_)
      have hP : va_P D vwCl (wX1 cI h0 h1 h2 h3 bN bF rCmd rLet rNum ++ wX6 cI h4 h5 h6 h7 h8 h9 h10 h11 h12 voCar voGoa voEag toN toF coN coF moP moS koCap koGap koCar koCop koGro koShr) H := hP
      have hD : va_D A (wX1 cI h0 h1 h2 h3 bN bF rCmd rLet rNum ++ wX6 cI h4 h5 h6 h7 h8 h9 h10 h11 h12 voCar voGoa voEag toN toF coN coF moP moS koCap koGap koCar koCop koGro koShr) := hD
      obtain ⟨⟨voCar_15, voGoa_15, toN_15, toF_15, moP_15, koCap_15, koGap_15, koCar_15, koCop_15, koGro_15⟩, ec15, h⟩ := bd_some h
      refine cV_v (As := [.ref h7, .int 0, .int r14]) (rest := []) (wc := (wX6 cI h4 h5 h6 h7 h8 h9 h10 h11 h12 voCar voGoa voEag toN toF coN coF moP moS koCap koGap koCar koCop koGro koShr)) (wc' := (wX6 cI h4 h5 h6 h7 h8 h9 h10 h11 h12 voCar_15 voGoa_15 voEag toN_15 toF_15 coN coF moP_15 moS koCap_15 koGap_15 koCar_15 koCop_15 koGro_15 koShr)) hx hb hml hown hg hK hP hD hS hA hl.1 (k_X6_insertPart_s l D cI cS cL Z h4 h5 h6 h7 h8 h9 h10 h11 h12 0 r14 voCar voGoa voEag toN toF coN coF moP moS koCap koGap koCar koCop koGro koShr ec15) gm_X6_insertPart gw_916 ⟨rfl, rfl, by decide, by decide⟩ ⟨Nat.zero_le _, Nat.zero_le _⟩ [4, 5, 6, 7, 8, 9, 10, 11, 12] rfl rfl rfl rfl rfl rfl rfl rfl (Nat.le_of_ble_eq_true rfl) dX1_execute_211 (fun H locs hP hD hS => ?_)
      have hP : va_P D vwCl (wX1 cI h0 h1 h2 h3 bN bF rCmd rLet rNum ++ wX6 cI h4 h5 h6 h7 h8 h9 h10 h11 h12 voCar_15 voGoa_15 voEag toN_15 toF_15 coN coF moP_15 moS koCap_15 koGap_15 koCar_15 koCop_15 koGro_15 koShr) H := hP
      have hD : va_D A (wX1 cI h0 h1 h2 h3 bN bF rCmd rLet rNum ++ wX6 cI h4 h5 h6 h7 h8 h9 h10 h11 h12 voCar_15 voGoa_15 voEag toN_15 toF_15 coN coF moP_15 moS koCap_15 koGap_15 koCar_15 koCop_15 koGro_15 koShr) := hD
      refine lv_goto (tgt := 217) hx hb dX1_execute_214 (by decide) ?_
      cases h
      exact ret_v hx hb hr hlocks hP hD hS dX1_execute_217
    replace h := if_some q13 h
    by_cases q16 : rCmd = 120
    · replace h := it_some q16 h
      refine lv_lookup (off := 177) (tgt := 184) hx hb dX1_execute_7 (by decide) (show Op.lookupswitch.offset [(43, 73), (45, 110), (60, 125), (64, 140), (109, 155), (110, 100), (112, 191), (120, 177)] 210 (rCmd).toInt = 177 from ((lv_osw (k := 43) q1 rfl).trans ((lv_osw (k := 45) q3 rfl).trans ((lv_osw (k := 60) q5 rfl).trans ((lv_osw (k := 64) q7 rfl).trans ((lv_osw (k := 109) q9 rfl).trans ((lv_osw (k := 110) q11 rfl).trans ((lv_osw (k := 112) q13 rfl).trans (osw_hit (k := 120) q16 rfl))))))))) (by decide) ?_
      refine lv_aload_n hx hb dX1_execute_184 rfl (lv_at hl 1 rfl) ?_
      refine lv_aload_n hx hb dX1_execute_185 rfl (lv_at hl 0 rfl) ?_
      refine va_get (D := D) (ci := 1) (v := .ref h3) (C := RX1) (T := TX1) (N := 2) hx hb hg uX1 hown hK.1 hP 0 rfl rfl 1 (by decide) (hg _ gw_236) (fun _ h9 => h9) rfl dX1_execute_186 ?_
      refine va_getN (D := D) (ci := 5) (v := .int rNum) (C := RX5) (T := TX5) (N := 3) hx hb hg uX5 hown hK.1 hP 3 rfl rfl 2 (by decide) (kk_nest hK nw_226) (fun _ h9 => h9) rfl dX1_execute_189 ?_
      obtain ⟨⟨voCar_17, voGoa_17, toN_17, toF_17, coN_17, coF_17, moP_17, koCap_17, koGap_17, koCar_17, koCop_17, koShr_17⟩, ec17, h⟩ := bd_some h
      refine cV_v (As := [.int rNum]) (rest := []) (wc := (wX6 cI h4 h5 h6 h7 h8 h9 h10 h11 h12 voCar voGoa voEag toN toF coN coF moP moS koCap koGap koCar koCop koGro koShr)) (wc' := (wX6 cI h4 h5 h6 h7 h8 h9 h10 h11 h12 voCar_17 voGoa_17 voEag toN_17 toF_17 coN_17 coF_17 moP_17 moS koCap_17 koGap_17 koCar_17 koCop_17 koGro koShr_17)) hx hb hml hown hg hK hP hD hS hA hl.1 (k_X6_cutRegion l D cI cS cL Z h4 h5 h6 h7 h8 h9 h10 h11 h12 rNum voCar voGoa voEag toN toF coN coF moP moS koCap koGap koCar koCop koGro koShr ec17) gm_X6_cutRegion gw_922 ⟨rfl, rfl, by decide, by decide⟩ ⟨Nat.zero_le _, Nat.zero_le _⟩ [4, 5, 6, 7, 8, 9, 10, 11, 12] rfl rfl rfl rfl rfl rfl rfl rfl (Nat.le_of_ble_eq_true rfl) dX1_execute_192 (fun H locs hP hD hS => ?_)
      have hP : va_P D vwCl (wX1 cI h0 h1 h2 h3 bN bF rCmd rLet rNum ++ wX6 cI h4 h5 h6 h7 h8 h9 h10 h11 h12 voCar_17 voGoa_17 voEag toN_17 toF_17 coN_17 coF_17 moP_17 moS koCap_17 koGap_17 koCar_17 koCop_17 koGro koShr_17) H := hP
      have hD : va_D A (wX1 cI h0 h1 h2 h3 bN bF rCmd rLet rNum ++ wX6 cI h4 h5 h6 h7 h8 h9 h10 h11 h12 voCar_17 voGoa_17 voEag toN_17 toF_17 coN_17 coF_17 moP_17 moS koCap_17 koGap_17 koCar_17 koCop_17 koGro koShr_17) := hD
      refine lv_goto (tgt := 217) hx hb dX1_execute_195 (by decide) ?_
      cases h
      exact ret_v hx hb hr hlocks hP hD hS dX1_execute_217
    replace h := if_some q16 h
    refine lv_lookup (off := 210) (tgt := 217) hx hb dX1_execute_7 (by decide) (show Op.lookupswitch.offset [(43, 73), (45, 110), (60, 125), (64, 140), (109, 155), (110, 100), (112, 191), (120, 177)] 210 (rCmd).toInt = 210 from ((lv_osw (k := 43) q1 rfl).trans ((lv_osw (k := 45) q3 rfl).trans ((lv_osw (k := 60) q5 rfl).trans ((lv_osw (k := 64) q7 rfl).trans ((lv_osw (k := 109) q9 rfl).trans ((lv_osw (k := 110) q11 rfl).trans ((lv_osw (k := 112) q13 rfl).trans ((lv_osw (k := 120) q16 rfl).trans rfl))))))))) (by decide) ?_
    cases h
    exact ret_v hx hb hr hlocks hP hD hS dX1_execute_217
  exact hmain _ _ hP hS
abbrev rm_X1_executeOn : Room := { frames := 6, cells := 0, slots := 0, locals := 136 }
def f_X1_executeOn_b11 (Z : Nat) (bN : Int32) (bF : Nat → Int32) (voEag : Int32) (rec : Int32 → Int32 → Int32 → Int32 → Int32 → Int32 → Int32 → Int32 → (Nat → Int32) → Int32 → (Nat → Int32) → (Nat → Int32) → (Nat → Int32) → Int32 → Int32 → Int32 → Int32 → Int32 → Int32 → Option (Int32 × Int32 × Int32 × Int32 × Int32 × Int32 × Int32 × (Nat → Int32) × Int32 × (Nat → Int32) × (Nat → Int32) × (Nat → Int32) × Int32 × Int32 × Int32 × Int32 × Int32 × Int32)) (x2 : Int32) (x3 : Int32) (rCmd : Int32) (rLet : Int32) (rNum : Int32) (voCar : Int32) (voGoa : Int32) (toN : Int32) (toF : Nat → Int32) (coN : Int32) (coF : Nat → Int32) (moP : Nat → Int32) (moS : Nat → Int32) (koCap : Int32) (koGap : Int32) (koCar : Int32) (koCop : Int32) (koGro : Int32) (koShr : Int32) : Option (Int32 × Int32 × Int32 × Int32 × Int32 × Int32 × Int32 × (Nat → Int32) × Int32 × (Nat → Int32) × (Nat → Int32) × (Nat → Int32) × Int32 × Int32 × Int32 × Int32 × Int32 × Int32) :=
      (f_X0_size Z 60 bN).bind fun r1 =>
      if r1 ≤ x3 then
        some (0, rCmd, rLet, rNum, voCar, voGoa, toN, toF, coN, coF, moP, moS, koCap, koGap, koCar, koCop, koGro, koShr)
      else
        (f_X0_at Z x3 60 bN bF).bind fun r3 =>
        (f_X5_accept Z r3 rCmd rLet rNum).bind fun (r4, rCmd_4, rLet_4, rNum_4) =>
        (f_X1_isEndOfCommand Z (x3 + 1) bN bF).bind fun r5 =>
        if r5 = 0 then
          kl (x3 + 1) fun x3_7 =>
          rec x2 x3_7 rCmd_4 rLet_4 rNum_4 voCar voGoa toN toF coN coF moP moS koCap koGap koCar koCop koGro koShr
        else
          (f_X1_faultOn Z rCmd_4 rLet_4 rNum_4 voCar toN coN moP).bind fun r8 =>
          if r8 = 0 then
            (f_X1_execute Z (x3 + 1) bN bF rCmd_4 rLet_4 rNum_4 voCar voGoa voEag toN toF coN coF moP moS koCap koGap koCar koCop koGro koShr).bind fun (voCar_10, voGoa_10, toN_10, toF_10, coN_10, coF_10, moP_10, moS_10, koCap_10, koGap_10, koCar_10, koCop_10, koGro_10, koShr_10) =>
            kl (x2 + 1) fun x2_11 =>
            kl (x3 + 1) fun x3_12 =>
            rec x2_11 x3_12 rCmd_4 rLet_4 rNum_4 voCar_10 voGoa_10 toN_10 toF_10 coN_10 coF_10 moP_10 moS_10 koCap_10 koGap_10 koCar_10 koCop_10 koGro_10 koShr_10
          else
            some ((10 * x2) + r8, rCmd_4, rLet_4, rNum_4, voCar, voGoa, toN, toF, coN, coF, moP, moS, koCap, koGap, koCar, koCop, koGro, koShr)
def f_X1_executeOn_l11 (Z : Nat) (bN : Int32) (bF : Nat → Int32) (voEag : Int32) : Nat → Int32 → Int32 → Int32 → Int32 → Int32 → Int32 → Int32 → Int32 → (Nat → Int32) → Int32 → (Nat → Int32) → (Nat → Int32) → (Nat → Int32) → Int32 → Int32 → Int32 → Int32 → Int32 → Int32 → Option (Int32 × Int32 × Int32 × Int32 × Int32 × Int32 × Int32 × (Nat → Int32) × Int32 × (Nat → Int32) × (Nat → Int32) × (Nat → Int32) × Int32 × Int32 × Int32 × Int32 × Int32 × Int32)
  | 0, _, _, _, _, _, _, _, _, _, _, _, _, _, _, _, _, _, _, _ => none
  | n + 1, x2, x3, rCmd, rLet, rNum, voCar, voGoa, toN, toF, coN, coF, moP, moS, koCap, koGap, koCar, koCop, koGro, koShr => f_X1_executeOn_b11 Z bN bF voEag (f_X1_executeOn_l11 Z bN bF voEag n) x2 x3 rCmd rLet rNum voCar voGoa toN toF coN coF moP moS koCap koGap koCar koCop koGro koShr
def f_X1_executeOn (Z : Nat) (bN : Int32) (bF : Nat → Int32) (rCmd : Int32) (rLet : Int32) (rNum : Int32) (voCar : Int32) (voGoa : Int32) (voEag : Int32) (toN : Int32) (toF : Nat → Int32) (coN : Int32) (coF : Nat → Int32) (moP : Nat → Int32) (moS : Nat → Int32) (koCap : Int32) (koGap : Int32) (koCar : Int32) (koCop : Int32) (koGro : Int32) (koShr : Int32) : Option (Int32 × Int32 × Int32 × Int32 × Int32 × Int32 × Int32 × (Nat → Int32) × Int32 × (Nat → Int32) × (Nat → Int32) × (Nat → Int32) × Int32 × Int32 × Int32 × Int32 × Int32 × Int32) :=
  (f_X5_restart Z rCmd rLet rNum).bind fun (rCmd_13, rLet_13, rNum_13) =>
  f_X1_executeOn_l11 Z bN bF voEag Z 0 0 rCmd_13 rLet_13 rNum_13 voCar voGoa toN toF coN coF moP moS koCap koGap koCar koCop koGro koShr
set_option maxRecDepth 100000 in
set_option maxHeartbeats 4000000 in
theorem k_X1_executeOn (l : Launch) (D : va_G) (cI cS cL : ClassId) (Z : Nat) (h0 : Nat) (h1 : Nat) (h2 : Nat) (h3 : Nat) (h4 : Nat) (h5 : Nat) (h6 : Nat) (h7 : Nat) (h8 : Nat) (h9 : Nat) (h10 : Nat) (h11 : Nat) (h12 : Nat) (bN : Int32) (bF : Nat → Int32) (rCmd : Int32) (rLet : Int32) (rNum : Int32) (voCar : Int32) (voGoa : Int32) (voEag : Int32) (toN : Int32) (toF : Nat → Int32) (coN : Int32) (coF : Nat → Int32) (moP : Nat → Int32) (moS : Nat → Int32) (koCap : Int32) (koGap : Int32) (koCar : Int32) (koCop : Int32) (koGro : Int32) (koShr : Int32) {r : Int32} {rCmd' : Int32} {rLet' : Int32} {rNum' : Int32} {voCar' : Int32} {voGoa' : Int32} {toN' : Int32} {toF' : Nat → Int32} {coN' : Int32} {coF' : Nat → Int32} {moP' : Nat → Int32} {moS' : Nat → Int32} {koCap' : Int32} {koGap' : Int32} {koCar' : Int32} {koCop' : Int32} {koGro' : Int32} {koShr' : Int32} (h : f_X1_executeOn Z bN bF rCmd rLet rNum voCar voGoa voEag toN toF coN coF moP moS koCap koGap koCar koCop koGro koShr = some (r, rCmd', rLet', rNum', voCar', voGoa', toN', toF', coN', coF', moP', moS', koCap', koGap', koCar', koCop', koGro', koShr')) : CI l yX1_executeOn cX1_executeOn 5 (some .int) rm_X1_executeOn D cI cS cL [.ref h0, .ref h4] (wX1 cI h0 h1 h2 h3 bN bF rCmd rLet rNum ++ wX6 cI h4 h5 h6 h7 h8 h9 h10 h11 h12 voCar voGoa voEag toN toF coN coF moP moS koCap koGap koCar koCop koGro koShr) (wX1 cI h0 h1 h2 h3 bN bF (rCmd') (rLet') (rNum') ++ wX6 cI h4 h5 h6 h7 h8 h9 h10 h11 h12 (voCar') (voGoa') voEag (toN') (toF') (coN') (coF') (moP') (moS') (koCap') (koGap') (koCar') (koCop') (koGro') (koShr')) r := by
  refine ent_i (by decide +kernel) (Nat.le_of_ble_eq_true rfl) ?_
  intro p e s m args below meth c A ls hx hb hr hml hlocks hg hown hK hP hD hS hA hl
  have hown : s.vm.findClass RX1 = some m.cls := hown
  have c_11 : ∀ (n : Nat) (x2 : Int32) (x3 : Int32) (rCmd : Int32) (rLet : Int32) (rNum : Int32) (voCar : Int32) (voGoa : Int32) (toN : Int32) (toF : Nat → Int32) (coN : Int32) (coF : Nat → Int32) (moP : Nat → Int32) (moS : Nat → Int32) (koCap : Int32) (koGap : Int32) (koCar : Int32) (koCop : Int32) (koGro : Int32) (koShr : Int32), f_X1_executeOn_l11 Z bN bF voEag n x2 x3 rCmd rLet rNum voCar voGoa toN toF coN coF moP moS koCap koGap koCar koCop koGro koShr = some (r, rCmd', rLet', rNum', voCar', voGoa', toN', toF', coN', coF', moP', moS', koCap', koGap', koCar', koCop', koGro', koShr') → ∀ (H : Heap) (locs : List Loc), va_P D vwCl (wX1 cI h0 h1 h2 h3 bN bF rCmd rLet rNum ++ wX6 cI h4 h5 h6 h7 h8 h9 h10 h11 h12 voCar voGoa voEag toN toF coN coF moP moS koCap koGap koCar koCop koGro koShr) H → va_D A (wX1 cI h0 h1 h2 h3 bN bF rCmd rLet rNum ++ wX6 cI h4 h5 h6 h7 h8 h9 h10 h11 h12 voCar voGoa voEag toN toF coN coF moP moS koCap koGap koCar koCop koGro koShr) → va_S A s.heap H locs → ∀ ls : Array Slot, lv_has ls 5 [(0, .ref h0), (1, .ref h4), (2, .int x2), (3, .int x3)] → W p l e rm_X1_executeOn s m args below meth c H locs 0 0 (FI D below args s (wX1 cI h0 h1 h2 h3 bN bF (rCmd') (rLet') (rNum') ++ wX6 cI h4 h5 h6 h7 h8 h9 h10 h11 h12 (voCar') (voGoa') voEag (toN') (toF') (coN') (coF') (moP') (moS') (koCap') (koGap') (koCar') (koCop') (koGro') (koShr')) r A) (F0 m 11 ls []) := by
    intro n
    induction n with
    | zero => intro x2 x3 rCmd rLet rNum voCar voGoa toN toF coN coF moP moS koCap koGap koCar koCop koGro koShr h; exact no_some h
    | succ n ih =>
      intro x2 x3 rCmd rLet rNum voCar voGoa toN toF coN coF moP moS koCap koGap koCar koCop koGro koShr h H locs hP hD hS ls hl
      have h : f_X1_executeOn_b11 Z bN bF voEag (f_X1_executeOn_l11 Z bN bF voEag n) x2 x3 rCmd rLet rNum voCar voGoa toN toF coN coF moP moS koCap koGap koCar koCop koGro koShr = some (r, rCmd', rLet', rNum', voCar', voGoa', toN', toF', coN', coF', moP', moS', koCap', koGap', koCar', koCop', koGro', koShr') := h
      unfold f_X1_executeOn_b11 at h
      refine lv_iload_n hx hb dX1_executeOn_11 rfl (lv_at hl 3 rfl) ?_
      refine lv_aload_n hx hb dX1_executeOn_12 rfl (lv_at hl 0 rfl) ?_
      refine va_get (D := D) (ci := 1) (v := .ref h1) (C := RX1) (T := TX1) (N := 2) hx hb hg uX1 hown hK.1 hP 0 rfl rfl 0 (by decide) (hg _ gw_234) (fun _ h9 => h9) rfl dX1_executeOn_13 ?_
      obtain ⟨r1, ec1, h⟩ := bd_some h
      refine cV_i (As := []) (rest := [.int x3]) (wc := (wX0 cI h1 h2 60 bN bF)) (wc' := (wX0 cI h1 h2 60 bN bF)) hx hb hml hown hg hK hP hD hS hA hl.1 (k_X0_size l D cI cS cL Z h1 h2 60 bN bF ec1) gm_X0_size gw_426 ⟨rfl, rfl, by decide, by decide⟩ ⟨Nat.zero_le _, Nat.zero_le _⟩ [1, 2] rfl rfl rfl rfl rfl rfl rfl rfl (Nat.le_of_ble_eq_true rfl) dX1_executeOn_16 (fun H locs hP hD hS => ?_)
      have hP : va_P D vwCl (wX1 cI h0 h1 h2 h3 bN bF rCmd rLet rNum ++ wX6 cI h4 h5 h6 h7 h8 h9 h10 h11 h12 voCar voGoa voEag toN toF coN coF moP moS koCap koGap koCar koCop koGro koShr) H := hP
      have hD : va_D A (wX1 cI h0 h1 h2 h3 bN bF rCmd rLet rNum ++ wX6 cI h4 h5 h6 h7 h8 h9 h10 h11 h12 voCar voGoa voEag toN toF coN coF moP moS koCap koGap koCar koCop koGro koShr) := hD
      refine lv_icmp_ge (tgt := 85) hx hb dX1_executeOn_19 (by decide) (fun q2 => ?_) (fun q2 => ?_)
      · replace h := it_some q2 h
        refine lv_iconst (v := 0) hx hb dX1_executeOn_85 (by decide) ?_
        cases h
        exact ret_i hx hb hr hlocks hP hD hS dX1_executeOn_86 rfl
      · replace h := if_some q2 h
        refine lv_aload_n hx hb dX1_executeOn_22 rfl (lv_at hl 0 rfl) ?_
        refine va_get (D := D) (ci := 1) (v := .ref h3) (C := RX1) (T := TX1) (N := 2) hx hb hg uX1 hown hK.1 hP 0 rfl rfl 1 (by decide) (hg _ gw_236) (fun _ h9 => h9) rfl dX1_executeOn_23 ?_
        refine lv_aload_n hx hb dX1_executeOn_26 rfl (lv_at hl 0 rfl) ?_
        refine va_get (D := D) (ci := 1) (v := .ref h1) (C := RX1) (T := TX1) (N := 2) hx hb hg uX1 hown hK.1 hP 0 rfl rfl 0 (by decide) (hg _ gw_234) (fun _ h9 => h9) rfl dX1_executeOn_27 ?_
        refine lv_iload_n hx hb dX1_executeOn_30 rfl (lv_at hl 3 rfl) ?_
        obtain ⟨r3, ec3, h⟩ := bd_some h
        refine cV_i (As := [.int x3]) (rest := [.ref h3]) (wc := (wX0 cI h1 h2 60 bN bF)) (wc' := (wX0 cI h1 h2 60 bN bF)) hx hb hml hown hg hK hP hD hS hA hl.1 (k_X0_at l D cI cS cL Z h1 h2 x3 60 bN bF ec3) gm_X0_at gw_427 ⟨rfl, rfl, by decide, by decide⟩ ⟨Nat.zero_le _, Nat.zero_le _⟩ [1, 2] rfl rfl rfl rfl rfl rfl rfl rfl (Nat.le_of_ble_eq_true rfl) dX1_executeOn_31 (fun H locs hP hD hS => ?_)
        have hP : va_P D vwCl (wX1 cI h0 h1 h2 h3 bN bF rCmd rLet rNum ++ wX6 cI h4 h5 h6 h7 h8 h9 h10 h11 h12 voCar voGoa voEag toN toF coN coF moP moS koCap koGap koCar koCop koGro koShr) H := hP
        have hD : va_D A (wX1 cI h0 h1 h2 h3 bN bF rCmd rLet rNum ++ wX6 cI h4 h5 h6 h7 h8 h9 h10 h11 h12 voCar voGoa voEag toN toF coN coF moP moS koCap koGap koCar koCop koGro koShr) := hD
        obtain ⟨⟨r4, rCmd_4, rLet_4, rNum_4⟩, ec4, h⟩ := bd_some h
        refine cV_i (As := [.int r3]) (rest := []) (wc := (wX5 cI h3 rCmd rLet rNum)) (wc' := (wX5 cI h3 rCmd_4 rLet_4 rNum_4)) hx hb hml hown hg hK hP hD hS hA hl.1 (k_X5_accept l D cI cS cL Z h3 r3 rCmd rLet rNum ec4) gm_X5_accept gw_428 ⟨rfl, rfl, by decide, by decide⟩ ⟨Nat.zero_le _, Nat.zero_le _⟩ [3] rfl rfl rfl rfl rfl rfl rfl rfl (Nat.le_of_ble_eq_true rfl) dX1_executeOn_34 (fun H locs hP hD hS => ?_)
        have hP : va_P D vwCl (wX1 cI h0 h1 h2 h3 bN bF rCmd_4 rLet_4 rNum_4 ++ wX6 cI h4 h5 h6 h7 h8 h9 h10 h11 h12 voCar voGoa voEag toN toF coN coF moP moS koCap koGap koCar koCop koGro koShr) H := hP
        have hD : va_D A (wX1 cI h0 h1 h2 h3 bN bF rCmd_4 rLet_4 rNum_4 ++ wX6 cI h4 h5 h6 h7 h8 h9 h10 h11 h12 voCar voGoa voEag toN toF coN coF moP moS koCap koGap koCar koCop koGro koShr) := hD
        refine lv_pop hx hb dX1_executeOn_37 rfl ?_
        refine lv_aload_n hx hb dX1_executeOn_38 rfl (lv_at hl 0 rfl) ?_
        refine lv_iload_n hx hb dX1_executeOn_39 rfl (lv_at hl 3 rfl) ?_
        refine lv_iconst (v := 1) hx hb dX1_executeOn_40 (by decide) ?_
        refine lv_iadd hx hb dX1_executeOn_41 ?_
        obtain ⟨r5, ec5, h⟩ := bd_some h
        refine cV_i (As := [.int (x3 + 1)]) (rest := []) (wc := (wX1 cI h0 h1 h2 h3 bN bF rCmd_4 rLet_4 rNum_4)) (wc' := (wX1 cI h0 h1 h2 h3 bN bF rCmd_4 rLet_4 rNum_4)) hx hb hml hown hg hK hP hD hS hA hl.1 (k_X1_isEndOfCommand l D cI cS cL Z h0 h1 h2 h3 (x3 + 1) bN bF rCmd_4 rLet_4 rNum_4 ec5) gm_X1_isEndOfCommand gw_897 ⟨rfl, rfl, by decide, by decide⟩ ⟨Nat.zero_le _, Nat.zero_le _⟩ [0, 1, 2, 3] rfl rfl rfl rfl rfl rfl rfl rfl (Nat.le_of_ble_eq_true rfl) dX1_executeOn_42 (fun H locs hP hD hS => ?_)
        have hP : va_P D vwCl (wX1 cI h0 h1 h2 h3 bN bF rCmd_4 rLet_4 rNum_4 ++ wX6 cI h4 h5 h6 h7 h8 h9 h10 h11 h12 voCar voGoa voEag toN toF coN coF moP moS koCap koGap koCar koCop koGro koShr) H := hP
        have hD : va_D A (wX1 cI h0 h1 h2 h3 bN bF rCmd_4 rLet_4 rNum_4 ++ wX6 cI h4 h5 h6 h7 h8 h9 h10 h11 h12 voCar voGoa voEag toN toF coN coF moP moS koCap koGap koCar koCop koGro koShr) := hD
        refine lv_if_eq (tgt := 79) hx hb dX1_executeOn_45 (by decide) (fun q6 => ?_) (fun q6 => ?_)
        · replace h := it_some q6 h
          obtain ⟨x3_7, ex3_7, h⟩ := kl_some h
          refine lv_iinc (v := x3_7) (lv' := [(3, .int x3_7), (0, .ref h0), (1, .ref h4), (2, .int x2)]) hx hb dX1_executeOn_79 hl (k := 3) rfl (by rw [ex3_7]; rfl) (by decide) rfl (fun ls hl => ?_)
          refine lv_goto (tgt := 11) hx hb dX1_executeOn_82 (by decide) ?_
          exact ih x2 x3_7 rCmd_4 rLet_4 rNum_4 voCar voGoa toN toF coN coF moP moS koCap koGap koCar koCop koGro koShr h H locs hP hD hS ls (lv_sub hl [1, 2, 3, 0] rfl)
        · replace h := if_some q6 h
          refine lv_aload_n hx hb dX1_executeOn_48 rfl (lv_at hl 0 rfl) ?_
          refine lv_aload_n hx hb dX1_executeOn_49 rfl (lv_at hl 1 rfl) ?_
          obtain ⟨r8, ec8, h⟩ := bd_some h
          refine cV_i (As := [.ref h4]) (rest := []) (wc := (wX1 cI h0 h1 h2 h3 bN bF rCmd_4 rLet_4 rNum_4 ++ wX6 cI h4 h5 h6 h7 h8 h9 h10 h11 h12 voCar voGoa voEag toN toF coN coF moP moS koCap koGap koCar koCop koGro koShr)) (wc' := (wX1 cI h0 h1 h2 h3 bN bF rCmd_4 rLet_4 rNum_4 ++ wX6 cI h4 h5 h6 h7 h8 h9 h10 h11 h12 voCar voGoa voEag toN toF coN coF moP moS koCap koGap koCar koCop koGro koShr)) hx hb hml hown hg hK hP hD hS hA hl.1 (k_X1_faultOn l D cI cS cL Z h0 h1 h2 h3 h4 h5 h6 h7 h8 h9 h10 h11 h12 bN bF rCmd_4 rLet_4 rNum_4 voCar voGoa voEag toN toF coN coF moP moS koCap koGap koCar koCop koGro koShr ec8) gm_X1_faultOn gw_901 ⟨rfl, rfl, by decide, by decide⟩ ⟨Nat.zero_le _, Nat.zero_le _⟩ [0, 1, 2, 3, 4, 5, 6, 7, 8, 9, 10, 11, 12] rfl rfl rfl rfl rfl rfl rfl rfl (Nat.le_of_ble_eq_true rfl) dX1_executeOn_50 (fun H locs hP hD hS => ?_)
          have hP : va_P D vwCl (wX1 cI h0 h1 h2 h3 bN bF rCmd_4 rLet_4 rNum_4 ++ wX6 cI h4 h5 h6 h7 h8 h9 h10 h11 h12 voCar voGoa voEag toN toF coN coF moP moS koCap koGap koCar koCop koGro koShr) H := hP
          have hD : va_D A (wX1 cI h0 h1 h2 h3 bN bF rCmd_4 rLet_4 rNum_4 ++ wX6 cI h4 h5 h6 h7 h8 h9 h10 h11 h12 voCar voGoa voEag toN toF coN coF moP moS koCap koGap koCar koCop koGro koShr) := hD
          refine lv_istore (lv' := [(4, .int r8), (0, .ref h0), (1, .ref h4), (2, .int x2), (3, .int x3)]) hx hb dX1_executeOn_53 hl (by decide) rfl (fun ls hl => ?_)
          refine lv_iload hx hb dX1_executeOn_55 (lv_at hl 0 rfl) ?_
          refine lv_if_eq (tgt := 68) hx hb dX1_executeOn_57 (by decide) (fun q9 => ?_) (fun q9 => ?_)
          · replace h := it_some q9 h
            refine lv_aload_n hx hb dX1_executeOn_68 rfl (lv_at hl 1 rfl) ?_
            refine lv_aload_n hx hb dX1_executeOn_69 rfl (lv_at hl 2 rfl) ?_
            refine lv_iload_n hx hb dX1_executeOn_70 rfl (lv_at hl 4 rfl) ?_
            refine lv_iconst (v := 1) hx hb dX1_executeOn_71 (by decide) ?_
            refine lv_iadd hx hb dX1_executeOn_72 ?_
            obtain ⟨⟨voCar_10, voGoa_10, toN_10, toF_10, coN_10, coF_10, moP_10, moS_10, koCap_10, koGap_10, koCar_10, koCop_10, koGro_10, koShr_10⟩, ec10, h⟩ := bd_some h
            refine cV_v (As := [.ref h4, .int (x3 + 1)]) (rest := []) (wc := (wX1 cI h0 h1 h2 h3 bN bF rCmd_4 rLet_4 rNum_4 ++ wX6 cI h4 h5 h6 h7 h8 h9 h10 h11 h12 voCar voGoa voEag toN toF coN coF moP moS koCap koGap koCar koCop koGro koShr)) (wc' := (wX1 cI h0 h1 h2 h3 bN bF rCmd_4 rLet_4 rNum_4 ++ wX6 cI h4 h5 h6 h7 h8 h9 h10 h11 h12 voCar_10 voGoa_10 voEag toN_10 toF_10 coN_10 coF_10 moP_10 moS_10 koCap_10 koGap_10 koCar_10 koCop_10 koGro_10 koShr_10)) hx hb hml hown hg hK hP hD hS hA hl.1 (k_X1_execute l D cI cS cL Z h0 h1 h2 h3 h4 h5 h6 h7 h8 h9 h10 h11 h12 (x3 + 1) bN bF rCmd_4 rLet_4 rNum_4 voCar voGoa voEag toN toF coN coF moP moS koCap koGap koCar koCop koGro koShr ec10) gm_X1_execute gw_912 ⟨rfl, rfl, by decide, by decide⟩ ⟨Nat.zero_le _, Nat.zero_le _⟩ [0, 1, 2, 3, 4, 5, 6, 7, 8, 9, 10, 11, 12] rfl rfl rfl rfl rfl rfl rfl rfl (Nat.le_of_ble_eq_true rfl) dX1_executeOn_73 (fun H locs hP hD hS => ?_)
            have hP : va_P D vwCl (wX1 cI h0 h1 h2 h3 bN bF rCmd_4 rLet_4 rNum_4 ++ wX6 cI h4 h5 h6 h7 h8 h9 h10 h11 h12 voCar_10 voGoa_10 voEag toN_10 toF_10 coN_10 coF_10 moP_10 moS_10 koCap_10 koGap_10 koCar_10 koCop_10 koGro_10 koShr_10) H := hP
            have hD : va_D A (wX1 cI h0 h1 h2 h3 bN bF rCmd_4 rLet_4 rNum_4 ++ wX6 cI h4 h5 h6 h7 h8 h9 h10 h11 h12 voCar_10 voGoa_10 voEag toN_10 toF_10 coN_10 coF_10 moP_10 moS_10 koCap_10 koGap_10 koCar_10 koCop_10 koGro_10 koShr_10) := hD
            obtain ⟨x2_11, ex2_11, h⟩ := kl_some h
            refine lv_iinc (v := x2_11) (lv' := [(2, .int x2_11), (4, .int r8), (0, .ref h0), (1, .ref h4), (3, .int x3)]) hx hb dX1_executeOn_76 hl (k := 3) rfl (by rw [ex2_11]; rfl) (by decide) rfl (fun ls hl => ?_)
            obtain ⟨x3_12, ex3_12, h⟩ := kl_some h
            refine lv_iinc (v := x3_12) (lv' := [(3, .int x3_12), (2, .int x2_11), (4, .int r8), (0, .ref h0), (1, .ref h4)]) hx hb dX1_executeOn_79 hl (k := 4) rfl (by rw [ex3_12]; rfl) (by decide) rfl (fun ls hl => ?_)
            refine lv_goto (tgt := 11) hx hb dX1_executeOn_82 (by decide) ?_
            exact ih x2_11 x3_12 rCmd_4 rLet_4 rNum_4 voCar_10 voGoa_10 toN_10 toF_10 coN_10 coF_10 moP_10 moS_10 koCap_10 koGap_10 koCar_10 koCop_10 koGro_10 koShr_10 h H locs hP hD hS ls (lv_sub hl [3, 4, 1, 0] rfl)
          · replace h := if_some q9 h
            refine lv_bipush (v := 10) hx hb dX1_executeOn_60 (by decide) ?_
            refine lv_iload_n hx hb dX1_executeOn_62 rfl (lv_at hl 3 rfl) ?_
            refine lv_imul hx hb dX1_executeOn_63 ?_
            refine lv_iload hx hb dX1_executeOn_64 (lv_at hl 0 rfl) ?_
            refine lv_iadd hx hb dX1_executeOn_66 ?_
            cases h
            exact ret_i hx hb hr hlocks hP hD hS dX1_executeOn_67 rfl
  have hl : lv_has ls 5 [(0, .ref h0), (1, .ref h4)] := hl
  have hP : va_P D vwCl (wX1 cI h0 h1 h2 h3 bN bF rCmd rLet rNum ++ wX6 cI h4 h5 h6 h7 h8 h9 h10 h11 h12 voCar voGoa voEag toN toF coN coF moP moS koCap koGap koCar koCop koGro koShr) s.heap := hP
  have hD : va_D A (wX1 cI h0 h1 h2 h3 bN bF rCmd rLet rNum ++ wX6 cI h4 h5 h6 h7 h8 h9 h10 h11 h12 voCar voGoa voEag toN toF coN coF moP moS koCap koGap koCar koCop koGro koShr) := hD
  show W p l e rm_X1_executeOn s m args below meth c s.heap [] 0 0 (FI D below args s (wX1 cI h0 h1 h2 h3 bN bF (rCmd') (rLet') (rNum') ++ wX6 cI h4 h5 h6 h7 h8 h9 h10 h11 h12 (voCar') (voGoa') voEag (toN') (toF') (coN') (coF') (moP') (moS') (koCap') (koGap') (koCar') (koCop') (koGro') (koShr')) r A) (F0 m 0 ls [])
  unfold f_X1_executeOn at h
  have hmain : ∀ (H : Heap) (locs : List Loc), va_P D vwCl (wX1 cI h0 h1 h2 h3 bN bF rCmd rLet rNum ++ wX6 cI h4 h5 h6 h7 h8 h9 h10 h11 h12 voCar voGoa voEag toN toF coN coF moP moS koCap koGap koCar koCop koGro koShr) H → va_S A s.heap H locs → W p l e rm_X1_executeOn s m args below meth c H locs 0 0 (FI D below args s (wX1 cI h0 h1 h2 h3 bN bF (rCmd') (rLet') (rNum') ++ wX6 cI h4 h5 h6 h7 h8 h9 h10 h11 h12 (voCar') (voGoa') voEag (toN') (toF') (coN') (coF') (moP') (moS') (koCap') (koGap') (koCar') (koCop') (koGro') (koShr')) r A) (F0 m 0 ls []) := by
    intro H locs hP hS
    refine lv_iconst (v := 0) hx hb dX1_executeOn_0 (by decide) ?_
    refine lv_istore_n (lv' := [(2, .int 0), (0, .ref h0), (1, .ref h4)]) hx hb dX1_executeOn_1 rfl hl (by decide) rfl (fun ls hl => ?_)
    refine lv_aload_n hx hb dX1_executeOn_2 rfl (lv_at hl 1 rfl) ?_
    refine va_get (D := D) (ci := 1) (v := .ref h3) (C := RX1) (T := TX1) (N := 2) hx hb hg uX1 hown hK.1 hP 0 rfl rfl 1 (by decide) (hg _ gw_236) (fun _ h9 => h9) rfl dX1_executeOn_3 ?_
    obtain ⟨⟨rCmd_13, rLet_13, rNum_13⟩, ec13, h⟩ := bd_some h
    refine cV_v (As := []) (rest := []) (wc := (wX5 cI h3 rCmd rLet rNum)) (wc' := (wX5 cI h3 rCmd_13 rLet_13 rNum_13)) hx hb hml hown hg hK hP hD hS hA hl.1 (k_X5_restart l D cI cS cL Z h3 rCmd rLet rNum ec13) gm_X5_restart gw_422 ⟨rfl, rfl, by decide, by decide⟩ ⟨Nat.zero_le _, Nat.zero_le _⟩ [3] rfl rfl rfl rfl rfl rfl rfl rfl (Nat.le_of_ble_eq_true rfl) dX1_executeOn_6 (fun H locs hP hD hS => ?_)
    have hP : va_P D vwCl (wX1 cI h0 h1 h2 h3 bN bF rCmd_13 rLet_13 rNum_13 ++ wX6 cI h4 h5 h6 h7 h8 h9 h10 h11 h12 voCar voGoa voEag toN toF coN coF moP moS koCap koGap koCar koCop koGro koShr) H := hP
    have hD : va_D A (wX1 cI h0 h1 h2 h3 bN bF rCmd_13 rLet_13 rNum_13 ++ wX6 cI h4 h5 h6 h7 h8 h9 h10 h11 h12 voCar voGoa voEag toN toF coN coF moP moS koCap koGap koCar koCop koGro koShr) := hD
    refine lv_iconst (v := 0) hx hb dX1_executeOn_9 (by decide) ?_
    refine lv_istore_n (lv' := [(3, .int 0), (2, .int 0), (0, .ref h0), (1, .ref h4)]) hx hb dX1_executeOn_10 rfl hl (by decide) rfl (fun ls hl => ?_)
    exact c_11 Z 0 0 rCmd_13 rLet_13 rNum_13 voCar voGoa toN toF coN coF moP moS koCap koGap koCar koCop koGro koShr h H locs hP hD hS ls (lv_sub hl [2, 3, 1, 0] rfl)
  exact hmain _ _ hP hS
