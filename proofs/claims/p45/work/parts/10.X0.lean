abbrev rm_X0_size : Room := { frames := 0, cells := 0, slots := 0, locals := 0 }
def f_X0_size (Z : Nat) (gL : Nat) (gN : Int32) : Option (Int32) :=
  some gN
set_option maxRecDepth 100000 in
set_option maxHeartbeats 4000000 in
theorem k_X0_size (l : Launch) (D : va_G) (cI cS cL : ClassId) (Z : Nat) (h0 : Nat) (h1 : Nat) (gL : Nat) (gN : Int32) (gF : Nat → Int32) {r : Int32} (h : f_X0_size Z gL gN = some r) : CI l yX0_size cX0_size 1 (some .int) rm_X0_size D cI cS cL [.ref h0] (wX0 cI h0 h1 gL gN gF) (wX0 cI h0 h1 gL gN gF) r := by
  refine ent_i (by decide +kernel) (Nat.le_of_ble_eq_true rfl) ?_
  intro p e s m args below meth c A ls hx hb hr hml hlocks hg hown hK hP hD hS hA hl
  have hown : s.vm.findClass RX0 = some m.cls := hown
  have hl : lv_has ls 1 [(0, .ref h0)] := hl
  have hP : va_P D vwCl (wX0 cI h0 h1 gL gN gF) s.heap := hP
  have hD : va_D A (wX0 cI h0 h1 gL gN gF) := hD
  show W p l e rm_X0_size s m args below meth c s.heap [] 0 0 (FI D below args s (wX0 cI h0 h1 gL gN gF) r A) (F0 m 0 ls [])
  unfold f_X0_size at h
  have hmain : ∀ (H : Heap) (locs : List Loc), va_P D vwCl (wX0 cI h0 h1 gL gN gF) H → va_S A s.heap H locs → W p l e rm_X0_size s m args below meth c H locs 0 0 (FI D below args s (wX0 cI h0 h1 gL gN gF) r A) (F0 m 0 ls []) := by
    intro H locs hP hS
    refine lv_aload_n hx hb dX0_size_0 rfl (lv_at hl 0 rfl) ?_
    refine va_get (D := D) (ci := 0) (v := .int gN) (C := RX0) (T := TX0) (N := 2) hx hb hg uX0 hown hK.1 hP 0 rfl rfl 1 (by decide) (hg _ gw_48) (fun _ h9 => h9) rfl dX0_size_1 ?_
    cases h
    exact ret_i hx hb hr hlocks hP hD hS dX0_size_4 rfl
  exact hmain _ _ hP hS
abbrev rm_X0_at : Room := { frames := 0, cells := 0, slots := 0, locals := 0 }
def f_X0_at (Z : Nat) (p1 : Int32) (gL : Nat) (gN : Int32) (gF : Nat → Int32) : Option (Int32) :=
  if p1 < 0 then
    some (-1)
  else
    if gN ≤ p1 then
      some (-1)
    else
      rd p1 gL (
      some (gF (Int32.toNatClampNeg p1)))
set_option maxRecDepth 100000 in
set_option maxHeartbeats 4000000 in
theorem k_X0_at (l : Launch) (D : va_G) (cI cS cL : ClassId) (Z : Nat) (h0 : Nat) (h1 : Nat) (p1 : Int32) (gL : Nat) (gN : Int32) (gF : Nat → Int32) {r : Int32} (h : f_X0_at Z p1 gL gN gF = some r) : CI l yX0_at cX0_at 2 (some .int) rm_X0_at D cI cS cL [.ref h0, .int p1] (wX0 cI h0 h1 gL gN gF) (wX0 cI h0 h1 gL gN gF) r := by
  refine ent_i (by decide +kernel) (Nat.le_of_ble_eq_true rfl) ?_
  intro p e s m args below meth c A ls hx hb hr hml hlocks hg hown hK hP hD hS hA hl
  have hown : s.vm.findClass RX0 = some m.cls := hown
  have hl : lv_has ls 2 [(0, .ref h0), (1, .int p1)] := hl
  have hP : va_P D vwCl (wX0 cI h0 h1 gL gN gF) s.heap := hP
  have hD : va_D A (wX0 cI h0 h1 gL gN gF) := hD
  show W p l e rm_X0_at s m args below meth c s.heap [] 0 0 (FI D below args s (wX0 cI h0 h1 gL gN gF) r A) (F0 m 0 ls [])
  unfold f_X0_at at h
  have hmain : ∀ (H : Heap) (locs : List Loc), va_P D vwCl (wX0 cI h0 h1 gL gN gF) H → va_S A s.heap H locs → W p l e rm_X0_at s m args below meth c H locs 0 0 (FI D below args s (wX0 cI h0 h1 gL gN gF) r A) (F0 m 0 ls []) := by
    intro H locs hP hS
    refine lv_iload_n hx hb dX0_at_0 rfl (lv_at hl 1 rfl) ?_
    refine lv_if_lt (tgt := 21) hx hb dX0_at_1 (by decide) (fun q1 => ?_) (fun q1 => ?_)
    · replace h := it_some q1 h
      refine lv_iconst (v := (-1)) hx hb dX0_at_21 (by decide) ?_
      cases h
      exact ret_i hx hb hr hlocks hP hD hS dX0_at_22 rfl
    · replace h := if_some q1 h
      refine lv_iload_n hx hb dX0_at_4 rfl (lv_at hl 1 rfl) ?_
      refine lv_aload_n hx hb dX0_at_5 rfl (lv_at hl 0 rfl) ?_
      refine va_get (D := D) (ci := 0) (v := .int gN) (C := RX0) (T := TX0) (N := 2) hx hb hg uX0 hown hK.1 hP 0 rfl rfl 1 (by decide) (hg _ gw_48) (fun _ h9 => h9) rfl dX0_at_6 ?_
      refine lv_icmp_ge (tgt := 21) hx hb dX0_at_9 (by decide) (fun q2 => ?_) (fun q2 => ?_)
      · replace h := it_some q2 h
        refine lv_iconst (v := (-1)) hx hb dX0_at_21 (by decide) ?_
        cases h
        exact ret_i hx hb hr hlocks hP hD hS dX0_at_22 rfl
      · replace h := if_some q2 h
        refine lv_aload_n hx hb dX0_at_12 rfl (lv_at hl 0 rfl) ?_
        refine va_get (D := D) (ci := 0) (v := .ref h1) (C := RX0) (T := TX0) (N := 2) hx hb hg uX0 hown hK.1 hP 0 rfl rfl 0 (by decide) (hg _ gw_47) (fun _ h9 => h9) rfl dX0_at_13 ?_
        refine lv_iload_n hx hb dX0_at_16 rfl (lv_at hl 1 rfl) ?_
        obtain ⟨v3, h⟩ := rd_some h
        refine va_iald hx hb hK.1 hP 1 0 rfl rfl v3 dX0_at_17 ?_
        refine lv_goto (tgt := 22) hx hb dX0_at_18 (by decide) ?_
        cases h
        exact ret_i hx hb hr hlocks hP hD hS dX0_at_22 rfl
  exact hmain _ _ hP hS
abbrev rm_X0_put : Room := { frames := 0, cells := 0, slots := 0, locals := 0 }
def f_X0_put (Z : Nat) (p1 : Int32) (p2 : Int32) (gL : Nat) (gN : Int32) (gF : Nat → Int32) : Option ((Nat → Int32)) :=
  if p1 < 0 then
    some gF
  else
    if gN ≤ p1 then
      some gF
    else
      rd p1 gL (kl (upd gF (Int32.toNatClampNeg p1) p2) fun gF_4 =>
      some gF_4)
set_option maxRecDepth 100000 in
set_option maxHeartbeats 4000000 in
theorem k_X0_put (l : Launch) (D : va_G) (cI cS cL : ClassId) (Z : Nat) (h0 : Nat) (h1 : Nat) (p1 : Int32) (p2 : Int32) (gL : Nat) (gN : Int32) (gF : Nat → Int32) {gF' : Nat → Int32} (h : f_X0_put Z p1 p2 gL gN gF = some gF') : CV l yX0_put cX0_put 3 none rm_X0_put D cI cS cL [.ref h0, .int p1, .int p2] (wX0 cI h0 h1 gL gN gF) (wX0 cI h0 h1 gL gN (gF')) := by
  refine ent_v (by decide +kernel) (Nat.le_of_ble_eq_true rfl) ?_
  intro p e s m args below meth c A ls hx hb hr hml hlocks hg hown hK hP hD hS hA hl
  have hown : s.vm.findClass RX0 = some m.cls := hown
  have hl : lv_has ls 3 [(0, .ref h0), (1, .int p1), (2, .int p2)] := hl
  have hP : va_P D vwCl (wX0 cI h0 h1 gL gN gF) s.heap := hP
  have hD : va_D A (wX0 cI h0 h1 gL gN gF) := hD
  show W p l e rm_X0_put s m args below meth c s.heap [] 0 0 (FV D below args s (wX0 cI h0 h1 gL gN (gF')) A) (F0 m 0 ls [])
  unfold f_X0_put at h
  have hmain : ∀ (H : Heap) (locs : List Loc), va_P D vwCl (wX0 cI h0 h1 gL gN gF) H → va_S A s.heap H locs → W p l e rm_X0_put s m args below meth c H locs 0 0 (FV D below args s (wX0 cI h0 h1 gL gN (gF')) A) (F0 m 0 ls []) := by
    intro H locs hP hS
    refine lv_iload_n hx hb dX0_put_0 rfl (lv_at hl 1 rfl) ?_
    refine lv_if_lt (tgt := 19) hx hb dX0_put_1 (by decide) (fun q1 => ?_) (fun q1 => ?_)
    · replace h := it_some q1 h
      cases h
      exact ret_v hx hb hr hlocks hP hD hS dX0_put_19
    · replace h := if_some q1 h
      refine lv_iload_n hx hb dX0_put_4 rfl (lv_at hl 1 rfl) ?_
      refine lv_aload_n hx hb dX0_put_5 rfl (lv_at hl 0 rfl) ?_
      refine va_get (D := D) (ci := 0) (v := .int gN) (C := RX0) (T := TX0) (N := 2) hx hb hg uX0 hown hK.1 hP 0 rfl rfl 1 (by decide) (hg _ gw_48) (fun _ h9 => h9) rfl dX0_put_6 ?_
      refine lv_icmp_ge (tgt := 19) hx hb dX0_put_9 (by decide) (fun q2 => ?_) (fun q2 => ?_)
      · replace h := it_some q2 h
        cases h
        exact ret_v hx hb hr hlocks hP hD hS dX0_put_19
      · replace h := if_some q2 h
        refine lv_aload_n hx hb dX0_put_12 rfl (lv_at hl 0 rfl) ?_
        refine va_get (D := D) (ci := 0) (v := .ref h1) (C := RX0) (T := TX0) (N := 2) hx hb hg uX0 hown hK.1 hP 0 rfl rfl 0 (by decide) (hg _ gw_47) (fun _ h9 => h9) rfl dX0_put_13 ?_
        refine lv_iload_n hx hb dX0_put_16 rfl (lv_at hl 1 rfl) ?_
        refine lv_iload_n hx hb dX0_put_17 rfl (lv_at hl 2 rfl) ?_
        obtain ⟨v3, h⟩ := rd_some h
        obtain ⟨gF_4, egF_4, h⟩ := kl_some h
        refine va_iast hx hb hK.1 hP hD hS 1 0 rfl rfl v3 dX0_put_18 (fun H locs hP hD hS => ?_)
        have hP : va_P D vwCl (wX0 cI h0 h1 gL gN gF_4) H := by rw [egF_4]; exact hP
        have hD : va_D A (wX0 cI h0 h1 gL gN gF_4) := by rw [egF_4]; exact hD
        cases h
        exact ret_v hx hb hr hlocks hP hD hS dX0_put_19
  exact hmain _ _ hP hS
abbrev rm_X0_open : Room := { frames := 1, cells := 0, slots := 0, locals := 40 }
def f_X0_open_c23 (Z : Nat) (p1 : Int32) (p2 : Int32) (gL : Nat) (y0 : Int32) (gN : Int32) (gF : Nat → Int32) : Option (Int32 × (Nat → Int32)) :=
    if y0 = 0 then
      some (gN, gF)
    else
      if p1 < 0 then
        some (gN, gF)
      else
        if gN < p1 then
          some (gN, gF)
        else
          kc p1 (p1 + p2) (gN - p1) gL gL (kl (va_cpy gF gF (Int32.toNatClampNeg p1) (Int32.toNatClampNeg (p1 + p2)) (Int32.toNatClampNeg (gN - p1))) fun gF_5 =>
          kl (gN + p2) fun gN_6 =>
          some (gN_6, gF_5))
def f_X0_open_c22 (Z : Nat) (p1 : Int32) (p2 : Int32) (gL : Nat) (gN : Int32) (gF : Nat → Int32) : Option (Int32 × (Nat → Int32)) :=
    f_X0_open_c23 Z p1 p2 gL 0 gN gF
def f_X0_open (Z : Nat) (p1 : Int32) (p2 : Int32) (gL : Nat) (gN : Int32) (gF : Nat → Int32) : Option (Int32 × (Nat → Int32)) :=
  if p2 < 0 then
    f_X0_open_c22 Z p1 p2 gL gN gF
  else
    if ((Int32.ofNat gL) - gN) < p2 then
      f_X0_open_c22 Z p1 p2 gL gN gF
    else
      f_X0_open_c23 Z p1 p2 gL 1 gN gF
set_option maxRecDepth 100000 in
set_option maxHeartbeats 4000000 in
theorem k_X0_open (l : Launch) (D : va_G) (cI cS cL : ClassId) (Z : Nat) (h0 : Nat) (h1 : Nat) (p1 : Int32) (p2 : Int32) (gL : Nat) (gN : Int32) (gF : Nat → Int32) {gN' : Int32} {gF' : Nat → Int32} (h : f_X0_open Z p1 p2 gL gN gF = some (gN', gF')) : CV l yX0_open cX0_open 4 none rm_X0_open D cI cS cL [.ref h0, .int p1, .int p2] (wX0 cI h0 h1 gL gN gF) (wX0 cI h0 h1 gL (gN') (gF')) := by
  refine ent_v (by decide +kernel) (Nat.le_of_ble_eq_true rfl) ?_
  intro p e s m args below meth c A ls hx hb hr hml hlocks hg hown hK hP hD hS hA hl
  have hown : s.vm.findClass RX0 = some m.cls := hown
  have c_23 : ∀ (y0 : Int32) (gN : Int32) (gF : Nat → Int32), f_X0_open_c23 Z p1 p2 gL y0 gN gF = some (gN', gF') → ∀ (H : Heap) (locs : List Loc), va_P D vwCl (wX0 cI h0 h1 gL gN gF) H → va_D A (wX0 cI h0 h1 gL gN gF) → va_S A s.heap H locs → ∀ ls : Array Slot, lv_has ls 4 [(0, .ref h0), (1, .int p1), (2, .int p2)] → W p l e rm_X0_open s m args below meth c H locs 0 0 (FV D below args s (wX0 cI h0 h1 gL (gN') (gF')) A) (F0 m 23 ls [.int y0]) := by
    intro y0 gN gF h H locs hP hD hS ls hl
    unfold f_X0_open_c23 at h
    refine lv_istore_n (lv' := [(3, .int y0), (0, .ref h0), (1, .int p1), (2, .int p2)]) hx hb dX0_open_23 rfl hl (by decide) rfl (fun ls hl => ?_)
    refine lv_iload_n hx hb dX0_open_24 rfl (lv_at hl 0 rfl) ?_
    refine lv_if_eq (tgt := 71) hx hb dX0_open_25 (by decide) (fun q1 => ?_) (fun q1 => ?_)
    · replace h := it_some q1 h
      cases h
      exact ret_v hx hb hr hlocks hP hD hS dX0_open_71
    · replace h := if_some q1 h
      refine lv_iload_n hx hb dX0_open_28 rfl (lv_at hl 2 rfl) ?_
      refine lv_if_lt (tgt := 71) hx hb dX0_open_29 (by decide) (fun q2 => ?_) (fun q2 => ?_)
      · replace h := it_some q2 h
        cases h
        exact ret_v hx hb hr hlocks hP hD hS dX0_open_71
      · replace h := if_some q2 h
        refine lv_iload_n hx hb dX0_open_32 rfl (lv_at hl 2 rfl) ?_
        refine lv_aload_n hx hb dX0_open_33 rfl (lv_at hl 1 rfl) ?_
        refine va_get (D := D) (ci := 0) (v := .int gN) (C := RX0) (T := TX0) (N := 2) hx hb hg uX0 hown hK.1 hP 0 rfl rfl 1 (by decide) (hg _ gw_48) (fun _ h9 => h9) rfl dX0_open_34 ?_
        refine lv_icmp_gt (tgt := 71) hx hb dX0_open_37 (by decide) (fun q3 => ?_) (fun q3 => ?_)
        · replace h := it_some q3 h
          cases h
          exact ret_v hx hb hr hlocks hP hD hS dX0_open_71
        · replace h := if_some q3 h
          refine lv_aload_n hx hb dX0_open_40 rfl (lv_at hl 1 rfl) ?_
          refine va_get (D := D) (ci := 0) (v := .ref h1) (C := RX0) (T := TX0) (N := 2) hx hb hg uX0 hown hK.1 hP 0 rfl rfl 0 (by decide) (hg _ gw_47) (fun _ h9 => h9) rfl dX0_open_41 ?_
          refine lv_iload_n hx hb dX0_open_44 rfl (lv_at hl 2 rfl) ?_
          refine lv_aload_n hx hb dX0_open_45 rfl (lv_at hl 1 rfl) ?_
          refine va_get (D := D) (ci := 0) (v := .ref h1) (C := RX0) (T := TX0) (N := 2) hx hb hg uX0 hown hK.1 hP 0 rfl rfl 0 (by decide) (hg _ gw_47) (fun _ h9 => h9) rfl dX0_open_46 ?_
          refine lv_iload_n hx hb dX0_open_49 rfl (lv_at hl 2 rfl) ?_
          refine lv_iload_n hx hb dX0_open_50 rfl (lv_at hl 3 rfl) ?_
          refine lv_iadd hx hb dX0_open_51 ?_
          refine lv_aload_n hx hb dX0_open_52 rfl (lv_at hl 1 rfl) ?_
          refine va_get (D := D) (ci := 0) (v := .int gN) (C := RX0) (T := TX0) (N := 2) hx hb hg uX0 hown hK.1 hP 0 rfl rfl 1 (by decide) (hg _ gw_48) (fun _ h9 => h9) rfl dX0_open_53 ?_
          refine lv_iload_n hx hb dX0_open_56 rfl (lv_at hl 2 rfl) ?_
          refine lv_isub hx hb dX0_open_57 ?_
          obtain ⟨⟨w41, w42, w43, w44, w45⟩, h⟩ := kc_some h
          obtain ⟨gF_5, egF_5, h⟩ := kl_some h
          refine va_copyi (ty := .int) hx hb (hml.trans hl.1.symm) hown (hg _ gw_287) (hg _ gw_289) (hg _ gw_288) (hg _ gw_21) hK.1 hP hD hS 1 1 0 0 rfl rfl rfl rfl rfl w41 w42 w43 w44 w45 (fun _ _ => rfl) (by decide) (by decide) dX0_open_58 (fun H locs hP hD hS => ?_)
          have hP : va_P D vwCl (wX0 cI h0 h1 gL gN gF_5) H := by rw [egF_5]; exact hP
          have hD : va_D A (wX0 cI h0 h1 gL gN gF_5) := by rw [egF_5]; exact hD
          refine lv_aload_n hx hb dX0_open_61 rfl (lv_at hl 1 rfl) ?_
          refine lv_dup hx hb dX0_open_62 rfl ?_
          refine va_get (D := D) (ci := 0) (v := .int gN) (C := RX0) (T := TX0) (N := 2) hx hb hg uX0 hown hK.1 hP 0 rfl rfl 1 (by decide) (hg _ gw_48) (fun _ h9 => h9) rfl dX0_open_63 ?_
          refine lv_iload_n hx hb dX0_open_66 rfl (lv_at hl 3 rfl) ?_
          refine lv_iadd hx hb dX0_open_67 ?_
          obtain ⟨gN_6, egN_6, h⟩ := kl_some h
          refine nm_i egN_6 ?_
          refine va_put (D := D) (ci := 0) (v := .int gN_6) (ty := tyX0 1) (C := RX0) (T := TX0) (N := 2) hx hb hg uX0 tyX0 tyX0_ok nmX0 hown hK.1 hP hD hS 0 rfl rfl 1 (by decide) (hg _ gw_48) (fun _ h9 => h9) rfl (tyX0_ok 1 (by decide)) rfl rfl (Nat.le_of_ble_eq_true rfl) dX0_open_68 (fun H locs hP hD hS => ?_)
          have hP : va_P D vwCl (wX0 cI h0 h1 gL gN_6 gF_5) H := hP
          have hD : va_D A (wX0 cI h0 h1 gL gN_6 gF_5) := hD
          cases h
          exact ret_v hx hb hr hlocks hP hD hS dX0_open_71
  have c_22 : ∀ (gN : Int32) (gF : Nat → Int32), f_X0_open_c22 Z p1 p2 gL gN gF = some (gN', gF') → ∀ (H : Heap) (locs : List Loc), va_P D vwCl (wX0 cI h0 h1 gL gN gF) H → va_D A (wX0 cI h0 h1 gL gN gF) → va_S A s.heap H locs → ∀ ls : Array Slot, lv_has ls 4 [(0, .ref h0), (1, .int p1), (2, .int p2)] → W p l e rm_X0_open s m args below meth c H locs 0 0 (FV D below args s (wX0 cI h0 h1 gL (gN') (gF')) A) (F0 m 22 ls []) := by
    intro gN gF h H locs hP hD hS ls hl
    unfold f_X0_open_c22 at h
    refine lv_iconst (v := 0) hx hb dX0_open_22 (by decide) ?_
    exact c_23 0 gN gF h H locs hP hD hS ls (lv_sub hl [0, 1, 2] rfl)
  have hl : lv_has ls 4 [(0, .ref h0), (1, .int p1), (2, .int p2)] := hl
  have hP : va_P D vwCl (wX0 cI h0 h1 gL gN gF) s.heap := hP
  have hD : va_D A (wX0 cI h0 h1 gL gN gF) := hD
  show W p l e rm_X0_open s m args below meth c s.heap [] 0 0 (FV D below args s (wX0 cI h0 h1 gL (gN') (gF')) A) (F0 m 0 ls [])
  unfold f_X0_open at h
  have hmain : ∀ (H : Heap) (locs : List Loc), va_P D vwCl (wX0 cI h0 h1 gL gN gF) H → va_S A s.heap H locs → W p l e rm_X0_open s m args below meth c H locs 0 0 (FV D below args s (wX0 cI h0 h1 gL (gN') (gF')) A) (F0 m 0 ls []) := by
    intro H locs hP hS
    refine lv_iload_n hx hb dX0_open_0 rfl (lv_at hl 2 rfl) ?_
    refine lv_if_lt (tgt := 22) hx hb dX0_open_1 (by decide) (fun q7 => ?_) (fun q7 => ?_)
    · replace h := it_some q7 h
      exact c_22 gN gF h H locs hP hD hS ls (lv_sub hl [0, 1, 2] rfl)
    · replace h := if_some q7 h
      refine lv_iload_n hx hb dX0_open_4 rfl (lv_at hl 2 rfl) ?_
      refine lv_aload_n hx hb dX0_open_5 rfl (lv_at hl 0 rfl) ?_
      refine va_get (D := D) (ci := 0) (v := .ref h1) (C := RX0) (T := TX0) (N := 2) hx hb hg uX0 hown hK.1 hP 0 rfl rfl 0 (by decide) (hg _ gw_47) (fun _ h9 => h9) rfl dX0_open_6 ?_
      refine va_alen (v := Int32.ofNat gL) hx hb hK.1 hP 1 0 rfl rfl rfl dX0_open_9 ?_
      refine lv_aload_n hx hb dX0_open_10 rfl (lv_at hl 0 rfl) ?_
      refine va_get (D := D) (ci := 0) (v := .int gN) (C := RX0) (T := TX0) (N := 2) hx hb hg uX0 hown hK.1 hP 0 rfl rfl 1 (by decide) (hg _ gw_48) (fun _ h9 => h9) rfl dX0_open_11 ?_
      refine lv_isub hx hb dX0_open_14 ?_
      refine lv_icmp_gt (tgt := 22) hx hb dX0_open_15 (by decide) (fun q8 => ?_) (fun q8 => ?_)
      · replace h := it_some q8 h
        exact c_22 gN gF h H locs hP hD hS ls (lv_sub hl [0, 1, 2] rfl)
      · replace h := if_some q8 h
        refine lv_iconst (v := 1) hx hb dX0_open_18 (by decide) ?_
        refine lv_goto (tgt := 23) hx hb dX0_open_19 (by decide) ?_
        exact c_23 1 gN gF h H locs hP hD hS ls (lv_sub hl [0, 1, 2] rfl)
  exact hmain _ _ hP hS
abbrev rm_X0_close : Room := { frames := 1, cells := 0, slots := 0, locals := 40 }
def f_X0_close (Z : Nat) (p1 : Int32) (p2 : Int32) (gL : Nat) (gN : Int32) (gF : Nat → Int32) : Option (Int32 × (Nat → Int32)) :=
  if p1 < 0 then
    some (gN, gF)
  else
    if p2 < 0 then
      some (gN, gF)
    else
      if (gN - p1) < p2 then
        some (gN, gF)
      else
        kl (p1 + p2) fun x3_4 =>
        kc x3_4 p1 (gN - x3_4) gL gL (kl (va_cpy gF gF (Int32.toNatClampNeg x3_4) (Int32.toNatClampNeg p1) (Int32.toNatClampNeg (gN - x3_4))) fun gF_6 =>
        kl (gN - p2) fun gN_7 =>
        some (gN_7, gF_6))
set_option maxRecDepth 100000 in
set_option maxHeartbeats 4000000 in
theorem k_X0_close (l : Launch) (D : va_G) (cI cS cL : ClassId) (Z : Nat) (h0 : Nat) (h1 : Nat) (p1 : Int32) (p2 : Int32) (gL : Nat) (gN : Int32) (gF : Nat → Int32) {gN' : Int32} {gF' : Nat → Int32} (h : f_X0_close Z p1 p2 gL gN gF = some (gN', gF')) : CV l yX0_close cX0_close 4 none rm_X0_close D cI cS cL [.ref h0, .int p1, .int p2] (wX0 cI h0 h1 gL gN gF) (wX0 cI h0 h1 gL (gN') (gF')) := by
  refine ent_v (by decide +kernel) (Nat.le_of_ble_eq_true rfl) ?_
  intro p e s m args below meth c A ls hx hb hr hml hlocks hg hown hK hP hD hS hA hl
  have hown : s.vm.findClass RX0 = some m.cls := hown
  have hl : lv_has ls 4 [(0, .ref h0), (1, .int p1), (2, .int p2)] := hl
  have hP : va_P D vwCl (wX0 cI h0 h1 gL gN gF) s.heap := hP
  have hD : va_D A (wX0 cI h0 h1 gL gN gF) := hD
  show W p l e rm_X0_close s m args below meth c s.heap [] 0 0 (FV D below args s (wX0 cI h0 h1 gL (gN') (gF')) A) (F0 m 0 ls [])
  unfold f_X0_close at h
  have hmain : ∀ (H : Heap) (locs : List Loc), va_P D vwCl (wX0 cI h0 h1 gL gN gF) H → va_S A s.heap H locs → W p l e rm_X0_close s m args below meth c H locs 0 0 (FV D below args s (wX0 cI h0 h1 gL (gN') (gF')) A) (F0 m 0 ls []) := by
    intro H locs hP hS
    refine lv_iload_n hx hb dX0_close_0 rfl (lv_at hl 1 rfl) ?_
    refine lv_if_lt (tgt := 51) hx hb dX0_close_1 (by decide) (fun q1 => ?_) (fun q1 => ?_)
    · replace h := it_some q1 h
      cases h
      exact ret_v hx hb hr hlocks hP hD hS dX0_close_51
    · replace h := if_some q1 h
      refine lv_iload_n hx hb dX0_close_4 rfl (lv_at hl 2 rfl) ?_
      refine lv_if_lt (tgt := 51) hx hb dX0_close_5 (by decide) (fun q2 => ?_) (fun q2 => ?_)
      · replace h := it_some q2 h
        cases h
        exact ret_v hx hb hr hlocks hP hD hS dX0_close_51
      · replace h := if_some q2 h
        refine lv_iload_n hx hb dX0_close_8 rfl (lv_at hl 2 rfl) ?_
        refine lv_aload_n hx hb dX0_close_9 rfl (lv_at hl 0 rfl) ?_
        refine va_get (D := D) (ci := 0) (v := .int gN) (C := RX0) (T := TX0) (N := 2) hx hb hg uX0 hown hK.1 hP 0 rfl rfl 1 (by decide) (hg _ gw_48) (fun _ h9 => h9) rfl dX0_close_10 ?_
        refine lv_iload_n hx hb dX0_close_13 rfl (lv_at hl 1 rfl) ?_
        refine lv_isub hx hb dX0_close_14 ?_
        refine lv_icmp_gt (tgt := 51) hx hb dX0_close_15 (by decide) (fun q3 => ?_) (fun q3 => ?_)
        · replace h := it_some q3 h
          cases h
          exact ret_v hx hb hr hlocks hP hD hS dX0_close_51
        · replace h := if_some q3 h
          refine lv_iload_n hx hb dX0_close_18 rfl (lv_at hl 1 rfl) ?_
          refine lv_iload_n hx hb dX0_close_19 rfl (lv_at hl 2 rfl) ?_
          refine lv_iadd hx hb dX0_close_20 ?_
          obtain ⟨x3_4, ex3_4, h⟩ := kl_some h
          refine nm_i ex3_4 ?_
          refine lv_istore_n (lv' := [(3, .int x3_4), (0, .ref h0), (1, .int p1), (2, .int p2)]) hx hb dX0_close_21 rfl hl (by decide) rfl (fun ls hl => ?_)
          refine lv_aload_n hx hb dX0_close_22 rfl (lv_at hl 1 rfl) ?_
          refine va_get (D := D) (ci := 0) (v := .ref h1) (C := RX0) (T := TX0) (N := 2) hx hb hg uX0 hown hK.1 hP 0 rfl rfl 0 (by decide) (hg _ gw_47) (fun _ h9 => h9) rfl dX0_close_23 ?_
          refine lv_iload_n hx hb dX0_close_26 rfl (lv_at hl 0 rfl) ?_
          refine lv_aload_n hx hb dX0_close_27 rfl (lv_at hl 1 rfl) ?_
          refine va_get (D := D) (ci := 0) (v := .ref h1) (C := RX0) (T := TX0) (N := 2) hx hb hg uX0 hown hK.1 hP 0 rfl rfl 0 (by decide) (hg _ gw_47) (fun _ h9 => h9) rfl dX0_close_28 ?_
          refine lv_iload_n hx hb dX0_close_31 rfl (lv_at hl 2 rfl) ?_
          refine lv_aload_n hx hb dX0_close_32 rfl (lv_at hl 1 rfl) ?_
          refine va_get (D := D) (ci := 0) (v := .int gN) (C := RX0) (T := TX0) (N := 2) hx hb hg uX0 hown hK.1 hP 0 rfl rfl 1 (by decide) (hg _ gw_48) (fun _ h9 => h9) rfl dX0_close_33 ?_
          refine lv_iload_n hx hb dX0_close_36 rfl (lv_at hl 0 rfl) ?_
          refine lv_isub hx hb dX0_close_37 ?_
          obtain ⟨⟨w51, w52, w53, w54, w55⟩, h⟩ := kc_some h
          obtain ⟨gF_6, egF_6, h⟩ := kl_some h
          refine va_copyi (ty := .int) hx hb (hml.trans hl.1.symm) hown (hg _ gw_287) (hg _ gw_289) (hg _ gw_288) (hg _ gw_21) hK.1 hP hD hS 1 1 0 0 rfl rfl rfl rfl rfl w51 w52 w53 w54 w55 (fun _ _ => rfl) (by decide) (by decide) dX0_close_38 (fun H locs hP hD hS => ?_)
          have hP : va_P D vwCl (wX0 cI h0 h1 gL gN gF_6) H := by rw [egF_6]; exact hP
          have hD : va_D A (wX0 cI h0 h1 gL gN gF_6) := by rw [egF_6]; exact hD
          refine lv_aload_n hx hb dX0_close_41 rfl (lv_at hl 1 rfl) ?_
          refine lv_dup hx hb dX0_close_42 rfl ?_
          refine va_get (D := D) (ci := 0) (v := .int gN) (C := RX0) (T := TX0) (N := 2) hx hb hg uX0 hown hK.1 hP 0 rfl rfl 1 (by decide) (hg _ gw_48) (fun _ h9 => h9) rfl dX0_close_43 ?_
          refine lv_iload_n hx hb dX0_close_46 rfl (lv_at hl 3 rfl) ?_
          refine lv_isub hx hb dX0_close_47 ?_
          obtain ⟨gN_7, egN_7, h⟩ := kl_some h
          refine nm_i egN_7 ?_
          refine va_put (D := D) (ci := 0) (v := .int gN_7) (ty := tyX0 1) (C := RX0) (T := TX0) (N := 2) hx hb hg uX0 tyX0 tyX0_ok nmX0 hown hK.1 hP hD hS 0 rfl rfl 1 (by decide) (hg _ gw_48) (fun _ h9 => h9) rfl (tyX0_ok 1 (by decide)) rfl rfl (Nat.le_of_ble_eq_true rfl) dX0_close_48 (fun H locs hP hD hS => ?_)
          have hP : va_P D vwCl (wX0 cI h0 h1 gL gN_7 gF_6) H := hP
          have hD : va_D A (wX0 cI h0 h1 gL gN_7 gF_6) := hD
          cases h
          exact ret_v hx hb hr hlocks hP hD hS dX0_close_51
  exact hmain _ _ hP hS
abbrev rm_X0_assign : Room := { frames := 1, cells := 0, slots := 0, locals := 40 }
def f_X0_assign_c23 (Z : Nat) (p2 : Int32) (p3 : Int32) (gL : Nat) (gLo : Nat) (goN : Int32) (goF : Nat → Int32) (y0 : Int32) (gN : Int32) (gF : Nat → Int32) : Option (Int32 × (Nat → Int32)) :=
    if y0 = 0 then
      some (gN, gF)
    else
      if (Int32.ofNat gL) < p3 then
        some (gN, gF)
      else
        kc p2 0 p3 gLo gL (kl (va_cpy goF gF (Int32.toNatClampNeg p2) (Int32.toNatClampNeg 0) (Int32.toNatClampNeg p3)) fun gF_4 =>
        some (p3, gF_4))
def f_X0_assign_c22 (Z : Nat) (p2 : Int32) (p3 : Int32) (gL : Nat) (gLo : Nat) (goN : Int32) (goF : Nat → Int32) (gN : Int32) (gF : Nat → Int32) : Option (Int32 × (Nat → Int32)) :=
    f_X0_assign_c23 Z p2 p3 gL gLo goN goF 0 gN gF
def f_X0_assign (Z : Nat) (p2 : Int32) (p3 : Int32) (gL : Nat) (gLo : Nat) (gN : Int32) (gF : Nat → Int32) (goN : Int32) (goF : Nat → Int32) : Option (Int32 × (Nat → Int32)) :=
  if p2 < 0 then
    f_X0_assign_c22 Z p2 p3 gL gLo goN goF gN gF
  else
    if p3 < 0 then
      f_X0_assign_c22 Z p2 p3 gL gLo goN goF gN gF
    else
      if (goN - p2) < p3 then
        f_X0_assign_c22 Z p2 p3 gL gLo goN goF gN gF
      else
        f_X0_assign_c23 Z p2 p3 gL gLo goN goF 1 gN gF
set_option maxRecDepth 100000 in
set_option maxHeartbeats 4000000 in
theorem k_X0_assign (l : Launch) (D : va_G) (cI cS cL : ClassId) (Z : Nat) (h0 : Nat) (h1 : Nat) (h2 : Nat) (h3 : Nat) (p2 : Int32) (p3 : Int32) (gL : Nat) (gLo : Nat) (gN : Int32) (gF : Nat → Int32) (goN : Int32) (goF : Nat → Int32) {gN' : Int32} {gF' : Nat → Int32} (h : f_X0_assign Z p2 p3 gL gLo gN gF goN goF = some (gN', gF')) : CV l yX0_assign cX0_assign 5 none rm_X0_assign D cI cS cL [.ref h0, .ref h2, .int p2, .int p3] (wX0 cI h0 h1 gL gN gF ++ wX0 cI h2 h3 gLo goN goF) (wX0 cI h0 h1 gL (gN') (gF') ++ wX0 cI h2 h3 gLo goN goF) := by
  refine ent_v (by decide +kernel) (Nat.le_of_ble_eq_true rfl) ?_
  intro p e s m args below meth c A ls hx hb hr hml hlocks hg hown hK hP hD hS hA hl
  have hown : s.vm.findClass RX0 = some m.cls := hown
  have c_23 : ∀ (y0 : Int32) (gN : Int32) (gF : Nat → Int32), f_X0_assign_c23 Z p2 p3 gL gLo goN goF y0 gN gF = some (gN', gF') → ∀ (H : Heap) (locs : List Loc), va_P D vwCl (wX0 cI h0 h1 gL gN gF ++ wX0 cI h2 h3 gLo goN goF) H → va_D A (wX0 cI h0 h1 gL gN gF ++ wX0 cI h2 h3 gLo goN goF) → va_S A s.heap H locs → ∀ ls : Array Slot, lv_has ls 5 [(0, .ref h0), (1, .ref h2), (2, .int p2), (3, .int p3)] → W p l e rm_X0_assign s m args below meth c H locs 0 0 (FV D below args s (wX0 cI h0 h1 gL (gN') (gF') ++ wX0 cI h2 h3 gLo goN goF) A) (F0 m 23 ls [.int y0]) := by
    intro y0 gN gF h H locs hP hD hS ls hl
    unfold f_X0_assign_c23 at h
    refine lv_istore (lv' := [(4, .int y0), (0, .ref h0), (1, .ref h2), (2, .int p2), (3, .int p3)]) hx hb dX0_assign_23 hl (by decide) rfl (fun ls hl => ?_)
    refine lv_iload hx hb dX0_assign_25 (lv_at hl 0 rfl) ?_
    refine lv_if_eq (tgt := 58) hx hb dX0_assign_27 (by decide) (fun q1 => ?_) (fun q1 => ?_)
    · replace h := it_some q1 h
      cases h
      exact ret_v hx hb hr hlocks hP hD hS dX0_assign_58
    · replace h := if_some q1 h
      refine lv_iload_n hx hb dX0_assign_30 rfl (lv_at hl 4 rfl) ?_
      refine lv_aload_n hx hb dX0_assign_31 rfl (lv_at hl 1 rfl) ?_
      refine va_get (D := D) (ci := 0) (v := .ref h1) (C := RX0) (T := TX0) (N := 2) hx hb hg uX0 hown hK.1 hP 0 rfl rfl 0 (by decide) (hg _ gw_47) (fun _ h9 => h9) rfl dX0_assign_32 ?_
      refine va_alen (v := Int32.ofNat gL) hx hb hK.1 hP 1 0 rfl rfl rfl dX0_assign_35 ?_
      refine lv_icmp_gt (tgt := 58) hx hb dX0_assign_36 (by decide) (fun q2 => ?_) (fun q2 => ?_)
      · replace h := it_some q2 h
        cases h
        exact ret_v hx hb hr hlocks hP hD hS dX0_assign_58
      · replace h := if_some q2 h
        refine lv_aload_n hx hb dX0_assign_39 rfl (lv_at hl 2 rfl) ?_
        refine va_get (D := D) (ci := 0) (v := .ref h3) (C := RX0) (T := TX0) (N := 2) hx hb hg uX0 hown hK.1 hP 2 rfl rfl 0 (by decide) (hg _ gw_47) (fun _ h9 => h9) rfl dX0_assign_40 ?_
        refine lv_iload_n hx hb dX0_assign_43 rfl (lv_at hl 3 rfl) ?_
        refine lv_aload_n hx hb dX0_assign_44 rfl (lv_at hl 1 rfl) ?_
        refine va_get (D := D) (ci := 0) (v := .ref h1) (C := RX0) (T := TX0) (N := 2) hx hb hg uX0 hown hK.1 hP 0 rfl rfl 0 (by decide) (hg _ gw_47) (fun _ h9 => h9) rfl dX0_assign_45 ?_
        refine lv_iconst (v := 0) hx hb dX0_assign_48 (by decide) ?_
        refine lv_iload_n hx hb dX0_assign_49 rfl (lv_at hl 4 rfl) ?_
        obtain ⟨⟨w31, w32, w33, w34, w35⟩, h⟩ := kc_some h
        obtain ⟨gF_4, egF_4, h⟩ := kl_some h
        refine va_copyi (ty := .int) hx hb (hml.trans hl.1.symm) hown (hg _ gw_287) (hg _ gw_289) (hg _ gw_288) (hg _ gw_21) hK.1 hP hD hS 3 1 0 0 rfl rfl rfl rfl rfl w31 w32 w33 w34 w35 (fun _ _ => rfl) (by decide) (by decide) dX0_assign_50 (fun H locs hP hD hS => ?_)
        have hP : va_P D vwCl (wX0 cI h0 h1 gL gN gF_4 ++ wX0 cI h2 h3 gLo goN goF) H := by rw [egF_4]; exact hP
        have hD : va_D A (wX0 cI h0 h1 gL gN gF_4 ++ wX0 cI h2 h3 gLo goN goF) := by rw [egF_4]; exact hD
        refine lv_aload_n hx hb dX0_assign_53 rfl (lv_at hl 1 rfl) ?_
        refine lv_iload_n hx hb dX0_assign_54 rfl (lv_at hl 4 rfl) ?_
        refine va_put (D := D) (ci := 0) (v := .int p3) (ty := tyX0 1) (C := RX0) (T := TX0) (N := 2) hx hb hg uX0 tyX0 tyX0_ok nmX0 hown hK.1 hP hD hS 0 rfl rfl 1 (by decide) (hg _ gw_48) (fun _ h9 => h9) rfl (tyX0_ok 1 (by decide)) rfl rfl (Nat.le_of_ble_eq_true rfl) dX0_assign_55 (fun H locs hP hD hS => ?_)
        have hP : va_P D vwCl (wX0 cI h0 h1 gL p3 gF_4 ++ wX0 cI h2 h3 gLo goN goF) H := hP
        have hD : va_D A (wX0 cI h0 h1 gL p3 gF_4 ++ wX0 cI h2 h3 gLo goN goF) := hD
        cases h
        exact ret_v hx hb hr hlocks hP hD hS dX0_assign_58
  have c_22 : ∀ (gN : Int32) (gF : Nat → Int32), f_X0_assign_c22 Z p2 p3 gL gLo goN goF gN gF = some (gN', gF') → ∀ (H : Heap) (locs : List Loc), va_P D vwCl (wX0 cI h0 h1 gL gN gF ++ wX0 cI h2 h3 gLo goN goF) H → va_D A (wX0 cI h0 h1 gL gN gF ++ wX0 cI h2 h3 gLo goN goF) → va_S A s.heap H locs → ∀ ls : Array Slot, lv_has ls 5 [(0, .ref h0), (1, .ref h2), (2, .int p2), (3, .int p3)] → W p l e rm_X0_assign s m args below meth c H locs 0 0 (FV D below args s (wX0 cI h0 h1 gL (gN') (gF') ++ wX0 cI h2 h3 gLo goN goF) A) (F0 m 22 ls []) := by
    intro gN gF h H locs hP hD hS ls hl
    unfold f_X0_assign_c22 at h
    refine lv_iconst (v := 0) hx hb dX0_assign_22 (by decide) ?_
    exact c_23 0 gN gF h H locs hP hD hS ls (lv_sub hl [0, 1, 2, 3] rfl)
  have hl : lv_has ls 5 [(0, .ref h0), (1, .ref h2), (2, .int p2), (3, .int p3)] := hl
  have hP : va_P D vwCl (wX0 cI h0 h1 gL gN gF ++ wX0 cI h2 h3 gLo goN goF) s.heap := hP
  have hD : va_D A (wX0 cI h0 h1 gL gN gF ++ wX0 cI h2 h3 gLo goN goF) := hD
  show W p l e rm_X0_assign s m args below meth c s.heap [] 0 0 (FV D below args s (wX0 cI h0 h1 gL (gN') (gF') ++ wX0 cI h2 h3 gLo goN goF) A) (F0 m 0 ls [])
  unfold f_X0_assign at h
  have hmain : ∀ (H : Heap) (locs : List Loc), va_P D vwCl (wX0 cI h0 h1 gL gN gF ++ wX0 cI h2 h3 gLo goN goF) H → va_S A s.heap H locs → W p l e rm_X0_assign s m args below meth c H locs 0 0 (FV D below args s (wX0 cI h0 h1 gL (gN') (gF') ++ wX0 cI h2 h3 gLo goN goF) A) (F0 m 0 ls []) := by
    intro H locs hP hS
    refine lv_iload_n hx hb dX0_assign_0 rfl (lv_at hl 2 rfl) ?_
    refine lv_if_lt (tgt := 22) hx hb dX0_assign_1 (by decide) (fun q5 => ?_) (fun q5 => ?_)
    · replace h := it_some q5 h
      exact c_22 gN gF h H locs hP hD hS ls (lv_sub hl [0, 1, 2, 3] rfl)
    · replace h := if_some q5 h
      refine lv_iload_n hx hb dX0_assign_4 rfl (lv_at hl 3 rfl) ?_
      refine lv_if_lt (tgt := 22) hx hb dX0_assign_5 (by decide) (fun q6 => ?_) (fun q6 => ?_)
      · replace h := it_some q6 h
        exact c_22 gN gF h H locs hP hD hS ls (lv_sub hl [0, 1, 2, 3] rfl)
      · replace h := if_some q6 h
        refine lv_iload_n hx hb dX0_assign_8 rfl (lv_at hl 3 rfl) ?_
        refine lv_aload_n hx hb dX0_assign_9 rfl (lv_at hl 1 rfl) ?_
        refine va_get (D := D) (ci := 0) (v := .int goN) (C := RX0) (T := TX0) (N := 2) hx hb hg uX0 hown hK.1 hP 2 rfl rfl 1 (by decide) (hg _ gw_48) (fun _ h9 => h9) rfl dX0_assign_10 ?_
        refine lv_iload_n hx hb dX0_assign_13 rfl (lv_at hl 2 rfl) ?_
        refine lv_isub hx hb dX0_assign_14 ?_
        refine lv_icmp_gt (tgt := 22) hx hb dX0_assign_15 (by decide) (fun q7 => ?_) (fun q7 => ?_)
        · replace h := it_some q7 h
          exact c_22 gN gF h H locs hP hD hS ls (lv_sub hl [0, 1, 2, 3] rfl)
        · replace h := if_some q7 h
          refine lv_iconst (v := 1) hx hb dX0_assign_18 (by decide) ?_
          refine lv_goto (tgt := 23) hx hb dX0_assign_19 (by decide) ?_
          exact c_23 1 gN gF h H locs hP hD hS ls (lv_sub hl [0, 1, 2, 3] rfl)
  exact hmain _ _ hP hS
abbrev rm_X0_breaksBefore : Room := { frames := 1, cells := 0, slots := 0, locals := 21 }
def f_X0_breaksBefore_b4 (Z : Nat) (p1 : Int32) (gL : Nat) (gN : Int32) (gF : Nat → Int32) (rec : Int32 → Int32 → Option (Int32)) (x2 : Int32) (x3 : Int32) : Option (Int32) :=
      if p1 ≤ x3 then
        some x2
      else
        (f_X0_at Z x3 gL gN gF).bind fun r2 =>
        if r2 = 10 then
          kl (x2 + 1) fun x2_5 =>
          kl (x3 + 1) fun x3_6 =>
          rec x2_5 x3_6
        else
          kl (x3 + 1) fun x3_4 =>
          rec x2 x3_4
def f_X0_breaksBefore_l4 (Z : Nat) (p1 : Int32) (gL : Nat) (gN : Int32) (gF : Nat → Int32) : Nat → Int32 → Int32 → Option (Int32)
  | 0, _, _ => none
  | n + 1, x2, x3 => f_X0_breaksBefore_b4 Z p1 gL gN gF (f_X0_breaksBefore_l4 Z p1 gL gN gF n) x2 x3
def f_X0_breaksBefore (Z : Nat) (p1 : Int32) (gL : Nat) (gN : Int32) (gF : Nat → Int32) : Option (Int32) :=
  f_X0_breaksBefore_l4 Z p1 gL gN gF Z 0 0
set_option maxRecDepth 100000 in
set_option maxHeartbeats 4000000 in
theorem k_X0_breaksBefore (l : Launch) (D : va_G) (cI cS cL : ClassId) (Z : Nat) (h0 : Nat) (h1 : Nat) (p1 : Int32) (gL : Nat) (gN : Int32) (gF : Nat → Int32) {r : Int32} (h : f_X0_breaksBefore Z p1 gL gN gF = some r) : CI l yX0_breaksBefore cX0_breaksBefore 4 (some .int) rm_X0_breaksBefore D cI cS cL [.ref h0, .int p1] (wX0 cI h0 h1 gL gN gF) (wX0 cI h0 h1 gL gN gF) r := by
  refine ent_i (by decide +kernel) (Nat.le_of_ble_eq_true rfl) ?_
  intro p e s m args below meth c A ls hx hb hr hml hlocks hg hown hK hP hD hS hA hl
  have hown : s.vm.findClass RX0 = some m.cls := hown
  have c_4 : ∀ (n : Nat) (x2 : Int32) (x3 : Int32), f_X0_breaksBefore_l4 Z p1 gL gN gF n x2 x3 = some r → ∀ (H : Heap) (locs : List Loc), va_P D vwCl (wX0 cI h0 h1 gL gN gF) H → va_D A (wX0 cI h0 h1 gL gN gF) → va_S A s.heap H locs → ∀ ls : Array Slot, lv_has ls 4 [(0, .ref h0), (1, .int p1), (2, .int x2), (3, .int x3)] → W p l e rm_X0_breaksBefore s m args below meth c H locs 0 0 (FI D below args s (wX0 cI h0 h1 gL gN gF) r A) (F0 m 4 ls []) := by
    intro n
    induction n with
    | zero => intro x2 x3 h; exact no_some h
    | succ n ih =>
      intro x2 x3 h H locs hP hD hS ls hl
      have h : f_X0_breaksBefore_b4 Z p1 gL gN gF (f_X0_breaksBefore_l4 Z p1 gL gN gF n) x2 x3 = some r := h
      unfold f_X0_breaksBefore_b4 at h
      refine lv_iload_n hx hb dX0_breaksBefore_4 rfl (lv_at hl 3 rfl) ?_
      refine lv_iload_n hx hb dX0_breaksBefore_5 rfl (lv_at hl 1 rfl) ?_
      refine lv_icmp_ge (tgt := 28) hx hb dX0_breaksBefore_6 (by decide) (fun q1 => ?_) (fun q1 => ?_)
      · replace h := it_some q1 h
        refine lv_iload_n hx hb dX0_breaksBefore_28 rfl (lv_at hl 2 rfl) ?_
        cases h
        exact ret_i hx hb hr hlocks hP hD hS dX0_breaksBefore_29 rfl
      · replace h := if_some q1 h
        refine lv_aload_n hx hb dX0_breaksBefore_9 rfl (lv_at hl 0 rfl) ?_
        refine lv_iload_n hx hb dX0_breaksBefore_10 rfl (lv_at hl 3 rfl) ?_
        obtain ⟨r2, ec2, h⟩ := bd_some h
        refine cV_i (As := [.int x3]) (rest := []) (wc := (wX0 cI h0 h1 gL gN gF)) (wc' := (wX0 cI h0 h1 gL gN gF)) hx hb hml hown hg hK hP hD hS hA hl.1 (k_X0_at l D cI cS cL Z h0 h1 x3 gL gN gF ec2) gm_X0_at gw_327 ⟨rfl, rfl, by decide, by decide⟩ ⟨Nat.zero_le _, Nat.zero_le _⟩ [0, 1] rfl rfl rfl rfl rfl rfl rfl rfl (Nat.le_of_ble_eq_true rfl) dX0_breaksBefore_11 (fun H locs hP hD hS => ?_)
        have hP : va_P D vwCl (wX0 cI h0 h1 gL gN gF) H := hP
        have hD : va_D A (wX0 cI h0 h1 gL gN gF) := hD
        refine lv_bipush (v := 10) hx hb dX0_breaksBefore_14 (by decide) ?_
        refine lv_icmp_ne (tgt := 22) hx hb dX0_breaksBefore_16 (by decide) (fun q3 => ?_) (fun q3 => ?_)
        · replace h := if_some q3 h
          obtain ⟨x3_4, ex3_4, h⟩ := kl_some h
          refine lv_iinc (v := x3_4) (lv' := [(3, .int x3_4), (0, .ref h0), (1, .int p1), (2, .int x2)]) hx hb dX0_breaksBefore_22 hl (k := 3) rfl (by rw [ex3_4]; rfl) (by decide) rfl (fun ls hl => ?_)
          refine lv_goto (tgt := 4) hx hb dX0_breaksBefore_25 (by decide) ?_
          exact ih x2 x3_4 h H locs hP hD hS ls (lv_sub hl [1, 2, 3, 0] rfl)
        · replace h := it_some q3 h
          obtain ⟨x2_5, ex2_5, h⟩ := kl_some h
          refine lv_iinc (v := x2_5) (lv' := [(2, .int x2_5), (0, .ref h0), (1, .int p1), (3, .int x3)]) hx hb dX0_breaksBefore_19 hl (k := 2) rfl (by rw [ex2_5]; rfl) (by decide) rfl (fun ls hl => ?_)
          obtain ⟨x3_6, ex3_6, h⟩ := kl_some h
          refine lv_iinc (v := x3_6) (lv' := [(3, .int x3_6), (2, .int x2_5), (0, .ref h0), (1, .int p1)]) hx hb dX0_breaksBefore_22 hl (k := 3) rfl (by rw [ex3_6]; rfl) (by decide) rfl (fun ls hl => ?_)
          refine lv_goto (tgt := 4) hx hb dX0_breaksBefore_25 (by decide) ?_
          exact ih x2_5 x3_6 h H locs hP hD hS ls (lv_sub hl [2, 3, 1, 0] rfl)
  have hl : lv_has ls 4 [(0, .ref h0), (1, .int p1)] := hl
  have hP : va_P D vwCl (wX0 cI h0 h1 gL gN gF) s.heap := hP
  have hD : va_D A (wX0 cI h0 h1 gL gN gF) := hD
  show W p l e rm_X0_breaksBefore s m args below meth c s.heap [] 0 0 (FI D below args s (wX0 cI h0 h1 gL gN gF) r A) (F0 m 0 ls [])
  unfold f_X0_breaksBefore at h
  have hmain : ∀ (H : Heap) (locs : List Loc), va_P D vwCl (wX0 cI h0 h1 gL gN gF) H → va_S A s.heap H locs → W p l e rm_X0_breaksBefore s m args below meth c H locs 0 0 (FI D below args s (wX0 cI h0 h1 gL gN gF) r A) (F0 m 0 ls []) := by
    intro H locs hP hS
    refine lv_iconst (v := 0) hx hb dX0_breaksBefore_0 (by decide) ?_
    refine lv_istore_n (lv' := [(2, .int 0), (0, .ref h0), (1, .int p1)]) hx hb dX0_breaksBefore_1 rfl hl (by decide) rfl (fun ls hl => ?_)
    refine lv_iconst (v := 0) hx hb dX0_breaksBefore_2 (by decide) ?_
    refine lv_istore_n (lv' := [(3, .int 0), (2, .int 0), (0, .ref h0), (1, .int p1)]) hx hb dX0_breaksBefore_3 rfl hl (by decide) rfl (fun ls hl => ?_)
    exact c_4 Z 0 0 h H locs hP hD hS ls (lv_sub hl [2, 3, 1, 0] rfl)
  exact hmain _ _ hP hS
abbrev rm_X0_lineCount : Room := { frames := 2, cells := 0, slots := 0, locals := 44 }
def f_X0_lineCount (Z : Nat) (gL : Nat) (gN : Int32) (gF : Nat → Int32) : Option (Int32) :=
  (f_X0_breaksBefore Z gN gL gN gF).bind fun r1 =>
  some (r1 + 1)
set_option maxRecDepth 100000 in
set_option maxHeartbeats 4000000 in
theorem k_X0_lineCount (l : Launch) (D : va_G) (cI cS cL : ClassId) (Z : Nat) (h0 : Nat) (h1 : Nat) (gL : Nat) (gN : Int32) (gF : Nat → Int32) {r : Int32} (h : f_X0_lineCount Z gL gN gF = some r) : CI l yX0_lineCount cX0_lineCount 1 (some .int) rm_X0_lineCount D cI cS cL [.ref h0] (wX0 cI h0 h1 gL gN gF) (wX0 cI h0 h1 gL gN gF) r := by
  refine ent_i (by decide +kernel) (Nat.le_of_ble_eq_true rfl) ?_
  intro p e s m args below meth c A ls hx hb hr hml hlocks hg hown hK hP hD hS hA hl
  have hown : s.vm.findClass RX0 = some m.cls := hown
  have hl : lv_has ls 1 [(0, .ref h0)] := hl
  have hP : va_P D vwCl (wX0 cI h0 h1 gL gN gF) s.heap := hP
  have hD : va_D A (wX0 cI h0 h1 gL gN gF) := hD
  show W p l e rm_X0_lineCount s m args below meth c s.heap [] 0 0 (FI D below args s (wX0 cI h0 h1 gL gN gF) r A) (F0 m 0 ls [])
  unfold f_X0_lineCount at h
  have hmain : ∀ (H : Heap) (locs : List Loc), va_P D vwCl (wX0 cI h0 h1 gL gN gF) H → va_S A s.heap H locs → W p l e rm_X0_lineCount s m args below meth c H locs 0 0 (FI D below args s (wX0 cI h0 h1 gL gN gF) r A) (F0 m 0 ls []) := by
    intro H locs hP hS
    refine lv_aload_n hx hb dX0_lineCount_0 rfl (lv_at hl 0 rfl) ?_
    refine lv_aload_n hx hb dX0_lineCount_1 rfl (lv_at hl 0 rfl) ?_
    refine va_get (D := D) (ci := 0) (v := .int gN) (C := RX0) (T := TX0) (N := 2) hx hb hg uX0 hown hK.1 hP 0 rfl rfl 1 (by decide) (hg _ gw_48) (fun _ h9 => h9) rfl dX0_lineCount_2 ?_
    obtain ⟨r1, ec1, h⟩ := bd_some h
    refine cV_i (As := [.int gN]) (rest := []) (wc := (wX0 cI h0 h1 gL gN gF)) (wc' := (wX0 cI h0 h1 gL gN gF)) hx hb hml hown hg hK hP hD hS hA hl.1 (k_X0_breaksBefore l D cI cS cL Z h0 h1 gN gL gN gF ec1) gm_X0_breaksBefore gw_323 ⟨rfl, rfl, by decide, by decide⟩ ⟨Nat.zero_le _, Nat.zero_le _⟩ [0, 1] rfl rfl rfl rfl rfl rfl rfl rfl (Nat.le_of_ble_eq_true rfl) dX0_lineCount_5 (fun H locs hP hD hS => ?_)
    have hP : va_P D vwCl (wX0 cI h0 h1 gL gN gF) H := hP
    have hD : va_D A (wX0 cI h0 h1 gL gN gF) := hD
    refine lv_iconst (v := 1) hx hb dX0_lineCount_8 (by decide) ?_
    refine lv_iadd hx hb dX0_lineCount_9 ?_
    cases h
    exact ret_i hx hb hr hlocks hP hD hS dX0_lineCount_10 rfl
  exact hmain _ _ hP hS
abbrev rm_X0_lineBegin : Room := { frames := 1, cells := 0, slots := 0, locals := 21 }
def f_X0_lineBegin_b2 (Z : Nat) (p1 : Int32) (gL : Nat) (gN : Int32) (gF : Nat → Int32) (rec : Int32 → Option (Int32)) (x2 : Int32) : Option (Int32) :=
      if x2 ≤ 0 then
        some x2
      else
        (f_X0_at Z (x2 - 1) gL gN gF).bind fun r2 =>
        if r2 = 10 then
          some x2
        else
          kl (x2 + (-1)) fun x2_4 =>
          rec x2_4
def f_X0_lineBegin_l2 (Z : Nat) (p1 : Int32) (gL : Nat) (gN : Int32) (gF : Nat → Int32) : Nat → Int32 → Option (Int32)
  | 0, _ => none
  | n + 1, x2 => f_X0_lineBegin_b2 Z p1 gL gN gF (f_X0_lineBegin_l2 Z p1 gL gN gF n) x2
def f_X0_lineBegin (Z : Nat) (p1 : Int32) (gL : Nat) (gN : Int32) (gF : Nat → Int32) : Option (Int32) :=
  f_X0_lineBegin_l2 Z p1 gL gN gF Z p1
set_option maxRecDepth 100000 in
set_option maxHeartbeats 4000000 in
theorem k_X0_lineBegin (l : Launch) (D : va_G) (cI cS cL : ClassId) (Z : Nat) (h0 : Nat) (h1 : Nat) (p1 : Int32) (gL : Nat) (gN : Int32) (gF : Nat → Int32) {r : Int32} (h : f_X0_lineBegin Z p1 gL gN gF = some r) : CI l yX0_lineBegin cX0_lineBegin 3 (some .int) rm_X0_lineBegin D cI cS cL [.ref h0, .int p1] (wX0 cI h0 h1 gL gN gF) (wX0 cI h0 h1 gL gN gF) r := by
  refine ent_i (by decide +kernel) (Nat.le_of_ble_eq_true rfl) ?_
  intro p e s m args below meth c A ls hx hb hr hml hlocks hg hown hK hP hD hS hA hl
  have hown : s.vm.findClass RX0 = some m.cls := hown
  have c_2 : ∀ (n : Nat) (x2 : Int32), f_X0_lineBegin_l2 Z p1 gL gN gF n x2 = some r → ∀ (H : Heap) (locs : List Loc), va_P D vwCl (wX0 cI h0 h1 gL gN gF) H → va_D A (wX0 cI h0 h1 gL gN gF) → va_S A s.heap H locs → ∀ ls : Array Slot, lv_has ls 3 [(0, .ref h0), (2, .int x2)] → W p l e rm_X0_lineBegin s m args below meth c H locs 0 0 (FI D below args s (wX0 cI h0 h1 gL gN gF) r A) (F0 m 2 ls []) := by
    intro n
    induction n with
    | zero => intro x2 h; exact no_some h
    | succ n ih =>
      intro x2 h H locs hP hD hS ls hl
      have h : f_X0_lineBegin_b2 Z p1 gL gN gF (f_X0_lineBegin_l2 Z p1 gL gN gF n) x2 = some r := h
      unfold f_X0_lineBegin_b2 at h
      refine lv_iload_n hx hb dX0_lineBegin_2 rfl (lv_at hl 1 rfl) ?_
      refine lv_if_le (tgt := 24) hx hb dX0_lineBegin_3 (by decide) (fun q1 => ?_) (fun q1 => ?_)
      · replace h := it_some q1 h
        refine lv_iload_n hx hb dX0_lineBegin_24 rfl (lv_at hl 1 rfl) ?_
        cases h
        exact ret_i hx hb hr hlocks hP hD hS dX0_lineBegin_25 rfl
      · replace h := if_some q1 h
        refine lv_aload_n hx hb dX0_lineBegin_6 rfl (lv_at hl 0 rfl) ?_
        refine lv_iload_n hx hb dX0_lineBegin_7 rfl (lv_at hl 1 rfl) ?_
        refine lv_iconst (v := 1) hx hb dX0_lineBegin_8 (by decide) ?_
        refine lv_isub hx hb dX0_lineBegin_9 ?_
        obtain ⟨r2, ec2, h⟩ := bd_some h
        refine cV_i (As := [.int (x2 - 1)]) (rest := []) (wc := (wX0 cI h0 h1 gL gN gF)) (wc' := (wX0 cI h0 h1 gL gN gF)) hx hb hml hown hg hK hP hD hS hA hl.1 (k_X0_at l D cI cS cL Z h0 h1 (x2 - 1) gL gN gF ec2) gm_X0_at gw_327 ⟨rfl, rfl, by decide, by decide⟩ ⟨Nat.zero_le _, Nat.zero_le _⟩ [0, 1] rfl rfl rfl rfl rfl rfl rfl rfl (Nat.le_of_ble_eq_true rfl) dX0_lineBegin_10 (fun H locs hP hD hS => ?_)
        have hP : va_P D vwCl (wX0 cI h0 h1 gL gN gF) H := hP
        have hD : va_D A (wX0 cI h0 h1 gL gN gF) := hD
        refine lv_bipush (v := 10) hx hb dX0_lineBegin_13 (by decide) ?_
        refine lv_icmp_eq (tgt := 24) hx hb dX0_lineBegin_15 (by decide) (fun q3 => ?_) (fun q3 => ?_)
        · replace h := it_some q3 h
          refine lv_iload_n hx hb dX0_lineBegin_24 rfl (lv_at hl 1 rfl) ?_
          cases h
          exact ret_i hx hb hr hlocks hP hD hS dX0_lineBegin_25 rfl
        · replace h := if_some q3 h
          obtain ⟨x2_4, ex2_4, h⟩ := kl_some h
          refine lv_iinc (v := x2_4) (lv' := [(2, .int x2_4), (0, .ref h0)]) hx hb dX0_lineBegin_18 hl (k := 1) rfl (by rw [ex2_4]; rfl) (by decide) rfl (fun ls hl => ?_)
          refine lv_goto (tgt := 2) hx hb dX0_lineBegin_21 (by decide) ?_
          exact ih x2_4 h H locs hP hD hS ls (lv_sub hl [1, 0] rfl)
  have hl : lv_has ls 3 [(0, .ref h0), (1, .int p1)] := hl
  have hP : va_P D vwCl (wX0 cI h0 h1 gL gN gF) s.heap := hP
  have hD : va_D A (wX0 cI h0 h1 gL gN gF) := hD
  show W p l e rm_X0_lineBegin s m args below meth c s.heap [] 0 0 (FI D below args s (wX0 cI h0 h1 gL gN gF) r A) (F0 m 0 ls [])
  unfold f_X0_lineBegin at h
  have hmain : ∀ (H : Heap) (locs : List Loc), va_P D vwCl (wX0 cI h0 h1 gL gN gF) H → va_S A s.heap H locs → W p l e rm_X0_lineBegin s m args below meth c H locs 0 0 (FI D below args s (wX0 cI h0 h1 gL gN gF) r A) (F0 m 0 ls []) := by
    intro H locs hP hS
    refine lv_iload_n hx hb dX0_lineBegin_0 rfl (lv_at hl 1 rfl) ?_
    refine lv_istore_n (lv' := [(2, .int p1), (0, .ref h0), (1, .int p1)]) hx hb dX0_lineBegin_1 rfl hl (by decide) rfl (fun ls hl => ?_)
    exact c_2 Z p1 h H locs hP hD hS ls (lv_sub hl [1, 0] rfl)
  exact hmain _ _ hP hS
abbrev rm_X0_lineEnd : Room := { frames := 1, cells := 0, slots := 0, locals := 21 }
def f_X0_lineEnd_b2 (Z : Nat) (p1 : Int32) (gL : Nat) (gN : Int32) (gF : Nat → Int32) (rec : Int32 → Option (Int32)) (x2 : Int32) : Option (Int32) :=
      if gN ≤ x2 then
        some x2
      else
        (f_X0_at Z x2 gL gN gF).bind fun r2 =>
        if r2 = 10 then
          some x2
        else
          kl (x2 + 1) fun x2_4 =>
          rec x2_4
def f_X0_lineEnd_l2 (Z : Nat) (p1 : Int32) (gL : Nat) (gN : Int32) (gF : Nat → Int32) : Nat → Int32 → Option (Int32)
  | 0, _ => none
  | n + 1, x2 => f_X0_lineEnd_b2 Z p1 gL gN gF (f_X0_lineEnd_l2 Z p1 gL gN gF n) x2
def f_X0_lineEnd (Z : Nat) (p1 : Int32) (gL : Nat) (gN : Int32) (gF : Nat → Int32) : Option (Int32) :=
  f_X0_lineEnd_l2 Z p1 gL gN gF Z p1
set_option maxRecDepth 100000 in
set_option maxHeartbeats 4000000 in
theorem k_X0_lineEnd (l : Launch) (D : va_G) (cI cS cL : ClassId) (Z : Nat) (h0 : Nat) (h1 : Nat) (p1 : Int32) (gL : Nat) (gN : Int32) (gF : Nat → Int32) {r : Int32} (h : f_X0_lineEnd Z p1 gL gN gF = some r) : CI l yX0_lineEnd cX0_lineEnd 3 (some .int) rm_X0_lineEnd D cI cS cL [.ref h0, .int p1] (wX0 cI h0 h1 gL gN gF) (wX0 cI h0 h1 gL gN gF) r := by
  refine ent_i (by decide +kernel) (Nat.le_of_ble_eq_true rfl) ?_
  intro p e s m args below meth c A ls hx hb hr hml hlocks hg hown hK hP hD hS hA hl
  have hown : s.vm.findClass RX0 = some m.cls := hown
  have c_2 : ∀ (n : Nat) (x2 : Int32), f_X0_lineEnd_l2 Z p1 gL gN gF n x2 = some r → ∀ (H : Heap) (locs : List Loc), va_P D vwCl (wX0 cI h0 h1 gL gN gF) H → va_D A (wX0 cI h0 h1 gL gN gF) → va_S A s.heap H locs → ∀ ls : Array Slot, lv_has ls 3 [(0, .ref h0), (2, .int x2)] → W p l e rm_X0_lineEnd s m args below meth c H locs 0 0 (FI D below args s (wX0 cI h0 h1 gL gN gF) r A) (F0 m 2 ls []) := by
    intro n
    induction n with
    | zero => intro x2 h; exact no_some h
    | succ n ih =>
      intro x2 h H locs hP hD hS ls hl
      have h : f_X0_lineEnd_b2 Z p1 gL gN gF (f_X0_lineEnd_l2 Z p1 gL gN gF n) x2 = some r := h
      unfold f_X0_lineEnd_b2 at h
      refine lv_iload_n hx hb dX0_lineEnd_2 rfl (lv_at hl 1 rfl) ?_
      refine lv_aload_n hx hb dX0_lineEnd_3 rfl (lv_at hl 0 rfl) ?_
      refine va_get (D := D) (ci := 0) (v := .int gN) (C := RX0) (T := TX0) (N := 2) hx hb hg uX0 hown hK.1 hP 0 rfl rfl 1 (by decide) (hg _ gw_48) (fun _ h9 => h9) rfl dX0_lineEnd_4 ?_
      refine lv_icmp_ge (tgt := 26) hx hb dX0_lineEnd_7 (by decide) (fun q1 => ?_) (fun q1 => ?_)
      · replace h := it_some q1 h
        refine lv_iload_n hx hb dX0_lineEnd_26 rfl (lv_at hl 1 rfl) ?_
        cases h
        exact ret_i hx hb hr hlocks hP hD hS dX0_lineEnd_27 rfl
      · replace h := if_some q1 h
        refine lv_aload_n hx hb dX0_lineEnd_10 rfl (lv_at hl 0 rfl) ?_
        refine lv_iload_n hx hb dX0_lineEnd_11 rfl (lv_at hl 1 rfl) ?_
        obtain ⟨r2, ec2, h⟩ := bd_some h
        refine cV_i (As := [.int x2]) (rest := []) (wc := (wX0 cI h0 h1 gL gN gF)) (wc' := (wX0 cI h0 h1 gL gN gF)) hx hb hml hown hg hK hP hD hS hA hl.1 (k_X0_at l D cI cS cL Z h0 h1 x2 gL gN gF ec2) gm_X0_at gw_327 ⟨rfl, rfl, by decide, by decide⟩ ⟨Nat.zero_le _, Nat.zero_le _⟩ [0, 1] rfl rfl rfl rfl rfl rfl rfl rfl (Nat.le_of_ble_eq_true rfl) dX0_lineEnd_12 (fun H locs hP hD hS => ?_)
        have hP : va_P D vwCl (wX0 cI h0 h1 gL gN gF) H := hP
        have hD : va_D A (wX0 cI h0 h1 gL gN gF) := hD
        refine lv_bipush (v := 10) hx hb dX0_lineEnd_15 (by decide) ?_
        refine lv_icmp_eq (tgt := 26) hx hb dX0_lineEnd_17 (by decide) (fun q3 => ?_) (fun q3 => ?_)
        · replace h := it_some q3 h
          refine lv_iload_n hx hb dX0_lineEnd_26 rfl (lv_at hl 1 rfl) ?_
          cases h
          exact ret_i hx hb hr hlocks hP hD hS dX0_lineEnd_27 rfl
        · replace h := if_some q3 h
          obtain ⟨x2_4, ex2_4, h⟩ := kl_some h
          refine lv_iinc (v := x2_4) (lv' := [(2, .int x2_4), (0, .ref h0)]) hx hb dX0_lineEnd_20 hl (k := 1) rfl (by rw [ex2_4]; rfl) (by decide) rfl (fun ls hl => ?_)
          refine lv_goto (tgt := 2) hx hb dX0_lineEnd_23 (by decide) ?_
          exact ih x2_4 h H locs hP hD hS ls (lv_sub hl [1, 0] rfl)
  have hl : lv_has ls 3 [(0, .ref h0), (1, .int p1)] := hl
  have hP : va_P D vwCl (wX0 cI h0 h1 gL gN gF) s.heap := hP
  have hD : va_D A (wX0 cI h0 h1 gL gN gF) := hD
  show W p l e rm_X0_lineEnd s m args below meth c s.heap [] 0 0 (FI D below args s (wX0 cI h0 h1 gL gN gF) r A) (F0 m 0 ls [])
  unfold f_X0_lineEnd at h
  have hmain : ∀ (H : Heap) (locs : List Loc), va_P D vwCl (wX0 cI h0 h1 gL gN gF) H → va_S A s.heap H locs → W p l e rm_X0_lineEnd s m args below meth c H locs 0 0 (FI D below args s (wX0 cI h0 h1 gL gN gF) r A) (F0 m 0 ls []) := by
    intro H locs hP hS
    refine lv_iload_n hx hb dX0_lineEnd_0 rfl (lv_at hl 1 rfl) ?_
    refine lv_istore_n (lv' := [(2, .int p1), (0, .ref h0), (1, .int p1)]) hx hb dX0_lineEnd_1 rfl hl (by decide) rfl (fun ls hl => ?_)
    exact c_2 Z p1 h H locs hP hD hS ls (lv_sub hl [1, 0] rfl)
  exact hmain _ _ hP hS
