abbrev rm_X3_moveGap : Room := { frames := 1, cells := 0, slots := 0, locals := 21 }
def f_X3_moveGap (Z : Nat) (p1 : Int32) (kGap : Int32) (kCar : Int32) : Option (Int32 × Int32 × Int32) :=
  kl (if 0 ≤ (p1 - kGap) then (p1 - kGap) else 0 - (p1 - kGap)) fun z1 =>
  kl (kCar + z1) fun kCar_2 =>
  some (z1, p1, kCar_2)
set_option maxRecDepth 100000 in
set_option maxHeartbeats 4000000 in
theorem k_X3_moveGap (l : Launch) (D : va_G) (cI cS cL : ClassId) (Z : Nat) (h0 : Nat) (p1 : Int32) (kCap : Int32) (kGap : Int32) (kCar : Int32) (kCop : Int32) (kGro : Int32) (kShr : Int32) {r : Int32} {kGap' : Int32} {kCar' : Int32} (h : f_X3_moveGap Z p1 kGap kCar = some (r, kGap', kCar')) : CI l yX3_moveGap cX3_moveGap 3 (some .int) rm_X3_moveGap D cI cS cL [.ref h0, .int p1] (wX3 cI h0 kCap kGap kCar kCop kGro kShr) (wX3 cI h0 kCap (kGap') (kCar') kCop kGro kShr) r := by
  refine ent_i (by decide +kernel) (Nat.le_of_ble_eq_true rfl) ?_
  intro p e s m args below meth c A ls hx hb hr hml hlocks hg hown hK hP hD hS hA hl
  have hown : s.vm.findClass RX3 = some m.cls := hown
  have hl : lv_has ls 3 [(0, .ref h0), (1, .int p1)] := hl
  have hP : va_P D vwCl (wX3 cI h0 kCap kGap kCar kCop kGro kShr) s.heap := hP
  have hD : va_D A (wX3 cI h0 kCap kGap kCar kCop kGro kShr) := hD
  show W p l e rm_X3_moveGap s m args below meth c s.heap [] 0 0 (FI D below args s (wX3 cI h0 kCap (kGap') (kCar') kCop kGro kShr) r A) (F0 m 0 ls [])
  unfold f_X3_moveGap at h
  have hmain : ∀ (H : Heap) (locs : List Loc), va_P D vwCl (wX3 cI h0 kCap kGap kCar kCop kGro kShr) H → va_S A s.heap H locs → W p l e rm_X3_moveGap s m args below meth c H locs 0 0 (FI D below args s (wX3 cI h0 kCap (kGap') (kCar') kCop kGro kShr) r A) (F0 m 0 ls []) := by
    intro H locs hP hS
    refine lv_iload_n hx hb dX3_moveGap_0 rfl (lv_at hl 1 rfl) ?_
    refine lv_aload_n hx hb dX3_moveGap_1 rfl (lv_at hl 0 rfl) ?_
    refine va_get (D := D) (ci := 3) (v := .int kGap) (C := RX3) (T := TX3) (N := 6) hx hb hg uX3 hown hK.1 hP 0 rfl rfl 1 (by decide) (hg _ gw_77) (fun _ h9 => h9) rfl dX3_moveGap_2 ?_
    refine lv_isub hx hb dX3_moveGap_5 ?_
    obtain ⟨z1, ez1, h⟩ := kl_some h
    refine va_mabs hx hb (hml.trans hl.1.symm) hown (hg _ gw_442) (hg _ gw_443) (hg _ gw_11) (hg _ gw_444) (by decide) (Nat.le_of_ble_eq_true rfl) (Nat.le_of_ble_eq_true rfl) (Nat.le_of_ble_eq_true rfl) dX3_moveGap_6 ?_
    refine nm_i ez1 ?_
    refine lv_istore_n (lv' := [(2, .int z1), (0, .ref h0), (1, .int p1)]) hx hb dX3_moveGap_9 rfl hl (by decide) rfl (fun ls hl => ?_)
    refine lv_aload_n hx hb dX3_moveGap_10 rfl (lv_at hl 1 rfl) ?_
    refine lv_iload_n hx hb dX3_moveGap_11 rfl (lv_at hl 2 rfl) ?_
    refine va_put (D := D) (ci := 3) (v := .int p1) (ty := tyX3 1) (C := RX3) (T := TX3) (N := 6) hx hb hg uX3 tyX3 tyX3_ok nmX3 hown hK.1 hP hD hS 0 rfl rfl 1 (by decide) (hg _ gw_77) (fun _ h9 => h9) rfl (tyX3_ok 1 (by decide)) rfl rfl (Nat.le_of_ble_eq_true rfl) dX3_moveGap_12 (fun H locs hP hD hS => ?_)
    have hP : va_P D vwCl (wX3 cI h0 kCap p1 kCar kCop kGro kShr) H := hP
    have hD : va_D A (wX3 cI h0 kCap p1 kCar kCop kGro kShr) := hD
    refine lv_aload_n hx hb dX3_moveGap_15 rfl (lv_at hl 1 rfl) ?_
    refine lv_dup hx hb dX3_moveGap_16 rfl ?_
    refine va_get (D := D) (ci := 3) (v := .int kCar) (C := RX3) (T := TX3) (N := 6) hx hb hg uX3 hown hK.1 hP 0 rfl rfl 2 (by decide) (hg _ gw_80) (fun _ h9 => h9) rfl dX3_moveGap_17 ?_
    refine lv_iload_n hx hb dX3_moveGap_20 rfl (lv_at hl 0 rfl) ?_
    refine lv_iadd hx hb dX3_moveGap_21 ?_
    obtain ⟨kCar_2, ekCar_2, h⟩ := kl_some h
    refine nm_i ekCar_2 ?_
    refine va_put (D := D) (ci := 3) (v := .int kCar_2) (ty := tyX3 2) (C := RX3) (T := TX3) (N := 6) hx hb hg uX3 tyX3 tyX3_ok nmX3 hown hK.1 hP hD hS 0 rfl rfl 2 (by decide) (hg _ gw_80) (fun _ h9 => h9) rfl (tyX3_ok 2 (by decide)) rfl rfl (Nat.le_of_ble_eq_true rfl) dX3_moveGap_22 (fun H locs hP hD hS => ?_)
    have hP : va_P D vwCl (wX3 cI h0 kCap p1 kCar_2 kCop kGro kShr) H := hP
    have hD : va_D A (wX3 cI h0 kCap p1 kCar_2 kCop kGro kShr) := hD
    refine lv_iload_n hx hb dX3_moveGap_25 rfl (lv_at hl 0 rfl) ?_
    cases h
    exact ret_i hx hb hr hlocks hP hD hS dX3_moveGap_26 rfl
  exact hmain _ _ hP hS
abbrev rm_X3_insertAt : Room := { frames := 2, cells := 0, slots := 0, locals := 43 }
def f_X3_insertAt_b9 (Z : Nat) (p1 : Int32) (p2 : Int32) (p3 : Int32) (rec : Int32 → Int32 → Int32 → Int32 → Int32 → Int32 → Option (Int32 × Int32 × Int32 × Int32 × Int32)) (x4 : Int32) (kCap : Int32) (kGap : Int32) (kCar : Int32) (kCop : Int32) (kGro : Int32) : Option (Int32 × Int32 × Int32 × Int32 × Int32) :=
      if 5 ≤ x4 then
        kl (kGap + p2) fun kGap_2 =>
        some (kCap, kGap_2, kCar, kCop, kGro)
      else
        if p2 ≤ (kCap - p3) then
          kl (kGap + p2) fun kGap_4 =>
          some (kCap, kGap_4, kCar, kCop, kGro)
        else
          kl (kCap * 2) fun kCap_5 =>
          kl (kCop + p3) fun kCop_6 =>
          kl (kGro + 1) fun kGro_7 =>
          kl (x4 + 1) fun x4_8 =>
          rec x4_8 kCap_5 kGap kCar kCop_6 kGro_7
def f_X3_insertAt_l9 (Z : Nat) (p1 : Int32) (p2 : Int32) (p3 : Int32) : Nat → Int32 → Int32 → Int32 → Int32 → Int32 → Int32 → Option (Int32 × Int32 × Int32 × Int32 × Int32)
  | 0, _, _, _, _, _, _ => none
  | n + 1, x4, kCap, kGap, kCar, kCop, kGro => f_X3_insertAt_b9 Z p1 p2 p3 (f_X3_insertAt_l9 Z p1 p2 p3 n) x4 kCap kGap kCar kCop kGro
def f_X3_insertAt (Z : Nat) (p1 : Int32) (p2 : Int32) (p3 : Int32) (kCap : Int32) (kGap : Int32) (kCar : Int32) (kCop : Int32) (kGro : Int32) : Option (Int32 × Int32 × Int32 × Int32 × Int32) :=
  (f_X3_moveGap Z p1 kGap kCar).bind fun (r9, kGap_9, kCar_9) =>
  f_X3_insertAt_l9 Z p1 p2 p3 Z 0 kCap kGap_9 kCar_9 kCop kGro
set_option maxRecDepth 100000 in
set_option maxHeartbeats 4000000 in
theorem k_X3_insertAt (l : Launch) (D : va_G) (cI cS cL : ClassId) (Z : Nat) (h0 : Nat) (p1 : Int32) (p2 : Int32) (p3 : Int32) (kCap : Int32) (kGap : Int32) (kCar : Int32) (kCop : Int32) (kGro : Int32) (kShr : Int32) {kCap' : Int32} {kGap' : Int32} {kCar' : Int32} {kCop' : Int32} {kGro' : Int32} (h : f_X3_insertAt Z p1 p2 p3 kCap kGap kCar kCop kGro = some (kCap', kGap', kCar', kCop', kGro')) : CV l yX3_insertAt cX3_insertAt 5 none rm_X3_insertAt D cI cS cL [.ref h0, .int p1, .int p2, .int p3] (wX3 cI h0 kCap kGap kCar kCop kGro kShr) (wX3 cI h0 (kCap') (kGap') (kCar') (kCop') (kGro') kShr) := by
  refine ent_v (by decide +kernel) (Nat.le_of_ble_eq_true rfl) ?_
  intro p e s m args below meth c A ls hx hb hr hml hlocks hg hown hK hP hD hS hA hl
  have hown : s.vm.findClass RX3 = some m.cls := hown
  have c_9 : ∀ (n : Nat) (x4 : Int32) (kCap : Int32) (kGap : Int32) (kCar : Int32) (kCop : Int32) (kGro : Int32), f_X3_insertAt_l9 Z p1 p2 p3 n x4 kCap kGap kCar kCop kGro = some (kCap', kGap', kCar', kCop', kGro') → ∀ (H : Heap) (locs : List Loc), va_P D vwCl (wX3 cI h0 kCap kGap kCar kCop kGro kShr) H → va_D A (wX3 cI h0 kCap kGap kCar kCop kGro kShr) → va_S A s.heap H locs → ∀ ls : Array Slot, lv_has ls 5 [(0, .ref h0), (2, .int p2), (3, .int p3), (4, .int x4)] → W p l e rm_X3_insertAt s m args below meth c H locs 0 0 (FV D below args s (wX3 cI h0 (kCap') (kGap') (kCar') (kCop') (kGro') kShr) A) (F0 m 9 ls []) := by
    intro n
    induction n with
    | zero => intro x4 kCap kGap kCar kCop kGro h; exact no_some h
    | succ n ih =>
      intro x4 kCap kGap kCar kCop kGro h H locs hP hD hS ls hl
      have h : f_X3_insertAt_b9 Z p1 p2 p3 (f_X3_insertAt_l9 Z p1 p2 p3 n) x4 kCap kGap kCar kCop kGro = some (kCap', kGap', kCar', kCop', kGro') := h
      unfold f_X3_insertAt_b9 at h
      refine lv_iload hx hb dX3_insertAt_9 (lv_at hl 3 rfl) ?_
      refine lv_iconst (v := 5) hx hb dX3_insertAt_11 (by decide) ?_
      refine lv_icmp_ge (tgt := 61) hx hb dX3_insertAt_12 (by decide) (fun q1 => ?_) (fun q1 => ?_)
      · replace h := it_some q1 h
        refine lv_aload_n hx hb dX3_insertAt_61 rfl (lv_at hl 0 rfl) ?_
        refine lv_dup hx hb dX3_insertAt_62 rfl ?_
        refine va_get (D := D) (ci := 3) (v := .int kGap) (C := RX3) (T := TX3) (N := 6) hx hb hg uX3 hown hK.1 hP 0 rfl rfl 1 (by decide) (hg _ gw_77) (fun _ h9 => h9) rfl dX3_insertAt_63 ?_
        refine lv_iload_n hx hb dX3_insertAt_66 rfl (lv_at hl 1 rfl) ?_
        refine lv_iadd hx hb dX3_insertAt_67 ?_
        obtain ⟨kGap_2, ekGap_2, h⟩ := kl_some h
        refine nm_i ekGap_2 ?_
        refine va_put (D := D) (ci := 3) (v := .int kGap_2) (ty := tyX3 1) (C := RX3) (T := TX3) (N := 6) hx hb hg uX3 tyX3 tyX3_ok nmX3 hown hK.1 hP hD hS 0 rfl rfl 1 (by decide) (hg _ gw_77) (fun _ h9 => h9) rfl (tyX3_ok 1 (by decide)) rfl rfl (Nat.le_of_ble_eq_true rfl) dX3_insertAt_68 (fun H locs hP hD hS => ?_)
        have hP : va_P D vwCl (wX3 cI h0 kCap kGap_2 kCar kCop kGro kShr) H := hP
        have hD : va_D A (wX3 cI h0 kCap kGap_2 kCar kCop kGro kShr) := hD
        cases h
        exact ret_v hx hb hr hlocks hP hD hS dX3_insertAt_71
      · replace h := if_some q1 h
        refine lv_aload_n hx hb dX3_insertAt_15 rfl (lv_at hl 0 rfl) ?_
        refine va_get (D := D) (ci := 3) (v := .int kCap) (C := RX3) (T := TX3) (N := 6) hx hb hg uX3 hown hK.1 hP 0 rfl rfl 0 (by decide) (hg _ gw_74) (fun _ h9 => h9) rfl dX3_insertAt_16 ?_
        refine lv_iload_n hx hb dX3_insertAt_19 rfl (lv_at hl 2 rfl) ?_
        refine lv_isub hx hb dX3_insertAt_20 ?_
        refine lv_iload_n hx hb dX3_insertAt_21 rfl (lv_at hl 1 rfl) ?_
        refine lv_icmp_ge (tgt := 61) hx hb dX3_insertAt_22 (by decide) (fun q3 => ?_) (fun q3 => ?_)
        · replace h := it_some q3 h
          refine lv_aload_n hx hb dX3_insertAt_61 rfl (lv_at hl 0 rfl) ?_
          refine lv_dup hx hb dX3_insertAt_62 rfl ?_
          refine va_get (D := D) (ci := 3) (v := .int kGap) (C := RX3) (T := TX3) (N := 6) hx hb hg uX3 hown hK.1 hP 0 rfl rfl 1 (by decide) (hg _ gw_77) (fun _ h9 => h9) rfl dX3_insertAt_63 ?_
          refine lv_iload_n hx hb dX3_insertAt_66 rfl (lv_at hl 1 rfl) ?_
          refine lv_iadd hx hb dX3_insertAt_67 ?_
          obtain ⟨kGap_4, ekGap_4, h⟩ := kl_some h
          refine nm_i ekGap_4 ?_
          refine va_put (D := D) (ci := 3) (v := .int kGap_4) (ty := tyX3 1) (C := RX3) (T := TX3) (N := 6) hx hb hg uX3 tyX3 tyX3_ok nmX3 hown hK.1 hP hD hS 0 rfl rfl 1 (by decide) (hg _ gw_77) (fun _ h9 => h9) rfl (tyX3_ok 1 (by decide)) rfl rfl (Nat.le_of_ble_eq_true rfl) dX3_insertAt_68 (fun H locs hP hD hS => ?_)
          have hP : va_P D vwCl (wX3 cI h0 kCap kGap_4 kCar kCop kGro kShr) H := hP
          have hD : va_D A (wX3 cI h0 kCap kGap_4 kCar kCop kGro kShr) := hD
          cases h
          exact ret_v hx hb hr hlocks hP hD hS dX3_insertAt_71
        · replace h := if_some q3 h
          refine lv_aload_n hx hb dX3_insertAt_25 rfl (lv_at hl 0 rfl) ?_
          refine lv_dup hx hb dX3_insertAt_26 rfl ?_
          refine va_get (D := D) (ci := 3) (v := .int kCap) (C := RX3) (T := TX3) (N := 6) hx hb hg uX3 hown hK.1 hP 0 rfl rfl 0 (by decide) (hg _ gw_74) (fun _ h9 => h9) rfl dX3_insertAt_27 ?_
          refine lv_iconst (v := 2) hx hb dX3_insertAt_30 (by decide) ?_
          refine lv_imul hx hb dX3_insertAt_31 ?_
          obtain ⟨kCap_5, ekCap_5, h⟩ := kl_some h
          refine nm_i ekCap_5 ?_
          refine va_put (D := D) (ci := 3) (v := .int kCap_5) (ty := tyX3 0) (C := RX3) (T := TX3) (N := 6) hx hb hg uX3 tyX3 tyX3_ok nmX3 hown hK.1 hP hD hS 0 rfl rfl 0 (by decide) (hg _ gw_74) (fun _ h9 => h9) rfl (tyX3_ok 0 (by decide)) rfl rfl (Nat.le_of_ble_eq_true rfl) dX3_insertAt_32 (fun H locs hP hD hS => ?_)
          have hP : va_P D vwCl (wX3 cI h0 kCap_5 kGap kCar kCop kGro kShr) H := hP
          have hD : va_D A (wX3 cI h0 kCap_5 kGap kCar kCop kGro kShr) := hD
          refine lv_aload_n hx hb dX3_insertAt_35 rfl (lv_at hl 0 rfl) ?_
          refine lv_dup hx hb dX3_insertAt_36 rfl ?_
          refine va_get (D := D) (ci := 3) (v := .int kCop) (C := RX3) (T := TX3) (N := 6) hx hb hg uX3 hown hK.1 hP 0 rfl rfl 3 (by decide) (hg _ gw_82) (fun _ h9 => h9) rfl dX3_insertAt_37 ?_
          refine lv_iload_n hx hb dX3_insertAt_40 rfl (lv_at hl 2 rfl) ?_
          refine lv_iadd hx hb dX3_insertAt_41 ?_
          obtain ⟨kCop_6, ekCop_6, h⟩ := kl_some h
          refine nm_i ekCop_6 ?_
          refine va_put (D := D) (ci := 3) (v := .int kCop_6) (ty := tyX3 3) (C := RX3) (T := TX3) (N := 6) hx hb hg uX3 tyX3 tyX3_ok nmX3 hown hK.1 hP hD hS 0 rfl rfl 3 (by decide) (hg _ gw_82) (fun _ h9 => h9) rfl (tyX3_ok 3 (by decide)) rfl rfl (Nat.le_of_ble_eq_true rfl) dX3_insertAt_42 (fun H locs hP hD hS => ?_)
          have hP : va_P D vwCl (wX3 cI h0 kCap_5 kGap kCar kCop_6 kGro kShr) H := hP
          have hD : va_D A (wX3 cI h0 kCap_5 kGap kCar kCop_6 kGro kShr) := hD
          refine lv_aload_n hx hb dX3_insertAt_45 rfl (lv_at hl 0 rfl) ?_
          refine lv_dup hx hb dX3_insertAt_46 rfl ?_
          refine va_get (D := D) (ci := 3) (v := .int kGro) (C := RX3) (T := TX3) (N := 6) hx hb hg uX3 hown hK.1 hP 0 rfl rfl 4 (by decide) (hg _ gw_85) (fun _ h9 => h9) rfl dX3_insertAt_47 ?_
          refine lv_iconst (v := 1) hx hb dX3_insertAt_50 (by decide) ?_
          refine lv_iadd hx hb dX3_insertAt_51 ?_
          obtain ⟨kGro_7, ekGro_7, h⟩ := kl_some h
          refine nm_i ekGro_7 ?_
          refine va_put (D := D) (ci := 3) (v := .int kGro_7) (ty := tyX3 4) (C := RX3) (T := TX3) (N := 6) hx hb hg uX3 tyX3 tyX3_ok nmX3 hown hK.1 hP hD hS 0 rfl rfl 4 (by decide) (hg _ gw_85) (fun _ h9 => h9) rfl (tyX3_ok 4 (by decide)) rfl rfl (Nat.le_of_ble_eq_true rfl) dX3_insertAt_52 (fun H locs hP hD hS => ?_)
          have hP : va_P D vwCl (wX3 cI h0 kCap_5 kGap kCar kCop_6 kGro_7 kShr) H := hP
          have hD : va_D A (wX3 cI h0 kCap_5 kGap kCar kCop_6 kGro_7 kShr) := hD
          obtain ⟨x4_8, ex4_8, h⟩ := kl_some h
          refine lv_iinc (v := x4_8) (lv' := [(4, .int x4_8), (0, .ref h0), (2, .int p2), (3, .int p3)]) hx hb dX3_insertAt_55 hl (k := 3) rfl (by rw [ex4_8]; rfl) (by decide) rfl (fun ls hl => ?_)
          refine lv_goto (tgt := 9) hx hb dX3_insertAt_58 (by decide) ?_
          exact ih x4_8 kCap_5 kGap kCar kCop_6 kGro_7 h H locs hP hD hS ls (lv_sub hl [1, 2, 3, 0] rfl)
  have hl : lv_has ls 5 [(0, .ref h0), (1, .int p1), (2, .int p2), (3, .int p3)] := hl
  have hP : va_P D vwCl (wX3 cI h0 kCap kGap kCar kCop kGro kShr) s.heap := hP
  have hD : va_D A (wX3 cI h0 kCap kGap kCar kCop kGro kShr) := hD
  show W p l e rm_X3_insertAt s m args below meth c s.heap [] 0 0 (FV D below args s (wX3 cI h0 (kCap') (kGap') (kCar') (kCop') (kGro') kShr) A) (F0 m 0 ls [])
  unfold f_X3_insertAt at h
  have hmain : ∀ (H : Heap) (locs : List Loc), va_P D vwCl (wX3 cI h0 kCap kGap kCar kCop kGro kShr) H → va_S A s.heap H locs → W p l e rm_X3_insertAt s m args below meth c H locs 0 0 (FV D below args s (wX3 cI h0 (kCap') (kGap') (kCar') (kCop') (kGro') kShr) A) (F0 m 0 ls []) := by
    intro H locs hP hS
    refine lv_aload_n hx hb dX3_insertAt_0 rfl (lv_at hl 0 rfl) ?_
    refine lv_iload_n hx hb dX3_insertAt_1 rfl (lv_at hl 1 rfl) ?_
    obtain ⟨⟨r9, kGap_9, kCar_9⟩, ec9, h⟩ := bd_some h
    refine cV_i (As := [.int p1]) (rest := []) (wc := (wX3 cI h0 kCap kGap kCar kCop kGro kShr)) (wc' := (wX3 cI h0 kCap kGap_9 kCar_9 kCop kGro kShr)) hx hb hml hown hg hK hP hD hS hA hl.1 (k_X3_moveGap l D cI cS cL Z h0 p1 kCap kGap kCar kCop kGro kShr ec9) gm_X3_moveGap gw_438 ⟨rfl, rfl, by decide, by decide⟩ ⟨Nat.zero_le _, Nat.zero_le _⟩ [0] rfl rfl rfl rfl rfl rfl rfl rfl (Nat.le_of_ble_eq_true rfl) dX3_insertAt_2 (fun H locs hP hD hS => ?_)
    have hP : va_P D vwCl (wX3 cI h0 kCap kGap_9 kCar_9 kCop kGro kShr) H := hP
    have hD : va_D A (wX3 cI h0 kCap kGap_9 kCar_9 kCop kGro kShr) := hD
    refine lv_pop hx hb dX3_insertAt_5 rfl ?_
    refine lv_iconst (v := 0) hx hb dX3_insertAt_6 (by decide) ?_
    refine lv_istore (lv' := [(4, .int 0), (0, .ref h0), (1, .int p1), (2, .int p2), (3, .int p3)]) hx hb dX3_insertAt_7 hl (by decide) rfl (fun ls hl => ?_)
    exact c_9 Z 0 kCap kGap_9 kCar_9 kCop kGro h H locs hP hD hS ls (lv_sub hl [1, 3, 4, 0] rfl)
  exact hmain _ _ hP hS
abbrev rm_X3_isTooLarge : Room := { frames := 0, cells := 0, slots := 0, locals := 0 }
def f_X3_isTooLarge (Z : Nat) (p1 : Int32) (kCap : Int32) : Option (Int32) :=
  if kCap ≤ 8 then
    some 0
  else
    if (kCap / 4) < p1 then
      some 0
    else
      some 1
set_option maxRecDepth 100000 in
set_option maxHeartbeats 4000000 in
theorem k_X3_isTooLarge (l : Launch) (D : va_G) (cI cS cL : ClassId) (Z : Nat) (h0 : Nat) (p1 : Int32) (kCap : Int32) (kGap : Int32) (kCar : Int32) (kCop : Int32) (kGro : Int32) (kShr : Int32) {r : Int32} (h : f_X3_isTooLarge Z p1 kCap = some r) : CI l yX3_isTooLarge cX3_isTooLarge 2 (some .boolean) rm_X3_isTooLarge D cI cS cL [.ref h0, .int p1] (wX3 cI h0 kCap kGap kCar kCop kGro kShr) (wX3 cI h0 kCap kGap kCar kCop kGro kShr) r := by
  refine ent_i (by decide +kernel) (Nat.le_of_ble_eq_true rfl) ?_
  intro p e s m args below meth c A ls hx hb hr hml hlocks hg hown hK hP hD hS hA hl
  have hown : s.vm.findClass RX3 = some m.cls := hown
  have hl : lv_has ls 2 [(0, .ref h0), (1, .int p1)] := hl
  have hP : va_P D vwCl (wX3 cI h0 kCap kGap kCar kCop kGro kShr) s.heap := hP
  have hD : va_D A (wX3 cI h0 kCap kGap kCar kCop kGro kShr) := hD
  show W p l e rm_X3_isTooLarge s m args below meth c s.heap [] 0 0 (FI D below args s (wX3 cI h0 kCap kGap kCar kCop kGro kShr) r A) (F0 m 0 ls [])
  unfold f_X3_isTooLarge at h
  have hmain : ∀ (H : Heap) (locs : List Loc), va_P D vwCl (wX3 cI h0 kCap kGap kCar kCop kGro kShr) H → va_S A s.heap H locs → W p l e rm_X3_isTooLarge s m args below meth c H locs 0 0 (FI D below args s (wX3 cI h0 kCap kGap kCar kCop kGro kShr) r A) (F0 m 0 ls []) := by
    intro H locs hP hS
    refine lv_aload_n hx hb dX3_isTooLarge_0 rfl (lv_at hl 0 rfl) ?_
    refine va_get (D := D) (ci := 3) (v := .int kCap) (C := RX3) (T := TX3) (N := 6) hx hb hg uX3 hown hK.1 hP 0 rfl rfl 0 (by decide) (hg _ gw_74) (fun _ h9 => h9) rfl dX3_isTooLarge_1 ?_
    refine lv_bipush (v := 8) hx hb dX3_isTooLarge_4 (by decide) ?_
    refine lv_icmp_le (tgt := 23) hx hb dX3_isTooLarge_6 (by decide) (fun q1 => ?_) (fun q1 => ?_)
    · replace h := it_some q1 h
      refine lv_iconst (v := 0) hx hb dX3_isTooLarge_23 (by decide) ?_
      cases h
      exact ret_z hx hb hr hlocks hP hD hS dX3_isTooLarge_24 (Or.inl rfl) rfl
    · replace h := if_some q1 h
      refine lv_iload_n hx hb dX3_isTooLarge_9 rfl (lv_at hl 1 rfl) ?_
      refine lv_aload_n hx hb dX3_isTooLarge_10 rfl (lv_at hl 0 rfl) ?_
      refine va_get (D := D) (ci := 3) (v := .int kCap) (C := RX3) (T := TX3) (N := 6) hx hb hg uX3 hown hK.1 hP 0 rfl rfl 0 (by decide) (hg _ gw_74) (fun _ h9 => h9) rfl dX3_isTooLarge_11 ?_
      refine lv_iconst (v := 4) hx hb dX3_isTooLarge_14 (by decide) ?_
      refine lv_idiv hx hb dX3_isTooLarge_15 (by decide) ?_
      refine lv_icmp_gt (tgt := 23) hx hb dX3_isTooLarge_16 (by decide) (fun q2 => ?_) (fun q2 => ?_)
      · replace h := it_some q2 h
        refine lv_iconst (v := 0) hx hb dX3_isTooLarge_23 (by decide) ?_
        cases h
        exact ret_z hx hb hr hlocks hP hD hS dX3_isTooLarge_24 (Or.inl rfl) rfl
      · replace h := if_some q2 h
        refine lv_iconst (v := 1) hx hb dX3_isTooLarge_19 (by decide) ?_
        refine lv_goto (tgt := 24) hx hb dX3_isTooLarge_20 (by decide) ?_
        cases h
        exact ret_z hx hb hr hlocks hP hD hS dX3_isTooLarge_24 (Or.inr rfl) rfl
  exact hmain _ _ hP hS
abbrev rm_X3_deleteAt : Room := { frames := 2, cells := 0, slots := 0, locals := 43 }
def f_X3_deleteAt_b14 (Z : Nat) (p1 : Int32) (p2 : Int32) (p3 : Int32) (rec : Int32 → Int32 → Int32 → Int32 → Int32 → Int32 → Option (Int32 × Int32 × Int32 × Int32 × Int32)) (x4 : Int32) (kCap : Int32) (kGap : Int32) (kCar : Int32) (kCop : Int32) (kShr : Int32) : Option (Int32 × Int32 × Int32 × Int32 × Int32) :=
      if 5 ≤ x4 then
        some (kCap, kGap, kCar, kCop, kShr)
      else
        (f_X3_isTooLarge Z p3 kCap).bind fun r2 =>
        if r2 = 0 then
          some (kCap, kGap, kCar, kCop, kShr)
        else
          kl (kCap / 2) fun kCap_4 =>
          kl (kCop + p3) fun kCop_5 =>
          kl (kShr + 1) fun kShr_6 =>
          kl (x4 + 1) fun x4_7 =>
          rec x4_7 kCap_4 kGap kCar kCop_5 kShr_6
def f_X3_deleteAt_l14 (Z : Nat) (p1 : Int32) (p2 : Int32) (p3 : Int32) : Nat → Int32 → Int32 → Int32 → Int32 → Int32 → Int32 → Option (Int32 × Int32 × Int32 × Int32 × Int32)
  | 0, _, _, _, _, _, _ => none
  | n + 1, x4, kCap, kGap, kCar, kCop, kShr => f_X3_deleteAt_b14 Z p1 p2 p3 (f_X3_deleteAt_l14 Z p1 p2 p3 n) x4 kCap kGap kCar kCop kShr
def f_X3_deleteAt (Z : Nat) (p1 : Int32) (p2 : Int32) (p3 : Int32) (kCap : Int32) (kGap : Int32) (kCar : Int32) (kCop : Int32) (kShr : Int32) : Option (Int32 × Int32 × Int32 × Int32 × Int32) :=
  (f_X3_moveGap Z p1 kGap kCar).bind fun (r8, kGap_8, kCar_8) =>
  f_X3_deleteAt_l14 Z p1 p2 p3 Z 0 kCap p2 kCar_8 kCop kShr
set_option maxRecDepth 100000 in
set_option maxHeartbeats 4000000 in
theorem k_X3_deleteAt (l : Launch) (D : va_G) (cI cS cL : ClassId) (Z : Nat) (h0 : Nat) (p1 : Int32) (p2 : Int32) (p3 : Int32) (kCap : Int32) (kGap : Int32) (kCar : Int32) (kCop : Int32) (kGro : Int32) (kShr : Int32) {kCap' : Int32} {kGap' : Int32} {kCar' : Int32} {kCop' : Int32} {kShr' : Int32} (h : f_X3_deleteAt Z p1 p2 p3 kCap kGap kCar kCop kShr = some (kCap', kGap', kCar', kCop', kShr')) : CV l yX3_deleteAt cX3_deleteAt 5 none rm_X3_deleteAt D cI cS cL [.ref h0, .int p1, .int p2, .int p3] (wX3 cI h0 kCap kGap kCar kCop kGro kShr) (wX3 cI h0 (kCap') (kGap') (kCar') (kCop') kGro (kShr')) := by
  refine ent_v (by decide +kernel) (Nat.le_of_ble_eq_true rfl) ?_
  intro p e s m args below meth c A ls hx hb hr hml hlocks hg hown hK hP hD hS hA hl
  have hown : s.vm.findClass RX3 = some m.cls := hown
  have c_14 : ∀ (n : Nat) (x4 : Int32) (kCap : Int32) (kGap : Int32) (kCar : Int32) (kCop : Int32) (kShr : Int32), f_X3_deleteAt_l14 Z p1 p2 p3 n x4 kCap kGap kCar kCop kShr = some (kCap', kGap', kCar', kCop', kShr') → ∀ (H : Heap) (locs : List Loc), va_P D vwCl (wX3 cI h0 kCap kGap kCar kCop kGro kShr) H → va_D A (wX3 cI h0 kCap kGap kCar kCop kGro kShr) → va_S A s.heap H locs → ∀ ls : Array Slot, lv_has ls 5 [(0, .ref h0), (3, .int p3), (4, .int x4)] → W p l e rm_X3_deleteAt s m args below meth c H locs 0 0 (FV D below args s (wX3 cI h0 (kCap') (kGap') (kCar') (kCop') kGro (kShr')) A) (F0 m 14 ls []) := by
    intro n
    induction n with
    | zero => intro x4 kCap kGap kCar kCop kShr h; exact no_some h
    | succ n ih =>
      intro x4 kCap kGap kCar kCop kShr h H locs hP hD hS ls hl
      have h : f_X3_deleteAt_b14 Z p1 p2 p3 (f_X3_deleteAt_l14 Z p1 p2 p3 n) x4 kCap kGap kCar kCop kShr = some (kCap', kGap', kCar', kCop', kShr') := h
      unfold f_X3_deleteAt_b14 at h
      refine lv_iload hx hb dX3_deleteAt_14 (lv_at hl 2 rfl) ?_
      refine lv_iconst (v := 5) hx hb dX3_deleteAt_16 (by decide) ?_
      refine lv_icmp_ge (tgt := 64) hx hb dX3_deleteAt_17 (by decide) (fun q1 => ?_) (fun q1 => ?_)
      · replace h := it_some q1 h
        cases h
        exact ret_v hx hb hr hlocks hP hD hS dX3_deleteAt_64
      · replace h := if_some q1 h
        refine lv_aload_n hx hb dX3_deleteAt_20 rfl (lv_at hl 0 rfl) ?_
        refine lv_iload_n hx hb dX3_deleteAt_21 rfl (lv_at hl 1 rfl) ?_
        obtain ⟨r2, ec2, h⟩ := bd_some h
        refine cV_i (As := [.int p3]) (rest := []) (wc := (wX3 cI h0 kCap kGap kCar kCop kGro kShr)) (wc' := (wX3 cI h0 kCap kGap kCar kCop kGro kShr)) hx hb hml hown hg hK hP hD hS hA hl.1 (k_X3_isTooLarge l D cI cS cL Z h0 p3 kCap kGap kCar kCop kGro kShr ec2) gm_X3_isTooLarge gw_485 ⟨rfl, rfl, by decide, by decide⟩ ⟨Nat.zero_le _, Nat.zero_le _⟩ [0] rfl rfl rfl rfl rfl rfl rfl rfl (Nat.le_of_ble_eq_true rfl) dX3_deleteAt_22 (fun H locs hP hD hS => ?_)
        have hP : va_P D vwCl (wX3 cI h0 kCap kGap kCar kCop kGro kShr) H := hP
        have hD : va_D A (wX3 cI h0 kCap kGap kCar kCop kGro kShr) := hD
        refine lv_if_eq (tgt := 64) hx hb dX3_deleteAt_25 (by decide) (fun q3 => ?_) (fun q3 => ?_)
        · replace h := it_some q3 h
          cases h
          exact ret_v hx hb hr hlocks hP hD hS dX3_deleteAt_64
        · replace h := if_some q3 h
          refine lv_aload_n hx hb dX3_deleteAt_28 rfl (lv_at hl 0 rfl) ?_
          refine lv_dup hx hb dX3_deleteAt_29 rfl ?_
          refine va_get (D := D) (ci := 3) (v := .int kCap) (C := RX3) (T := TX3) (N := 6) hx hb hg uX3 hown hK.1 hP 0 rfl rfl 0 (by decide) (hg _ gw_74) (fun _ h9 => h9) rfl dX3_deleteAt_30 ?_
          refine lv_iconst (v := 2) hx hb dX3_deleteAt_33 (by decide) ?_
          refine lv_idiv hx hb dX3_deleteAt_34 (by decide) ?_
          obtain ⟨kCap_4, ekCap_4, h⟩ := kl_some h
          refine nm_i ekCap_4 ?_
          refine va_put (D := D) (ci := 3) (v := .int kCap_4) (ty := tyX3 0) (C := RX3) (T := TX3) (N := 6) hx hb hg uX3 tyX3 tyX3_ok nmX3 hown hK.1 hP hD hS 0 rfl rfl 0 (by decide) (hg _ gw_74) (fun _ h9 => h9) rfl (tyX3_ok 0 (by decide)) rfl rfl (Nat.le_of_ble_eq_true rfl) dX3_deleteAt_35 (fun H locs hP hD hS => ?_)
          have hP : va_P D vwCl (wX3 cI h0 kCap_4 kGap kCar kCop kGro kShr) H := hP
          have hD : va_D A (wX3 cI h0 kCap_4 kGap kCar kCop kGro kShr) := hD
          refine lv_aload_n hx hb dX3_deleteAt_38 rfl (lv_at hl 0 rfl) ?_
          refine lv_dup hx hb dX3_deleteAt_39 rfl ?_
          refine va_get (D := D) (ci := 3) (v := .int kCop) (C := RX3) (T := TX3) (N := 6) hx hb hg uX3 hown hK.1 hP 0 rfl rfl 3 (by decide) (hg _ gw_82) (fun _ h9 => h9) rfl dX3_deleteAt_40 ?_
          refine lv_iload_n hx hb dX3_deleteAt_43 rfl (lv_at hl 1 rfl) ?_
          refine lv_iadd hx hb dX3_deleteAt_44 ?_
          obtain ⟨kCop_5, ekCop_5, h⟩ := kl_some h
          refine nm_i ekCop_5 ?_
          refine va_put (D := D) (ci := 3) (v := .int kCop_5) (ty := tyX3 3) (C := RX3) (T := TX3) (N := 6) hx hb hg uX3 tyX3 tyX3_ok nmX3 hown hK.1 hP hD hS 0 rfl rfl 3 (by decide) (hg _ gw_82) (fun _ h9 => h9) rfl (tyX3_ok 3 (by decide)) rfl rfl (Nat.le_of_ble_eq_true rfl) dX3_deleteAt_45 (fun H locs hP hD hS => ?_)
          have hP : va_P D vwCl (wX3 cI h0 kCap_4 kGap kCar kCop_5 kGro kShr) H := hP
          have hD : va_D A (wX3 cI h0 kCap_4 kGap kCar kCop_5 kGro kShr) := hD
          refine lv_aload_n hx hb dX3_deleteAt_48 rfl (lv_at hl 0 rfl) ?_
          refine lv_dup hx hb dX3_deleteAt_49 rfl ?_
          refine va_get (D := D) (ci := 3) (v := .int kShr) (C := RX3) (T := TX3) (N := 6) hx hb hg uX3 hown hK.1 hP 0 rfl rfl 5 (by decide) (hg _ gw_88) (fun _ h9 => h9) rfl dX3_deleteAt_50 ?_
          refine lv_iconst (v := 1) hx hb dX3_deleteAt_53 (by decide) ?_
          refine lv_iadd hx hb dX3_deleteAt_54 ?_
          obtain ⟨kShr_6, ekShr_6, h⟩ := kl_some h
          refine nm_i ekShr_6 ?_
          refine va_put (D := D) (ci := 3) (v := .int kShr_6) (ty := tyX3 5) (C := RX3) (T := TX3) (N := 6) hx hb hg uX3 tyX3 tyX3_ok nmX3 hown hK.1 hP hD hS 0 rfl rfl 5 (by decide) (hg _ gw_88) (fun _ h9 => h9) rfl (tyX3_ok 5 (by decide)) rfl rfl (Nat.le_of_ble_eq_true rfl) dX3_deleteAt_55 (fun H locs hP hD hS => ?_)
          have hP : va_P D vwCl (wX3 cI h0 kCap_4 kGap kCar kCop_5 kGro kShr_6) H := hP
          have hD : va_D A (wX3 cI h0 kCap_4 kGap kCar kCop_5 kGro kShr_6) := hD
          obtain ⟨x4_7, ex4_7, h⟩ := kl_some h
          refine lv_iinc (v := x4_7) (lv' := [(4, .int x4_7), (0, .ref h0), (3, .int p3)]) hx hb dX3_deleteAt_58 hl (k := 2) rfl (by rw [ex4_7]; rfl) (by decide) rfl (fun ls hl => ?_)
          refine lv_goto (tgt := 14) hx hb dX3_deleteAt_61 (by decide) ?_
          exact ih x4_7 kCap_4 kGap kCar kCop_5 kShr_6 h H locs hP hD hS ls (lv_sub hl [1, 2, 0] rfl)
  have hl : lv_has ls 5 [(0, .ref h0), (1, .int p1), (2, .int p2), (3, .int p3)] := hl
  have hP : va_P D vwCl (wX3 cI h0 kCap kGap kCar kCop kGro kShr) s.heap := hP
  have hD : va_D A (wX3 cI h0 kCap kGap kCar kCop kGro kShr) := hD
  show W p l e rm_X3_deleteAt s m args below meth c s.heap [] 0 0 (FV D below args s (wX3 cI h0 (kCap') (kGap') (kCar') (kCop') kGro (kShr')) A) (F0 m 0 ls [])
  unfold f_X3_deleteAt at h
  have hmain : ∀ (H : Heap) (locs : List Loc), va_P D vwCl (wX3 cI h0 kCap kGap kCar kCop kGro kShr) H → va_S A s.heap H locs → W p l e rm_X3_deleteAt s m args below meth c H locs 0 0 (FV D below args s (wX3 cI h0 (kCap') (kGap') (kCar') (kCop') kGro (kShr')) A) (F0 m 0 ls []) := by
    intro H locs hP hS
    refine lv_aload_n hx hb dX3_deleteAt_0 rfl (lv_at hl 0 rfl) ?_
    refine lv_iload_n hx hb dX3_deleteAt_1 rfl (lv_at hl 1 rfl) ?_
    obtain ⟨⟨r8, kGap_8, kCar_8⟩, ec8, h⟩ := bd_some h
    refine cV_i (As := [.int p1]) (rest := []) (wc := (wX3 cI h0 kCap kGap kCar kCop kGro kShr)) (wc' := (wX3 cI h0 kCap kGap_8 kCar_8 kCop kGro kShr)) hx hb hml hown hg hK hP hD hS hA hl.1 (k_X3_moveGap l D cI cS cL Z h0 p1 kCap kGap kCar kCop kGro kShr ec8) gm_X3_moveGap gw_438 ⟨rfl, rfl, by decide, by decide⟩ ⟨Nat.zero_le _, Nat.zero_le _⟩ [0] rfl rfl rfl rfl rfl rfl rfl rfl (Nat.le_of_ble_eq_true rfl) dX3_deleteAt_2 (fun H locs hP hD hS => ?_)
    have hP : va_P D vwCl (wX3 cI h0 kCap kGap_8 kCar_8 kCop kGro kShr) H := hP
    have hD : va_D A (wX3 cI h0 kCap kGap_8 kCar_8 kCop kGro kShr) := hD
    refine lv_pop hx hb dX3_deleteAt_5 rfl ?_
    refine lv_aload_n hx hb dX3_deleteAt_6 rfl (lv_at hl 0 rfl) ?_
    refine lv_iload_n hx hb dX3_deleteAt_7 rfl (lv_at hl 2 rfl) ?_
    refine va_put (D := D) (ci := 3) (v := .int p2) (ty := tyX3 1) (C := RX3) (T := TX3) (N := 6) hx hb hg uX3 tyX3 tyX3_ok nmX3 hown hK.1 hP hD hS 0 rfl rfl 1 (by decide) (hg _ gw_77) (fun _ h9 => h9) rfl (tyX3_ok 1 (by decide)) rfl rfl (Nat.le_of_ble_eq_true rfl) dX3_deleteAt_8 (fun H locs hP hD hS => ?_)
    have hP : va_P D vwCl (wX3 cI h0 kCap p2 kCar_8 kCop kGro kShr) H := hP
    have hD : va_D A (wX3 cI h0 kCap p2 kCar_8 kCop kGro kShr) := hD
    refine lv_iconst (v := 0) hx hb dX3_deleteAt_11 (by decide) ?_
    refine lv_istore (lv' := [(4, .int 0), (0, .ref h0), (1, .int p1), (2, .int p2), (3, .int p3)]) hx hb dX3_deleteAt_12 hl (by decide) rfl (fun ls hl => ?_)
    exact c_14 Z 0 kCap p2 kCar_8 kCop kShr h H locs hP hD hS ls (lv_sub hl [1, 4, 0] rfl)
  exact hmain _ _ hP hS
abbrev rm_X3_assign : Room := { frames := 0, cells := 0, slots := 0, locals := 0 }
def f_X3_assign (Z : Nat) (kCap : Int32) (kGap : Int32) (kCar : Int32) (kCop : Int32) (kGro : Int32) (kShr : Int32) (koCap : Int32) (koGap : Int32) (koCar : Int32) (koCop : Int32) (koGro : Int32) (koShr : Int32) : Option (Int32 × Int32 × Int32 × Int32 × Int32 × Int32) :=
  some (koCap, koGap, koCar, koCop, koGro, koShr)
set_option maxRecDepth 100000 in
set_option maxHeartbeats 4000000 in
theorem k_X3_assign (l : Launch) (D : va_G) (cI cS cL : ClassId) (Z : Nat) (h0 : Nat) (h1 : Nat) (kCap : Int32) (kGap : Int32) (kCar : Int32) (kCop : Int32) (kGro : Int32) (kShr : Int32) (koCap : Int32) (koGap : Int32) (koCar : Int32) (koCop : Int32) (koGro : Int32) (koShr : Int32) {kCap' : Int32} {kGap' : Int32} {kCar' : Int32} {kCop' : Int32} {kGro' : Int32} {kShr' : Int32} (h : f_X3_assign Z kCap kGap kCar kCop kGro kShr koCap koGap koCar koCop koGro koShr = some (kCap', kGap', kCar', kCop', kGro', kShr')) : CV l yX3_assign cX3_assign 2 none rm_X3_assign D cI cS cL [.ref h0, .ref h1] (wX3 cI h0 kCap kGap kCar kCop kGro kShr ++ wX3 cI h1 koCap koGap koCar koCop koGro koShr) (wX3 cI h0 (kCap') (kGap') (kCar') (kCop') (kGro') (kShr') ++ wX3 cI h1 koCap koGap koCar koCop koGro koShr) := by
  refine ent_v (by decide +kernel) (Nat.le_of_ble_eq_true rfl) ?_
  intro p e s m args below meth c A ls hx hb hr hml hlocks hg hown hK hP hD hS hA hl
  have hown : s.vm.findClass RX3 = some m.cls := hown
  have hl : lv_has ls 2 [(0, .ref h0), (1, .ref h1)] := hl
  have hP : va_P D vwCl (wX3 cI h0 kCap kGap kCar kCop kGro kShr ++ wX3 cI h1 koCap koGap koCar koCop koGro koShr) s.heap := hP
  have hD : va_D A (wX3 cI h0 kCap kGap kCar kCop kGro kShr ++ wX3 cI h1 koCap koGap koCar koCop koGro koShr) := hD
  show W p l e rm_X3_assign s m args below meth c s.heap [] 0 0 (FV D below args s (wX3 cI h0 (kCap') (kGap') (kCar') (kCop') (kGro') (kShr') ++ wX3 cI h1 koCap koGap koCar koCop koGro koShr) A) (F0 m 0 ls [])
  unfold f_X3_assign at h
  have hmain : ∀ (H : Heap) (locs : List Loc), va_P D vwCl (wX3 cI h0 kCap kGap kCar kCop kGro kShr ++ wX3 cI h1 koCap koGap koCar koCop koGro koShr) H → va_S A s.heap H locs → W p l e rm_X3_assign s m args below meth c H locs 0 0 (FV D below args s (wX3 cI h0 (kCap') (kGap') (kCar') (kCop') (kGro') (kShr') ++ wX3 cI h1 koCap koGap koCar koCop koGro koShr) A) (F0 m 0 ls []) := by
    intro H locs hP hS
    refine lv_aload_n hx hb dX3_assign_0 rfl (lv_at hl 0 rfl) ?_
    refine lv_aload_n hx hb dX3_assign_1 rfl (lv_at hl 1 rfl) ?_
    refine va_get (D := D) (ci := 3) (v := .int koCap) (C := RX3) (T := TX3) (N := 6) hx hb hg uX3 hown hK.1 hP 1 rfl rfl 0 (by decide) (hg _ gw_74) (fun _ h9 => h9) rfl dX3_assign_2 ?_
    refine va_put (D := D) (ci := 3) (v := .int koCap) (ty := tyX3 0) (C := RX3) (T := TX3) (N := 6) hx hb hg uX3 tyX3 tyX3_ok nmX3 hown hK.1 hP hD hS 0 rfl rfl 0 (by decide) (hg _ gw_74) (fun _ h9 => h9) rfl (tyX3_ok 0 (by decide)) rfl rfl (Nat.le_of_ble_eq_true rfl) dX3_assign_5 (fun H locs hP hD hS => ?_)
    have hP : va_P D vwCl (wX3 cI h0 koCap kGap kCar kCop kGro kShr ++ wX3 cI h1 koCap koGap koCar koCop koGro koShr) H := hP
    have hD : va_D A (wX3 cI h0 koCap kGap kCar kCop kGro kShr ++ wX3 cI h1 koCap koGap koCar koCop koGro koShr) := hD
    refine lv_aload_n hx hb dX3_assign_8 rfl (lv_at hl 0 rfl) ?_
    refine lv_aload_n hx hb dX3_assign_9 rfl (lv_at hl 1 rfl) ?_
    refine va_get (D := D) (ci := 3) (v := .int koGap) (C := RX3) (T := TX3) (N := 6) hx hb hg uX3 hown hK.1 hP 1 rfl rfl 1 (by decide) (hg _ gw_77) (fun _ h9 => h9) rfl dX3_assign_10 ?_
    refine va_put (D := D) (ci := 3) (v := .int koGap) (ty := tyX3 1) (C := RX3) (T := TX3) (N := 6) hx hb hg uX3 tyX3 tyX3_ok nmX3 hown hK.1 hP hD hS 0 rfl rfl 1 (by decide) (hg _ gw_77) (fun _ h9 => h9) rfl (tyX3_ok 1 (by decide)) rfl rfl (Nat.le_of_ble_eq_true rfl) dX3_assign_13 (fun H locs hP hD hS => ?_)
    have hP : va_P D vwCl (wX3 cI h0 koCap koGap kCar kCop kGro kShr ++ wX3 cI h1 koCap koGap koCar koCop koGro koShr) H := hP
    have hD : va_D A (wX3 cI h0 koCap koGap kCar kCop kGro kShr ++ wX3 cI h1 koCap koGap koCar koCop koGro koShr) := hD
    refine lv_aload_n hx hb dX3_assign_16 rfl (lv_at hl 0 rfl) ?_
    refine lv_aload_n hx hb dX3_assign_17 rfl (lv_at hl 1 rfl) ?_
    refine va_get (D := D) (ci := 3) (v := .int koCar) (C := RX3) (T := TX3) (N := 6) hx hb hg uX3 hown hK.1 hP 1 rfl rfl 2 (by decide) (hg _ gw_80) (fun _ h9 => h9) rfl dX3_assign_18 ?_
    refine va_put (D := D) (ci := 3) (v := .int koCar) (ty := tyX3 2) (C := RX3) (T := TX3) (N := 6) hx hb hg uX3 tyX3 tyX3_ok nmX3 hown hK.1 hP hD hS 0 rfl rfl 2 (by decide) (hg _ gw_80) (fun _ h9 => h9) rfl (tyX3_ok 2 (by decide)) rfl rfl (Nat.le_of_ble_eq_true rfl) dX3_assign_21 (fun H locs hP hD hS => ?_)
    have hP : va_P D vwCl (wX3 cI h0 koCap koGap koCar kCop kGro kShr ++ wX3 cI h1 koCap koGap koCar koCop koGro koShr) H := hP
    have hD : va_D A (wX3 cI h0 koCap koGap koCar kCop kGro kShr ++ wX3 cI h1 koCap koGap koCar koCop koGro koShr) := hD
    refine lv_aload_n hx hb dX3_assign_24 rfl (lv_at hl 0 rfl) ?_
    refine lv_aload_n hx hb dX3_assign_25 rfl (lv_at hl 1 rfl) ?_
    refine va_get (D := D) (ci := 3) (v := .int koCop) (C := RX3) (T := TX3) (N := 6) hx hb hg uX3 hown hK.1 hP 1 rfl rfl 3 (by decide) (hg _ gw_82) (fun _ h9 => h9) rfl dX3_assign_26 ?_
    refine va_put (D := D) (ci := 3) (v := .int koCop) (ty := tyX3 3) (C := RX3) (T := TX3) (N := 6) hx hb hg uX3 tyX3 tyX3_ok nmX3 hown hK.1 hP hD hS 0 rfl rfl 3 (by decide) (hg _ gw_82) (fun _ h9 => h9) rfl (tyX3_ok 3 (by decide)) rfl rfl (Nat.le_of_ble_eq_true rfl) dX3_assign_29 (fun H locs hP hD hS => ?_)
    have hP : va_P D vwCl (wX3 cI h0 koCap koGap koCar koCop kGro kShr ++ wX3 cI h1 koCap koGap koCar koCop koGro koShr) H := hP
    have hD : va_D A (wX3 cI h0 koCap koGap koCar koCop kGro kShr ++ wX3 cI h1 koCap koGap koCar koCop koGro koShr) := hD
    refine lv_aload_n hx hb dX3_assign_32 rfl (lv_at hl 0 rfl) ?_
    refine lv_aload_n hx hb dX3_assign_33 rfl (lv_at hl 1 rfl) ?_
    refine va_get (D := D) (ci := 3) (v := .int koGro) (C := RX3) (T := TX3) (N := 6) hx hb hg uX3 hown hK.1 hP 1 rfl rfl 4 (by decide) (hg _ gw_85) (fun _ h9 => h9) rfl dX3_assign_34 ?_
    refine va_put (D := D) (ci := 3) (v := .int koGro) (ty := tyX3 4) (C := RX3) (T := TX3) (N := 6) hx hb hg uX3 tyX3 tyX3_ok nmX3 hown hK.1 hP hD hS 0 rfl rfl 4 (by decide) (hg _ gw_85) (fun _ h9 => h9) rfl (tyX3_ok 4 (by decide)) rfl rfl (Nat.le_of_ble_eq_true rfl) dX3_assign_37 (fun H locs hP hD hS => ?_)
    have hP : va_P D vwCl (wX3 cI h0 koCap koGap koCar koCop koGro kShr ++ wX3 cI h1 koCap koGap koCar koCop koGro koShr) H := hP
    have hD : va_D A (wX3 cI h0 koCap koGap koCar koCop koGro kShr ++ wX3 cI h1 koCap koGap koCar koCop koGro koShr) := hD
    refine lv_aload_n hx hb dX3_assign_40 rfl (lv_at hl 0 rfl) ?_
    refine lv_aload_n hx hb dX3_assign_41 rfl (lv_at hl 1 rfl) ?_
    refine va_get (D := D) (ci := 3) (v := .int koShr) (C := RX3) (T := TX3) (N := 6) hx hb hg uX3 hown hK.1 hP 1 rfl rfl 5 (by decide) (hg _ gw_88) (fun _ h9 => h9) rfl dX3_assign_42 ?_
    refine va_put (D := D) (ci := 3) (v := .int koShr) (ty := tyX3 5) (C := RX3) (T := TX3) (N := 6) hx hb hg uX3 tyX3 tyX3_ok nmX3 hown hK.1 hP hD hS 0 rfl rfl 5 (by decide) (hg _ gw_88) (fun _ h9 => h9) rfl (tyX3_ok 5 (by decide)) rfl rfl (Nat.le_of_ble_eq_true rfl) dX3_assign_45 (fun H locs hP hD hS => ?_)
    have hP : va_P D vwCl (wX3 cI h0 koCap koGap koCar koCop koGro koShr ++ wX3 cI h1 koCap koGap koCar koCop koGro koShr) H := hP
    have hD : va_D A (wX3 cI h0 koCap koGap koCar koCop koGro koShr ++ wX3 cI h1 koCap koGap koCar koCop koGro koShr) := hD
    cases h
    exact ret_v hx hb hr hlocks hP hD hS dX3_assign_48
  exact hmain _ _ hP hS
