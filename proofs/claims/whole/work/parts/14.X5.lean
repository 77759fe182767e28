abbrev rm_X5_restart : Room := { frames := 0, cells := 0, slots := 0, locals := 0 }
def f_X5_restart (Z : Nat) (rCmd : Int32) (rLet : Int32) (rNum : Int32) : Option (Int32 × Int32 × Int32) :=
  some (((-1)), (0), ((-1)))
set_option maxRecDepth 100000 in
set_option maxHeartbeats 4000000 in
theorem k_X5_restart (l : Launch) (D : va_G) (cI cS cL : ClassId) (Z : Nat) (h0 : Nat) (rCmd : Int32) (rLet : Int32) (rNum : Int32) {rCmd' : Int32} {rLet' : Int32} {rNum' : Int32} (h : f_X5_restart Z rCmd rLet rNum = some (rCmd', rLet', rNum')) : CV l yX5_restart cX5_restart 1 none rm_X5_restart D cI cS cL [.ref h0] (wX5 cI h0 rCmd rLet rNum) (wX5 cI h0 (rCmd') (rLet') (rNum')) := by
  refine ent_v (by decide +kernel) (Nat.le_of_ble_eq_true rfl) ?_
  intro p e s m args below meth c A ls hx hb hr hml hlocks hg hown hK hP hD hS hA hl
  have hown : s.vm.findClass RX5 = some m.cls := hown
  have hl : lv_has ls 1 [(0, .ref h0)] := hl
  have hP : va_P D vwCl (wX5 cI h0 rCmd rLet rNum) s.heap := hP
  have hD : va_D A (wX5 cI h0 rCmd rLet rNum) := hD
  show W p l e rm_X5_restart s m args below meth c s.heap [] 0 0 (FV D below args s (wX5 cI h0 (rCmd') (rLet') (rNum')) A) (F0 m 0 ls [])
  unfold f_X5_restart at h
  have hmain : ∀ (H : Heap) (locs : List Loc), va_P D vwCl (wX5 cI h0 rCmd rLet rNum) H → va_S A s.heap H locs → W p l e rm_X5_restart s m args below meth c H locs 0 0 (FV D below args s (wX5 cI h0 (rCmd') (rLet') (rNum')) A) (F0 m 0 ls []) := by
    intro H locs hP hS
    refine lv_aload_n hx hb dX5_restart_0 rfl (lv_at hl 0 rfl) ?_
    refine lv_iconst (v := (-1)) hx hb dX5_restart_1 (by decide) ?_
    refine va_put (D := D) (ci := 5) (v := .int (-1)) (ty := tyX5 0) (C := RX5) (T := TX5) (N := 3) hx hb hg uX5 tyX5 tyX5_ok nmX5 hown hK.1 hP hD hS 0 rfl rfl 0 (by decide) (hg _ gw_221) (fun _ h9 => h9) rfl (tyX5_ok 0 (by decide)) rfl rfl (Nat.le_of_ble_eq_true rfl) dX5_restart_2 (fun H locs hP hD hS => ?_)
    have hP : va_P D vwCl (wX5 cI h0 ((-1)) rLet rNum) H := hP
    have hD : va_D A (wX5 cI h0 ((-1)) rLet rNum) := hD
    refine lv_aload_n hx hb dX5_restart_5 rfl (lv_at hl 0 rfl) ?_
    refine lv_iconst (v := 0) hx hb dX5_restart_6 (by decide) ?_
    refine va_put (D := D) (ci := 5) (v := .int 0) (ty := tyX5 1) (C := RX5) (T := TX5) (N := 3) hx hb hg uX5 tyX5 tyX5_ok nmX5 hown hK.1 hP hD hS 0 rfl rfl 1 (by decide) (hg _ gw_223) (fun _ h9 => h9) rfl (tyX5_ok 1 (by decide)) rfl rfl (Nat.le_of_ble_eq_true rfl) dX5_restart_7 (fun H locs hP hD hS => ?_)
    have hP : va_P D vwCl (wX5 cI h0 ((-1)) (0) rNum) H := hP
    have hD : va_D A (wX5 cI h0 ((-1)) (0) rNum) := hD
    refine lv_aload_n hx hb dX5_restart_10 rfl (lv_at hl 0 rfl) ?_
    refine lv_iconst (v := (-1)) hx hb dX5_restart_11 (by decide) ?_
    refine va_put (D := D) (ci := 5) (v := .int (-1)) (ty := tyX5 2) (C := RX5) (T := TX5) (N := 3) hx hb hg uX5 tyX5 tyX5_ok nmX5 hown hK.1 hP hD hS 0 rfl rfl 2 (by decide) (hg _ gw_225) (fun _ h9 => h9) rfl (tyX5_ok 2 (by decide)) rfl rfl (Nat.le_of_ble_eq_true rfl) dX5_restart_12 (fun H locs hP hD hS => ?_)
    have hP : va_P D vwCl (wX5 cI h0 ((-1)) (0) ((-1))) H := hP
    have hD : va_D A (wX5 cI h0 ((-1)) (0) ((-1))) := hD
    cases h
    exact ret_v hx hb hr hlocks hP hD hS dX5_restart_15
  exact hmain _ _ hP hS
abbrev rm_X5_isAtEnd : Room := { frames := 0, cells := 0, slots := 0, locals := 0 }
def f_X5_isAtEnd (Z : Nat) (rCmd : Int32) (rLet : Int32) (rNum : Int32) : Option (Int32) :=
  if rCmd = (-1) then
    some 0
  else if rCmd = 43 then
    if rLet ≤ 0 then
      some 0
    else
      some 1
  else if rCmd = 110 then
    some 1
  else if rCmd = 112 then
    some 1
  else 
    if rNum = (-1) then
    some 0
  else
    some 1
set_option maxRecDepth 100000 in
set_option maxHeartbeats 4000000 in
theorem k_X5_isAtEnd (l : Launch) (D : va_G) (cI cS cL : ClassId) (Z : Nat) (h0 : Nat) (rCmd : Int32) (rLet : Int32) (rNum : Int32) {r : Int32} (h : f_X5_isAtEnd Z rCmd rLet rNum = some r) : CI l yX5_isAtEnd cX5_isAtEnd 1 (some .boolean) rm_X5_isAtEnd D cI cS cL [.ref h0] (wX5 cI h0 rCmd rLet rNum) (wX5 cI h0 rCmd rLet rNum) r := by
  refine ent_i (by decide +kernel) (Nat.le_of_ble_eq_true rfl) ?_
  intro p e s m args below meth c A ls hx hb hr hml hlocks hg hown hK hP hD hS hA hl
  have hown : s.vm.findClass RX5 = some m.cls := hown
  have hl : lv_has ls 1 [(0, .ref h0)] := hl
  have hP : va_P D vwCl (wX5 cI h0 rCmd rLet rNum) s.heap := hP
  have hD : va_D A (wX5 cI h0 rCmd rLet rNum) := hD
  show W p l e rm_X5_isAtEnd s m args below meth c s.heap [] 0 0 (FI D below args s (wX5 cI h0 rCmd rLet rNum) r A) (F0 m 0 ls [])
  unfold f_X5_isAtEnd at h
  have hmain : ∀ (H : Heap) (locs : List Loc), va_P D vwCl (wX5 cI h0 rCmd rLet rNum) H → va_S A s.heap H locs → W p l e rm_X5_isAtEnd s m args below meth c H locs 0 0 (FI D below args s (wX5 cI h0 rCmd rLet rNum) r A) (F0 m 0 ls []) := by
    intro H locs hP hS
    refine lv_aload_n hx hb dX5_isAtEnd_0 rfl (lv_at hl 0 rfl) ?_
    refine va_get (D := D) (ci := 5) (v := .int rCmd) (C := RX5) (T := TX5) (N := 3) hx hb hg uX5 hown hK.1 hP 0 rfl rfl 0 (by decide) (hg _ gw_221) (fun _ h9 => h9) rfl dX5_isAtEnd_1 ?_
    by_cases q1 : rCmd = (-1)
    · replace h := it_some q1 h
      refine lv_lookup (off := 44) (tgt := 48) hx hb dX5_isAtEnd_4 (by decide) (show Op.lookupswitch.offset [(-1, 44), (43, 46), (110, 59), (112, 59)] 61 (rCmd).toInt = 44 from (osw_hit (k := (-1)) q1 rfl)) (by decide) ?_
      refine lv_iconst (v := 0) hx hb dX5_isAtEnd_48 (by decide) ?_
      cases h
      exact ret_z hx hb hr hlocks hP hD hS dX5_isAtEnd_49 (Or.inl rfl) rfl
    replace h := if_some q1 h
    by_cases q2 : rCmd = 43
    · replace h := it_some q2 h
      refine lv_lookup (off := 46) (tgt := 50) hx hb dX5_isAtEnd_4 (by decide) (show Op.lookupswitch.offset [(-1, 44), (43, 46), (110, 59), (112, 59)] 61 (rCmd).toInt = 46 from ((lv_osw (k := (-1)) q1 rfl).trans (osw_hit (k := 43) q2 rfl))) (by decide) ?_
      refine lv_aload_n hx hb dX5_isAtEnd_50 rfl (lv_at hl 0 rfl) ?_
      refine va_get (D := D) (ci := 5) (v := .int rLet) (C := RX5) (T := TX5) (N := 3) hx hb hg uX5 hown hK.1 hP 0 rfl rfl 1 (by decide) (hg _ gw_223) (fun _ h9 => h9) rfl dX5_isAtEnd_51 ?_
      refine lv_if_le (tgt := 61) hx hb dX5_isAtEnd_54 (by decide) (fun q3 => ?_) (fun q3 => ?_)
      · replace h := it_some q3 h
        refine lv_iconst (v := 0) hx hb dX5_isAtEnd_61 (by decide) ?_
        cases h
        exact ret_z hx hb hr hlocks hP hD hS dX5_isAtEnd_62 (Or.inl rfl) rfl
      · replace h := if_some q3 h
        refine lv_iconst (v := 1) hx hb dX5_isAtEnd_57 (by decide) ?_
        refine lv_goto (tgt := 62) hx hb dX5_isAtEnd_58 (by decide) ?_
        cases h
        exact ret_z hx hb hr hlocks hP hD hS dX5_isAtEnd_62 (Or.inr rfl) rfl
    replace h := if_some q2 h
    by_cases q4 : rCmd = 110
    · replace h := it_some q4 h
      refine lv_lookup (off := 59) (tgt := 63) hx hb dX5_isAtEnd_4 (by decide) (show Op.lookupswitch.offset [(-1, 44), (43, 46), (110, 59), (112, 59)] 61 (rCmd).toInt = 59 from ((lv_osw (k := (-1)) q1 rfl).trans ((lv_osw (k := 43) q2 rfl).trans (osw_hit (k := 110) q4 rfl)))) (by decide) ?_
      refine lv_iconst (v := 1) hx hb dX5_isAtEnd_63 (by decide) ?_
      cases h
      exact ret_z hx hb hr hlocks hP hD hS dX5_isAtEnd_64 (Or.inr rfl) rfl
    replace h := if_some q4 h
    by_cases q5 : rCmd = 112
    · replace h := it_some q5 h
      refine lv_lookup (off := 59) (tgt := 63) hx hb dX5_isAtEnd_4 (by decide) (show Op.lookupswitch.offset [(-1, 44), (43, 46), (110, 59), (112, 59)] 61 (rCmd).toInt = 59 from ((lv_osw (k := (-1)) q1 rfl).trans ((lv_osw (k := 43) q2 rfl).trans ((lv_osw (k := 110) q4 rfl).trans (osw_hit (k := 112) q5 rfl))))) (by decide) ?_
      refine lv_iconst (v := 1) hx hb dX5_isAtEnd_63 (by decide) ?_
      cases h
      exact ret_z hx hb hr hlocks hP hD hS dX5_isAtEnd_64 (Or.inr rfl) rfl
    replace h := if_some q5 h
    refine lv_lookup (off := 61) (tgt := 65) hx hb dX5_isAtEnd_4 (by decide) (show Op.lookupswitch.offset [(-1, 44), (43, 46), (110, 59), (112, 59)] 61 (rCmd).toInt = 61 from ((lv_osw (k := (-1)) q1 rfl).trans ((lv_osw (k := 43) q2 rfl).trans ((lv_osw (k := 110) q4 rfl).trans ((lv_osw (k := 112) q5 rfl).trans rfl))))) (by decide) ?_
    refine lv_aload_n hx hb dX5_isAtEnd_65 rfl (lv_at hl 0 rfl) ?_
    refine va_get (D := D) (ci := 5) (v := .int rNum) (C := RX5) (T := TX5) (N := 3) hx hb hg uX5 hown hK.1 hP 0 rfl rfl 2 (by decide) (hg _ gw_225) (fun _ h9 => h9) rfl dX5_isAtEnd_66 ?_
    refine lv_iconst (v := (-1)) hx hb dX5_isAtEnd_69 (by decide) ?_
    refine lv_icmp_eq (tgt := 77) hx hb dX5_isAtEnd_70 (by decide) (fun q6 => ?_) (fun q6 => ?_)
    · replace h := it_some q6 h
      refine lv_iconst (v := 0) hx hb dX5_isAtEnd_77 (by decide) ?_
      cases h
      exact ret_z hx hb hr hlocks hP hD hS dX5_isAtEnd_78 (Or.inl rfl) rfl
    · replace h := if_some q6 h
      refine lv_iconst (v := 1) hx hb dX5_isAtEnd_73 (by decide) ?_
      refine lv_goto (tgt := 78) hx hb dX5_isAtEnd_74 (by decide) ?_
      cases h
      exact ret_z hx hb hr hlocks hP hD hS dX5_isAtEnd_78 (Or.inr rfl) rfl
  exact hmain _ _ hP hS
abbrev rm_X5_acceptCommand : Room := { frames := 0, cells := 0, slots := 0, locals := 0 }
def f_X5_acceptCommand (Z : Nat) (p1 : Int32) (rCmd : Int32) : Option (Int32 × Int32) :=
  if p1 = 43 then
    some (1, p1)
  else if p1 = 45 then
    some (1, p1)
  else if p1 = 60 then
    some (1, p1)
  else if p1 = 64 then
    some (1, p1)
  else if p1 = 109 then
    some (1, p1)
  else if p1 = 110 then
    some (1, p1)
  else if p1 = 112 then
    some (1, p1)
  else if p1 = 120 then
    some (1, p1)
  else 
    some (0, rCmd)
set_option maxRecDepth 100000 in
set_option maxHeartbeats 4000000 in
theorem k_X5_acceptCommand (l : Launch) (D : va_G) (cI cS cL : ClassId) (Z : Nat) (h0 : Nat) (p1 : Int32) (rCmd : Int32) (rLet : Int32) (rNum : Int32) {r : Int32} {rCmd' : Int32} (h : f_X5_acceptCommand Z p1 rCmd = some (r, rCmd')) : CI l yX5_acceptCommand cX5_acceptCommand 2 (some .boolean) rm_X5_acceptCommand D cI cS cL [.ref h0, .int p1] (wX5 cI h0 rCmd rLet rNum) (wX5 cI h0 (rCmd') rLet rNum) r := by
  refine ent_i (by decide +kernel) (Nat.le_of_ble_eq_true rfl) ?_
  intro p e s m args below meth c A ls hx hb hr hml hlocks hg hown hK hP hD hS hA hl
  have hown : s.vm.findClass RX5 = some m.cls := hown
  have hl : lv_has ls 2 [(0, .ref h0), (1, .int p1)] := hl
  have hP : va_P D vwCl (wX5 cI h0 rCmd rLet rNum) s.heap := hP
  have hD : va_D A (wX5 cI h0 rCmd rLet rNum) := hD
  show W p l e rm_X5_acceptCommand s m args below meth c s.heap [] 0 0 (FI D below args s (wX5 cI h0 (rCmd') rLet rNum) r A) (F0 m 0 ls [])
  unfold f_X5_acceptCommand at h
  have hmain : ∀ (H : Heap) (locs : List Loc), va_P D vwCl (wX5 cI h0 rCmd rLet rNum) H → va_S A s.heap H locs → W p l e rm_X5_acceptCommand s m args below meth c H locs 0 0 (FI D below args s (wX5 cI h0 (rCmd') rLet rNum) r A) (F0 m 0 ls []) := by
    intro H locs hP hS
    refine lv_iload_n hx hb dX5_acceptCommand_0 rfl (lv_at hl 1 rfl) ?_
    by_cases q1 : p1 = 43
    · replace h := it_some q1 h
      refine lv_lookup (off := 75) (tgt := 76) hx hb dX5_acceptCommand_1 (by decide) (show Op.lookupswitch.offset [(43, 75), (45, 75), (60, 75), (64, 75), (109, 75), (110, 75), (112, 75), (120, 75)] 82 (p1).toInt = 75 from (osw_hit (k := 43) q1 rfl)) (by decide) ?_
      refine lv_aload_n hx hb dX5_acceptCommand_76 rfl (lv_at hl 0 rfl) ?_
      refine lv_iload_n hx hb dX5_acceptCommand_77 rfl (lv_at hl 1 rfl) ?_
      refine va_put (D := D) (ci := 5) (v := .int p1) (ty := tyX5 0) (C := RX5) (T := TX5) (N := 3) hx hb hg uX5 tyX5 tyX5_ok nmX5 hown hK.1 hP hD hS 0 rfl rfl 0 (by decide) (hg _ gw_221) (fun _ h9 => h9) rfl (tyX5_ok 0 (by decide)) rfl rfl (Nat.le_of_ble_eq_true rfl) dX5_acceptCommand_78 (fun H locs hP hD hS => ?_)
      have hP : va_P D vwCl (wX5 cI h0 p1 rLet rNum) H := hP
      have hD : va_D A (wX5 cI h0 p1 rLet rNum) := hD
      refine lv_iconst (v := 1) hx hb dX5_acceptCommand_81 (by decide) ?_
      cases h
      exact ret_z hx hb hr hlocks hP hD hS dX5_acceptCommand_82 (Or.inr rfl) rfl
    replace h := if_some q1 h
    by_cases q2 : p1 = 45
    · replace h := it_some q2 h
      refine lv_lookup (off := 75) (tgt := 76) hx hb dX5_acceptCommand_1 (by decide) (show Op.lookupswitch.offset [(43, 75), (45, 75), (60, 75), (64, 75), (109, 75), (110, 75), (112, 75), (120, 75)] 82 (p1).toInt = 75 from ((lv_osw (k := 43) q1 rfl).trans (osw_hit (k := 45) q2 rfl))) (by decide) ?_
      refine lv_aload_n hx hb dX5_acceptCommand_76 rfl (lv_at hl 0 rfl) ?_
      refine lv_iload_n hx hb dX5_acceptCommand_77 rfl (lv_at hl 1 rfl) ?_
      refine va_put (D := D) (ci := 5) (v := .int p1) (ty := tyX5 0) (C := RX5) (T := TX5) (N := 3) hx hb hg uX5 tyX5 tyX5_ok nmX5 hown hK.1 hP hD hS 0 rfl rfl 0 (by decide) (hg _ gw_221) (fun _ h9 => h9) rfl (tyX5_ok 0 (by decide)) rfl rfl (Nat.le_of_ble_eq_true rfl) dX5_acceptCommand_78 (fun H locs hP hD hS => ?_)
      have hP : va_P D vwCl (wX5 cI h0 p1 rLet rNum) H := hP
      have hD : va_D A (wX5 cI h0 p1 rLet rNum) := hD
      refine lv_iconst (v := 1) hx hb dX5_acceptCommand_81 (by decide) ?_
      cases h
      exact ret_z hx hb hr hlocks hP hD hS dX5_acceptCommand_82 (Or.inr rfl) rfl
    replace h := if_some q2 h
    by_cases q3 : p1 = 60
    · replace h := it_some q3 h
      refine lv_lookup (off := 75) (tgt := 76) hx hb dX5_acceptCommand_1 (by decide) (show Op.lookupswitch.offset [(43, 75), (45, 75), (60, 75), (64, 75), (109, 75), (110, 75), (112, 75), (120, 75)] 82 (p1).toInt = 75 from ((lv_osw (k := 43) q1 rfl).trans ((lv_osw (k := 45) q2 rfl).trans (osw_hit (k := 60) q3 rfl)))) (by decide) ?_
      refine lv_aload_n hx hb dX5_acceptCommand_76 rfl (lv_at hl 0 rfl) ?_
      refine lv_iload_n hx hb dX5_acceptCommand_77 rfl (lv_at hl 1 rfl) ?_
      refine va_put (D := D) (ci := 5) (v := .int p1) (ty := tyX5 0) (C := RX5) (T := TX5) (N := 3) hx hb hg uX5 tyX5 tyX5_ok nmX5 hown hK.1 hP hD hS 0 rfl rfl 0 (by decide) (hg _ gw_221) (fun _ h9 => h9) rfl (tyX5_ok 0 (by decide)) rfl rfl (Nat.le_of_ble_eq_true rfl) dX5_acceptCommand_78 (fun H locs hP hD hS => ?_)
      have hP : va_P D vwCl (wX5 cI h0 p1 rLet rNum) H := hP
      have hD : va_D A (wX5 cI h0 p1 rLet rNum) := hD
      refine lv_iconst (v := 1) hx hb dX5_acceptCommand_81 (by decide) ?_
      cases h
      exact ret_z hx hb hr hlocks hP hD hS dX5_acceptCommand_82 (Or.inr rfl) rfl
    replace h := if_some q3 h
    by_cases q4 : p1 = 64
    · replace h := it_some q4 h
      refine lv_lookup (off := 75) (tgt := 76) hx hb dX5_acceptCommand_1 (by decide) (show Op.lookupswitch.offset [(43, 75), (45, 75), (60, 75), (64, 75), (109, 75), (110, 75), (112, 75), (120, 75)] 82 (p1).toInt = 75 from ((lv_osw (k := 43) q1 rfl).trans ((lv_osw (k := 45) q2 rfl).trans ((lv_osw (k := 60) q3 rfl).trans (osw_hit (k := 64) q4 rfl))))) (by decide) ?_
      refine lv_aload_n hx hb dX5_acceptCommand_76 rfl (lv_at hl 0 rfl) ?_
      refine lv_iload_n hx hb dX5_acceptCommand_77 rfl (lv_at hl 1 rfl) ?_
      refine va_put (D := D) (ci := 5) (v := .int p1) (ty := tyX5 0) (C := RX5) (T := TX5) (N := 3) hx hb hg uX5 tyX5 tyX5_ok nmX5 hown hK.1 hP hD hS 0 rfl rfl 0 (by decide) (hg _ gw_221) (fun _ h9 => h9) rfl (tyX5_ok 0 (by decide)) rfl rfl (Nat.le_of_ble_eq_true rfl) dX5_acceptCommand_78 (fun H locs hP hD hS => ?_)
      have hP : va_P D vwCl (wX5 cI h0 p1 rLet rNum) H := hP
      have hD : va_D A (wX5 cI h0 p1 rLet rNum) := hD
      refine lv_iconst (v := 1) hx hb dX5_acceptCommand_81 (by decide) ?_
      cases h
      exact ret_z hx hb hr hlocks hP hD hS dX5_acceptCommand_82 (Or.inr rfl) rfl
    replace h := if_some q4 h
    by_cases q5 : p1 = 109
    · replace h := it_some q5 h
      refine lv_lookup (off := 75) (tgt := 76) hx hb dX5_acceptCommand_1 (by decide) (show Op.lookupswitch.offset [(43, 75), (45, 75), (60, 75), (64, 75), (109, 75), (110, 75), (112, 75), (120, 75)] 82 (p1).toInt = 75 from ((lv_osw (k := 43) q1 rfl).trans ((lv_osw (k := 45) q2 rfl).trans ((lv_osw (k := 60) q3 rfl).trans ((lv_osw (k := 64) q4 rfl).trans (osw_hit (k := 109) q5 rfl)))))) (by decide) ?_
      refine lv_aload_n hx hb dX5_acceptCommand_76 rfl (lv_at hl 0 rfl) ?_
      refine lv_iload_n hx hb dX5_acceptCommand_77 rfl (lv_at hl 1 rfl) ?_
      refine va_put (D := D) (ci := 5) (v := .int p1) (ty := tyX5 0) (C := RX5) (T := TX5) (N := 3) hx hb hg uX5 tyX5 tyX5_ok nmX5 hown hK.1 hP hD hS 0 rfl rfl 0 (by decide) (hg _ gw_221) (fun _ h9 => h9) rfl (tyX5_ok 0 (by decide)) rfl rfl (Nat.le_of_ble_eq_true rfl) dX5_acceptCommand_78 (fun H locs hP hD hS => ?_)
      have hP : va_P D vwCl (wX5 cI h0 p1 rLet rNum) H := hP
      have hD : va_D A (wX5 cI h0 p1 rLet rNum) := hD
      refine lv_iconst (v := 1) hx hb dX5_acceptCommand_81 (by decide) ?_
      cases h
      exact ret_z hx hb hr hlocks hP hD hS dX5_acceptCommand_82 (Or.inr rfl) rfl
    replace h := if_some q5 h
    by_cases q6 : p1 = 110
    · replace h := it_some q6 h
      refine lv_lookup (off := 75) (tgt := 76) hx hb dX5_acceptCommand_1 (by decide) (show Op.lookupswitch.offset [(43, 75), (45, 75), (60, 75), (64, 75), (109, 75), (110, 75), (112, 75), (120, 75)] 82 (p1).toInt = 75 from ((lv_osw (k := 43) q1 rfl).trans ((lv_osw (k := 45) q2 rfl).trans ((lv_osw (k := 60) q3 rfl).trans ((lv_osw (k := 64) q4 rfl).trans ((lv_osw (k := 109) q5 rfl).trans (osw_hit (k := 110) q6 rfl))))))) (by decide) ?_
      refine lv_aload_n hx hb dX5_acceptCommand_76 rfl (lv_at hl 0 rfl) ?_
      refine lv_iload_n hx hb dX5_acceptCommand_77 rfl (lv_at hl 1 rfl) ?_
      refine va_put (D := D) (ci := 5) (v := .int p1) (ty := tyX5 0) (C := RX5) (T := TX5) (N := 3) hx hb hg uX5 tyX5 tyX5_ok nmX5 hown hK.1 hP hD hS 0 rfl rfl 0 (by decide) (hg _ gw_221) (fun _ h9 => h9) rfl (tyX5_ok 0 (by decide)) rfl rfl (Nat.le_of_ble_eq_true rfl) dX5_acceptCommand_78 (fun H locs hP hD hS => ?_)
      have hP : va_P D vwCl (wX5 cI h0 p1 rLet rNum) H := hP
      have hD : va_D A (wX5 cI h0 p1 rLet rNum) := hD
      refine lv_iconst (v := 1) hx hb dX5_acceptCommand_81 (by decide) ?_
      cases h
      exact ret_z hx hb hr hlocks hP hD hS dX5_acceptCommand_82 (Or.inr rfl) rfl
    replace h := if_some q6 h
    by_cases q7 : p1 = 112
    · replace h := it_some q7 h
      refine lv_lookup (off := 75) (tgt := 76) hx hb dX5_acceptCommand_1 (by decide) (show Op.lookupswitch.offset [(43, 75), (45, 75), (60, 75), (64, 75), (109, 75), (110, 75), (112, 75), (120, 75)] 82 (p1).toInt = 75 from ((lv_osw (k := 43) q1 rfl).trans ((lv_osw (k := 45) q2 rfl).trans ((lv_osw (k := 60) q3 rfl).trans ((lv_osw (k := 64) q4 rfl).trans ((lv_osw (k := 109) q5 rfl).trans ((lv_osw (k := 110) q6 rfl).trans (osw_hit (k := 112) q7 rfl)))))))) (by decide) ?_
      refine lv_aload_n hx hb dX5_acceptCommand_76 rfl (lv_at hl 0 rfl) ?_
      refine lv_iload_n hx hb dX5_acceptCommand_77 rfl (lv_at hl 1 rfl) ?_
      refine va_put (D := D) (ci := 5) (v := .int p1) (ty := tyX5 0) (C := RX5) (T := TX5) (N := 3) hx hb hg uX5 tyX5 tyX5_ok nmX5 hown hK.1 hP hD hS 0 rfl rfl 0 (by decide) (hg _ gw_221) (fun _ h9 => h9) rfl (tyX5_ok 0 (by decide)) rfl rfl (Nat.le_of_ble_eq_true rfl) dX5_acceptCommand_78 (fun H locs hP hD hS => ?_)
      have hP : va_P D vwCl (wX5 cI h0 p1 rLet rNum) H := hP
      have hD : va_D A (wX5 cI h0 p1 rLet rNum) := hD
      refine lv_iconst (v := 1) hx hb dX5_acceptCommand_81 (by decide) ?_
      cases h
      exact ret_z hx hb hr hlocks hP hD hS dX5_acceptCommand_82 (Or.inr rfl) rfl
    replace h := if_some q7 h
    by_cases q8 : p1 = 120
    · replace h := it_some q8 h
      refine lv_lookup (off := 75) (tgt := 76) hx hb dX5_acceptCommand_1 (by decide) (show Op.lookupswitch.offset [(43, 75), (45, 75), (60, 75), (64, 75), (109, 75), (110, 75), (112, 75), (120, 75)] 82 (p1).toInt = 75 from ((lv_osw (k := 43) q1 rfl).trans ((lv_osw (k := 45) q2 rfl).trans ((lv_osw (k := 60) q3 rfl).trans ((lv_osw (k := 64) q4 rfl).trans ((lv_osw (k := 109) q5 rfl).trans ((lv_osw (k := 110) q6 rfl).trans ((lv_osw (k := 112) q7 rfl).trans (osw_hit (k := 120) q8 rfl))))))))) (by decide) ?_
      refine lv_aload_n hx hb dX5_acceptCommand_76 rfl (lv_at hl 0 rfl) ?_
      refine lv_iload_n hx hb dX5_acceptCommand_77 rfl (lv_at hl 1 rfl) ?_
      refine va_put (D := D) (ci := 5) (v := .int p1) (ty := tyX5 0) (C := RX5) (T := TX5) (N := 3) hx hb hg uX5 tyX5 tyX5_ok nmX5 hown hK.1 hP hD hS 0 rfl rfl 0 (by decide) (hg _ gw_221) (fun _ h9 => h9) rfl (tyX5_ok 0 (by decide)) rfl rfl (Nat.le_of_ble_eq_true rfl) dX5_acceptCommand_78 (fun H locs hP hD hS => ?_)
      have hP : va_P D vwCl (wX5 cI h0 p1 rLet rNum) H := hP
      have hD : va_D A (wX5 cI h0 p1 rLet rNum) := hD
      refine lv_iconst (v := 1) hx hb dX5_acceptCommand_81 (by decide) ?_
      cases h
      exact ret_z hx hb hr hlocks hP hD hS dX5_acceptCommand_82 (Or.inr rfl) rfl
    replace h := if_some q8 h
    refine lv_lookup (off := 82) (tgt := 83) hx hb dX5_acceptCommand_1 (by decide) (show Op.lookupswitch.offset [(43, 75), (45, 75), (60, 75), (64, 75), (109, 75), (110, 75), (112, 75), (120, 75)] 82 (p1).toInt = 82 from ((lv_osw (k := 43) q1 rfl).trans ((lv_osw (k := 45) q2 rfl).trans ((lv_osw (k := 60) q3 rfl).trans ((lv_osw (k := 64) q4 rfl).trans ((lv_osw (k := 109) q5 rfl).trans ((lv_osw (k := 110) q6 rfl).trans ((lv_osw (k := 112) q7 rfl).trans ((lv_osw (k := 120) q8 rfl).trans rfl))))))))) (by decide) ?_
    refine lv_iconst (v := 0) hx hb dX5_acceptCommand_83 (by decide) ?_
    cases h
    exact ret_z hx hb hr hlocks hP hD hS dX5_acceptCommand_84 (Or.inl rfl) rfl
  exact hmain _ _ hP hS
abbrev rm_X5_acceptSeparator : Room := { frames := 1, cells := 0, slots := 0, locals := 20 }
def f_X5_acceptSeparator (Z : Nat) (rCmd : Int32) (rLet : Int32) (rNum : Int32) : Option (Int32 × Int32 × Int32 × Int32) :=
  (f_X5_isAtEnd Z rCmd rLet rNum).bind fun r1 =>
  if r1 = 0 then
    some (0, rCmd, rLet, rNum)
  else
    (f_X5_restart Z rCmd rLet rNum).bind fun (rCmd_3, rLet_3, rNum_3) =>
    some (1, rCmd_3, rLet_3, rNum_3)
set_option maxRecDepth 100000 in
set_option maxHeartbeats 4000000 in
theorem k_X5_acceptSeparator (l : Launch) (D : va_G) (cI cS cL : ClassId) (Z : Nat) (h0 : Nat) (rCmd : Int32) (rLet : Int32) (rNum : Int32) {r : Int32} {rCmd' : Int32} {rLet' : Int32} {rNum' : Int32} (h : f_X5_acceptSeparator Z rCmd rLet rNum = some (r, rCmd', rLet', rNum')) : CI l yX5_acceptSeparator cX5_acceptSeparator 1 (some .boolean) rm_X5_acceptSeparator D cI cS cL [.ref h0] (wX5 cI h0 rCmd rLet rNum) (wX5 cI h0 (rCmd') (rLet') (rNum')) r := by
  refine ent_i (by decide +kernel) (Nat.le_of_ble_eq_true rfl) ?_
  intro p e s m args below meth c A ls hx hb hr hml hlocks hg hown hK hP hD hS hA hl
  have hown : s.vm.findClass RX5 = some m.cls := hown
  have hl : lv_has ls 1 [(0, .ref h0)] := hl
  have hP : va_P D vwCl (wX5 cI h0 rCmd rLet rNum) s.heap := hP
  have hD : va_D A (wX5 cI h0 rCmd rLet rNum) := hD
  show W p l e rm_X5_acceptSeparator s m args below meth c s.heap [] 0 0 (FI D below args s (wX5 cI h0 (rCmd') (rLet') (rNum')) r A) (F0 m 0 ls [])
  unfold f_X5_acceptSeparator at h
  have hmain : ∀ (H : Heap) (locs : List Loc), va_P D vwCl (wX5 cI h0 rCmd rLet rNum) H → va_S A s.heap H locs → W p l e rm_X5_acceptSeparator s m args below meth c H locs 0 0 (FI D below args s (wX5 cI h0 (rCmd') (rLet') (rNum')) r A) (F0 m 0 ls []) := by
    intro H locs hP hS
    refine lv_aload_n hx hb dX5_acceptSeparator_0 rfl (lv_at hl 0 rfl) ?_
    obtain ⟨r1, ec1, h⟩ := bd_some h
    refine cV_i (As := []) (rest := []) (wc := (wX5 cI h0 rCmd rLet rNum)) (wc' := (wX5 cI h0 rCmd rLet rNum)) hx hb hml hown hg hK hP hD hS hA hl.1 (k_X5_isAtEnd l D cI cS cL Z h0 rCmd rLet rNum ec1) gm_X5_isAtEnd gw_440 ⟨rfl, rfl, by decide, by decide⟩ ⟨Nat.zero_le _, Nat.zero_le _⟩ [0] rfl rfl rfl rfl rfl rfl rfl rfl (Nat.le_of_ble_eq_true rfl) dX5_acceptSeparator_1 (fun H locs hP hD hS => ?_)
    have hP : va_P D vwCl (wX5 cI h0 rCmd rLet rNum) H := hP
    have hD : va_D A (wX5 cI h0 rCmd rLet rNum) := hD
    refine lv_if_ne (tgt := 9) hx hb dX5_acceptSeparator_4 (by decide) (fun q2 => ?_) (fun q2 => ?_)
    · replace h := if_some q2 h
      refine lv_aload_n hx hb dX5_acceptSeparator_9 rfl (lv_at hl 0 rfl) ?_
      obtain ⟨⟨rCmd_3, rLet_3, rNum_3⟩, ec3, h⟩ := bd_some h
      refine cV_v (As := []) (rest := []) (wc := (wX5 cI h0 rCmd rLet rNum)) (wc' := (wX5 cI h0 rCmd_3 rLet_3 rNum_3)) hx hb hml hown hg hK hP hD hS hA hl.1 (k_X5_restart l D cI cS cL Z h0 rCmd rLet rNum ec3) gm_X5_restart gw_444 ⟨rfl, rfl, by decide, by decide⟩ ⟨Nat.zero_le _, Nat.zero_le _⟩ [0] rfl rfl rfl rfl rfl rfl rfl rfl (Nat.le_of_ble_eq_true rfl) dX5_acceptSeparator_10 (fun H locs hP hD hS => ?_)
      have hP : va_P D vwCl (wX5 cI h0 rCmd_3 rLet_3 rNum_3) H := hP
      have hD : va_D A (wX5 cI h0 rCmd_3 rLet_3 rNum_3) := hD
      refine lv_iconst (v := 1) hx hb dX5_acceptSeparator_13 (by decide) ?_
      cases h
      exact ret_z hx hb hr hlocks hP hD hS dX5_acceptSeparator_14 (Or.inr rfl) rfl
    · replace h := it_some q2 h
      refine lv_iconst (v := 0) hx hb dX5_acceptSeparator_7 (by decide) ?_
      cases h
      exact ret_z hx hb hr hlocks hP hD hS dX5_acceptSeparator_8 (Or.inl rfl) rfl
  exact hmain _ _ hP hS
abbrev rm_X5_acceptLetter : Room := { frames := 0, cells := 0, slots := 0, locals := 0 }
def f_X5_acceptLetter (Z : Nat) (p1 : Int32) (rLet : Int32) : Option (Int32 × Int32) :=
  if p1 < 97 then
    some (0, rLet)
  else
    if 122 < p1 then
      some (0, rLet)
    else
      if rLet = 20 then
        some (0, rLet)
      else
        kl (rLet + 1) fun rLet_4 =>
        some (1, rLet_4)
set_option maxRecDepth 100000 in
set_option maxHeartbeats 4000000 in
theorem k_X5_acceptLetter (l : Launch) (D : va_G) (cI cS cL : ClassId) (Z : Nat) (h0 : Nat) (p1 : Int32) (rCmd : Int32) (rLet : Int32) (rNum : Int32) {r : Int32} {rLet' : Int32} (h : f_X5_acceptLetter Z p1 rLet = some (r, rLet')) : CI l yX5_acceptLetter cX5_acceptLetter 2 (some .boolean) rm_X5_acceptLetter D cI cS cL [.ref h0, .int p1] (wX5 cI h0 rCmd rLet rNum) (wX5 cI h0 rCmd (rLet') rNum) r := by
  refine ent_i (by decide +kernel) (Nat.le_of_ble_eq_true rfl) ?_
  intro p e s m args below meth c A ls hx hb hr hml hlocks hg hown hK hP hD hS hA hl
  have hown : s.vm.findClass RX5 = some m.cls := hown
  have hl : lv_has ls 2 [(0, .ref h0), (1, .int p1)] := hl
  have hP : va_P D vwCl (wX5 cI h0 rCmd rLet rNum) s.heap := hP
  have hD : va_D A (wX5 cI h0 rCmd rLet rNum) := hD
  show W p l e rm_X5_acceptLetter s m args below meth c s.heap [] 0 0 (FI D below args s (wX5 cI h0 rCmd (rLet') rNum) r A) (F0 m 0 ls [])
  unfold f_X5_acceptLetter at h
  have hmain : ∀ (H : Heap) (locs : List Loc), va_P D vwCl (wX5 cI h0 rCmd rLet rNum) H → va_S A s.heap H locs → W p l e rm_X5_acceptLetter s m args below meth c H locs 0 0 (FI D below args s (wX5 cI h0 rCmd (rLet') rNum) r A) (F0 m 0 ls []) := by
    intro H locs hP hS
    refine lv_iload_n hx hb dX5_acceptLetter_0 rfl (lv_at hl 1 rfl) ?_
    refine lv_bipush (v := 97) hx hb dX5_acceptLetter_1 (by decide) ?_
    refine lv_icmp_lt (tgt := 21) hx hb dX5_acceptLetter_3 (by decide) (fun q1 => ?_) (fun q1 => ?_)
    · replace h := it_some q1 h
      refine lv_iconst (v := 0) hx hb dX5_acceptLetter_21 (by decide) ?_
      cases h
      exact ret_z hx hb hr hlocks hP hD hS dX5_acceptLetter_22 (Or.inl rfl) rfl
    · replace h := if_some q1 h
      refine lv_iload_n hx hb dX5_acceptLetter_6 rfl (lv_at hl 1 rfl) ?_
      refine lv_bipush (v := 122) hx hb dX5_acceptLetter_7 (by decide) ?_
      refine lv_icmp_gt (tgt := 21) hx hb dX5_acceptLetter_9 (by decide) (fun q2 => ?_) (fun q2 => ?_)
      · replace h := it_some q2 h
        refine lv_iconst (v := 0) hx hb dX5_acceptLetter_21 (by decide) ?_
        cases h
        exact ret_z hx hb hr hlocks hP hD hS dX5_acceptLetter_22 (Or.inl rfl) rfl
      · replace h := if_some q2 h
        refine lv_aload_n hx hb dX5_acceptLetter_12 rfl (lv_at hl 0 rfl) ?_
        refine va_get (D := D) (ci := 5) (v := .int rLet) (C := RX5) (T := TX5) (N := 3) hx hb hg uX5 hown hK.1 hP 0 rfl rfl 1 (by decide) (hg _ gw_223) (fun _ h9 => h9) rfl dX5_acceptLetter_13 ?_
        refine lv_bipush (v := 20) hx hb dX5_acceptLetter_16 (by decide) ?_
        refine lv_icmp_ne (tgt := 23) hx hb dX5_acceptLetter_18 (by decide) (fun q3 => ?_) (fun q3 => ?_)
        · replace h := if_some q3 h
          refine lv_aload_n hx hb dX5_acceptLetter_23 rfl (lv_at hl 0 rfl) ?_
          refine lv_dup hx hb dX5_acceptLetter_24 rfl ?_
          refine va_get (D := D) (ci := 5) (v := .int rLet) (C := RX5) (T := TX5) (N := 3) hx hb hg uX5 hown hK.1 hP 0 rfl rfl 1 (by decide) (hg _ gw_223) (fun _ h9 => h9) rfl dX5_acceptLetter_25 ?_
          refine lv_iconst (v := 1) hx hb dX5_acceptLetter_28 (by decide) ?_
          refine lv_iadd hx hb dX5_acceptLetter_29 ?_
          obtain ⟨rLet_4, erLet_4, h⟩ := kl_some h
          refine nm_i erLet_4 ?_
          refine va_put (D := D) (ci := 5) (v := .int rLet_4) (ty := tyX5 1) (C := RX5) (T := TX5) (N := 3) hx hb hg uX5 tyX5 tyX5_ok nmX5 hown hK.1 hP hD hS 0 rfl rfl 1 (by decide) (hg _ gw_223) (fun _ h9 => h9) rfl (tyX5_ok 1 (by decide)) rfl rfl (Nat.le_of_ble_eq_true rfl) dX5_acceptLetter_30 (fun H locs hP hD hS => ?_)
          have hP : va_P D vwCl (wX5 cI h0 rCmd rLet_4 rNum) H := hP
          have hD : va_D A (wX5 cI h0 rCmd rLet_4 rNum) := hD
          refine lv_iconst (v := 1) hx hb dX5_acceptLetter_33 (by decide) ?_
          cases h
          exact ret_z hx hb hr hlocks hP hD hS dX5_acceptLetter_34 (Or.inr rfl) rfl
        · replace h := it_some q3 h
          refine lv_iconst (v := 0) hx hb dX5_acceptLetter_21 (by decide) ?_
          cases h
          exact ret_z hx hb hr hlocks hP hD hS dX5_acceptLetter_22 (Or.inl rfl) rfl
  exact hmain _ _ hP hS
abbrev rm_X5_leastNumber : Room := { frames := 0, cells := 0, slots := 0, locals := 0 }
def f_X5_leastNumber (Z : Nat) (rCmd : Int32) : Option (Int32) :=
  if rCmd = 45 then
    some 1
  else
    if rCmd = 60 then
      some 1
    else
      some 0
set_option maxRecDepth 100000 in
set_option maxHeartbeats 4000000 in
theorem k_X5_leastNumber (l : Launch) (D : va_G) (cI cS cL : ClassId) (Z : Nat) (h0 : Nat) (rCmd : Int32) (rLet : Int32) (rNum : Int32) {r : Int32} (h : f_X5_leastNumber Z rCmd = some r) : CI l yX5_leastNumber cX5_leastNumber 1 (some .int) rm_X5_leastNumber D cI cS cL [.ref h0] (wX5 cI h0 rCmd rLet rNum) (wX5 cI h0 rCmd rLet rNum) r := by
  refine ent_i (by decide +kernel) (Nat.le_of_ble_eq_true rfl) ?_
  intro p e s m args below meth c A ls hx hb hr hml hlocks hg hown hK hP hD hS hA hl
  have hown : s.vm.findClass RX5 = some m.cls := hown
  have hl : lv_has ls 1 [(0, .ref h0)] := hl
  have hP : va_P D vwCl (wX5 cI h0 rCmd rLet rNum) s.heap := hP
  have hD : va_D A (wX5 cI h0 rCmd rLet rNum) := hD
  show W p l e rm_X5_leastNumber s m args below meth c s.heap [] 0 0 (FI D below args s (wX5 cI h0 rCmd rLet rNum) r A) (F0 m 0 ls [])
  unfold f_X5_leastNumber at h
  have hmain : ∀ (H : Heap) (locs : List Loc), va_P D vwCl (wX5 cI h0 rCmd rLet rNum) H → va_S A s.heap H locs → W p l e rm_X5_leastNumber s m args below meth c H locs 0 0 (FI D below args s (wX5 cI h0 rCmd rLet rNum) r A) (F0 m 0 ls []) := by
    intro H locs hP hS
    refine lv_aload_n hx hb dX5_leastNumber_0 rfl (lv_at hl 0 rfl) ?_
    refine va_get (D := D) (ci := 5) (v := .int rCmd) (C := RX5) (T := TX5) (N := 3) hx hb hg uX5 hown hK.1 hP 0 rfl rfl 0 (by decide) (hg _ gw_221) (fun _ h9 => h9) rfl dX5_leastNumber_1 ?_
    refine lv_bipush (v := 45) hx hb dX5_leastNumber_4 (by decide) ?_
    refine lv_icmp_eq (tgt := 18) hx hb dX5_leastNumber_6 (by decide) (fun q1 => ?_) (fun q1 => ?_)
    · replace h := it_some q1 h
      refine lv_iconst (v := 1) hx hb dX5_leastNumber_18 (by decide) ?_
      refine lv_goto (tgt := 23) hx hb dX5_leastNumber_19 (by decide) ?_
      cases h
      exact ret_i hx hb hr hlocks hP hD hS dX5_leastNumber_23 rfl
    · replace h := if_some q1 h
      refine lv_aload_n hx hb dX5_leastNumber_9 rfl (lv_at hl 0 rfl) ?_
      refine va_get (D := D) (ci := 5) (v := .int rCmd) (C := RX5) (T := TX5) (N := 3) hx hb hg uX5 hown hK.1 hP 0 rfl rfl 0 (by decide) (hg _ gw_221) (fun _ h9 => h9) rfl dX5_leastNumber_10 ?_
      refine lv_bipush (v := 60) hx hb dX5_leastNumber_13 (by decide) ?_
      refine lv_icmp_ne (tgt := 22) hx hb dX5_leastNumber_15 (by decide) (fun q2 => ?_) (fun q2 => ?_)
      · replace h := if_some q2 h
        refine lv_iconst (v := 0) hx hb dX5_leastNumber_22 (by decide) ?_
        cases h
        exact ret_i hx hb hr hlocks hP hD hS dX5_leastNumber_23 rfl
      · replace h := it_some q2 h
        refine lv_iconst (v := 1) hx hb dX5_leastNumber_18 (by decide) ?_
        refine lv_goto (tgt := 23) hx hb dX5_leastNumber_19 (by decide) ?_
        cases h
        exact ret_i hx hb hr hlocks hP hD hS dX5_leastNumber_23 rfl
  exact hmain _ _ hP hS
abbrev rm_X5_greatestNumber : Room := { frames := 0, cells := 0, slots := 0, locals := 0 }
def f_X5_greatestNumber (Z : Nat) (rCmd : Int32) : Option (Int32) :=
  if rCmd = 45 then
    some 99
  else if rCmd = 60 then
    some 99
  else if rCmd = 64 then
    some 256
  else if rCmd = 109 then
    some 3
  else if rCmd = 120 then
    some 3
  else 
    some (-1)
set_option maxRecDepth 100000 in
set_option maxHeartbeats 4000000 in
theorem k_X5_greatestNumber (l : Launch) (D : va_G) (cI cS cL : ClassId) (Z : Nat) (h0 : Nat) (rCmd : Int32) (rLet : Int32) (rNum : Int32) {r : Int32} (h : f_X5_greatestNumber Z rCmd = some r) : CI l yX5_greatestNumber cX5_greatestNumber 1 (some .int) rm_X5_greatestNumber D cI cS cL [.ref h0] (wX5 cI h0 rCmd rLet rNum) (wX5 cI h0 rCmd rLet rNum) r := by
  refine ent_i (by decide +kernel) (Nat.le_of_ble_eq_true rfl) ?_
  intro p e s m args below meth c A ls hx hb hr hml hlocks hg hown hK hP hD hS hA hl
  have hown : s.vm.findClass RX5 = some m.cls := hown
  have hl : lv_has ls 1 [(0, .ref h0)] := hl
  have hP : va_P D vwCl (wX5 cI h0 rCmd rLet rNum) s.heap := hP
  have hD : va_D A (wX5 cI h0 rCmd rLet rNum) := hD
  show W p l e rm_X5_greatestNumber s m args below meth c s.heap [] 0 0 (FI D below args s (wX5 cI h0 rCmd rLet rNum) r A) (F0 m 0 ls [])
  unfold f_X5_greatestNumber at h
  have hmain : ∀ (H : Heap) (locs : List Loc), va_P D vwCl (wX5 cI h0 rCmd rLet rNum) H → va_S A s.heap H locs → W p l e rm_X5_greatestNumber s m args below meth c H locs 0 0 (FI D below args s (wX5 cI h0 rCmd rLet rNum) r A) (F0 m 0 ls []) := by
    intro H locs hP hS
    refine lv_aload_n hx hb dX5_greatestNumber_0 rfl (lv_at hl 0 rfl) ?_
    refine va_get (D := D) (ci := 5) (v := .int rCmd) (C := RX5) (T := TX5) (N := 3) hx hb hg uX5 hown hK.1 hP 0 rfl rfl 0 (by decide) (hg _ gw_221) (fun _ h9 => h9) rfl dX5_greatestNumber_1 ?_
    by_cases q1 : rCmd = 45
    · replace h := it_some q1 h
      refine lv_lookup (off := 52) (tgt := 56) hx hb dX5_greatestNumber_4 (by decide) (show Op.lookupswitch.offset [(45, 52), (60, 52), (64, 55), (109, 59), (120, 59)] 61 (rCmd).toInt = 52 from (osw_hit (k := 45) q1 rfl)) (by decide) ?_
      refine lv_bipush (v := 99) hx hb dX5_greatestNumber_56 (by decide) ?_
      cases h
      exact ret_i hx hb hr hlocks hP hD hS dX5_greatestNumber_58 rfl
    replace h := if_some q1 h
    by_cases q2 : rCmd = 60
    · replace h := it_some q2 h
      refine lv_lookup (off := 52) (tgt := 56) hx hb dX5_greatestNumber_4 (by decide) (show Op.lookupswitch.offset [(45, 52), (60, 52), (64, 55), (109, 59), (120, 59)] 61 (rCmd).toInt = 52 from ((lv_osw (k := 45) q1 rfl).trans (osw_hit (k := 60) q2 rfl))) (by decide) ?_
      refine lv_bipush (v := 99) hx hb dX5_greatestNumber_56 (by decide) ?_
      cases h
      exact ret_i hx hb hr hlocks hP hD hS dX5_greatestNumber_58 rfl
    replace h := if_some q2 h
    by_cases q3 : rCmd = 64
    · replace h := it_some q3 h
      refine lv_lookup (off := 55) (tgt := 59) hx hb dX5_greatestNumber_4 (by decide) (show Op.lookupswitch.offset [(45, 52), (60, 52), (64, 55), (109, 59), (120, 59)] 61 (rCmd).toInt = 55 from ((lv_osw (k := 45) q1 rfl).trans ((lv_osw (k := 60) q2 rfl).trans (osw_hit (k := 64) q3 rfl)))) (by decide) ?_
      refine lv_sipush (v := 256) hx hb dX5_greatestNumber_59 (by decide) ?_
      cases h
      exact ret_i hx hb hr hlocks hP hD hS dX5_greatestNumber_62 rfl
    replace h := if_some q3 h
    by_cases q4 : rCmd = 109
    · replace h := it_some q4 h
      refine lv_lookup (off := 59) (tgt := 63) hx hb dX5_greatestNumber_4 (by decide) (show Op.lookupswitch.offset [(45, 52), (60, 52), (64, 55), (109, 59), (120, 59)] 61 (rCmd).toInt = 59 from ((lv_osw (k := 45) q1 rfl).trans ((lv_osw (k := 60) q2 rfl).trans ((lv_osw (k := 64) q3 rfl).trans (osw_hit (k := 109) q4 rfl))))) (by decide) ?_
      refine lv_iconst (v := 3) hx hb dX5_greatestNumber_63 (by decide) ?_
      cases h
      exact ret_i hx hb hr hlocks hP hD hS dX5_greatestNumber_64 rfl
    replace h := if_some q4 h
    by_cases q5 : rCmd = 120
    · replace h := it_some q5 h
      refine lv_lookup (off := 59) (tgt := 63) hx hb dX5_greatestNumber_4 (by decide) (show Op.lookupswitch.offset [(45, 52), (60, 52), (64, 55), (109, 59), (120, 59)] 61 (rCmd).toInt = 59 from ((lv_osw (k := 45) q1 rfl).trans ((lv_osw (k := 60) q2 rfl).trans ((lv_osw (k := 64) q3 rfl).trans ((lv_osw (k := 109) q4 rfl).trans (osw_hit (k := 120) q5 rfl)))))) (by decide) ?_
      refine lv_iconst (v := 3) hx hb dX5_greatestNumber_63 (by decide) ?_
      cases h
      exact ret_i hx hb hr hlocks hP hD hS dX5_greatestNumber_64 rfl
    replace h := if_some q5 h
    refine lv_lookup (off := 61) (tgt := 65) hx hb dX5_greatestNumber_4 (by decide) (show Op.lookupswitch.offset [(45, 52), (60, 52), (64, 55), (109, 59), (120, 59)] 61 (rCmd).toInt = 61 from ((lv_osw (k := 45) q1 rfl).trans ((lv_osw (k := 60) q2 rfl).trans ((lv_osw (k := 64) q3 rfl).trans ((lv_osw (k := 109) q4 rfl).trans ((lv_osw (k := 120) q5 rfl).trans rfl)))))) (by decide) ?_
    refine lv_iconst (v := (-1)) hx hb dX5_greatestNumber_65 (by decide) ?_
    cases h
    exact ret_i hx hb hr hlocks hP hD hS dX5_greatestNumber_66 rfl
  exact hmain _ _ hP hS
abbrev rm_X5_acceptDigit : Room := { frames := 1, cells := 0, slots := 0, locals := 21 }
def f_X5_acceptDigit_c12 (Z : Nat) (p1 : Int32) (rCmd : Int32) (y0 : Int32) (rNum : Int32) : Option (Int32 × Int32) :=
    if p1 < 48 then
      some (0, rNum)
    else
      if 57 < p1 then
        some (0, rNum)
      else
        if y0 = 0 then
          kl (if 0 < rNum then rNum else 0) fun z4 =>
          kl (((10 * z4) + p1) - 48) fun x3_5 =>
          (f_X5_leastNumber Z rCmd).bind fun r6 =>
          if x3_5 < r6 then
            some (0, rNum)
          else
            (f_X5_greatestNumber Z rCmd).bind fun r8 =>
            if x3_5 ≤ r8 then
              some (1, x3_5)
            else
              some (0, rNum)
        else
          some (0, rNum)
def f_X5_acceptDigit (Z : Nat) (p1 : Int32) (rCmd : Int32) (rNum : Int32) : Option (Int32 × Int32) :=
  if rNum = 0 then
    f_X5_acceptDigit_c12 Z p1 rCmd 1 rNum
  else
    f_X5_acceptDigit_c12 Z p1 rCmd 0 rNum
set_option maxRecDepth 100000 in
set_option maxHeartbeats 4000000 in
theorem k_X5_acceptDigit (l : Launch) (D : va_G) (cI cS cL : ClassId) (Z : Nat) (h0 : Nat) (p1 : Int32) (rCmd : Int32) (rLet : Int32) (rNum : Int32) {r : Int32} {rNum' : Int32} (h : f_X5_acceptDigit Z p1 rCmd rNum = some (r, rNum')) : CI l yX5_acceptDigit cX5_acceptDigit 4 (some .boolean) rm_X5_acceptDigit D cI cS cL [.ref h0, .int p1] (wX5 cI h0 rCmd rLet rNum) (wX5 cI h0 rCmd rLet (rNum')) r := by
  refine ent_i (by decide +kernel) (Nat.le_of_ble_eq_true rfl) ?_
  intro p e s m args below meth c A ls hx hb hr hml hlocks hg hown hK hP hD hS hA hl
  have hown : s.vm.findClass RX5 = some m.cls := hown
  have c_12 : ∀ (y0 : Int32) (rNum : Int32), f_X5_acceptDigit_c12 Z p1 rCmd y0 rNum = some (r, rNum') → ∀ (H : Heap) (locs : List Loc), va_P D vwCl (wX5 cI h0 rCmd rLet rNum) H → va_D A (wX5 cI h0 rCmd rLet rNum) → va_S A s.heap H locs → ∀ ls : Array Slot, lv_has ls 4 [(0, .ref h0), (1, .int p1)] → W p l e rm_X5_acceptDigit s m args below meth c H locs 0 0 (FI D below args s (wX5 cI h0 rCmd rLet (rNum')) r A) (F0 m 12 ls [.int y0]) := by
    intro y0 rNum h H locs hP hD hS ls hl
    unfold f_X5_acceptDigit_c12 at h
    refine lv_istore_n (lv' := [(2, .int y0), (0, .ref h0), (1, .int p1)]) hx hb dX5_acceptDigit_12 rfl hl (by decide) rfl (fun ls hl => ?_)
    refine lv_iload_n hx hb dX5_acceptDigit_13 rfl (lv_at hl 2 rfl) ?_
    refine lv_bipush (v := 48) hx hb dX5_acceptDigit_14 (by decide) ?_
    refine lv_icmp_lt (tgt := 29) hx hb dX5_acceptDigit_16 (by decide) (fun q1 => ?_) (fun q1 => ?_)
    · replace h := it_some q1 h
      refine lv_iconst (v := 0) hx hb dX5_acceptDigit_29 (by decide) ?_
      cases h
      exact ret_z hx hb hr hlocks hP hD hS dX5_acceptDigit_30 (Or.inl rfl) rfl
    · replace h := if_some q1 h
      refine lv_iload_n hx hb dX5_acceptDigit_19 rfl (lv_at hl 2 rfl) ?_
      refine lv_bipush (v := 57) hx hb dX5_acceptDigit_20 (by decide) ?_
      refine lv_icmp_gt (tgt := 29) hx hb dX5_acceptDigit_22 (by decide) (fun q2 => ?_) (fun q2 => ?_)
      · replace h := it_some q2 h
        refine lv_iconst (v := 0) hx hb dX5_acceptDigit_29 (by decide) ?_
        cases h
        exact ret_z hx hb hr hlocks hP hD hS dX5_acceptDigit_30 (Or.inl rfl) rfl
      · replace h := if_some q2 h
        refine lv_iload_n hx hb dX5_acceptDigit_25 rfl (lv_at hl 0 rfl) ?_
        refine lv_if_eq (tgt := 31) hx hb dX5_acceptDigit_26 (by decide) (fun q3 => ?_) (fun q3 => ?_)
        · replace h := it_some q3 h
          refine lv_bipush (v := 10) hx hb dX5_acceptDigit_31 (by decide) ?_
          refine lv_iconst (v := 0) hx hb dX5_acceptDigit_33 (by decide) ?_
          refine lv_aload_n hx hb dX5_acceptDigit_34 rfl (lv_at hl 1 rfl) ?_
          refine va_get (D := D) (ci := 5) (v := .int rNum) (C := RX5) (T := TX5) (N := 3) hx hb hg uX5 hown hK.1 hP 0 rfl rfl 2 (by decide) (hg _ gw_225) (fun _ h9 => h9) rfl dX5_acceptDigit_35 ?_
          obtain ⟨z4, ez4, h⟩ := kl_some h
          refine va_mmax hx hb (hml.trans hl.1.symm) hown (hg _ gw_453) (hg _ gw_97) (hg _ gw_62) (hg _ gw_98) (by decide) (Nat.le_of_ble_eq_true rfl) (Nat.le_of_ble_eq_true rfl) (Nat.le_of_ble_eq_true rfl) dX5_acceptDigit_38 ?_
          refine nm_i ez4 ?_
          refine lv_imul hx hb dX5_acceptDigit_41 ?_
          refine lv_iload_n hx hb dX5_acceptDigit_42 rfl (lv_at hl 2 rfl) ?_
          refine lv_iadd hx hb dX5_acceptDigit_43 ?_
          refine lv_bipush (v := 48) hx hb dX5_acceptDigit_44 (by decide) ?_
          refine lv_isub hx hb dX5_acceptDigit_46 ?_
          obtain ⟨x3_5, ex3_5, h⟩ := kl_some h
          refine nm_i ex3_5 ?_
          refine lv_istore_n (lv' := [(3, .int x3_5), (2, .int y0), (0, .ref h0), (1, .int p1)]) hx hb dX5_acceptDigit_47 rfl hl (by decide) rfl (fun ls hl => ?_)
          refine lv_iload_n hx hb dX5_acceptDigit_48 rfl (lv_at hl 0 rfl) ?_
          refine lv_aload_n hx hb dX5_acceptDigit_49 rfl (lv_at hl 2 rfl) ?_
          obtain ⟨r6, ec6, h⟩ := bd_some h
          refine cV_i (As := []) (rest := [.int x3_5]) (wc := (wX5 cI h0 rCmd rLet rNum)) (wc' := (wX5 cI h0 rCmd rLet rNum)) hx hb hml hown hg hK hP hD hS hA hl.1 (k_X5_leastNumber l D cI cS cL Z h0 rCmd rLet rNum ec6) gm_X5_leastNumber gw_454 ⟨rfl, rfl, by decide, by decide⟩ ⟨Nat.zero_le _, Nat.zero_le _⟩ [0] rfl rfl rfl rfl rfl rfl rfl rfl (Nat.le_of_ble_eq_true rfl) dX5_acceptDigit_50 (fun H locs hP hD hS => ?_)
          have hP : va_P D vwCl (wX5 cI h0 rCmd rLet rNum) H := hP
          have hD : va_D A (wX5 cI h0 rCmd rLet rNum) := hD
          refine lv_icmp_lt (tgt := 64) hx hb dX5_acceptDigit_53 (by decide) (fun q7 => ?_) (fun q7 => ?_)
          · replace h := it_some q7 h
            refine lv_iconst (v := 0) hx hb dX5_acceptDigit_64 (by decide) ?_
            cases h
            exact ret_z hx hb hr hlocks hP hD hS dX5_acceptDigit_65 (Or.inl rfl) rfl
          · replace h := if_some q7 h
            refine lv_iload_n hx hb dX5_acceptDigit_56 rfl (lv_at hl 0 rfl) ?_
            refine lv_aload_n hx hb dX5_acceptDigit_57 rfl (lv_at hl 2 rfl) ?_
            obtain ⟨r8, ec8, h⟩ := bd_some h
            refine cV_i (As := []) (rest := [.int x3_5]) (wc := (wX5 cI h0 rCmd rLet rNum)) (wc' := (wX5 cI h0 rCmd rLet rNum)) hx hb hml hown hg hK hP hD hS hA hl.1 (k_X5_greatestNumber l D cI cS cL Z h0 rCmd rLet rNum ec8) gm_X5_greatestNumber gw_458 ⟨rfl, rfl, by decide, by decide⟩ ⟨Nat.zero_le _, Nat.zero_le _⟩ [0] rfl rfl rfl rfl rfl rfl rfl rfl (Nat.le_of_ble_eq_true rfl) dX5_acceptDigit_58 (fun H locs hP hD hS => ?_)
            have hP : va_P D vwCl (wX5 cI h0 rCmd rLet rNum) H := hP
            have hD : va_D A (wX5 cI h0 rCmd rLet rNum) := hD
            refine lv_icmp_le (tgt := 66) hx hb dX5_acceptDigit_61 (by decide) (fun q9 => ?_) (fun q9 => ?_)
            · replace h := it_some q9 h
              refine lv_aload_n hx hb dX5_acceptDigit_66 rfl (lv_at hl 2 rfl) ?_
              refine lv_iload_n hx hb dX5_acceptDigit_67 rfl (lv_at hl 0 rfl) ?_
              refine va_put (D := D) (ci := 5) (v := .int x3_5) (ty := tyX5 2) (C := RX5) (T := TX5) (N := 3) hx hb hg uX5 tyX5 tyX5_ok nmX5 hown hK.1 hP hD hS 0 rfl rfl 2 (by decide) (hg _ gw_225) (fun _ h9 => h9) rfl (tyX5_ok 2 (by decide)) rfl rfl (Nat.le_of_ble_eq_true rfl) dX5_acceptDigit_68 (fun H locs hP hD hS => ?_)
              have hP : va_P D vwCl (wX5 cI h0 rCmd rLet x3_5) H := hP
              have hD : va_D A (wX5 cI h0 rCmd rLet x3_5) := hD
              refine lv_iconst (v := 1) hx hb dX5_acceptDigit_71 (by decide) ?_
              cases h
              exact ret_z hx hb hr hlocks hP hD hS dX5_acceptDigit_72 (Or.inr rfl) rfl
            · replace h := if_some q9 h
              refine lv_iconst (v := 0) hx hb dX5_acceptDigit_64 (by decide) ?_
              cases h
              exact ret_z hx hb hr hlocks hP hD hS dX5_acceptDigit_65 (Or.inl rfl) rfl
        · replace h := if_some q3 h
          refine lv_iconst (v := 0) hx hb dX5_acceptDigit_29 (by decide) ?_
          cases h
          exact ret_z hx hb hr hlocks hP hD hS dX5_acceptDigit_30 (Or.inl rfl) rfl
  have hl : lv_has ls 4 [(0, .ref h0), (1, .int p1)] := hl
  have hP : va_P D vwCl (wX5 cI h0 rCmd rLet rNum) s.heap := hP
  have hD : va_D A (wX5 cI h0 rCmd rLet rNum) := hD
  show W p l e rm_X5_acceptDigit s m args below meth c s.heap [] 0 0 (FI D below args s (wX5 cI h0 rCmd rLet (rNum')) r A) (F0 m 0 ls [])
  unfold f_X5_acceptDigit at h
  have hmain : ∀ (H : Heap) (locs : List Loc), va_P D vwCl (wX5 cI h0 rCmd rLet rNum) H → va_S A s.heap H locs → W p l e rm_X5_acceptDigit s m args below meth c H locs 0 0 (FI D below args s (wX5 cI h0 rCmd rLet (rNum')) r A) (F0 m 0 ls []) := by
    intro H locs hP hS
    refine lv_aload_n hx hb dX5_acceptDigit_0 rfl (lv_at hl 0 rfl) ?_
    refine va_get (D := D) (ci := 5) (v := .int rNum) (C := RX5) (T := TX5) (N := 3) hx hb hg uX5 hown hK.1 hP 0 rfl rfl 2 (by decide) (hg _ gw_225) (fun _ h9 => h9) rfl dX5_acceptDigit_1 ?_
    refine lv_if_ne (tgt := 11) hx hb dX5_acceptDigit_4 (by decide) (fun q10 => ?_) (fun q10 => ?_)
    · replace h := if_some q10 h
      refine lv_iconst (v := 0) hx hb dX5_acceptDigit_11 (by decide) ?_
      exact c_12 0 rNum h H locs hP hD hS ls (lv_sub hl [0, 1] rfl)
    · replace h := it_some q10 h
      refine lv_iconst (v := 1) hx hb dX5_acceptDigit_7 (by decide) ?_
      refine lv_goto (tgt := 12) hx hb dX5_acceptDigit_8 (by decide) ?_
      exact c_12 1 rNum h H locs hP hD hS ls (lv_sub hl [0, 1] rfl)
  exact hmain _ _ hP hS
abbrev rm_X5_accept : Room := { frames := 2, cells := 0, slots := 0, locals := 44 }
def f_X5_accept (Z : Nat) (p1 : Int32) (rCmd : Int32) (rLet : Int32) (rNum : Int32) : Option (Int32 × Int32 × Int32 × Int32) :=
  if rCmd = (-1) then
    (f_X5_acceptCommand Z p1 rCmd).bind fun (r10, rCmd_10) =>
    kb r10 (some (r10, rCmd_10, rLet, rNum))
  else
    if p1 = 59 then
      (f_X5_acceptSeparator Z rCmd rLet rNum).bind fun (r8, rCmd_8, rLet_8, rNum_8) =>
      kb r8 (some (r8, rCmd_8, rLet_8, rNum_8))
    else
      if rCmd = 43 then
        (f_X5_acceptLetter Z p1 rLet).bind fun (r6, rLet_6) =>
        kb r6 (some (r6, rCmd, rLet_6, rNum))
      else
        (f_X5_acceptDigit Z p1 rCmd rNum).bind fun (r4, rNum_4) =>
        kb r4 (some (r4, rCmd, rLet, rNum_4))
set_option maxRecDepth 100000 in
set_option maxHeartbeats 4000000 in
theorem k_X5_accept (l : Launch) (D : va_G) (cI cS cL : ClassId) (Z : Nat) (h0 : Nat) (p1 : Int32) (rCmd : Int32) (rLet : Int32) (rNum : Int32) {r : Int32} {rCmd' : Int32} {rLet' : Int32} {rNum' : Int32} (h : f_X5_accept Z p1 rCmd rLet rNum = some (r, rCmd', rLet', rNum')) : CI l yX5_accept cX5_accept 2 (some .boolean) rm_X5_accept D cI cS cL [.ref h0, .int p1] (wX5 cI h0 rCmd rLet rNum) (wX5 cI h0 (rCmd') (rLet') (rNum')) r := by
  refine ent_i (by decide +kernel) (Nat.le_of_ble_eq_true rfl) ?_
  intro p e s m args below meth c A ls hx hb hr hml hlocks hg hown hK hP hD hS hA hl
  have hown : s.vm.findClass RX5 = some m.cls := hown
  have hl : lv_has ls 2 [(0, .ref h0), (1, .int p1)] := hl
  have hP : va_P D vwCl (wX5 cI h0 rCmd rLet rNum) s.heap := hP
  have hD : va_D A (wX5 cI h0 rCmd rLet rNum) := hD
  show W p l e rm_X5_accept s m args below meth c s.heap [] 0 0 (FI D below args s (wX5 cI h0 (rCmd') (rLet') (rNum')) r A) (F0 m 0 ls [])
  unfold f_X5_accept at h
  have hmain : ∀ (H : Heap) (locs : List Loc), va_P D vwCl (wX5 cI h0 rCmd rLet rNum) H → va_S A s.heap H locs → W p l e rm_X5_accept s m args below meth c H locs 0 0 (FI D below args s (wX5 cI h0 (rCmd') (rLet') (rNum')) r A) (F0 m 0 ls []) := by
    intro H locs hP hS
    refine lv_aload_n hx hb dX5_accept_0 rfl (lv_at hl 0 rfl) ?_
    refine va_get (D := D) (ci := 5) (v := .int rCmd) (C := RX5) (T := TX5) (N := 3) hx hb hg uX5 hown hK.1 hP 0 rfl rfl 0 (by decide) (hg _ gw_221) (fun _ h9 => h9) rfl dX5_accept_1 ?_
    refine lv_iconst (v := (-1)) hx hb dX5_accept_4 (by decide) ?_
    refine lv_icmp_ne (tgt := 14) hx hb dX5_accept_5 (by decide) (fun q1 => ?_) (fun q1 => ?_)
    · replace h := if_some q1 h
      refine lv_iload_n hx hb dX5_accept_14 rfl (lv_at hl 1 rfl) ?_
      refine lv_bipush (v := 59) hx hb dX5_accept_15 (by decide) ?_
      refine lv_icmp_ne (tgt := 25) hx hb dX5_accept_17 (by decide) (fun q2 => ?_) (fun q2 => ?_)
      · replace h := if_some q2 h
        refine lv_aload_n hx hb dX5_accept_25 rfl (lv_at hl 0 rfl) ?_
        refine va_get (D := D) (ci := 5) (v := .int rCmd) (C := RX5) (T := TX5) (N := 3) hx hb hg uX5 hown hK.1 hP 0 rfl rfl 0 (by decide) (hg _ gw_221) (fun _ h9 => h9) rfl dX5_accept_26 ?_
        refine lv_bipush (v := 43) hx hb dX5_accept_29 (by decide) ?_
        refine lv_icmp_ne (tgt := 42) hx hb dX5_accept_31 (by decide) (fun q3 => ?_) (fun q3 => ?_)
        · replace h := if_some q3 h
          refine lv_aload_n hx hb dX5_accept_42 rfl (lv_at hl 0 rfl) ?_
          refine lv_iload_n hx hb dX5_accept_43 rfl (lv_at hl 1 rfl) ?_
          obtain ⟨⟨r4, rNum_4⟩, ec4, h⟩ := bd_some h
          refine cV_i (As := [.int p1]) (rest := []) (wc := (wX5 cI h0 rCmd rLet rNum)) (wc' := (wX5 cI h0 rCmd rLet rNum_4)) hx hb hml hown hg hK hP hD hS hA hl.1 (k_X5_acceptDigit l D cI cS cL Z h0 p1 rCmd rLet rNum ec4) gm_X5_acceptDigit gw_449 ⟨rfl, rfl, by decide, by decide⟩ ⟨Nat.zero_le _, Nat.zero_le _⟩ [0] rfl rfl rfl rfl rfl rfl rfl rfl (Nat.le_of_ble_eq_true rfl) dX5_accept_44 (fun H locs hP hD hS => ?_)
          have hP : va_P D vwCl (wX5 cI h0 rCmd rLet rNum_4) H := hP
          have hD : va_D A (wX5 cI h0 rCmd rLet rNum_4) := hD
          obtain ⟨b5, h⟩ := kb_some h
          cases h
          exact ret_z hx hb hr hlocks hP hD hS dX5_accept_47 b5 rfl
        · replace h := it_some q3 h
          refine lv_aload_n hx hb dX5_accept_34 rfl (lv_at hl 0 rfl) ?_
          refine lv_iload_n hx hb dX5_accept_35 rfl (lv_at hl 1 rfl) ?_
          obtain ⟨⟨r6, rLet_6⟩, ec6, h⟩ := bd_some h
          refine cV_i (As := [.int p1]) (rest := []) (wc := (wX5 cI h0 rCmd rLet rNum)) (wc' := (wX5 cI h0 rCmd rLet_6 rNum)) hx hb hml hown hg hK hP hD hS hA hl.1 (k_X5_acceptLetter l D cI cS cL Z h0 p1 rCmd rLet rNum ec6) gm_X5_acceptLetter gw_445 ⟨rfl, rfl, by decide, by decide⟩ ⟨Nat.zero_le _, Nat.zero_le _⟩ [0] rfl rfl rfl rfl rfl rfl rfl rfl (Nat.le_of_ble_eq_true rfl) dX5_accept_36 (fun H locs hP hD hS => ?_)
          have hP : va_P D vwCl (wX5 cI h0 rCmd rLet_6 rNum) H := hP
          have hD : va_D A (wX5 cI h0 rCmd rLet_6 rNum) := hD
          refine lv_goto (tgt := 47) hx hb dX5_accept_39 (by decide) ?_
          obtain ⟨b7, h⟩ := kb_some h
          cases h
          exact ret_z hx hb hr hlocks hP hD hS dX5_accept_47 b7 rfl
      · replace h := it_some q2 h
        refine lv_aload_n hx hb dX5_accept_20 rfl (lv_at hl 0 rfl) ?_
        obtain ⟨⟨r8, rCmd_8, rLet_8, rNum_8⟩, ec8, h⟩ := bd_some h
        refine cV_i (As := []) (rest := []) (wc := (wX5 cI h0 rCmd rLet rNum)) (wc' := (wX5 cI h0 rCmd_8 rLet_8 rNum_8)) hx hb hml hown hg hK hP hD hS hA hl.1 (k_X5_acceptSeparator l D cI cS cL Z h0 rCmd rLet rNum ec8) gm_X5_acceptSeparator gw_436 ⟨rfl, rfl, by decide, by decide⟩ ⟨Nat.zero_le _, Nat.zero_le _⟩ [0] rfl rfl rfl rfl rfl rfl rfl rfl (Nat.le_of_ble_eq_true rfl) dX5_accept_21 (fun H locs hP hD hS => ?_)
        have hP : va_P D vwCl (wX5 cI h0 rCmd_8 rLet_8 rNum_8) H := hP
        have hD : va_D A (wX5 cI h0 rCmd_8 rLet_8 rNum_8) := hD
        obtain ⟨b9, h⟩ := kb_some h
        cases h
        exact ret_z hx hb hr hlocks hP hD hS dX5_accept_24 b9 rfl
    · replace h := it_some q1 h
      refine lv_aload_n hx hb dX5_accept_8 rfl (lv_at hl 0 rfl) ?_
      refine lv_iload_n hx hb dX5_accept_9 rfl (lv_at hl 1 rfl) ?_
      obtain ⟨⟨r10, rCmd_10⟩, ec10, h⟩ := bd_some h
      refine cV_i (As := [.int p1]) (rest := []) (wc := (wX5 cI h0 rCmd rLet rNum)) (wc' := (wX5 cI h0 rCmd_10 rLet rNum)) hx hb hml hown hg hK hP hD hS hA hl.1 (k_X5_acceptCommand l D cI cS cL Z h0 p1 rCmd rLet rNum ec10) gm_X5_acceptCommand gw_432 ⟨rfl, rfl, by decide, by decide⟩ ⟨Nat.zero_le _, Nat.zero_le _⟩ [0] rfl rfl rfl rfl rfl rfl rfl rfl (Nat.le_of_ble_eq_true rfl) dX5_accept_10 (fun H locs hP hD hS => ?_)
      have hP : va_P D vwCl (wX5 cI h0 rCmd_10 rLet rNum) H := hP
      have hD : va_D A (wX5 cI h0 rCmd_10 rLet rNum) := hD
      obtain ⟨b11, h⟩ := kb_some h
      cases h
      exact ret_z hx hb hr hlocks hP hD hS dX5_accept_13 b11 rfl
  exact hmain _ _ hP hS
