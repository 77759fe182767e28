abbrev rm_X8_thrown : Room := { frames := 0, cells := 0, slots := 0, locals := 0 }
def f_X8_thrown (Z : Nat) (aTh : Int32) : Option (Int32) :=
  some aTh
set_option maxRecDepth 100000 in
set_option maxHeartbeats 4000000 in
theorem k_X8_thrown (l : Launch) (D : va_G) (cI cS cL : ClassId) (Z : Nat) (h0 : Nat) (h1 : Nat) (h2 : Nat) (h3 : Nat) (h4 : Nat) (h5 : Nat) (aTh : Int32) (aSm : Int32) (aLn : Int32) (aAt : Int32) (aWe : Int32) (aRm : Int32) (aBm : Int32) (aHa : Int64) (aS : Nat → Int32) (aSv : Nat → Int32) (aCm : Nat → Int32) (aRd : Nat → Int32) (aBy : Nat → Int32) {r : Int32} (h : f_X8_thrown Z aTh = some r) : CI l yX8_thrown cX8_thrown 1 (some .int) rm_X8_thrown D cI cS cL [.ref h0] (wX8 cI h0 h1 h2 h3 h4 h5 aTh aSm aLn aAt aWe aRm aBm aHa aS aSv aCm aRd aBy) (wX8 cI h0 h1 h2 h3 h4 h5 aTh aSm aLn aAt aWe aRm aBm aHa aS aSv aCm aRd aBy) r := by
  refine ent_i (by decide +kernel) (Nat.le_of_ble_eq_true rfl) ?_
  intro p e s m args below meth c A ls hx hb hr hml hlocks hg hown hK hP hD hS hA hl
  have hown : s.vm.findClass RX8 = some m.cls := hown
  have hl : lv_has ls 1 [(0, .ref h0)] := hl
  have hP : va_P D vwCl (wX8 cI h0 h1 h2 h3 h4 h5 aTh aSm aLn aAt aWe aRm aBm aHa aS aSv aCm aRd aBy) s.heap := hP
  have hD : va_D A (wX8 cI h0 h1 h2 h3 h4 h5 aTh aSm aLn aAt aWe aRm aBm aHa aS aSv aCm aRd aBy) := hD
  show W p l e rm_X8_thrown s m args below meth c s.heap [] 0 0 (FI D below args s (wX8 cI h0 h1 h2 h3 h4 h5 aTh aSm aLn aAt aWe aRm aBm aHa aS aSv aCm aRd aBy) r A) (F0 m 0 ls [])
  unfold f_X8_thrown at h
  have hmain : ∀ (H : Heap) (locs : List Loc), va_P D vwCl (wX8 cI h0 h1 h2 h3 h4 h5 aTh aSm aLn aAt aWe aRm aBm aHa aS aSv aCm aRd aBy) H → va_S A s.heap H locs → W p l e rm_X8_thrown s m args below meth c H locs 0 0 (FI D below args s (wX8 cI h0 h1 h2 h3 h4 h5 aTh aSm aLn aAt aWe aRm aBm aHa aS aSv aCm aRd aBy) r A) (F0 m 0 ls []) := by
    intro H locs hP hS
    refine lv_aload_n hx hb dX8_thrown_0 rfl (lv_at hl 0 rfl) ?_
    refine va_get (D := D) (ci := 8) (v := .int aTh) (C := RX8) (T := TX8) (N := 13) hx hb hg uX8 hown hK.1 hP 0 rfl rfl 0 (by decide) (hg _ gw_940) (fun _ h9 => h9) rfl dX8_thrown_1 ?_
    cases h
    exact ret_i hx hb hr hlocks hP hD hS dX8_thrown_4 rfl
  exact hmain _ _ hP hS
abbrev rm_X8_in : Room := { frames := 0, cells := 0, slots := 0, locals := 0 }
def f_X8_in (Z : Nat) (p0 : Int32) (p1 : Int32) (p2 : Int32) : Option (Int32) :=
  if p0 < p1 then
    some 0
  else
    if p2 < p0 then
      some 0
    else
      some 1
set_option maxRecDepth 100000 in
set_option maxHeartbeats 4000000 in
theorem k_X8_in (l : Launch) (D : va_G) (cI cS cL : ClassId) (Z : Nat) (p0 : Int32) (p1 : Int32) (p2 : Int32) {r : Int32} (h : f_X8_in Z p0 p1 p2 = some r) : CI l yX8_in cX8_in 3 (some .boolean) rm_X8_in D cI cS cL [.int p0, .int p1, .int p2] [] [] r := by
  refine ent_i (by decide +kernel) (Nat.le_of_ble_eq_true rfl) ?_
  intro p e s m args below meth c A ls hx hb hr hml hlocks hg hown hK hP hD hS hA hl
  have hown : s.vm.findClass RX8 = some m.cls := hown
  have hl : lv_has ls 3 [(0, .int p0), (1, .int p1), (2, .int p2)] := hl
  have hP : va_P D vwCl [] s.heap := hP
  have hD : va_D A [] := hD
  show W p l e rm_X8_in s m args below meth c s.heap [] 0 0 (FI D below args s [] r A) (F0 m 0 ls [])
  unfold f_X8_in at h
  have hmain : ∀ (H : Heap) (locs : List Loc), va_P D vwCl [] H → va_S A s.heap H locs → W p l e rm_X8_in s m args below meth c H locs 0 0 (FI D below args s [] r A) (F0 m 0 ls []) := by
    intro H locs hP hS
    refine lv_iload_n hx hb dX8_in_0 rfl (lv_at hl 0 rfl) ?_
    refine lv_iload_n hx hb dX8_in_1 rfl (lv_at hl 1 rfl) ?_
    refine lv_icmp_lt (tgt := 14) hx hb dX8_in_2 (by decide) (fun q1 => ?_) (fun q1 => ?_)
    · replace h := it_some q1 h
      refine lv_iconst (v := 0) hx hb dX8_in_14 (by decide) ?_
      cases h
      exact ret_z hx hb hr hlocks hP hD hS dX8_in_15 (Or.inl rfl) rfl
    · replace h := if_some q1 h
      refine lv_iload_n hx hb dX8_in_5 rfl (lv_at hl 0 rfl) ?_
      refine lv_iload_n hx hb dX8_in_6 rfl (lv_at hl 2 rfl) ?_
      refine lv_icmp_gt (tgt := 14) hx hb dX8_in_7 (by decide) (fun q2 => ?_) (fun q2 => ?_)
      · replace h := it_some q2 h
        refine lv_iconst (v := 0) hx hb dX8_in_14 (by decide) ?_
        cases h
        exact ret_z hx hb hr hlocks hP hD hS dX8_in_15 (Or.inl rfl) rfl
      · replace h := if_some q2 h
        refine lv_iconst (v := 1) hx hb dX8_in_10 (by decide) ?_
        refine lv_goto (tgt := 15) hx hb dX8_in_11 (by decide) ?_
        cases h
        exact ret_z hx hb hr hlocks hP hD hS dX8_in_15 (Or.inr rfl) rfl
  exact hmain _ _ hP hS
abbrev rm_X8_fails : Room := { frames := 0, cells := 0, slots := 0, locals := 0 }
def f_X8_fails (Z : Nat) (p1 : Int32) (aTh : Int32) : Option (Int32 × Int32) :=
  some (0, p1)
set_option maxRecDepth 100000 in
set_option maxHeartbeats 4000000 in
theorem k_X8_fails (l : Launch) (D : va_G) (cI cS cL : ClassId) (Z : Nat) (h0 : Nat) (h1 : Nat) (h2 : Nat) (h3 : Nat) (h4 : Nat) (h5 : Nat) (p1 : Int32) (aTh : Int32) (aSm : Int32) (aLn : Int32) (aAt : Int32) (aWe : Int32) (aRm : Int32) (aBm : Int32) (aHa : Int64) (aS : Nat → Int32) (aSv : Nat → Int32) (aCm : Nat → Int32) (aRd : Nat → Int32) (aBy : Nat → Int32) {r : Int32} {aTh' : Int32} (h : f_X8_fails Z p1 aTh = some (r, aTh')) : CI l yX8_fails cX8_fails 2 (some .int) rm_X8_fails D cI cS cL [.ref h0, .int p1] (wX8 cI h0 h1 h2 h3 h4 h5 aTh aSm aLn aAt aWe aRm aBm aHa aS aSv aCm aRd aBy) (wX8 cI h0 h1 h2 h3 h4 h5 (aTh') aSm aLn aAt aWe aRm aBm aHa aS aSv aCm aRd aBy) r := by
  refine ent_i (by decide +kernel) (Nat.le_of_ble_eq_true rfl) ?_
  intro p e s m args below meth c A ls hx hb hr hml hlocks hg hown hK hP hD hS hA hl
  have hown : s.vm.findClass RX8 = some m.cls := hown
  have hl : lv_has ls 2 [(0, .ref h0), (1, .int p1)] := hl
  have hP : va_P D vwCl (wX8 cI h0 h1 h2 h3 h4 h5 aTh aSm aLn aAt aWe aRm aBm aHa aS aSv aCm aRd aBy) s.heap := hP
  have hD : va_D A (wX8 cI h0 h1 h2 h3 h4 h5 aTh aSm aLn aAt aWe aRm aBm aHa aS aSv aCm aRd aBy) := hD
  show W p l e rm_X8_fails s m args below meth c s.heap [] 0 0 (FI D below args s (wX8 cI h0 h1 h2 h3 h4 h5 (aTh') aSm aLn aAt aWe aRm aBm aHa aS aSv aCm aRd aBy) r A) (F0 m 0 ls [])
  unfold f_X8_fails at h
  have hmain : ∀ (H : Heap) (locs : List Loc), va_P D vwCl (wX8 cI h0 h1 h2 h3 h4 h5 aTh aSm aLn aAt aWe aRm aBm aHa aS aSv aCm aRd aBy) H → va_S A s.heap H locs → W p l e rm_X8_fails s m args below meth c H locs 0 0 (FI D below args s (wX8 cI h0 h1 h2 h3 h4 h5 (aTh') aSm aLn aAt aWe aRm aBm aHa aS aSv aCm aRd aBy) r A) (F0 m 0 ls []) := by
    intro H locs hP hS
    refine lv_aload_n hx hb dX8_fails_0 rfl (lv_at hl 0 rfl) ?_
    refine lv_iload_n hx hb dX8_fails_1 rfl (lv_at hl 1 rfl) ?_
    refine va_put (D := D) (ci := 8) (v := .int p1) (ty := tyX8 0) (C := RX8) (T := TX8) (N := 13) hx hb hg uX8 tyX8 tyX8_ok nmX8 hown hK.1 hP hD hS 0 rfl rfl 0 (by decide) (hg _ gw_940) (fun _ h9 => h9) rfl (tyX8_ok 0 (by decide)) rfl rfl (Nat.le_of_ble_eq_true rfl) dX8_fails_2 (fun H locs hP hD hS => ?_)
    have hP : va_P D vwCl (wX8 cI h0 h1 h2 h3 h4 h5 p1 aSm aLn aAt aWe aRm aBm aHa aS aSv aCm aRd aBy) H := hP
    have hD : va_D A (wX8 cI h0 h1 h2 h3 h4 h5 p1 aSm aLn aAt aWe aRm aBm aHa aS aSv aCm aRd aBy) := hD
    refine lv_iconst (v := 0) hx hb dX8_fails_5 (by decide) ?_
    cases h
    exact ret_i hx hb hr hlocks hP hD hS dX8_fails_6 rfl
  exact hmain _ _ hP hS
abbrev rm_X8_isByte : Room := { frames := 1, cells := 0, slots := 0, locals := 22 }
def f_X8_isByte (Z : Nat) (p0 : Int32) : Option (Int32) :=
  if p0 = 10 then
    some 1
  else
    (f_X8_in Z p0 32 126).bind fun r2 =>
    if r2 = 0 then
      some 0
    else
      some 1
set_option maxRecDepth 100000 in
set_option maxHeartbeats 4000000 in
theorem k_X8_isByte (l : Launch) (D : va_G) (cI cS cL : ClassId) (Z : Nat) (p0 : Int32) {r : Int32} (h : f_X8_isByte Z p0 = some r) : CI l yX8_isByte cX8_isByte 1 (some .boolean) rm_X8_isByte D cI cS cL [.int p0] [] [] r := by
  refine ent_i (by decide +kernel) (Nat.le_of_ble_eq_true rfl) ?_
  intro p e s m args below meth c A ls hx hb hr hml hlocks hg hown hK hP hD hS hA hl
  have hown : s.vm.findClass RX8 = some m.cls := hown
  have hl : lv_has ls 1 [(0, .int p0)] := hl
  have hP : va_P D vwCl [] s.heap := hP
  have hD : va_D A [] := hD
  show W p l e rm_X8_isByte s m args below meth c s.heap [] 0 0 (FI D below args s [] r A) (F0 m 0 ls [])
  unfold f_X8_isByte at h
  have hmain : ∀ (H : Heap) (locs : List Loc), va_P D vwCl [] H → va_S A s.heap H locs → W p l e rm_X8_isByte s m args below meth c H locs 0 0 (FI D below args s [] r A) (F0 m 0 ls []) := by
    intro H locs hP hS
    refine lv_iload_n hx hb dX8_isByte_0 rfl (lv_at hl 0 rfl) ?_
    refine lv_bipush (v := 10) hx hb dX8_isByte_1 (by decide) ?_
    refine lv_icmp_eq (tgt := 17) hx hb dX8_isByte_3 (by decide) (fun q1 => ?_) (fun q1 => ?_)
    · replace h := it_some q1 h
      refine lv_iconst (v := 1) hx hb dX8_isByte_17 (by decide) ?_
      refine lv_goto (tgt := 22) hx hb dX8_isByte_18 (by decide) ?_
      cases h
      exact ret_z hx hb hr hlocks hP hD hS dX8_isByte_22 (Or.inr rfl) rfl
    · replace h := if_some q1 h
      refine lv_iload_n hx hb dX8_isByte_6 rfl (lv_at hl 0 rfl) ?_
      refine lv_bipush (v := 32) hx hb dX8_isByte_7 (by decide) ?_
      refine lv_bipush (v := 126) hx hb dX8_isByte_9 (by decide) ?_
      obtain ⟨r2, ec2, h⟩ := bd_some h
      refine cS_i (As := [.int p0, .int 32, .int 126]) (rest := []) (wc := []) (wc' := []) hx hb hml hown hg hK hP hD hS hA hl.1 (k_X8_in l D cI cS cL Z p0 32 126 ec2) gs_X8_in gw_991 ⟨rfl, rfl, by decide, by decide⟩ ⟨Nat.zero_le _, Nat.zero_le _⟩ [] rfl rfl rfl rfl rfl (Nat.le_of_ble_eq_true rfl) dX8_isByte_11 (fun H locs hP hD hS => ?_)
      have hP : va_P D vwCl [] H := hP
      have hD : va_D A [] := hD
      refine lv_if_eq (tgt := 21) hx hb dX8_isByte_14 (by decide) (fun q3 => ?_) (fun q3 => ?_)
      · replace h := it_some q3 h
        refine lv_iconst (v := 0) hx hb dX8_isByte_21 (by decide) ?_
        cases h
        exact ret_z hx hb hr hlocks hP hD hS dX8_isByte_22 (Or.inl rfl) rfl
      · replace h := if_some q3 h
        refine lv_iconst (v := 1) hx hb dX8_isByte_17 (by decide) ?_
        refine lv_goto (tgt := 22) hx hb dX8_isByte_18 (by decide) ?_
        cases h
        exact ret_z hx hb hr hlocks hP hD hS dX8_isByte_22 (Or.inr rfl) rfl
  exact hmain _ _ hP hS
abbrev rm_X8_isPosition : Room := { frames := 1, cells := 0, slots := 0, locals := 22 }
def f_X8_isPosition (Z : Nat) (p1 : Int32) (aS : Nat → Int32) : Option (Int32) :=
  rd 0 344 (
  (f_X8_in Z p1 0 (aS (Int32.toNatClampNeg 0))).bind fun r2 =>
  kb r2 (some r2))
set_option maxRecDepth 100000 in
set_option maxHeartbeats 4000000 in
theorem k_X8_isPosition (l : Launch) (D : va_G) (cI cS cL : ClassId) (Z : Nat) (h0 : Nat) (h1 : Nat) (h2 : Nat) (h3 : Nat) (h4 : Nat) (h5 : Nat) (p1 : Int32) (aTh : Int32) (aSm : Int32) (aLn : Int32) (aAt : Int32) (aWe : Int32) (aRm : Int32) (aBm : Int32) (aHa : Int64) (aS : Nat → Int32) (aSv : Nat → Int32) (aCm : Nat → Int32) (aRd : Nat → Int32) (aBy : Nat → Int32) {r : Int32} (h : f_X8_isPosition Z p1 aS = some r) : CI l yX8_isPosition cX8_isPosition 2 (some .boolean) rm_X8_isPosition D cI cS cL [.ref h0, .int p1] (wX8 cI h0 h1 h2 h3 h4 h5 aTh aSm aLn aAt aWe aRm aBm aHa aS aSv aCm aRd aBy) (wX8 cI h0 h1 h2 h3 h4 h5 aTh aSm aLn aAt aWe aRm aBm aHa aS aSv aCm aRd aBy) r := by
  refine ent_i (by decide +kernel) (Nat.le_of_ble_eq_true rfl) ?_
  intro p e s m args below meth c A ls hx hb hr hml hlocks hg hown hK hP hD hS hA hl
  have hown : s.vm.findClass RX8 = some m.cls := hown
  have hl : lv_has ls 2 [(0, .ref h0), (1, .int p1)] := hl
  have hP : va_P D vwCl (wX8 cI h0 h1 h2 h3 h4 h5 aTh aSm aLn aAt aWe aRm aBm aHa aS aSv aCm aRd aBy) s.heap := hP
  have hD : va_D A (wX8 cI h0 h1 h2 h3 h4 h5 aTh aSm aLn aAt aWe aRm aBm aHa aS aSv aCm aRd aBy) := hD
  show W p l e rm_X8_isPosition s m args below meth c s.heap [] 0 0 (FI D below args s (wX8 cI h0 h1 h2 h3 h4 h5 aTh aSm aLn aAt aWe aRm aBm aHa aS aSv aCm aRd aBy) r A) (F0 m 0 ls [])
  unfold f_X8_isPosition at h
  have hmain : ∀ (H : Heap) (locs : List Loc), va_P D vwCl (wX8 cI h0 h1 h2 h3 h4 h5 aTh aSm aLn aAt aWe aRm aBm aHa aS aSv aCm aRd aBy) H → va_S A s.heap H locs → W p l e rm_X8_isPosition s m args below meth c H locs 0 0 (FI D below args s (wX8 cI h0 h1 h2 h3 h4 h5 aTh aSm aLn aAt aWe aRm aBm aHa aS aSv aCm aRd aBy) r A) (F0 m 0 ls []) := by
    intro H locs hP hS
    refine lv_iload_n hx hb dX8_isPosition_0 rfl (lv_at hl 1 rfl) ?_
    refine lv_iconst (v := 0) hx hb dX8_isPosition_1 (by decide) ?_
    refine lv_aload_n hx hb dX8_isPosition_2 rfl (lv_at hl 0 rfl) ?_
    refine va_get (D := D) (ci := 8) (v := .ref h1) (C := RX8) (T := TX8) (N := 13) hx hb hg uX8 hown hK.1 hP 0 rfl rfl 1 (by decide) (hg _ gw_941) (fun _ h9 => h9) rfl dX8_isPosition_3 ?_
    refine lv_iconst (v := 0) hx hb dX8_isPosition_6 (by decide) ?_
    obtain ⟨v1, h⟩ := rd_some h
    refine va_iald hx hb hK.1 hP 1 0 rfl rfl v1 dX8_isPosition_7 ?_
    obtain ⟨r2, ec2, h⟩ := bd_some h
    refine cS_i (As := [.int p1, .int 0, .int (aS (Int32.toNatClampNeg 0))]) (rest := []) (wc := []) (wc' := []) hx hb hml hown hg hK hP hD hS hA hl.1 (k_X8_in l D cI cS cL Z p1 0 (aS (Int32.toNatClampNeg 0)) ec2) gs_X8_in gw_991 ⟨rfl, rfl, by decide, by decide⟩ ⟨Nat.zero_le _, Nat.zero_le _⟩ [] rfl rfl rfl rfl rfl (Nat.le_of_ble_eq_true rfl) dX8_isPosition_8 (fun H locs hP hD hS => ?_)
    have hP : va_P D vwCl (wX8 cI h0 h1 h2 h3 h4 h5 aTh aSm aLn aAt aWe aRm aBm aHa aS aSv aCm aRd aBy) H := hP
    have hD : va_D A (wX8 cI h0 h1 h2 h3 h4 h5 aTh aSm aLn aAt aWe aRm aBm aHa aS aSv aCm aRd aBy) := hD
    obtain ⟨b3, h⟩ := kb_some h
    cases h
    exact ret_z hx hb hr hlocks hP hD hS dX8_isPosition_11 b3 rfl
  exact hmain _ _ hP hS
abbrev rm_X8_isMark : Room := { frames := 1, cells := 0, slots := 0, locals := 22 }
def f_X8_isMark (Z : Nat) (p0 : Int32) : Option (Int32) :=
  (f_X8_in Z p0 0 3).bind fun r1 =>
  kb r1 (some r1)
set_option maxRecDepth 100000 in
set_option maxHeartbeats 4000000 in
theorem k_X8_isMark (l : Launch) (D : va_G) (cI cS cL : ClassId) (Z : Nat) (p0 : Int32) {r : Int32} (h : f_X8_isMark Z p0 = some r) : CI l yX8_isMark cX8_isMark 1 (some .boolean) rm_X8_isMark D cI cS cL [.int p0] [] [] r := by
  refine ent_i (by decide +kernel) (Nat.le_of_ble_eq_true rfl) ?_
  intro p e s m args below meth c A ls hx hb hr hml hlocks hg hown hK hP hD hS hA hl
  have hown : s.vm.findClass RX8 = some m.cls := hown
  have hl : lv_has ls 1 [(0, .int p0)] := hl
  have hP : va_P D vwCl [] s.heap := hP
  have hD : va_D A [] := hD
  show W p l e rm_X8_isMark s m args below meth c s.heap [] 0 0 (FI D below args s [] r A) (F0 m 0 ls [])
  unfold f_X8_isMark at h
  have hmain : ∀ (H : Heap) (locs : List Loc), va_P D vwCl [] H → va_S A s.heap H locs → W p l e rm_X8_isMark s m args below meth c H locs 0 0 (FI D below args s [] r A) (F0 m 0 ls []) := by
    intro H locs hP hS
    refine lv_iload_n hx hb dX8_isMark_0 rfl (lv_at hl 0 rfl) ?_
    refine lv_iconst (v := 0) hx hb dX8_isMark_1 (by decide) ?_
    refine lv_iconst (v := 3) hx hb dX8_isMark_2 (by decide) ?_
    obtain ⟨r1, ec1, h⟩ := bd_some h
    refine cS_i (As := [.int p0, .int 0, .int 3]) (rest := []) (wc := []) (wc' := []) hx hb hml hown hg hK hP hD hS hA hl.1 (k_X8_in l D cI cS cL Z p0 0 3 ec1) gs_X8_in gw_991 ⟨rfl, rfl, by decide, by decide⟩ ⟨Nat.zero_le _, Nat.zero_le _⟩ [] rfl rfl rfl rfl rfl (Nat.le_of_ble_eq_true rfl) dX8_isMark_3 (fun H locs hP hD hS => ?_)
    have hP : va_P D vwCl [] H := hP
    have hD : va_D A [] := hD
    obtain ⟨b2, h⟩ := kb_some h
    cases h
    exact ret_z hx hb hr hlocks hP hD hS dX8_isMark_6 b2 rfl
  exact hmain _ _ hP hS
abbrev rm_X8_size : Room := { frames := 0, cells := 0, slots := 0, locals := 0 }
def f_X8_size (Z : Nat) (p0 : Int32) : Option (Int32) :=
  if 0 ≤ p0 then
    some p0
  else
    some (-p0)
set_option maxRecDepth 100000 in
set_option maxHeartbeats 4000000 in
theorem k_X8_size (l : Launch) (D : va_G) (cI cS cL : ClassId) (Z : Nat) (p0 : Int32) {r : Int32} (h : f_X8_size Z p0 = some r) : CI l yX8_size cX8_size 1 (some .int) rm_X8_size D cI cS cL [.int p0] [] [] r := by
  refine ent_i (by decide +kernel) (Nat.le_of_ble_eq_true rfl) ?_
  intro p e s m args below meth c A ls hx hb hr hml hlocks hg hown hK hP hD hS hA hl
  have hown : s.vm.findClass RX8 = some m.cls := hown
  have hl : lv_has ls 1 [(0, .int p0)] := hl
  have hP : va_P D vwCl [] s.heap := hP
  have hD : va_D A [] := hD
  show W p l e rm_X8_size s m args below meth c s.heap [] 0 0 (FI D below args s [] r A) (F0 m 0 ls [])
  unfold f_X8_size at h
  have hmain : ∀ (H : Heap) (locs : List Loc), va_P D vwCl [] H → va_S A s.heap H locs → W p l e rm_X8_size s m args below meth c H locs 0 0 (FI D below args s [] r A) (F0 m 0 ls []) := by
    intro H locs hP hS
    refine lv_iload_n hx hb dX8_size_0 rfl (lv_at hl 0 rfl) ?_
    refine lv_if_ge (tgt := 9) hx hb dX8_size_1 (by decide) (fun q1 => ?_) (fun q1 => ?_)
    · replace h := it_some q1 h
      refine lv_iload_n hx hb dX8_size_9 rfl (lv_at hl 0 rfl) ?_
      cases h
      exact ret_i hx hb hr hlocks hP hD hS dX8_size_10 rfl
    · replace h := if_some q1 h
      refine lv_iload_n hx hb dX8_size_4 rfl (lv_at hl 0 rfl) ?_
      refine lv_ineg hx hb dX8_size_5 ?_
      refine lv_goto (tgt := 10) hx hb dX8_size_6 (by decide) ?_
      cases h
      exact ret_i hx hb hr hlocks hP hD hS dX8_size_10 rfl
  exact hmain _ _ hP hS
abbrev rm_X8_saves : Room := { frames := 0, cells := 0, slots := 0, locals := 0 }
def f_X8_saves_b52 (Z : Nat) (aS : Nat → Int32) (rec : Int32 → Int32 → (Nat → Int32) → Option (Int32 × (Nat → Int32))) (x1 : Int32) (aSm : Int32) (aSv : Nat → Int32) : Option (Int32 × (Nat → Int32)) :=
      if 344 ≤ x1 then
        kl (aSm + 1) fun aSm_2 =>
        some (aSm_2, aSv)
      else
        rd x1 344 (
        rd ((344 * aSm) + x1) 2064 (kl (upd aSv (Int32.toNatClampNeg ((344 * aSm) + x1)) (aS (Int32.toNatClampNeg x1))) fun aSv_5 =>
        kl (x1 + 1) fun x1_6 =>
        rec x1_6 aSm aSv_5))
def f_X8_saves_l52 (Z : Nat) (aS : Nat → Int32) : Nat → Int32 → Int32 → (Nat → Int32) → Option (Int32 × (Nat → Int32))
  | 0, _, _, _ => none
  | n + 1, x1, aSm, aSv => f_X8_saves_b52 Z aS (f_X8_saves_l52 Z aS n) x1 aSm aSv
def f_X8_saves_b11 (Z : Nat) (aS : Nat → Int32) (rec : Int32 → Int32 → (Nat → Int32) → Option (Int32 × (Nat → Int32))) (x1 : Int32) (aSm : Int32) (aSv : Nat → Int32) : Option (Int32 × (Nat → Int32)) :=
      if 1720 ≤ x1 then
        kl (aSm - 1) fun aSm_8 =>
        f_X8_saves_l52 Z aS Z 0 aSm_8 aSv
      else
        rd (x1 + 344) 2064 (
        rd x1 2064 (kl (upd aSv (Int32.toNatClampNeg x1) (aSv (Int32.toNatClampNeg (x1 + 344)))) fun aSv_11 =>
        kl (x1 + 1) fun x1_12 =>
        rec x1_12 aSm aSv_11))
def f_X8_saves_l11 (Z : Nat) (aS : Nat → Int32) : Nat → Int32 → Int32 → (Nat → Int32) → Option (Int32 × (Nat → Int32))
  | 0, _, _, _ => none
  | n + 1, x1, aSm, aSv => f_X8_saves_b11 Z aS (f_X8_saves_l11 Z aS n) x1 aSm aSv
def f_X8_saves (Z : Nat) (aSm : Int32) (aS : Nat → Int32) (aSv : Nat → Int32) : Option (Int32 × (Nat → Int32)) :=
  if aSm = 6 then
    f_X8_saves_l11 Z aS Z 0 aSm aSv
  else
    f_X8_saves_l52 Z aS Z 0 aSm aSv
set_option maxRecDepth 100000 in
set_option maxHeartbeats 4000000 in
theorem k_X8_saves (l : Launch) (D : va_G) (cI cS cL : ClassId) (Z : Nat) (h0 : Nat) (h1 : Nat) (h2 : Nat) (h3 : Nat) (h4 : Nat) (h5 : Nat) (aTh : Int32) (aSm : Int32) (aLn : Int32) (aAt : Int32) (aWe : Int32) (aRm : Int32) (aBm : Int32) (aHa : Int64) (aS : Nat → Int32) (aSv : Nat → Int32) (aCm : Nat → Int32) (aRd : Nat → Int32) (aBy : Nat → Int32) {aSm' : Int32} {aSv' : Nat → Int32} (h : f_X8_saves Z aSm aS aSv = some (aSm', aSv')) : CV l yX8_saves cX8_saves 2 none rm_X8_saves D cI cS cL [.ref h0] (wX8 cI h0 h1 h2 h3 h4 h5 aTh aSm aLn aAt aWe aRm aBm aHa aS aSv aCm aRd aBy) (wX8 cI h0 h1 h2 h3 h4 h5 aTh (aSm') aLn aAt aWe aRm aBm aHa aS (aSv') aCm aRd aBy) := by
  refine ent_v (by decide +kernel) (Nat.le_of_ble_eq_true rfl) ?_
  intro p e s m args below meth c A ls hx hb hr hml hlocks hg hown hK hP hD hS hA hl
  have hown : s.vm.findClass RX8 = some m.cls := hown
  have c_52 : ∀ (n : Nat) (x1 : Int32) (aSm : Int32) (aSv : Nat → Int32), f_X8_saves_l52 Z aS n x1 aSm aSv = some (aSm', aSv') → ∀ (H : Heap) (locs : List Loc), va_P D vwCl (wX8 cI h0 h1 h2 h3 h4 h5 aTh aSm aLn aAt aWe aRm aBm aHa aS aSv aCm aRd aBy) H → va_D A (wX8 cI h0 h1 h2 h3 h4 h5 aTh aSm aLn aAt aWe aRm aBm aHa aS aSv aCm aRd aBy) → va_S A s.heap H locs → ∀ ls : Array Slot, lv_has ls 2 [(0, .ref h0), (1, .int x1)] → W p l e rm_X8_saves s m args below meth c H locs 0 0 (FV D below args s (wX8 cI h0 h1 h2 h3 h4 h5 aTh (aSm') aLn aAt aWe aRm aBm aHa aS (aSv') aCm aRd aBy) A) (F0 m 52 ls []) := by
    intro n
    induction n with
    | zero => intro x1 aSm aSv h; exact no_some h
    | succ n ih =>
      intro x1 aSm aSv h H locs hP hD hS ls hl
      have h : f_X8_saves_b52 Z aS (f_X8_saves_l52 Z aS n) x1 aSm aSv = some (aSm', aSv') := h
      unfold f_X8_saves_b52 at h
      refine lv_iload_n hx hb dX8_saves_52 rfl (lv_at hl 1 rfl) ?_
      refine lv_sipush (v := 344) hx hb dX8_saves_53 (by decide) ?_
      refine lv_icmp_ge (tgt := 86) hx hb dX8_saves_56 (by decide) (fun q1 => ?_) (fun q1 => ?_)
      · replace h := it_some q1 h
        refine lv_aload_n hx hb dX8_saves_86 rfl (lv_at hl 0 rfl) ?_
        refine lv_dup hx hb dX8_saves_87 rfl ?_
        refine va_get (D := D) (ci := 8) (v := .int aSm) (C := RX8) (T := TX8) (N := 13) hx hb hg uX8 hown hK.1 hP 0 rfl rfl 3 (by decide) (hg _ gw_943) (fun _ h9 => h9) rfl dX8_saves_88 ?_
        refine lv_iconst (v := 1) hx hb dX8_saves_91 (by decide) ?_
        refine lv_iadd hx hb dX8_saves_92 ?_
        obtain ⟨aSm_2, eaSm_2, h⟩ := kl_some h
        refine nm_i eaSm_2 ?_
        refine va_put (D := D) (ci := 8) (v := .int aSm_2) (ty := tyX8 3) (C := RX8) (T := TX8) (N := 13) hx hb hg uX8 tyX8 tyX8_ok nmX8 hown hK.1 hP hD hS 0 rfl rfl 3 (by decide) (hg _ gw_943) (fun _ h9 => h9) rfl (tyX8_ok 3 (by decide)) rfl rfl (Nat.le_of_ble_eq_true rfl) dX8_saves_93 (fun H locs hP hD hS => ?_)
        have hP : va_P D vwCl (wX8 cI h0 h1 h2 h3 h4 h5 aTh aSm_2 aLn aAt aWe aRm aBm aHa aS aSv aCm aRd aBy) H := hP
        have hD : va_D A (wX8 cI h0 h1 h2 h3 h4 h5 aTh aSm_2 aLn aAt aWe aRm aBm aHa aS aSv aCm aRd aBy) := hD
        cases h
        exact ret_v hx hb hr hlocks hP hD hS dX8_saves_96
      · replace h := if_some q1 h
        refine lv_aload_n hx hb dX8_saves_59 rfl (lv_at hl 0 rfl) ?_
        refine va_get (D := D) (ci := 8) (v := .ref h2) (C := RX8) (T := TX8) (N := 13) hx hb hg uX8 hown hK.1 hP 0 rfl rfl 2 (by decide) (hg _ gw_942) (fun _ h9 => h9) rfl dX8_saves_60 ?_
        refine lv_sipush (v := 344) hx hb dX8_saves_63 (by decide) ?_
        refine lv_aload_n hx hb dX8_saves_66 rfl (lv_at hl 0 rfl) ?_
        refine va_get (D := D) (ci := 8) (v := .int aSm) (C := RX8) (T := TX8) (N := 13) hx hb hg uX8 hown hK.1 hP 0 rfl rfl 3 (by decide) (hg _ gw_943) (fun _ h9 => h9) rfl dX8_saves_67 ?_
        refine lv_imul hx hb dX8_saves_70 ?_
        refine lv_iload_n hx hb dX8_saves_71 rfl (lv_at hl 1 rfl) ?_
        refine lv_iadd hx hb dX8_saves_72 ?_
        refine lv_aload_n hx hb dX8_saves_73 rfl (lv_at hl 0 rfl) ?_
        refine va_get (D := D) (ci := 8) (v := .ref h1) (C := RX8) (T := TX8) (N := 13) hx hb hg uX8 hown hK.1 hP 0 rfl rfl 1 (by decide) (hg _ gw_941) (fun _ h9 => h9) rfl dX8_saves_74 ?_
        refine lv_iload_n hx hb dX8_saves_77 rfl (lv_at hl 1 rfl) ?_
        obtain ⟨v3, h⟩ := rd_some h
        refine va_iald hx hb hK.1 hP 1 0 rfl rfl v3 dX8_saves_78 ?_
        obtain ⟨v4, h⟩ := rd_some h
        obtain ⟨aSv_5, eaSv_5, h⟩ := kl_some h
        refine va_iast hx hb hK.1 hP hD hS 2 0 rfl rfl v4 dX8_saves_79 (fun H locs hP hD hS => ?_)
        have hP : va_P D vwCl (wX8 cI h0 h1 h2 h3 h4 h5 aTh aSm aLn aAt aWe aRm aBm aHa aS aSv_5 aCm aRd aBy) H := by rw [eaSv_5]; exact hP
        have hD : va_D A (wX8 cI h0 h1 h2 h3 h4 h5 aTh aSm aLn aAt aWe aRm aBm aHa aS aSv_5 aCm aRd aBy) := by rw [eaSv_5]; exact hD
        obtain ⟨x1_6, ex1_6, h⟩ := kl_some h
        refine lv_iinc (v := x1_6) (lv' := [(1, .int x1_6), (0, .ref h0)]) hx hb dX8_saves_80 hl (k := 1) rfl (by rw [ex1_6]; rfl) (by decide) rfl (fun ls hl => ?_)
        refine lv_goto (tgt := 52) hx hb dX8_saves_83 (by decide) ?_
        exact ih x1_6 aSm aSv_5 h H locs hP hD hS ls (lv_sub hl [1, 0] rfl)
  have c_11 : ∀ (n : Nat) (x1 : Int32) (aSm : Int32) (aSv : Nat → Int32), f_X8_saves_l11 Z aS n x1 aSm aSv = some (aSm', aSv') → ∀ (H : Heap) (locs : List Loc), va_P D vwCl (wX8 cI h0 h1 h2 h3 h4 h5 aTh aSm aLn aAt aWe aRm aBm aHa aS aSv aCm aRd aBy) H → va_D A (wX8 cI h0 h1 h2 h3 h4 h5 aTh aSm aLn aAt aWe aRm aBm aHa aS aSv aCm aRd aBy) → va_S A s.heap H locs → ∀ ls : Array Slot, lv_has ls 2 [(0, .ref h0), (1, .int x1)] → W p l e rm_X8_saves s m args below meth c H locs 0 0 (FV D below args s (wX8 cI h0 h1 h2 h3 h4 h5 aTh (aSm') aLn aAt aWe aRm aBm aHa aS (aSv') aCm aRd aBy) A) (F0 m 11 ls []) := by
    intro n
    induction n with
    | zero => intro x1 aSm aSv h; exact no_some h
    | succ n ih =>
      intro x1 aSm aSv h H locs hP hD hS ls hl
      have h : f_X8_saves_b11 Z aS (f_X8_saves_l11 Z aS n) x1 aSm aSv = some (aSm', aSv') := h
      unfold f_X8_saves_b11 at h
      refine lv_iload_n hx hb dX8_saves_11 rfl (lv_at hl 1 rfl) ?_
      refine lv_sipush (v := 1720) hx hb dX8_saves_12 (by decide) ?_
      refine lv_icmp_ge (tgt := 40) hx hb dX8_saves_15 (by decide) (fun q7 => ?_) (fun q7 => ?_)
      · replace h := it_some q7 h
        refine lv_aload_n hx hb dX8_saves_40 rfl (lv_at hl 0 rfl) ?_
        refine lv_dup hx hb dX8_saves_41 rfl ?_
        refine va_get (D := D) (ci := 8) (v := .int aSm) (C := RX8) (T := TX8) (N := 13) hx hb hg uX8 hown hK.1 hP 0 rfl rfl 3 (by decide) (hg _ gw_943) (fun _ h9 => h9) rfl dX8_saves_42 ?_
        refine lv_iconst (v := 1) hx hb dX8_saves_45 (by decide) ?_
        refine lv_isub hx hb dX8_saves_46 ?_
        obtain ⟨aSm_8, eaSm_8, h⟩ := kl_some h
        refine nm_i eaSm_8 ?_
        refine va_put (D := D) (ci := 8) (v := .int aSm_8) (ty := tyX8 3) (C := RX8) (T := TX8) (N := 13) hx hb hg uX8 tyX8 tyX8_ok nmX8 hown hK.1 hP hD hS 0 rfl rfl 3 (by decide) (hg _ gw_943) (fun _ h9 => h9) rfl (tyX8_ok 3 (by decide)) rfl rfl (Nat.le_of_ble_eq_true rfl) dX8_saves_47 (fun H locs hP hD hS => ?_)
        have hP : va_P D vwCl (wX8 cI h0 h1 h2 h3 h4 h5 aTh aSm_8 aLn aAt aWe aRm aBm aHa aS aSv aCm aRd aBy) H := hP
        have hD : va_D A (wX8 cI h0 h1 h2 h3 h4 h5 aTh aSm_8 aLn aAt aWe aRm aBm aHa aS aSv aCm aRd aBy) := hD
        refine lv_iconst (v := 0) hx hb dX8_saves_50 (by decide) ?_
        refine lv_istore_n (lv' := [(1, .int 0), (0, .ref h0)]) hx hb dX8_saves_51 rfl hl (by decide) rfl (fun ls hl => ?_)
        exact c_52 Z 0 aSm_8 aSv h H locs hP hD hS ls (lv_sub hl [1, 0] rfl)
      · replace h := if_some q7 h
        refine lv_aload_n hx hb dX8_saves_18 rfl (lv_at hl 0 rfl) ?_
        refine va_get (D := D) (ci := 8) (v := .ref h2) (C := RX8) (T := TX8) (N := 13) hx hb hg uX8 hown hK.1 hP 0 rfl rfl 2 (by decide) (hg _ gw_942) (fun _ h9 => h9) rfl dX8_saves_19 ?_
        refine lv_iload_n hx hb dX8_saves_22 rfl (lv_at hl 1 rfl) ?_
        refine lv_aload_n hx hb dX8_saves_23 rfl (lv_at hl 0 rfl) ?_
        refine va_get (D := D) (ci := 8) (v := .ref h2) (C := RX8) (T := TX8) (N := 13) hx hb hg uX8 hown hK.1 hP 0 rfl rfl 2 (by decide) (hg _ gw_942) (fun _ h9 => h9) rfl dX8_saves_24 ?_
        refine lv_iload_n hx hb dX8_saves_27 rfl (lv_at hl 1 rfl) ?_
        refine lv_sipush (v := 344) hx hb dX8_saves_28 (by decide) ?_
        refine lv_iadd hx hb dX8_saves_31 ?_
        obtain ⟨v9, h⟩ := rd_some h
        refine va_iald hx hb hK.1 hP 2 0 rfl rfl v9 dX8_saves_32 ?_
        obtain ⟨v10, h⟩ := rd_some h
        obtain ⟨aSv_11, eaSv_11, h⟩ := kl_some h
        refine va_iast hx hb hK.1 hP hD hS 2 0 rfl rfl v10 dX8_saves_33 (fun H locs hP hD hS => ?_)
        have hP : va_P D vwCl (wX8 cI h0 h1 h2 h3 h4 h5 aTh aSm aLn aAt aWe aRm aBm aHa aS aSv_11 aCm aRd aBy) H := by rw [eaSv_11]; exact hP
        have hD : va_D A (wX8 cI h0 h1 h2 h3 h4 h5 aTh aSm aLn aAt aWe aRm aBm aHa aS aSv_11 aCm aRd aBy) := by rw [eaSv_11]; exact hD
        obtain ⟨x1_12, ex1_12, h⟩ := kl_some h
        refine lv_iinc (v := x1_12) (lv' := [(1, .int x1_12), (0, .ref h0)]) hx hb dX8_saves_34 hl (k := 1) rfl (by rw [ex1_12]; rfl) (by decide) rfl (fun ls hl => ?_)
        refine lv_goto (tgt := 11) hx hb dX8_saves_37 (by decide) ?_
        exact ih x1_12 aSm aSv_11 h H locs hP hD hS ls (lv_sub hl [1, 0] rfl)
  have hl : lv_has ls 2 [(0, .ref h0)] := hl
  have hP : va_P D vwCl (wX8 cI h0 h1 h2 h3 h4 h5 aTh aSm aLn aAt aWe aRm aBm aHa aS aSv aCm aRd aBy) s.heap := hP
  have hD : va_D A (wX8 cI h0 h1 h2 h3 h4 h5 aTh aSm aLn aAt aWe aRm aBm aHa aS aSv aCm aRd aBy) := hD
  show W p l e rm_X8_saves s m args below meth c s.heap [] 0 0 (FV D below args s (wX8 cI h0 h1 h2 h3 h4 h5 aTh (aSm') aLn aAt aWe aRm aBm aHa aS (aSv') aCm aRd aBy) A) (F0 m 0 ls [])
  unfold f_X8_saves at h
  have hmain : ∀ (H : Heap) (locs : List Loc), va_P D vwCl (wX8 cI h0 h1 h2 h3 h4 h5 aTh aSm aLn aAt aWe aRm aBm aHa aS aSv aCm aRd aBy) H → va_S A s.heap H locs → W p l e rm_X8_saves s m args below meth c H locs 0 0 (FV D below args s (wX8 cI h0 h1 h2 h3 h4 h5 aTh (aSm') aLn aAt aWe aRm aBm aHa aS (aSv') aCm aRd aBy) A) (F0 m 0 ls []) := by
    intro H locs hP hS
    refine lv_aload_n hx hb dX8_saves_0 rfl (lv_at hl 0 rfl) ?_
    refine va_get (D := D) (ci := 8) (v := .int aSm) (C := RX8) (T := TX8) (N := 13) hx hb hg uX8 hown hK.1 hP 0 rfl rfl 3 (by decide) (hg _ gw_943) (fun _ h9 => h9) rfl dX8_saves_1 ?_
    refine lv_bipush (v := 6) hx hb dX8_saves_4 (by decide) ?_
    refine lv_icmp_ne (tgt := 50) hx hb dX8_saves_6 (by decide) (fun q13 => ?_) (fun q13 => ?_)
    · replace h := if_some q13 h
      refine lv_iconst (v := 0) hx hb dX8_saves_50 (by decide) ?_
      refine lv_istore_n (lv' := [(1, .int 0), (0, .ref h0)]) hx hb dX8_saves_51 rfl hl (by decide) rfl (fun ls hl => ?_)
      exact c_52 Z 0 aSm aSv h H locs hP hD hS ls (lv_sub hl [1, 0] rfl)
    · replace h := it_some q13 h
      refine lv_iconst (v := 0) hx hb dX8_saves_9 (by decide) ?_
      refine lv_istore_n (lv' := [(1, .int 0), (0, .ref h0)]) hx hb dX8_saves_10 rfl hl (by decide) rfl (fun ls hl => ?_)
      exact c_11 Z 0 aSm aSv h H locs hP hD hS ls (lv_sub hl [1, 0] rfl)
  exact hmain _ _ hP hS
abbrev rm_X8_startOf : Room := { frames := 0, cells := 0, slots := 0, locals := 0 }
def f_X8_startOf_b2 (Z : Nat) (p1 : Int32) (aS : Nat → Int32) (rec : Int32 → Option (Int32)) (x2 : Int32) : Option (Int32) :=
      if x2 ≤ 0 then
        some x2
      else
        rd ((80 + x2) - 1) 344 (
        if (aS (Int32.toNatClampNeg ((80 + x2) - 1))) = 10 then
          some x2
        else
          kl (x2 + (-1)) fun x2_4 =>
          rec x2_4)
def f_X8_startOf_l2 (Z : Nat) (p1 : Int32) (aS : Nat → Int32) : Nat → Int32 → Option (Int32)
  | 0, _ => none
  | n + 1, x2 => f_X8_startOf_b2 Z p1 aS (f_X8_startOf_l2 Z p1 aS n) x2
def f_X8_startOf (Z : Nat) (p1 : Int32) (aS : Nat → Int32) : Option (Int32) :=
  f_X8_startOf_l2 Z p1 aS Z p1
set_option maxRecDepth 100000 in
set_option maxHeartbeats 4000000 in
theorem k_X8_startOf (l : Launch) (D : va_G) (cI cS cL : ClassId) (Z : Nat) (h0 : Nat) (h1 : Nat) (h2 : Nat) (h3 : Nat) (h4 : Nat) (h5 : Nat) (p1 : Int32) (aTh : Int32) (aSm : Int32) (aLn : Int32) (aAt : Int32) (aWe : Int32) (aRm : Int32) (aBm : Int32) (aHa : Int64) (aS : Nat → Int32) (aSv : Nat → Int32) (aCm : Nat → Int32) (aRd : Nat → Int32) (aBy : Nat → Int32) {r : Int32} (h : f_X8_startOf Z p1 aS = some r) : CI l yX8_startOf cX8_startOf 3 (some .int) rm_X8_startOf D cI cS cL [.ref h0, .int p1] (wX8 cI h0 h1 h2 h3 h4 h5 aTh aSm aLn aAt aWe aRm aBm aHa aS aSv aCm aRd aBy) (wX8 cI h0 h1 h2 h3 h4 h5 aTh aSm aLn aAt aWe aRm aBm aHa aS aSv aCm aRd aBy) r := by
  refine ent_i (by decide +kernel) (Nat.le_of_ble_eq_true rfl) ?_
  intro p e s m args below meth c A ls hx hb hr hml hlocks hg hown hK hP hD hS hA hl
  have hown : s.vm.findClass RX8 = some m.cls := hown
  have c_2 : ∀ (n : Nat) (x2 : Int32), f_X8_startOf_l2 Z p1 aS n x2 = some r → ∀ (H : Heap) (locs : List Loc), va_P D vwCl (wX8 cI h0 h1 h2 h3 h4 h5 aTh aSm aLn aAt aWe aRm aBm aHa aS aSv aCm aRd aBy) H → va_D A (wX8 cI h0 h1 h2 h3 h4 h5 aTh aSm aLn aAt aWe aRm aBm aHa aS aSv aCm aRd aBy) → va_S A s.heap H locs → ∀ ls : Array Slot, lv_has ls 3 [(0, .ref h0), (2, .int x2)] → W p l e rm_X8_startOf s m args below meth c H locs 0 0 (FI D below args s (wX8 cI h0 h1 h2 h3 h4 h5 aTh aSm aLn aAt aWe aRm aBm aHa aS aSv aCm aRd aBy) r A) (F0 m 2 ls []) := by
    intro n
    induction n with
    | zero => intro x2 h; exact no_some h
    | succ n ih =>
      intro x2 h H locs hP hD hS ls hl
      have h : f_X8_startOf_b2 Z p1 aS (f_X8_startOf_l2 Z p1 aS n) x2 = some r := h
      unfold f_X8_startOf_b2 at h
      refine lv_iload_n hx hb dX8_startOf_2 rfl (lv_at hl 1 rfl) ?_
      refine lv_if_le (tgt := 28) hx hb dX8_startOf_3 (by decide) (fun q1 => ?_) (fun q1 => ?_)
      · replace h := it_some q1 h
        refine lv_iload_n hx hb dX8_startOf_28 rfl (lv_at hl 1 rfl) ?_
        cases h
        exact ret_i hx hb hr hlocks hP hD hS dX8_startOf_29 rfl
      · replace h := if_some q1 h
        refine lv_aload_n hx hb dX8_startOf_6 rfl (lv_at hl 0 rfl) ?_
        refine va_get (D := D) (ci := 8) (v := .ref h1) (C := RX8) (T := TX8) (N := 13) hx hb hg uX8 hown hK.1 hP 0 rfl rfl 1 (by decide) (hg _ gw_941) (fun _ h9 => h9) rfl dX8_startOf_7 ?_
        refine lv_bipush (v := 80) hx hb dX8_startOf_10 (by decide) ?_
        refine lv_iload_n hx hb dX8_startOf_12 rfl (lv_at hl 1 rfl) ?_
        refine lv_iadd hx hb dX8_startOf_13 ?_
        refine lv_iconst (v := 1) hx hb dX8_startOf_14 (by decide) ?_
        refine lv_isub hx hb dX8_startOf_15 ?_
        obtain ⟨v2, h⟩ := rd_some h
        refine va_iald hx hb hK.1 hP 1 0 rfl rfl v2 dX8_startOf_16 ?_
        refine lv_bipush (v := 10) hx hb dX8_startOf_17 (by decide) ?_
        refine lv_icmp_eq (tgt := 28) hx hb dX8_startOf_19 (by decide) (fun q3 => ?_) (fun q3 => ?_)
        · replace h := it_some q3 h
          refine lv_iload_n hx hb dX8_startOf_28 rfl (lv_at hl 1 rfl) ?_
          cases h
          exact ret_i hx hb hr hlocks hP hD hS dX8_startOf_29 rfl
        · replace h := if_some q3 h
          obtain ⟨x2_4, ex2_4, h⟩ := kl_some h
          refine lv_iinc (v := x2_4) (lv' := [(2, .int x2_4), (0, .ref h0)]) hx hb dX8_startOf_22 hl (k := 1) rfl (by rw [ex2_4]; rfl) (by decide) rfl (fun ls hl => ?_)
          refine lv_goto (tgt := 2) hx hb dX8_startOf_25 (by decide) ?_
          exact ih x2_4 h H locs hP hD hS ls (lv_sub hl [1, 0] rfl)
  have hl : lv_has ls 3 [(0, .ref h0), (1, .int p1)] := hl
  have hP : va_P D vwCl (wX8 cI h0 h1 h2 h3 h4 h5 aTh aSm aLn aAt aWe aRm aBm aHa aS aSv aCm aRd aBy) s.heap := hP
  have hD : va_D A (wX8 cI h0 h1 h2 h3 h4 h5 aTh aSm aLn aAt aWe aRm aBm aHa aS aSv aCm aRd aBy) := hD
  show W p l e rm_X8_startOf s m args below meth c s.heap [] 0 0 (FI D below args s (wX8 cI h0 h1 h2 h3 h4 h5 aTh aSm aLn aAt aWe aRm aBm aHa aS aSv aCm aRd aBy) r A) (F0 m 0 ls [])
  unfold f_X8_startOf at h
  have hmain : ∀ (H : Heap) (locs : List Loc), va_P D vwCl (wX8 cI h0 h1 h2 h3 h4 h5 aTh aSm aLn aAt aWe aRm aBm aHa aS aSv aCm aRd aBy) H → va_S A s.heap H locs → W p l e rm_X8_startOf s m args below meth c H locs 0 0 (FI D below args s (wX8 cI h0 h1 h2 h3 h4 h5 aTh aSm aLn aAt aWe aRm aBm aHa aS aSv aCm aRd aBy) r A) (F0 m 0 ls []) := by
    intro H locs hP hS
    refine lv_iload_n hx hb dX8_startOf_0 rfl (lv_at hl 1 rfl) ?_
    refine lv_istore_n (lv' := [(2, .int p1), (0, .ref h0), (1, .int p1)]) hx hb dX8_startOf_1 rfl hl (by decide) rfl (fun ls hl => ?_)
    exact c_2 Z p1 h H locs hP hD hS ls (lv_sub hl [1, 0] rfl)
  exact hmain _ _ hP hS
abbrev rm_X8_endOf : Room := { frames := 0, cells := 0, slots := 0, locals := 0 }
def f_X8_endOf_b2 (Z : Nat) (p1 : Int32) (aS : Nat → Int32) (rec : Int32 → Option (Int32)) (x2 : Int32) : Option (Int32) :=
      rd 0 344 (
      if (aS (Int32.toNatClampNeg 0)) ≤ x2 then
        some x2
      else
        rd (80 + x2) 344 (
        if (aS (Int32.toNatClampNeg (80 + x2))) = 10 then
          some x2
        else
          kl (x2 + 1) fun x2_5 =>
          rec x2_5))
def f_X8_endOf_l2 (Z : Nat) (p1 : Int32) (aS : Nat → Int32) : Nat → Int32 → Option (Int32)
  | 0, _ => none
  | n + 1, x2 => f_X8_endOf_b2 Z p1 aS (f_X8_endOf_l2 Z p1 aS n) x2
def f_X8_endOf (Z : Nat) (p1 : Int32) (aS : Nat → Int32) : Option (Int32) :=
  f_X8_endOf_l2 Z p1 aS Z p1
set_option maxRecDepth 100000 in
set_option maxHeartbeats 4000000 in
theorem k_X8_endOf (l : Launch) (D : va_G) (cI cS cL : ClassId) (Z : Nat) (h0 : Nat) (h1 : Nat) (h2 : Nat) (h3 : Nat) (h4 : Nat) (h5 : Nat) (p1 : Int32) (aTh : Int32) (aSm : Int32) (aLn : Int32) (aAt : Int32) (aWe : Int32) (aRm : Int32) (aBm : Int32) (aHa : Int64) (aS : Nat → Int32) (aSv : Nat → Int32) (aCm : Nat → Int32) (aRd : Nat → Int32) (aBy : Nat → Int32) {r : Int32} (h : f_X8_endOf Z p1 aS = some r) : CI l yX8_endOf cX8_endOf 3 (some .int) rm_X8_endOf D cI cS cL [.ref h0, .int p1] (wX8 cI h0 h1 h2 h3 h4 h5 aTh aSm aLn aAt aWe aRm aBm aHa aS aSv aCm aRd aBy) (wX8 cI h0 h1 h2 h3 h4 h5 aTh aSm aLn aAt aWe aRm aBm aHa aS aSv aCm aRd aBy) r := by
  refine ent_i (by decide +kernel) (Nat.le_of_ble_eq_true rfl) ?_
  intro p e s m args below meth c A ls hx hb hr hml hlocks hg hown hK hP hD hS hA hl
  have hown : s.vm.findClass RX8 = some m.cls := hown
  have c_2 : ∀ (n : Nat) (x2 : Int32), f_X8_endOf_l2 Z p1 aS n x2 = some r → ∀ (H : Heap) (locs : List Loc), va_P D vwCl (wX8 cI h0 h1 h2 h3 h4 h5 aTh aSm aLn aAt aWe aRm aBm aHa aS aSv aCm aRd aBy) H → va_D A (wX8 cI h0 h1 h2 h3 h4 h5 aTh aSm aLn aAt aWe aRm aBm aHa aS aSv aCm aRd aBy) → va_S A s.heap H locs → ∀ ls : Array Slot, lv_has ls 3 [(0, .ref h0), (2, .int x2)] → W p l e rm_X8_endOf s m args below meth c H locs 0 0 (FI D below args s (wX8 cI h0 h1 h2 h3 h4 h5 aTh aSm aLn aAt aWe aRm aBm aHa aS aSv aCm aRd aBy) r A) (F0 m 2 ls []) := by
    intro n
    induction n with
    | zero => intro x2 h; exact no_some h
    | succ n ih =>
      intro x2 h H locs hP hD hS ls hl
      have h : f_X8_endOf_b2 Z p1 aS (f_X8_endOf_l2 Z p1 aS n) x2 = some r := h
      unfold f_X8_endOf_b2 at h
      refine lv_iload_n hx hb dX8_endOf_2 rfl (lv_at hl 1 rfl) ?_
      refine lv_aload_n hx hb dX8_endOf_3 rfl (lv_at hl 0 rfl) ?_
      refine va_get (D := D) (ci := 8) (v := .ref h1) (C := RX8) (T := TX8) (N := 13) hx hb hg uX8 hown hK.1 hP 0 rfl rfl 1 (by decide) (hg _ gw_941) (fun _ h9 => h9) rfl dX8_endOf_4 ?_
      refine lv_iconst (v := 0) hx hb dX8_endOf_7 (by decide) ?_
      obtain ⟨v1, h⟩ := rd_some h
      refine va_iald hx hb hK.1 hP 1 0 rfl rfl v1 dX8_endOf_8 ?_
      refine lv_icmp_ge (tgt := 32) hx hb dX8_endOf_9 (by decide) (fun q2 => ?_) (fun q2 => ?_)
      · replace h := it_some q2 h
        refine lv_iload_n hx hb dX8_endOf_32 rfl (lv_at hl 1 rfl) ?_
        cases h
        exact ret_i hx hb hr hlocks hP hD hS dX8_endOf_33 rfl
      · replace h := if_some q2 h
        refine lv_aload_n hx hb dX8_endOf_12 rfl (lv_at hl 0 rfl) ?_
        refine va_get (D := D) (ci := 8) (v := .ref h1) (C := RX8) (T := TX8) (N := 13) hx hb hg uX8 hown hK.1 hP 0 rfl rfl 1 (by decide) (hg _ gw_941) (fun _ h9 => h9) rfl dX8_endOf_13 ?_
        refine lv_bipush (v := 80) hx hb dX8_endOf_16 (by decide) ?_
        refine lv_iload_n hx hb dX8_endOf_18 rfl (lv_at hl 1 rfl) ?_
        refine lv_iadd hx hb dX8_endOf_19 ?_
        obtain ⟨v3, h⟩ := rd_some h
        refine va_iald hx hb hK.1 hP 1 0 rfl rfl v3 dX8_endOf_20 ?_
        refine lv_bipush (v := 10) hx hb dX8_endOf_21 (by decide) ?_
        refine lv_icmp_eq (tgt := 32) hx hb dX8_endOf_23 (by decide) (fun q4 => ?_) (fun q4 => ?_)
        · replace h := it_some q4 h
          refine lv_iload_n hx hb dX8_endOf_32 rfl (lv_at hl 1 rfl) ?_
          cases h
          exact ret_i hx hb hr hlocks hP hD hS dX8_endOf_33 rfl
        · replace h := if_some q4 h
          obtain ⟨x2_5, ex2_5, h⟩ := kl_some h
          refine lv_iinc (v := x2_5) (lv' := [(2, .int x2_5), (0, .ref h0)]) hx hb dX8_endOf_26 hl (k := 1) rfl (by rw [ex2_5]; rfl) (by decide) rfl (fun ls hl => ?_)
          refine lv_goto (tgt := 2) hx hb dX8_endOf_29 (by decide) ?_
          exact ih x2_5 h H locs hP hD hS ls (lv_sub hl [1, 0] rfl)
  have hl : lv_has ls 3 [(0, .ref h0), (1, .int p1)] := hl
  have hP : va_P D vwCl (wX8 cI h0 h1 h2 h3 h4 h5 aTh aSm aLn aAt aWe aRm aBm aHa aS aSv aCm aRd aBy) s.heap := hP
  have hD : va_D A (wX8 cI h0 h1 h2 h3 h4 h5 aTh aSm aLn aAt aWe aRm aBm aHa aS aSv aCm aRd aBy) := hD
  show W p l e rm_X8_endOf s m args below meth c s.heap [] 0 0 (FI D below args s (wX8 cI h0 h1 h2 h3 h4 h5 aTh aSm aLn aAt aWe aRm aBm aHa aS aSv aCm aRd aBy) r A) (F0 m 0 ls [])
  unfold f_X8_endOf at h
  have hmain : ∀ (H : Heap) (locs : List Loc), va_P D vwCl (wX8 cI h0 h1 h2 h3 h4 h5 aTh aSm aLn aAt aWe aRm aBm aHa aS aSv aCm aRd aBy) H → va_S A s.heap H locs → W p l e rm_X8_endOf s m args below meth c H locs 0 0 (FI D below args s (wX8 cI h0 h1 h2 h3 h4 h5 aTh aSm aLn aAt aWe aRm aBm aHa aS aSv aCm aRd aBy) r A) (F0 m 0 ls []) := by
    intro H locs hP hS
    refine lv_iload_n hx hb dX8_endOf_0 rfl (lv_at hl 1 rfl) ?_
    refine lv_istore_n (lv' := [(2, .int p1), (0, .ref h0), (1, .int p1)]) hx hb dX8_endOf_1 rfl hl (by decide) rfl (fun ls hl => ?_)
    exact c_2 Z p1 h H locs hP hD hS ls (lv_sub hl [1, 0] rfl)
  exact hmain _ _ hP hS
abbrev rm_X8_column : Room := { frames := 1, cells := 0, slots := 0, locals := 22 }
def f_X8_column (Z : Nat) (p1 : Int32) (aS : Nat → Int32) : Option (Int32) :=
  (f_X8_startOf Z p1 aS).bind fun r1 =>
  some (p1 - r1)
set_option maxRecDepth 100000 in
set_option maxHeartbeats 4000000 in
theorem k_X8_column (l : Launch) (D : va_G) (cI cS cL : ClassId) (Z : Nat) (h0 : Nat) (h1 : Nat) (h2 : Nat) (h3 : Nat) (h4 : Nat) (h5 : Nat) (p1 : Int32) (aTh : Int32) (aSm : Int32) (aLn : Int32) (aAt : Int32) (aWe : Int32) (aRm : Int32) (aBm : Int32) (aHa : Int64) (aS : Nat → Int32) (aSv : Nat → Int32) (aCm : Nat → Int32) (aRd : Nat → Int32) (aBy : Nat → Int32) {r : Int32} (h : f_X8_column Z p1 aS = some r) : CI l yX8_column cX8_column 2 (some .int) rm_X8_column D cI cS cL [.ref h0, .int p1] (wX8 cI h0 h1 h2 h3 h4 h5 aTh aSm aLn aAt aWe aRm aBm aHa aS aSv aCm aRd aBy) (wX8 cI h0 h1 h2 h3 h4 h5 aTh aSm aLn aAt aWe aRm aBm aHa aS aSv aCm aRd aBy) r := by
  refine ent_i (by decide +kernel) (Nat.le_of_ble_eq_true rfl) ?_
  intro p e s m args below meth c A ls hx hb hr hml hlocks hg hown hK hP hD hS hA hl
  have hown : s.vm.findClass RX8 = some m.cls := hown
  have hl : lv_has ls 2 [(0, .ref h0), (1, .int p1)] := hl
  have hP : va_P D vwCl (wX8 cI h0 h1 h2 h3 h4 h5 aTh aSm aLn aAt aWe aRm aBm aHa aS aSv aCm aRd aBy) s.heap := hP
  have hD : va_D A (wX8 cI h0 h1 h2 h3 h4 h5 aTh aSm aLn aAt aWe aRm aBm aHa aS aSv aCm aRd aBy) := hD
  show W p l e rm_X8_column s m args below meth c s.heap [] 0 0 (FI D below args s (wX8 cI h0 h1 h2 h3 h4 h5 aTh aSm aLn aAt aWe aRm aBm aHa aS aSv aCm aRd aBy) r A) (F0 m 0 ls [])
  unfold f_X8_column at h
  have hmain : ∀ (H : Heap) (locs : List Loc), va_P D vwCl (wX8 cI h0 h1 h2 h3 h4 h5 aTh aSm aLn aAt aWe aRm aBm aHa aS aSv aCm aRd aBy) H → va_S A s.heap H locs → W p l e rm_X8_column s m args below meth c H locs 0 0 (FI D below args s (wX8 cI h0 h1 h2 h3 h4 h5 aTh aSm aLn aAt aWe aRm aBm aHa aS aSv aCm aRd aBy) r A) (F0 m 0 ls []) := by
    intro H locs hP hS
    refine lv_iload_n hx hb dX8_column_0 rfl (lv_at hl 1 rfl) ?_
    refine lv_aload_n hx hb dX8_column_1 rfl (lv_at hl 0 rfl) ?_
    refine lv_iload_n hx hb dX8_column_2 rfl (lv_at hl 1 rfl) ?_
    obtain ⟨r1, ec1, h⟩ := bd_some h
    refine cV_i (As := [.int p1]) (rest := [.int p1]) (wc := (wX8 cI h0 h1 h2 h3 h4 h5 aTh aSm aLn aAt aWe aRm aBm aHa aS aSv aCm aRd aBy)) (wc' := (wX8 cI h0 h1 h2 h3 h4 h5 aTh aSm aLn aAt aWe aRm aBm aHa aS aSv aCm aRd aBy)) hx hb hml hown hg hK hP hD hS hA hl.1 (k_X8_startOf l D cI cS cL Z h0 h1 h2 h3 h4 h5 p1 aTh aSm aLn aAt aWe aRm aBm aHa aS aSv aCm aRd aBy ec1) gm_X8_startOf gw_1033 ⟨rfl, rfl, by decide, by decide⟩ ⟨Nat.zero_le _, Nat.zero_le _⟩ [0, 1, 2, 3, 4, 5] rfl rfl rfl rfl rfl rfl rfl rfl (Nat.le_of_ble_eq_true rfl) dX8_column_3 (fun H locs hP hD hS => ?_)
    have hP : va_P D vwCl (wX8 cI h0 h1 h2 h3 h4 h5 aTh aSm aLn aAt aWe aRm aBm aHa aS aSv aCm aRd aBy) H := hP
    have hD : va_D A (wX8 cI h0 h1 h2 h3 h4 h5 aTh aSm aLn aAt aWe aRm aBm aHa aS aSv aCm aRd aBy) := hD
    refine lv_isub hx hb dX8_column_6 ?_
    cases h
    exact ret_i hx hb hr hlocks hP hD hS dX8_column_7 rfl
  exact hmain _ _ hP hS
abbrev rm_X8_lineAt : Room := { frames := 0, cells := 0, slots := 0, locals := 0 }
def f_X8_lineAt_b4 (Z : Nat) (p1 : Int32) (aS : Nat → Int32) (rec : Int32 → Int32 → Option (Int32)) (x2 : Int32) (x3 : Int32) : Option (Int32) :=
      if p1 ≤ x3 then
        some x2
      else
        rd (80 + x3) 344 (
        if (aS (Int32.toNatClampNeg (80 + x3))) = 10 then
          kl (x2 + 1) fun x2_6 =>
          kl (x3 + 1) fun x3_7 =>
          rec x2_6 x3_7
        else
          kl (x2 + 0) fun x2_4 =>
          kl (x3 + 1) fun x3_5 =>
          rec x2_4 x3_5)
def f_X8_lineAt_l4 (Z : Nat) (p1 : Int32) (aS : Nat → Int32) : Nat → Int32 → Int32 → Option (Int32)
  | 0, _, _ => none
  | n + 1, x2, x3 => f_X8_lineAt_b4 Z p1 aS (f_X8_lineAt_l4 Z p1 aS n) x2 x3
def f_X8_lineAt (Z : Nat) (p1 : Int32) (aS : Nat → Int32) : Option (Int32) :=
  f_X8_lineAt_l4 Z p1 aS Z 0 0
set_option maxRecDepth 100000 in
set_option maxHeartbeats 4000000 in
theorem k_X8_lineAt (l : Launch) (D : va_G) (cI cS cL : ClassId) (Z : Nat) (h0 : Nat) (h1 : Nat) (h2 : Nat) (h3 : Nat) (h4 : Nat) (h5 : Nat) (p1 : Int32) (aTh : Int32) (aSm : Int32) (aLn : Int32) (aAt : Int32) (aWe : Int32) (aRm : Int32) (aBm : Int32) (aHa : Int64) (aS : Nat → Int32) (aSv : Nat → Int32) (aCm : Nat → Int32) (aRd : Nat → Int32) (aBy : Nat → Int32) {r : Int32} (h : f_X8_lineAt Z p1 aS = some r) : CI l yX8_lineAt cX8_lineAt 4 (some .int) rm_X8_lineAt D cI cS cL [.ref h0, .int p1] (wX8 cI h0 h1 h2 h3 h4 h5 aTh aSm aLn aAt aWe aRm aBm aHa aS aSv aCm aRd aBy) (wX8 cI h0 h1 h2 h3 h4 h5 aTh aSm aLn aAt aWe aRm aBm aHa aS aSv aCm aRd aBy) r := by
  refine ent_i (by decide +kernel) (Nat.le_of_ble_eq_true rfl) ?_
  intro p e s m args below meth c A ls hx hb hr hml hlocks hg hown hK hP hD hS hA hl
  have hown : s.vm.findClass RX8 = some m.cls := hown
  have c_4 : ∀ (n : Nat) (x2 : Int32) (x3 : Int32), f_X8_lineAt_l4 Z p1 aS n x2 x3 = some r → ∀ (H : Heap) (locs : List Loc), va_P D vwCl (wX8 cI h0 h1 h2 h3 h4 h5 aTh aSm aLn aAt aWe aRm aBm aHa aS aSv aCm aRd aBy) H → va_D A (wX8 cI h0 h1 h2 h3 h4 h5 aTh aSm aLn aAt aWe aRm aBm aHa aS aSv aCm aRd aBy) → va_S A s.heap H locs → ∀ ls : Array Slot, lv_has ls 4 [(0, .ref h0), (1, .int p1), (2, .int x2), (3, .int x3)] → W p l e rm_X8_lineAt s m args below meth c H locs 0 0 (FI D below args s (wX8 cI h0 h1 h2 h3 h4 h5 aTh aSm aLn aAt aWe aRm aBm aHa aS aSv aCm aRd aBy) r A) (F0 m 4 ls []) := by
    intro n
    induction n with
    | zero => intro x2 x3 h; exact no_some h
    | succ n ih =>
      intro x2 x3 h H locs hP hD hS ls hl
      have h : f_X8_lineAt_b4 Z p1 aS (f_X8_lineAt_l4 Z p1 aS n) x2 x3 = some r := h
      unfold f_X8_lineAt_b4 at h
      refine lv_iload_n hx hb dX8_lineAt_4 rfl (lv_at hl 3 rfl) ?_
      refine lv_iload_n hx hb dX8_lineAt_5 rfl (lv_at hl 1 rfl) ?_
      refine lv_icmp_ge (tgt := 37) hx hb dX8_lineAt_6 (by decide) (fun q1 => ?_) (fun q1 => ?_)
      · replace h := it_some q1 h
        refine lv_iload_n hx hb dX8_lineAt_37 rfl (lv_at hl 2 rfl) ?_
        cases h
        exact ret_i hx hb hr hlocks hP hD hS dX8_lineAt_38 rfl
      · replace h := if_some q1 h
        refine lv_iload_n hx hb dX8_lineAt_9 rfl (lv_at hl 2 rfl) ?_
        refine lv_aload_n hx hb dX8_lineAt_10 rfl (lv_at hl 0 rfl) ?_
        refine va_get (D := D) (ci := 8) (v := .ref h1) (C := RX8) (T := TX8) (N := 13) hx hb hg uX8 hown hK.1 hP 0 rfl rfl 1 (by decide) (hg _ gw_941) (fun _ h9 => h9) rfl dX8_lineAt_11 ?_
        refine lv_bipush (v := 80) hx hb dX8_lineAt_14 (by decide) ?_
        refine lv_iload_n hx hb dX8_lineAt_16 rfl (lv_at hl 3 rfl) ?_
        refine lv_iadd hx hb dX8_lineAt_17 ?_
        obtain ⟨v2, h⟩ := rd_some h
        refine va_iald hx hb hK.1 hP 1 0 rfl rfl v2 dX8_lineAt_18 ?_
        refine lv_bipush (v := 10) hx hb dX8_lineAt_19 (by decide) ?_
        refine lv_icmp_ne (tgt := 28) hx hb dX8_lineAt_21 (by decide) (fun q3 => ?_) (fun q3 => ?_)
        · replace h := if_some q3 h
          refine lv_iconst (v := 0) hx hb dX8_lineAt_28 (by decide) ?_
          refine lv_iadd hx hb dX8_lineAt_29 ?_
          obtain ⟨x2_4, ex2_4, h⟩ := kl_some h
          refine nm_i ex2_4 ?_
          refine lv_istore_n (lv' := [(2, .int x2_4), (0, .ref h0), (1, .int p1), (3, .int x3)]) hx hb dX8_lineAt_30 rfl hl (by decide) rfl (fun ls hl => ?_)
          obtain ⟨x3_5, ex3_5, h⟩ := kl_some h
          refine lv_iinc (v := x3_5) (lv' := [(3, .int x3_5), (2, .int x2_4), (0, .ref h0), (1, .int p1)]) hx hb dX8_lineAt_31 hl (k := 3) rfl (by rw [ex3_5]; rfl) (by decide) rfl (fun ls hl => ?_)
          refine lv_goto (tgt := 4) hx hb dX8_lineAt_34 (by decide) ?_
          exact ih x2_4 x3_5 h H locs hP hD hS ls (lv_sub hl [2, 3, 1, 0] rfl)
        · replace h := it_some q3 h
          refine lv_iconst (v := 1) hx hb dX8_lineAt_24 (by decide) ?_
          refine lv_goto (tgt := 29) hx hb dX8_lineAt_25 (by decide) ?_
          refine lv_iadd hx hb dX8_lineAt_29 ?_
          obtain ⟨x2_6, ex2_6, h⟩ := kl_some h
          refine nm_i ex2_6 ?_
          refine lv_istore_n (lv' := [(2, .int x2_6), (0, .ref h0), (1, .int p1), (3, .int x3)]) hx hb dX8_lineAt_30 rfl hl (by decide) rfl (fun ls hl => ?_)
          obtain ⟨x3_7, ex3_7, h⟩ := kl_some h
          refine lv_iinc (v := x3_7) (lv' := [(3, .int x3_7), (2, .int x2_6), (0, .ref h0), (1, .int p1)]) hx hb dX8_lineAt_31 hl (k := 3) rfl (by rw [ex3_7]; rfl) (by decide) rfl (fun ls hl => ?_)
          refine lv_goto (tgt := 4) hx hb dX8_lineAt_34 (by decide) ?_
          exact ih x2_6 x3_7 h H locs hP hD hS ls (lv_sub hl [2, 3, 1, 0] rfl)
  have hl : lv_has ls 4 [(0, .ref h0), (1, .int p1)] := hl
  have hP : va_P D vwCl (wX8 cI h0 h1 h2 h3 h4 h5 aTh aSm aLn aAt aWe aRm aBm aHa aS aSv aCm aRd aBy) s.heap := hP
  have hD : va_D A (wX8 cI h0 h1 h2 h3 h4 h5 aTh aSm aLn aAt aWe aRm aBm aHa aS aSv aCm aRd aBy) := hD
  show W p l e rm_X8_lineAt s m args below meth c s.heap [] 0 0 (FI D below args s (wX8 cI h0 h1 h2 h3 h4 h5 aTh aSm aLn aAt aWe aRm aBm aHa aS aSv aCm aRd aBy) r A) (F0 m 0 ls [])
  unfold f_X8_lineAt at h
  have hmain : ∀ (H : Heap) (locs : List Loc), va_P D vwCl (wX8 cI h0 h1 h2 h3 h4 h5 aTh aSm aLn aAt aWe aRm aBm aHa aS aSv aCm aRd aBy) H → va_S A s.heap H locs → W p l e rm_X8_lineAt s m args below meth c H locs 0 0 (FI D below args s (wX8 cI h0 h1 h2 h3 h4 h5 aTh aSm aLn aAt aWe aRm aBm aHa aS aSv aCm aRd aBy) r A) (F0 m 0 ls []) := by
    intro H locs hP hS
    refine lv_iconst (v := 0) hx hb dX8_lineAt_0 (by decide) ?_
    refine lv_istore_n (lv' := [(2, .int 0), (0, .ref h0), (1, .int p1)]) hx hb dX8_lineAt_1 rfl hl (by decide) rfl (fun ls hl => ?_)
    refine lv_iconst (v := 0) hx hb dX8_lineAt_2 (by decide) ?_
    refine lv_istore_n (lv' := [(3, .int 0), (2, .int 0), (0, .ref h0), (1, .int p1)]) hx hb dX8_lineAt_3 rfl hl (by decide) rfl (fun ls hl => ?_)
    exact c_4 Z 0 0 h H locs hP hD hS ls (lv_sub hl [2, 3, 1, 0] rfl)
  exact hmain _ _ hP hS
abbrev rm_X8_movesGap : Room := { frames := 1, cells := 0, slots := 0, locals := 20 }
def f_X8_movesGap (Z : Nat) (p1 : Int32) (aS : Nat → Int32) : Option (Int32 × (Nat → Int32)) :=
  rd 2 344 (
  (f_X8_size Z ((aS (Int32.toNatClampNeg 2)) - p1)).bind fun r2 =>
  rd 4 344 (
  rd 4 344 (kl (upd aS (Int32.toNatClampNeg 4) ((aS (Int32.toNatClampNeg 4)) + r2)) fun aS_5 =>
  rd 2 344 (kl (upd aS_5 (Int32.toNatClampNeg 2) p1) fun aS_7 =>
  some (r2, aS_7)))))
set_option maxRecDepth 100000 in
set_option maxHeartbeats 4000000 in
theorem k_X8_movesGap (l : Launch) (D : va_G) (cI cS cL : ClassId) (Z : Nat) (h0 : Nat) (h1 : Nat) (h2 : Nat) (h3 : Nat) (h4 : Nat) (h5 : Nat) (p1 : Int32) (aTh : Int32) (aSm : Int32) (aLn : Int32) (aAt : Int32) (aWe : Int32) (aRm : Int32) (aBm : Int32) (aHa : Int64) (aS : Nat → Int32) (aSv : Nat → Int32) (aCm : Nat → Int32) (aRd : Nat → Int32) (aBy : Nat → Int32) {r : Int32} {aS' : Nat → Int32} (h : f_X8_movesGap Z p1 aS = some (r, aS')) : CI l yX8_movesGap cX8_movesGap 3 (some .int) rm_X8_movesGap D cI cS cL [.ref h0, .int p1] (wX8 cI h0 h1 h2 h3 h4 h5 aTh aSm aLn aAt aWe aRm aBm aHa aS aSv aCm aRd aBy) (wX8 cI h0 h1 h2 h3 h4 h5 aTh aSm aLn aAt aWe aRm aBm aHa (aS') aSv aCm aRd aBy) r := by
  refine ent_i (by decide +kernel) (Nat.le_of_ble_eq_true rfl) ?_
  intro p e s m args below meth c A ls hx hb hr hml hlocks hg hown hK hP hD hS hA hl
  have hown : s.vm.findClass RX8 = some m.cls := hown
  have hl : lv_has ls 3 [(0, .ref h0), (1, .int p1)] := hl
  have hP : va_P D vwCl (wX8 cI h0 h1 h2 h3 h4 h5 aTh aSm aLn aAt aWe aRm aBm aHa aS aSv aCm aRd aBy) s.heap := hP
  have hD : va_D A (wX8 cI h0 h1 h2 h3 h4 h5 aTh aSm aLn aAt aWe aRm aBm aHa aS aSv aCm aRd aBy) := hD
  show W p l e rm_X8_movesGap s m args below meth c s.heap [] 0 0 (FI D below args s (wX8 cI h0 h1 h2 h3 h4 h5 aTh aSm aLn aAt aWe aRm aBm aHa (aS') aSv aCm aRd aBy) r A) (F0 m 0 ls [])
  unfold f_X8_movesGap at h
  have hmain : ∀ (H : Heap) (locs : List Loc), va_P D vwCl (wX8 cI h0 h1 h2 h3 h4 h5 aTh aSm aLn aAt aWe aRm aBm aHa aS aSv aCm aRd aBy) H → va_S A s.heap H locs → W p l e rm_X8_movesGap s m args below meth c H locs 0 0 (FI D below args s (wX8 cI h0 h1 h2 h3 h4 h5 aTh aSm aLn aAt aWe aRm aBm aHa (aS') aSv aCm aRd aBy) r A) (F0 m 0 ls []) := by
    intro H locs hP hS
    refine lv_aload_n hx hb dX8_movesGap_0 rfl (lv_at hl 0 rfl) ?_
    refine va_get (D := D) (ci := 8) (v := .ref h1) (C := RX8) (T := TX8) (N := 13) hx hb hg uX8 hown hK.1 hP 0 rfl rfl 1 (by decide) (hg _ gw_941) (fun _ h9 => h9) rfl dX8_movesGap_1 ?_
    refine lv_iconst (v := 2) hx hb dX8_movesGap_4 (by decide) ?_
    obtain ⟨v1, h⟩ := rd_some h
    refine va_iald hx hb hK.1 hP 1 0 rfl rfl v1 dX8_movesGap_5 ?_
    refine lv_iload_n hx hb dX8_movesGap_6 rfl (lv_at hl 1 rfl) ?_
    refine lv_isub hx hb dX8_movesGap_7 ?_
    obtain ⟨r2, ec2, h⟩ := bd_some h
    refine cS_i (As := [.int ((aS (Int32.toNatClampNeg 2)) - p1)]) (rest := []) (wc := []) (wc' := []) hx hb hml hown hg hK hP hD hS hA hl.1 (k_X8_size l D cI cS cL Z ((aS (Int32.toNatClampNeg 2)) - p1) ec2) gs_X8_size gw_1018 ⟨rfl, rfl, by decide, by decide⟩ ⟨Nat.zero_le _, Nat.zero_le _⟩ [] rfl rfl rfl rfl rfl (Nat.le_of_ble_eq_true rfl) dX8_movesGap_8 (fun H locs hP hD hS => ?_)
    have hP : va_P D vwCl (wX8 cI h0 h1 h2 h3 h4 h5 aTh aSm aLn aAt aWe aRm aBm aHa aS aSv aCm aRd aBy) H := hP
    have hD : va_D A (wX8 cI h0 h1 h2 h3 h4 h5 aTh aSm aLn aAt aWe aRm aBm aHa aS aSv aCm aRd aBy) := hD
    refine lv_istore_n (lv' := [(2, .int r2), (0, .ref h0), (1, .int p1)]) hx hb dX8_movesGap_11 rfl hl (by decide) rfl (fun ls hl => ?_)
    refine lv_aload_n hx hb dX8_movesGap_12 rfl (lv_at hl 1 rfl) ?_
    refine va_get (D := D) (ci := 8) (v := .ref h1) (C := RX8) (T := TX8) (N := 13) hx hb hg uX8 hown hK.1 hP 0 rfl rfl 1 (by decide) (hg _ gw_941) (fun _ h9 => h9) rfl dX8_movesGap_13 ?_
    refine lv_iconst (v := 4) hx hb dX8_movesGap_16 (by decide) ?_
    refine lv_dup2_11 hx hb dX8_movesGap_17 rfl rfl ?_
    obtain ⟨v3, h⟩ := rd_some h
    refine va_iald hx hb hK.1 hP 1 0 rfl rfl v3 dX8_movesGap_18 ?_
    refine lv_iload_n hx hb dX8_movesGap_19 rfl (lv_at hl 0 rfl) ?_
    refine lv_iadd hx hb dX8_movesGap_20 ?_
    obtain ⟨v4, h⟩ := rd_some h
    obtain ⟨aS_5, eaS_5, h⟩ := kl_some h
    refine va_iast hx hb hK.1 hP hD hS 1 0 rfl rfl v4 dX8_movesGap_21 (fun H locs hP hD hS => ?_)
    have hP : va_P D vwCl (wX8 cI h0 h1 h2 h3 h4 h5 aTh aSm aLn aAt aWe aRm aBm aHa aS_5 aSv aCm aRd aBy) H := by rw [eaS_5]; exact hP
    have hD : va_D A (wX8 cI h0 h1 h2 h3 h4 h5 aTh aSm aLn aAt aWe aRm aBm aHa aS_5 aSv aCm aRd aBy) := by rw [eaS_5]; exact hD
    refine lv_aload_n hx hb dX8_movesGap_22 rfl (lv_at hl 1 rfl) ?_
    refine va_get (D := D) (ci := 8) (v := .ref h1) (C := RX8) (T := TX8) (N := 13) hx hb hg uX8 hown hK.1 hP 0 rfl rfl 1 (by decide) (hg _ gw_941) (fun _ h9 => h9) rfl dX8_movesGap_23 ?_
    refine lv_iconst (v := 2) hx hb dX8_movesGap_26 (by decide) ?_
    refine lv_iload_n hx hb dX8_movesGap_27 rfl (lv_at hl 2 rfl) ?_
    obtain ⟨v6, h⟩ := rd_some h
    obtain ⟨aS_7, eaS_7, h⟩ := kl_some h
    refine va_iast hx hb hK.1 hP hD hS 1 0 rfl rfl v6 dX8_movesGap_28 (fun H locs hP hD hS => ?_)
    have hP : va_P D vwCl (wX8 cI h0 h1 h2 h3 h4 h5 aTh aSm aLn aAt aWe aRm aBm aHa aS_7 aSv aCm aRd aBy) H := by rw [eaS_7]; exact hP
    have hD : va_D A (wX8 cI h0 h1 h2 h3 h4 h5 aTh aSm aLn aAt aWe aRm aBm aHa aS_7 aSv aCm aRd aBy) := by rw [eaS_7]; exact hD
    refine lv_iload_n hx hb dX8_movesGap_29 rfl (lv_at hl 0 rfl) ?_
    cases h
    exact ret_i hx hb hr hlocks hP hD hS dX8_movesGap_30 rfl
  exact hmain _ _ hP hS
abbrev rm_X8_setsGoal : Room := { frames := 2, cells := 0, slots := 0, locals := 43 }
def f_X8_setsGoal (Z : Nat) (aS : Nat → Int32) : Option ((Nat → Int32)) :=
  rd 1 344 (
  (f_X8_column Z (aS (Int32.toNatClampNeg 1)) aS).bind fun r2 =>
  rd 8 344 (kl (upd aS (Int32.toNatClampNeg 8) r2) fun aS_4 =>
  some aS_4))
set_option maxRecDepth 100000 in
set_option maxHeartbeats 4000000 in
theorem k_X8_setsGoal (l : Launch) (D : va_G) (cI cS cL : ClassId) (Z : Nat) (h0 : Nat) (h1 : Nat) (h2 : Nat) (h3 : Nat) (h4 : Nat) (h5 : Nat) (aTh : Int32) (aSm : Int32) (aLn : Int32) (aAt : Int32) (aWe : Int32) (aRm : Int32) (aBm : Int32) (aHa : Int64) (aS : Nat → Int32) (aSv : Nat → Int32) (aCm : Nat → Int32) (aRd : Nat → Int32) (aBy : Nat → Int32) {aS' : Nat → Int32} (h : f_X8_setsGoal Z aS = some aS') : CV l yX8_setsGoal cX8_setsGoal 1 none rm_X8_setsGoal D cI cS cL [.ref h0] (wX8 cI h0 h1 h2 h3 h4 h5 aTh aSm aLn aAt aWe aRm aBm aHa aS aSv aCm aRd aBy) (wX8 cI h0 h1 h2 h3 h4 h5 aTh aSm aLn aAt aWe aRm aBm aHa (aS') aSv aCm aRd aBy) := by
  refine ent_v (by decide +kernel) (Nat.le_of_ble_eq_true rfl) ?_
  intro p e s m args below meth c A ls hx hb hr hml hlocks hg hown hK hP hD hS hA hl
  have hown : s.vm.findClass RX8 = some m.cls := hown
  have hl : lv_has ls 1 [(0, .ref h0)] := hl
  have hP : va_P D vwCl (wX8 cI h0 h1 h2 h3 h4 h5 aTh aSm aLn aAt aWe aRm aBm aHa aS aSv aCm aRd aBy) s.heap := hP
  have hD : va_D A (wX8 cI h0 h1 h2 h3 h4 h5 aTh aSm aLn aAt aWe aRm aBm aHa aS aSv aCm aRd aBy) := hD
  show W p l e rm_X8_setsGoal s m args below meth c s.heap [] 0 0 (FV D below args s (wX8 cI h0 h1 h2 h3 h4 h5 aTh aSm aLn aAt aWe aRm aBm aHa (aS') aSv aCm aRd aBy) A) (F0 m 0 ls [])
  unfold f_X8_setsGoal at h
  have hmain : ∀ (H : Heap) (locs : List Loc), va_P D vwCl (wX8 cI h0 h1 h2 h3 h4 h5 aTh aSm aLn aAt aWe aRm aBm aHa aS aSv aCm aRd aBy) H → va_S A s.heap H locs → W p l e rm_X8_setsGoal s m args below meth c H locs 0 0 (FV D below args s (wX8 cI h0 h1 h2 h3 h4 h5 aTh aSm aLn aAt aWe aRm aBm aHa (aS') aSv aCm aRd aBy) A) (F0 m 0 ls []) := by
    intro H locs hP hS
    refine lv_aload_n hx hb dX8_setsGoal_0 rfl (lv_at hl 0 rfl) ?_
    refine va_get (D := D) (ci := 8) (v := .ref h1) (C := RX8) (T := TX8) (N := 13) hx hb hg uX8 hown hK.1 hP 0 rfl rfl 1 (by decide) (hg _ gw_941) (fun _ h9 => h9) rfl dX8_setsGoal_1 ?_
    refine lv_bipush (v := 8) hx hb dX8_setsGoal_4 (by decide) ?_
    refine lv_aload_n hx hb dX8_setsGoal_6 rfl (lv_at hl 0 rfl) ?_
    refine lv_aload_n hx hb dX8_setsGoal_7 rfl (lv_at hl 0 rfl) ?_
    refine va_get (D := D) (ci := 8) (v := .ref h1) (C := RX8) (T := TX8) (N := 13) hx hb hg uX8 hown hK.1 hP 0 rfl rfl 1 (by decide) (hg _ gw_941) (fun _ h9 => h9) rfl dX8_setsGoal_8 ?_
    refine lv_iconst (v := 1) hx hb dX8_setsGoal_11 (by decide) ?_
    obtain ⟨v1, h⟩ := rd_some h
    refine va_iald hx hb hK.1 hP 1 0 rfl rfl v1 dX8_setsGoal_12 ?_
    obtain ⟨r2, ec2, h⟩ := bd_some h
    refine cV_i (As := [.int (aS (Int32.toNatClampNeg 1))]) (rest := [.int 8, .ref h1]) (wc := (wX8 cI h0 h1 h2 h3 h4 h5 aTh aSm aLn aAt aWe aRm aBm aHa aS aSv aCm aRd aBy)) (wc' := (wX8 cI h0 h1 h2 h3 h4 h5 aTh aSm aLn aAt aWe aRm aBm aHa aS aSv aCm aRd aBy)) hx hb hml hown hg hK hP hD hS hA hl.1 (k_X8_column l D cI cS cL Z h0 h1 h2 h3 h4 h5 (aS (Int32.toNatClampNeg 1)) aTh aSm aLn aAt aWe aRm aBm aHa aS aSv aCm aRd aBy ec2) gm_X8_column gw_1029 ⟨rfl, rfl, by decide, by decide⟩ ⟨Nat.zero_le _, Nat.zero_le _⟩ [0, 1, 2, 3, 4, 5] rfl rfl rfl rfl rfl rfl rfl rfl (Nat.le_of_ble_eq_true rfl) dX8_setsGoal_13 (fun H locs hP hD hS => ?_)
    have hP : va_P D vwCl (wX8 cI h0 h1 h2 h3 h4 h5 aTh aSm aLn aAt aWe aRm aBm aHa aS aSv aCm aRd aBy) H := hP
    have hD : va_D A (wX8 cI h0 h1 h2 h3 h4 h5 aTh aSm aLn aAt aWe aRm aBm aHa aS aSv aCm aRd aBy) := hD
    obtain ⟨v3, h⟩ := rd_some h
    obtain ⟨aS_4, eaS_4, h⟩ := kl_some h
    refine va_iast hx hb hK.1 hP hD hS 1 0 rfl rfl v3 dX8_setsGoal_16 (fun H locs hP hD hS => ?_)
    have hP : va_P D vwCl (wX8 cI h0 h1 h2 h3 h4 h5 aTh aSm aLn aAt aWe aRm aBm aHa aS_4 aSv aCm aRd aBy) H := by rw [eaS_4]; exact hP
    have hD : va_D A (wX8 cI h0 h1 h2 h3 h4 h5 aTh aSm aLn aAt aWe aRm aBm aHa aS_4 aSv aCm aRd aBy) := by rw [eaS_4]; exact hD
    cases h
    exact ret_v hx hb hr hlocks hP hD hS dX8_setsGoal_17
  exact hmain _ _ hP hS
abbrev rm_X8_movesMarks : Room := { frames := 0, cells := 0, slots := 0, locals := 0 }
def f_X8_movesMarks_b2 (Z : Nat) (p1 : Int32) (p2 : Int32) (rec : Int32 → (Nat → Int32) → Option ((Nat → Int32))) (x3 : Int32) (aS : Nat → Int32) : Option ((Nat → Int32)) :=
      if 4 ≤ x3 then
        some aS
      else
        rd (12 + x3) 344 (
        kl (aS (Int32.toNatClampNeg (12 + x3))) fun x4_3 =>
        if x4_3 = (-1) then
          if (0 : Int32) = 0 then
            rd (12 + x3) 344 (kl (upd aS (Int32.toNatClampNeg (12 + x3)) x4_3) fun aS_7 =>
            kl (x3 + 1) fun x3_8 =>
            rec x3_8 aS_7)
          else
            rd (12 + x3) 344 (kl (upd aS (Int32.toNatClampNeg (12 + x3)) (x4_3 + p2)) fun aS_10 =>
            kl (x3 + 1) fun x3_11 =>
            rec x3_11 aS_10)
        else
          if p1 < x4_3 then
            if (1 : Int32) = 0 then
              rd (12 + x3) 344 (kl (upd aS (Int32.toNatClampNeg (12 + x3)) x4_3) fun aS_15 =>
              kl (x3 + 1) fun x3_16 =>
              rec x3_16 aS_15)
            else
              rd (12 + x3) 344 (kl (upd aS (Int32.toNatClampNeg (12 + x3)) (x4_3 + p2)) fun aS_18 =>
              kl (x3 + 1) fun x3_19 =>
              rec x3_19 aS_18)
          else
            if x4_3 = p1 then
              rd (16 + x3) 344 (
              if (aS (Int32.toNatClampNeg (16 + x3))) = 1 then
                if (1 : Int32) = 0 then
                  rd (12 + x3) 344 (kl (upd aS (Int32.toNatClampNeg (12 + x3)) x4_3) fun aS_39 =>
                  kl (x3 + 1) fun x3_40 =>
                  rec x3_40 aS_39)
                else
                  rd (12 + x3) 344 (kl (upd aS (Int32.toNatClampNeg (12 + x3)) (x4_3 + p2)) fun aS_42 =>
                  kl (x3 + 1) fun x3_43 =>
                  rec x3_43 aS_42)
              else
                if (0 : Int32) = 0 then
                  rd (12 + x3) 344 (kl (upd aS (Int32.toNatClampNeg (12 + x3)) x4_3) fun aS_32 =>
                  kl (x3 + 1) fun x3_33 =>
                  rec x3_33 aS_32)
                else
                  rd (12 + x3) 344 (kl (upd aS (Int32.toNatClampNeg (12 + x3)) (x4_3 + p2)) fun aS_35 =>
                  kl (x3 + 1) fun x3_36 =>
                  rec x3_36 aS_35))
            else
              if (0 : Int32) = 0 then
                rd (12 + x3) 344 (kl (upd aS (Int32.toNatClampNeg (12 + x3)) x4_3) fun aS_23 =>
                kl (x3 + 1) fun x3_24 =>
                rec x3_24 aS_23)
              else
                rd (12 + x3) 344 (kl (upd aS (Int32.toNatClampNeg (12 + x3)) (x4_3 + p2)) fun aS_26 =>
                kl (x3 + 1) fun x3_27 =>
                rec x3_27 aS_26))
def f_X8_movesMarks_l2 (Z : Nat) (p1 : Int32) (p2 : Int32) : Nat → Int32 → (Nat → Int32) → Option ((Nat → Int32))
  | 0, _, _ => none
  | n + 1, x3, aS => f_X8_movesMarks_b2 Z p1 p2 (f_X8_movesMarks_l2 Z p1 p2 n) x3 aS
def f_X8_movesMarks (Z : Nat) (p1 : Int32) (p2 : Int32) (aS : Nat → Int32) : Option ((Nat → Int32)) :=
  f_X8_movesMarks_l2 Z p1 p2 Z 0 aS
set_option maxRecDepth 100000 in
set_option maxHeartbeats 4000000 in
theorem k_X8_movesMarks (l : Launch) (D : va_G) (cI cS cL : ClassId) (Z : Nat) (h0 : Nat) (h1 : Nat) (h2 : Nat) (h3 : Nat) (h4 : Nat) (h5 : Nat) (p1 : Int32) (p2 : Int32) (aTh : Int32) (aSm : Int32) (aLn : Int32) (aAt : Int32) (aWe : Int32) (aRm : Int32) (aBm : Int32) (aHa : Int64) (aS : Nat → Int32) (aSv : Nat → Int32) (aCm : Nat → Int32) (aRd : Nat → Int32) (aBy : Nat → Int32) {aS' : Nat → Int32} (h : f_X8_movesMarks Z p1 p2 aS = some aS') : CV l yX8_movesMarks cX8_movesMarks 6 none rm_X8_movesMarks D cI cS cL [.ref h0, .int p1, .int p2] (wX8 cI h0 h1 h2 h3 h4 h5 aTh aSm aLn aAt aWe aRm aBm aHa aS aSv aCm aRd aBy) (wX8 cI h0 h1 h2 h3 h4 h5 aTh aSm aLn aAt aWe aRm aBm aHa (aS') aSv aCm aRd aBy) := by
  refine ent_v (by decide +kernel) (Nat.le_of_ble_eq_true rfl) ?_
  intro p e s m args below meth c A ls hx hb hr hml hlocks hg hown hK hP hD hS hA hl
  have hown : s.vm.findClass RX8 = some m.cls := hown
  have c_2 : ∀ (n : Nat) (x3 : Int32) (aS : Nat → Int32), f_X8_movesMarks_l2 Z p1 p2 n x3 aS = some aS' → ∀ (H : Heap) (locs : List Loc), va_P D vwCl (wX8 cI h0 h1 h2 h3 h4 h5 aTh aSm aLn aAt aWe aRm aBm aHa aS aSv aCm aRd aBy) H → va_D A (wX8 cI h0 h1 h2 h3 h4 h5 aTh aSm aLn aAt aWe aRm aBm aHa aS aSv aCm aRd aBy) → va_S A s.heap H locs → ∀ ls : Array Slot, lv_has ls 6 [(0, .ref h0), (1, .int p1), (2, .int p2), (3, .int x3)] → W p l e rm_X8_movesMarks s m args below meth c H locs 0 0 (FV D below args s (wX8 cI h0 h1 h2 h3 h4 h5 aTh aSm aLn aAt aWe aRm aBm aHa (aS') aSv aCm aRd aBy) A) (F0 m 2 ls []) := by
    intro n
    induction n with
    | zero => intro x3 aS h; exact no_some h
    | succ n ih =>
      intro x3 aS h H locs hP hD hS ls hl
      have h : f_X8_movesMarks_b2 Z p1 p2 (f_X8_movesMarks_l2 Z p1 p2 n) x3 aS = some aS' := h
      unfold f_X8_movesMarks_b2 at h
      refine lv_iload_n hx hb dX8_movesMarks_2 rfl (lv_at hl 3 rfl) ?_
      refine lv_iconst (v := 4) hx hb dX8_movesMarks_3 (by decide) ?_
      refine lv_icmp_ge (tgt := 85) hx hb dX8_movesMarks_4 (by decide) (fun q1 => ?_) (fun q1 => ?_)
      · replace h := it_some q1 h
        cases h
        exact ret_v hx hb hr hlocks hP hD hS dX8_movesMarks_85
      · replace h := if_some q1 h
        refine lv_aload_n hx hb dX8_movesMarks_7 rfl (lv_at hl 0 rfl) ?_
        refine va_get (D := D) (ci := 8) (v := .ref h1) (C := RX8) (T := TX8) (N := 13) hx hb hg uX8 hown hK.1 hP 0 rfl rfl 1 (by decide) (hg _ gw_941) (fun _ h9 => h9) rfl dX8_movesMarks_8 ?_
        refine lv_bipush (v := 12) hx hb dX8_movesMarks_11 (by decide) ?_
        refine lv_iload_n hx hb dX8_movesMarks_13 rfl (lv_at hl 3 rfl) ?_
        refine lv_iadd hx hb dX8_movesMarks_14 ?_
        obtain ⟨v2, h⟩ := rd_some h
        refine va_iald hx hb hK.1 hP 1 0 rfl rfl v2 dX8_movesMarks_15 ?_
        obtain ⟨x4_3, ex4_3, h⟩ := kl_some h
        refine nm_i ex4_3 ?_
        refine lv_istore (lv' := [(4, .int x4_3), (0, .ref h0), (1, .int p1), (2, .int p2), (3, .int x3)]) hx hb dX8_movesMarks_16 hl (by decide) rfl (fun ls hl => ?_)
        refine lv_iload hx hb dX8_movesMarks_18 (lv_at hl 0 rfl) ?_
        refine lv_iconst (v := (-1)) hx hb dX8_movesMarks_20 (by decide) ?_
        refine lv_icmp_eq (tgt := 53) hx hb dX8_movesMarks_21 (by decide) (fun q4 => ?_) (fun q4 => ?_)
        · replace h := it_some q4 h
          refine lv_iconst (v := 0) hx hb dX8_movesMarks_53 (by decide) ?_
          refine lv_istore (lv' := [(5, .int 0), (4, .int x4_3), (0, .ref h0), (1, .int p1), (2, .int p2), (3, .int x3)]) hx hb dX8_movesMarks_54 hl (by decide) rfl (fun ls hl => ?_)
          refine lv_aload_n hx hb dX8_movesMarks_56 rfl (lv_at hl 2 rfl) ?_
          refine va_get (D := D) (ci := 8) (v := .ref h1) (C := RX8) (T := TX8) (N := 13) hx hb hg uX8 hown hK.1 hP 0 rfl rfl 1 (by decide) (hg _ gw_941) (fun _ h9 => h9) rfl dX8_movesMarks_57 ?_
          refine lv_bipush (v := 12) hx hb dX8_movesMarks_60 (by decide) ?_
          refine lv_iload_n hx hb dX8_movesMarks_62 rfl (lv_at hl 5 rfl) ?_
          refine lv_iadd hx hb dX8_movesMarks_63 ?_
          refine lv_iload hx hb dX8_movesMarks_64 (lv_at hl 0 rfl) ?_
          refine lv_if_eq (tgt := 76) hx hb dX8_movesMarks_66 (by decide) (fun q5 => ?_) (fun q5 => ?_)
          · replace h := it_some q5 h
            refine lv_iload hx hb dX8_movesMarks_76 (lv_at hl 1 rfl) ?_
            obtain ⟨v6, h⟩ := rd_some h
            obtain ⟨aS_7, eaS_7, h⟩ := kl_some h
            refine va_iast hx hb hK.1 hP hD hS 1 0 rfl rfl v6 dX8_movesMarks_78 (fun H locs hP hD hS => ?_)
            have hP : va_P D vwCl (wX8 cI h0 h1 h2 h3 h4 h5 aTh aSm aLn aAt aWe aRm aBm aHa aS_7 aSv aCm aRd aBy) H := by rw [eaS_7]; exact hP
            have hD : va_D A (wX8 cI h0 h1 h2 h3 h4 h5 aTh aSm aLn aAt aWe aRm aBm aHa aS_7 aSv aCm aRd aBy) := by rw [eaS_7]; exact hD
            obtain ⟨x3_8, ex3_8, h⟩ := kl_some h
            refine lv_iinc (v := x3_8) (lv' := [(3, .int x3_8), (5, .int 0), (4, .int x4_3), (0, .ref h0), (1, .int p1), (2, .int p2)]) hx hb dX8_movesMarks_79 hl (k := 5) rfl (by rw [ex3_8]; rfl) (by decide) rfl (fun ls hl => ?_)
            refine lv_goto (tgt := 2) hx hb dX8_movesMarks_82 (by decide) ?_
            exact ih x3_8 aS_7 h H locs hP hD hS ls (lv_sub hl [3, 4, 5, 0] rfl)
          · replace h := if_some q5 h
            refine lv_iload hx hb dX8_movesMarks_69 (lv_at hl 1 rfl) ?_
            refine lv_iload_n hx hb dX8_movesMarks_71 rfl (lv_at hl 4 rfl) ?_
            refine lv_iadd hx hb dX8_movesMarks_72 ?_
            refine lv_goto (tgt := 78) hx hb dX8_movesMarks_73 (by decide) ?_
            obtain ⟨v9, h⟩ := rd_some h
            obtain ⟨aS_10, eaS_10, h⟩ := kl_some h
            refine va_iast hx hb hK.1 hP hD hS 1 0 rfl rfl v9 dX8_movesMarks_78 (fun H locs hP hD hS => ?_)
            have hP : va_P D vwCl (wX8 cI h0 h1 h2 h3 h4 h5 aTh aSm aLn aAt aWe aRm aBm aHa aS_10 aSv aCm aRd aBy) H := by rw [eaS_10]; exact hP
            have hD : va_D A (wX8 cI h0 h1 h2 h3 h4 h5 aTh aSm aLn aAt aWe aRm aBm aHa aS_10 aSv aCm aRd aBy) := by rw [eaS_10]; exact hD
            obtain ⟨x3_11, ex3_11, h⟩ := kl_some h
            refine lv_iinc (v := x3_11) (lv' := [(3, .int x3_11), (5, .int 0), (4, .int x4_3), (0, .ref h0), (1, .int p1), (2, .int p2)]) hx hb dX8_movesMarks_79 hl (k := 5) rfl (by rw [ex3_11]; rfl) (by decide) rfl (fun ls hl => ?_)
            refine lv_goto (tgt := 2) hx hb dX8_movesMarks_82 (by decide) ?_
            exact ih x3_11 aS_10 h H locs hP hD hS ls (lv_sub hl [3, 4, 5, 0] rfl)
        · replace h := if_some q4 h
          refine lv_iload hx hb dX8_movesMarks_24 (lv_at hl 0 rfl) ?_
          refine lv_iload_n hx hb dX8_movesMarks_26 rfl (lv_at hl 2 rfl) ?_
          refine lv_icmp_gt (tgt := 49) hx hb dX8_movesMarks_27 (by decide) (fun q12 => ?_) (fun q12 => ?_)
          · replace h := it_some q12 h
            refine lv_iconst (v := 1) hx hb dX8_movesMarks_49 (by decide) ?_
            refine lv_goto (tgt := 54) hx hb dX8_movesMarks_50 (by decide) ?_
            refine lv_istore (lv' := [(5, .int 1), (4, .int x4_3), (0, .ref h0), (1, .int p1), (2, .int p2), (3, .int x3)]) hx hb dX8_movesMarks_54 hl (by decide) rfl (fun ls hl => ?_)
            refine lv_aload_n hx hb dX8_movesMarks_56 rfl (lv_at hl 2 rfl) ?_
            refine va_get (D := D) (ci := 8) (v := .ref h1) (C := RX8) (T := TX8) (N := 13) hx hb hg uX8 hown hK.1 hP 0 rfl rfl 1 (by decide) (hg _ gw_941) (fun _ h9 => h9) rfl dX8_movesMarks_57 ?_
            refine lv_bipush (v := 12) hx hb dX8_movesMarks_60 (by decide) ?_
            refine lv_iload_n hx hb dX8_movesMarks_62 rfl (lv_at hl 5 rfl) ?_
            refine lv_iadd hx hb dX8_movesMarks_63 ?_
            refine lv_iload hx hb dX8_movesMarks_64 (lv_at hl 0 rfl) ?_
            refine lv_if_eq (tgt := 76) hx hb dX8_movesMarks_66 (by decide) (fun q13 => ?_) (fun q13 => ?_)
            · replace h := it_some q13 h
              refine lv_iload hx hb dX8_movesMarks_76 (lv_at hl 1 rfl) ?_
              obtain ⟨v14, h⟩ := rd_some h
              obtain ⟨aS_15, eaS_15, h⟩ := kl_some h
              refine va_iast hx hb hK.1 hP hD hS 1 0 rfl rfl v14 dX8_movesMarks_78 (fun H locs hP hD hS => ?_)
              have hP : va_P D vwCl (wX8 cI h0 h1 h2 h3 h4 h5 aTh aSm aLn aAt aWe aRm aBm aHa aS_15 aSv aCm aRd aBy) H := by rw [eaS_15]; exact hP
              have hD : va_D A (wX8 cI h0 h1 h2 h3 h4 h5 aTh aSm aLn aAt aWe aRm aBm aHa aS_15 aSv aCm aRd aBy) := by rw [eaS_15]; exact hD
              obtain ⟨x3_16, ex3_16, h⟩ := kl_some h
              refine lv_iinc (v := x3_16) (lv' := [(3, .int x3_16), (5, .int 1), (4, .int x4_3), (0, .ref h0), (1, .int p1), (2, .int p2)]) hx hb dX8_movesMarks_79 hl (k := 5) rfl (by rw [ex3_16]; rfl) (by decide) rfl (fun ls hl => ?_)
              refine lv_goto (tgt := 2) hx hb dX8_movesMarks_82 (by decide) ?_
              exact ih x3_16 aS_15 h H locs hP hD hS ls (lv_sub hl [3, 4, 5, 0] rfl)
            · replace h := if_some q13 h
              refine lv_iload hx hb dX8_movesMarks_69 (lv_at hl 1 rfl) ?_
              refine lv_iload_n hx hb dX8_movesMarks_71 rfl (lv_at hl 4 rfl) ?_
              refine lv_iadd hx hb dX8_movesMarks_72 ?_
              refine lv_goto (tgt := 78) hx hb dX8_movesMarks_73 (by decide) ?_
              obtain ⟨v17, h⟩ := rd_some h
              obtain ⟨aS_18, eaS_18, h⟩ := kl_some h
              refine va_iast hx hb hK.1 hP hD hS 1 0 rfl rfl v17 dX8_movesMarks_78 (fun H locs hP hD hS => ?_)
              have hP : va_P D vwCl (wX8 cI h0 h1 h2 h3 h4 h5 aTh aSm aLn aAt aWe aRm aBm aHa aS_18 aSv aCm aRd aBy) H := by rw [eaS_18]; exact hP
              have hD : va_D A (wX8 cI h0 h1 h2 h3 h4 h5 aTh aSm aLn aAt aWe aRm aBm aHa aS_18 aSv aCm aRd aBy) := by rw [eaS_18]; exact hD
              obtain ⟨x3_19, ex3_19, h⟩ := kl_some h
              refine lv_iinc (v := x3_19) (lv' := [(3, .int x3_19), (5, .int 1), (4, .int x4_3), (0, .ref h0), (1, .int p1), (2, .int p2)]) hx hb dX8_movesMarks_79 hl (k := 5) rfl (by rw [ex3_19]; rfl) (by decide) rfl (fun ls hl => ?_)
              refine lv_goto (tgt := 2) hx hb dX8_movesMarks_82 (by decide) ?_
              exact ih x3_19 aS_18 h H locs hP hD hS ls (lv_sub hl [3, 4, 5, 0] rfl)
          · replace h := if_some q12 h
            refine lv_iload hx hb dX8_movesMarks_30 (lv_at hl 0 rfl) ?_
            refine lv_iload_n hx hb dX8_movesMarks_32 rfl (lv_at hl 2 rfl) ?_
            refine lv_icmp_ne (tgt := 53) hx hb dX8_movesMarks_33 (by decide) (fun q20 => ?_) (fun q20 => ?_)
            · replace h := if_some q20 h
              refine lv_iconst (v := 0) hx hb dX8_movesMarks_53 (by decide) ?_
              refine lv_istore (lv' := [(5, .int 0), (4, .int x4_3), (0, .ref h0), (1, .int p1), (2, .int p2), (3, .int x3)]) hx hb dX8_movesMarks_54 hl (by decide) rfl (fun ls hl => ?_)
              refine lv_aload_n hx hb dX8_movesMarks_56 rfl (lv_at hl 2 rfl) ?_
              refine va_get (D := D) (ci := 8) (v := .ref h1) (C := RX8) (T := TX8) (N := 13) hx hb hg uX8 hown hK.1 hP 0 rfl rfl 1 (by decide) (hg _ gw_941) (fun _ h9 => h9) rfl dX8_movesMarks_57 ?_
              refine lv_bipush (v := 12) hx hb dX8_movesMarks_60 (by decide) ?_
              refine lv_iload_n hx hb dX8_movesMarks_62 rfl (lv_at hl 5 rfl) ?_
              refine lv_iadd hx hb dX8_movesMarks_63 ?_
              refine lv_iload hx hb dX8_movesMarks_64 (lv_at hl 0 rfl) ?_
              refine lv_if_eq (tgt := 76) hx hb dX8_movesMarks_66 (by decide) (fun q21 => ?_) (fun q21 => ?_)
              · replace h := it_some q21 h
                refine lv_iload hx hb dX8_movesMarks_76 (lv_at hl 1 rfl) ?_
                obtain ⟨v22, h⟩ := rd_some h
                obtain ⟨aS_23, eaS_23, h⟩ := kl_some h
                refine va_iast hx hb hK.1 hP hD hS 1 0 rfl rfl v22 dX8_movesMarks_78 (fun H locs hP hD hS => ?_)
                have hP : va_P D vwCl (wX8 cI h0 h1 h2 h3 h4 h5 aTh aSm aLn aAt aWe aRm aBm aHa aS_23 aSv aCm aRd aBy) H := by rw [eaS_23]; exact hP
                have hD : va_D A (wX8 cI h0 h1 h2 h3 h4 h5 aTh aSm aLn aAt aWe aRm aBm aHa aS_23 aSv aCm aRd aBy) := by rw [eaS_23]; exact hD
                obtain ⟨x3_24, ex3_24, h⟩ := kl_some h
                refine lv_iinc (v := x3_24) (lv' := [(3, .int x3_24), (5, .int 0), (4, .int x4_3), (0, .ref h0), (1, .int p1), (2, .int p2)]) hx hb dX8_movesMarks_79 hl (k := 5) rfl (by rw [ex3_24]; rfl) (by decide) rfl (fun ls hl => ?_)
                refine lv_goto (tgt := 2) hx hb dX8_movesMarks_82 (by decide) ?_
                exact ih x3_24 aS_23 h H locs hP hD hS ls (lv_sub hl [3, 4, 5, 0] rfl)
              · replace h := if_some q21 h
                refine lv_iload hx hb dX8_movesMarks_69 (lv_at hl 1 rfl) ?_
                refine lv_iload_n hx hb dX8_movesMarks_71 rfl (lv_at hl 4 rfl) ?_
                refine lv_iadd hx hb dX8_movesMarks_72 ?_
                refine lv_goto (tgt := 78) hx hb dX8_movesMarks_73 (by decide) ?_
                obtain ⟨v25, h⟩ := rd_some h
                obtain ⟨aS_26, eaS_26, h⟩ := kl_some h
                refine va_iast hx hb hK.1 hP hD hS 1 0 rfl rfl v25 dX8_movesMarks_78 (fun H locs hP hD hS => ?_)
                have hP : va_P D vwCl (wX8 cI h0 h1 h2 h3 h4 h5 aTh aSm aLn aAt aWe aRm aBm aHa aS_26 aSv aCm aRd aBy) H := by rw [eaS_26]; exact hP
                have hD : va_D A (wX8 cI h0 h1 h2 h3 h4 h5 aTh aSm aLn aAt aWe aRm aBm aHa aS_26 aSv aCm aRd aBy) := by rw [eaS_26]; exact hD
                obtain ⟨x3_27, ex3_27, h⟩ := kl_some h
                refine lv_iinc (v := x3_27) (lv' := [(3, .int x3_27), (5, .int 0), (4, .int x4_3), (0, .ref h0), (1, .int p1), (2, .int p2)]) hx hb dX8_movesMarks_79 hl (k := 5) rfl (by rw [ex3_27]; rfl) (by decide) rfl (fun ls hl => ?_)
                refine lv_goto (tgt := 2) hx hb dX8_movesMarks_82 (by decide) ?_
                exact ih x3_27 aS_26 h H locs hP hD hS ls (lv_sub hl [3, 4, 5, 0] rfl)
            · replace h := it_some q20 h
              refine lv_aload_n hx hb dX8_movesMarks_36 rfl (lv_at hl 1 rfl) ?_
              refine va_get (D := D) (ci := 8) (v := .ref h1) (C := RX8) (T := TX8) (N := 13) hx hb hg uX8 hown hK.1 hP 0 rfl rfl 1 (by decide) (hg _ gw_941) (fun _ h9 => h9) rfl dX8_movesMarks_37 ?_
              refine lv_bipush (v := 16) hx hb dX8_movesMarks_40 (by decide) ?_
              refine lv_iload_n hx hb dX8_movesMarks_42 rfl (lv_at hl 4 rfl) ?_
              refine lv_iadd hx hb dX8_movesMarks_43 ?_
              obtain ⟨v28, h⟩ := rd_some h
              refine va_iald hx hb hK.1 hP 1 0 rfl rfl v28 dX8_movesMarks_44 ?_
              refine lv_iconst (v := 1) hx hb dX8_movesMarks_45 (by decide) ?_
              refine lv_icmp_ne (tgt := 53) hx hb dX8_movesMarks_46 (by decide) (fun q29 => ?_) (fun q29 => ?_)
              · replace h := if_some q29 h
                refine lv_iconst (v := 0) hx hb dX8_movesMarks_53 (by decide) ?_
                refine lv_istore (lv' := [(5, .int 0), (4, .int x4_3), (0, .ref h0), (1, .int p1), (2, .int p2), (3, .int x3)]) hx hb dX8_movesMarks_54 hl (by decide) rfl (fun ls hl => ?_)
                refine lv_aload_n hx hb dX8_movesMarks_56 rfl (lv_at hl 2 rfl) ?_
                refine va_get (D := D) (ci := 8) (v := .ref h1) (C := RX8) (T := TX8) (N := 13) hx hb hg uX8 hown hK.1 hP 0 rfl rfl 1 (by decide) (hg _ gw_941) (fun _ h9 => h9) rfl dX8_movesMarks_57 ?_
                refine lv_bipush (v := 12) hx hb dX8_movesMarks_60 (by decide) ?_
                refine lv_iload_n hx hb dX8_movesMarks_62 rfl (lv_at hl 5 rfl) ?_
                refine lv_iadd hx hb dX8_movesMarks_63 ?_
                refine lv_iload hx hb dX8_movesMarks_64 (lv_at hl 0 rfl) ?_
                refine lv_if_eq (tgt := 76) hx hb dX8_movesMarks_66 (by decide) (fun q30 => ?_) (fun q30 => ?_)
                · replace h := it_some q30 h
                  refine lv_iload hx hb dX8_movesMarks_76 (lv_at hl 1 rfl) ?_
                  obtain ⟨v31, h⟩ := rd_some h
                  obtain ⟨aS_32, eaS_32, h⟩ := kl_some h
                  refine va_iast hx hb hK.1 hP hD hS 1 0 rfl rfl v31 dX8_movesMarks_78 (fun H locs hP hD hS => ?_)
                  have hP : va_P D vwCl (wX8 cI h0 h1 h2 h3 h4 h5 aTh aSm aLn aAt aWe aRm aBm aHa aS_32 aSv aCm aRd aBy) H := by rw [eaS_32]; exact hP
                  have hD : va_D A (wX8 cI h0 h1 h2 h3 h4 h5 aTh aSm aLn aAt aWe aRm aBm aHa aS_32 aSv aCm aRd aBy) := by rw [eaS_32]; exact hD
                  obtain ⟨x3_33, ex3_33, h⟩ := kl_some h
                  refine lv_iinc (v := x3_33) (lv' := [(3, .int x3_33), (5, .int 0), (4, .int x4_3), (0, .ref h0), (1, .int p1), (2, .int p2)]) hx hb dX8_movesMarks_79 hl (k := 5) rfl (by rw [ex3_33]; rfl) (by decide) rfl (fun ls hl => ?_)
                  refine lv_goto (tgt := 2) hx hb dX8_movesMarks_82 (by decide) ?_
                  exact ih x3_33 aS_32 h H locs hP hD hS ls (lv_sub hl [3, 4, 5, 0] rfl)
                · replace h := if_some q30 h
                  refine lv_iload hx hb dX8_movesMarks_69 (lv_at hl 1 rfl) ?_
                  refine lv_iload_n hx hb dX8_movesMarks_71 rfl (lv_at hl 4 rfl) ?_
                  refine lv_iadd hx hb dX8_movesMarks_72 ?_
                  refine lv_goto (tgt := 78) hx hb dX8_movesMarks_73 (by decide) ?_
                  obtain ⟨v34, h⟩ := rd_some h
                  obtain ⟨aS_35, eaS_35, h⟩ := kl_some h
                  refine va_iast hx hb hK.1 hP hD hS 1 0 rfl rfl v34 dX8_movesMarks_78 (fun H locs hP hD hS => ?_)
                  have hP : va_P D vwCl (wX8 cI h0 h1 h2 h3 h4 h5 aTh aSm aLn aAt aWe aRm aBm aHa aS_35 aSv aCm aRd aBy) H := by rw [eaS_35]; exact hP
                  have hD : va_D A (wX8 cI h0 h1 h2 h3 h4 h5 aTh aSm aLn aAt aWe aRm aBm aHa aS_35 aSv aCm aRd aBy) := by rw [eaS_35]; exact hD
                  obtain ⟨x3_36, ex3_36, h⟩ := kl_some h
                  refine lv_iinc (v := x3_36) (lv' := [(3, .int x3_36), (5, .int 0), (4, .int x4_3), (0, .ref h0), (1, .int p1), (2, .int p2)]) hx hb dX8_movesMarks_79 hl (k := 5) rfl (by rw [ex3_36]; rfl) (by decide) rfl (fun ls hl => ?_)
                  refine lv_goto (tgt := 2) hx hb dX8_movesMarks_82 (by decide) ?_
                  exact ih x3_36 aS_35 h H locs hP hD hS ls (lv_sub hl [3, 4, 5, 0] rfl)
              · replace h := it_some q29 h
                refine lv_iconst (v := 1) hx hb dX8_movesMarks_49 (by decide) ?_
                refine lv_goto (tgt := 54) hx hb dX8_movesMarks_50 (by decide) ?_
                refine lv_istore (lv' := [(5, .int 1), (4, .int x4_3), (0, .ref h0), (1, .int p1), (2, .int p2), (3, .int x3)]) hx hb dX8_movesMarks_54 hl (by decide) rfl (fun ls hl => ?_)
                refine lv_aload_n hx hb dX8_movesMarks_56 rfl (lv_at hl 2 rfl) ?_
                refine va_get (D := D) (ci := 8) (v := .ref h1) (C := RX8) (T := TX8) (N := 13) hx hb hg uX8 hown hK.1 hP 0 rfl rfl 1 (by decide) (hg _ gw_941) (fun _ h9 => h9) rfl dX8_movesMarks_57 ?_
                refine lv_bipush (v := 12) hx hb dX8_movesMarks_60 (by decide) ?_
                refine lv_iload_n hx hb dX8_movesMarks_62 rfl (lv_at hl 5 rfl) ?_
                refine lv_iadd hx hb dX8_movesMarks_63 ?_
                refine lv_iload hx hb dX8_movesMarks_64 (lv_at hl 0 rfl) ?_
                refine lv_if_eq (tgt := 76) hx hb dX8_movesMarks_66 (by decide) (fun q37 => ?_) (fun q37 => ?_)
                · replace h := it_some q37 h
                  refine lv_iload hx hb dX8_movesMarks_76 (lv_at hl 1 rfl) ?_
                  obtain ⟨v38, h⟩ := rd_some h
                  obtain ⟨aS_39, eaS_39, h⟩ := kl_some h
                  refine va_iast hx hb hK.1 hP hD hS 1 0 rfl rfl v38 dX8_movesMarks_78 (fun H locs hP hD hS => ?_)
                  have hP : va_P D vwCl (wX8 cI h0 h1 h2 h3 h4 h5 aTh aSm aLn aAt aWe aRm aBm aHa aS_39 aSv aCm aRd aBy) H := by rw [eaS_39]; exact hP
                  have hD : va_D A (wX8 cI h0 h1 h2 h3 h4 h5 aTh aSm aLn aAt aWe aRm aBm aHa aS_39 aSv aCm aRd aBy) := by rw [eaS_39]; exact hD
                  obtain ⟨x3_40, ex3_40, h⟩ := kl_some h
                  refine lv_iinc (v := x3_40) (lv' := [(3, .int x3_40), (5, .int 1), (4, .int x4_3), (0, .ref h0), (1, .int p1), (2, .int p2)]) hx hb dX8_movesMarks_79 hl (k := 5) rfl (by rw [ex3_40]; rfl) (by decide) rfl (fun ls hl => ?_)
                  refine lv_goto (tgt := 2) hx hb dX8_movesMarks_82 (by decide) ?_
                  exact ih x3_40 aS_39 h H locs hP hD hS ls (lv_sub hl [3, 4, 5, 0] rfl)
                · replace h := if_some q37 h
                  refine lv_iload hx hb dX8_movesMarks_69 (lv_at hl 1 rfl) ?_
                  refine lv_iload_n hx hb dX8_movesMarks_71 rfl (lv_at hl 4 rfl) ?_
                  refine lv_iadd hx hb dX8_movesMarks_72 ?_
                  refine lv_goto (tgt := 78) hx hb dX8_movesMarks_73 (by decide) ?_
                  obtain ⟨v41, h⟩ := rd_some h
                  obtain ⟨aS_42, eaS_42, h⟩ := kl_some h
                  refine va_iast hx hb hK.1 hP hD hS 1 0 rfl rfl v41 dX8_movesMarks_78 (fun H locs hP hD hS => ?_)
                  have hP : va_P D vwCl (wX8 cI h0 h1 h2 h3 h4 h5 aTh aSm aLn aAt aWe aRm aBm aHa aS_42 aSv aCm aRd aBy) H := by rw [eaS_42]; exact hP
                  have hD : va_D A (wX8 cI h0 h1 h2 h3 h4 h5 aTh aSm aLn aAt aWe aRm aBm aHa aS_42 aSv aCm aRd aBy) := by rw [eaS_42]; exact hD
                  obtain ⟨x3_43, ex3_43, h⟩ := kl_some h
                  refine lv_iinc (v := x3_43) (lv' := [(3, .int x3_43), (5, .int 1), (4, .int x4_3), (0, .ref h0), (1, .int p1), (2, .int p2)]) hx hb dX8_movesMarks_79 hl (k := 5) rfl (by rw [ex3_43]; rfl) (by decide) rfl (fun ls hl => ?_)
                  refine lv_goto (tgt := 2) hx hb dX8_movesMarks_82 (by decide) ?_
                  exact ih x3_43 aS_42 h H locs hP hD hS ls (lv_sub hl [3, 4, 5, 0] rfl)
  have hl : lv_has ls 6 [(0, .ref h0), (1, .int p1), (2, .int p2)] := hl
  have hP : va_P D vwCl (wX8 cI h0 h1 h2 h3 h4 h5 aTh aSm aLn aAt aWe aRm aBm aHa aS aSv aCm aRd aBy) s.heap := hP
  have hD : va_D A (wX8 cI h0 h1 h2 h3 h4 h5 aTh aSm aLn aAt aWe aRm aBm aHa aS aSv aCm aRd aBy) := hD
  show W p l e rm_X8_movesMarks s m args below meth c s.heap [] 0 0 (FV D below args s (wX8 cI h0 h1 h2 h3 h4 h5 aTh aSm aLn aAt aWe aRm aBm aHa (aS') aSv aCm aRd aBy) A) (F0 m 0 ls [])
  unfold f_X8_movesMarks at h
  have hmain : ∀ (H : Heap) (locs : List Loc), va_P D vwCl (wX8 cI h0 h1 h2 h3 h4 h5 aTh aSm aLn aAt aWe aRm aBm aHa aS aSv aCm aRd aBy) H → va_S A s.heap H locs → W p l e rm_X8_movesMarks s m args below meth c H locs 0 0 (FV D below args s (wX8 cI h0 h1 h2 h3 h4 h5 aTh aSm aLn aAt aWe aRm aBm aHa (aS') aSv aCm aRd aBy) A) (F0 m 0 ls []) := by
    intro H locs hP hS
    refine lv_iconst (v := 0) hx hb dX8_movesMarks_0 (by decide) ?_
    refine lv_istore_n (lv' := [(3, .int 0), (0, .ref h0), (1, .int p1), (2, .int p2)]) hx hb dX8_movesMarks_1 rfl hl (by decide) rfl (fun ls hl => ?_)
    exact c_2 Z 0 aS h H locs hP hD hS ls (lv_sub hl [1, 2, 3, 0] rfl)
  exact hmain _ _ hP hS
abbrev rm_X8_inserts : Room := { frames := 3, cells := 0, slots := 0, locals := 63 }
def f_X8_inserts_b117 (Z : Nat) (aBm : Int32) (aBy : Nat → Int32) (rec : Int32 → Int32 → (Nat → Int32) → Option ((Nat → Int32))) (x1 : Int32) (x2 : Int32) (aS : Nat → Int32) : Option ((Nat → Int32)) :=
      if aBm ≤ x2 then
        rd 0 344 (
        rd 0 344 (kl (upd aS (Int32.toNatClampNeg 0) ((aS (Int32.toNatClampNeg 0)) + aBm)) fun aS_4 =>
        (f_X8_movesMarks Z x1 aBm aS_4).bind fun aS_5 =>
        rd 1 344 (kl (upd aS_5 (Int32.toNatClampNeg 1) (x1 + aBm)) fun aS_7 =>
        rd 1 344 (
        rd 2 344 (kl (upd aS_7 (Int32.toNatClampNeg 2) (aS_7 (Int32.toNatClampNeg 1))) fun aS_10 =>
        (f_X8_setsGoal Z aS_10).bind fun aS_11 =>
        some aS_11)))))
      else
        rd x2 100 (
        rd ((80 + x1) + x2) 344 (kl (upd aS (Int32.toNatClampNeg ((80 + x1) + x2)) (aBy (Int32.toNatClampNeg x2))) fun aS_14 =>
        kl (x2 + 1) fun x2_15 =>
        rec x1 x2_15 aS_14))
def f_X8_inserts_l117 (Z : Nat) (aBm : Int32) (aBy : Nat → Int32) : Nat → Int32 → Int32 → (Nat → Int32) → Option ((Nat → Int32))
  | 0, _, _, _ => none
  | n + 1, x1, x2, aS => f_X8_inserts_b117 Z aBm aBy (f_X8_inserts_l117 Z aBm aBy n) x1 x2 aS
def f_X8_inserts_b81 (Z : Nat) (aBm : Int32) (aBy : Nat → Int32) (rec : Int32 → Int32 → (Nat → Int32) → Option ((Nat → Int32))) (x1 : Int32) (x2 : Int32) (aS : Nat → Int32) : Option ((Nat → Int32)) :=
      if x2 < x1 then
        f_X8_inserts_l117 Z aBm aBy Z x1 0 aS
      else
        rd (80 + x2) 344 (
        rd ((80 + x2) + aBm) 344 (kl (upd aS (Int32.toNatClampNeg ((80 + x2) + aBm)) (aS (Int32.toNatClampNeg (80 + x2)))) fun aS_19 =>
        kl (x2 + (-1)) fun x2_20 =>
        rec x1 x2_20 aS_19))
def f_X8_inserts_l81 (Z : Nat) (aBm : Int32) (aBy : Nat → Int32) : Nat → Int32 → Int32 → (Nat → Int32) → Option ((Nat → Int32))
  | 0, _, _, _ => none
  | n + 1, x1, x2, aS => f_X8_inserts_b81 Z aBm aBy (f_X8_inserts_l81 Z aBm aBy n) x1 x2 aS
def f_X8_inserts_b13 (Z : Nat) (aBm : Int32) (aBy : Nat → Int32) (rec : Int32 → (Nat → Int32) → Option ((Nat → Int32))) (x1 : Int32) (aS : Nat → Int32) : Option ((Nat → Int32)) :=
      rd 3 344 (
      rd 0 344 (
      if aBm ≤ ((aS (Int32.toNatClampNeg 3)) - (aS (Int32.toNatClampNeg 0))) then
        rd 0 344 (
        kl ((aS (Int32.toNatClampNeg 0)) - 1) fun x2_25 =>
        f_X8_inserts_l81 Z aBm aBy Z x1 x2_25 aS)
      else
        rd 3 344 (
        rd 3 344 (kl (upd aS (Int32.toNatClampNeg 3) ((aS (Int32.toNatClampNeg 3)) * 2)) fun aS_28 =>
        rd 5 344 (
        rd 0 344 (
        rd 5 344 (kl (upd aS_28 (Int32.toNatClampNeg 5) ((aS_28 (Int32.toNatClampNeg 5)) + (aS_28 (Int32.toNatClampNeg 0)))) fun aS_32 =>
        rd 6 344 (
        rd 6 344 (kl (upd aS_32 (Int32.toNatClampNeg 6) ((aS_32 (Int32.toNatClampNeg 6)) + 1)) fun aS_35 =>
        rec x1 aS_35)))))))))
def f_X8_inserts_l13 (Z : Nat) (aBm : Int32) (aBy : Nat → Int32) : Nat → Int32 → (Nat → Int32) → Option ((Nat → Int32))
  | 0, _, _ => none
  | n + 1, x1, aS => f_X8_inserts_b13 Z aBm aBy (f_X8_inserts_l13 Z aBm aBy n) x1 aS
def f_X8_inserts (Z : Nat) (aBm : Int32) (aS : Nat → Int32) (aBy : Nat → Int32) : Option ((Nat → Int32)) :=
  rd 1 344 (
  kl (aS (Int32.toNatClampNeg 1)) fun x1_37 =>
  (f_X8_movesGap Z x1_37 aS).bind fun (r38, aS_38) =>
  f_X8_inserts_l13 Z aBm aBy Z x1_37 aS_38)
set_option maxRecDepth 100000 in
set_option maxHeartbeats 4000000 in
theorem k_X8_inserts (l : Launch) (D : va_G) (cI cS cL : ClassId) (Z : Nat) (h0 : Nat) (h1 : Nat) (h2 : Nat) (h3 : Nat) (h4 : Nat) (h5 : Nat) (aTh : Int32) (aSm : Int32) (aLn : Int32) (aAt : Int32) (aWe : Int32) (aRm : Int32) (aBm : Int32) (aHa : Int64) (aS : Nat → Int32) (aSv : Nat → Int32) (aCm : Nat → Int32) (aRd : Nat → Int32) (aBy : Nat → Int32) {aS' : Nat → Int32} (h : f_X8_inserts Z aBm aS aBy = some aS') : CV l yX8_inserts cX8_inserts 3 none rm_X8_inserts D cI cS cL [.ref h0] (wX8 cI h0 h1 h2 h3 h4 h5 aTh aSm aLn aAt aWe aRm aBm aHa aS aSv aCm aRd aBy) (wX8 cI h0 h1 h2 h3 h4 h5 aTh aSm aLn aAt aWe aRm aBm aHa (aS') aSv aCm aRd aBy) := by
  refine ent_v (by decide +kernel) (Nat.le_of_ble_eq_true rfl) ?_
  intro p e s m args below meth c A ls hx hb hr hml hlocks hg hown hK hP hD hS hA hl
  have hown : s.vm.findClass RX8 = some m.cls := hown
  have c_117 : ∀ (n : Nat) (x1 : Int32) (x2 : Int32) (aS : Nat → Int32), f_X8_inserts_l117 Z aBm aBy n x1 x2 aS = some aS' → ∀ (H : Heap) (locs : List Loc), va_P D vwCl (wX8 cI h0 h1 h2 h3 h4 h5 aTh aSm aLn aAt aWe aRm aBm aHa aS aSv aCm aRd aBy) H → va_D A (wX8 cI h0 h1 h2 h3 h4 h5 aTh aSm aLn aAt aWe aRm aBm aHa aS aSv aCm aRd aBy) → va_S A s.heap H locs → ∀ ls : Array Slot, lv_has ls 3 [(0, .ref h0), (1, .int x1), (2, .int x2)] → W p l e rm_X8_inserts s m args below meth c H locs 0 0 (FV D below args s (wX8 cI h0 h1 h2 h3 h4 h5 aTh aSm aLn aAt aWe aRm aBm aHa (aS') aSv aCm aRd aBy) A) (F0 m 117 ls []) := by
    intro n
    induction n with
    | zero => intro x1 x2 aS h; exact no_some h
    | succ n ih =>
      intro x1 x2 aS h H locs hP hD hS ls hl
      have h : f_X8_inserts_b117 Z aBm aBy (f_X8_inserts_l117 Z aBm aBy n) x1 x2 aS = some aS' := h
      unfold f_X8_inserts_b117 at h
      refine lv_iload_n hx hb dX8_inserts_117 rfl (lv_at hl 2 rfl) ?_
      refine lv_aload_n hx hb dX8_inserts_118 rfl (lv_at hl 0 rfl) ?_
      refine va_get (D := D) (ci := 8) (v := .int aBm) (C := RX8) (T := TX8) (N := 13) hx hb hg uX8 hown hK.1 hP 0 rfl rfl 11 (by decide) (hg _ gw_951) (fun _ h9 => h9) rfl dX8_inserts_119 ?_
      refine lv_icmp_ge (tgt := 148) hx hb dX8_inserts_122 (by decide) (fun q1 => ?_) (fun q1 => ?_)
      · replace h := it_some q1 h
        refine lv_aload_n hx hb dX8_inserts_148 rfl (lv_at hl 0 rfl) ?_
        refine va_get (D := D) (ci := 8) (v := .ref h1) (C := RX8) (T := TX8) (N := 13) hx hb hg uX8 hown hK.1 hP 0 rfl rfl 1 (by decide) (hg _ gw_941) (fun _ h9 => h9) rfl dX8_inserts_149 ?_
        refine lv_iconst (v := 0) hx hb dX8_inserts_152 (by decide) ?_
        refine lv_dup2_11 hx hb dX8_inserts_153 rfl rfl ?_
        obtain ⟨v2, h⟩ := rd_some h
        refine va_iald hx hb hK.1 hP 1 0 rfl rfl v2 dX8_inserts_154 ?_
        refine lv_aload_n hx hb dX8_inserts_155 rfl (lv_at hl 0 rfl) ?_
        refine va_get (D := D) (ci := 8) (v := .int aBm) (C := RX8) (T := TX8) (N := 13) hx hb hg uX8 hown hK.1 hP 0 rfl rfl 11 (by decide) (hg _ gw_951) (fun _ h9 => h9) rfl dX8_inserts_156 ?_
        refine lv_iadd hx hb dX8_inserts_159 ?_
        obtain ⟨v3, h⟩ := rd_some h
        obtain ⟨aS_4, eaS_4, h⟩ := kl_some h
        refine va_iast hx hb hK.1 hP hD hS 1 0 rfl rfl v3 dX8_inserts_160 (fun H locs hP hD hS => ?_)
        have hP : va_P D vwCl (wX8 cI h0 h1 h2 h3 h4 h5 aTh aSm aLn aAt aWe aRm aBm aHa aS_4 aSv aCm aRd aBy) H := by rw [eaS_4]; exact hP
        have hD : va_D A (wX8 cI h0 h1 h2 h3 h4 h5 aTh aSm aLn aAt aWe aRm aBm aHa aS_4 aSv aCm aRd aBy) := by rw [eaS_4]; exact hD
        refine lv_aload_n hx hb dX8_inserts_161 rfl (lv_at hl 0 rfl) ?_
        refine lv_iload_n hx hb dX8_inserts_162 rfl (lv_at hl 1 rfl) ?_
        refine lv_aload_n hx hb dX8_inserts_163 rfl (lv_at hl 0 rfl) ?_
        refine va_get (D := D) (ci := 8) (v := .int aBm) (C := RX8) (T := TX8) (N := 13) hx hb hg uX8 hown hK.1 hP 0 rfl rfl 11 (by decide) (hg _ gw_951) (fun _ h9 => h9) rfl dX8_inserts_164 ?_
        obtain ⟨aS_5, ec5, h⟩ := bd_some h
        refine cV_v (As := [.int x1, .int aBm]) (rest := []) (wc := (wX8 cI h0 h1 h2 h3 h4 h5 aTh aSm aLn aAt aWe aRm aBm aHa aS_4 aSv aCm aRd aBy)) (wc' := (wX8 cI h0 h1 h2 h3 h4 h5 aTh aSm aLn aAt aWe aRm aBm aHa aS_5 aSv aCm aRd aBy)) hx hb hml hown hg hK hP hD hS hA hl.1 (k_X8_movesMarks l D cI cS cL Z h0 h1 h2 h3 h4 h5 x1 aBm aTh aSm aLn aAt aWe aRm aBm aHa aS_4 aSv aCm aRd aBy ec5) gm_X8_movesMarks gw_1021 ⟨rfl, rfl, by decide, by decide⟩ ⟨Nat.zero_le _, Nat.zero_le _⟩ [0, 1, 2, 3, 4, 5] rfl rfl rfl rfl rfl rfl rfl rfl (Nat.le_of_ble_eq_true rfl) dX8_inserts_167 (fun H locs hP hD hS => ?_)
        have hP : va_P D vwCl (wX8 cI h0 h1 h2 h3 h4 h5 aTh aSm aLn aAt aWe aRm aBm aHa aS_5 aSv aCm aRd aBy) H := hP
        have hD : va_D A (wX8 cI h0 h1 h2 h3 h4 h5 aTh aSm aLn aAt aWe aRm aBm aHa aS_5 aSv aCm aRd aBy) := hD
        refine lv_aload_n hx hb dX8_inserts_170 rfl (lv_at hl 0 rfl) ?_
        refine va_get (D := D) (ci := 8) (v := .ref h1) (C := RX8) (T := TX8) (N := 13) hx hb hg uX8 hown hK.1 hP 0 rfl rfl 1 (by decide) (hg _ gw_941) (fun _ h9 => h9) rfl dX8_inserts_171 ?_
        refine lv_iconst (v := 1) hx hb dX8_inserts_174 (by decide) ?_
        refine lv_iload_n hx hb dX8_inserts_175 rfl (lv_at hl 1 rfl) ?_
        refine lv_aload_n hx hb dX8_inserts_176 rfl (lv_at hl 0 rfl) ?_
        refine va_get (D := D) (ci := 8) (v := .int aBm) (C := RX8) (T := TX8) (N := 13) hx hb hg uX8 hown hK.1 hP 0 rfl rfl 11 (by decide) (hg _ gw_951) (fun _ h9 => h9) rfl dX8_inserts_177 ?_
        refine lv_iadd hx hb dX8_inserts_180 ?_
        obtain ⟨v6, h⟩ := rd_some h
        obtain ⟨aS_7, eaS_7, h⟩ := kl_some h
        refine va_iast hx hb hK.1 hP hD hS 1 0 rfl rfl v6 dX8_inserts_181 (fun H locs hP hD hS => ?_)
        have hP : va_P D vwCl (wX8 cI h0 h1 h2 h3 h4 h5 aTh aSm aLn aAt aWe aRm aBm aHa aS_7 aSv aCm aRd aBy) H := by rw [eaS_7]; exact hP
        have hD : va_D A (wX8 cI h0 h1 h2 h3 h4 h5 aTh aSm aLn aAt aWe aRm aBm aHa aS_7 aSv aCm aRd aBy) := by rw [eaS_7]; exact hD
        refine lv_aload_n hx hb dX8_inserts_182 rfl (lv_at hl 0 rfl) ?_
        refine va_get (D := D) (ci := 8) (v := .ref h1) (C := RX8) (T := TX8) (N := 13) hx hb hg uX8 hown hK.1 hP 0 rfl rfl 1 (by decide) (hg _ gw_941) (fun _ h9 => h9) rfl dX8_inserts_183 ?_
        refine lv_iconst (v := 2) hx hb dX8_inserts_186 (by decide) ?_
        refine lv_aload_n hx hb dX8_inserts_187 rfl (lv_at hl 0 rfl) ?_
        refine va_get (D := D) (ci := 8) (v := .ref h1) (C := RX8) (T := TX8) (N := 13) hx hb hg uX8 hown hK.1 hP 0 rfl rfl 1 (by decide) (hg _ gw_941) (fun _ h9 => h9) rfl dX8_inserts_188 ?_
        refine lv_iconst (v := 1) hx hb dX8_inserts_191 (by decide) ?_
        obtain ⟨v8, h⟩ := rd_some h
        refine va_iald hx hb hK.1 hP 1 0 rfl rfl v8 dX8_inserts_192 ?_
        obtain ⟨v9, h⟩ := rd_some h
        obtain ⟨aS_10, eaS_10, h⟩ := kl_some h
        refine va_iast hx hb hK.1 hP hD hS 1 0 rfl rfl v9 dX8_inserts_193 (fun H locs hP hD hS => ?_)
        have hP : va_P D vwCl (wX8 cI h0 h1 h2 h3 h4 h5 aTh aSm aLn aAt aWe aRm aBm aHa aS_10 aSv aCm aRd aBy) H := by rw [eaS_10]; exact hP
        have hD : va_D A (wX8 cI h0 h1 h2 h3 h4 h5 aTh aSm aLn aAt aWe aRm aBm aHa aS_10 aSv aCm aRd aBy) := by rw [eaS_10]; exact hD
        refine lv_aload_n hx hb dX8_inserts_194 rfl (lv_at hl 0 rfl) ?_
        obtain ⟨aS_11, ec11, h⟩ := bd_some h
        refine cV_v (As := []) (rest := []) (wc := (wX8 cI h0 h1 h2 h3 h4 h5 aTh aSm aLn aAt aWe aRm aBm aHa aS_10 aSv aCm aRd aBy)) (wc' := (wX8 cI h0 h1 h2 h3 h4 h5 aTh aSm aLn aAt aWe aRm aBm aHa aS_11 aSv aCm aRd aBy)) hx hb hml hown hg hK hP hD hS hA hl.1 (k_X8_setsGoal l D cI cS cL Z h0 h1 h2 h3 h4 h5 aTh aSm aLn aAt aWe aRm aBm aHa aS_10 aSv aCm aRd aBy ec11) gm_X8_setsGoal gw_1025 ⟨rfl, rfl, by decide, by decide⟩ ⟨Nat.zero_le _, Nat.zero_le _⟩ [0, 1, 2, 3, 4, 5] rfl rfl rfl rfl rfl rfl rfl rfl (Nat.le_of_ble_eq_true rfl) dX8_inserts_195 (fun H locs hP hD hS => ?_)
        have hP : va_P D vwCl (wX8 cI h0 h1 h2 h3 h4 h5 aTh aSm aLn aAt aWe aRm aBm aHa aS_11 aSv aCm aRd aBy) H := hP
        have hD : va_D A (wX8 cI h0 h1 h2 h3 h4 h5 aTh aSm aLn aAt aWe aRm aBm aHa aS_11 aSv aCm aRd aBy) := hD
        cases h
        exact ret_v hx hb hr hlocks hP hD hS dX8_inserts_198
      · replace h := if_some q1 h
        refine lv_aload_n hx hb dX8_inserts_125 rfl (lv_at hl 0 rfl) ?_
        refine va_get (D := D) (ci := 8) (v := .ref h1) (C := RX8) (T := TX8) (N := 13) hx hb hg uX8 hown hK.1 hP 0 rfl rfl 1 (by decide) (hg _ gw_941) (fun _ h9 => h9) rfl dX8_inserts_126 ?_
        refine lv_bipush (v := 80) hx hb dX8_inserts_129 (by decide) ?_
        refine lv_iload_n hx hb dX8_inserts_131 rfl (lv_at hl 1 rfl) ?_
        refine lv_iadd hx hb dX8_inserts_132 ?_
        refine lv_iload_n hx hb dX8_inserts_133 rfl (lv_at hl 2 rfl) ?_
        refine lv_iadd hx hb dX8_inserts_134 ?_
        refine lv_aload_n hx hb dX8_inserts_135 rfl (lv_at hl 0 rfl) ?_
        refine va_get (D := D) (ci := 8) (v := .ref h5) (C := RX8) (T := TX8) (N := 13) hx hb hg uX8 hown hK.1 hP 0 rfl rfl 10 (by decide) (hg _ gw_950) (fun _ h9 => h9) rfl dX8_inserts_136 ?_
        refine lv_iload_n hx hb dX8_inserts_139 rfl (lv_at hl 2 rfl) ?_
        obtain ⟨v12, h⟩ := rd_some h
        refine va_iald hx hb hK.1 hP 5 0 rfl rfl v12 dX8_inserts_140 ?_
        obtain ⟨v13, h⟩ := rd_some h
        obtain ⟨aS_14, eaS_14, h⟩ := kl_some h
        refine va_iast hx hb hK.1 hP hD hS 1 0 rfl rfl v13 dX8_inserts_141 (fun H locs hP hD hS => ?_)
        have hP : va_P D vwCl (wX8 cI h0 h1 h2 h3 h4 h5 aTh aSm aLn aAt aWe aRm aBm aHa aS_14 aSv aCm aRd aBy) H := by rw [eaS_14]; exact hP
        have hD : va_D A (wX8 cI h0 h1 h2 h3 h4 h5 aTh aSm aLn aAt aWe aRm aBm aHa aS_14 aSv aCm aRd aBy) := by rw [eaS_14]; exact hD
        obtain ⟨x2_15, ex2_15, h⟩ := kl_some h
        refine lv_iinc (v := x2_15) (lv' := [(2, .int x2_15), (0, .ref h0), (1, .int x1)]) hx hb dX8_inserts_142 hl (k := 2) rfl (by rw [ex2_15]; rfl) (by decide) rfl (fun ls hl => ?_)
        refine lv_goto (tgt := 117) hx hb dX8_inserts_145 (by decide) ?_
        exact ih x1 x2_15 aS_14 h H locs hP hD hS ls (lv_sub hl [1, 2, 0] rfl)
  have c_81 : ∀ (n : Nat) (x1 : Int32) (x2 : Int32) (aS : Nat → Int32), f_X8_inserts_l81 Z aBm aBy n x1 x2 aS = some aS' → ∀ (H : Heap) (locs : List Loc), va_P D vwCl (wX8 cI h0 h1 h2 h3 h4 h5 aTh aSm aLn aAt aWe aRm aBm aHa aS aSv aCm aRd aBy) H → va_D A (wX8 cI h0 h1 h2 h3 h4 h5 aTh aSm aLn aAt aWe aRm aBm aHa aS aSv aCm aRd aBy) → va_S A s.heap H locs → ∀ ls : Array Slot, lv_has ls 3 [(0, .ref h0), (1, .int x1), (2, .int x2)] → W p l e rm_X8_inserts s m args below meth c H locs 0 0 (FV D below args s (wX8 cI h0 h1 h2 h3 h4 h5 aTh aSm aLn aAt aWe aRm aBm aHa (aS') aSv aCm aRd aBy) A) (F0 m 81 ls []) := by
    intro n
    induction n with
    | zero => intro x1 x2 aS h; exact no_some h
    | succ n ih =>
      intro x1 x2 aS h H locs hP hD hS ls hl
      have h : f_X8_inserts_b81 Z aBm aBy (f_X8_inserts_l81 Z aBm aBy n) x1 x2 aS = some aS' := h
      unfold f_X8_inserts_b81 at h
      refine lv_iload_n hx hb dX8_inserts_81 rfl (lv_at hl 2 rfl) ?_
      refine lv_iload_n hx hb dX8_inserts_82 rfl (lv_at hl 1 rfl) ?_
      refine lv_icmp_lt (tgt := 115) hx hb dX8_inserts_83 (by decide) (fun q16 => ?_) (fun q16 => ?_)
      · replace h := it_some q16 h
        refine lv_iconst (v := 0) hx hb dX8_inserts_115 (by decide) ?_
        refine lv_istore_n (lv' := [(2, .int 0), (0, .ref h0), (1, .int x1)]) hx hb dX8_inserts_116 rfl hl (by decide) rfl (fun ls hl => ?_)
        exact c_117 Z x1 0 aS h H locs hP hD hS ls (lv_sub hl [1, 2, 0] rfl)
      · replace h := if_some q16 h
        refine lv_aload_n hx hb dX8_inserts_86 rfl (lv_at hl 0 rfl) ?_
        refine va_get (D := D) (ci := 8) (v := .ref h1) (C := RX8) (T := TX8) (N := 13) hx hb hg uX8 hown hK.1 hP 0 rfl rfl 1 (by decide) (hg _ gw_941) (fun _ h9 => h9) rfl dX8_inserts_87 ?_
        refine lv_bipush (v := 80) hx hb dX8_inserts_90 (by decide) ?_
        refine lv_iload_n hx hb dX8_inserts_92 rfl (lv_at hl 2 rfl) ?_
        refine lv_iadd hx hb dX8_inserts_93 ?_
        refine lv_aload_n hx hb dX8_inserts_94 rfl (lv_at hl 0 rfl) ?_
        refine va_get (D := D) (ci := 8) (v := .int aBm) (C := RX8) (T := TX8) (N := 13) hx hb hg uX8 hown hK.1 hP 0 rfl rfl 11 (by decide) (hg _ gw_951) (fun _ h9 => h9) rfl dX8_inserts_95 ?_
        refine lv_iadd hx hb dX8_inserts_98 ?_
        refine lv_aload_n hx hb dX8_inserts_99 rfl (lv_at hl 0 rfl) ?_
        refine va_get (D := D) (ci := 8) (v := .ref h1) (C := RX8) (T := TX8) (N := 13) hx hb hg uX8 hown hK.1 hP 0 rfl rfl 1 (by decide) (hg _ gw_941) (fun _ h9 => h9) rfl dX8_inserts_100 ?_
        refine lv_bipush (v := 80) hx hb dX8_inserts_103 (by decide) ?_
        refine lv_iload_n hx hb dX8_inserts_105 rfl (lv_at hl 2 rfl) ?_
        refine lv_iadd hx hb dX8_inserts_106 ?_
        obtain ⟨v17, h⟩ := rd_some h
        refine va_iald hx hb hK.1 hP 1 0 rfl rfl v17 dX8_inserts_107 ?_
        obtain ⟨v18, h⟩ := rd_some h
        obtain ⟨aS_19, eaS_19, h⟩ := kl_some h
        refine va_iast hx hb hK.1 hP hD hS 1 0 rfl rfl v18 dX8_inserts_108 (fun H locs hP hD hS => ?_)
        have hP : va_P D vwCl (wX8 cI h0 h1 h2 h3 h4 h5 aTh aSm aLn aAt aWe aRm aBm aHa aS_19 aSv aCm aRd aBy) H := by rw [eaS_19]; exact hP
        have hD : va_D A (wX8 cI h0 h1 h2 h3 h4 h5 aTh aSm aLn aAt aWe aRm aBm aHa aS_19 aSv aCm aRd aBy) := by rw [eaS_19]; exact hD
        obtain ⟨x2_20, ex2_20, h⟩ := kl_some h
        refine lv_iinc (v := x2_20) (lv' := [(2, .int x2_20), (0, .ref h0), (1, .int x1)]) hx hb dX8_inserts_109 hl (k := 2) rfl (by rw [ex2_20]; rfl) (by decide) rfl (fun ls hl => ?_)
        refine lv_goto (tgt := 81) hx hb dX8_inserts_112 (by decide) ?_
        exact ih x1 x2_20 aS_19 h H locs hP hD hS ls (lv_sub hl [1, 2, 0] rfl)
  have c_13 : ∀ (n : Nat) (x1 : Int32) (aS : Nat → Int32), f_X8_inserts_l13 Z aBm aBy n x1 aS = some aS' → ∀ (H : Heap) (locs : List Loc), va_P D vwCl (wX8 cI h0 h1 h2 h3 h4 h5 aTh aSm aLn aAt aWe aRm aBm aHa aS aSv aCm aRd aBy) H → va_D A (wX8 cI h0 h1 h2 h3 h4 h5 aTh aSm aLn aAt aWe aRm aBm aHa aS aSv aCm aRd aBy) → va_S A s.heap H locs → ∀ ls : Array Slot, lv_has ls 3 [(0, .ref h0), (1, .int x1)] → W p l e rm_X8_inserts s m args below meth c H locs 0 0 (FV D below args s (wX8 cI h0 h1 h2 h3 h4 h5 aTh aSm aLn aAt aWe aRm aBm aHa (aS') aSv aCm aRd aBy) A) (F0 m 13 ls []) := by
    intro n
    induction n with
    | zero => intro x1 aS h; exact no_some h
    | succ n ih =>
      intro x1 aS h H locs hP hD hS ls hl
      have h : f_X8_inserts_b13 Z aBm aBy (f_X8_inserts_l13 Z aBm aBy n) x1 aS = some aS' := h
      unfold f_X8_inserts_b13 at h
      refine lv_aload_n hx hb dX8_inserts_13 rfl (lv_at hl 0 rfl) ?_
      refine va_get (D := D) (ci := 8) (v := .ref h1) (C := RX8) (T := TX8) (N := 13) hx hb hg uX8 hown hK.1 hP 0 rfl rfl 1 (by decide) (hg _ gw_941) (fun _ h9 => h9) rfl dX8_inserts_14 ?_
      refine lv_iconst (v := 3) hx hb dX8_inserts_17 (by decide) ?_
      obtain ⟨v21, h⟩ := rd_some h
      refine va_iald hx hb hK.1 hP 1 0 rfl rfl v21 dX8_inserts_18 ?_
      refine lv_aload_n hx hb dX8_inserts_19 rfl (lv_at hl 0 rfl) ?_
      refine va_get (D := D) (ci := 8) (v := .ref h1) (C := RX8) (T := TX8) (N := 13) hx hb hg uX8 hown hK.1 hP 0 rfl rfl 1 (by decide) (hg _ gw_941) (fun _ h9 => h9) rfl dX8_inserts_20 ?_
      refine lv_iconst (v := 0) hx hb dX8_inserts_23 (by decide) ?_
      obtain ⟨v22, h⟩ := rd_some h
      refine va_iald hx hb hK.1 hP 1 0 rfl rfl v22 dX8_inserts_24 ?_
      refine lv_isub hx hb dX8_inserts_25 ?_
      refine lv_aload_n hx hb dX8_inserts_26 rfl (lv_at hl 0 rfl) ?_
      refine va_get (D := D) (ci := 8) (v := .int aBm) (C := RX8) (T := TX8) (N := 13) hx hb hg uX8 hown hK.1 hP 0 rfl rfl 11 (by decide) (hg _ gw_951) (fun _ h9 => h9) rfl dX8_inserts_27 ?_
      refine lv_icmp_ge (tgt := 72) hx hb dX8_inserts_30 (by decide) (fun q23 => ?_) (fun q23 => ?_)
      · replace h := it_some q23 h
        refine lv_aload_n hx hb dX8_inserts_72 rfl (lv_at hl 0 rfl) ?_
        refine va_get (D := D) (ci := 8) (v := .ref h1) (C := RX8) (T := TX8) (N := 13) hx hb hg uX8 hown hK.1 hP 0 rfl rfl 1 (by decide) (hg _ gw_941) (fun _ h9 => h9) rfl dX8_inserts_73 ?_
        refine lv_iconst (v := 0) hx hb dX8_inserts_76 (by decide) ?_
        obtain ⟨v24, h⟩ := rd_some h
        refine va_iald hx hb hK.1 hP 1 0 rfl rfl v24 dX8_inserts_77 ?_
        refine lv_iconst (v := 1) hx hb dX8_inserts_78 (by decide) ?_
        refine lv_isub hx hb dX8_inserts_79 ?_
        obtain ⟨x2_25, ex2_25, h⟩ := kl_some h
        refine nm_i ex2_25 ?_
        refine lv_istore_n (lv' := [(2, .int x2_25), (0, .ref h0), (1, .int x1)]) hx hb dX8_inserts_80 rfl hl (by decide) rfl (fun ls hl => ?_)
        exact c_81 Z x1 x2_25 aS h H locs hP hD hS ls (lv_sub hl [1, 2, 0] rfl)
      · replace h := if_some q23 h
        refine lv_aload_n hx hb dX8_inserts_33 rfl (lv_at hl 0 rfl) ?_
        refine va_get (D := D) (ci := 8) (v := .ref h1) (C := RX8) (T := TX8) (N := 13) hx hb hg uX8 hown hK.1 hP 0 rfl rfl 1 (by decide) (hg _ gw_941) (fun _ h9 => h9) rfl dX8_inserts_34 ?_
        refine lv_iconst (v := 3) hx hb dX8_inserts_37 (by decide) ?_
        refine lv_dup2_11 hx hb dX8_inserts_38 rfl rfl ?_
        obtain ⟨v26, h⟩ := rd_some h
        refine va_iald hx hb hK.1 hP 1 0 rfl rfl v26 dX8_inserts_39 ?_
        refine lv_iconst (v := 2) hx hb dX8_inserts_40 (by decide) ?_
        refine lv_imul hx hb dX8_inserts_41 ?_
        obtain ⟨v27, h⟩ := rd_some h
        obtain ⟨aS_28, eaS_28, h⟩ := kl_some h
        refine va_iast hx hb hK.1 hP hD hS 1 0 rfl rfl v27 dX8_inserts_42 (fun H locs hP hD hS => ?_)
        have hP : va_P D vwCl (wX8 cI h0 h1 h2 h3 h4 h5 aTh aSm aLn aAt aWe aRm aBm aHa aS_28 aSv aCm aRd aBy) H := by rw [eaS_28]; exact hP
        have hD : va_D A (wX8 cI h0 h1 h2 h3 h4 h5 aTh aSm aLn aAt aWe aRm aBm aHa aS_28 aSv aCm aRd aBy) := by rw [eaS_28]; exact hD
        refine lv_aload_n hx hb dX8_inserts_43 rfl (lv_at hl 0 rfl) ?_
        refine va_get (D := D) (ci := 8) (v := .ref h1) (C := RX8) (T := TX8) (N := 13) hx hb hg uX8 hown hK.1 hP 0 rfl rfl 1 (by decide) (hg _ gw_941) (fun _ h9 => h9) rfl dX8_inserts_44 ?_
        refine lv_iconst (v := 5) hx hb dX8_inserts_47 (by decide) ?_
        refine lv_dup2_11 hx hb dX8_inserts_48 rfl rfl ?_
        obtain ⟨v29, h⟩ := rd_some h
        refine va_iald hx hb hK.1 hP 1 0 rfl rfl v29 dX8_inserts_49 ?_
        refine lv_aload_n hx hb dX8_inserts_50 rfl (lv_at hl 0 rfl) ?_
        refine va_get (D := D) (ci := 8) (v := .ref h1) (C := RX8) (T := TX8) (N := 13) hx hb hg uX8 hown hK.1 hP 0 rfl rfl 1 (by decide) (hg _ gw_941) (fun _ h9 => h9) rfl dX8_inserts_51 ?_
        refine lv_iconst (v := 0) hx hb dX8_inserts_54 (by decide) ?_
        obtain ⟨v30, h⟩ := rd_some h
        refine va_iald hx hb hK.1 hP 1 0 rfl rfl v30 dX8_inserts_55 ?_
        refine lv_iadd hx hb dX8_inserts_56 ?_
        obtain ⟨v31, h⟩ := rd_some h
        obtain ⟨aS_32, eaS_32, h⟩ := kl_some h
        refine va_iast hx hb hK.1 hP hD hS 1 0 rfl rfl v31 dX8_inserts_57 (fun H locs hP hD hS => ?_)
        have hP : va_P D vwCl (wX8 cI h0 h1 h2 h3 h4 h5 aTh aSm aLn aAt aWe aRm aBm aHa aS_32 aSv aCm aRd aBy) H := by rw [eaS_32]; exact hP
        have hD : va_D A (wX8 cI h0 h1 h2 h3 h4 h5 aTh aSm aLn aAt aWe aRm aBm aHa aS_32 aSv aCm aRd aBy) := by rw [eaS_32]; exact hD
        refine lv_aload_n hx hb dX8_inserts_58 rfl (lv_at hl 0 rfl) ?_
        refine va_get (D := D) (ci := 8) (v := .ref h1) (C := RX8) (T := TX8) (N := 13) hx hb hg uX8 hown hK.1 hP 0 rfl rfl 1 (by decide) (hg _ gw_941) (fun _ h9 => h9) rfl dX8_inserts_59 ?_
        refine lv_bipush (v := 6) hx hb dX8_inserts_62 (by decide) ?_
        refine lv_dup2_11 hx hb dX8_inserts_64 rfl rfl ?_
        obtain ⟨v33, h⟩ := rd_some h
        refine va_iald hx hb hK.1 hP 1 0 rfl rfl v33 dX8_inserts_65 ?_
        refine lv_iconst (v := 1) hx hb dX8_inserts_66 (by decide) ?_
        refine lv_iadd hx hb dX8_inserts_67 ?_
        obtain ⟨v34, h⟩ := rd_some h
        obtain ⟨aS_35, eaS_35, h⟩ := kl_some h
        refine va_iast hx hb hK.1 hP hD hS 1 0 rfl rfl v34 dX8_inserts_68 (fun H locs hP hD hS => ?_)
        have hP : va_P D vwCl (wX8 cI h0 h1 h2 h3 h4 h5 aTh aSm aLn aAt aWe aRm aBm aHa aS_35 aSv aCm aRd aBy) H := by rw [eaS_35]; exact hP
        have hD : va_D A (wX8 cI h0 h1 h2 h3 h4 h5 aTh aSm aLn aAt aWe aRm aBm aHa aS_35 aSv aCm aRd aBy) := by rw [eaS_35]; exact hD
        refine lv_goto (tgt := 13) hx hb dX8_inserts_69 (by decide) ?_
        exact ih x1 aS_35 h H locs hP hD hS ls (lv_sub hl [0, 1] rfl)
  have hl : lv_has ls 3 [(0, .ref h0)] := hl
  have hP : va_P D vwCl (wX8 cI h0 h1 h2 h3 h4 h5 aTh aSm aLn aAt aWe aRm aBm aHa aS aSv aCm aRd aBy) s.heap := hP
  have hD : va_D A (wX8 cI h0 h1 h2 h3 h4 h5 aTh aSm aLn aAt aWe aRm aBm aHa aS aSv aCm aRd aBy) := hD
  show W p l e rm_X8_inserts s m args below meth c s.heap [] 0 0 (FV D below args s (wX8 cI h0 h1 h2 h3 h4 h5 aTh aSm aLn aAt aWe aRm aBm aHa (aS') aSv aCm aRd aBy) A) (F0 m 0 ls [])
  unfold f_X8_inserts at h
  have hmain : ∀ (H : Heap) (locs : List Loc), va_P D vwCl (wX8 cI h0 h1 h2 h3 h4 h5 aTh aSm aLn aAt aWe aRm aBm aHa aS aSv aCm aRd aBy) H → va_S A s.heap H locs → W p l e rm_X8_inserts s m args below meth c H locs 0 0 (FV D below args s (wX8 cI h0 h1 h2 h3 h4 h5 aTh aSm aLn aAt aWe aRm aBm aHa (aS') aSv aCm aRd aBy) A) (F0 m 0 ls []) := by
    intro H locs hP hS
    refine lv_aload_n hx hb dX8_inserts_0 rfl (lv_at hl 0 rfl) ?_
    refine va_get (D := D) (ci := 8) (v := .ref h1) (C := RX8) (T := TX8) (N := 13) hx hb hg uX8 hown hK.1 hP 0 rfl rfl 1 (by decide) (hg _ gw_941) (fun _ h9 => h9) rfl dX8_inserts_1 ?_
    refine lv_iconst (v := 1) hx hb dX8_inserts_4 (by decide) ?_
    obtain ⟨v36, h⟩ := rd_some h
    refine va_iald hx hb hK.1 hP 1 0 rfl rfl v36 dX8_inserts_5 ?_
    obtain ⟨x1_37, ex1_37, h⟩ := kl_some h
    refine nm_i ex1_37 ?_
    refine lv_istore_n (lv' := [(1, .int x1_37), (0, .ref h0)]) hx hb dX8_inserts_6 rfl hl (by decide) rfl (fun ls hl => ?_)
    refine lv_aload_n hx hb dX8_inserts_7 rfl (lv_at hl 1 rfl) ?_
    refine lv_iload_n hx hb dX8_inserts_8 rfl (lv_at hl 0 rfl) ?_
    obtain ⟨⟨r38, aS_38⟩, ec38, h⟩ := bd_some h
    refine cV_i (As := [.int x1_37]) (rest := []) (wc := (wX8 cI h0 h1 h2 h3 h4 h5 aTh aSm aLn aAt aWe aRm aBm aHa aS aSv aCm aRd aBy)) (wc' := (wX8 cI h0 h1 h2 h3 h4 h5 aTh aSm aLn aAt aWe aRm aBm aHa aS_38 aSv aCm aRd aBy)) hx hb hml hown hg hK hP hD hS hA hl.1 (k_X8_movesGap l D cI cS cL Z h0 h1 h2 h3 h4 h5 x1_37 aTh aSm aLn aAt aWe aRm aBm aHa aS aSv aCm aRd aBy ec38) gm_X8_movesGap gw_1014 ⟨rfl, rfl, by decide, by decide⟩ ⟨Nat.zero_le _, Nat.zero_le _⟩ [0, 1, 2, 3, 4, 5] rfl rfl rfl rfl rfl rfl rfl rfl (Nat.le_of_ble_eq_true rfl) dX8_inserts_9 (fun H locs hP hD hS => ?_)
    have hP : va_P D vwCl (wX8 cI h0 h1 h2 h3 h4 h5 aTh aSm aLn aAt aWe aRm aBm aHa aS_38 aSv aCm aRd aBy) H := hP
    have hD : va_D A (wX8 cI h0 h1 h2 h3 h4 h5 aTh aSm aLn aAt aWe aRm aBm aHa aS_38 aSv aCm aRd aBy) := hD
    refine lv_pop hx hb dX8_inserts_12 rfl ?_
    exact c_13 Z x1_37 aS_38 h H locs hP hD hS ls (lv_sub hl [1, 0] rfl)
  exact hmain _ _ hP hS
abbrev rm_X8_deletes : Room := { frames := 3, cells := 0, slots := 0, locals := 63 }
def f_X8_deletes_b183 (Z : Nat) (p1 : Int32) (p2 : Int32) (rec : (Nat → Int32) → Option ((Nat → Int32))) (aS : Nat → Int32) : Option ((Nat → Int32)) :=
      rd 3 344 (
      if (aS (Int32.toNatClampNeg 3)) ≤ 8 then
        (f_X8_setsGoal Z aS).bind fun aS_3 =>
        some aS_3
      else
        rd 0 344 (
        rd 3 344 (
        if (aS (Int32.toNatClampNeg 3)) < (4 * (aS (Int32.toNatClampNeg 0))) then
          (f_X8_setsGoal Z aS).bind fun aS_7 =>
          some aS_7
        else
          rd 3 344 (
          rd 3 344 (kl (upd aS (Int32.toNatClampNeg 3) ((aS (Int32.toNatClampNeg 3)) / 2)) fun aS_10 =>
          rd 5 344 (
          rd 0 344 (
          rd 5 344 (kl (upd aS_10 (Int32.toNatClampNeg 5) ((aS_10 (Int32.toNatClampNeg 5)) + (aS_10 (Int32.toNatClampNeg 0)))) fun aS_14 =>
          rd 7 344 (
          rd 7 344 (kl (upd aS_14 (Int32.toNatClampNeg 7) ((aS_14 (Int32.toNatClampNeg 7)) + 1)) fun aS_17 =>
          rec aS_17))))))))))
def f_X8_deletes_l183 (Z : Nat) (p1 : Int32) (p2 : Int32) : Nat → (Nat → Int32) → Option ((Nat → Int32))
  | 0, _ => none
  | n + 1, aS => f_X8_deletes_b183 Z p1 p2 (f_X8_deletes_l183 Z p1 p2 n) aS
def f_X8_deletes_b107 (Z : Nat) (p1 : Int32) (p2 : Int32) (rec : Int32 → (Nat → Int32) → Option ((Nat → Int32))) (x3 : Int32) (aS : Nat → Int32) : Option ((Nat → Int32)) :=
      if 4 ≤ x3 then
        rd 1 344 (kl (upd aS (Int32.toNatClampNeg 1) p1) fun aS_20 =>
        rd 2 344 (kl (upd aS_20 (Int32.toNatClampNeg 2) p1) fun aS_22 =>
        f_X8_deletes_l183 Z p1 p2 Z aS_22))
      else
        rd (12 + x3) 344 (
        kl (aS (Int32.toNatClampNeg (12 + x3))) fun x4_24 =>
        if (x4_24 - p2) ≤ p1 then
          if x4_24 ≤ p1 then
            rd (12 + x3) 344 (kl (upd aS (Int32.toNatClampNeg (12 + x3)) x4_24) fun aS_28 =>
            kl (x3 + 1) fun x3_29 =>
            rec x3_29 aS_28)
          else
            rd (12 + x3) 344 (kl (upd aS (Int32.toNatClampNeg (12 + x3)) p1) fun aS_31 =>
            kl (x3 + 1) fun x3_32 =>
            rec x3_32 aS_31)
        else
          kl (x4_24 - p2) fun x5_33 =>
          if x4_24 ≤ p1 then
            rd (12 + x3) 344 (kl (upd aS (Int32.toNatClampNeg (12 + x3)) x4_24) fun aS_36 =>
            kl (x3 + 1) fun x3_37 =>
            rec x3_37 aS_36)
          else
            rd (12 + x3) 344 (kl (upd aS (Int32.toNatClampNeg (12 + x3)) x5_33) fun aS_39 =>
            kl (x3 + 1) fun x3_40 =>
            rec x3_40 aS_39))
def f_X8_deletes_l107 (Z : Nat) (p1 : Int32) (p2 : Int32) : Nat → Int32 → (Nat → Int32) → Option ((Nat → Int32))
  | 0, _, _ => none
  | n + 1, x3, aS => f_X8_deletes_b107 Z p1 p2 (f_X8_deletes_l107 Z p1 p2 n) x3 aS
def f_X8_deletes_b77 (Z : Nat) (p1 : Int32) (p2 : Int32) (rec : Int32 → (Nat → Int32) → Option ((Nat → Int32))) (x3 : Int32) (aS : Nat → Int32) : Option ((Nat → Int32)) :=
      rd 0 344 (
      if ((aS (Int32.toNatClampNeg 0)) + p2) ≤ x3 then
        f_X8_deletes_l107 Z p1 p2 Z 0 aS
      else
        rd (80 + x3) 344 (kl (upd aS (Int32.toNatClampNeg (80 + x3)) 0) fun aS_44 =>
        kl (x3 + 1) fun x3_45 =>
        rec x3_45 aS_44))
def f_X8_deletes_l77 (Z : Nat) (p1 : Int32) (p2 : Int32) : Nat → Int32 → (Nat → Int32) → Option ((Nat → Int32))
  | 0, _, _ => none
  | n + 1, x3, aS => f_X8_deletes_b77 Z p1 p2 (f_X8_deletes_l77 Z p1 p2 n) x3 aS
def f_X8_deletes_b22 (Z : Nat) (p1 : Int32) (p2 : Int32) (rec : Int32 → (Nat → Int32) → Option ((Nat → Int32))) (x3 : Int32) (aS : Nat → Int32) : Option ((Nat → Int32)) :=
      rd 0 344 (
      if ((aS (Int32.toNatClampNeg 0)) - p2) ≤ x3 then
        rd 0 344 (
        rd 0 344 (kl (upd aS (Int32.toNatClampNeg 0) ((aS (Int32.toNatClampNeg 0)) - p2)) fun aS_50 =>
        rd 0 344 (
        kl (aS_50 (Int32.toNatClampNeg 0)) fun x3_52 =>
        f_X8_deletes_l77 Z p1 p2 Z x3_52 aS_50)))
      else
        rd ((80 + x3) + p2) 344 (
        rd (80 + x3) 344 (kl (upd aS (Int32.toNatClampNeg (80 + x3)) (aS (Int32.toNatClampNeg ((80 + x3) + p2)))) fun aS_55 =>
        kl (x3 + 1) fun x3_56 =>
        rec x3_56 aS_55)))
def f_X8_deletes_l22 (Z : Nat) (p1 : Int32) (p2 : Int32) : Nat → Int32 → (Nat → Int32) → Option ((Nat → Int32))
  | 0, _, _ => none
  | n + 1, x3, aS => f_X8_deletes_b22 Z p1 p2 (f_X8_deletes_l22 Z p1 p2 n) x3 aS
def f_X8_deletes (Z : Nat) (p1 : Int32) (p2 : Int32) (aS : Nat → Int32) : Option ((Nat → Int32)) :=
  if p2 = 0 then
    (f_X8_setsGoal Z aS).bind fun aS_60 =>
    some aS_60
  else
    rd 1 344 (
    (f_X8_movesGap Z (aS (Int32.toNatClampNeg 1)) aS).bind fun (r59, aS_59) =>
    f_X8_deletes_l22 Z p1 p2 Z p1 aS_59)
set_option maxRecDepth 100000 in
set_option maxHeartbeats 4000000 in
theorem k_X8_deletes (l : Launch) (D : va_G) (cI cS cL : ClassId) (Z : Nat) (h0 : Nat) (h1 : Nat) (h2 : Nat) (h3 : Nat) (h4 : Nat) (h5 : Nat) (p1 : Int32) (p2 : Int32) (aTh : Int32) (aSm : Int32) (aLn : Int32) (aAt : Int32) (aWe : Int32) (aRm : Int32) (aBm : Int32) (aHa : Int64) (aS : Nat → Int32) (aSv : Nat → Int32) (aCm : Nat → Int32) (aRd : Nat → Int32) (aBy : Nat → Int32) {aS' : Nat → Int32} (h : f_X8_deletes Z p1 p2 aS = some aS') : CV l yX8_deletes cX8_deletes 6 none rm_X8_deletes D cI cS cL [.ref h0, .int p1, .int p2] (wX8 cI h0 h1 h2 h3 h4 h5 aTh aSm aLn aAt aWe aRm aBm aHa aS aSv aCm aRd aBy) (wX8 cI h0 h1 h2 h3 h4 h5 aTh aSm aLn aAt aWe aRm aBm aHa (aS') aSv aCm aRd aBy) := by
  refine ent_v (by decide +kernel) (Nat.le_of_ble_eq_true rfl) ?_
  intro p e s m args below meth c A ls hx hb hr hml hlocks hg hown hK hP hD hS hA hl
  have hown : s.vm.findClass RX8 = some m.cls := hown
  have c_183 : ∀ (n : Nat) (aS : Nat → Int32), f_X8_deletes_l183 Z p1 p2 n aS = some aS' → ∀ (H : Heap) (locs : List Loc), va_P D vwCl (wX8 cI h0 h1 h2 h3 h4 h5 aTh aSm aLn aAt aWe aRm aBm aHa aS aSv aCm aRd aBy) H → va_D A (wX8 cI h0 h1 h2 h3 h4 h5 aTh aSm aLn aAt aWe aRm aBm aHa aS aSv aCm aRd aBy) → va_S A s.heap H locs → ∀ ls : Array Slot, lv_has ls 6 [(0, .ref h0)] → W p l e rm_X8_deletes s m args below meth c H locs 0 0 (FV D below args s (wX8 cI h0 h1 h2 h3 h4 h5 aTh aSm aLn aAt aWe aRm aBm aHa (aS') aSv aCm aRd aBy) A) (F0 m 183 ls []) := by
    intro n
    induction n with
    | zero => intro aS h; exact no_some h
    | succ n ih =>
      intro aS h H locs hP hD hS ls hl
      have h : f_X8_deletes_b183 Z p1 p2 (f_X8_deletes_l183 Z p1 p2 n) aS = some aS' := h
      unfold f_X8_deletes_b183 at h
      refine lv_aload_n hx hb dX8_deletes_183 rfl (lv_at hl 0 rfl) ?_
      refine va_get (D := D) (ci := 8) (v := .ref h1) (C := RX8) (T := TX8) (N := 13) hx hb hg uX8 hown hK.1 hP 0 rfl rfl 1 (by decide) (hg _ gw_941) (fun _ h9 => h9) rfl dX8_deletes_184 ?_
      refine lv_iconst (v := 3) hx hb dX8_deletes_187 (by decide) ?_
      obtain ⟨v1, h⟩ := rd_some h
      refine va_iald hx hb hK.1 hP 1 0 rfl rfl v1 dX8_deletes_188 ?_
      refine lv_bipush (v := 8) hx hb dX8_deletes_189 (by decide) ?_
      refine lv_icmp_le (tgt := 250) hx hb dX8_deletes_191 (by decide) (fun q2 => ?_) (fun q2 => ?_)
      · replace h := it_some q2 h
        refine lv_aload_n hx hb dX8_deletes_250 rfl (lv_at hl 0 rfl) ?_
        obtain ⟨aS_3, ec3, h⟩ := bd_some h
        refine cV_v (As := []) (rest := []) (wc := (wX8 cI h0 h1 h2 h3 h4 h5 aTh aSm aLn aAt aWe aRm aBm aHa aS aSv aCm aRd aBy)) (wc' := (wX8 cI h0 h1 h2 h3 h4 h5 aTh aSm aLn aAt aWe aRm aBm aHa aS_3 aSv aCm aRd aBy)) hx hb hml hown hg hK hP hD hS hA hl.1 (k_X8_setsGoal l D cI cS cL Z h0 h1 h2 h3 h4 h5 aTh aSm aLn aAt aWe aRm aBm aHa aS aSv aCm aRd aBy ec3) gm_X8_setsGoal gw_1025 ⟨rfl, rfl, by decide, by decide⟩ ⟨Nat.zero_le _, Nat.zero_le _⟩ [0, 1, 2, 3, 4, 5] rfl rfl rfl rfl rfl rfl rfl rfl (Nat.le_of_ble_eq_true rfl) dX8_deletes_251 (fun H locs hP hD hS => ?_)
        have hP : va_P D vwCl (wX8 cI h0 h1 h2 h3 h4 h5 aTh aSm aLn aAt aWe aRm aBm aHa aS_3 aSv aCm aRd aBy) H := hP
        have hD : va_D A (wX8 cI h0 h1 h2 h3 h4 h5 aTh aSm aLn aAt aWe aRm aBm aHa aS_3 aSv aCm aRd aBy) := hD
        cases h
        exact ret_v hx hb hr hlocks hP hD hS dX8_deletes_254
      · replace h := if_some q2 h
        refine lv_iconst (v := 4) hx hb dX8_deletes_194 (by decide) ?_
        refine lv_aload_n hx hb dX8_deletes_195 rfl (lv_at hl 0 rfl) ?_
        refine va_get (D := D) (ci := 8) (v := .ref h1) (C := RX8) (T := TX8) (N := 13) hx hb hg uX8 hown hK.1 hP 0 rfl rfl 1 (by decide) (hg _ gw_941) (fun _ h9 => h9) rfl dX8_deletes_196 ?_
        refine lv_iconst (v := 0) hx hb dX8_deletes_199 (by decide) ?_
        obtain ⟨v4, h⟩ := rd_some h
        refine va_iald hx hb hK.1 hP 1 0 rfl rfl v4 dX8_deletes_200 ?_
        refine lv_imul hx hb dX8_deletes_201 ?_
        refine lv_aload_n hx hb dX8_deletes_202 rfl (lv_at hl 0 rfl) ?_
        refine va_get (D := D) (ci := 8) (v := .ref h1) (C := RX8) (T := TX8) (N := 13) hx hb hg uX8 hown hK.1 hP 0 rfl rfl 1 (by decide) (hg _ gw_941) (fun _ h9 => h9) rfl dX8_deletes_203 ?_
        refine lv_iconst (v := 3) hx hb dX8_deletes_206 (by decide) ?_
        obtain ⟨v5, h⟩ := rd_some h
        refine va_iald hx hb hK.1 hP 1 0 rfl rfl v5 dX8_deletes_207 ?_
        refine lv_icmp_gt (tgt := 250) hx hb dX8_deletes_208 (by decide) (fun q6 => ?_) (fun q6 => ?_)
        · replace h := it_some q6 h
          refine lv_aload_n hx hb dX8_deletes_250 rfl (lv_at hl 0 rfl) ?_
          obtain ⟨aS_7, ec7, h⟩ := bd_some h
          refine cV_v (As := []) (rest := []) (wc := (wX8 cI h0 h1 h2 h3 h4 h5 aTh aSm aLn aAt aWe aRm aBm aHa aS aSv aCm aRd aBy)) (wc' := (wX8 cI h0 h1 h2 h3 h4 h5 aTh aSm aLn aAt aWe aRm aBm aHa aS_7 aSv aCm aRd aBy)) hx hb hml hown hg hK hP hD hS hA hl.1 (k_X8_setsGoal l D cI cS cL Z h0 h1 h2 h3 h4 h5 aTh aSm aLn aAt aWe aRm aBm aHa aS aSv aCm aRd aBy ec7) gm_X8_setsGoal gw_1025 ⟨rfl, rfl, by decide, by decide⟩ ⟨Nat.zero_le _, Nat.zero_le _⟩ [0, 1, 2, 3, 4, 5] rfl rfl rfl rfl rfl rfl rfl rfl (Nat.le_of_ble_eq_true rfl) dX8_deletes_251 (fun H locs hP hD hS => ?_)
          have hP : va_P D vwCl (wX8 cI h0 h1 h2 h3 h4 h5 aTh aSm aLn aAt aWe aRm aBm aHa aS_7 aSv aCm aRd aBy) H := hP
          have hD : va_D A (wX8 cI h0 h1 h2 h3 h4 h5 aTh aSm aLn aAt aWe aRm aBm aHa aS_7 aSv aCm aRd aBy) := hD
          cases h
          exact ret_v hx hb hr hlocks hP hD hS dX8_deletes_254
        · replace h := if_some q6 h
          refine lv_aload_n hx hb dX8_deletes_211 rfl (lv_at hl 0 rfl) ?_
          refine va_get (D := D) (ci := 8) (v := .ref h1) (C := RX8) (T := TX8) (N := 13) hx hb hg uX8 hown hK.1 hP 0 rfl rfl 1 (by decide) (hg _ gw_941) (fun _ h9 => h9) rfl dX8_deletes_212 ?_
          refine lv_iconst (v := 3) hx hb dX8_deletes_215 (by decide) ?_
          refine lv_dup2_11 hx hb dX8_deletes_216 rfl rfl ?_
          obtain ⟨v8, h⟩ := rd_some h
          refine va_iald hx hb hK.1 hP 1 0 rfl rfl v8 dX8_deletes_217 ?_
          refine lv_iconst (v := 2) hx hb dX8_deletes_218 (by decide) ?_
          refine lv_idiv hx hb dX8_deletes_219 (by decide) ?_
          obtain ⟨v9, h⟩ := rd_some h
          obtain ⟨aS_10, eaS_10, h⟩ := kl_some h
          refine va_iast hx hb hK.1 hP hD hS 1 0 rfl rfl v9 dX8_deletes_220 (fun H locs hP hD hS => ?_)
          have hP : va_P D vwCl (wX8 cI h0 h1 h2 h3 h4 h5 aTh aSm aLn aAt aWe aRm aBm aHa aS_10 aSv aCm aRd aBy) H := by rw [eaS_10]; exact hP
          have hD : va_D A (wX8 cI h0 h1 h2 h3 h4 h5 aTh aSm aLn aAt aWe aRm aBm aHa aS_10 aSv aCm aRd aBy) := by rw [eaS_10]; exact hD
          refine lv_aload_n hx hb dX8_deletes_221 rfl (lv_at hl 0 rfl) ?_
          refine va_get (D := D) (ci := 8) (v := .ref h1) (C := RX8) (T := TX8) (N := 13) hx hb hg uX8 hown hK.1 hP 0 rfl rfl 1 (by decide) (hg _ gw_941) (fun _ h9 => h9) rfl dX8_deletes_222 ?_
          refine lv_iconst (v := 5) hx hb dX8_deletes_225 (by decide) ?_
          refine lv_dup2_11 hx hb dX8_deletes_226 rfl rfl ?_
          obtain ⟨v11, h⟩ := rd_some h
          refine va_iald hx hb hK.1 hP 1 0 rfl rfl v11 dX8_deletes_227 ?_
          refine lv_aload_n hx hb dX8_deletes_228 rfl (lv_at hl 0 rfl) ?_
          refine va_get (D := D) (ci := 8) (v := .ref h1) (C := RX8) (T := TX8) (N := 13) hx hb hg uX8 hown hK.1 hP 0 rfl rfl 1 (by decide) (hg _ gw_941) (fun _ h9 => h9) rfl dX8_deletes_229 ?_
          refine lv_iconst (v := 0) hx hb dX8_deletes_232 (by decide) ?_
          obtain ⟨v12, h⟩ := rd_some h
          refine va_iald hx hb hK.1 hP 1 0 rfl rfl v12 dX8_deletes_233 ?_
          refine lv_iadd hx hb dX8_deletes_234 ?_
          obtain ⟨v13, h⟩ := rd_some h
          obtain ⟨aS_14, eaS_14, h⟩ := kl_some h
          refine va_iast hx hb hK.1 hP hD hS 1 0 rfl rfl v13 dX8_deletes_235 (fun H locs hP hD hS => ?_)
          have hP : va_P D vwCl (wX8 cI h0 h1 h2 h3 h4 h5 aTh aSm aLn aAt aWe aRm aBm aHa aS_14 aSv aCm aRd aBy) H := by rw [eaS_14]; exact hP
          have hD : va_D A (wX8 cI h0 h1 h2 h3 h4 h5 aTh aSm aLn aAt aWe aRm aBm aHa aS_14 aSv aCm aRd aBy) := by rw [eaS_14]; exact hD
          refine lv_aload_n hx hb dX8_deletes_236 rfl (lv_at hl 0 rfl) ?_
          refine va_get (D := D) (ci := 8) (v := .ref h1) (C := RX8) (T := TX8) (N := 13) hx hb hg uX8 hown hK.1 hP 0 rfl rfl 1 (by decide) (hg _ gw_941) (fun _ h9 => h9) rfl dX8_deletes_237 ?_
          refine lv_bipush (v := 7) hx hb dX8_deletes_240 (by decide) ?_
          refine lv_dup2_11 hx hb dX8_deletes_242 rfl rfl ?_
          obtain ⟨v15, h⟩ := rd_some h
          refine va_iald hx hb hK.1 hP 1 0 rfl rfl v15 dX8_deletes_243 ?_
          refine lv_iconst (v := 1) hx hb dX8_deletes_244 (by decide) ?_
          refine lv_iadd hx hb dX8_deletes_245 ?_
          obtain ⟨v16, h⟩ := rd_some h
          obtain ⟨aS_17, eaS_17, h⟩ := kl_some h
          refine va_iast hx hb hK.1 hP hD hS 1 0 rfl rfl v16 dX8_deletes_246 (fun H locs hP hD hS => ?_)
          have hP : va_P D vwCl (wX8 cI h0 h1 h2 h3 h4 h5 aTh aSm aLn aAt aWe aRm aBm aHa aS_17 aSv aCm aRd aBy) H := by rw [eaS_17]; exact hP
          have hD : va_D A (wX8 cI h0 h1 h2 h3 h4 h5 aTh aSm aLn aAt aWe aRm aBm aHa aS_17 aSv aCm aRd aBy) := by rw [eaS_17]; exact hD
          refine lv_goto (tgt := 183) hx hb dX8_deletes_247 (by decide) ?_
          exact ih aS_17 h H locs hP hD hS ls (lv_sub hl [0] rfl)
  have c_107 : ∀ (n : Nat) (x3 : Int32) (aS : Nat → Int32), f_X8_deletes_l107 Z p1 p2 n x3 aS = some aS' → ∀ (H : Heap) (locs : List Loc), va_P D vwCl (wX8 cI h0 h1 h2 h3 h4 h5 aTh aSm aLn aAt aWe aRm aBm aHa aS aSv aCm aRd aBy) H → va_D A (wX8 cI h0 h1 h2 h3 h4 h5 aTh aSm aLn aAt aWe aRm aBm aHa aS aSv aCm aRd aBy) → va_S A s.heap H locs → ∀ ls : Array Slot, lv_has ls 6 [(0, .ref h0), (1, .int p1), (2, .int p2), (3, .int x3)] → W p l e rm_X8_deletes s m args below meth c H locs 0 0 (FV D below args s (wX8 cI h0 h1 h2 h3 h4 h5 aTh aSm aLn aAt aWe aRm aBm aHa (aS') aSv aCm aRd aBy) A) (F0 m 107 ls []) := by
    intro n
    induction n with
    | zero => intro x3 aS h; exact no_some h
    | succ n ih =>
      intro x3 aS h H locs hP hD hS ls hl
      have h : f_X8_deletes_b107 Z p1 p2 (f_X8_deletes_l107 Z p1 p2 n) x3 aS = some aS' := h
      unfold f_X8_deletes_b107 at h
      refine lv_iload_n hx hb dX8_deletes_107 rfl (lv_at hl 3 rfl) ?_
      refine lv_iconst (v := 4) hx hb dX8_deletes_108 (by decide) ?_
      refine lv_icmp_ge (tgt := 169) hx hb dX8_deletes_109 (by decide) (fun q18 => ?_) (fun q18 => ?_)
      · replace h := it_some q18 h
        refine lv_aload_n hx hb dX8_deletes_169 rfl (lv_at hl 0 rfl) ?_
        refine va_get (D := D) (ci := 8) (v := .ref h1) (C := RX8) (T := TX8) (N := 13) hx hb hg uX8 hown hK.1 hP 0 rfl rfl 1 (by decide) (hg _ gw_941) (fun _ h9 => h9) rfl dX8_deletes_170 ?_
        refine lv_iconst (v := 1) hx hb dX8_deletes_173 (by decide) ?_
        refine lv_iload_n hx hb dX8_deletes_174 rfl (lv_at hl 1 rfl) ?_
        obtain ⟨v19, h⟩ := rd_some h
        obtain ⟨aS_20, eaS_20, h⟩ := kl_some h
        refine va_iast hx hb hK.1 hP hD hS 1 0 rfl rfl v19 dX8_deletes_175 (fun H locs hP hD hS => ?_)
        have hP : va_P D vwCl (wX8 cI h0 h1 h2 h3 h4 h5 aTh aSm aLn aAt aWe aRm aBm aHa aS_20 aSv aCm aRd aBy) H := by rw [eaS_20]; exact hP
        have hD : va_D A (wX8 cI h0 h1 h2 h3 h4 h5 aTh aSm aLn aAt aWe aRm aBm aHa aS_20 aSv aCm aRd aBy) := by rw [eaS_20]; exact hD
        refine lv_aload_n hx hb dX8_deletes_176 rfl (lv_at hl 0 rfl) ?_
        refine va_get (D := D) (ci := 8) (v := .ref h1) (C := RX8) (T := TX8) (N := 13) hx hb hg uX8 hown hK.1 hP 0 rfl rfl 1 (by decide) (hg _ gw_941) (fun _ h9 => h9) rfl dX8_deletes_177 ?_
        refine lv_iconst (v := 2) hx hb dX8_deletes_180 (by decide) ?_
        refine lv_iload_n hx hb dX8_deletes_181 rfl (lv_at hl 1 rfl) ?_
        obtain ⟨v21, h⟩ := rd_some h
        obtain ⟨aS_22, eaS_22, h⟩ := kl_some h
        refine va_iast hx hb hK.1 hP hD hS 1 0 rfl rfl v21 dX8_deletes_182 (fun H locs hP hD hS => ?_)
        have hP : va_P D vwCl (wX8 cI h0 h1 h2 h3 h4 h5 aTh aSm aLn aAt aWe aRm aBm aHa aS_22 aSv aCm aRd aBy) H := by rw [eaS_22]; exact hP
        have hD : va_D A (wX8 cI h0 h1 h2 h3 h4 h5 aTh aSm aLn aAt aWe aRm aBm aHa aS_22 aSv aCm aRd aBy) := by rw [eaS_22]; exact hD
        exact c_183 Z aS_22 h H locs hP hD hS ls (lv_sub hl [0] rfl)
      · replace h := if_some q18 h
        refine lv_aload_n hx hb dX8_deletes_112 rfl (lv_at hl 0 rfl) ?_
        refine va_get (D := D) (ci := 8) (v := .ref h1) (C := RX8) (T := TX8) (N := 13) hx hb hg uX8 hown hK.1 hP 0 rfl rfl 1 (by decide) (hg _ gw_941) (fun _ h9 => h9) rfl dX8_deletes_113 ?_
        refine lv_bipush (v := 12) hx hb dX8_deletes_116 (by decide) ?_
        refine lv_iload_n hx hb dX8_deletes_118 rfl (lv_at hl 3 rfl) ?_
        refine lv_iadd hx hb dX8_deletes_119 ?_
        obtain ⟨v23, h⟩ := rd_some h
        refine va_iald hx hb hK.1 hP 1 0 rfl rfl v23 dX8_deletes_120 ?_
        obtain ⟨x4_24, ex4_24, h⟩ := kl_some h
        refine nm_i ex4_24 ?_
        refine lv_istore (lv' := [(4, .int x4_24), (0, .ref h0), (1, .int p1), (2, .int p2), (3, .int x3)]) hx hb dX8_deletes_121 hl (by decide) rfl (fun ls hl => ?_)
        refine lv_iload hx hb dX8_deletes_123 (lv_at hl 0 rfl) ?_
        refine lv_iload_n hx hb dX8_deletes_125 rfl (lv_at hl 3 rfl) ?_
        refine lv_isub hx hb dX8_deletes_126 ?_
        refine lv_iload_n hx hb dX8_deletes_127 rfl (lv_at hl 2 rfl) ?_
        refine lv_icmp_le (tgt := 138) hx hb dX8_deletes_128 (by decide) (fun q25 => ?_) (fun q25 => ?_)
        · replace h := it_some q25 h
          refine lv_iload_n hx hb dX8_deletes_138 rfl (lv_at hl 2 rfl) ?_
          refine lv_istore (lv' := [(5, .int p1), (4, .int x4_24), (0, .ref h0), (1, .int p1), (2, .int p2), (3, .int x3)]) hx hb dX8_deletes_139 hl (by decide) rfl (fun ls hl => ?_)
          refine lv_aload_n hx hb dX8_deletes_141 rfl (lv_at hl 2 rfl) ?_
          refine va_get (D := D) (ci := 8) (v := .ref h1) (C := RX8) (T := TX8) (N := 13) hx hb hg uX8 hown hK.1 hP 0 rfl rfl 1 (by decide) (hg _ gw_941) (fun _ h9 => h9) rfl dX8_deletes_142 ?_
          refine lv_bipush (v := 12) hx hb dX8_deletes_145 (by decide) ?_
          refine lv_iload_n hx hb dX8_deletes_147 rfl (lv_at hl 5 rfl) ?_
          refine lv_iadd hx hb dX8_deletes_148 ?_
          refine lv_iload hx hb dX8_deletes_149 (lv_at hl 1 rfl) ?_
          refine lv_iload_n hx hb dX8_deletes_151 rfl (lv_at hl 3 rfl) ?_
          refine lv_icmp_le (tgt := 160) hx hb dX8_deletes_152 (by decide) (fun q26 => ?_) (fun q26 => ?_)
          · replace h := it_some q26 h
            refine lv_iload hx hb dX8_deletes_160 (lv_at hl 1 rfl) ?_
            obtain ⟨v27, h⟩ := rd_some h
            obtain ⟨aS_28, eaS_28, h⟩ := kl_some h
            refine va_iast hx hb hK.1 hP hD hS 1 0 rfl rfl v27 dX8_deletes_162 (fun H locs hP hD hS => ?_)
            have hP : va_P D vwCl (wX8 cI h0 h1 h2 h3 h4 h5 aTh aSm aLn aAt aWe aRm aBm aHa aS_28 aSv aCm aRd aBy) H := by rw [eaS_28]; exact hP
            have hD : va_D A (wX8 cI h0 h1 h2 h3 h4 h5 aTh aSm aLn aAt aWe aRm aBm aHa aS_28 aSv aCm aRd aBy) := by rw [eaS_28]; exact hD
            obtain ⟨x3_29, ex3_29, h⟩ := kl_some h
            refine lv_iinc (v := x3_29) (lv' := [(3, .int x3_29), (5, .int p1), (4, .int x4_24), (0, .ref h0), (1, .int p1), (2, .int p2)]) hx hb dX8_deletes_163 hl (k := 5) rfl (by rw [ex3_29]; rfl) (by decide) rfl (fun ls hl => ?_)
            refine lv_goto (tgt := 107) hx hb dX8_deletes_166 (by decide) ?_
            exact ih x3_29 aS_28 h H locs hP hD hS ls (lv_sub hl [3, 4, 5, 0] rfl)
          · replace h := if_some q26 h
            refine lv_iload hx hb dX8_deletes_155 (lv_at hl 0 rfl) ?_
            refine lv_goto (tgt := 162) hx hb dX8_deletes_157 (by decide) ?_
            obtain ⟨v30, h⟩ := rd_some h
            obtain ⟨aS_31, eaS_31, h⟩ := kl_some h
            refine va_iast hx hb hK.1 hP hD hS 1 0 rfl rfl v30 dX8_deletes_162 (fun H locs hP hD hS => ?_)
            have hP : va_P D vwCl (wX8 cI h0 h1 h2 h3 h4 h5 aTh aSm aLn aAt aWe aRm aBm aHa aS_31 aSv aCm aRd aBy) H := by rw [eaS_31]; exact hP
            have hD : va_D A (wX8 cI h0 h1 h2 h3 h4 h5 aTh aSm aLn aAt aWe aRm aBm aHa aS_31 aSv aCm aRd aBy) := by rw [eaS_31]; exact hD
            obtain ⟨x3_32, ex3_32, h⟩ := kl_some h
            refine lv_iinc (v := x3_32) (lv' := [(3, .int x3_32), (5, .int p1), (4, .int x4_24), (0, .ref h0), (1, .int p1), (2, .int p2)]) hx hb dX8_deletes_163 hl (k := 5) rfl (by rw [ex3_32]; rfl) (by decide) rfl (fun ls hl => ?_)
            refine lv_goto (tgt := 107) hx hb dX8_deletes_166 (by decide) ?_
            exact ih x3_32 aS_31 h H locs hP hD hS ls (lv_sub hl [3, 4, 5, 0] rfl)
        · replace h := if_some q25 h
          refine lv_iload hx hb dX8_deletes_131 (lv_at hl 0 rfl) ?_
          refine lv_iload_n hx hb dX8_deletes_133 rfl (lv_at hl 3 rfl) ?_
          refine lv_isub hx hb dX8_deletes_134 ?_
          refine lv_goto (tgt := 139) hx hb dX8_deletes_135 (by decide) ?_
          obtain ⟨x5_33, ex5_33, h⟩ := kl_some h
          refine nm_i ex5_33 ?_
          refine lv_istore (lv' := [(5, .int x5_33), (4, .int x4_24), (0, .ref h0), (1, .int p1), (2, .int p2), (3, .int x3)]) hx hb dX8_deletes_139 hl (by decide) rfl (fun ls hl => ?_)
          refine lv_aload_n hx hb dX8_deletes_141 rfl (lv_at hl 2 rfl) ?_
          refine va_get (D := D) (ci := 8) (v := .ref h1) (C := RX8) (T := TX8) (N := 13) hx hb hg uX8 hown hK.1 hP 0 rfl rfl 1 (by decide) (hg _ gw_941) (fun _ h9 => h9) rfl dX8_deletes_142 ?_
          refine lv_bipush (v := 12) hx hb dX8_deletes_145 (by decide) ?_
          refine lv_iload_n hx hb dX8_deletes_147 rfl (lv_at hl 5 rfl) ?_
          refine lv_iadd hx hb dX8_deletes_148 ?_
          refine lv_iload hx hb dX8_deletes_149 (lv_at hl 1 rfl) ?_
          refine lv_iload_n hx hb dX8_deletes_151 rfl (lv_at hl 3 rfl) ?_
          refine lv_icmp_le (tgt := 160) hx hb dX8_deletes_152 (by decide) (fun q34 => ?_) (fun q34 => ?_)
          · replace h := it_some q34 h
            refine lv_iload hx hb dX8_deletes_160 (lv_at hl 1 rfl) ?_
            obtain ⟨v35, h⟩ := rd_some h
            obtain ⟨aS_36, eaS_36, h⟩ := kl_some h
            refine va_iast hx hb hK.1 hP hD hS 1 0 rfl rfl v35 dX8_deletes_162 (fun H locs hP hD hS => ?_)
            have hP : va_P D vwCl (wX8 cI h0 h1 h2 h3 h4 h5 aTh aSm aLn aAt aWe aRm aBm aHa aS_36 aSv aCm aRd aBy) H := by rw [eaS_36]; exact hP
            have hD : va_D A (wX8 cI h0 h1 h2 h3 h4 h5 aTh aSm aLn aAt aWe aRm aBm aHa aS_36 aSv aCm aRd aBy) := by rw [eaS_36]; exact hD
            obtain ⟨x3_37, ex3_37, h⟩ := kl_some h
            refine lv_iinc (v := x3_37) (lv' := [(3, .int x3_37), (5, .int x5_33), (4, .int x4_24), (0, .ref h0), (1, .int p1), (2, .int p2)]) hx hb dX8_deletes_163 hl (k := 5) rfl (by rw [ex3_37]; rfl) (by decide) rfl (fun ls hl => ?_)
            refine lv_goto (tgt := 107) hx hb dX8_deletes_166 (by decide) ?_
            exact ih x3_37 aS_36 h H locs hP hD hS ls (lv_sub hl [3, 4, 5, 0] rfl)
          · replace h := if_some q34 h
            refine lv_iload hx hb dX8_deletes_155 (lv_at hl 0 rfl) ?_
            refine lv_goto (tgt := 162) hx hb dX8_deletes_157 (by decide) ?_
            obtain ⟨v38, h⟩ := rd_some h
            obtain ⟨aS_39, eaS_39, h⟩ := kl_some h
            refine va_iast hx hb hK.1 hP hD hS 1 0 rfl rfl v38 dX8_deletes_162 (fun H locs hP hD hS => ?_)
            have hP : va_P D vwCl (wX8 cI h0 h1 h2 h3 h4 h5 aTh aSm aLn aAt aWe aRm aBm aHa aS_39 aSv aCm aRd aBy) H := by rw [eaS_39]; exact hP
            have hD : va_D A (wX8 cI h0 h1 h2 h3 h4 h5 aTh aSm aLn aAt aWe aRm aBm aHa aS_39 aSv aCm aRd aBy) := by rw [eaS_39]; exact hD
            obtain ⟨x3_40, ex3_40, h⟩ := kl_some h
            refine lv_iinc (v := x3_40) (lv' := [(3, .int x3_40), (5, .int x5_33), (4, .int x4_24), (0, .ref h0), (1, .int p1), (2, .int p2)]) hx hb dX8_deletes_163 hl (k := 5) rfl (by rw [ex3_40]; rfl) (by decide) rfl (fun ls hl => ?_)
            refine lv_goto (tgt := 107) hx hb dX8_deletes_166 (by decide) ?_
            exact ih x3_40 aS_39 h H locs hP hD hS ls (lv_sub hl [3, 4, 5, 0] rfl)
  have c_77 : ∀ (n : Nat) (x3 : Int32) (aS : Nat → Int32), f_X8_deletes_l77 Z p1 p2 n x3 aS = some aS' → ∀ (H : Heap) (locs : List Loc), va_P D vwCl (wX8 cI h0 h1 h2 h3 h4 h5 aTh aSm aLn aAt aWe aRm aBm aHa aS aSv aCm aRd aBy) H → va_D A (wX8 cI h0 h1 h2 h3 h4 h5 aTh aSm aLn aAt aWe aRm aBm aHa aS aSv aCm aRd aBy) → va_S A s.heap H locs → ∀ ls : Array Slot, lv_has ls 6 [(0, .ref h0), (1, .int p1), (2, .int p2), (3, .int x3)] → W p l e rm_X8_deletes s m args below meth c H locs 0 0 (FV D below args s (wX8 cI h0 h1 h2 h3 h4 h5 aTh aSm aLn aAt aWe aRm aBm aHa (aS') aSv aCm aRd aBy) A) (F0 m 77 ls []) := by
    intro n
    induction n with
    | zero => intro x3 aS h; exact no_some h
    | succ n ih =>
      intro x3 aS h H locs hP hD hS ls hl
      have h : f_X8_deletes_b77 Z p1 p2 (f_X8_deletes_l77 Z p1 p2 n) x3 aS = some aS' := h
      unfold f_X8_deletes_b77 at h
      refine lv_iload_n hx hb dX8_deletes_77 rfl (lv_at hl 3 rfl) ?_
      refine lv_aload_n hx hb dX8_deletes_78 rfl (lv_at hl 0 rfl) ?_
      refine va_get (D := D) (ci := 8) (v := .ref h1) (C := RX8) (T := TX8) (N := 13) hx hb hg uX8 hown hK.1 hP 0 rfl rfl 1 (by decide) (hg _ gw_941) (fun _ h9 => h9) rfl dX8_deletes_79 ?_
      refine lv_iconst (v := 0) hx hb dX8_deletes_82 (by decide) ?_
      obtain ⟨v41, h⟩ := rd_some h
      refine va_iald hx hb hK.1 hP 1 0 rfl rfl v41 dX8_deletes_83 ?_
      refine lv_iload_n hx hb dX8_deletes_84 rfl (lv_at hl 2 rfl) ?_
      refine lv_iadd hx hb dX8_deletes_85 ?_
      refine lv_icmp_ge (tgt := 105) hx hb dX8_deletes_86 (by decide) (fun q42 => ?_) (fun q42 => ?_)
      · replace h := it_some q42 h
        refine lv_iconst (v := 0) hx hb dX8_deletes_105 (by decide) ?_
        refine lv_istore_n (lv' := [(3, .int 0), (0, .ref h0), (1, .int p1), (2, .int p2)]) hx hb dX8_deletes_106 rfl hl (by decide) rfl (fun ls hl => ?_)
        exact c_107 Z 0 aS h H locs hP hD hS ls (lv_sub hl [1, 2, 3, 0] rfl)
      · replace h := if_some q42 h
        refine lv_aload_n hx hb dX8_deletes_89 rfl (lv_at hl 0 rfl) ?_
        refine va_get (D := D) (ci := 8) (v := .ref h1) (C := RX8) (T := TX8) (N := 13) hx hb hg uX8 hown hK.1 hP 0 rfl rfl 1 (by decide) (hg _ gw_941) (fun _ h9 => h9) rfl dX8_deletes_90 ?_
        refine lv_bipush (v := 80) hx hb dX8_deletes_93 (by decide) ?_
        refine lv_iload_n hx hb dX8_deletes_95 rfl (lv_at hl 3 rfl) ?_
        refine lv_iadd hx hb dX8_deletes_96 ?_
        refine lv_iconst (v := 0) hx hb dX8_deletes_97 (by decide) ?_
        obtain ⟨v43, h⟩ := rd_some h
        obtain ⟨aS_44, eaS_44, h⟩ := kl_some h
        refine va_iast hx hb hK.1 hP hD hS 1 0 rfl rfl v43 dX8_deletes_98 (fun H locs hP hD hS => ?_)
        have hP : va_P D vwCl (wX8 cI h0 h1 h2 h3 h4 h5 aTh aSm aLn aAt aWe aRm aBm aHa aS_44 aSv aCm aRd aBy) H := by rw [eaS_44]; exact hP
        have hD : va_D A (wX8 cI h0 h1 h2 h3 h4 h5 aTh aSm aLn aAt aWe aRm aBm aHa aS_44 aSv aCm aRd aBy) := by rw [eaS_44]; exact hD
        obtain ⟨x3_45, ex3_45, h⟩ := kl_some h
        refine lv_iinc (v := x3_45) (lv' := [(3, .int x3_45), (0, .ref h0), (1, .int p1), (2, .int p2)]) hx hb dX8_deletes_99 hl (k := 3) rfl (by rw [ex3_45]; rfl) (by decide) rfl (fun ls hl => ?_)
        refine lv_goto (tgt := 77) hx hb dX8_deletes_102 (by decide) ?_
        exact ih x3_45 aS_44 h H locs hP hD hS ls (lv_sub hl [1, 2, 3, 0] rfl)
  have c_22 : ∀ (n : Nat) (x3 : Int32) (aS : Nat → Int32), f_X8_deletes_l22 Z p1 p2 n x3 aS = some aS' → ∀ (H : Heap) (locs : List Loc), va_P D vwCl (wX8 cI h0 h1 h2 h3 h4 h5 aTh aSm aLn aAt aWe aRm aBm aHa aS aSv aCm aRd aBy) H → va_D A (wX8 cI h0 h1 h2 h3 h4 h5 aTh aSm aLn aAt aWe aRm aBm aHa aS aSv aCm aRd aBy) → va_S A s.heap H locs → ∀ ls : Array Slot, lv_has ls 6 [(0, .ref h0), (1, .int p1), (2, .int p2), (3, .int x3)] → W p l e rm_X8_deletes s m args below meth c H locs 0 0 (FV D below args s (wX8 cI h0 h1 h2 h3 h4 h5 aTh aSm aLn aAt aWe aRm aBm aHa (aS') aSv aCm aRd aBy) A) (F0 m 22 ls []) := by
    intro n
    induction n with
    | zero => intro x3 aS h; exact no_some h
    | succ n ih =>
      intro x3 aS h H locs hP hD hS ls hl
      have h : f_X8_deletes_b22 Z p1 p2 (f_X8_deletes_l22 Z p1 p2 n) x3 aS = some aS' := h
      unfold f_X8_deletes_b22 at h
      refine lv_iload_n hx hb dX8_deletes_22 rfl (lv_at hl 3 rfl) ?_
      refine lv_aload_n hx hb dX8_deletes_23 rfl (lv_at hl 0 rfl) ?_
      refine va_get (D := D) (ci := 8) (v := .ref h1) (C := RX8) (T := TX8) (N := 13) hx hb hg uX8 hown hK.1 hP 0 rfl rfl 1 (by decide) (hg _ gw_941) (fun _ h9 => h9) rfl dX8_deletes_24 ?_
      refine lv_iconst (v := 0) hx hb dX8_deletes_27 (by decide) ?_
      obtain ⟨v46, h⟩ := rd_some h
      refine va_iald hx hb hK.1 hP 1 0 rfl rfl v46 dX8_deletes_28 ?_
      refine lv_iload_n hx hb dX8_deletes_29 rfl (lv_at hl 2 rfl) ?_
      refine lv_isub hx hb dX8_deletes_30 ?_
      refine lv_icmp_ge (tgt := 60) hx hb dX8_deletes_31 (by decide) (fun q47 => ?_) (fun q47 => ?_)
      · replace h := it_some q47 h
        refine lv_aload_n hx hb dX8_deletes_60 rfl (lv_at hl 0 rfl) ?_
        refine va_get (D := D) (ci := 8) (v := .ref h1) (C := RX8) (T := TX8) (N := 13) hx hb hg uX8 hown hK.1 hP 0 rfl rfl 1 (by decide) (hg _ gw_941) (fun _ h9 => h9) rfl dX8_deletes_61 ?_
        refine lv_iconst (v := 0) hx hb dX8_deletes_64 (by decide) ?_
        refine lv_dup2_11 hx hb dX8_deletes_65 rfl rfl ?_
        obtain ⟨v48, h⟩ := rd_some h
        refine va_iald hx hb hK.1 hP 1 0 rfl rfl v48 dX8_deletes_66 ?_
        refine lv_iload_n hx hb dX8_deletes_67 rfl (lv_at hl 2 rfl) ?_
        refine lv_isub hx hb dX8_deletes_68 ?_
        obtain ⟨v49, h⟩ := rd_some h
        obtain ⟨aS_50, eaS_50, h⟩ := kl_some h
        refine va_iast hx hb hK.1 hP hD hS 1 0 rfl rfl v49 dX8_deletes_69 (fun H locs hP hD hS => ?_)
        have hP : va_P D vwCl (wX8 cI h0 h1 h2 h3 h4 h5 aTh aSm aLn aAt aWe aRm aBm aHa aS_50 aSv aCm aRd aBy) H := by rw [eaS_50]; exact hP
        have hD : va_D A (wX8 cI h0 h1 h2 h3 h4 h5 aTh aSm aLn aAt aWe aRm aBm aHa aS_50 aSv aCm aRd aBy) := by rw [eaS_50]; exact hD
        refine lv_aload_n hx hb dX8_deletes_70 rfl (lv_at hl 0 rfl) ?_
        refine va_get (D := D) (ci := 8) (v := .ref h1) (C := RX8) (T := TX8) (N := 13) hx hb hg uX8 hown hK.1 hP 0 rfl rfl 1 (by decide) (hg _ gw_941) (fun _ h9 => h9) rfl dX8_deletes_71 ?_
        refine lv_iconst (v := 0) hx hb dX8_deletes_74 (by decide) ?_
        obtain ⟨v51, h⟩ := rd_some h
        refine va_iald hx hb hK.1 hP 1 0 rfl rfl v51 dX8_deletes_75 ?_
        obtain ⟨x3_52, ex3_52, h⟩ := kl_some h
        refine nm_i ex3_52 ?_
        refine lv_istore_n (lv' := [(3, .int x3_52), (0, .ref h0), (1, .int p1), (2, .int p2)]) hx hb dX8_deletes_76 rfl hl (by decide) rfl (fun ls hl => ?_)
        exact c_77 Z x3_52 aS_50 h H locs hP hD hS ls (lv_sub hl [1, 2, 3, 0] rfl)
      · replace h := if_some q47 h
        refine lv_aload_n hx hb dX8_deletes_34 rfl (lv_at hl 0 rfl) ?_
        refine va_get (D := D) (ci := 8) (v := .ref h1) (C := RX8) (T := TX8) (N := 13) hx hb hg uX8 hown hK.1 hP 0 rfl rfl 1 (by decide) (hg _ gw_941) (fun _ h9 => h9) rfl dX8_deletes_35 ?_
        refine lv_bipush (v := 80) hx hb dX8_deletes_38 (by decide) ?_
        refine lv_iload_n hx hb dX8_deletes_40 rfl (lv_at hl 3 rfl) ?_
        refine lv_iadd hx hb dX8_deletes_41 ?_
        refine lv_aload_n hx hb dX8_deletes_42 rfl (lv_at hl 0 rfl) ?_
        refine va_get (D := D) (ci := 8) (v := .ref h1) (C := RX8) (T := TX8) (N := 13) hx hb hg uX8 hown hK.1 hP 0 rfl rfl 1 (by decide) (hg _ gw_941) (fun _ h9 => h9) rfl dX8_deletes_43 ?_
        refine lv_bipush (v := 80) hx hb dX8_deletes_46 (by decide) ?_
        refine lv_iload_n hx hb dX8_deletes_48 rfl (lv_at hl 3 rfl) ?_
        refine lv_iadd hx hb dX8_deletes_49 ?_
        refine lv_iload_n hx hb dX8_deletes_50 rfl (lv_at hl 2 rfl) ?_
        refine lv_iadd hx hb dX8_deletes_51 ?_
        obtain ⟨v53, h⟩ := rd_some h
        refine va_iald hx hb hK.1 hP 1 0 rfl rfl v53 dX8_deletes_52 ?_
        obtain ⟨v54, h⟩ := rd_some h
        obtain ⟨aS_55, eaS_55, h⟩ := kl_some h
        refine va_iast hx hb hK.1 hP hD hS 1 0 rfl rfl v54 dX8_deletes_53 (fun H locs hP hD hS => ?_)
        have hP : va_P D vwCl (wX8 cI h0 h1 h2 h3 h4 h5 aTh aSm aLn aAt aWe aRm aBm aHa aS_55 aSv aCm aRd aBy) H := by rw [eaS_55]; exact hP
        have hD : va_D A (wX8 cI h0 h1 h2 h3 h4 h5 aTh aSm aLn aAt aWe aRm aBm aHa aS_55 aSv aCm aRd aBy) := by rw [eaS_55]; exact hD
        obtain ⟨x3_56, ex3_56, h⟩ := kl_some h
        refine lv_iinc (v := x3_56) (lv' := [(3, .int x3_56), (0, .ref h0), (1, .int p1), (2, .int p2)]) hx hb dX8_deletes_54 hl (k := 3) rfl (by rw [ex3_56]; rfl) (by decide) rfl (fun ls hl => ?_)
        refine lv_goto (tgt := 22) hx hb dX8_deletes_57 (by decide) ?_
        exact ih x3_56 aS_55 h H locs hP hD hS ls (lv_sub hl [1, 2, 3, 0] rfl)
  have hl : lv_has ls 6 [(0, .ref h0), (1, .int p1), (2, .int p2)] := hl
  have hP : va_P D vwCl (wX8 cI h0 h1 h2 h3 h4 h5 aTh aSm aLn aAt aWe aRm aBm aHa aS aSv aCm aRd aBy) s.heap := hP
  have hD : va_D A (wX8 cI h0 h1 h2 h3 h4 h5 aTh aSm aLn aAt aWe aRm aBm aHa aS aSv aCm aRd aBy) := hD
  show W p l e rm_X8_deletes s m args below meth c s.heap [] 0 0 (FV D below args s (wX8 cI h0 h1 h2 h3 h4 h5 aTh aSm aLn aAt aWe aRm aBm aHa (aS') aSv aCm aRd aBy) A) (F0 m 0 ls [])
  unfold f_X8_deletes at h
  have hmain : ∀ (H : Heap) (locs : List Loc), va_P D vwCl (wX8 cI h0 h1 h2 h3 h4 h5 aTh aSm aLn aAt aWe aRm aBm aHa aS aSv aCm aRd aBy) H → va_S A s.heap H locs → W p l e rm_X8_deletes s m args below meth c H locs 0 0 (FV D below args s (wX8 cI h0 h1 h2 h3 h4 h5 aTh aSm aLn aAt aWe aRm aBm aHa (aS') aSv aCm aRd aBy) A) (F0 m 0 ls []) := by
    intro H locs hP hS
    refine lv_iload_n hx hb dX8_deletes_0 rfl (lv_at hl 2 rfl) ?_
    refine lv_if_ne (tgt := 9) hx hb dX8_deletes_1 (by decide) (fun q57 => ?_) (fun q57 => ?_)
    · replace h := if_some q57 h
      refine lv_aload_n hx hb dX8_deletes_9 rfl (lv_at hl 0 rfl) ?_
      refine lv_aload_n hx hb dX8_deletes_10 rfl (lv_at hl 0 rfl) ?_
      refine va_get (D := D) (ci := 8) (v := .ref h1) (C := RX8) (T := TX8) (N := 13) hx hb hg uX8 hown hK.1 hP 0 rfl rfl 1 (by decide) (hg _ gw_941) (fun _ h9 => h9) rfl dX8_deletes_11 ?_
      refine lv_iconst (v := 1) hx hb dX8_deletes_14 (by decide) ?_
      obtain ⟨v58, h⟩ := rd_some h
      refine va_iald hx hb hK.1 hP 1 0 rfl rfl v58 dX8_deletes_15 ?_
      obtain ⟨⟨r59, aS_59⟩, ec59, h⟩ := bd_some h
      refine cV_i (As := [.int (aS (Int32.toNatClampNeg 1))]) (rest := []) (wc := (wX8 cI h0 h1 h2 h3 h4 h5 aTh aSm aLn aAt aWe aRm aBm aHa aS aSv aCm aRd aBy)) (wc' := (wX8 cI h0 h1 h2 h3 h4 h5 aTh aSm aLn aAt aWe aRm aBm aHa aS_59 aSv aCm aRd aBy)) hx hb hml hown hg hK hP hD hS hA hl.1 (k_X8_movesGap l D cI cS cL Z h0 h1 h2 h3 h4 h5 (aS (Int32.toNatClampNeg 1)) aTh aSm aLn aAt aWe aRm aBm aHa aS aSv aCm aRd aBy ec59) gm_X8_movesGap gw_1014 ⟨rfl, rfl, by decide, by decide⟩ ⟨Nat.zero_le _, Nat.zero_le _⟩ [0, 1, 2, 3, 4, 5] rfl rfl rfl rfl rfl rfl rfl rfl (Nat.le_of_ble_eq_true rfl) dX8_deletes_16 (fun H locs hP hD hS => ?_)
      have hP : va_P D vwCl (wX8 cI h0 h1 h2 h3 h4 h5 aTh aSm aLn aAt aWe aRm aBm aHa aS_59 aSv aCm aRd aBy) H := hP
      have hD : va_D A (wX8 cI h0 h1 h2 h3 h4 h5 aTh aSm aLn aAt aWe aRm aBm aHa aS_59 aSv aCm aRd aBy) := hD
      refine lv_pop hx hb dX8_deletes_19 rfl ?_
      refine lv_iload_n hx hb dX8_deletes_20 rfl (lv_at hl 1 rfl) ?_
      refine lv_istore_n (lv' := [(3, .int p1), (0, .ref h0), (1, .int p1), (2, .int p2)]) hx hb dX8_deletes_21 rfl hl (by decide) rfl (fun ls hl => ?_)
      exact c_22 Z p1 aS_59 h H locs hP hD hS ls (lv_sub hl [1, 2, 3, 0] rfl)
    · replace h := it_some q57 h
      refine lv_aload_n hx hb dX8_deletes_4 rfl (lv_at hl 0 rfl) ?_
      obtain ⟨aS_60, ec60, h⟩ := bd_some h
      refine cV_v (As := []) (rest := []) (wc := (wX8 cI h0 h1 h2 h3 h4 h5 aTh aSm aLn aAt aWe aRm aBm aHa aS aSv aCm aRd aBy)) (wc' := (wX8 cI h0 h1 h2 h3 h4 h5 aTh aSm aLn aAt aWe aRm aBm aHa aS_60 aSv aCm aRd aBy)) hx hb hml hown hg hK hP hD hS hA hl.1 (k_X8_setsGoal l D cI cS cL Z h0 h1 h2 h3 h4 h5 aTh aSm aLn aAt aWe aRm aBm aHa aS aSv aCm aRd aBy ec60) gm_X8_setsGoal gw_1025 ⟨rfl, rfl, by decide, by decide⟩ ⟨Nat.zero_le _, Nat.zero_le _⟩ [0, 1, 2, 3, 4, 5] rfl rfl rfl rfl rfl rfl rfl rfl (Nat.le_of_ble_eq_true rfl) dX8_deletes_5 (fun H locs hP hD hS => ?_)
      have hP : va_P D vwCl (wX8 cI h0 h1 h2 h3 h4 h5 aTh aSm aLn aAt aWe aRm aBm aHa aS_60 aSv aCm aRd aBy) H := hP
      have hD : va_D A (wX8 cI h0 h1 h2 h3 h4 h5 aTh aSm aLn aAt aWe aRm aBm aHa aS_60 aSv aCm aRd aBy) := hD
      cases h
      exact ret_v hx hb hr hlocks hP hD hS dX8_deletes_8
  exact hmain _ _ hP hS
abbrev rm_X8_erases : Room := { frames := 4, cells := 0, slots := 0, locals := 88 }
def f_X8_erases (Z : Nat) (p1 : Int32) (aS : Nat → Int32) : Option (Int32 × (Nat → Int32)) :=
  rd 0 344 (
  rd 1 344 (
  kl ((aS (Int32.toNatClampNeg 0)) - (aS (Int32.toNatClampNeg 1))) fun x2_3 =>
  if x2_3 ≤ p1 then
    rd 1 344 (
    (f_X8_deletes Z (aS (Int32.toNatClampNeg 1)) x2_3 aS).bind fun aS_6 =>
    some (x2_3, aS_6))
  else
    rd 1 344 (
    (f_X8_deletes Z (aS (Int32.toNatClampNeg 1)) p1 aS).bind fun aS_8 =>
    some (p1, aS_8))))
set_option maxRecDepth 100000 in
set_option maxHeartbeats 4000000 in
theorem k_X8_erases (l : Launch) (D : va_G) (cI cS cL : ClassId) (Z : Nat) (h0 : Nat) (h1 : Nat) (h2 : Nat) (h3 : Nat) (h4 : Nat) (h5 : Nat) (p1 : Int32) (aTh : Int32) (aSm : Int32) (aLn : Int32) (aAt : Int32) (aWe : Int32) (aRm : Int32) (aBm : Int32) (aHa : Int64) (aS : Nat → Int32) (aSv : Nat → Int32) (aCm : Nat → Int32) (aRd : Nat → Int32) (aBy : Nat → Int32) {r : Int32} {aS' : Nat → Int32} (h : f_X8_erases Z p1 aS = some (r, aS')) : CI l yX8_erases cX8_erases 4 (some .int) rm_X8_erases D cI cS cL [.ref h0, .int p1] (wX8 cI h0 h1 h2 h3 h4 h5 aTh aSm aLn aAt aWe aRm aBm aHa aS aSv aCm aRd aBy) (wX8 cI h0 h1 h2 h3 h4 h5 aTh aSm aLn aAt aWe aRm aBm aHa (aS') aSv aCm aRd aBy) r := by
  refine ent_i (by decide +kernel) (Nat.le_of_ble_eq_true rfl) ?_
  intro p e s m args below meth c A ls hx hb hr hml hlocks hg hown hK hP hD hS hA hl
  have hown : s.vm.findClass RX8 = some m.cls := hown
  have hl : lv_has ls 4 [(0, .ref h0), (1, .int p1)] := hl
  have hP : va_P D vwCl (wX8 cI h0 h1 h2 h3 h4 h5 aTh aSm aLn aAt aWe aRm aBm aHa aS aSv aCm aRd aBy) s.heap := hP
  have hD : va_D A (wX8 cI h0 h1 h2 h3 h4 h5 aTh aSm aLn aAt aWe aRm aBm aHa aS aSv aCm aRd aBy) := hD
  show W p l e rm_X8_erases s m args below meth c s.heap [] 0 0 (FI D below args s (wX8 cI h0 h1 h2 h3 h4 h5 aTh aSm aLn aAt aWe aRm aBm aHa (aS') aSv aCm aRd aBy) r A) (F0 m 0 ls [])
  unfold f_X8_erases at h
  have hmain : ∀ (H : Heap) (locs : List Loc), va_P D vwCl (wX8 cI h0 h1 h2 h3 h4 h5 aTh aSm aLn aAt aWe aRm aBm aHa aS aSv aCm aRd aBy) H → va_S A s.heap H locs → W p l e rm_X8_erases s m args below meth c H locs 0 0 (FI D below args s (wX8 cI h0 h1 h2 h3 h4 h5 aTh aSm aLn aAt aWe aRm aBm aHa (aS') aSv aCm aRd aBy) r A) (F0 m 0 ls []) := by
    intro H locs hP hS
    refine lv_aload_n hx hb dX8_erases_0 rfl (lv_at hl 0 rfl) ?_
    refine va_get (D := D) (ci := 8) (v := .ref h1) (C := RX8) (T := TX8) (N := 13) hx hb hg uX8 hown hK.1 hP 0 rfl rfl 1 (by decide) (hg _ gw_941) (fun _ h9 => h9) rfl dX8_erases_1 ?_
    refine lv_iconst (v := 0) hx hb dX8_erases_4 (by decide) ?_
    obtain ⟨v1, h⟩ := rd_some h
    refine va_iald hx hb hK.1 hP 1 0 rfl rfl v1 dX8_erases_5 ?_
    refine lv_aload_n hx hb dX8_erases_6 rfl (lv_at hl 0 rfl) ?_
    refine va_get (D := D) (ci := 8) (v := .ref h1) (C := RX8) (T := TX8) (N := 13) hx hb hg uX8 hown hK.1 hP 0 rfl rfl 1 (by decide) (hg _ gw_941) (fun _ h9 => h9) rfl dX8_erases_7 ?_
    refine lv_iconst (v := 1) hx hb dX8_erases_10 (by decide) ?_
    obtain ⟨v2, h⟩ := rd_some h
    refine va_iald hx hb hK.1 hP 1 0 rfl rfl v2 dX8_erases_11 ?_
    refine lv_isub hx hb dX8_erases_12 ?_
    obtain ⟨x2_3, ex2_3, h⟩ := kl_some h
    refine nm_i ex2_3 ?_
    refine lv_istore_n (lv' := [(2, .int x2_3), (0, .ref h0), (1, .int p1)]) hx hb dX8_erases_13 rfl hl (by decide) rfl (fun ls hl => ?_)
    refine lv_iload_n hx hb dX8_erases_14 rfl (lv_at hl 2 rfl) ?_
    refine lv_iload_n hx hb dX8_erases_15 rfl (lv_at hl 0 rfl) ?_
    refine lv_icmp_ge (tgt := 23) hx hb dX8_erases_16 (by decide) (fun q4 => ?_) (fun q4 => ?_)
    · replace h := it_some q4 h
      refine lv_iload_n hx hb dX8_erases_23 rfl (lv_at hl 0 rfl) ?_
      refine lv_istore_n (lv' := [(3, .int x2_3), (2, .int x2_3), (0, .ref h0), (1, .int p1)]) hx hb dX8_erases_24 rfl hl (by decide) rfl (fun ls hl => ?_)
      refine lv_aload_n hx hb dX8_erases_25 rfl (lv_at hl 2 rfl) ?_
      refine lv_aload_n hx hb dX8_erases_26 rfl (lv_at hl 2 rfl) ?_
      refine va_get (D := D) (ci := 8) (v := .ref h1) (C := RX8) (T := TX8) (N := 13) hx hb hg uX8 hown hK.1 hP 0 rfl rfl 1 (by decide) (hg _ gw_941) (fun _ h9 => h9) rfl dX8_erases_27 ?_
      refine lv_iconst (v := 1) hx hb dX8_erases_30 (by decide) ?_
      obtain ⟨v5, h⟩ := rd_some h
      refine va_iald hx hb hK.1 hP 1 0 rfl rfl v5 dX8_erases_31 ?_
      refine lv_iload_n hx hb dX8_erases_32 rfl (lv_at hl 0 rfl) ?_
      obtain ⟨aS_6, ec6, h⟩ := bd_some h
      refine cV_v (As := [.int (aS (Int32.toNatClampNeg 1)), .int x2_3]) (rest := []) (wc := (wX8 cI h0 h1 h2 h3 h4 h5 aTh aSm aLn aAt aWe aRm aBm aHa aS aSv aCm aRd aBy)) (wc' := (wX8 cI h0 h1 h2 h3 h4 h5 aTh aSm aLn aAt aWe aRm aBm aHa aS_6 aSv aCm aRd aBy)) hx hb hml hown hg hK hP hD hS hA hl.1 (k_X8_deletes l D cI cS cL Z h0 h1 h2 h3 h4 h5 (aS (Int32.toNatClampNeg 1)) x2_3 aTh aSm aLn aAt aWe aRm aBm aHa aS aSv aCm aRd aBy ec6) gm_X8_deletes gw_1049 ⟨rfl, rfl, by decide, by decide⟩ ⟨Nat.zero_le _, Nat.zero_le _⟩ [0, 1, 2, 3, 4, 5] rfl rfl rfl rfl rfl rfl rfl rfl (Nat.le_of_ble_eq_true rfl) dX8_erases_33 (fun H locs hP hD hS => ?_)
      have hP : va_P D vwCl (wX8 cI h0 h1 h2 h3 h4 h5 aTh aSm aLn aAt aWe aRm aBm aHa aS_6 aSv aCm aRd aBy) H := hP
      have hD : va_D A (wX8 cI h0 h1 h2 h3 h4 h5 aTh aSm aLn aAt aWe aRm aBm aHa aS_6 aSv aCm aRd aBy) := hD
      refine lv_iload_n hx hb dX8_erases_36 rfl (lv_at hl 0 rfl) ?_
      cases h
      exact ret_i hx hb hr hlocks hP hD hS dX8_erases_37 rfl
    · replace h := if_some q4 h
      refine lv_iload_n hx hb dX8_erases_19 rfl (lv_at hl 2 rfl) ?_
      refine lv_goto (tgt := 24) hx hb dX8_erases_20 (by decide) ?_
      refine lv_istore_n (lv' := [(3, .int p1), (2, .int x2_3), (0, .ref h0), (1, .int p1)]) hx hb dX8_erases_24 rfl hl (by decide) rfl (fun ls hl => ?_)
      refine lv_aload_n hx hb dX8_erases_25 rfl (lv_at hl 2 rfl) ?_
      refine lv_aload_n hx hb dX8_erases_26 rfl (lv_at hl 2 rfl) ?_
      refine va_get (D := D) (ci := 8) (v := .ref h1) (C := RX8) (T := TX8) (N := 13) hx hb hg uX8 hown hK.1 hP 0 rfl rfl 1 (by decide) (hg _ gw_941) (fun _ h9 => h9) rfl dX8_erases_27 ?_
      refine lv_iconst (v := 1) hx hb dX8_erases_30 (by decide) ?_
      obtain ⟨v7, h⟩ := rd_some h
      refine va_iald hx hb hK.1 hP 1 0 rfl rfl v7 dX8_erases_31 ?_
      refine lv_iload_n hx hb dX8_erases_32 rfl (lv_at hl 0 rfl) ?_
      obtain ⟨aS_8, ec8, h⟩ := bd_some h
      refine cV_v (As := [.int (aS (Int32.toNatClampNeg 1)), .int p1]) (rest := []) (wc := (wX8 cI h0 h1 h2 h3 h4 h5 aTh aSm aLn aAt aWe aRm aBm aHa aS aSv aCm aRd aBy)) (wc' := (wX8 cI h0 h1 h2 h3 h4 h5 aTh aSm aLn aAt aWe aRm aBm aHa aS_8 aSv aCm aRd aBy)) hx hb hml hown hg hK hP hD hS hA hl.1 (k_X8_deletes l D cI cS cL Z h0 h1 h2 h3 h4 h5 (aS (Int32.toNatClampNeg 1)) p1 aTh aSm aLn aAt aWe aRm aBm aHa aS aSv aCm aRd aBy ec8) gm_X8_deletes gw_1049 ⟨rfl, rfl, by decide, by decide⟩ ⟨Nat.zero_le _, Nat.zero_le _⟩ [0, 1, 2, 3, 4, 5] rfl rfl rfl rfl rfl rfl rfl rfl (Nat.le_of_ble_eq_true rfl) dX8_erases_33 (fun H locs hP hD hS => ?_)
      have hP : va_P D vwCl (wX8 cI h0 h1 h2 h3 h4 h5 aTh aSm aLn aAt aWe aRm aBm aHa aS_8 aSv aCm aRd aBy) H := hP
      have hD : va_D A (wX8 cI h0 h1 h2 h3 h4 h5 aTh aSm aLn aAt aWe aRm aBm aHa aS_8 aSv aCm aRd aBy) := hD
      refine lv_iload_n hx hb dX8_erases_36 rfl (lv_at hl 0 rfl) ?_
      cases h
      exact ret_i hx hb hr hlocks hP hD hS dX8_erases_37 rfl
  exact hmain _ _ hP hS
abbrev rm_X8_backs : Room := { frames := 4, cells := 0, slots := 0, locals := 88 }
def f_X8_backs (Z : Nat) (p1 : Int32) (aS : Nat → Int32) : Option (Int32 × (Nat → Int32)) :=
  rd 1 344 (
  if (aS (Int32.toNatClampNeg 1)) ≤ p1 then
    rd 1 344 (
    kl (aS (Int32.toNatClampNeg 1)) fun x2_4 =>
    rd 1 344 (
    (f_X8_deletes Z ((aS (Int32.toNatClampNeg 1)) - x2_4) x2_4 aS).bind fun aS_6 =>
    some (x2_4, aS_6)))
  else
    rd 1 344 (
    (f_X8_deletes Z ((aS (Int32.toNatClampNeg 1)) - p1) p1 aS).bind fun aS_8 =>
    some (p1, aS_8)))
set_option maxRecDepth 100000 in
set_option maxHeartbeats 4000000 in
theorem k_X8_backs (l : Launch) (D : va_G) (cI cS cL : ClassId) (Z : Nat) (h0 : Nat) (h1 : Nat) (h2 : Nat) (h3 : Nat) (h4 : Nat) (h5 : Nat) (p1 : Int32) (aTh : Int32) (aSm : Int32) (aLn : Int32) (aAt : Int32) (aWe : Int32) (aRm : Int32) (aBm : Int32) (aHa : Int64) (aS : Nat → Int32) (aSv : Nat → Int32) (aCm : Nat → Int32) (aRd : Nat → Int32) (aBy : Nat → Int32) {r : Int32} {aS' : Nat → Int32} (h : f_X8_backs Z p1 aS = some (r, aS')) : CI l yX8_backs cX8_backs 3 (some .int) rm_X8_backs D cI cS cL [.ref h0, .int p1] (wX8 cI h0 h1 h2 h3 h4 h5 aTh aSm aLn aAt aWe aRm aBm aHa aS aSv aCm aRd aBy) (wX8 cI h0 h1 h2 h3 h4 h5 aTh aSm aLn aAt aWe aRm aBm aHa (aS') aSv aCm aRd aBy) r := by
  refine ent_i (by decide +kernel) (Nat.le_of_ble_eq_true rfl) ?_
  intro p e s m args below meth c A ls hx hb hr hml hlocks hg hown hK hP hD hS hA hl
  have hown : s.vm.findClass RX8 = some m.cls := hown
  have hl : lv_has ls 3 [(0, .ref h0), (1, .int p1)] := hl
  have hP : va_P D vwCl (wX8 cI h0 h1 h2 h3 h4 h5 aTh aSm aLn aAt aWe aRm aBm aHa aS aSv aCm aRd aBy) s.heap := hP
  have hD : va_D A (wX8 cI h0 h1 h2 h3 h4 h5 aTh aSm aLn aAt aWe aRm aBm aHa aS aSv aCm aRd aBy) := hD
  show W p l e rm_X8_backs s m args below meth c s.heap [] 0 0 (FI D below args s (wX8 cI h0 h1 h2 h3 h4 h5 aTh aSm aLn aAt aWe aRm aBm aHa (aS') aSv aCm aRd aBy) r A) (F0 m 0 ls [])
  unfold f_X8_backs at h
  have hmain : ∀ (H : Heap) (locs : List Loc), va_P D vwCl (wX8 cI h0 h1 h2 h3 h4 h5 aTh aSm aLn aAt aWe aRm aBm aHa aS aSv aCm aRd aBy) H → va_S A s.heap H locs → W p l e rm_X8_backs s m args below meth c H locs 0 0 (FI D below args s (wX8 cI h0 h1 h2 h3 h4 h5 aTh aSm aLn aAt aWe aRm aBm aHa (aS') aSv aCm aRd aBy) r A) (F0 m 0 ls []) := by
    intro H locs hP hS
    refine lv_iload_n hx hb dX8_backs_0 rfl (lv_at hl 1 rfl) ?_
    refine lv_aload_n hx hb dX8_backs_1 rfl (lv_at hl 0 rfl) ?_
    refine va_get (D := D) (ci := 8) (v := .ref h1) (C := RX8) (T := TX8) (N := 13) hx hb hg uX8 hown hK.1 hP 0 rfl rfl 1 (by decide) (hg _ gw_941) (fun _ h9 => h9) rfl dX8_backs_2 ?_
    refine lv_iconst (v := 1) hx hb dX8_backs_5 (by decide) ?_
    obtain ⟨v1, h⟩ := rd_some h
    refine va_iald hx hb hK.1 hP 1 0 rfl rfl v1 dX8_backs_6 ?_
    refine lv_icmp_ge (tgt := 14) hx hb dX8_backs_7 (by decide) (fun q2 => ?_) (fun q2 => ?_)
    · replace h := it_some q2 h
      refine lv_aload_n hx hb dX8_backs_14 rfl (lv_at hl 0 rfl) ?_
      refine va_get (D := D) (ci := 8) (v := .ref h1) (C := RX8) (T := TX8) (N := 13) hx hb hg uX8 hown hK.1 hP 0 rfl rfl 1 (by decide) (hg _ gw_941) (fun _ h9 => h9) rfl dX8_backs_15 ?_
      refine lv_iconst (v := 1) hx hb dX8_backs_18 (by decide) ?_
      obtain ⟨v3, h⟩ := rd_some h
      refine va_iald hx hb hK.1 hP 1 0 rfl rfl v3 dX8_backs_19 ?_
      obtain ⟨x2_4, ex2_4, h⟩ := kl_some h
      refine nm_i ex2_4 ?_
      refine lv_istore_n (lv' := [(2, .int x2_4), (0, .ref h0), (1, .int p1)]) hx hb dX8_backs_20 rfl hl (by decide) rfl (fun ls hl => ?_)
      refine lv_aload_n hx hb dX8_backs_21 rfl (lv_at hl 1 rfl) ?_
      refine lv_aload_n hx hb dX8_backs_22 rfl (lv_at hl 1 rfl) ?_
      refine va_get (D := D) (ci := 8) (v := .ref h1) (C := RX8) (T := TX8) (N := 13) hx hb hg uX8 hown hK.1 hP 0 rfl rfl 1 (by decide) (hg _ gw_941) (fun _ h9 => h9) rfl dX8_backs_23 ?_
      refine lv_iconst (v := 1) hx hb dX8_backs_26 (by decide) ?_
      obtain ⟨v5, h⟩ := rd_some h
      refine va_iald hx hb hK.1 hP 1 0 rfl rfl v5 dX8_backs_27 ?_
      refine lv_iload_n hx hb dX8_backs_28 rfl (lv_at hl 0 rfl) ?_
      refine lv_isub hx hb dX8_backs_29 ?_
      refine lv_iload_n hx hb dX8_backs_30 rfl (lv_at hl 0 rfl) ?_
      obtain ⟨aS_6, ec6, h⟩ := bd_some h
      refine cV_v (As := [.int ((aS (Int32.toNatClampNeg 1)) - x2_4), .int x2_4]) (rest := []) (wc := (wX8 cI h0 h1 h2 h3 h4 h5 aTh aSm aLn aAt aWe aRm aBm aHa aS aSv aCm aRd aBy)) (wc' := (wX8 cI h0 h1 h2 h3 h4 h5 aTh aSm aLn aAt aWe aRm aBm aHa aS_6 aSv aCm aRd aBy)) hx hb hml hown hg hK hP hD hS hA hl.1 (k_X8_deletes l D cI cS cL Z h0 h1 h2 h3 h4 h5 ((aS (Int32.toNatClampNeg 1)) - x2_4) x2_4 aTh aSm aLn aAt aWe aRm aBm aHa aS aSv aCm aRd aBy ec6) gm_X8_deletes gw_1049 ⟨rfl, rfl, by decide, by decide⟩ ⟨Nat.zero_le _, Nat.zero_le _⟩ [0, 1, 2, 3, 4, 5] rfl rfl rfl rfl rfl rfl rfl rfl (Nat.le_of_ble_eq_true rfl) dX8_backs_31 (fun H locs hP hD hS => ?_)
      have hP : va_P D vwCl (wX8 cI h0 h1 h2 h3 h4 h5 aTh aSm aLn aAt aWe aRm aBm aHa aS_6 aSv aCm aRd aBy) H := hP
      have hD : va_D A (wX8 cI h0 h1 h2 h3 h4 h5 aTh aSm aLn aAt aWe aRm aBm aHa aS_6 aSv aCm aRd aBy) := hD
      refine lv_iload_n hx hb dX8_backs_34 rfl (lv_at hl 0 rfl) ?_
      cases h
      exact ret_i hx hb hr hlocks hP hD hS dX8_backs_35 rfl
    · replace h := if_some q2 h
      refine lv_iload_n hx hb dX8_backs_10 rfl (lv_at hl 1 rfl) ?_
      refine lv_goto (tgt := 20) hx hb dX8_backs_11 (by decide) ?_
      refine lv_istore_n (lv' := [(2, .int p1), (0, .ref h0), (1, .int p1)]) hx hb dX8_backs_20 rfl hl (by decide) rfl (fun ls hl => ?_)
      refine lv_aload_n hx hb dX8_backs_21 rfl (lv_at hl 1 rfl) ?_
      refine lv_aload_n hx hb dX8_backs_22 rfl (lv_at hl 1 rfl) ?_
      refine va_get (D := D) (ci := 8) (v := .ref h1) (C := RX8) (T := TX8) (N := 13) hx hb hg uX8 hown hK.1 hP 0 rfl rfl 1 (by decide) (hg _ gw_941) (fun _ h9 => h9) rfl dX8_backs_23 ?_
      refine lv_iconst (v := 1) hx hb dX8_backs_26 (by decide) ?_
      obtain ⟨v7, h⟩ := rd_some h
      refine va_iald hx hb hK.1 hP 1 0 rfl rfl v7 dX8_backs_27 ?_
      refine lv_iload_n hx hb dX8_backs_28 rfl (lv_at hl 0 rfl) ?_
      refine lv_isub hx hb dX8_backs_29 ?_
      refine lv_iload_n hx hb dX8_backs_30 rfl (lv_at hl 0 rfl) ?_
      obtain ⟨aS_8, ec8, h⟩ := bd_some h
      refine cV_v (As := [.int ((aS (Int32.toNatClampNeg 1)) - p1), .int p1]) (rest := []) (wc := (wX8 cI h0 h1 h2 h3 h4 h5 aTh aSm aLn aAt aWe aRm aBm aHa aS aSv aCm aRd aBy)) (wc' := (wX8 cI h0 h1 h2 h3 h4 h5 aTh aSm aLn aAt aWe aRm aBm aHa aS_8 aSv aCm aRd aBy)) hx hb hml hown hg hK hP hD hS hA hl.1 (k_X8_deletes l D cI cS cL Z h0 h1 h2 h3 h4 h5 ((aS (Int32.toNatClampNeg 1)) - p1) p1 aTh aSm aLn aAt aWe aRm aBm aHa aS aSv aCm aRd aBy ec8) gm_X8_deletes gw_1049 ⟨rfl, rfl, by decide, by decide⟩ ⟨Nat.zero_le _, Nat.zero_le _⟩ [0, 1, 2, 3, 4, 5] rfl rfl rfl rfl rfl rfl rfl rfl (Nat.le_of_ble_eq_true rfl) dX8_backs_31 (fun H locs hP hD hS => ?_)
      have hP : va_P D vwCl (wX8 cI h0 h1 h2 h3 h4 h5 aTh aSm aLn aAt aWe aRm aBm aHa aS_8 aSv aCm aRd aBy) H := hP
      have hD : va_D A (wX8 cI h0 h1 h2 h3 h4 h5 aTh aSm aLn aAt aWe aRm aBm aHa aS_8 aSv aCm aRd aBy) := hD
      refine lv_iload_n hx hb dX8_backs_34 rfl (lv_at hl 0 rfl) ?_
      cases h
      exact ret_i hx hb hr hlocks hP hD hS dX8_backs_35 rfl
  exact hmain _ _ hP hS
abbrev rm_X8_fillsBytes : Room := { frames := 0, cells := 0, slots := 0, locals := 0 }
def f_X8_fillsBytes_b7 (Z : Nat) (p1 : Int32) (p2 : Int32) (rec : Int32 → Int32 → (Nat → Int32) → Option (Int32 × (Nat → Int32))) (x3 : Int32) (aBm : Int32) (aBy : Nat → Int32) : Option (Int32 × (Nat → Int32)) :=
      if p2 ≤ x3 then
        some (aBm, aBy)
      else
        rd x3 100 (kl (upd aBy (Int32.toNatClampNeg x3) p1) fun aBy_3 =>
        kl (x3 + 1) fun x3_4 =>
        rec x3_4 aBm aBy_3)
def f_X8_fillsBytes_l7 (Z : Nat) (p1 : Int32) (p2 : Int32) : Nat → Int32 → Int32 → (Nat → Int32) → Option (Int32 × (Nat → Int32))
  | 0, _, _, _ => none
  | n + 1, x3, aBm, aBy => f_X8_fillsBytes_b7 Z p1 p2 (f_X8_fillsBytes_l7 Z p1 p2 n) x3 aBm aBy
def f_X8_fillsBytes (Z : Nat) (p1 : Int32) (p2 : Int32) (aBm : Int32) (aBy : Nat → Int32) : Option (Int32 × (Nat → Int32)) :=
  f_X8_fillsBytes_l7 Z p1 p2 Z 0 p2 aBy
set_option maxRecDepth 100000 in
set_option maxHeartbeats 4000000 in
theorem k_X8_fillsBytes (l : Launch) (D : va_G) (cI cS cL : ClassId) (Z : Nat) (h0 : Nat) (h1 : Nat) (h2 : Nat) (h3 : Nat) (h4 : Nat) (h5 : Nat) (p1 : Int32) (p2 : Int32) (aTh : Int32) (aSm : Int32) (aLn : Int32) (aAt : Int32) (aWe : Int32) (aRm : Int32) (aBm : Int32) (aHa : Int64) (aS : Nat → Int32) (aSv : Nat → Int32) (aCm : Nat → Int32) (aRd : Nat → Int32) (aBy : Nat → Int32) {aBm' : Int32} {aBy' : Nat → Int32} (h : f_X8_fillsBytes Z p1 p2 aBm aBy = some (aBm', aBy')) : CV l yX8_fillsBytes cX8_fillsBytes 4 none rm_X8_fillsBytes D cI cS cL [.ref h0, .int p1, .int p2] (wX8 cI h0 h1 h2 h3 h4 h5 aTh aSm aLn aAt aWe aRm aBm aHa aS aSv aCm aRd aBy) (wX8 cI h0 h1 h2 h3 h4 h5 aTh aSm aLn aAt aWe aRm (aBm') aHa aS aSv aCm aRd (aBy')) := by
  refine ent_v (by decide +kernel) (Nat.le_of_ble_eq_true rfl) ?_
  intro p e s m args below meth c A ls hx hb hr hml hlocks hg hown hK hP hD hS hA hl
  have hown : s.vm.findClass RX8 = some m.cls := hown
  have c_7 : ∀ (n : Nat) (x3 : Int32) (aBm : Int32) (aBy : Nat → Int32), f_X8_fillsBytes_l7 Z p1 p2 n x3 aBm aBy = some (aBm', aBy') → ∀ (H : Heap) (locs : List Loc), va_P D vwCl (wX8 cI h0 h1 h2 h3 h4 h5 aTh aSm aLn aAt aWe aRm aBm aHa aS aSv aCm aRd aBy) H → va_D A (wX8 cI h0 h1 h2 h3 h4 h5 aTh aSm aLn aAt aWe aRm aBm aHa aS aSv aCm aRd aBy) → va_S A s.heap H locs → ∀ ls : Array Slot, lv_has ls 4 [(0, .ref h0), (1, .int p1), (2, .int p2), (3, .int x3)] → W p l e rm_X8_fillsBytes s m args below meth c H locs 0 0 (FV D below args s (wX8 cI h0 h1 h2 h3 h4 h5 aTh aSm aLn aAt aWe aRm (aBm') aHa aS aSv aCm aRd (aBy')) A) (F0 m 7 ls []) := by
    intro n
    induction n with
    | zero => intro x3 aBm aBy h; exact no_some h
    | succ n ih =>
      intro x3 aBm aBy h H locs hP hD hS ls hl
      have h : f_X8_fillsBytes_b7 Z p1 p2 (f_X8_fillsBytes_l7 Z p1 p2 n) x3 aBm aBy = some (aBm', aBy') := h
      unfold f_X8_fillsBytes_b7 at h
      refine lv_iload_n hx hb dX8_fillsBytes_7 rfl (lv_at hl 3 rfl) ?_
      refine lv_iload_n hx hb dX8_fillsBytes_8 rfl (lv_at hl 2 rfl) ?_
      refine lv_icmp_ge (tgt := 25) hx hb dX8_fillsBytes_9 (by decide) (fun q1 => ?_) (fun q1 => ?_)
      · replace h := it_some q1 h
        cases h
        exact ret_v hx hb hr hlocks hP hD hS dX8_fillsBytes_25
      · replace h := if_some q1 h
        refine lv_aload_n hx hb dX8_fillsBytes_12 rfl (lv_at hl 0 rfl) ?_
        refine va_get (D := D) (ci := 8) (v := .ref h5) (C := RX8) (T := TX8) (N := 13) hx hb hg uX8 hown hK.1 hP 0 rfl rfl 10 (by decide) (hg _ gw_950) (fun _ h9 => h9) rfl dX8_fillsBytes_13 ?_
        refine lv_iload_n hx hb dX8_fillsBytes_16 rfl (lv_at hl 3 rfl) ?_
        refine lv_iload_n hx hb dX8_fillsBytes_17 rfl (lv_at hl 1 rfl) ?_
        obtain ⟨v2, h⟩ := rd_some h
        obtain ⟨aBy_3, eaBy_3, h⟩ := kl_some h
        refine va_iast hx hb hK.1 hP hD hS 5 0 rfl rfl v2 dX8_fillsBytes_18 (fun H locs hP hD hS => ?_)
        have hP : va_P D vwCl (wX8 cI h0 h1 h2 h3 h4 h5 aTh aSm aLn aAt aWe aRm aBm aHa aS aSv aCm aRd aBy_3) H := by rw [eaBy_3]; exact hP
        have hD : va_D A (wX8 cI h0 h1 h2 h3 h4 h5 aTh aSm aLn aAt aWe aRm aBm aHa aS aSv aCm aRd aBy_3) := by rw [eaBy_3]; exact hD
        obtain ⟨x3_4, ex3_4, h⟩ := kl_some h
        refine lv_iinc (v := x3_4) (lv' := [(3, .int x3_4), (0, .ref h0), (1, .int p1), (2, .int p2)]) hx hb dX8_fillsBytes_19 hl (k := 3) rfl (by rw [ex3_4]; rfl) (by decide) rfl (fun ls hl => ?_)
        refine lv_goto (tgt := 7) hx hb dX8_fillsBytes_22 (by decide) ?_
        exact ih x3_4 aBm aBy_3 h H locs hP hD hS ls (lv_sub hl [1, 2, 3, 0] rfl)
  have hl : lv_has ls 4 [(0, .ref h0), (1, .int p1), (2, .int p2)] := hl
  have hP : va_P D vwCl (wX8 cI h0 h1 h2 h3 h4 h5 aTh aSm aLn aAt aWe aRm aBm aHa aS aSv aCm aRd aBy) s.heap := hP
  have hD : va_D A (wX8 cI h0 h1 h2 h3 h4 h5 aTh aSm aLn aAt aWe aRm aBm aHa aS aSv aCm aRd aBy) := hD
  show W p l e rm_X8_fillsBytes s m args below meth c s.heap [] 0 0 (FV D below args s (wX8 cI h0 h1 h2 h3 h4 h5 aTh aSm aLn aAt aWe aRm (aBm') aHa aS aSv aCm aRd (aBy')) A) (F0 m 0 ls [])
  unfold f_X8_fillsBytes at h
  have hmain : ∀ (H : Heap) (locs : List Loc), va_P D vwCl (wX8 cI h0 h1 h2 h3 h4 h5 aTh aSm aLn aAt aWe aRm aBm aHa aS aSv aCm aRd aBy) H → va_S A s.heap H locs → W p l e rm_X8_fillsBytes s m args below meth c H locs 0 0 (FV D below args s (wX8 cI h0 h1 h2 h3 h4 h5 aTh aSm aLn aAt aWe aRm (aBm') aHa aS aSv aCm aRd (aBy')) A) (F0 m 0 ls []) := by
    intro H locs hP hS
    refine lv_aload_n hx hb dX8_fillsBytes_0 rfl (lv_at hl 0 rfl) ?_
    refine lv_iload_n hx hb dX8_fillsBytes_1 rfl (lv_at hl 2 rfl) ?_
    refine va_put (D := D) (ci := 8) (v := .int p2) (ty := tyX8 11) (C := RX8) (T := TX8) (N := 13) hx hb hg uX8 tyX8 tyX8_ok nmX8 hown hK.1 hP hD hS 0 rfl rfl 11 (by decide) (hg _ gw_951) (fun _ h9 => h9) rfl (tyX8_ok 11 (by decide)) rfl rfl (Nat.le_of_ble_eq_true rfl) dX8_fillsBytes_2 (fun H locs hP hD hS => ?_)
    have hP : va_P D vwCl (wX8 cI h0 h1 h2 h3 h4 h5 aTh aSm aLn aAt aWe aRm p2 aHa aS aSv aCm aRd aBy) H := hP
    have hD : va_D A (wX8 cI h0 h1 h2 h3 h4 h5 aTh aSm aLn aAt aWe aRm p2 aHa aS aSv aCm aRd aBy) := hD
    refine lv_iconst (v := 0) hx hb dX8_fillsBytes_5 (by decide) ?_
    refine lv_istore_n (lv' := [(3, .int 0), (0, .ref h0), (1, .int p1), (2, .int p2)]) hx hb dX8_fillsBytes_6 rfl hl (by decide) rfl (fun ls hl => ?_)
    exact c_7 Z 0 p2 aBy h H locs hP hD hS ls (lv_sub hl [1, 2, 3, 0] rfl)
  exact hmain _ _ hP hS
abbrev rm_X8_hasRoom : Room := { frames := 0, cells := 0, slots := 0, locals := 0 }
def f_X8_hasRoom (Z : Nat) (p1 : Int32) (aS : Nat → Int32) : Option (Int32) :=
  rd 0 344 (
  if 256 < ((aS (Int32.toNatClampNeg 0)) + p1) then
    some 0
  else
    some 1)
set_option maxRecDepth 100000 in
set_option maxHeartbeats 4000000 in
theorem k_X8_hasRoom (l : Launch) (D : va_G) (cI cS cL : ClassId) (Z : Nat) (h0 : Nat) (h1 : Nat) (h2 : Nat) (h3 : Nat) (h4 : Nat) (h5 : Nat) (p1 : Int32) (aTh : Int32) (aSm : Int32) (aLn : Int32) (aAt : Int32) (aWe : Int32) (aRm : Int32) (aBm : Int32) (aHa : Int64) (aS : Nat → Int32) (aSv : Nat → Int32) (aCm : Nat → Int32) (aRd : Nat → Int32) (aBy : Nat → Int32) {r : Int32} (h : f_X8_hasRoom Z p1 aS = some r) : CI l yX8_hasRoom cX8_hasRoom 2 (some .boolean) rm_X8_hasRoom D cI cS cL [.ref h0, .int p1] (wX8 cI h0 h1 h2 h3 h4 h5 aTh aSm aLn aAt aWe aRm aBm aHa aS aSv aCm aRd aBy) (wX8 cI h0 h1 h2 h3 h4 h5 aTh aSm aLn aAt aWe aRm aBm aHa aS aSv aCm aRd aBy) r := by
  refine ent_i (by decide +kernel) (Nat.le_of_ble_eq_true rfl) ?_
  intro p e s m args below meth c A ls hx hb hr hml hlocks hg hown hK hP hD hS hA hl
  have hown : s.vm.findClass RX8 = some m.cls := hown
  have hl : lv_has ls 2 [(0, .ref h0), (1, .int p1)] := hl
  have hP : va_P D vwCl (wX8 cI h0 h1 h2 h3 h4 h5 aTh aSm aLn aAt aWe aRm aBm aHa aS aSv aCm aRd aBy) s.heap := hP
  have hD : va_D A (wX8 cI h0 h1 h2 h3 h4 h5 aTh aSm aLn aAt aWe aRm aBm aHa aS aSv aCm aRd aBy) := hD
  show W p l e rm_X8_hasRoom s m args below meth c s.heap [] 0 0 (FI D below args s (wX8 cI h0 h1 h2 h3 h4 h5 aTh aSm aLn aAt aWe aRm aBm aHa aS aSv aCm aRd aBy) r A) (F0 m 0 ls [])
  unfold f_X8_hasRoom at h
  have hmain : ∀ (H : Heap) (locs : List Loc), va_P D vwCl (wX8 cI h0 h1 h2 h3 h4 h5 aTh aSm aLn aAt aWe aRm aBm aHa aS aSv aCm aRd aBy) H → va_S A s.heap H locs → W p l e rm_X8_hasRoom s m args below meth c H locs 0 0 (FI D below args s (wX8 cI h0 h1 h2 h3 h4 h5 aTh aSm aLn aAt aWe aRm aBm aHa aS aSv aCm aRd aBy) r A) (F0 m 0 ls []) := by
    intro H locs hP hS
    refine lv_aload_n hx hb dX8_hasRoom_0 rfl (lv_at hl 0 rfl) ?_
    refine va_get (D := D) (ci := 8) (v := .ref h1) (C := RX8) (T := TX8) (N := 13) hx hb hg uX8 hown hK.1 hP 0 rfl rfl 1 (by decide) (hg _ gw_941) (fun _ h9 => h9) rfl dX8_hasRoom_1 ?_
    refine lv_iconst (v := 0) hx hb dX8_hasRoom_4 (by decide) ?_
    obtain ⟨v1, h⟩ := rd_some h
    refine va_iald hx hb hK.1 hP 1 0 rfl rfl v1 dX8_hasRoom_5 ?_
    refine lv_iload_n hx hb dX8_hasRoom_6 rfl (lv_at hl 1 rfl) ?_
    refine lv_iadd hx hb dX8_hasRoom_7 ?_
    refine lv_sipush (v := 256) hx hb dX8_hasRoom_8 (by decide) ?_
    refine lv_icmp_gt (tgt := 18) hx hb dX8_hasRoom_11 (by decide) (fun q2 => ?_) (fun q2 => ?_)
    · replace h := it_some q2 h
      refine lv_iconst (v := 0) hx hb dX8_hasRoom_18 (by decide) ?_
      cases h
      exact ret_z hx hb hr hlocks hP hD hS dX8_hasRoom_19 (Or.inl rfl) rfl
    · replace h := if_some q2 h
      refine lv_iconst (v := 1) hx hb dX8_hasRoom_14 (by decide) ?_
      refine lv_goto (tgt := 19) hx hb dX8_hasRoom_15 (by decide) ?_
      cases h
      exact ret_z hx hb hr hlocks hP hD hS dX8_hasRoom_19 (Or.inr rfl) rfl
  exact hmain _ _ hP hS
abbrev rm_X8_type : Room := { frames := 4, cells := 0, slots := 0, locals := 85 }
def f_X8_type (Z : Nat) (p1 : Int32) (aTh : Int32) (aSm : Int32) (aBm : Int32) (aS : Nat → Int32) (aSv : Nat → Int32) (aBy : Nat → Int32) : Option (Int32 × Int32 × Int32 × Int32 × (Nat → Int32) × (Nat → Int32) × (Nat → Int32)) :=
  (f_X8_isByte Z p1).bind fun r1 =>
  if r1 = 0 then
    (f_X8_fails Z 1 (0)).bind fun (r10, aTh_10) =>
    some (r10, aTh_10, aSm, aBm, aS, aSv, aBy)
  else
    (f_X8_hasRoom Z 1 aS).bind fun r3 =>
    if r3 = 0 then
      (f_X8_fails Z 2 (0)).bind fun (r9, aTh_9) =>
      some (r9, aTh_9, aSm, aBm, aS, aSv, aBy)
    else
      (f_X8_saves Z aSm aS aSv).bind fun (aSm_5, aSv_5) =>
      (f_X8_fillsBytes Z p1 1 aBm aBy).bind fun (aBm_6, aBy_6) =>
      (f_X8_inserts Z aBm_6 aS aBy_6).bind fun aS_7 =>
      rd 0 344 (
      some (aS_7 (Int32.toNatClampNeg 0), (0), aSm_5, aBm_6, aS_7, aSv_5, aBy_6))
set_option maxRecDepth 100000 in
set_option maxHeartbeats 4000000 in
theorem k_X8_type (l : Launch) (D : va_G) (cI cS cL : ClassId) (Z : Nat) (h0 : Nat) (h1 : Nat) (h2 : Nat) (h3 : Nat) (h4 : Nat) (h5 : Nat) (p1 : Int32) (aTh : Int32) (aSm : Int32) (aLn : Int32) (aAt : Int32) (aWe : Int32) (aRm : Int32) (aBm : Int32) (aHa : Int64) (aS : Nat → Int32) (aSv : Nat → Int32) (aCm : Nat → Int32) (aRd : Nat → Int32) (aBy : Nat → Int32) {r : Int32} {aTh' : Int32} {aSm' : Int32} {aBm' : Int32} {aS' : Nat → Int32} {aSv' : Nat → Int32} {aBy' : Nat → Int32} (h : f_X8_type Z p1 aTh aSm aBm aS aSv aBy = some (r, aTh', aSm', aBm', aS', aSv', aBy')) : CI l yX8_type cX8_type 2 (some .int) rm_X8_type D cI cS cL [.ref h0, .int p1] (wX8 cI h0 h1 h2 h3 h4 h5 aTh aSm aLn aAt aWe aRm aBm aHa aS aSv aCm aRd aBy) (wX8 cI h0 h1 h2 h3 h4 h5 (aTh') (aSm') aLn aAt aWe aRm (aBm') aHa (aS') (aSv') aCm aRd (aBy')) r := by
  refine ent_i (by decide +kernel) (Nat.le_of_ble_eq_true rfl) ?_
  intro p e s m args below meth c A ls hx hb hr hml hlocks hg hown hK hP hD hS hA hl
  have hown : s.vm.findClass RX8 = some m.cls := hown
  have hl : lv_has ls 2 [(0, .ref h0), (1, .int p1)] := hl
  have hP : va_P D vwCl (wX8 cI h0 h1 h2 h3 h4 h5 aTh aSm aLn aAt aWe aRm aBm aHa aS aSv aCm aRd aBy) s.heap := hP
  have hD : va_D A (wX8 cI h0 h1 h2 h3 h4 h5 aTh aSm aLn aAt aWe aRm aBm aHa aS aSv aCm aRd aBy) := hD
  show W p l e rm_X8_type s m args below meth c s.heap [] 0 0 (FI D below args s (wX8 cI h0 h1 h2 h3 h4 h5 (aTh') (aSm') aLn aAt aWe aRm (aBm') aHa (aS') (aSv') aCm aRd (aBy')) r A) (F0 m 0 ls [])
  unfold f_X8_type at h
  have hmain : ∀ (H : Heap) (locs : List Loc), va_P D vwCl (wX8 cI h0 h1 h2 h3 h4 h5 aTh aSm aLn aAt aWe aRm aBm aHa aS aSv aCm aRd aBy) H → va_S A s.heap H locs → W p l e rm_X8_type s m args below meth c H locs 0 0 (FI D below args s (wX8 cI h0 h1 h2 h3 h4 h5 (aTh') (aSm') aLn aAt aWe aRm (aBm') aHa (aS') (aSv') aCm aRd (aBy')) r A) (F0 m 0 ls []) := by
    intro H locs hP hS
    refine lv_aload_n hx hb dX8_type_0 rfl (lv_at hl 0 rfl) ?_
    refine lv_iconst (v := 0) hx hb dX8_type_1 (by decide) ?_
    refine va_put (D := D) (ci := 8) (v := .int 0) (ty := tyX8 0) (C := RX8) (T := TX8) (N := 13) hx hb hg uX8 tyX8 tyX8_ok nmX8 hown hK.1 hP hD hS 0 rfl rfl 0 (by decide) (hg _ gw_940) (fun _ h9 => h9) rfl (tyX8_ok 0 (by decide)) rfl rfl (Nat.le_of_ble_eq_true rfl) dX8_type_2 (fun H locs hP hD hS => ?_)
    have hP : va_P D vwCl (wX8 cI h0 h1 h2 h3 h4 h5 (0) aSm aLn aAt aWe aRm aBm aHa aS aSv aCm aRd aBy) H := hP
    have hD : va_D A (wX8 cI h0 h1 h2 h3 h4 h5 (0) aSm aLn aAt aWe aRm aBm aHa aS aSv aCm aRd aBy) := hD
    refine lv_iload_n hx hb dX8_type_5 rfl (lv_at hl 1 rfl) ?_
    obtain ⟨r1, ec1, h⟩ := bd_some h
    refine cS_i (As := [.int p1]) (rest := []) (wc := []) (wc' := []) hx hb hml hown hg hK hP hD hS hA hl.1 (k_X8_isByte l D cI cS cL Z p1 ec1) gs_X8_isByte gw_988 ⟨rfl, rfl, by decide, by decide⟩ ⟨Nat.zero_le _, Nat.zero_le _⟩ [] rfl rfl rfl rfl rfl (Nat.le_of_ble_eq_true rfl) dX8_type_6 (fun H locs hP hD hS => ?_)
    have hP : va_P D vwCl (wX8 cI h0 h1 h2 h3 h4 h5 (0) aSm aLn aAt aWe aRm aBm aHa aS aSv aCm aRd aBy) H := hP
    have hD : va_D A (wX8 cI h0 h1 h2 h3 h4 h5 (0) aSm aLn aAt aWe aRm aBm aHa aS aSv aCm aRd aBy) := hD
    refine lv_if_ne (tgt := 18) hx hb dX8_type_9 (by decide) (fun q2 => ?_) (fun q2 => ?_)
    · replace h := if_some q2 h
      refine lv_aload_n hx hb dX8_type_18 rfl (lv_at hl 0 rfl) ?_
      refine lv_iconst (v := 1) hx hb dX8_type_19 (by decide) ?_
      obtain ⟨r3, ec3, h⟩ := bd_some h
      refine cV_i (As := [.int 1]) (rest := []) (wc := (wX8 cI h0 h1 h2 h3 h4 h5 (0) aSm aLn aAt aWe aRm aBm aHa aS aSv aCm aRd aBy)) (wc' := (wX8 cI h0 h1 h2 h3 h4 h5 (0) aSm aLn aAt aWe aRm aBm aHa aS aSv aCm aRd aBy)) hx hb hml hown hg hK hP hD hS hA hl.1 (k_X8_hasRoom l D cI cS cL Z h0 h1 h2 h3 h4 h5 1 (0) aSm aLn aAt aWe aRm aBm aHa aS aSv aCm aRd aBy ec3) gm_X8_hasRoom gw_998 ⟨rfl, rfl, by decide, by decide⟩ ⟨Nat.zero_le _, Nat.zero_le _⟩ [0, 1, 2, 3, 4, 5] rfl rfl rfl rfl rfl rfl rfl rfl (Nat.le_of_ble_eq_true rfl) dX8_type_20 (fun H locs hP hD hS => ?_)
      have hP : va_P D vwCl (wX8 cI h0 h1 h2 h3 h4 h5 (0) aSm aLn aAt aWe aRm aBm aHa aS aSv aCm aRd aBy) H := hP
      have hD : va_D A (wX8 cI h0 h1 h2 h3 h4 h5 (0) aSm aLn aAt aWe aRm aBm aHa aS aSv aCm aRd aBy) := hD
      refine lv_if_ne (tgt := 32) hx hb dX8_type_23 (by decide) (fun q4 => ?_) (fun q4 => ?_)
      · replace h := if_some q4 h
        refine lv_aload_n hx hb dX8_type_32 rfl (lv_at hl 0 rfl) ?_
        obtain ⟨⟨aSm_5, aSv_5⟩, ec5, h⟩ := bd_some h
        refine cV_v (As := []) (rest := []) (wc := (wX8 cI h0 h1 h2 h3 h4 h5 (0) aSm aLn aAt aWe aRm aBm aHa aS aSv aCm aRd aBy)) (wc' := (wX8 cI h0 h1 h2 h3 h4 h5 (0) aSm_5 aLn aAt aWe aRm aBm aHa aS aSv_5 aCm aRd aBy)) hx hb hml hown hg hK hP hD hS hA hl.1 (k_X8_saves l D cI cS cL Z h0 h1 h2 h3 h4 h5 (0) aSm aLn aAt aWe aRm aBm aHa aS aSv aCm aRd aBy ec5) gm_X8_saves gw_1002 ⟨rfl, rfl, by decide, by decide⟩ ⟨Nat.zero_le _, Nat.zero_le _⟩ [0, 1, 2, 3, 4, 5] rfl rfl rfl rfl rfl rfl rfl rfl (Nat.le_of_ble_eq_true rfl) dX8_type_33 (fun H locs hP hD hS => ?_)
        have hP : va_P D vwCl (wX8 cI h0 h1 h2 h3 h4 h5 (0) aSm_5 aLn aAt aWe aRm aBm aHa aS aSv_5 aCm aRd aBy) H := hP
        have hD : va_D A (wX8 cI h0 h1 h2 h3 h4 h5 (0) aSm_5 aLn aAt aWe aRm aBm aHa aS aSv_5 aCm aRd aBy) := hD
        refine lv_aload_n hx hb dX8_type_36 rfl (lv_at hl 0 rfl) ?_
        refine lv_iload_n hx hb dX8_type_37 rfl (lv_at hl 1 rfl) ?_
        refine lv_iconst (v := 1) hx hb dX8_type_38 (by decide) ?_
        obtain ⟨⟨aBm_6, aBy_6⟩, ec6, h⟩ := bd_some h
        refine cV_v (As := [.int p1, .int 1]) (rest := []) (wc := (wX8 cI h0 h1 h2 h3 h4 h5 (0) aSm_5 aLn aAt aWe aRm aBm aHa aS aSv_5 aCm aRd aBy)) (wc' := (wX8 cI h0 h1 h2 h3 h4 h5 (0) aSm_5 aLn aAt aWe aRm aBm_6 aHa aS aSv_5 aCm aRd aBy_6)) hx hb hml hown hg hK hP hD hS hA hl.1 (k_X8_fillsBytes l D cI cS cL Z h0 h1 h2 h3 h4 h5 p1 1 (0) aSm_5 aLn aAt aWe aRm aBm aHa aS aSv_5 aCm aRd aBy ec6) gm_X8_fillsBytes gw_1006 ⟨rfl, rfl, by decide, by decide⟩ ⟨Nat.zero_le _, Nat.zero_le _⟩ [0, 1, 2, 3, 4, 5] rfl rfl rfl rfl rfl rfl rfl rfl (Nat.le_of_ble_eq_true rfl) dX8_type_39 (fun H locs hP hD hS => ?_)
        have hP : va_P D vwCl (wX8 cI h0 h1 h2 h3 h4 h5 (0) aSm_5 aLn aAt aWe aRm aBm_6 aHa aS aSv_5 aCm aRd aBy_6) H := hP
        have hD : va_D A (wX8 cI h0 h1 h2 h3 h4 h5 (0) aSm_5 aLn aAt aWe aRm aBm_6 aHa aS aSv_5 aCm aRd aBy_6) := hD
        refine lv_aload_n hx hb dX8_type_42 rfl (lv_at hl 0 rfl) ?_
        obtain ⟨aS_7, ec7, h⟩ := bd_some h
        refine cV_v (As := []) (rest := []) (wc := (wX8 cI h0 h1 h2 h3 h4 h5 (0) aSm_5 aLn aAt aWe aRm aBm_6 aHa aS aSv_5 aCm aRd aBy_6)) (wc' := (wX8 cI h0 h1 h2 h3 h4 h5 (0) aSm_5 aLn aAt aWe aRm aBm_6 aHa aS_7 aSv_5 aCm aRd aBy_6)) hx hb hml hown hg hK hP hD hS hA hl.1 (k_X8_inserts l D cI cS cL Z h0 h1 h2 h3 h4 h5 (0) aSm_5 aLn aAt aWe aRm aBm_6 aHa aS aSv_5 aCm aRd aBy_6 ec7) gm_X8_inserts gw_1010 ⟨rfl, rfl, by decide, by decide⟩ ⟨Nat.zero_le _, Nat.zero_le _⟩ [0, 1, 2, 3, 4, 5] rfl rfl rfl rfl rfl rfl rfl rfl (Nat.le_of_ble_eq_true rfl) dX8_type_43 (fun H locs hP hD hS => ?_)
        have hP : va_P D vwCl (wX8 cI h0 h1 h2 h3 h4 h5 (0) aSm_5 aLn aAt aWe aRm aBm_6 aHa aS_7 aSv_5 aCm aRd aBy_6) H := hP
        have hD : va_D A (wX8 cI h0 h1 h2 h3 h4 h5 (0) aSm_5 aLn aAt aWe aRm aBm_6 aHa aS_7 aSv_5 aCm aRd aBy_6) := hD
        refine lv_aload_n hx hb dX8_type_46 rfl (lv_at hl 0 rfl) ?_
        refine va_get (D := D) (ci := 8) (v := .ref h1) (C := RX8) (T := TX8) (N := 13) hx hb hg uX8 hown hK.1 hP 0 rfl rfl 1 (by decide) (hg _ gw_941) (fun _ h9 => h9) rfl dX8_type_47 ?_
        refine lv_iconst (v := 0) hx hb dX8_type_50 (by decide) ?_
        obtain ⟨v8, h⟩ := rd_some h
        refine va_iald hx hb hK.1 hP 1 0 rfl rfl v8 dX8_type_51 ?_
        cases h
        exact ret_i hx hb hr hlocks hP hD hS dX8_type_52 rfl
      · replace h := it_some q4 h
        refine lv_aload_n hx hb dX8_type_26 rfl (lv_at hl 0 rfl) ?_
        refine lv_iconst (v := 2) hx hb dX8_type_27 (by decide) ?_
        obtain ⟨⟨r9, aTh_9⟩, ec9, h⟩ := bd_some h
        refine cV_i (As := [.int 2]) (rest := []) (wc := (wX8 cI h0 h1 h2 h3 h4 h5 (0) aSm aLn aAt aWe aRm aBm aHa aS aSv aCm aRd aBy)) (wc' := (wX8 cI h0 h1 h2 h3 h4 h5 aTh_9 aSm aLn aAt aWe aRm aBm aHa aS aSv aCm aRd aBy)) hx hb hml hown hg hK hP hD hS hA hl.1 (k_X8_fails l D cI cS cL Z h0 h1 h2 h3 h4 h5 2 (0) aSm aLn aAt aWe aRm aBm aHa aS aSv aCm aRd aBy ec9) gm_X8_fails gw_994 ⟨rfl, rfl, by decide, by decide⟩ ⟨Nat.zero_le _, Nat.zero_le _⟩ [0, 1, 2, 3, 4, 5] rfl rfl rfl rfl rfl rfl rfl rfl (Nat.le_of_ble_eq_true rfl) dX8_type_28 (fun H locs hP hD hS => ?_)
        have hP : va_P D vwCl (wX8 cI h0 h1 h2 h3 h4 h5 aTh_9 aSm aLn aAt aWe aRm aBm aHa aS aSv aCm aRd aBy) H := hP
        have hD : va_D A (wX8 cI h0 h1 h2 h3 h4 h5 aTh_9 aSm aLn aAt aWe aRm aBm aHa aS aSv aCm aRd aBy) := hD
        cases h
        exact ret_i hx hb hr hlocks hP hD hS dX8_type_31 rfl
    · replace h := it_some q2 h
      refine lv_aload_n hx hb dX8_type_12 rfl (lv_at hl 0 rfl) ?_
      refine lv_iconst (v := 1) hx hb dX8_type_13 (by decide) ?_
      obtain ⟨⟨r10, aTh_10⟩, ec10, h⟩ := bd_some h
      refine cV_i (As := [.int 1]) (rest := []) (wc := (wX8 cI h0 h1 h2 h3 h4 h5 (0) aSm aLn aAt aWe aRm aBm aHa aS aSv aCm aRd aBy)) (wc' := (wX8 cI h0 h1 h2 h3 h4 h5 aTh_10 aSm aLn aAt aWe aRm aBm aHa aS aSv aCm aRd aBy)) hx hb hml hown hg hK hP hD hS hA hl.1 (k_X8_fails l D cI cS cL Z h0 h1 h2 h3 h4 h5 1 (0) aSm aLn aAt aWe aRm aBm aHa aS aSv aCm aRd aBy ec10) gm_X8_fails gw_994 ⟨rfl, rfl, by decide, by decide⟩ ⟨Nat.zero_le _, Nat.zero_le _⟩ [0, 1, 2, 3, 4, 5] rfl rfl rfl rfl rfl rfl rfl rfl (Nat.le_of_ble_eq_true rfl) dX8_type_14 (fun H locs hP hD hS => ?_)
      have hP : va_P D vwCl (wX8 cI h0 h1 h2 h3 h4 h5 aTh_10 aSm aLn aAt aWe aRm aBm aHa aS aSv aCm aRd aBy) H := hP
      have hD : va_D A (wX8 cI h0 h1 h2 h3 h4 h5 aTh_10 aSm aLn aAt aWe aRm aBm aHa aS aSv aCm aRd aBy) := hD
      cases h
      exact ret_i hx hb hr hlocks hP hD hS dX8_type_17 rfl
  exact hmain _ _ hP hS
abbrev rm_X8_fill : Room := { frames := 4, cells := 0, slots := 0, locals := 85 }
def f_X8_fill (Z : Nat) (p1 : Int32) (p2 : Int32) (aTh : Int32) (aSm : Int32) (aBm : Int32) (aS : Nat → Int32) (aSv : Nat → Int32) (aBy : Nat → Int32) : Option (Int32 × Int32 × Int32 × Int32 × (Nat → Int32) × (Nat → Int32) × (Nat → Int32)) :=
  (f_X8_isByte Z p1).bind fun r1 =>
  if r1 = 0 then
    (f_X8_fails Z 1 (0)).bind fun (r3, aTh_3) =>
    some (r3, aTh_3, aSm, aBm, aS, aSv, aBy)
  else
    (f_X8_in Z p2 1 100).bind fun r4 =>
    if r4 = 0 then
      (f_X8_fails Z 1 (0)).bind fun (r13, aTh_13) =>
      some (r13, aTh_13, aSm, aBm, aS, aSv, aBy)
    else
      (f_X8_hasRoom Z p2 aS).bind fun r6 =>
      if r6 = 0 then
        (f_X8_fails Z 2 (0)).bind fun (r12, aTh_12) =>
        some (r12, aTh_12, aSm, aBm, aS, aSv, aBy)
      else
        (f_X8_saves Z aSm aS aSv).bind fun (aSm_8, aSv_8) =>
        (f_X8_fillsBytes Z p1 p2 aBm aBy).bind fun (aBm_9, aBy_9) =>
        (f_X8_inserts Z aBm_9 aS aBy_9).bind fun aS_10 =>
        rd 0 344 (
        some (aS_10 (Int32.toNatClampNeg 0), (0), aSm_8, aBm_9, aS_10, aSv_8, aBy_9))
set_option maxRecDepth 100000 in
set_option maxHeartbeats 4000000 in
theorem k_X8_fill (l : Launch) (D : va_G) (cI cS cL : ClassId) (Z : Nat) (h0 : Nat) (h1 : Nat) (h2 : Nat) (h3 : Nat) (h4 : Nat) (h5 : Nat) (p1 : Int32) (p2 : Int32) (aTh : Int32) (aSm : Int32) (aLn : Int32) (aAt : Int32) (aWe : Int32) (aRm : Int32) (aBm : Int32) (aHa : Int64) (aS : Nat → Int32) (aSv : Nat → Int32) (aCm : Nat → Int32) (aRd : Nat → Int32) (aBy : Nat → Int32) {r : Int32} {aTh' : Int32} {aSm' : Int32} {aBm' : Int32} {aS' : Nat → Int32} {aSv' : Nat → Int32} {aBy' : Nat → Int32} (h : f_X8_fill Z p1 p2 aTh aSm aBm aS aSv aBy = some (r, aTh', aSm', aBm', aS', aSv', aBy')) : CI l yX8_fill cX8_fill 3 (some .int) rm_X8_fill D cI cS cL [.ref h0, .int p1, .int p2] (wX8 cI h0 h1 h2 h3 h4 h5 aTh aSm aLn aAt aWe aRm aBm aHa aS aSv aCm aRd aBy) (wX8 cI h0 h1 h2 h3 h4 h5 (aTh') (aSm') aLn aAt aWe aRm (aBm') aHa (aS') (aSv') aCm aRd (aBy')) r := by
  refine ent_i (by decide +kernel) (Nat.le_of_ble_eq_true rfl) ?_
  intro p e s m args below meth c A ls hx hb hr hml hlocks hg hown hK hP hD hS hA hl
  have hown : s.vm.findClass RX8 = some m.cls := hown
  have hl : lv_has ls 3 [(0, .ref h0), (1, .int p1), (2, .int p2)] := hl
  have hP : va_P D vwCl (wX8 cI h0 h1 h2 h3 h4 h5 aTh aSm aLn aAt aWe aRm aBm aHa aS aSv aCm aRd aBy) s.heap := hP
  have hD : va_D A (wX8 cI h0 h1 h2 h3 h4 h5 aTh aSm aLn aAt aWe aRm aBm aHa aS aSv aCm aRd aBy) := hD
  show W p l e rm_X8_fill s m args below meth c s.heap [] 0 0 (FI D below args s (wX8 cI h0 h1 h2 h3 h4 h5 (aTh') (aSm') aLn aAt aWe aRm (aBm') aHa (aS') (aSv') aCm aRd (aBy')) r A) (F0 m 0 ls [])
  unfold f_X8_fill at h
  have hmain : ∀ (H : Heap) (locs : List Loc), va_P D vwCl (wX8 cI h0 h1 h2 h3 h4 h5 aTh aSm aLn aAt aWe aRm aBm aHa aS aSv aCm aRd aBy) H → va_S A s.heap H locs → W p l e rm_X8_fill s m args below meth c H locs 0 0 (FI D below args s (wX8 cI h0 h1 h2 h3 h4 h5 (aTh') (aSm') aLn aAt aWe aRm (aBm') aHa (aS') (aSv') aCm aRd (aBy')) r A) (F0 m 0 ls []) := by
    intro H locs hP hS
    refine lv_aload_n hx hb dX8_fill_0 rfl (lv_at hl 0 rfl) ?_
    refine lv_iconst (v := 0) hx hb dX8_fill_1 (by decide) ?_
    refine va_put (D := D) (ci := 8) (v := .int 0) (ty := tyX8 0) (C := RX8) (T := TX8) (N := 13) hx hb hg uX8 tyX8 tyX8_ok nmX8 hown hK.1 hP hD hS 0 rfl rfl 0 (by decide) (hg _ gw_940) (fun _ h9 => h9) rfl (tyX8_ok 0 (by decide)) rfl rfl (Nat.le_of_ble_eq_true rfl) dX8_fill_2 (fun H locs hP hD hS => ?_)
    have hP : va_P D vwCl (wX8 cI h0 h1 h2 h3 h4 h5 (0) aSm aLn aAt aWe aRm aBm aHa aS aSv aCm aRd aBy) H := hP
    have hD : va_D A (wX8 cI h0 h1 h2 h3 h4 h5 (0) aSm aLn aAt aWe aRm aBm aHa aS aSv aCm aRd aBy) := hD
    refine lv_iload_n hx hb dX8_fill_5 rfl (lv_at hl 1 rfl) ?_
    obtain ⟨r1, ec1, h⟩ := bd_some h
    refine cS_i (As := [.int p1]) (rest := []) (wc := []) (wc' := []) hx hb hml hown hg hK hP hD hS hA hl.1 (k_X8_isByte l D cI cS cL Z p1 ec1) gs_X8_isByte gw_988 ⟨rfl, rfl, by decide, by decide⟩ ⟨Nat.zero_le _, Nat.zero_le _⟩ [] rfl rfl rfl rfl rfl (Nat.le_of_ble_eq_true rfl) dX8_fill_6 (fun H locs hP hD hS => ?_)
    have hP : va_P D vwCl (wX8 cI h0 h1 h2 h3 h4 h5 (0) aSm aLn aAt aWe aRm aBm aHa aS aSv aCm aRd aBy) H := hP
    have hD : va_D A (wX8 cI h0 h1 h2 h3 h4 h5 (0) aSm aLn aAt aWe aRm aBm aHa aS aSv aCm aRd aBy) := hD
    refine lv_if_eq (tgt := 22) hx hb dX8_fill_9 (by decide) (fun q2 => ?_) (fun q2 => ?_)
    · replace h := it_some q2 h
      refine lv_aload_n hx hb dX8_fill_22 rfl (lv_at hl 0 rfl) ?_
      refine lv_iconst (v := 1) hx hb dX8_fill_23 (by decide) ?_
      obtain ⟨⟨r3, aTh_3⟩, ec3, h⟩ := bd_some h
      refine cV_i (As := [.int 1]) (rest := []) (wc := (wX8 cI h0 h1 h2 h3 h4 h5 (0) aSm aLn aAt aWe aRm aBm aHa aS aSv aCm aRd aBy)) (wc' := (wX8 cI h0 h1 h2 h3 h4 h5 aTh_3 aSm aLn aAt aWe aRm aBm aHa aS aSv aCm aRd aBy)) hx hb hml hown hg hK hP hD hS hA hl.1 (k_X8_fails l D cI cS cL Z h0 h1 h2 h3 h4 h5 1 (0) aSm aLn aAt aWe aRm aBm aHa aS aSv aCm aRd aBy ec3) gm_X8_fails gw_994 ⟨rfl, rfl, by decide, by decide⟩ ⟨Nat.zero_le _, Nat.zero_le _⟩ [0, 1, 2, 3, 4, 5] rfl rfl rfl rfl rfl rfl rfl rfl (Nat.le_of_ble_eq_true rfl) dX8_fill_24 (fun H locs hP hD hS => ?_)
      have hP : va_P D vwCl (wX8 cI h0 h1 h2 h3 h4 h5 aTh_3 aSm aLn aAt aWe aRm aBm aHa aS aSv aCm aRd aBy) H := hP
      have hD : va_D A (wX8 cI h0 h1 h2 h3 h4 h5 aTh_3 aSm aLn aAt aWe aRm aBm aHa aS aSv aCm aRd aBy) := hD
      cases h
      exact ret_i hx hb hr hlocks hP hD hS dX8_fill_27 rfl
    · replace h := if_some q2 h
      refine lv_iload_n hx hb dX8_fill_12 rfl (lv_at hl 2 rfl) ?_
      refine lv_iconst (v := 1) hx hb dX8_fill_13 (by decide) ?_
      refine lv_bipush (v := 100) hx hb dX8_fill_14 (by decide) ?_
      obtain ⟨r4, ec4, h⟩ := bd_some h
      refine cS_i (As := [.int p2, .int 1, .int 100]) (rest := []) (wc := []) (wc' := []) hx hb hml hown hg hK hP hD hS hA hl.1 (k_X8_in l D cI cS cL Z p2 1 100 ec4) gs_X8_in gw_991 ⟨rfl, rfl, by decide, by decide⟩ ⟨Nat.zero_le _, Nat.zero_le _⟩ [] rfl rfl rfl rfl rfl (Nat.le_of_ble_eq_true rfl) dX8_fill_16 (fun H locs hP hD hS => ?_)
      have hP : va_P D vwCl (wX8 cI h0 h1 h2 h3 h4 h5 (0) aSm aLn aAt aWe aRm aBm aHa aS aSv aCm aRd aBy) H := hP
      have hD : va_D A (wX8 cI h0 h1 h2 h3 h4 h5 (0) aSm aLn aAt aWe aRm aBm aHa aS aSv aCm aRd aBy) := hD
      refine lv_if_ne (tgt := 28) hx hb dX8_fill_19 (by decide) (fun q5 => ?_) (fun q5 => ?_)
      · replace h := if_some q5 h
        refine lv_aload_n hx hb dX8_fill_28 rfl (lv_at hl 0 rfl) ?_
        refine lv_iload_n hx hb dX8_fill_29 rfl (lv_at hl 2 rfl) ?_
        obtain ⟨r6, ec6, h⟩ := bd_some h
        refine cV_i (As := [.int p2]) (rest := []) (wc := (wX8 cI h0 h1 h2 h3 h4 h5 (0) aSm aLn aAt aWe aRm aBm aHa aS aSv aCm aRd aBy)) (wc' := (wX8 cI h0 h1 h2 h3 h4 h5 (0) aSm aLn aAt aWe aRm aBm aHa aS aSv aCm aRd aBy)) hx hb hml hown hg hK hP hD hS hA hl.1 (k_X8_hasRoom l D cI cS cL Z h0 h1 h2 h3 h4 h5 p2 (0) aSm aLn aAt aWe aRm aBm aHa aS aSv aCm aRd aBy ec6) gm_X8_hasRoom gw_998 ⟨rfl, rfl, by decide, by decide⟩ ⟨Nat.zero_le _, Nat.zero_le _⟩ [0, 1, 2, 3, 4, 5] rfl rfl rfl rfl rfl rfl rfl rfl (Nat.le_of_ble_eq_true rfl) dX8_fill_30 (fun H locs hP hD hS => ?_)
        have hP : va_P D vwCl (wX8 cI h0 h1 h2 h3 h4 h5 (0) aSm aLn aAt aWe aRm aBm aHa aS aSv aCm aRd aBy) H := hP
        have hD : va_D A (wX8 cI h0 h1 h2 h3 h4 h5 (0) aSm aLn aAt aWe aRm aBm aHa aS aSv aCm aRd aBy) := hD
        refine lv_if_ne (tgt := 42) hx hb dX8_fill_33 (by decide) (fun q7 => ?_) (fun q7 => ?_)
        · replace h := if_some q7 h
          refine lv_aload_n hx hb dX8_fill_42 rfl (lv_at hl 0 rfl) ?_
          obtain ⟨⟨aSm_8, aSv_8⟩, ec8, h⟩ := bd_some h
          refine cV_v (As := []) (rest := []) (wc := (wX8 cI h0 h1 h2 h3 h4 h5 (0) aSm aLn aAt aWe aRm aBm aHa aS aSv aCm aRd aBy)) (wc' := (wX8 cI h0 h1 h2 h3 h4 h5 (0) aSm_8 aLn aAt aWe aRm aBm aHa aS aSv_8 aCm aRd aBy)) hx hb hml hown hg hK hP hD hS hA hl.1 (k_X8_saves l D cI cS cL Z h0 h1 h2 h3 h4 h5 (0) aSm aLn aAt aWe aRm aBm aHa aS aSv aCm aRd aBy ec8) gm_X8_saves gw_1002 ⟨rfl, rfl, by decide, by decide⟩ ⟨Nat.zero_le _, Nat.zero_le _⟩ [0, 1, 2, 3, 4, 5] rfl rfl rfl rfl rfl rfl rfl rfl (Nat.le_of_ble_eq_true rfl) dX8_fill_43 (fun H locs hP hD hS => ?_)
          have hP : va_P D vwCl (wX8 cI h0 h1 h2 h3 h4 h5 (0) aSm_8 aLn aAt aWe aRm aBm aHa aS aSv_8 aCm aRd aBy) H := hP
          have hD : va_D A (wX8 cI h0 h1 h2 h3 h4 h5 (0) aSm_8 aLn aAt aWe aRm aBm aHa aS aSv_8 aCm aRd aBy) := hD
          refine lv_aload_n hx hb dX8_fill_46 rfl (lv_at hl 0 rfl) ?_
          refine lv_iload_n hx hb dX8_fill_47 rfl (lv_at hl 1 rfl) ?_
          refine lv_iload_n hx hb dX8_fill_48 rfl (lv_at hl 2 rfl) ?_
          obtain ⟨⟨aBm_9, aBy_9⟩, ec9, h⟩ := bd_some h
          refine cV_v (As := [.int p1, .int p2]) (rest := []) (wc := (wX8 cI h0 h1 h2 h3 h4 h5 (0) aSm_8 aLn aAt aWe aRm aBm aHa aS aSv_8 aCm aRd aBy)) (wc' := (wX8 cI h0 h1 h2 h3 h4 h5 (0) aSm_8 aLn aAt aWe aRm aBm_9 aHa aS aSv_8 aCm aRd aBy_9)) hx hb hml hown hg hK hP hD hS hA hl.1 (k_X8_fillsBytes l D cI cS cL Z h0 h1 h2 h3 h4 h5 p1 p2 (0) aSm_8 aLn aAt aWe aRm aBm aHa aS aSv_8 aCm aRd aBy ec9) gm_X8_fillsBytes gw_1006 ⟨rfl, rfl, by decide, by decide⟩ ⟨Nat.zero_le _, Nat.zero_le _⟩ [0, 1, 2, 3, 4, 5] rfl rfl rfl rfl rfl rfl rfl rfl (Nat.le_of_ble_eq_true rfl) dX8_fill_49 (fun H locs hP hD hS => ?_)
          have hP : va_P D vwCl (wX8 cI h0 h1 h2 h3 h4 h5 (0) aSm_8 aLn aAt aWe aRm aBm_9 aHa aS aSv_8 aCm aRd aBy_9) H := hP
          have hD : va_D A (wX8 cI h0 h1 h2 h3 h4 h5 (0) aSm_8 aLn aAt aWe aRm aBm_9 aHa aS aSv_8 aCm aRd aBy_9) := hD
          refine lv_aload_n hx hb dX8_fill_52 rfl (lv_at hl 0 rfl) ?_
          obtain ⟨aS_10, ec10, h⟩ := bd_some h
          refine cV_v (As := []) (rest := []) (wc := (wX8 cI h0 h1 h2 h3 h4 h5 (0) aSm_8 aLn aAt aWe aRm aBm_9 aHa aS aSv_8 aCm aRd aBy_9)) (wc' := (wX8 cI h0 h1 h2 h3 h4 h5 (0) aSm_8 aLn aAt aWe aRm aBm_9 aHa aS_10 aSv_8 aCm aRd aBy_9)) hx hb hml hown hg hK hP hD hS hA hl.1 (k_X8_inserts l D cI cS cL Z h0 h1 h2 h3 h4 h5 (0) aSm_8 aLn aAt aWe aRm aBm_9 aHa aS aSv_8 aCm aRd aBy_9 ec10) gm_X8_inserts gw_1010 ⟨rfl, rfl, by decide, by decide⟩ ⟨Nat.zero_le _, Nat.zero_le _⟩ [0, 1, 2, 3, 4, 5] rfl rfl rfl rfl rfl rfl rfl rfl (Nat.le_of_ble_eq_true rfl) dX8_fill_53 (fun H locs hP hD hS => ?_)
          have hP : va_P D vwCl (wX8 cI h0 h1 h2 h3 h4 h5 (0) aSm_8 aLn aAt aWe aRm aBm_9 aHa aS_10 aSv_8 aCm aRd aBy_9) H := hP
          have hD : va_D A (wX8 cI h0 h1 h2 h3 h4 h5 (0) aSm_8 aLn aAt aWe aRm aBm_9 aHa aS_10 aSv_8 aCm aRd aBy_9) := hD
          refine lv_aload_n hx hb dX8_fill_56 rfl (lv_at hl 0 rfl) ?_
          refine va_get (D := D) (ci := 8) (v := .ref h1) (C := RX8) (T := TX8) (N := 13) hx hb hg uX8 hown hK.1 hP 0 rfl rfl 1 (by decide) (hg _ gw_941) (fun _ h9 => h9) rfl dX8_fill_57 ?_
          refine lv_iconst (v := 0) hx hb dX8_fill_60 (by decide) ?_
          obtain ⟨v11, h⟩ := rd_some h
          refine va_iald hx hb hK.1 hP 1 0 rfl rfl v11 dX8_fill_61 ?_
          cases h
          exact ret_i hx hb hr hlocks hP hD hS dX8_fill_62 rfl
        · replace h := it_some q7 h
          refine lv_aload_n hx hb dX8_fill_36 rfl (lv_at hl 0 rfl) ?_
          refine lv_iconst (v := 2) hx hb dX8_fill_37 (by decide) ?_
          obtain ⟨⟨r12, aTh_12⟩, ec12, h⟩ := bd_some h
          refine cV_i (As := [.int 2]) (rest := []) (wc := (wX8 cI h0 h1 h2 h3 h4 h5 (0) aSm aLn aAt aWe aRm aBm aHa aS aSv aCm aRd aBy)) (wc' := (wX8 cI h0 h1 h2 h3 h4 h5 aTh_12 aSm aLn aAt aWe aRm aBm aHa aS aSv aCm aRd aBy)) hx hb hml hown hg hK hP hD hS hA hl.1 (k_X8_fails l D cI cS cL Z h0 h1 h2 h3 h4 h5 2 (0) aSm aLn aAt aWe aRm aBm aHa aS aSv aCm aRd aBy ec12) gm_X8_fails gw_994 ⟨rfl, rfl, by decide, by decide⟩ ⟨Nat.zero_le _, Nat.zero_le _⟩ [0, 1, 2, 3, 4, 5] rfl rfl rfl rfl rfl rfl rfl rfl (Nat.le_of_ble_eq_true rfl) dX8_fill_38 (fun H locs hP hD hS => ?_)
          have hP : va_P D vwCl (wX8 cI h0 h1 h2 h3 h4 h5 aTh_12 aSm aLn aAt aWe aRm aBm aHa aS aSv aCm aRd aBy) H := hP
          have hD : va_D A (wX8 cI h0 h1 h2 h3 h4 h5 aTh_12 aSm aLn aAt aWe aRm aBm aHa aS aSv aCm aRd aBy) := hD
          cases h
          exact ret_i hx hb hr hlocks hP hD hS dX8_fill_41 rfl
      · replace h := it_some q5 h
        refine lv_aload_n hx hb dX8_fill_22 rfl (lv_at hl 0 rfl) ?_
        refine lv_iconst (v := 1) hx hb dX8_fill_23 (by decide) ?_
        obtain ⟨⟨r13, aTh_13⟩, ec13, h⟩ := bd_some h
        refine cV_i (As := [.int 1]) (rest := []) (wc := (wX8 cI h0 h1 h2 h3 h4 h5 (0) aSm aLn aAt aWe aRm aBm aHa aS aSv aCm aRd aBy)) (wc' := (wX8 cI h0 h1 h2 h3 h4 h5 aTh_13 aSm aLn aAt aWe aRm aBm aHa aS aSv aCm aRd aBy)) hx hb hml hown hg hK hP hD hS hA hl.1 (k_X8_fails l D cI cS cL Z h0 h1 h2 h3 h4 h5 1 (0) aSm aLn aAt aWe aRm aBm aHa aS aSv aCm aRd aBy ec13) gm_X8_fails gw_994 ⟨rfl, rfl, by decide, by decide⟩ ⟨Nat.zero_le _, Nat.zero_le _⟩ [0, 1, 2, 3, 4, 5] rfl rfl rfl rfl rfl rfl rfl rfl (Nat.le_of_ble_eq_true rfl) dX8_fill_24 (fun H locs hP hD hS => ?_)
        have hP : va_P D vwCl (wX8 cI h0 h1 h2 h3 h4 h5 aTh_13 aSm aLn aAt aWe aRm aBm aHa aS aSv aCm aRd aBy) H := hP
        have hD : va_D A (wX8 cI h0 h1 h2 h3 h4 h5 aTh_13 aSm aLn aAt aWe aRm aBm aHa aS aSv aCm aRd aBy) := hD
        cases h
        exact ret_i hx hb hr hlocks hP hD hS dX8_fill_27 rfl
  exact hmain _ _ hP hS
abbrev rm_X8_erase : Room := { frames := 5, cells := 0, slots := 0, locals := 111 }
def f_X8_erase (Z : Nat) (p1 : Int32) (aTh : Int32) (aSm : Int32) (aS : Nat → Int32) (aSv : Nat → Int32) : Option (Int32 × Int32 × Int32 × (Nat → Int32) × (Nat → Int32)) :=
  (f_X8_in Z p1 1 100).bind fun r1 =>
  if r1 = 0 then
    (f_X8_fails Z 1 (0)).bind fun (r5, aTh_5) =>
    some (r5, aTh_5, aSm, aS, aSv)
  else
    (f_X8_saves Z aSm aS aSv).bind fun (aSm_3, aSv_3) =>
    (f_X8_erases Z p1 aS).bind fun (r4, aS_4) =>
    some (r4, (0), aSm_3, aS_4, aSv_3)
set_option maxRecDepth 100000 in
set_option maxHeartbeats 4000000 in
theorem k_X8_erase (l : Launch) (D : va_G) (cI cS cL : ClassId) (Z : Nat) (h0 : Nat) (h1 : Nat) (h2 : Nat) (h3 : Nat) (h4 : Nat) (h5 : Nat) (p1 : Int32) (aTh : Int32) (aSm : Int32) (aLn : Int32) (aAt : Int32) (aWe : Int32) (aRm : Int32) (aBm : Int32) (aHa : Int64) (aS : Nat → Int32) (aSv : Nat → Int32) (aCm : Nat → Int32) (aRd : Nat → Int32) (aBy : Nat → Int32) {r : Int32} {aTh' : Int32} {aSm' : Int32} {aS' : Nat → Int32} {aSv' : Nat → Int32} (h : f_X8_erase Z p1 aTh aSm aS aSv = some (r, aTh', aSm', aS', aSv')) : CI l yX8_erase cX8_erase 2 (some .int) rm_X8_erase D cI cS cL [.ref h0, .int p1] (wX8 cI h0 h1 h2 h3 h4 h5 aTh aSm aLn aAt aWe aRm aBm aHa aS aSv aCm aRd aBy) (wX8 cI h0 h1 h2 h3 h4 h5 (aTh') (aSm') aLn aAt aWe aRm aBm aHa (aS') (aSv') aCm aRd aBy) r := by
  refine ent_i (by decide +kernel) (Nat.le_of_ble_eq_true rfl) ?_
  intro p e s m args below meth c A ls hx hb hr hml hlocks hg hown hK hP hD hS hA hl
  have hown : s.vm.findClass RX8 = some m.cls := hown
  have hl : lv_has ls 2 [(0, .ref h0), (1, .int p1)] := hl
  have hP : va_P D vwCl (wX8 cI h0 h1 h2 h3 h4 h5 aTh aSm aLn aAt aWe aRm aBm aHa aS aSv aCm aRd aBy) s.heap := hP
  have hD : va_D A (wX8 cI h0 h1 h2 h3 h4 h5 aTh aSm aLn aAt aWe aRm aBm aHa aS aSv aCm aRd aBy) := hD
  show W p l e rm_X8_erase s m args below meth c s.heap [] 0 0 (FI D below args s (wX8 cI h0 h1 h2 h3 h4 h5 (aTh') (aSm') aLn aAt aWe aRm aBm aHa (aS') (aSv') aCm aRd aBy) r A) (F0 m 0 ls [])
  unfold f_X8_erase at h
  have hmain : ∀ (H : Heap) (locs : List Loc), va_P D vwCl (wX8 cI h0 h1 h2 h3 h4 h5 aTh aSm aLn aAt aWe aRm aBm aHa aS aSv aCm aRd aBy) H → va_S A s.heap H locs → W p l e rm_X8_erase s m args below meth c H locs 0 0 (FI D below args s (wX8 cI h0 h1 h2 h3 h4 h5 (aTh') (aSm') aLn aAt aWe aRm aBm aHa (aS') (aSv') aCm aRd aBy) r A) (F0 m 0 ls []) := by
    intro H locs hP hS
    refine lv_aload_n hx hb dX8_erase_0 rfl (lv_at hl 0 rfl) ?_
    refine lv_iconst (v := 0) hx hb dX8_erase_1 (by decide) ?_
    refine va_put (D := D) (ci := 8) (v := .int 0) (ty := tyX8 0) (C := RX8) (T := TX8) (N := 13) hx hb hg uX8 tyX8 tyX8_ok nmX8 hown hK.1 hP hD hS 0 rfl rfl 0 (by decide) (hg _ gw_940) (fun _ h9 => h9) rfl (tyX8_ok 0 (by decide)) rfl rfl (Nat.le_of_ble_eq_true rfl) dX8_erase_2 (fun H locs hP hD hS => ?_)
    have hP : va_P D vwCl (wX8 cI h0 h1 h2 h3 h4 h5 (0) aSm aLn aAt aWe aRm aBm aHa aS aSv aCm aRd aBy) H := hP
    have hD : va_D A (wX8 cI h0 h1 h2 h3 h4 h5 (0) aSm aLn aAt aWe aRm aBm aHa aS aSv aCm aRd aBy) := hD
    refine lv_iload_n hx hb dX8_erase_5 rfl (lv_at hl 1 rfl) ?_
    refine lv_iconst (v := 1) hx hb dX8_erase_6 (by decide) ?_
    refine lv_bipush (v := 100) hx hb dX8_erase_7 (by decide) ?_
    obtain ⟨r1, ec1, h⟩ := bd_some h
    refine cS_i (As := [.int p1, .int 1, .int 100]) (rest := []) (wc := []) (wc' := []) hx hb hml hown hg hK hP hD hS hA hl.1 (k_X8_in l D cI cS cL Z p1 1 100 ec1) gs_X8_in gw_991 ⟨rfl, rfl, by decide, by decide⟩ ⟨Nat.zero_le _, Nat.zero_le _⟩ [] rfl rfl rfl rfl rfl (Nat.le_of_ble_eq_true rfl) dX8_erase_9 (fun H locs hP hD hS => ?_)
    have hP : va_P D vwCl (wX8 cI h0 h1 h2 h3 h4 h5 (0) aSm aLn aAt aWe aRm aBm aHa aS aSv aCm aRd aBy) H := hP
    have hD : va_D A (wX8 cI h0 h1 h2 h3 h4 h5 (0) aSm aLn aAt aWe aRm aBm aHa aS aSv aCm aRd aBy) := hD
    refine lv_if_ne (tgt := 21) hx hb dX8_erase_12 (by decide) (fun q2 => ?_) (fun q2 => ?_)
    · replace h := if_some q2 h
      refine lv_aload_n hx hb dX8_erase_21 rfl (lv_at hl 0 rfl) ?_
      obtain ⟨⟨aSm_3, aSv_3⟩, ec3, h⟩ := bd_some h
      refine cV_v (As := []) (rest := []) (wc := (wX8 cI h0 h1 h2 h3 h4 h5 (0) aSm aLn aAt aWe aRm aBm aHa aS aSv aCm aRd aBy)) (wc' := (wX8 cI h0 h1 h2 h3 h4 h5 (0) aSm_3 aLn aAt aWe aRm aBm aHa aS aSv_3 aCm aRd aBy)) hx hb hml hown hg hK hP hD hS hA hl.1 (k_X8_saves l D cI cS cL Z h0 h1 h2 h3 h4 h5 (0) aSm aLn aAt aWe aRm aBm aHa aS aSv aCm aRd aBy ec3) gm_X8_saves gw_1002 ⟨rfl, rfl, by decide, by decide⟩ ⟨Nat.zero_le _, Nat.zero_le _⟩ [0, 1, 2, 3, 4, 5] rfl rfl rfl rfl rfl rfl rfl rfl (Nat.le_of_ble_eq_true rfl) dX8_erase_22 (fun H locs hP hD hS => ?_)
      have hP : va_P D vwCl (wX8 cI h0 h1 h2 h3 h4 h5 (0) aSm_3 aLn aAt aWe aRm aBm aHa aS aSv_3 aCm aRd aBy) H := hP
      have hD : va_D A (wX8 cI h0 h1 h2 h3 h4 h5 (0) aSm_3 aLn aAt aWe aRm aBm aHa aS aSv_3 aCm aRd aBy) := hD
      refine lv_aload_n hx hb dX8_erase_25 rfl (lv_at hl 0 rfl) ?_
      refine lv_iload_n hx hb dX8_erase_26 rfl (lv_at hl 1 rfl) ?_
      obtain ⟨⟨r4, aS_4⟩, ec4, h⟩ := bd_some h
      refine cV_i (As := [.int p1]) (rest := []) (wc := (wX8 cI h0 h1 h2 h3 h4 h5 (0) aSm_3 aLn aAt aWe aRm aBm aHa aS aSv_3 aCm aRd aBy)) (wc' := (wX8 cI h0 h1 h2 h3 h4 h5 (0) aSm_3 aLn aAt aWe aRm aBm aHa aS_4 aSv_3 aCm aRd aBy)) hx hb hml hown hg hK hP hD hS hA hl.1 (k_X8_erases l D cI cS cL Z h0 h1 h2 h3 h4 h5 p1 (0) aSm_3 aLn aAt aWe aRm aBm aHa aS aSv_3 aCm aRd aBy ec4) gm_X8_erases gw_1045 ⟨rfl, rfl, by decide, by decide⟩ ⟨Nat.zero_le _, Nat.zero_le _⟩ [0, 1, 2, 3, 4, 5] rfl rfl rfl rfl rfl rfl rfl rfl (Nat.le_of_ble_eq_true rfl) dX8_erase_27 (fun H locs hP hD hS => ?_)
      have hP : va_P D vwCl (wX8 cI h0 h1 h2 h3 h4 h5 (0) aSm_3 aLn aAt aWe aRm aBm aHa aS_4 aSv_3 aCm aRd aBy) H := hP
      have hD : va_D A (wX8 cI h0 h1 h2 h3 h4 h5 (0) aSm_3 aLn aAt aWe aRm aBm aHa aS_4 aSv_3 aCm aRd aBy) := hD
      cases h
      exact ret_i hx hb hr hlocks hP hD hS dX8_erase_30 rfl
    · replace h := it_some q2 h
      refine lv_aload_n hx hb dX8_erase_15 rfl (lv_at hl 0 rfl) ?_
      refine lv_iconst (v := 1) hx hb dX8_erase_16 (by decide) ?_
      obtain ⟨⟨r5, aTh_5⟩, ec5, h⟩ := bd_some h
      refine cV_i (As := [.int 1]) (rest := []) (wc := (wX8 cI h0 h1 h2 h3 h4 h5 (0) aSm aLn aAt aWe aRm aBm aHa aS aSv aCm aRd aBy)) (wc' := (wX8 cI h0 h1 h2 h3 h4 h5 aTh_5 aSm aLn aAt aWe aRm aBm aHa aS aSv aCm aRd aBy)) hx hb hml hown hg hK hP hD hS hA hl.1 (k_X8_fails l D cI cS cL Z h0 h1 h2 h3 h4 h5 1 (0) aSm aLn aAt aWe aRm aBm aHa aS aSv aCm aRd aBy ec5) gm_X8_fails gw_994 ⟨rfl, rfl, by decide, by decide⟩ ⟨Nat.zero_le _, Nat.zero_le _⟩ [0, 1, 2, 3, 4, 5] rfl rfl rfl rfl rfl rfl rfl rfl (Nat.le_of_ble_eq_true rfl) dX8_erase_17 (fun H locs hP hD hS => ?_)
      have hP : va_P D vwCl (wX8 cI h0 h1 h2 h3 h4 h5 aTh_5 aSm aLn aAt aWe aRm aBm aHa aS aSv aCm aRd aBy) H := hP
      have hD : va_D A (wX8 cI h0 h1 h2 h3 h4 h5 aTh_5 aSm aLn aAt aWe aRm aBm aHa aS aSv aCm aRd aBy) := hD
      cases h
      exact ret_i hx hb hr hlocks hP hD hS dX8_erase_20 rfl
  exact hmain _ _ hP hS
abbrev rm_X8_backspace : Room := { frames := 5, cells := 0, slots := 0, locals := 110 }
def f_X8_backspace (Z : Nat) (p1 : Int32) (aTh : Int32) (aSm : Int32) (aS : Nat → Int32) (aSv : Nat → Int32) : Option (Int32 × Int32 × Int32 × (Nat → Int32) × (Nat → Int32)) :=
  (f_X8_in Z p1 1 100).bind fun r1 =>
  if r1 = 0 then
    (f_X8_fails Z 1 (0)).bind fun (r5, aTh_5) =>
    some (r5, aTh_5, aSm, aS, aSv)
  else
    (f_X8_saves Z aSm aS aSv).bind fun (aSm_3, aSv_3) =>
    (f_X8_backs Z p1 aS).bind fun (r4, aS_4) =>
    some (r4, (0), aSm_3, aS_4, aSv_3)
set_option maxRecDepth 100000 in
set_option maxHeartbeats 4000000 in
theorem k_X8_backspace (l : Launch) (D : va_G) (cI cS cL : ClassId) (Z : Nat) (h0 : Nat) (h1 : Nat) (h2 : Nat) (h3 : Nat) (h4 : Nat) (h5 : Nat) (p1 : Int32) (aTh : Int32) (aSm : Int32) (aLn : Int32) (aAt : Int32) (aWe : Int32) (aRm : Int32) (aBm : Int32) (aHa : Int64) (aS : Nat → Int32) (aSv : Nat → Int32) (aCm : Nat → Int32) (aRd : Nat → Int32) (aBy : Nat → Int32) {r : Int32} {aTh' : Int32} {aSm' : Int32} {aS' : Nat → Int32} {aSv' : Nat → Int32} (h : f_X8_backspace Z p1 aTh aSm aS aSv = some (r, aTh', aSm', aS', aSv')) : CI l yX8_backspace cX8_backspace 2 (some .int) rm_X8_backspace D cI cS cL [.ref h0, .int p1] (wX8 cI h0 h1 h2 h3 h4 h5 aTh aSm aLn aAt aWe aRm aBm aHa aS aSv aCm aRd aBy) (wX8 cI h0 h1 h2 h3 h4 h5 (aTh') (aSm') aLn aAt aWe aRm aBm aHa (aS') (aSv') aCm aRd aBy) r := by
  refine ent_i (by decide +kernel) (Nat.le_of_ble_eq_true rfl) ?_
  intro p e s m args below meth c A ls hx hb hr hml hlocks hg hown hK hP hD hS hA hl
  have hown : s.vm.findClass RX8 = some m.cls := hown
  have hl : lv_has ls 2 [(0, .ref h0), (1, .int p1)] := hl
  have hP : va_P D vwCl (wX8 cI h0 h1 h2 h3 h4 h5 aTh aSm aLn aAt aWe aRm aBm aHa aS aSv aCm aRd aBy) s.heap := hP
  have hD : va_D A (wX8 cI h0 h1 h2 h3 h4 h5 aTh aSm aLn aAt aWe aRm aBm aHa aS aSv aCm aRd aBy) := hD
  show W p l e rm_X8_backspace s m args below meth c s.heap [] 0 0 (FI D below args s (wX8 cI h0 h1 h2 h3 h4 h5 (aTh') (aSm') aLn aAt aWe aRm aBm aHa (aS') (aSv') aCm aRd aBy) r A) (F0 m 0 ls [])
  unfold f_X8_backspace at h
  have hmain : ∀ (H : Heap) (locs : List Loc), va_P D vwCl (wX8 cI h0 h1 h2 h3 h4 h5 aTh aSm aLn aAt aWe aRm aBm aHa aS aSv aCm aRd aBy) H → va_S A s.heap H locs → W p l e rm_X8_backspace s m args below meth c H locs 0 0 (FI D below args s (wX8 cI h0 h1 h2 h3 h4 h5 (aTh') (aSm') aLn aAt aWe aRm aBm aHa (aS') (aSv') aCm aRd aBy) r A) (F0 m 0 ls []) := by
    intro H locs hP hS
    refine lv_aload_n hx hb dX8_backspace_0 rfl (lv_at hl 0 rfl) ?_
    refine lv_iconst (v := 0) hx hb dX8_backspace_1 (by decide) ?_
    refine va_put (D := D) (ci := 8) (v := .int 0) (ty := tyX8 0) (C := RX8) (T := TX8) (N := 13) hx hb hg uX8 tyX8 tyX8_ok nmX8 hown hK.1 hP hD hS 0 rfl rfl 0 (by decide) (hg _ gw_940) (fun _ h9 => h9) rfl (tyX8_ok 0 (by decide)) rfl rfl (Nat.le_of_ble_eq_true rfl) dX8_backspace_2 (fun H locs hP hD hS => ?_)
    have hP : va_P D vwCl (wX8 cI h0 h1 h2 h3 h4 h5 (0) aSm aLn aAt aWe aRm aBm aHa aS aSv aCm aRd aBy) H := hP
    have hD : va_D A (wX8 cI h0 h1 h2 h3 h4 h5 (0) aSm aLn aAt aWe aRm aBm aHa aS aSv aCm aRd aBy) := hD
    refine lv_iload_n hx hb dX8_backspace_5 rfl (lv_at hl 1 rfl) ?_
    refine lv_iconst (v := 1) hx hb dX8_backspace_6 (by decide) ?_
    refine lv_bipush (v := 100) hx hb dX8_backspace_7 (by decide) ?_
    obtain ⟨r1, ec1, h⟩ := bd_some h
    refine cS_i (As := [.int p1, .int 1, .int 100]) (rest := []) (wc := []) (wc' := []) hx hb hml hown hg hK hP hD hS hA hl.1 (k_X8_in l D cI cS cL Z p1 1 100 ec1) gs_X8_in gw_991 ⟨rfl, rfl, by decide, by decide⟩ ⟨Nat.zero_le _, Nat.zero_le _⟩ [] rfl rfl rfl rfl rfl (Nat.le_of_ble_eq_true rfl) dX8_backspace_9 (fun H locs hP hD hS => ?_)
    have hP : va_P D vwCl (wX8 cI h0 h1 h2 h3 h4 h5 (0) aSm aLn aAt aWe aRm aBm aHa aS aSv aCm aRd aBy) H := hP
    have hD : va_D A (wX8 cI h0 h1 h2 h3 h4 h5 (0) aSm aLn aAt aWe aRm aBm aHa aS aSv aCm aRd aBy) := hD
    refine lv_if_ne (tgt := 21) hx hb dX8_backspace_12 (by decide) (fun q2 => ?_) (fun q2 => ?_)
    · replace h := if_some q2 h
      refine lv_aload_n hx hb dX8_backspace_21 rfl (lv_at hl 0 rfl) ?_
      obtain ⟨⟨aSm_3, aSv_3⟩, ec3, h⟩ := bd_some h
      refine cV_v (As := []) (rest := []) (wc := (wX8 cI h0 h1 h2 h3 h4 h5 (0) aSm aLn aAt aWe aRm aBm aHa aS aSv aCm aRd aBy)) (wc' := (wX8 cI h0 h1 h2 h3 h4 h5 (0) aSm_3 aLn aAt aWe aRm aBm aHa aS aSv_3 aCm aRd aBy)) hx hb hml hown hg hK hP hD hS hA hl.1 (k_X8_saves l D cI cS cL Z h0 h1 h2 h3 h4 h5 (0) aSm aLn aAt aWe aRm aBm aHa aS aSv aCm aRd aBy ec3) gm_X8_saves gw_1002 ⟨rfl, rfl, by decide, by decide⟩ ⟨Nat.zero_le _, Nat.zero_le _⟩ [0, 1, 2, 3, 4, 5] rfl rfl rfl rfl rfl rfl rfl rfl (Nat.le_of_ble_eq_true rfl) dX8_backspace_22 (fun H locs hP hD hS => ?_)
      have hP : va_P D vwCl (wX8 cI h0 h1 h2 h3 h4 h5 (0) aSm_3 aLn aAt aWe aRm aBm aHa aS aSv_3 aCm aRd aBy) H := hP
      have hD : va_D A (wX8 cI h0 h1 h2 h3 h4 h5 (0) aSm_3 aLn aAt aWe aRm aBm aHa aS aSv_3 aCm aRd aBy) := hD
      refine lv_aload_n hx hb dX8_backspace_25 rfl (lv_at hl 0 rfl) ?_
      refine lv_iload_n hx hb dX8_backspace_26 rfl (lv_at hl 1 rfl) ?_
      obtain ⟨⟨r4, aS_4⟩, ec4, h⟩ := bd_some h
      refine cV_i (As := [.int p1]) (rest := []) (wc := (wX8 cI h0 h1 h2 h3 h4 h5 (0) aSm_3 aLn aAt aWe aRm aBm aHa aS aSv_3 aCm aRd aBy)) (wc' := (wX8 cI h0 h1 h2 h3 h4 h5 (0) aSm_3 aLn aAt aWe aRm aBm aHa aS_4 aSv_3 aCm aRd aBy)) hx hb hml hown hg hK hP hD hS hA hl.1 (k_X8_backs l D cI cS cL Z h0 h1 h2 h3 h4 h5 p1 (0) aSm_3 aLn aAt aWe aRm aBm aHa aS aSv_3 aCm aRd aBy ec4) gm_X8_backs gw_1057 ⟨rfl, rfl, by decide, by decide⟩ ⟨Nat.zero_le _, Nat.zero_le _⟩ [0, 1, 2, 3, 4, 5] rfl rfl rfl rfl rfl rfl rfl rfl (Nat.le_of_ble_eq_true rfl) dX8_backspace_27 (fun H locs hP hD hS => ?_)
      have hP : va_P D vwCl (wX8 cI h0 h1 h2 h3 h4 h5 (0) aSm_3 aLn aAt aWe aRm aBm aHa aS_4 aSv_3 aCm aRd aBy) H := hP
      have hD : va_D A (wX8 cI h0 h1 h2 h3 h4 h5 (0) aSm_3 aLn aAt aWe aRm aBm aHa aS_4 aSv_3 aCm aRd aBy) := hD
      cases h
      exact ret_i hx hb hr hlocks hP hD hS dX8_backspace_30 rfl
    · replace h := it_some q2 h
      refine lv_aload_n hx hb dX8_backspace_15 rfl (lv_at hl 0 rfl) ?_
      refine lv_iconst (v := 1) hx hb dX8_backspace_16 (by decide) ?_
      obtain ⟨⟨r5, aTh_5⟩, ec5, h⟩ := bd_some h
      refine cV_i (As := [.int 1]) (rest := []) (wc := (wX8 cI h0 h1 h2 h3 h4 h5 (0) aSm aLn aAt aWe aRm aBm aHa aS aSv aCm aRd aBy)) (wc' := (wX8 cI h0 h1 h2 h3 h4 h5 aTh_5 aSm aLn aAt aWe aRm aBm aHa aS aSv aCm aRd aBy)) hx hb hml hown hg hK hP hD hS hA hl.1 (k_X8_fails l D cI cS cL Z h0 h1 h2 h3 h4 h5 1 (0) aSm aLn aAt aWe aRm aBm aHa aS aSv aCm aRd aBy ec5) gm_X8_fails gw_994 ⟨rfl, rfl, by decide, by decide⟩ ⟨Nat.zero_le _, Nat.zero_le _⟩ [0, 1, 2, 3, 4, 5] rfl rfl rfl rfl rfl rfl rfl rfl (Nat.le_of_ble_eq_true rfl) dX8_backspace_17 (fun H locs hP hD hS => ?_)
      have hP : va_P D vwCl (wX8 cI h0 h1 h2 h3 h4 h5 aTh_5 aSm aLn aAt aWe aRm aBm aHa aS aSv aCm aRd aBy) H := hP
      have hD : va_D A (wX8 cI h0 h1 h2 h3 h4 h5 aTh_5 aSm aLn aAt aWe aRm aBm aHa aS aSv aCm aRd aBy) := hD
      cases h
      exact ret_i hx hb hr hlocks hP hD hS dX8_backspace_20 rfl
  exact hmain _ _ hP hS
abbrev rm_X8_moves : Room := { frames := 2, cells := 0, slots := 0, locals := 42 }
def f_X8_moves (Z : Nat) (p1 : Int32) (aS : Nat → Int32) : Option (Int32 × (Nat → Int32)) :=
  rd 1 344 (kl (upd aS (Int32.toNatClampNeg 1) p1) fun aS_2 =>
  rd 9 344 (
  if (aS_2 (Int32.toNatClampNeg 9)) = 1 then
    (f_X8_movesGap Z p1 aS_2).bind fun (r5, aS_5) =>
    some (r5, aS_5)
  else
    some (0, aS_2)))
set_option maxRecDepth 100000 in
set_option maxHeartbeats 4000000 in
theorem k_X8_moves (l : Launch) (D : va_G) (cI cS cL : ClassId) (Z : Nat) (h0 : Nat) (h1 : Nat) (h2 : Nat) (h3 : Nat) (h4 : Nat) (h5 : Nat) (p1 : Int32) (aTh : Int32) (aSm : Int32) (aLn : Int32) (aAt : Int32) (aWe : Int32) (aRm : Int32) (aBm : Int32) (aHa : Int64) (aS : Nat → Int32) (aSv : Nat → Int32) (aCm : Nat → Int32) (aRd : Nat → Int32) (aBy : Nat → Int32) {r : Int32} {aS' : Nat → Int32} (h : f_X8_moves Z p1 aS = some (r, aS')) : CI l yX8_moves cX8_moves 2 (some .int) rm_X8_moves D cI cS cL [.ref h0, .int p1] (wX8 cI h0 h1 h2 h3 h4 h5 aTh aSm aLn aAt aWe aRm aBm aHa aS aSv aCm aRd aBy) (wX8 cI h0 h1 h2 h3 h4 h5 aTh aSm aLn aAt aWe aRm aBm aHa (aS') aSv aCm aRd aBy) r := by
  refine ent_i (by decide +kernel) (Nat.le_of_ble_eq_true rfl) ?_
  intro p e s m args below meth c A ls hx hb hr hml hlocks hg hown hK hP hD hS hA hl
  have hown : s.vm.findClass RX8 = some m.cls := hown
  have hl : lv_has ls 2 [(0, .ref h0), (1, .int p1)] := hl
  have hP : va_P D vwCl (wX8 cI h0 h1 h2 h3 h4 h5 aTh aSm aLn aAt aWe aRm aBm aHa aS aSv aCm aRd aBy) s.heap := hP
  have hD : va_D A (wX8 cI h0 h1 h2 h3 h4 h5 aTh aSm aLn aAt aWe aRm aBm aHa aS aSv aCm aRd aBy) := hD
  show W p l e rm_X8_moves s m args below meth c s.heap [] 0 0 (FI D below args s (wX8 cI h0 h1 h2 h3 h4 h5 aTh aSm aLn aAt aWe aRm aBm aHa (aS') aSv aCm aRd aBy) r A) (F0 m 0 ls [])
  unfold f_X8_moves at h
  have hmain : ∀ (H : Heap) (locs : List Loc), va_P D vwCl (wX8 cI h0 h1 h2 h3 h4 h5 aTh aSm aLn aAt aWe aRm aBm aHa aS aSv aCm aRd aBy) H → va_S A s.heap H locs → W p l e rm_X8_moves s m args below meth c H locs 0 0 (FI D below args s (wX8 cI h0 h1 h2 h3 h4 h5 aTh aSm aLn aAt aWe aRm aBm aHa (aS') aSv aCm aRd aBy) r A) (F0 m 0 ls []) := by
    intro H locs hP hS
    refine lv_aload_n hx hb dX8_moves_0 rfl (lv_at hl 0 rfl) ?_
    refine va_get (D := D) (ci := 8) (v := .ref h1) (C := RX8) (T := TX8) (N := 13) hx hb hg uX8 hown hK.1 hP 0 rfl rfl 1 (by decide) (hg _ gw_941) (fun _ h9 => h9) rfl dX8_moves_1 ?_
    refine lv_iconst (v := 1) hx hb dX8_moves_4 (by decide) ?_
    refine lv_iload_n hx hb dX8_moves_5 rfl (lv_at hl 1 rfl) ?_
    obtain ⟨v1, h⟩ := rd_some h
    obtain ⟨aS_2, eaS_2, h⟩ := kl_some h
    refine va_iast hx hb hK.1 hP hD hS 1 0 rfl rfl v1 dX8_moves_6 (fun H locs hP hD hS => ?_)
    have hP : va_P D vwCl (wX8 cI h0 h1 h2 h3 h4 h5 aTh aSm aLn aAt aWe aRm aBm aHa aS_2 aSv aCm aRd aBy) H := by rw [eaS_2]; exact hP
    have hD : va_D A (wX8 cI h0 h1 h2 h3 h4 h5 aTh aSm aLn aAt aWe aRm aBm aHa aS_2 aSv aCm aRd aBy) := by rw [eaS_2]; exact hD
    refine lv_aload_n hx hb dX8_moves_7 rfl (lv_at hl 0 rfl) ?_
    refine va_get (D := D) (ci := 8) (v := .ref h1) (C := RX8) (T := TX8) (N := 13) hx hb hg uX8 hown hK.1 hP 0 rfl rfl 1 (by decide) (hg _ gw_941) (fun _ h9 => h9) rfl dX8_moves_8 ?_
    refine lv_bipush (v := 9) hx hb dX8_moves_11 (by decide) ?_
    obtain ⟨v3, h⟩ := rd_some h
    refine va_iald hx hb hK.1 hP 1 0 rfl rfl v3 dX8_moves_13 ?_
    refine lv_iconst (v := 1) hx hb dX8_moves_14 (by decide) ?_
    refine lv_icmp_ne (tgt := 26) hx hb dX8_moves_15 (by decide) (fun q4 => ?_) (fun q4 => ?_)
    · replace h := if_some q4 h
      refine lv_iconst (v := 0) hx hb dX8_moves_26 (by decide) ?_
      cases h
      exact ret_i hx hb hr hlocks hP hD hS dX8_moves_27 rfl
    · replace h := it_some q4 h
      refine lv_aload_n hx hb dX8_moves_18 rfl (lv_at hl 0 rfl) ?_
      refine lv_iload_n hx hb dX8_moves_19 rfl (lv_at hl 1 rfl) ?_
      obtain ⟨⟨r5, aS_5⟩, ec5, h⟩ := bd_some h
      refine cV_i (As := [.int p1]) (rest := []) (wc := (wX8 cI h0 h1 h2 h3 h4 h5 aTh aSm aLn aAt aWe aRm aBm aHa aS_2 aSv aCm aRd aBy)) (wc' := (wX8 cI h0 h1 h2 h3 h4 h5 aTh aSm aLn aAt aWe aRm aBm aHa aS_5 aSv aCm aRd aBy)) hx hb hml hown hg hK hP hD hS hA hl.1 (k_X8_movesGap l D cI cS cL Z h0 h1 h2 h3 h4 h5 p1 aTh aSm aLn aAt aWe aRm aBm aHa aS_2 aSv aCm aRd aBy ec5) gm_X8_movesGap gw_1014 ⟨rfl, rfl, by decide, by decide⟩ ⟨Nat.zero_le _, Nat.zero_le _⟩ [0, 1, 2, 3, 4, 5] rfl rfl rfl rfl rfl rfl rfl rfl (Nat.le_of_ble_eq_true rfl) dX8_moves_20 (fun H locs hP hD hS => ?_)
      have hP : va_P D vwCl (wX8 cI h0 h1 h2 h3 h4 h5 aTh aSm aLn aAt aWe aRm aBm aHa aS_5 aSv aCm aRd aBy) H := hP
      have hD : va_D A (wX8 cI h0 h1 h2 h3 h4 h5 aTh aSm aLn aAt aWe aRm aBm aHa aS_5 aSv aCm aRd aBy) := hD
      refine lv_goto (tgt := 27) hx hb dX8_moves_23 (by decide) ?_
      cases h
      exact ret_i hx hb hr hlocks hP hD hS dX8_moves_27 rfl
  exact hmain _ _ hP hS
abbrev rm_X8_movesAnew : Room := { frames := 3, cells := 0, slots := 0, locals := 63 }
def f_X8_movesAnew (Z : Nat) (p1 : Int32) (aS : Nat → Int32) : Option (Int32 × (Nat → Int32)) :=
  (f_X8_moves Z p1 aS).bind fun (r1, aS_1) =>
  (f_X8_setsGoal Z aS_1).bind fun aS_2 =>
  some (r1, aS_2)
set_option maxRecDepth 100000 in
set_option maxHeartbeats 4000000 in
theorem k_X8_movesAnew (l : Launch) (D : va_G) (cI cS cL : ClassId) (Z : Nat) (h0 : Nat) (h1 : Nat) (h2 : Nat) (h3 : Nat) (h4 : Nat) (h5 : Nat) (p1 : Int32) (aTh : Int32) (aSm : Int32) (aLn : Int32) (aAt : Int32) (aWe : Int32) (aRm : Int32) (aBm : Int32) (aHa : Int64) (aS : Nat → Int32) (aSv : Nat → Int32) (aCm : Nat → Int32) (aRd : Nat → Int32) (aBy : Nat → Int32) {r : Int32} {aS' : Nat → Int32} (h : f_X8_movesAnew Z p1 aS = some (r, aS')) : CI l yX8_movesAnew cX8_movesAnew 3 (some .int) rm_X8_movesAnew D cI cS cL [.ref h0, .int p1] (wX8 cI h0 h1 h2 h3 h4 h5 aTh aSm aLn aAt aWe aRm aBm aHa aS aSv aCm aRd aBy) (wX8 cI h0 h1 h2 h3 h4 h5 aTh aSm aLn aAt aWe aRm aBm aHa (aS') aSv aCm aRd aBy) r := by
  refine ent_i (by decide +kernel) (Nat.le_of_ble_eq_true rfl) ?_
  intro p e s m args below meth c A ls hx hb hr hml hlocks hg hown hK hP hD hS hA hl
  have hown : s.vm.findClass RX8 = some m.cls := hown
  have hl : lv_has ls 3 [(0, .ref h0), (1, .int p1)] := hl
  have hP : va_P D vwCl (wX8 cI h0 h1 h2 h3 h4 h5 aTh aSm aLn aAt aWe aRm aBm aHa aS aSv aCm aRd aBy) s.heap := hP
  have hD : va_D A (wX8 cI h0 h1 h2 h3 h4 h5 aTh aSm aLn aAt aWe aRm aBm aHa aS aSv aCm aRd aBy) := hD
  show W p l e rm_X8_movesAnew s m args below meth c s.heap [] 0 0 (FI D below args s (wX8 cI h0 h1 h2 h3 h4 h5 aTh aSm aLn aAt aWe aRm aBm aHa (aS') aSv aCm aRd aBy) r A) (F0 m 0 ls [])
  unfold f_X8_movesAnew at h
  have hmain : ∀ (H : Heap) (locs : List Loc), va_P D vwCl (wX8 cI h0 h1 h2 h3 h4 h5 aTh aSm aLn aAt aWe aRm aBm aHa aS aSv aCm aRd aBy) H → va_S A s.heap H locs → W p l e rm_X8_movesAnew s m args below meth c H locs 0 0 (FI D below args s (wX8 cI h0 h1 h2 h3 h4 h5 aTh aSm aLn aAt aWe aRm aBm aHa (aS') aSv aCm aRd aBy) r A) (F0 m 0 ls []) := by
    intro H locs hP hS
    refine lv_aload_n hx hb dX8_movesAnew_0 rfl (lv_at hl 0 rfl) ?_
    refine lv_iload_n hx hb dX8_movesAnew_1 rfl (lv_at hl 1 rfl) ?_
    obtain ⟨⟨r1, aS_1⟩, ec1, h⟩ := bd_some h
    refine cV_i (As := [.int p1]) (rest := []) (wc := (wX8 cI h0 h1 h2 h3 h4 h5 aTh aSm aLn aAt aWe aRm aBm aHa aS aSv aCm aRd aBy)) (wc' := (wX8 cI h0 h1 h2 h3 h4 h5 aTh aSm aLn aAt aWe aRm aBm aHa aS_1 aSv aCm aRd aBy)) hx hb hml hown hg hK hP hD hS hA hl.1 (k_X8_moves l D cI cS cL Z h0 h1 h2 h3 h4 h5 p1 aTh aSm aLn aAt aWe aRm aBm aHa aS aSv aCm aRd aBy ec1) gm_X8_moves gw_1073 ⟨rfl, rfl, by decide, by decide⟩ ⟨Nat.zero_le _, Nat.zero_le _⟩ [0, 1, 2, 3, 4, 5] rfl rfl rfl rfl rfl rfl rfl rfl (Nat.le_of_ble_eq_true rfl) dX8_movesAnew_2 (fun H locs hP hD hS => ?_)
    have hP : va_P D vwCl (wX8 cI h0 h1 h2 h3 h4 h5 aTh aSm aLn aAt aWe aRm aBm aHa aS_1 aSv aCm aRd aBy) H := hP
    have hD : va_D A (wX8 cI h0 h1 h2 h3 h4 h5 aTh aSm aLn aAt aWe aRm aBm aHa aS_1 aSv aCm aRd aBy) := hD
    refine lv_istore_n (lv' := [(2, .int r1), (0, .ref h0), (1, .int p1)]) hx hb dX8_movesAnew_5 rfl hl (by decide) rfl (fun ls hl => ?_)
    refine lv_aload_n hx hb dX8_movesAnew_6 rfl (lv_at hl 1 rfl) ?_
    obtain ⟨aS_2, ec2, h⟩ := bd_some h
    refine cV_v (As := []) (rest := []) (wc := (wX8 cI h0 h1 h2 h3 h4 h5 aTh aSm aLn aAt aWe aRm aBm aHa aS_1 aSv aCm aRd aBy)) (wc' := (wX8 cI h0 h1 h2 h3 h4 h5 aTh aSm aLn aAt aWe aRm aBm aHa aS_2 aSv aCm aRd aBy)) hx hb hml hown hg hK hP hD hS hA hl.1 (k_X8_setsGoal l D cI cS cL Z h0 h1 h2 h3 h4 h5 aTh aSm aLn aAt aWe aRm aBm aHa aS_1 aSv aCm aRd aBy ec2) gm_X8_setsGoal gw_1025 ⟨rfl, rfl, by decide, by decide⟩ ⟨Nat.zero_le _, Nat.zero_le _⟩ [0, 1, 2, 3, 4, 5] rfl rfl rfl rfl rfl rfl rfl rfl (Nat.le_of_ble_eq_true rfl) dX8_movesAnew_7 (fun H locs hP hD hS => ?_)
    have hP : va_P D vwCl (wX8 cI h0 h1 h2 h3 h4 h5 aTh aSm aLn aAt aWe aRm aBm aHa aS_2 aSv aCm aRd aBy) H := hP
    have hD : va_D A (wX8 cI h0 h1 h2 h3 h4 h5 aTh aSm aLn aAt aWe aRm aBm aHa aS_2 aSv aCm aRd aBy) := hD
    refine lv_iload_n hx hb dX8_movesAnew_10 rfl (lv_at hl 0 rfl) ?_
    cases h
    exact ret_i hx hb hr hlocks hP hD hS dX8_movesAnew_11 rfl
  exact hmain _ _ hP hS
abbrev rm_X8_moveTo : Room := { frames := 4, cells := 0, slots := 0, locals := 85 }
def f_X8_moveTo (Z : Nat) (p1 : Int32) (aTh : Int32) (aSm : Int32) (aS : Nat → Int32) (aSv : Nat → Int32) : Option (Int32 × Int32 × Int32 × (Nat → Int32) × (Nat → Int32)) :=
  (f_X8_isPosition Z p1 aS).bind fun r1 =>
  if r1 = 0 then
    (f_X8_fails Z 1 (0)).bind fun (r5, aTh_5) =>
    some (r5, aTh_5, aSm, aS, aSv)
  else
    (f_X8_saves Z aSm aS aSv).bind fun (aSm_3, aSv_3) =>
    (f_X8_movesAnew Z p1 aS).bind fun (r4, aS_4) =>
    some (r4, (0), aSm_3, aS_4, aSv_3)
set_option maxRecDepth 100000 in
set_option maxHeartbeats 4000000 in
theorem k_X8_moveTo (l : Launch) (D : va_G) (cI cS cL : ClassId) (Z : Nat) (h0 : Nat) (h1 : Nat) (h2 : Nat) (h3 : Nat) (h4 : Nat) (h5 : Nat) (p1 : Int32) (aTh : Int32) (aSm : Int32) (aLn : Int32) (aAt : Int32) (aWe : Int32) (aRm : Int32) (aBm : Int32) (aHa : Int64) (aS : Nat → Int32) (aSv : Nat → Int32) (aCm : Nat → Int32) (aRd : Nat → Int32) (aBy : Nat → Int32) {r : Int32} {aTh' : Int32} {aSm' : Int32} {aS' : Nat → Int32} {aSv' : Nat → Int32} (h : f_X8_moveTo Z p1 aTh aSm aS aSv = some (r, aTh', aSm', aS', aSv')) : CI l yX8_moveTo cX8_moveTo 2 (some .int) rm_X8_moveTo D cI cS cL [.ref h0, .int p1] (wX8 cI h0 h1 h2 h3 h4 h5 aTh aSm aLn aAt aWe aRm aBm aHa aS aSv aCm aRd aBy) (wX8 cI h0 h1 h2 h3 h4 h5 (aTh') (aSm') aLn aAt aWe aRm aBm aHa (aS') (aSv') aCm aRd aBy) r := by
  refine ent_i (by decide +kernel) (Nat.le_of_ble_eq_true rfl) ?_
  intro p e s m args below meth c A ls hx hb hr hml hlocks hg hown hK hP hD hS hA hl
  have hown : s.vm.findClass RX8 = some m.cls := hown
  have hl : lv_has ls 2 [(0, .ref h0), (1, .int p1)] := hl
  have hP : va_P D vwCl (wX8 cI h0 h1 h2 h3 h4 h5 aTh aSm aLn aAt aWe aRm aBm aHa aS aSv aCm aRd aBy) s.heap := hP
  have hD : va_D A (wX8 cI h0 h1 h2 h3 h4 h5 aTh aSm aLn aAt aWe aRm aBm aHa aS aSv aCm aRd aBy) := hD
  show W p l e rm_X8_moveTo s m args below meth c s.heap [] 0 0 (FI D below args s (wX8 cI h0 h1 h2 h3 h4 h5 (aTh') (aSm') aLn aAt aWe aRm aBm aHa (aS') (aSv') aCm aRd aBy) r A) (F0 m 0 ls [])
  unfold f_X8_moveTo at h
  have hmain : ∀ (H : Heap) (locs : List Loc), va_P D vwCl (wX8 cI h0 h1 h2 h3 h4 h5 aTh aSm aLn aAt aWe aRm aBm aHa aS aSv aCm aRd aBy) H → va_S A s.heap H locs → W p l e rm_X8_moveTo s m args below meth c H locs 0 0 (FI D below args s (wX8 cI h0 h1 h2 h3 h4 h5 (aTh') (aSm') aLn aAt aWe aRm aBm aHa (aS') (aSv') aCm aRd aBy) r A) (F0 m 0 ls []) := by
    intro H locs hP hS
    refine lv_aload_n hx hb dX8_moveTo_0 rfl (lv_at hl 0 rfl) ?_
    refine lv_iconst (v := 0) hx hb dX8_moveTo_1 (by decide) ?_
    refine va_put (D := D) (ci := 8) (v := .int 0) (ty := tyX8 0) (C := RX8) (T := TX8) (N := 13) hx hb hg uX8 tyX8 tyX8_ok nmX8 hown hK.1 hP hD hS 0 rfl rfl 0 (by decide) (hg _ gw_940) (fun _ h9 => h9) rfl (tyX8_ok 0 (by decide)) rfl rfl (Nat.le_of_ble_eq_true rfl) dX8_moveTo_2 (fun H locs hP hD hS => ?_)
    have hP : va_P D vwCl (wX8 cI h0 h1 h2 h3 h4 h5 (0) aSm aLn aAt aWe aRm aBm aHa aS aSv aCm aRd aBy) H := hP
    have hD : va_D A (wX8 cI h0 h1 h2 h3 h4 h5 (0) aSm aLn aAt aWe aRm aBm aHa aS aSv aCm aRd aBy) := hD
    refine lv_aload_n hx hb dX8_moveTo_5 rfl (lv_at hl 0 rfl) ?_
    refine lv_iload_n hx hb dX8_moveTo_6 rfl (lv_at hl 1 rfl) ?_
    obtain ⟨r1, ec1, h⟩ := bd_some h
    refine cV_i (As := [.int p1]) (rest := []) (wc := (wX8 cI h0 h1 h2 h3 h4 h5 (0) aSm aLn aAt aWe aRm aBm aHa aS aSv aCm aRd aBy)) (wc' := (wX8 cI h0 h1 h2 h3 h4 h5 (0) aSm aLn aAt aWe aRm aBm aHa aS aSv aCm aRd aBy)) hx hb hml hown hg hK hP hD hS hA hl.1 (k_X8_isPosition l D cI cS cL Z h0 h1 h2 h3 h4 h5 p1 (0) aSm aLn aAt aWe aRm aBm aHa aS aSv aCm aRd aBy ec1) gm_X8_isPosition gw_1065 ⟨rfl, rfl, by decide, by decide⟩ ⟨Nat.zero_le _, Nat.zero_le _⟩ [0, 1, 2, 3, 4, 5] rfl rfl rfl rfl rfl rfl rfl rfl (Nat.le_of_ble_eq_true rfl) dX8_moveTo_7 (fun H locs hP hD hS => ?_)
    have hP : va_P D vwCl (wX8 cI h0 h1 h2 h3 h4 h5 (0) aSm aLn aAt aWe aRm aBm aHa aS aSv aCm aRd aBy) H := hP
    have hD : va_D A (wX8 cI h0 h1 h2 h3 h4 h5 (0) aSm aLn aAt aWe aRm aBm aHa aS aSv aCm aRd aBy) := hD
    refine lv_if_ne (tgt := 19) hx hb dX8_moveTo_10 (by decide) (fun q2 => ?_) (fun q2 => ?_)
    · replace h := if_some q2 h
      refine lv_aload_n hx hb dX8_moveTo_19 rfl (lv_at hl 0 rfl) ?_
      obtain ⟨⟨aSm_3, aSv_3⟩, ec3, h⟩ := bd_some h
      refine cV_v (As := []) (rest := []) (wc := (wX8 cI h0 h1 h2 h3 h4 h5 (0) aSm aLn aAt aWe aRm aBm aHa aS aSv aCm aRd aBy)) (wc' := (wX8 cI h0 h1 h2 h3 h4 h5 (0) aSm_3 aLn aAt aWe aRm aBm aHa aS aSv_3 aCm aRd aBy)) hx hb hml hown hg hK hP hD hS hA hl.1 (k_X8_saves l D cI cS cL Z h0 h1 h2 h3 h4 h5 (0) aSm aLn aAt aWe aRm aBm aHa aS aSv aCm aRd aBy ec3) gm_X8_saves gw_1002 ⟨rfl, rfl, by decide, by decide⟩ ⟨Nat.zero_le _, Nat.zero_le _⟩ [0, 1, 2, 3, 4, 5] rfl rfl rfl rfl rfl rfl rfl rfl (Nat.le_of_ble_eq_true rfl) dX8_moveTo_20 (fun H locs hP hD hS => ?_)
      have hP : va_P D vwCl (wX8 cI h0 h1 h2 h3 h4 h5 (0) aSm_3 aLn aAt aWe aRm aBm aHa aS aSv_3 aCm aRd aBy) H := hP
      have hD : va_D A (wX8 cI h0 h1 h2 h3 h4 h5 (0) aSm_3 aLn aAt aWe aRm aBm aHa aS aSv_3 aCm aRd aBy) := hD
      refine lv_aload_n hx hb dX8_moveTo_23 rfl (lv_at hl 0 rfl) ?_
      refine lv_iload_n hx hb dX8_moveTo_24 rfl (lv_at hl 1 rfl) ?_
      obtain ⟨⟨r4, aS_4⟩, ec4, h⟩ := bd_some h
      refine cV_i (As := [.int p1]) (rest := []) (wc := (wX8 cI h0 h1 h2 h3 h4 h5 (0) aSm_3 aLn aAt aWe aRm aBm aHa aS aSv_3 aCm aRd aBy)) (wc' := (wX8 cI h0 h1 h2 h3 h4 h5 (0) aSm_3 aLn aAt aWe aRm aBm aHa aS_4 aSv_3 aCm aRd aBy)) hx hb hml hown hg hK hP hD hS hA hl.1 (k_X8_movesAnew l D cI cS cL Z h0 h1 h2 h3 h4 h5 p1 (0) aSm_3 aLn aAt aWe aRm aBm aHa aS aSv_3 aCm aRd aBy ec4) gm_X8_movesAnew gw_1069 ⟨rfl, rfl, by decide, by decide⟩ ⟨Nat.zero_le _, Nat.zero_le _⟩ [0, 1, 2, 3, 4, 5] rfl rfl rfl rfl rfl rfl rfl rfl (Nat.le_of_ble_eq_true rfl) dX8_moveTo_25 (fun H locs hP hD hS => ?_)
      have hP : va_P D vwCl (wX8 cI h0 h1 h2 h3 h4 h5 (0) aSm_3 aLn aAt aWe aRm aBm aHa aS_4 aSv_3 aCm aRd aBy) H := hP
      have hD : va_D A (wX8 cI h0 h1 h2 h3 h4 h5 (0) aSm_3 aLn aAt aWe aRm aBm aHa aS_4 aSv_3 aCm aRd aBy) := hD
      cases h
      exact ret_i hx hb hr hlocks hP hD hS dX8_moveTo_28 rfl
    · replace h := it_some q2 h
      refine lv_aload_n hx hb dX8_moveTo_13 rfl (lv_at hl 0 rfl) ?_
      refine lv_iconst (v := 1) hx hb dX8_moveTo_14 (by decide) ?_
      obtain ⟨⟨r5, aTh_5⟩, ec5, h⟩ := bd_some h
      refine cV_i (As := [.int 1]) (rest := []) (wc := (wX8 cI h0 h1 h2 h3 h4 h5 (0) aSm aLn aAt aWe aRm aBm aHa aS aSv aCm aRd aBy)) (wc' := (wX8 cI h0 h1 h2 h3 h4 h5 aTh_5 aSm aLn aAt aWe aRm aBm aHa aS aSv aCm aRd aBy)) hx hb hml hown hg hK hP hD hS hA hl.1 (k_X8_fails l D cI cS cL Z h0 h1 h2 h3 h4 h5 1 (0) aSm aLn aAt aWe aRm aBm aHa aS aSv aCm aRd aBy ec5) gm_X8_fails gw_994 ⟨rfl, rfl, by decide, by decide⟩ ⟨Nat.zero_le _, Nat.zero_le _⟩ [0, 1, 2, 3, 4, 5] rfl rfl rfl rfl rfl rfl rfl rfl (Nat.le_of_ble_eq_true rfl) dX8_moveTo_15 (fun H locs hP hD hS => ?_)
      have hP : va_P D vwCl (wX8 cI h0 h1 h2 h3 h4 h5 aTh_5 aSm aLn aAt aWe aRm aBm aHa aS aSv aCm aRd aBy) H := hP
      have hD : va_D A (wX8 cI h0 h1 h2 h3 h4 h5 aTh_5 aSm aLn aAt aWe aRm aBm aHa aS aSv aCm aRd aBy) := hD
      cases h
      exact ret_i hx hb hr hlocks hP hD hS dX8_moveTo_18 rfl
  exact hmain _ _ hP hS
abbrev rm_X8_moveBy : Room := { frames := 4, cells := 0, slots := 0, locals := 85 }
def f_X8_moveBy (Z : Nat) (p1 : Int32) (aTh : Int32) (aSm : Int32) (aS : Nat → Int32) (aSv : Nat → Int32) : Option (Int32 × Int32 × Int32 × (Nat → Int32) × (Nat → Int32)) :=
  (f_X8_in Z p1 (-100) 100).bind fun r1 =>
  if r1 = 0 then
    (f_X8_fails Z 1 (0)).bind fun (r16, aTh_16) =>
    some (r16, aTh_16, aSm, aS, aSv)
  else
    (f_X8_saves Z aSm aS aSv).bind fun (aSm_3, aSv_3) =>
    rd 1 344 (
    kl ((aS (Int32.toNatClampNeg 1)) + p1) fun x2_5 =>
    if 0 ≤ x2_5 then
      rd 0 344 (
      if x2_5 ≤ (aS (Int32.toNatClampNeg 0)) then
        (f_X8_movesAnew Z x2_5 aS).bind fun (r9, aS_9) =>
        rd 1 344 (
        some (aS_9 (Int32.toNatClampNeg 1), (0), aSm_3, aS_9, aSv_3))
      else
        rd 0 344 (
        (f_X8_movesAnew Z (aS (Int32.toNatClampNeg 0)) aS).bind fun (r12, aS_12) =>
        rd 1 344 (
        some (aS_12 (Int32.toNatClampNeg 1), (0), aSm_3, aS_12, aSv_3))))
    else
      (f_X8_movesAnew Z 0 aS).bind fun (r14, aS_14) =>
      rd 1 344 (
      some (aS_14 (Int32.toNatClampNeg 1), (0), aSm_3, aS_14, aSv_3)))
set_option maxRecDepth 100000 in
set_option maxHeartbeats 4000000 in
theorem k_X8_moveBy (l : Launch) (D : va_G) (cI cS cL : ClassId) (Z : Nat) (h0 : Nat) (h1 : Nat) (h2 : Nat) (h3 : Nat) (h4 : Nat) (h5 : Nat) (p1 : Int32) (aTh : Int32) (aSm : Int32) (aLn : Int32) (aAt : Int32) (aWe : Int32) (aRm : Int32) (aBm : Int32) (aHa : Int64) (aS : Nat → Int32) (aSv : Nat → Int32) (aCm : Nat → Int32) (aRd : Nat → Int32) (aBy : Nat → Int32) {r : Int32} {aTh' : Int32} {aSm' : Int32} {aS' : Nat → Int32} {aSv' : Nat → Int32} (h : f_X8_moveBy Z p1 aTh aSm aS aSv = some (r, aTh', aSm', aS', aSv')) : CI l yX8_moveBy cX8_moveBy 3 (some .int) rm_X8_moveBy D cI cS cL [.ref h0, .int p1] (wX8 cI h0 h1 h2 h3 h4 h5 aTh aSm aLn aAt aWe aRm aBm aHa aS aSv aCm aRd aBy) (wX8 cI h0 h1 h2 h3 h4 h5 (aTh') (aSm') aLn aAt aWe aRm aBm aHa (aS') (aSv') aCm aRd aBy) r := by
  refine ent_i (by decide +kernel) (Nat.le_of_ble_eq_true rfl) ?_
  intro p e s m args below meth c A ls hx hb hr hml hlocks hg hown hK hP hD hS hA hl
  have hown : s.vm.findClass RX8 = some m.cls := hown
  have hl : lv_has ls 3 [(0, .ref h0), (1, .int p1)] := hl
  have hP : va_P D vwCl (wX8 cI h0 h1 h2 h3 h4 h5 aTh aSm aLn aAt aWe aRm aBm aHa aS aSv aCm aRd aBy) s.heap := hP
  have hD : va_D A (wX8 cI h0 h1 h2 h3 h4 h5 aTh aSm aLn aAt aWe aRm aBm aHa aS aSv aCm aRd aBy) := hD
  show W p l e rm_X8_moveBy s m args below meth c s.heap [] 0 0 (FI D below args s (wX8 cI h0 h1 h2 h3 h4 h5 (aTh') (aSm') aLn aAt aWe aRm aBm aHa (aS') (aSv') aCm aRd aBy) r A) (F0 m 0 ls [])
  unfold f_X8_moveBy at h
  have hmain : ∀ (H : Heap) (locs : List Loc), va_P D vwCl (wX8 cI h0 h1 h2 h3 h4 h5 aTh aSm aLn aAt aWe aRm aBm aHa aS aSv aCm aRd aBy) H → va_S A s.heap H locs → W p l e rm_X8_moveBy s m args below meth c H locs 0 0 (FI D below args s (wX8 cI h0 h1 h2 h3 h4 h5 (aTh') (aSm') aLn aAt aWe aRm aBm aHa (aS') (aSv') aCm aRd aBy) r A) (F0 m 0 ls []) := by
    intro H locs hP hS
    refine lv_aload_n hx hb dX8_moveBy_0 rfl (lv_at hl 0 rfl) ?_
    refine lv_iconst (v := 0) hx hb dX8_moveBy_1 (by decide) ?_
    refine va_put (D := D) (ci := 8) (v := .int 0) (ty := tyX8 0) (C := RX8) (T := TX8) (N := 13) hx hb hg uX8 tyX8 tyX8_ok nmX8 hown hK.1 hP hD hS 0 rfl rfl 0 (by decide) (hg _ gw_940) (fun _ h9 => h9) rfl (tyX8_ok 0 (by decide)) rfl rfl (Nat.le_of_ble_eq_true rfl) dX8_moveBy_2 (fun H locs hP hD hS => ?_)
    have hP : va_P D vwCl (wX8 cI h0 h1 h2 h3 h4 h5 (0) aSm aLn aAt aWe aRm aBm aHa aS aSv aCm aRd aBy) H := hP
    have hD : va_D A (wX8 cI h0 h1 h2 h3 h4 h5 (0) aSm aLn aAt aWe aRm aBm aHa aS aSv aCm aRd aBy) := hD
    refine lv_iload_n hx hb dX8_moveBy_5 rfl (lv_at hl 1 rfl) ?_
    refine lv_bipush (v := (-100)) hx hb dX8_moveBy_6 (by decide) ?_
    refine lv_bipush (v := 100) hx hb dX8_moveBy_8 (by decide) ?_
    obtain ⟨r1, ec1, h⟩ := bd_some h
    refine cS_i (As := [.int p1, .int (-100), .int 100]) (rest := []) (wc := []) (wc' := []) hx hb hml hown hg hK hP hD hS hA hl.1 (k_X8_in l D cI cS cL Z p1 (-100) 100 ec1) gs_X8_in gw_991 ⟨rfl, rfl, by decide, by decide⟩ ⟨Nat.zero_le _, Nat.zero_le _⟩ [] rfl rfl rfl rfl rfl (Nat.le_of_ble_eq_true rfl) dX8_moveBy_10 (fun H locs hP hD hS => ?_)
    have hP : va_P D vwCl (wX8 cI h0 h1 h2 h3 h4 h5 (0) aSm aLn aAt aWe aRm aBm aHa aS aSv aCm aRd aBy) H := hP
    have hD : va_D A (wX8 cI h0 h1 h2 h3 h4 h5 (0) aSm aLn aAt aWe aRm aBm aHa aS aSv aCm aRd aBy) := hD
    refine lv_if_ne (tgt := 22) hx hb dX8_moveBy_13 (by decide) (fun q2 => ?_) (fun q2 => ?_)
    · replace h := if_some q2 h
      refine lv_aload_n hx hb dX8_moveBy_22 rfl (lv_at hl 0 rfl) ?_
      obtain ⟨⟨aSm_3, aSv_3⟩, ec3, h⟩ := bd_some h
      refine cV_v (As := []) (rest := []) (wc := (wX8 cI h0 h1 h2 h3 h4 h5 (0) aSm aLn aAt aWe aRm aBm aHa aS aSv aCm aRd aBy)) (wc' := (wX8 cI h0 h1 h2 h3 h4 h5 (0) aSm_3 aLn aAt aWe aRm aBm aHa aS aSv_3 aCm aRd aBy)) hx hb hml hown hg hK hP hD hS hA hl.1 (k_X8_saves l D cI cS cL Z h0 h1 h2 h3 h4 h5 (0) aSm aLn aAt aWe aRm aBm aHa aS aSv aCm aRd aBy ec3) gm_X8_saves gw_1002 ⟨rfl, rfl, by decide, by decide⟩ ⟨Nat.zero_le _, Nat.zero_le _⟩ [0, 1, 2, 3, 4, 5] rfl rfl rfl rfl rfl rfl rfl rfl (Nat.le_of_ble_eq_true rfl) dX8_moveBy_23 (fun H locs hP hD hS => ?_)
      have hP : va_P D vwCl (wX8 cI h0 h1 h2 h3 h4 h5 (0) aSm_3 aLn aAt aWe aRm aBm aHa aS aSv_3 aCm aRd aBy) H := hP
      have hD : va_D A (wX8 cI h0 h1 h2 h3 h4 h5 (0) aSm_3 aLn aAt aWe aRm aBm aHa aS aSv_3 aCm aRd aBy) := hD
      refine lv_aload_n hx hb dX8_moveBy_26 rfl (lv_at hl 0 rfl) ?_
      refine va_get (D := D) (ci := 8) (v := .ref h1) (C := RX8) (T := TX8) (N := 13) hx hb hg uX8 hown hK.1 hP 0 rfl rfl 1 (by decide) (hg _ gw_941) (fun _ h9 => h9) rfl dX8_moveBy_27 ?_
      refine lv_iconst (v := 1) hx hb dX8_moveBy_30 (by decide) ?_
      obtain ⟨v4, h⟩ := rd_some h
      refine va_iald hx hb hK.1 hP 1 0 rfl rfl v4 dX8_moveBy_31 ?_
      refine lv_iload_n hx hb dX8_moveBy_32 rfl (lv_at hl 1 rfl) ?_
      refine lv_iadd hx hb dX8_moveBy_33 ?_
      obtain ⟨x2_5, ex2_5, h⟩ := kl_some h
      refine nm_i ex2_5 ?_
      refine lv_istore_n (lv' := [(2, .int x2_5), (0, .ref h0), (1, .int p1)]) hx hb dX8_moveBy_34 rfl hl (by decide) rfl (fun ls hl => ?_)
      refine lv_aload_n hx hb dX8_moveBy_35 rfl (lv_at hl 1 rfl) ?_
      refine lv_iload_n hx hb dX8_moveBy_36 rfl (lv_at hl 0 rfl) ?_
      refine lv_if_ge (tgt := 44) hx hb dX8_moveBy_37 (by decide) (fun q6 => ?_) (fun q6 => ?_)
      · replace h := it_some q6 h
        refine lv_iload_n hx hb dX8_moveBy_44 rfl (lv_at hl 0 rfl) ?_
        refine lv_aload_n hx hb dX8_moveBy_45 rfl (lv_at hl 1 rfl) ?_
        refine va_get (D := D) (ci := 8) (v := .ref h1) (C := RX8) (T := TX8) (N := 13) hx hb hg uX8 hown hK.1 hP 0 rfl rfl 1 (by decide) (hg _ gw_941) (fun _ h9 => h9) rfl dX8_moveBy_46 ?_
        refine lv_iconst (v := 0) hx hb dX8_moveBy_49 (by decide) ?_
        obtain ⟨v7, h⟩ := rd_some h
        refine va_iald hx hb hK.1 hP 1 0 rfl rfl v7 dX8_moveBy_50 ?_
        refine lv_icmp_le (tgt := 63) hx hb dX8_moveBy_51 (by decide) (fun q8 => ?_) (fun q8 => ?_)
        · replace h := it_some q8 h
          refine lv_iload_n hx hb dX8_moveBy_63 rfl (lv_at hl 0 rfl) ?_
          obtain ⟨⟨r9, aS_9⟩, ec9, h⟩ := bd_some h
          refine cV_i (As := [.int x2_5]) (rest := []) (wc := (wX8 cI h0 h1 h2 h3 h4 h5 (0) aSm_3 aLn aAt aWe aRm aBm aHa aS aSv_3 aCm aRd aBy)) (wc' := (wX8 cI h0 h1 h2 h3 h4 h5 (0) aSm_3 aLn aAt aWe aRm aBm aHa aS_9 aSv_3 aCm aRd aBy)) hx hb hml hown hg hK hP hD hS hA hl.1 (k_X8_movesAnew l D cI cS cL Z h0 h1 h2 h3 h4 h5 x2_5 (0) aSm_3 aLn aAt aWe aRm aBm aHa aS aSv_3 aCm aRd aBy ec9) gm_X8_movesAnew gw_1069 ⟨rfl, rfl, by decide, by decide⟩ ⟨Nat.zero_le _, Nat.zero_le _⟩ [0, 1, 2, 3, 4, 5] rfl rfl rfl rfl rfl rfl rfl rfl (Nat.le_of_ble_eq_true rfl) dX8_moveBy_64 (fun H locs hP hD hS => ?_)
          have hP : va_P D vwCl (wX8 cI h0 h1 h2 h3 h4 h5 (0) aSm_3 aLn aAt aWe aRm aBm aHa aS_9 aSv_3 aCm aRd aBy) H := hP
          have hD : va_D A (wX8 cI h0 h1 h2 h3 h4 h5 (0) aSm_3 aLn aAt aWe aRm aBm aHa aS_9 aSv_3 aCm aRd aBy) := hD
          refine lv_pop hx hb dX8_moveBy_67 rfl ?_
          refine lv_aload_n hx hb dX8_moveBy_68 rfl (lv_at hl 1 rfl) ?_
          refine va_get (D := D) (ci := 8) (v := .ref h1) (C := RX8) (T := TX8) (N := 13) hx hb hg uX8 hown hK.1 hP 0 rfl rfl 1 (by decide) (hg _ gw_941) (fun _ h9 => h9) rfl dX8_moveBy_69 ?_
          refine lv_iconst (v := 1) hx hb dX8_moveBy_72 (by decide) ?_
          obtain ⟨v10, h⟩ := rd_some h
          refine va_iald hx hb hK.1 hP 1 0 rfl rfl v10 dX8_moveBy_73 ?_
          cases h
          exact ret_i hx hb hr hlocks hP hD hS dX8_moveBy_74 rfl
        · replace h := if_some q8 h
          refine lv_aload_n hx hb dX8_moveBy_54 rfl (lv_at hl 1 rfl) ?_
          refine va_get (D := D) (ci := 8) (v := .ref h1) (C := RX8) (T := TX8) (N := 13) hx hb hg uX8 hown hK.1 hP 0 rfl rfl 1 (by decide) (hg _ gw_941) (fun _ h9 => h9) rfl dX8_moveBy_55 ?_
          refine lv_iconst (v := 0) hx hb dX8_moveBy_58 (by decide) ?_
          obtain ⟨v11, h⟩ := rd_some h
          refine va_iald hx hb hK.1 hP 1 0 rfl rfl v11 dX8_moveBy_59 ?_
          refine lv_goto (tgt := 64) hx hb dX8_moveBy_60 (by decide) ?_
          obtain ⟨⟨r12, aS_12⟩, ec12, h⟩ := bd_some h
          refine cV_i (As := [.int (aS (Int32.toNatClampNeg 0))]) (rest := []) (wc := (wX8 cI h0 h1 h2 h3 h4 h5 (0) aSm_3 aLn aAt aWe aRm aBm aHa aS aSv_3 aCm aRd aBy)) (wc' := (wX8 cI h0 h1 h2 h3 h4 h5 (0) aSm_3 aLn aAt aWe aRm aBm aHa aS_12 aSv_3 aCm aRd aBy)) hx hb hml hown hg hK hP hD hS hA hl.1 (k_X8_movesAnew l D cI cS cL Z h0 h1 h2 h3 h4 h5 (aS (Int32.toNatClampNeg 0)) (0) aSm_3 aLn aAt aWe aRm aBm aHa aS aSv_3 aCm aRd aBy ec12) gm_X8_movesAnew gw_1069 ⟨rfl, rfl, by decide, by decide⟩ ⟨Nat.zero_le _, Nat.zero_le _⟩ [0, 1, 2, 3, 4, 5] rfl rfl rfl rfl rfl rfl rfl rfl (Nat.le_of_ble_eq_true rfl) dX8_moveBy_64 (fun H locs hP hD hS => ?_)
          have hP : va_P D vwCl (wX8 cI h0 h1 h2 h3 h4 h5 (0) aSm_3 aLn aAt aWe aRm aBm aHa aS_12 aSv_3 aCm aRd aBy) H := hP
          have hD : va_D A (wX8 cI h0 h1 h2 h3 h4 h5 (0) aSm_3 aLn aAt aWe aRm aBm aHa aS_12 aSv_3 aCm aRd aBy) := hD
          refine lv_pop hx hb dX8_moveBy_67 rfl ?_
          refine lv_aload_n hx hb dX8_moveBy_68 rfl (lv_at hl 1 rfl) ?_
          refine va_get (D := D) (ci := 8) (v := .ref h1) (C := RX8) (T := TX8) (N := 13) hx hb hg uX8 hown hK.1 hP 0 rfl rfl 1 (by decide) (hg _ gw_941) (fun _ h9 => h9) rfl dX8_moveBy_69 ?_
          refine lv_iconst (v := 1) hx hb dX8_moveBy_72 (by decide) ?_
          obtain ⟨v13, h⟩ := rd_some h
          refine va_iald hx hb hK.1 hP 1 0 rfl rfl v13 dX8_moveBy_73 ?_
          cases h
          exact ret_i hx hb hr hlocks hP hD hS dX8_moveBy_74 rfl
      · replace h := if_some q6 h
        refine lv_iconst (v := 0) hx hb dX8_moveBy_40 (by decide) ?_
        refine lv_goto (tgt := 64) hx hb dX8_moveBy_41 (by decide) ?_
        obtain ⟨⟨r14, aS_14⟩, ec14, h⟩ := bd_some h
        refine cV_i (As := [.int 0]) (rest := []) (wc := (wX8 cI h0 h1 h2 h3 h4 h5 (0) aSm_3 aLn aAt aWe aRm aBm aHa aS aSv_3 aCm aRd aBy)) (wc' := (wX8 cI h0 h1 h2 h3 h4 h5 (0) aSm_3 aLn aAt aWe aRm aBm aHa aS_14 aSv_3 aCm aRd aBy)) hx hb hml hown hg hK hP hD hS hA hl.1 (k_X8_movesAnew l D cI cS cL Z h0 h1 h2 h3 h4 h5 0 (0) aSm_3 aLn aAt aWe aRm aBm aHa aS aSv_3 aCm aRd aBy ec14) gm_X8_movesAnew gw_1069 ⟨rfl, rfl, by decide, by decide⟩ ⟨Nat.zero_le _, Nat.zero_le _⟩ [0, 1, 2, 3, 4, 5] rfl rfl rfl rfl rfl rfl rfl rfl (Nat.le_of_ble_eq_true rfl) dX8_moveBy_64 (fun H locs hP hD hS => ?_)
        have hP : va_P D vwCl (wX8 cI h0 h1 h2 h3 h4 h5 (0) aSm_3 aLn aAt aWe aRm aBm aHa aS_14 aSv_3 aCm aRd aBy) H := hP
        have hD : va_D A (wX8 cI h0 h1 h2 h3 h4 h5 (0) aSm_3 aLn aAt aWe aRm aBm aHa aS_14 aSv_3 aCm aRd aBy) := hD
        refine lv_pop hx hb dX8_moveBy_67 rfl ?_
        refine lv_aload_n hx hb dX8_moveBy_68 rfl (lv_at hl 1 rfl) ?_
        refine va_get (D := D) (ci := 8) (v := .ref h1) (C := RX8) (T := TX8) (N := 13) hx hb hg uX8 hown hK.1 hP 0 rfl rfl 1 (by decide) (hg _ gw_941) (fun _ h9 => h9) rfl dX8_moveBy_69 ?_
        refine lv_iconst (v := 1) hx hb dX8_moveBy_72 (by decide) ?_
        obtain ⟨v15, h⟩ := rd_some h
        refine va_iald hx hb hK.1 hP 1 0 rfl rfl v15 dX8_moveBy_73 ?_
        cases h
        exact ret_i hx hb hr hlocks hP hD hS dX8_moveBy_74 rfl
    · replace h := it_some q2 h
      refine lv_aload_n hx hb dX8_moveBy_16 rfl (lv_at hl 0 rfl) ?_
      refine lv_iconst (v := 1) hx hb dX8_moveBy_17 (by decide) ?_
      obtain ⟨⟨r16, aTh_16⟩, ec16, h⟩ := bd_some h
      refine cV_i (As := [.int 1]) (rest := []) (wc := (wX8 cI h0 h1 h2 h3 h4 h5 (0) aSm aLn aAt aWe aRm aBm aHa aS aSv aCm aRd aBy)) (wc' := (wX8 cI h0 h1 h2 h3 h4 h5 aTh_16 aSm aLn aAt aWe aRm aBm aHa aS aSv aCm aRd aBy)) hx hb hml hown hg hK hP hD hS hA hl.1 (k_X8_fails l D cI cS cL Z h0 h1 h2 h3 h4 h5 1 (0) aSm aLn aAt aWe aRm aBm aHa aS aSv aCm aRd aBy ec16) gm_X8_fails gw_994 ⟨rfl, rfl, by decide, by decide⟩ ⟨Nat.zero_le _, Nat.zero_le _⟩ [0, 1, 2, 3, 4, 5] rfl rfl rfl rfl rfl rfl rfl rfl (Nat.le_of_ble_eq_true rfl) dX8_moveBy_18 (fun H locs hP hD hS => ?_)
      have hP : va_P D vwCl (wX8 cI h0 h1 h2 h3 h4 h5 aTh_16 aSm aLn aAt aWe aRm aBm aHa aS aSv aCm aRd aBy) H := hP
      have hD : va_D A (wX8 cI h0 h1 h2 h3 h4 h5 aTh_16 aSm aLn aAt aWe aRm aBm aHa aS aSv aCm aRd aBy) := hD
      cases h
      exact ret_i hx hb hr hlocks hP hD hS dX8_moveBy_21 rfl
  exact hmain _ _ hP hS
abbrev rm_X8_goalFrom : Room := { frames := 1, cells := 0, slots := 0, locals := 22 }
def f_X8_goalFrom (Z : Nat) (p1 : Int32) (aS : Nat → Int32) : Option (Int32) :=
  (f_X8_endOf Z p1 aS).bind fun r1 =>
  rd 8 344 (
  if r1 ≤ (p1 + (aS (Int32.toNatClampNeg 8))) then
    some r1
  else
    rd 8 344 (
    some (p1 + (aS (Int32.toNatClampNeg 8)))))
set_option maxRecDepth 100000 in
set_option maxHeartbeats 4000000 in
theorem k_X8_goalFrom (l : Launch) (D : va_G) (cI cS cL : ClassId) (Z : Nat) (h0 : Nat) (h1 : Nat) (h2 : Nat) (h3 : Nat) (h4 : Nat) (h5 : Nat) (p1 : Int32) (aTh : Int32) (aSm : Int32) (aLn : Int32) (aAt : Int32) (aWe : Int32) (aRm : Int32) (aBm : Int32) (aHa : Int64) (aS : Nat → Int32) (aSv : Nat → Int32) (aCm : Nat → Int32) (aRd : Nat → Int32) (aBy : Nat → Int32) {r : Int32} (h : f_X8_goalFrom Z p1 aS = some r) : CI l yX8_goalFrom cX8_goalFrom 3 (some .int) rm_X8_goalFrom D cI cS cL [.ref h0, .int p1] (wX8 cI h0 h1 h2 h3 h4 h5 aTh aSm aLn aAt aWe aRm aBm aHa aS aSv aCm aRd aBy) (wX8 cI h0 h1 h2 h3 h4 h5 aTh aSm aLn aAt aWe aRm aBm aHa aS aSv aCm aRd aBy) r := by
  refine ent_i (by decide +kernel) (Nat.le_of_ble_eq_true rfl) ?_
  intro p e s m args below meth c A ls hx hb hr hml hlocks hg hown hK hP hD hS hA hl
  have hown : s.vm.findClass RX8 = some m.cls := hown
  have hl : lv_has ls 3 [(0, .ref h0), (1, .int p1)] := hl
  have hP : va_P D vwCl (wX8 cI h0 h1 h2 h3 h4 h5 aTh aSm aLn aAt aWe aRm aBm aHa aS aSv aCm aRd aBy) s.heap := hP
  have hD : va_D A (wX8 cI h0 h1 h2 h3 h4 h5 aTh aSm aLn aAt aWe aRm aBm aHa aS aSv aCm aRd aBy) := hD
  show W p l e rm_X8_goalFrom s m args below meth c s.heap [] 0 0 (FI D below args s (wX8 cI h0 h1 h2 h3 h4 h5 aTh aSm aLn aAt aWe aRm aBm aHa aS aSv aCm aRd aBy) r A) (F0 m 0 ls [])
  unfold f_X8_goalFrom at h
  have hmain : ∀ (H : Heap) (locs : List Loc), va_P D vwCl (wX8 cI h0 h1 h2 h3 h4 h5 aTh aSm aLn aAt aWe aRm aBm aHa aS aSv aCm aRd aBy) H → va_S A s.heap H locs → W p l e rm_X8_goalFrom s m args below meth c H locs 0 0 (FI D below args s (wX8 cI h0 h1 h2 h3 h4 h5 aTh aSm aLn aAt aWe aRm aBm aHa aS aSv aCm aRd aBy) r A) (F0 m 0 ls []) := by
    intro H locs hP hS
    refine lv_aload_n hx hb dX8_goalFrom_0 rfl (lv_at hl 0 rfl) ?_
    refine lv_iload_n hx hb dX8_goalFrom_1 rfl (lv_at hl 1 rfl) ?_
    obtain ⟨r1, ec1, h⟩ := bd_some h
    refine cV_i (As := [.int p1]) (rest := []) (wc := (wX8 cI h0 h1 h2 h3 h4 h5 aTh aSm aLn aAt aWe aRm aBm aHa aS aSv aCm aRd aBy)) (wc' := (wX8 cI h0 h1 h2 h3 h4 h5 aTh aSm aLn aAt aWe aRm aBm aHa aS aSv aCm aRd aBy)) hx hb hml hown hg hK hP hD hS hA hl.1 (k_X8_endOf l D cI cS cL Z h0 h1 h2 h3 h4 h5 p1 aTh aSm aLn aAt aWe aRm aBm aHa aS aSv aCm aRd aBy ec1) gm_X8_endOf gw_1089 ⟨rfl, rfl, by decide, by decide⟩ ⟨Nat.zero_le _, Nat.zero_le _⟩ [0, 1, 2, 3, 4, 5] rfl rfl rfl rfl rfl rfl rfl rfl (Nat.le_of_ble_eq_true rfl) dX8_goalFrom_2 (fun H locs hP hD hS => ?_)
    have hP : va_P D vwCl (wX8 cI h0 h1 h2 h3 h4 h5 aTh aSm aLn aAt aWe aRm aBm aHa aS aSv aCm aRd aBy) H := hP
    have hD : va_D A (wX8 cI h0 h1 h2 h3 h4 h5 aTh aSm aLn aAt aWe aRm aBm aHa aS aSv aCm aRd aBy) := hD
    refine lv_istore_n (lv' := [(2, .int r1), (0, .ref h0), (1, .int p1)]) hx hb dX8_goalFrom_5 rfl hl (by decide) rfl (fun ls hl => ?_)
    refine lv_iload_n hx hb dX8_goalFrom_6 rfl (lv_at hl 2 rfl) ?_
    refine lv_aload_n hx hb dX8_goalFrom_7 rfl (lv_at hl 1 rfl) ?_
    refine va_get (D := D) (ci := 8) (v := .ref h1) (C := RX8) (T := TX8) (N := 13) hx hb hg uX8 hown hK.1 hP 0 rfl rfl 1 (by decide) (hg _ gw_941) (fun _ h9 => h9) rfl dX8_goalFrom_8 ?_
    refine lv_bipush (v := 8) hx hb dX8_goalFrom_11 (by decide) ?_
    obtain ⟨v2, h⟩ := rd_some h
    refine va_iald hx hb hK.1 hP 1 0 rfl rfl v2 dX8_goalFrom_13 ?_
    refine lv_iadd hx hb dX8_goalFrom_14 ?_
    refine lv_iload_n hx hb dX8_goalFrom_15 rfl (lv_at hl 0 rfl) ?_
    refine lv_icmp_ge (tgt := 31) hx hb dX8_goalFrom_16 (by decide) (fun q3 => ?_) (fun q3 => ?_)
    · replace h := it_some q3 h
      refine lv_iload_n hx hb dX8_goalFrom_31 rfl (lv_at hl 0 rfl) ?_
      cases h
      exact ret_i hx hb hr hlocks hP hD hS dX8_goalFrom_32 rfl
    · replace h := if_some q3 h
      refine lv_iload_n hx hb dX8_goalFrom_19 rfl (lv_at hl 2 rfl) ?_
      refine lv_aload_n hx hb dX8_goalFrom_20 rfl (lv_at hl 1 rfl) ?_
      refine va_get (D := D) (ci := 8) (v := .ref h1) (C := RX8) (T := TX8) (N := 13) hx hb hg uX8 hown hK.1 hP 0 rfl rfl 1 (by decide) (hg _ gw_941) (fun _ h9 => h9) rfl dX8_goalFrom_21 ?_
      refine lv_bipush (v := 8) hx hb dX8_goalFrom_24 (by decide) ?_
      obtain ⟨v4, h⟩ := rd_some h
      refine va_iald hx hb hK.1 hP 1 0 rfl rfl v4 dX8_goalFrom_26 ?_
      refine lv_iadd hx hb dX8_goalFrom_27 ?_
      refine lv_goto (tgt := 32) hx hb dX8_goalFrom_28 (by decide) ?_
      cases h
      exact ret_i hx hb hr hlocks hP hD hS dX8_goalFrom_32 rfl
  exact hmain _ _ hP hS
abbrev rm_X8_up : Room := { frames := 3, cells := 0, slots := 0, locals := 63 }
def f_X8_up (Z : Nat) (aTh : Int32) (aSm : Int32) (aS : Nat → Int32) (aSv : Nat → Int32) : Option (Int32 × Int32 × Int32 × (Nat → Int32) × (Nat → Int32)) :=
  (f_X8_saves Z aSm aS aSv).bind fun (aSm_1, aSv_1) =>
  rd 1 344 (
  (f_X8_startOf Z (aS (Int32.toNatClampNeg 1)) aS).bind fun r3 =>
  if r3 ≤ 0 then
    rd 1 344 (
    some (aS (Int32.toNatClampNeg 1), (0), aSm_1, aS, aSv_1))
  else
    (f_X8_startOf Z (r3 - 1) aS).bind fun r6 =>
    (f_X8_goalFrom Z r6 aS).bind fun r7 =>
    (f_X8_moves Z r7 aS).bind fun (r8, aS_8) =>
    rd 1 344 (
    some (aS_8 (Int32.toNatClampNeg 1), (0), aSm_1, aS_8, aSv_1)))
set_option maxRecDepth 100000 in
set_option maxHeartbeats 4000000 in
theorem k_X8_up (l : Launch) (D : va_G) (cI cS cL : ClassId) (Z : Nat) (h0 : Nat) (h1 : Nat) (h2 : Nat) (h3 : Nat) (h4 : Nat) (h5 : Nat) (aTh : Int32) (aSm : Int32) (aLn : Int32) (aAt : Int32) (aWe : Int32) (aRm : Int32) (aBm : Int32) (aHa : Int64) (aS : Nat → Int32) (aSv : Nat → Int32) (aCm : Nat → Int32) (aRd : Nat → Int32) (aBy : Nat → Int32) {r : Int32} {aTh' : Int32} {aSm' : Int32} {aS' : Nat → Int32} {aSv' : Nat → Int32} (h : f_X8_up Z aTh aSm aS aSv = some (r, aTh', aSm', aS', aSv')) : CI l yX8_up cX8_up 2 (some .int) rm_X8_up D cI cS cL [.ref h0] (wX8 cI h0 h1 h2 h3 h4 h5 aTh aSm aLn aAt aWe aRm aBm aHa aS aSv aCm aRd aBy) (wX8 cI h0 h1 h2 h3 h4 h5 (aTh') (aSm') aLn aAt aWe aRm aBm aHa (aS') (aSv') aCm aRd aBy) r := by
  refine ent_i (by decide +kernel) (Nat.le_of_ble_eq_true rfl) ?_
  intro p e s m args below meth c A ls hx hb hr hml hlocks hg hown hK hP hD hS hA hl
  have hown : s.vm.findClass RX8 = some m.cls := hown
  have hl : lv_has ls 2 [(0, .ref h0)] := hl
  have hP : va_P D vwCl (wX8 cI h0 h1 h2 h3 h4 h5 aTh aSm aLn aAt aWe aRm aBm aHa aS aSv aCm aRd aBy) s.heap := hP
  have hD : va_D A (wX8 cI h0 h1 h2 h3 h4 h5 aTh aSm aLn aAt aWe aRm aBm aHa aS aSv aCm aRd aBy) := hD
  show W p l e rm_X8_up s m args below meth c s.heap [] 0 0 (FI D below args s (wX8 cI h0 h1 h2 h3 h4 h5 (aTh') (aSm') aLn aAt aWe aRm aBm aHa (aS') (aSv') aCm aRd aBy) r A) (F0 m 0 ls [])
  unfold f_X8_up at h
  have hmain : ∀ (H : Heap) (locs : List Loc), va_P D vwCl (wX8 cI h0 h1 h2 h3 h4 h5 aTh aSm aLn aAt aWe aRm aBm aHa aS aSv aCm aRd aBy) H → va_S A s.heap H locs → W p l e rm_X8_up s m args below meth c H locs 0 0 (FI D below args s (wX8 cI h0 h1 h2 h3 h4 h5 (aTh') (aSm') aLn aAt aWe aRm aBm aHa (aS') (aSv') aCm aRd aBy) r A) (F0 m 0 ls []) := by
    intro H locs hP hS
    refine lv_aload_n hx hb dX8_up_0 rfl (lv_at hl 0 rfl) ?_
    refine lv_iconst (v := 0) hx hb dX8_up_1 (by decide) ?_
    refine va_put (D := D) (ci := 8) (v := .int 0) (ty := tyX8 0) (C := RX8) (T := TX8) (N := 13) hx hb hg uX8 tyX8 tyX8_ok nmX8 hown hK.1 hP hD hS 0 rfl rfl 0 (by decide) (hg _ gw_940) (fun _ h9 => h9) rfl (tyX8_ok 0 (by decide)) rfl rfl (Nat.le_of_ble_eq_true rfl) dX8_up_2 (fun H locs hP hD hS => ?_)
    have hP : va_P D vwCl (wX8 cI h0 h1 h2 h3 h4 h5 (0) aSm aLn aAt aWe aRm aBm aHa aS aSv aCm aRd aBy) H := hP
    have hD : va_D A (wX8 cI h0 h1 h2 h3 h4 h5 (0) aSm aLn aAt aWe aRm aBm aHa aS aSv aCm aRd aBy) := hD
    refine lv_aload_n hx hb dX8_up_5 rfl (lv_at hl 0 rfl) ?_
    obtain ⟨⟨aSm_1, aSv_1⟩, ec1, h⟩ := bd_some h
    refine cV_v (As := []) (rest := []) (wc := (wX8 cI h0 h1 h2 h3 h4 h5 (0) aSm aLn aAt aWe aRm aBm aHa aS aSv aCm aRd aBy)) (wc' := (wX8 cI h0 h1 h2 h3 h4 h5 (0) aSm_1 aLn aAt aWe aRm aBm aHa aS aSv_1 aCm aRd aBy)) hx hb hml hown hg hK hP hD hS hA hl.1 (k_X8_saves l D cI cS cL Z h0 h1 h2 h3 h4 h5 (0) aSm aLn aAt aWe aRm aBm aHa aS aSv aCm aRd aBy ec1) gm_X8_saves gw_1002 ⟨rfl, rfl, by decide, by decide⟩ ⟨Nat.zero_le _, Nat.zero_le _⟩ [0, 1, 2, 3, 4, 5] rfl rfl rfl rfl rfl rfl rfl rfl (Nat.le_of_ble_eq_true rfl) dX8_up_6 (fun H locs hP hD hS => ?_)
    have hP : va_P D vwCl (wX8 cI h0 h1 h2 h3 h4 h5 (0) aSm_1 aLn aAt aWe aRm aBm aHa aS aSv_1 aCm aRd aBy) H := hP
    have hD : va_D A (wX8 cI h0 h1 h2 h3 h4 h5 (0) aSm_1 aLn aAt aWe aRm aBm aHa aS aSv_1 aCm aRd aBy) := hD
    refine lv_aload_n hx hb dX8_up_9 rfl (lv_at hl 0 rfl) ?_
    refine lv_aload_n hx hb dX8_up_10 rfl (lv_at hl 0 rfl) ?_
    refine va_get (D := D) (ci := 8) (v := .ref h1) (C := RX8) (T := TX8) (N := 13) hx hb hg uX8 hown hK.1 hP 0 rfl rfl 1 (by decide) (hg _ gw_941) (fun _ h9 => h9) rfl dX8_up_11 ?_
    refine lv_iconst (v := 1) hx hb dX8_up_14 (by decide) ?_
    obtain ⟨v2, h⟩ := rd_some h
    refine va_iald hx hb hK.1 hP 1 0 rfl rfl v2 dX8_up_15 ?_
    obtain ⟨r3, ec3, h⟩ := bd_some h
    refine cV_i (As := [.int (aS (Int32.toNatClampNeg 1))]) (rest := []) (wc := (wX8 cI h0 h1 h2 h3 h4 h5 (0) aSm_1 aLn aAt aWe aRm aBm aHa aS aSv_1 aCm aRd aBy)) (wc' := (wX8 cI h0 h1 h2 h3 h4 h5 (0) aSm_1 aLn aAt aWe aRm aBm aHa aS aSv_1 aCm aRd aBy)) hx hb hml hown hg hK hP hD hS hA hl.1 (k_X8_startOf l D cI cS cL Z h0 h1 h2 h3 h4 h5 (aS (Int32.toNatClampNeg 1)) (0) aSm_1 aLn aAt aWe aRm aBm aHa aS aSv_1 aCm aRd aBy ec3) gm_X8_startOf gw_1033 ⟨rfl, rfl, by decide, by decide⟩ ⟨Nat.zero_le _, Nat.zero_le _⟩ [0, 1, 2, 3, 4, 5] rfl rfl rfl rfl rfl rfl rfl rfl (Nat.le_of_ble_eq_true rfl) dX8_up_16 (fun H locs hP hD hS => ?_)
    have hP : va_P D vwCl (wX8 cI h0 h1 h2 h3 h4 h5 (0) aSm_1 aLn aAt aWe aRm aBm aHa aS aSv_1 aCm aRd aBy) H := hP
    have hD : va_D A (wX8 cI h0 h1 h2 h3 h4 h5 (0) aSm_1 aLn aAt aWe aRm aBm aHa aS aSv_1 aCm aRd aBy) := hD
    refine lv_istore_n (lv' := [(1, .int r3), (0, .ref h0)]) hx hb dX8_up_19 rfl hl (by decide) rfl (fun ls hl => ?_)
    refine lv_iload_n hx hb dX8_up_20 rfl (lv_at hl 0 rfl) ?_
    refine lv_if_le (tgt := 40) hx hb dX8_up_21 (by decide) (fun q4 => ?_) (fun q4 => ?_)
    · replace h := it_some q4 h
      refine lv_aload_n hx hb dX8_up_40 rfl (lv_at hl 1 rfl) ?_
      refine va_get (D := D) (ci := 8) (v := .ref h1) (C := RX8) (T := TX8) (N := 13) hx hb hg uX8 hown hK.1 hP 0 rfl rfl 1 (by decide) (hg _ gw_941) (fun _ h9 => h9) rfl dX8_up_41 ?_
      refine lv_iconst (v := 1) hx hb dX8_up_44 (by decide) ?_
      obtain ⟨v5, h⟩ := rd_some h
      refine va_iald hx hb hK.1 hP 1 0 rfl rfl v5 dX8_up_45 ?_
      cases h
      exact ret_i hx hb hr hlocks hP hD hS dX8_up_46 rfl
    · replace h := if_some q4 h
      refine lv_aload_n hx hb dX8_up_24 rfl (lv_at hl 1 rfl) ?_
      refine lv_aload_n hx hb dX8_up_25 rfl (lv_at hl 1 rfl) ?_
      refine lv_aload_n hx hb dX8_up_26 rfl (lv_at hl 1 rfl) ?_
      refine lv_iload_n hx hb dX8_up_27 rfl (lv_at hl 0 rfl) ?_
      refine lv_iconst (v := 1) hx hb dX8_up_28 (by decide) ?_
      refine lv_isub hx hb dX8_up_29 ?_
      obtain ⟨r6, ec6, h⟩ := bd_some h
      refine cV_i (As := [.int (r3 - 1)]) (rest := [.ref h0, .ref h0]) (wc := (wX8 cI h0 h1 h2 h3 h4 h5 (0) aSm_1 aLn aAt aWe aRm aBm aHa aS aSv_1 aCm aRd aBy)) (wc' := (wX8 cI h0 h1 h2 h3 h4 h5 (0) aSm_1 aLn aAt aWe aRm aBm aHa aS aSv_1 aCm aRd aBy)) hx hb hml hown hg hK hP hD hS hA hl.1 (k_X8_startOf l D cI cS cL Z h0 h1 h2 h3 h4 h5 (r3 - 1) (0) aSm_1 aLn aAt aWe aRm aBm aHa aS aSv_1 aCm aRd aBy ec6) gm_X8_startOf gw_1033 ⟨rfl, rfl, by decide, by decide⟩ ⟨Nat.zero_le _, Nat.zero_le _⟩ [0, 1, 2, 3, 4, 5] rfl rfl rfl rfl rfl rfl rfl rfl (Nat.le_of_ble_eq_true rfl) dX8_up_30 (fun H locs hP hD hS => ?_)
      have hP : va_P D vwCl (wX8 cI h0 h1 h2 h3 h4 h5 (0) aSm_1 aLn aAt aWe aRm aBm aHa aS aSv_1 aCm aRd aBy) H := hP
      have hD : va_D A (wX8 cI h0 h1 h2 h3 h4 h5 (0) aSm_1 aLn aAt aWe aRm aBm aHa aS aSv_1 aCm aRd aBy) := hD
      obtain ⟨r7, ec7, h⟩ := bd_some h
      refine cV_i (As := [.int r6]) (rest := [.ref h0]) (wc := (wX8 cI h0 h1 h2 h3 h4 h5 (0) aSm_1 aLn aAt aWe aRm aBm aHa aS aSv_1 aCm aRd aBy)) (wc' := (wX8 cI h0 h1 h2 h3 h4 h5 (0) aSm_1 aLn aAt aWe aRm aBm aHa aS aSv_1 aCm aRd aBy)) hx hb hml hown hg hK hP hD hS hA hl.1 (k_X8_goalFrom l D cI cS cL Z h0 h1 h2 h3 h4 h5 r6 (0) aSm_1 aLn aAt aWe aRm aBm aHa aS aSv_1 aCm aRd aBy ec7) gm_X8_goalFrom gw_1085 ⟨rfl, rfl, by decide, by decide⟩ ⟨Nat.zero_le _, Nat.zero_le _⟩ [0, 1, 2, 3, 4, 5] rfl rfl rfl rfl rfl rfl rfl rfl (Nat.le_of_ble_eq_true rfl) dX8_up_33 (fun H locs hP hD hS => ?_)
      have hP : va_P D vwCl (wX8 cI h0 h1 h2 h3 h4 h5 (0) aSm_1 aLn aAt aWe aRm aBm aHa aS aSv_1 aCm aRd aBy) H := hP
      have hD : va_D A (wX8 cI h0 h1 h2 h3 h4 h5 (0) aSm_1 aLn aAt aWe aRm aBm aHa aS aSv_1 aCm aRd aBy) := hD
      obtain ⟨⟨r8, aS_8⟩, ec8, h⟩ := bd_some h
      refine cV_i (As := [.int r7]) (rest := []) (wc := (wX8 cI h0 h1 h2 h3 h4 h5 (0) aSm_1 aLn aAt aWe aRm aBm aHa aS aSv_1 aCm aRd aBy)) (wc' := (wX8 cI h0 h1 h2 h3 h4 h5 (0) aSm_1 aLn aAt aWe aRm aBm aHa aS_8 aSv_1 aCm aRd aBy)) hx hb hml hown hg hK hP hD hS hA hl.1 (k_X8_moves l D cI cS cL Z h0 h1 h2 h3 h4 h5 r7 (0) aSm_1 aLn aAt aWe aRm aBm aHa aS aSv_1 aCm aRd aBy ec8) gm_X8_moves gw_1073 ⟨rfl, rfl, by decide, by decide⟩ ⟨Nat.zero_le _, Nat.zero_le _⟩ [0, 1, 2, 3, 4, 5] rfl rfl rfl rfl rfl rfl rfl rfl (Nat.le_of_ble_eq_true rfl) dX8_up_36 (fun H locs hP hD hS => ?_)
      have hP : va_P D vwCl (wX8 cI h0 h1 h2 h3 h4 h5 (0) aSm_1 aLn aAt aWe aRm aBm aHa aS_8 aSv_1 aCm aRd aBy) H := hP
      have hD : va_D A (wX8 cI h0 h1 h2 h3 h4 h5 (0) aSm_1 aLn aAt aWe aRm aBm aHa aS_8 aSv_1 aCm aRd aBy) := hD
      refine lv_pop hx hb dX8_up_39 rfl ?_
      refine lv_aload_n hx hb dX8_up_40 rfl (lv_at hl 1 rfl) ?_
      refine va_get (D := D) (ci := 8) (v := .ref h1) (C := RX8) (T := TX8) (N := 13) hx hb hg uX8 hown hK.1 hP 0 rfl rfl 1 (by decide) (hg _ gw_941) (fun _ h9 => h9) rfl dX8_up_41 ?_
      refine lv_iconst (v := 1) hx hb dX8_up_44 (by decide) ?_
      obtain ⟨v9, h⟩ := rd_some h
      refine va_iald hx hb hK.1 hP 1 0 rfl rfl v9 dX8_up_45 ?_
      cases h
      exact ret_i hx hb hr hlocks hP hD hS dX8_up_46 rfl
  exact hmain _ _ hP hS
abbrev rm_X8_down : Room := { frames := 3, cells := 0, slots := 0, locals := 63 }
def f_X8_down (Z : Nat) (aTh : Int32) (aSm : Int32) (aS : Nat → Int32) (aSv : Nat → Int32) : Option (Int32 × Int32 × Int32 × (Nat → Int32) × (Nat → Int32)) :=
  (f_X8_saves Z aSm aS aSv).bind fun (aSm_1, aSv_1) =>
  rd 1 344 (
  (f_X8_endOf Z (aS (Int32.toNatClampNeg 1)) aS).bind fun r3 =>
  rd 0 344 (
  if (aS (Int32.toNatClampNeg 0)) ≤ r3 then
    rd 1 344 (
    some (aS (Int32.toNatClampNeg 1), (0), aSm_1, aS, aSv_1))
  else
    (f_X8_goalFrom Z (r3 + 1) aS).bind fun r7 =>
    (f_X8_moves Z r7 aS).bind fun (r8, aS_8) =>
    rd 1 344 (
    some (aS_8 (Int32.toNatClampNeg 1), (0), aSm_1, aS_8, aSv_1))))
set_option maxRecDepth 100000 in
set_option maxHeartbeats 4000000 in
theorem k_X8_down (l : Launch) (D : va_G) (cI cS cL : ClassId) (Z : Nat) (h0 : Nat) (h1 : Nat) (h2 : Nat) (h3 : Nat) (h4 : Nat) (h5 : Nat) (aTh : Int32) (aSm : Int32) (aLn : Int32) (aAt : Int32) (aWe : Int32) (aRm : Int32) (aBm : Int32) (aHa : Int64) (aS : Nat → Int32) (aSv : Nat → Int32) (aCm : Nat → Int32) (aRd : Nat → Int32) (aBy : Nat → Int32) {r : Int32} {aTh' : Int32} {aSm' : Int32} {aS' : Nat → Int32} {aSv' : Nat → Int32} (h : f_X8_down Z aTh aSm aS aSv = some (r, aTh', aSm', aS', aSv')) : CI l yX8_down cX8_down 2 (some .int) rm_X8_down D cI cS cL [.ref h0] (wX8 cI h0 h1 h2 h3 h4 h5 aTh aSm aLn aAt aWe aRm aBm aHa aS aSv aCm aRd aBy) (wX8 cI h0 h1 h2 h3 h4 h5 (aTh') (aSm') aLn aAt aWe aRm aBm aHa (aS') (aSv') aCm aRd aBy) r := by
  refine ent_i (by decide +kernel) (Nat.le_of_ble_eq_true rfl) ?_
  intro p e s m args below meth c A ls hx hb hr hml hlocks hg hown hK hP hD hS hA hl
  have hown : s.vm.findClass RX8 = some m.cls := hown
  have hl : lv_has ls 2 [(0, .ref h0)] := hl
  have hP : va_P D vwCl (wX8 cI h0 h1 h2 h3 h4 h5 aTh aSm aLn aAt aWe aRm aBm aHa aS aSv aCm aRd aBy) s.heap := hP
  have hD : va_D A (wX8 cI h0 h1 h2 h3 h4 h5 aTh aSm aLn aAt aWe aRm aBm aHa aS aSv aCm aRd aBy) := hD
  show W p l e rm_X8_down s m args below meth c s.heap [] 0 0 (FI D below args s (wX8 cI h0 h1 h2 h3 h4 h5 (aTh') (aSm') aLn aAt aWe aRm aBm aHa (aS') (aSv') aCm aRd aBy) r A) (F0 m 0 ls [])
  unfold f_X8_down at h
  have hmain : ∀ (H : Heap) (locs : List Loc), va_P D vwCl (wX8 cI h0 h1 h2 h3 h4 h5 aTh aSm aLn aAt aWe aRm aBm aHa aS aSv aCm aRd aBy) H → va_S A s.heap H locs → W p l e rm_X8_down s m args below meth c H locs 0 0 (FI D below args s (wX8 cI h0 h1 h2 h3 h4 h5 (aTh') (aSm') aLn aAt aWe aRm aBm aHa (aS') (aSv') aCm aRd aBy) r A) (F0 m 0 ls []) := by
    intro H locs hP hS
    refine lv_aload_n hx hb dX8_down_0 rfl (lv_at hl 0 rfl) ?_
    refine lv_iconst (v := 0) hx hb dX8_down_1 (by decide) ?_
    refine va_put (D := D) (ci := 8) (v := .int 0) (ty := tyX8 0) (C := RX8) (T := TX8) (N := 13) hx hb hg uX8 tyX8 tyX8_ok nmX8 hown hK.1 hP hD hS 0 rfl rfl 0 (by decide) (hg _ gw_940) (fun _ h9 => h9) rfl (tyX8_ok 0 (by decide)) rfl rfl (Nat.le_of_ble_eq_true rfl) dX8_down_2 (fun H locs hP hD hS => ?_)
    have hP : va_P D vwCl (wX8 cI h0 h1 h2 h3 h4 h5 (0) aSm aLn aAt aWe aRm aBm aHa aS aSv aCm aRd aBy) H := hP
    have hD : va_D A (wX8 cI h0 h1 h2 h3 h4 h5 (0) aSm aLn aAt aWe aRm aBm aHa aS aSv aCm aRd aBy) := hD
    refine lv_aload_n hx hb dX8_down_5 rfl (lv_at hl 0 rfl) ?_
    obtain ⟨⟨aSm_1, aSv_1⟩, ec1, h⟩ := bd_some h
    refine cV_v (As := []) (rest := []) (wc := (wX8 cI h0 h1 h2 h3 h4 h5 (0) aSm aLn aAt aWe aRm aBm aHa aS aSv aCm aRd aBy)) (wc' := (wX8 cI h0 h1 h2 h3 h4 h5 (0) aSm_1 aLn aAt aWe aRm aBm aHa aS aSv_1 aCm aRd aBy)) hx hb hml hown hg hK hP hD hS hA hl.1 (k_X8_saves l D cI cS cL Z h0 h1 h2 h3 h4 h5 (0) aSm aLn aAt aWe aRm aBm aHa aS aSv aCm aRd aBy ec1) gm_X8_saves gw_1002 ⟨rfl, rfl, by decide, by decide⟩ ⟨Nat.zero_le _, Nat.zero_le _⟩ [0, 1, 2, 3, 4, 5] rfl rfl rfl rfl rfl rfl rfl rfl (Nat.le_of_ble_eq_true rfl) dX8_down_6 (fun H locs hP hD hS => ?_)
    have hP : va_P D vwCl (wX8 cI h0 h1 h2 h3 h4 h5 (0) aSm_1 aLn aAt aWe aRm aBm aHa aS aSv_1 aCm aRd aBy) H := hP
    have hD : va_D A (wX8 cI h0 h1 h2 h3 h4 h5 (0) aSm_1 aLn aAt aWe aRm aBm aHa aS aSv_1 aCm aRd aBy) := hD
    refine lv_aload_n hx hb dX8_down_9 rfl (lv_at hl 0 rfl) ?_
    refine lv_aload_n hx hb dX8_down_10 rfl (lv_at hl 0 rfl) ?_
    refine va_get (D := D) (ci := 8) (v := .ref h1) (C := RX8) (T := TX8) (N := 13) hx hb hg uX8 hown hK.1 hP 0 rfl rfl 1 (by decide) (hg _ gw_941) (fun _ h9 => h9) rfl dX8_down_11 ?_
    refine lv_iconst (v := 1) hx hb dX8_down_14 (by decide) ?_
    obtain ⟨v2, h⟩ := rd_some h
    refine va_iald hx hb hK.1 hP 1 0 rfl rfl v2 dX8_down_15 ?_
    obtain ⟨r3, ec3, h⟩ := bd_some h
    refine cV_i (As := [.int (aS (Int32.toNatClampNeg 1))]) (rest := []) (wc := (wX8 cI h0 h1 h2 h3 h4 h5 (0) aSm_1 aLn aAt aWe aRm aBm aHa aS aSv_1 aCm aRd aBy)) (wc' := (wX8 cI h0 h1 h2 h3 h4 h5 (0) aSm_1 aLn aAt aWe aRm aBm aHa aS aSv_1 aCm aRd aBy)) hx hb hml hown hg hK hP hD hS hA hl.1 (k_X8_endOf l D cI cS cL Z h0 h1 h2 h3 h4 h5 (aS (Int32.toNatClampNeg 1)) (0) aSm_1 aLn aAt aWe aRm aBm aHa aS aSv_1 aCm aRd aBy ec3) gm_X8_endOf gw_1089 ⟨rfl, rfl, by decide, by decide⟩ ⟨Nat.zero_le _, Nat.zero_le _⟩ [0, 1, 2, 3, 4, 5] rfl rfl rfl rfl rfl rfl rfl rfl (Nat.le_of_ble_eq_true rfl) dX8_down_16 (fun H locs hP hD hS => ?_)
    have hP : va_P D vwCl (wX8 cI h0 h1 h2 h3 h4 h5 (0) aSm_1 aLn aAt aWe aRm aBm aHa aS aSv_1 aCm aRd aBy) H := hP
    have hD : va_D A (wX8 cI h0 h1 h2 h3 h4 h5 (0) aSm_1 aLn aAt aWe aRm aBm aHa aS aSv_1 aCm aRd aBy) := hD
    refine lv_istore_n (lv' := [(1, .int r3), (0, .ref h0)]) hx hb dX8_down_19 rfl hl (by decide) rfl (fun ls hl => ?_)
    refine lv_iload_n hx hb dX8_down_20 rfl (lv_at hl 0 rfl) ?_
    refine lv_aload_n hx hb dX8_down_21 rfl (lv_at hl 1 rfl) ?_
    refine va_get (D := D) (ci := 8) (v := .ref h1) (C := RX8) (T := TX8) (N := 13) hx hb hg uX8 hown hK.1 hP 0 rfl rfl 1 (by decide) (hg _ gw_941) (fun _ h9 => h9) rfl dX8_down_22 ?_
    refine lv_iconst (v := 0) hx hb dX8_down_25 (by decide) ?_
    obtain ⟨v4, h⟩ := rd_some h
    refine va_iald hx hb hK.1 hP 1 0 rfl rfl v4 dX8_down_26 ?_
    refine lv_icmp_ge (tgt := 42) hx hb dX8_down_27 (by decide) (fun q5 => ?_) (fun q5 => ?_)
    · replace h := it_some q5 h
      refine lv_aload_n hx hb dX8_down_42 rfl (lv_at hl 1 rfl) ?_
      refine va_get (D := D) (ci := 8) (v := .ref h1) (C := RX8) (T := TX8) (N := 13) hx hb hg uX8 hown hK.1 hP 0 rfl rfl 1 (by decide) (hg _ gw_941) (fun _ h9 => h9) rfl dX8_down_43 ?_
      refine lv_iconst (v := 1) hx hb dX8_down_46 (by decide) ?_
      obtain ⟨v6, h⟩ := rd_some h
      refine va_iald hx hb hK.1 hP 1 0 rfl rfl v6 dX8_down_47 ?_
      cases h
      exact ret_i hx hb hr hlocks hP hD hS dX8_down_48 rfl
    · replace h := if_some q5 h
      refine lv_aload_n hx hb dX8_down_30 rfl (lv_at hl 1 rfl) ?_
      refine lv_aload_n hx hb dX8_down_31 rfl (lv_at hl 1 rfl) ?_
      refine lv_iload_n hx hb dX8_down_32 rfl (lv_at hl 0 rfl) ?_
      refine lv_iconst (v := 1) hx hb dX8_down_33 (by decide) ?_
      refine lv_iadd hx hb dX8_down_34 ?_
      obtain ⟨r7, ec7, h⟩ := bd_some h
      refine cV_i (As := [.int (r3 + 1)]) (rest := [.ref h0]) (wc := (wX8 cI h0 h1 h2 h3 h4 h5 (0) aSm_1 aLn aAt aWe aRm aBm aHa aS aSv_1 aCm aRd aBy)) (wc' := (wX8 cI h0 h1 h2 h3 h4 h5 (0) aSm_1 aLn aAt aWe aRm aBm aHa aS aSv_1 aCm aRd aBy)) hx hb hml hown hg hK hP hD hS hA hl.1 (k_X8_goalFrom l D cI cS cL Z h0 h1 h2 h3 h4 h5 (r3 + 1) (0) aSm_1 aLn aAt aWe aRm aBm aHa aS aSv_1 aCm aRd aBy ec7) gm_X8_goalFrom gw_1085 ⟨rfl, rfl, by decide, by decide⟩ ⟨Nat.zero_le _, Nat.zero_le _⟩ [0, 1, 2, 3, 4, 5] rfl rfl rfl rfl rfl rfl rfl rfl (Nat.le_of_ble_eq_true rfl) dX8_down_35 (fun H locs hP hD hS => ?_)
      have hP : va_P D vwCl (wX8 cI h0 h1 h2 h3 h4 h5 (0) aSm_1 aLn aAt aWe aRm aBm aHa aS aSv_1 aCm aRd aBy) H := hP
      have hD : va_D A (wX8 cI h0 h1 h2 h3 h4 h5 (0) aSm_1 aLn aAt aWe aRm aBm aHa aS aSv_1 aCm aRd aBy) := hD
      obtain ⟨⟨r8, aS_8⟩, ec8, h⟩ := bd_some h
      refine cV_i (As := [.int r7]) (rest := []) (wc := (wX8 cI h0 h1 h2 h3 h4 h5 (0) aSm_1 aLn aAt aWe aRm aBm aHa aS aSv_1 aCm aRd aBy)) (wc' := (wX8 cI h0 h1 h2 h3 h4 h5 (0) aSm_1 aLn aAt aWe aRm aBm aHa aS_8 aSv_1 aCm aRd aBy)) hx hb hml hown hg hK hP hD hS hA hl.1 (k_X8_moves l D cI cS cL Z h0 h1 h2 h3 h4 h5 r7 (0) aSm_1 aLn aAt aWe aRm aBm aHa aS aSv_1 aCm aRd aBy ec8) gm_X8_moves gw_1073 ⟨rfl, rfl, by decide, by decide⟩ ⟨Nat.zero_le _, Nat.zero_le _⟩ [0, 1, 2, 3, 4, 5] rfl rfl rfl rfl rfl rfl rfl rfl (Nat.le_of_ble_eq_true rfl) dX8_down_38 (fun H locs hP hD hS => ?_)
      have hP : va_P D vwCl (wX8 cI h0 h1 h2 h3 h4 h5 (0) aSm_1 aLn aAt aWe aRm aBm aHa aS_8 aSv_1 aCm aRd aBy) H := hP
      have hD : va_D A (wX8 cI h0 h1 h2 h3 h4 h5 (0) aSm_1 aLn aAt aWe aRm aBm aHa aS_8 aSv_1 aCm aRd aBy) := hD
      refine lv_pop hx hb dX8_down_41 rfl ?_
      refine lv_aload_n hx hb dX8_down_42 rfl (lv_at hl 1 rfl) ?_
      refine va_get (D := D) (ci := 8) (v := .ref h1) (C := RX8) (T := TX8) (N := 13) hx hb hg uX8 hown hK.1 hP 0 rfl rfl 1 (by decide) (hg _ gw_941) (fun _ h9 => h9) rfl dX8_down_43 ?_
      refine lv_iconst (v := 1) hx hb dX8_down_46 (by decide) ?_
      obtain ⟨v9, h⟩ := rd_some h
      refine va_iald hx hb hK.1 hP 1 0 rfl rfl v9 dX8_down_47 ?_
      cases h
      exact ret_i hx hb hr hlocks hP hD hS dX8_down_48 rfl
  exact hmain _ _ hP hS
abbrev rm_X8_moveInLine : Room := { frames := 4, cells := 0, slots := 0, locals := 85 }
def f_X8_moveInLine (Z : Nat) (p1 : Int32) (aTh : Int32) (aSm : Int32) (aS : Nat → Int32) (aSv : Nat → Int32) : Option (Int32 × Int32 × Int32 × (Nat → Int32) × (Nat → Int32)) :=
  (f_X8_saves Z aSm aS aSv).bind fun (aSm_1, aSv_1) =>
  if p1 = 0 then
    rd 1 344 (
    (f_X8_startOf Z (aS (Int32.toNatClampNeg 1)) aS).bind fun r4 =>
    (f_X8_movesAnew Z r4 aS).bind fun (r5, aS_5) =>
    rd 1 344 (
    some (aS_5 (Int32.toNatClampNeg 1), (0), aSm_1, aS_5, aSv_1)))
  else
    rd 1 344 (
    (f_X8_endOf Z (aS (Int32.toNatClampNeg 1)) aS).bind fun r8 =>
    (f_X8_movesAnew Z r8 aS).bind fun (r9, aS_9) =>
    rd 1 344 (
    some (aS_9 (Int32.toNatClampNeg 1), (0), aSm_1, aS_9, aSv_1)))
set_option maxRecDepth 100000 in
set_option maxHeartbeats 4000000 in
theorem k_X8_moveInLine (l : Launch) (D : va_G) (cI cS cL : ClassId) (Z : Nat) (h0 : Nat) (h1 : Nat) (h2 : Nat) (h3 : Nat) (h4 : Nat) (h5 : Nat) (p1 : Int32) (aTh : Int32) (aSm : Int32) (aLn : Int32) (aAt : Int32) (aWe : Int32) (aRm : Int32) (aBm : Int32) (aHa : Int64) (aS : Nat → Int32) (aSv : Nat → Int32) (aCm : Nat → Int32) (aRd : Nat → Int32) (aBy : Nat → Int32) {r : Int32} {aTh' : Int32} {aSm' : Int32} {aS' : Nat → Int32} {aSv' : Nat → Int32} (h : f_X8_moveInLine Z p1 aTh aSm aS aSv = some (r, aTh', aSm', aS', aSv')) : CI l yX8_moveInLine cX8_moveInLine 2 (some .int) rm_X8_moveInLine D cI cS cL [.ref h0, .int p1] (wX8 cI h0 h1 h2 h3 h4 h5 aTh aSm aLn aAt aWe aRm aBm aHa aS aSv aCm aRd aBy) (wX8 cI h0 h1 h2 h3 h4 h5 (aTh') (aSm') aLn aAt aWe aRm aBm aHa (aS') (aSv') aCm aRd aBy) r := by
  refine ent_i (by decide +kernel) (Nat.le_of_ble_eq_true rfl) ?_
  intro p e s m args below meth c A ls hx hb hr hml hlocks hg hown hK hP hD hS hA hl
  have hown : s.vm.findClass RX8 = some m.cls := hown
  have hl : lv_has ls 2 [(0, .ref h0), (1, .int p1)] := hl
  have hP : va_P D vwCl (wX8 cI h0 h1 h2 h3 h4 h5 aTh aSm aLn aAt aWe aRm aBm aHa aS aSv aCm aRd aBy) s.heap := hP
  have hD : va_D A (wX8 cI h0 h1 h2 h3 h4 h5 aTh aSm aLn aAt aWe aRm aBm aHa aS aSv aCm aRd aBy) := hD
  show W p l e rm_X8_moveInLine s m args below meth c s.heap [] 0 0 (FI D below args s (wX8 cI h0 h1 h2 h3 h4 h5 (aTh') (aSm') aLn aAt aWe aRm aBm aHa (aS') (aSv') aCm aRd aBy) r A) (F0 m 0 ls [])
  unfold f_X8_moveInLine at h
  have hmain : ∀ (H : Heap) (locs : List Loc), va_P D vwCl (wX8 cI h0 h1 h2 h3 h4 h5 aTh aSm aLn aAt aWe aRm aBm aHa aS aSv aCm aRd aBy) H → va_S A s.heap H locs → W p l e rm_X8_moveInLine s m args below meth c H locs 0 0 (FI D below args s (wX8 cI h0 h1 h2 h3 h4 h5 (aTh') (aSm') aLn aAt aWe aRm aBm aHa (aS') (aSv') aCm aRd aBy) r A) (F0 m 0 ls []) := by
    intro H locs hP hS
    refine lv_aload_n hx hb dX8_moveInLine_0 rfl (lv_at hl 0 rfl) ?_
    refine lv_iconst (v := 0) hx hb dX8_moveInLine_1 (by decide) ?_
    refine va_put (D := D) (ci := 8) (v := .int 0) (ty := tyX8 0) (C := RX8) (T := TX8) (N := 13) hx hb hg uX8 tyX8 tyX8_ok nmX8 hown hK.1 hP hD hS 0 rfl rfl 0 (by decide) (hg _ gw_940) (fun _ h9 => h9) rfl (tyX8_ok 0 (by decide)) rfl rfl (Nat.le_of_ble_eq_true rfl) dX8_moveInLine_2 (fun H locs hP hD hS => ?_)
    have hP : va_P D vwCl (wX8 cI h0 h1 h2 h3 h4 h5 (0) aSm aLn aAt aWe aRm aBm aHa aS aSv aCm aRd aBy) H := hP
    have hD : va_D A (wX8 cI h0 h1 h2 h3 h4 h5 (0) aSm aLn aAt aWe aRm aBm aHa aS aSv aCm aRd aBy) := hD
    refine lv_aload_n hx hb dX8_moveInLine_5 rfl (lv_at hl 0 rfl) ?_
    obtain ⟨⟨aSm_1, aSv_1⟩, ec1, h⟩ := bd_some h
    refine cV_v (As := []) (rest := []) (wc := (wX8 cI h0 h1 h2 h3 h4 h5 (0) aSm aLn aAt aWe aRm aBm aHa aS aSv aCm aRd aBy)) (wc' := (wX8 cI h0 h1 h2 h3 h4 h5 (0) aSm_1 aLn aAt aWe aRm aBm aHa aS aSv_1 aCm aRd aBy)) hx hb hml hown hg hK hP hD hS hA hl.1 (k_X8_saves l D cI cS cL Z h0 h1 h2 h3 h4 h5 (0) aSm aLn aAt aWe aRm aBm aHa aS aSv aCm aRd aBy ec1) gm_X8_saves gw_1002 ⟨rfl, rfl, by decide, by decide⟩ ⟨Nat.zero_le _, Nat.zero_le _⟩ [0, 1, 2, 3, 4, 5] rfl rfl rfl rfl rfl rfl rfl rfl (Nat.le_of_ble_eq_true rfl) dX8_moveInLine_6 (fun H locs hP hD hS => ?_)
    have hP : va_P D vwCl (wX8 cI h0 h1 h2 h3 h4 h5 (0) aSm_1 aLn aAt aWe aRm aBm aHa aS aSv_1 aCm aRd aBy) H := hP
    have hD : va_D A (wX8 cI h0 h1 h2 h3 h4 h5 (0) aSm_1 aLn aAt aWe aRm aBm aHa aS aSv_1 aCm aRd aBy) := hD
    refine lv_aload_n hx hb dX8_moveInLine_9 rfl (lv_at hl 0 rfl) ?_
    refine lv_iload_n hx hb dX8_moveInLine_10 rfl (lv_at hl 1 rfl) ?_
    refine lv_if_eq (tgt := 27) hx hb dX8_moveInLine_11 (by decide) (fun q2 => ?_) (fun q2 => ?_)
    · replace h := it_some q2 h
      refine lv_aload_n hx hb dX8_moveInLine_27 rfl (lv_at hl 0 rfl) ?_
      refine lv_aload_n hx hb dX8_moveInLine_28 rfl (lv_at hl 0 rfl) ?_
      refine va_get (D := D) (ci := 8) (v := .ref h1) (C := RX8) (T := TX8) (N := 13) hx hb hg uX8 hown hK.1 hP 0 rfl rfl 1 (by decide) (hg _ gw_941) (fun _ h9 => h9) rfl dX8_moveInLine_29 ?_
      refine lv_iconst (v := 1) hx hb dX8_moveInLine_32 (by decide) ?_
      obtain ⟨v3, h⟩ := rd_some h
      refine va_iald hx hb hK.1 hP 1 0 rfl rfl v3 dX8_moveInLine_33 ?_
      obtain ⟨r4, ec4, h⟩ := bd_some h
      refine cV_i (As := [.int (aS (Int32.toNatClampNeg 1))]) (rest := [.ref h0]) (wc := (wX8 cI h0 h1 h2 h3 h4 h5 (0) aSm_1 aLn aAt aWe aRm aBm aHa aS aSv_1 aCm aRd aBy)) (wc' := (wX8 cI h0 h1 h2 h3 h4 h5 (0) aSm_1 aLn aAt aWe aRm aBm aHa aS aSv_1 aCm aRd aBy)) hx hb hml hown hg hK hP hD hS hA hl.1 (k_X8_startOf l D cI cS cL Z h0 h1 h2 h3 h4 h5 (aS (Int32.toNatClampNeg 1)) (0) aSm_1 aLn aAt aWe aRm aBm aHa aS aSv_1 aCm aRd aBy ec4) gm_X8_startOf gw_1033 ⟨rfl, rfl, by decide, by decide⟩ ⟨Nat.zero_le _, Nat.zero_le _⟩ [0, 1, 2, 3, 4, 5] rfl rfl rfl rfl rfl rfl rfl rfl (Nat.le_of_ble_eq_true rfl) dX8_moveInLine_34 (fun H locs hP hD hS => ?_)
      have hP : va_P D vwCl (wX8 cI h0 h1 h2 h3 h4 h5 (0) aSm_1 aLn aAt aWe aRm aBm aHa aS aSv_1 aCm aRd aBy) H := hP
      have hD : va_D A (wX8 cI h0 h1 h2 h3 h4 h5 (0) aSm_1 aLn aAt aWe aRm aBm aHa aS aSv_1 aCm aRd aBy) := hD
      obtain ⟨⟨r5, aS_5⟩, ec5, h⟩ := bd_some h
      refine cV_i (As := [.int r4]) (rest := []) (wc := (wX8 cI h0 h1 h2 h3 h4 h5 (0) aSm_1 aLn aAt aWe aRm aBm aHa aS aSv_1 aCm aRd aBy)) (wc' := (wX8 cI h0 h1 h2 h3 h4 h5 (0) aSm_1 aLn aAt aWe aRm aBm aHa aS_5 aSv_1 aCm aRd aBy)) hx hb hml hown hg hK hP hD hS hA hl.1 (k_X8_movesAnew l D cI cS cL Z h0 h1 h2 h3 h4 h5 r4 (0) aSm_1 aLn aAt aWe aRm aBm aHa aS aSv_1 aCm aRd aBy ec5) gm_X8_movesAnew gw_1069 ⟨rfl, rfl, by decide, by decide⟩ ⟨Nat.zero_le _, Nat.zero_le _⟩ [0, 1, 2, 3, 4, 5] rfl rfl rfl rfl rfl rfl rfl rfl (Nat.le_of_ble_eq_true rfl) dX8_moveInLine_37 (fun H locs hP hD hS => ?_)
      have hP : va_P D vwCl (wX8 cI h0 h1 h2 h3 h4 h5 (0) aSm_1 aLn aAt aWe aRm aBm aHa aS_5 aSv_1 aCm aRd aBy) H := hP
      have hD : va_D A (wX8 cI h0 h1 h2 h3 h4 h5 (0) aSm_1 aLn aAt aWe aRm aBm aHa aS_5 aSv_1 aCm aRd aBy) := hD
      refine lv_pop hx hb dX8_moveInLine_40 rfl ?_
      refine lv_aload_n hx hb dX8_moveInLine_41 rfl (lv_at hl 0 rfl) ?_
      refine va_get (D := D) (ci := 8) (v := .ref h1) (C := RX8) (T := TX8) (N := 13) hx hb hg uX8 hown hK.1 hP 0 rfl rfl 1 (by decide) (hg _ gw_941) (fun _ h9 => h9) rfl dX8_moveInLine_42 ?_
      refine lv_iconst (v := 1) hx hb dX8_moveInLine_45 (by decide) ?_
      obtain ⟨v6, h⟩ := rd_some h
      refine va_iald hx hb hK.1 hP 1 0 rfl rfl v6 dX8_moveInLine_46 ?_
      cases h
      exact ret_i hx hb hr hlocks hP hD hS dX8_moveInLine_47 rfl
    · replace h := if_some q2 h
      refine lv_aload_n hx hb dX8_moveInLine_14 rfl (lv_at hl 0 rfl) ?_
      refine lv_aload_n hx hb dX8_moveInLine_15 rfl (lv_at hl 0 rfl) ?_
      refine va_get (D := D) (ci := 8) (v := .ref h1) (C := RX8) (T := TX8) (N := 13) hx hb hg uX8 hown hK.1 hP 0 rfl rfl 1 (by decide) (hg _ gw_941) (fun _ h9 => h9) rfl dX8_moveInLine_16 ?_
      refine lv_iconst (v := 1) hx hb dX8_moveInLine_19 (by decide) ?_
      obtain ⟨v7, h⟩ := rd_some h
      refine va_iald hx hb hK.1 hP 1 0 rfl rfl v7 dX8_moveInLine_20 ?_
      obtain ⟨r8, ec8, h⟩ := bd_some h
      refine cV_i (As := [.int (aS (Int32.toNatClampNeg 1))]) (rest := [.ref h0]) (wc := (wX8 cI h0 h1 h2 h3 h4 h5 (0) aSm_1 aLn aAt aWe aRm aBm aHa aS aSv_1 aCm aRd aBy)) (wc' := (wX8 cI h0 h1 h2 h3 h4 h5 (0) aSm_1 aLn aAt aWe aRm aBm aHa aS aSv_1 aCm aRd aBy)) hx hb hml hown hg hK hP hD hS hA hl.1 (k_X8_endOf l D cI cS cL Z h0 h1 h2 h3 h4 h5 (aS (Int32.toNatClampNeg 1)) (0) aSm_1 aLn aAt aWe aRm aBm aHa aS aSv_1 aCm aRd aBy ec8) gm_X8_endOf gw_1089 ⟨rfl, rfl, by decide, by decide⟩ ⟨Nat.zero_le _, Nat.zero_le _⟩ [0, 1, 2, 3, 4, 5] rfl rfl rfl rfl rfl rfl rfl rfl (Nat.le_of_ble_eq_true rfl) dX8_moveInLine_21 (fun H locs hP hD hS => ?_)
      have hP : va_P D vwCl (wX8 cI h0 h1 h2 h3 h4 h5 (0) aSm_1 aLn aAt aWe aRm aBm aHa aS aSv_1 aCm aRd aBy) H := hP
      have hD : va_D A (wX8 cI h0 h1 h2 h3 h4 h5 (0) aSm_1 aLn aAt aWe aRm aBm aHa aS aSv_1 aCm aRd aBy) := hD
      refine lv_goto (tgt := 37) hx hb dX8_moveInLine_24 (by decide) ?_
      obtain ⟨⟨r9, aS_9⟩, ec9, h⟩ := bd_some h
      refine cV_i (As := [.int r8]) (rest := []) (wc := (wX8 cI h0 h1 h2 h3 h4 h5 (0) aSm_1 aLn aAt aWe aRm aBm aHa aS aSv_1 aCm aRd aBy)) (wc' := (wX8 cI h0 h1 h2 h3 h4 h5 (0) aSm_1 aLn aAt aWe aRm aBm aHa aS_9 aSv_1 aCm aRd aBy)) hx hb hml hown hg hK hP hD hS hA hl.1 (k_X8_movesAnew l D cI cS cL Z h0 h1 h2 h3 h4 h5 r8 (0) aSm_1 aLn aAt aWe aRm aBm aHa aS aSv_1 aCm aRd aBy ec9) gm_X8_movesAnew gw_1069 ⟨rfl, rfl, by decide, by decide⟩ ⟨Nat.zero_le _, Nat.zero_le _⟩ [0, 1, 2, 3, 4, 5] rfl rfl rfl rfl rfl rfl rfl rfl (Nat.le_of_ble_eq_true rfl) dX8_moveInLine_37 (fun H locs hP hD hS => ?_)
      have hP : va_P D vwCl (wX8 cI h0 h1 h2 h3 h4 h5 (0) aSm_1 aLn aAt aWe aRm aBm aHa aS_9 aSv_1 aCm aRd aBy) H := hP
      have hD : va_D A (wX8 cI h0 h1 h2 h3 h4 h5 (0) aSm_1 aLn aAt aWe aRm aBm aHa aS_9 aSv_1 aCm aRd aBy) := hD
      refine lv_pop hx hb dX8_moveInLine_40 rfl ?_
      refine lv_aload_n hx hb dX8_moveInLine_41 rfl (lv_at hl 0 rfl) ?_
      refine va_get (D := D) (ci := 8) (v := .ref h1) (C := RX8) (T := TX8) (N := 13) hx hb hg uX8 hown hK.1 hP 0 rfl rfl 1 (by decide) (hg _ gw_941) (fun _ h9 => h9) rfl dX8_moveInLine_42 ?_
      refine lv_iconst (v := 1) hx hb dX8_moveInLine_45 (by decide) ?_
      obtain ⟨v10, h⟩ := rd_some h
      refine va_iald hx hb hK.1 hP 1 0 rfl rfl v10 dX8_moveInLine_46 ?_
      cases h
      exact ret_i hx hb hr hlocks hP hD hS dX8_moveInLine_47 rfl
  exact hmain _ _ hP hS
abbrev rm_X8_setEager : Room := { frames := 2, cells := 0, slots := 0, locals := 42 }
def f_X8_setEager (Z : Nat) (p1 : Int32) (aTh : Int32) (aSm : Int32) (aS : Nat → Int32) (aSv : Nat → Int32) : Option (Int32 × Int32 × Int32 × (Nat → Int32) × (Nat → Int32)) :=
  (f_X8_saves Z aSm aS aSv).bind fun (aSm_1, aSv_1) =>
  if p1 = 0 then
    rd 9 344 (kl (upd aS (Int32.toNatClampNeg 9) 0) fun aS_4 =>
    if p1 = 0 then
      some (0, (0), aSm_1, aS_4, aSv_1)
    else
      rd 1 344 (
      (f_X8_movesGap Z (aS_4 (Int32.toNatClampNeg 1)) aS_4).bind fun (r7, aS_7) =>
      some (r7, (0), aSm_1, aS_7, aSv_1)))
  else
    rd 9 344 (kl (upd aS (Int32.toNatClampNeg 9) 1) fun aS_9 =>
    if p1 = 0 then
      some (0, (0), aSm_1, aS_9, aSv_1)
    else
      rd 1 344 (
      (f_X8_movesGap Z (aS_9 (Int32.toNatClampNeg 1)) aS_9).bind fun (r12, aS_12) =>
      some (r12, (0), aSm_1, aS_12, aSv_1)))
set_option maxRecDepth 100000 in
set_option maxHeartbeats 4000000 in
theorem k_X8_setEager (l : Launch) (D : va_G) (cI cS cL : ClassId) (Z : Nat) (h0 : Nat) (h1 : Nat) (h2 : Nat) (h3 : Nat) (h4 : Nat) (h5 : Nat) (p1 : Int32) (aTh : Int32) (aSm : Int32) (aLn : Int32) (aAt : Int32) (aWe : Int32) (aRm : Int32) (aBm : Int32) (aHa : Int64) (aS : Nat → Int32) (aSv : Nat → Int32) (aCm : Nat → Int32) (aRd : Nat → Int32) (aBy : Nat → Int32) {r : Int32} {aTh' : Int32} {aSm' : Int32} {aS' : Nat → Int32} {aSv' : Nat → Int32} (h : f_X8_setEager Z p1 aTh aSm aS aSv = some (r, aTh', aSm', aS', aSv')) : CI l yX8_setEager cX8_setEager 2 (some .int) rm_X8_setEager D cI cS cL [.ref h0, .int p1] (wX8 cI h0 h1 h2 h3 h4 h5 aTh aSm aLn aAt aWe aRm aBm aHa aS aSv aCm aRd aBy) (wX8 cI h0 h1 h2 h3 h4 h5 (aTh') (aSm') aLn aAt aWe aRm aBm aHa (aS') (aSv') aCm aRd aBy) r := by
  refine ent_i (by decide +kernel) (Nat.le_of_ble_eq_true rfl) ?_
  intro p e s m args below meth c A ls hx hb hr hml hlocks hg hown hK hP hD hS hA hl
  have hown : s.vm.findClass RX8 = some m.cls := hown
  have hl : lv_has ls 2 [(0, .ref h0), (1, .int p1)] := hl
  have hP : va_P D vwCl (wX8 cI h0 h1 h2 h3 h4 h5 aTh aSm aLn aAt aWe aRm aBm aHa aS aSv aCm aRd aBy) s.heap := hP
  have hD : va_D A (wX8 cI h0 h1 h2 h3 h4 h5 aTh aSm aLn aAt aWe aRm aBm aHa aS aSv aCm aRd aBy) := hD
  show W p l e rm_X8_setEager s m args below meth c s.heap [] 0 0 (FI D below args s (wX8 cI h0 h1 h2 h3 h4 h5 (aTh') (aSm') aLn aAt aWe aRm aBm aHa (aS') (aSv') aCm aRd aBy) r A) (F0 m 0 ls [])
  unfold f_X8_setEager at h
  have hmain : ∀ (H : Heap) (locs : List Loc), va_P D vwCl (wX8 cI h0 h1 h2 h3 h4 h5 aTh aSm aLn aAt aWe aRm aBm aHa aS aSv aCm aRd aBy) H → va_S A s.heap H locs → W p l e rm_X8_setEager s m args below meth c H locs 0 0 (FI D below args s (wX8 cI h0 h1 h2 h3 h4 h5 (aTh') (aSm') aLn aAt aWe aRm aBm aHa (aS') (aSv') aCm aRd aBy) r A) (F0 m 0 ls []) := by
    intro H locs hP hS
    refine lv_aload_n hx hb dX8_setEager_0 rfl (lv_at hl 0 rfl) ?_
    refine lv_iconst (v := 0) hx hb dX8_setEager_1 (by decide) ?_
    refine va_put (D := D) (ci := 8) (v := .int 0) (ty := tyX8 0) (C := RX8) (T := TX8) (N := 13) hx hb hg uX8 tyX8 tyX8_ok nmX8 hown hK.1 hP hD hS 0 rfl rfl 0 (by decide) (hg _ gw_940) (fun _ h9 => h9) rfl (tyX8_ok 0 (by decide)) rfl rfl (Nat.le_of_ble_eq_true rfl) dX8_setEager_2 (fun H locs hP hD hS => ?_)
    have hP : va_P D vwCl (wX8 cI h0 h1 h2 h3 h4 h5 (0) aSm aLn aAt aWe aRm aBm aHa aS aSv aCm aRd aBy) H := hP
    have hD : va_D A (wX8 cI h0 h1 h2 h3 h4 h5 (0) aSm aLn aAt aWe aRm aBm aHa aS aSv aCm aRd aBy) := hD
    refine lv_aload_n hx hb dX8_setEager_5 rfl (lv_at hl 0 rfl) ?_
    obtain ⟨⟨aSm_1, aSv_1⟩, ec1, h⟩ := bd_some h
    refine cV_v (As := []) (rest := []) (wc := (wX8 cI h0 h1 h2 h3 h4 h5 (0) aSm aLn aAt aWe aRm aBm aHa aS aSv aCm aRd aBy)) (wc' := (wX8 cI h0 h1 h2 h3 h4 h5 (0) aSm_1 aLn aAt aWe aRm aBm aHa aS aSv_1 aCm aRd aBy)) hx hb hml hown hg hK hP hD hS hA hl.1 (k_X8_saves l D cI cS cL Z h0 h1 h2 h3 h4 h5 (0) aSm aLn aAt aWe aRm aBm aHa aS aSv aCm aRd aBy ec1) gm_X8_saves gw_1002 ⟨rfl, rfl, by decide, by decide⟩ ⟨Nat.zero_le _, Nat.zero_le _⟩ [0, 1, 2, 3, 4, 5] rfl rfl rfl rfl rfl rfl rfl rfl (Nat.le_of_ble_eq_true rfl) dX8_setEager_6 (fun H locs hP hD hS => ?_)
    have hP : va_P D vwCl (wX8 cI h0 h1 h2 h3 h4 h5 (0) aSm_1 aLn aAt aWe aRm aBm aHa aS aSv_1 aCm aRd aBy) H := hP
    have hD : va_D A (wX8 cI h0 h1 h2 h3 h4 h5 (0) aSm_1 aLn aAt aWe aRm aBm aHa aS aSv_1 aCm aRd aBy) := hD
    refine lv_aload_n hx hb dX8_setEager_9 rfl (lv_at hl 0 rfl) ?_
    refine va_get (D := D) (ci := 8) (v := .ref h1) (C := RX8) (T := TX8) (N := 13) hx hb hg uX8 hown hK.1 hP 0 rfl rfl 1 (by decide) (hg _ gw_941) (fun _ h9 => h9) rfl dX8_setEager_10 ?_
    refine lv_bipush (v := 9) hx hb dX8_setEager_13 (by decide) ?_
    refine lv_iload_n hx hb dX8_setEager_15 rfl (lv_at hl 1 rfl) ?_
    refine lv_if_eq (tgt := 23) hx hb dX8_setEager_16 (by decide) (fun q2 => ?_) (fun q2 => ?_)
    · replace h := it_some q2 h
      refine lv_iconst (v := 0) hx hb dX8_setEager_23 (by decide) ?_
      obtain ⟨v3, h⟩ := rd_some h
      obtain ⟨aS_4, eaS_4, h⟩ := kl_some h
      refine va_iast hx hb hK.1 hP hD hS 1 0 rfl rfl v3 dX8_setEager_24 (fun H locs hP hD hS => ?_)
      have hP : va_P D vwCl (wX8 cI h0 h1 h2 h3 h4 h5 (0) aSm_1 aLn aAt aWe aRm aBm aHa aS_4 aSv_1 aCm aRd aBy) H := by rw [eaS_4]; exact hP
      have hD : va_D A (wX8 cI h0 h1 h2 h3 h4 h5 (0) aSm_1 aLn aAt aWe aRm aBm aHa aS_4 aSv_1 aCm aRd aBy) := by rw [eaS_4]; exact hD
      refine lv_iload_n hx hb dX8_setEager_25 rfl (lv_at hl 1 rfl) ?_
      refine lv_if_eq (tgt := 42) hx hb dX8_setEager_26 (by decide) (fun q5 => ?_) (fun q5 => ?_)
      · replace h := it_some q5 h
        refine lv_iconst (v := 0) hx hb dX8_setEager_42 (by decide) ?_
        cases h
        exact ret_i hx hb hr hlocks hP hD hS dX8_setEager_43 rfl
      · replace h := if_some q5 h
        refine lv_aload_n hx hb dX8_setEager_29 rfl (lv_at hl 0 rfl) ?_
        refine lv_aload_n hx hb dX8_setEager_30 rfl (lv_at hl 0 rfl) ?_
        refine va_get (D := D) (ci := 8) (v := .ref h1) (C := RX8) (T := TX8) (N := 13) hx hb hg uX8 hown hK.1 hP 0 rfl rfl 1 (by decide) (hg _ gw_941) (fun _ h9 => h9) rfl dX8_setEager_31 ?_
        refine lv_iconst (v := 1) hx hb dX8_setEager_34 (by decide) ?_
        obtain ⟨v6, h⟩ := rd_some h
        refine va_iald hx hb hK.1 hP 1 0 rfl rfl v6 dX8_setEager_35 ?_
        obtain ⟨⟨r7, aS_7⟩, ec7, h⟩ := bd_some h
        refine cV_i (As := [.int (aS_4 (Int32.toNatClampNeg 1))]) (rest := []) (wc := (wX8 cI h0 h1 h2 h3 h4 h5 (0) aSm_1 aLn aAt aWe aRm aBm aHa aS_4 aSv_1 aCm aRd aBy)) (wc' := (wX8 cI h0 h1 h2 h3 h4 h5 (0) aSm_1 aLn aAt aWe aRm aBm aHa aS_7 aSv_1 aCm aRd aBy)) hx hb hml hown hg hK hP hD hS hA hl.1 (k_X8_movesGap l D cI cS cL Z h0 h1 h2 h3 h4 h5 (aS_4 (Int32.toNatClampNeg 1)) (0) aSm_1 aLn aAt aWe aRm aBm aHa aS_4 aSv_1 aCm aRd aBy ec7) gm_X8_movesGap gw_1014 ⟨rfl, rfl, by decide, by decide⟩ ⟨Nat.zero_le _, Nat.zero_le _⟩ [0, 1, 2, 3, 4, 5] rfl rfl rfl rfl rfl rfl rfl rfl (Nat.le_of_ble_eq_true rfl) dX8_setEager_36 (fun H locs hP hD hS => ?_)
        have hP : va_P D vwCl (wX8 cI h0 h1 h2 h3 h4 h5 (0) aSm_1 aLn aAt aWe aRm aBm aHa aS_7 aSv_1 aCm aRd aBy) H := hP
        have hD : va_D A (wX8 cI h0 h1 h2 h3 h4 h5 (0) aSm_1 aLn aAt aWe aRm aBm aHa aS_7 aSv_1 aCm aRd aBy) := hD
        refine lv_goto (tgt := 43) hx hb dX8_setEager_39 (by decide) ?_
        cases h
        exact ret_i hx hb hr hlocks hP hD hS dX8_setEager_43 rfl
    · replace h := if_some q2 h
      refine lv_iconst (v := 1) hx hb dX8_setEager_19 (by decide) ?_
      refine lv_goto (tgt := 24) hx hb dX8_setEager_20 (by decide) ?_
      obtain ⟨v8, h⟩ := rd_some h
      obtain ⟨aS_9, eaS_9, h⟩ := kl_some h
      refine va_iast hx hb hK.1 hP hD hS 1 0 rfl rfl v8 dX8_setEager_24 (fun H locs hP hD hS => ?_)
      have hP : va_P D vwCl (wX8 cI h0 h1 h2 h3 h4 h5 (0) aSm_1 aLn aAt aWe aRm aBm aHa aS_9 aSv_1 aCm aRd aBy) H := by rw [eaS_9]; exact hP
      have hD : va_D A (wX8 cI h0 h1 h2 h3 h4 h5 (0) aSm_1 aLn aAt aWe aRm aBm aHa aS_9 aSv_1 aCm aRd aBy) := by rw [eaS_9]; exact hD
      refine lv_iload_n hx hb dX8_setEager_25 rfl (lv_at hl 1 rfl) ?_
      refine lv_if_eq (tgt := 42) hx hb dX8_setEager_26 (by decide) (fun q10 => ?_) (fun q10 => ?_)
      · replace h := it_some q10 h
        refine lv_iconst (v := 0) hx hb dX8_setEager_42 (by decide) ?_
        cases h
        exact ret_i hx hb hr hlocks hP hD hS dX8_setEager_43 rfl
      · replace h := if_some q10 h
        refine lv_aload_n hx hb dX8_setEager_29 rfl (lv_at hl 0 rfl) ?_
        refine lv_aload_n hx hb dX8_setEager_30 rfl (lv_at hl 0 rfl) ?_
        refine va_get (D := D) (ci := 8) (v := .ref h1) (C := RX8) (T := TX8) (N := 13) hx hb hg uX8 hown hK.1 hP 0 rfl rfl 1 (by decide) (hg _ gw_941) (fun _ h9 => h9) rfl dX8_setEager_31 ?_
        refine lv_iconst (v := 1) hx hb dX8_setEager_34 (by decide) ?_
        obtain ⟨v11, h⟩ := rd_some h
        refine va_iald hx hb hK.1 hP 1 0 rfl rfl v11 dX8_setEager_35 ?_
        obtain ⟨⟨r12, aS_12⟩, ec12, h⟩ := bd_some h
        refine cV_i (As := [.int (aS_9 (Int32.toNatClampNeg 1))]) (rest := []) (wc := (wX8 cI h0 h1 h2 h3 h4 h5 (0) aSm_1 aLn aAt aWe aRm aBm aHa aS_9 aSv_1 aCm aRd aBy)) (wc' := (wX8 cI h0 h1 h2 h3 h4 h5 (0) aSm_1 aLn aAt aWe aRm aBm aHa aS_12 aSv_1 aCm aRd aBy)) hx hb hml hown hg hK hP hD hS hA hl.1 (k_X8_movesGap l D cI cS cL Z h0 h1 h2 h3 h4 h5 (aS_9 (Int32.toNatClampNeg 1)) (0) aSm_1 aLn aAt aWe aRm aBm aHa aS_9 aSv_1 aCm aRd aBy ec12) gm_X8_movesGap gw_1014 ⟨rfl, rfl, by decide, by decide⟩ ⟨Nat.zero_le _, Nat.zero_le _⟩ [0, 1, 2, 3, 4, 5] rfl rfl rfl rfl rfl rfl rfl rfl (Nat.le_of_ble_eq_true rfl) dX8_setEager_36 (fun H locs hP hD hS => ?_)
        have hP : va_P D vwCl (wX8 cI h0 h1 h2 h3 h4 h5 (0) aSm_1 aLn aAt aWe aRm aBm aHa aS_12 aSv_1 aCm aRd aBy) H := hP
        have hD : va_D A (wX8 cI h0 h1 h2 h3 h4 h5 (0) aSm_1 aLn aAt aWe aRm aBm aHa aS_12 aSv_1 aCm aRd aBy) := hD
        refine lv_goto (tgt := 43) hx hb dX8_setEager_39 (by decide) ?_
        cases h
        exact ret_i hx hb hr hlocks hP hD hS dX8_setEager_43 rfl
  exact hmain _ _ hP hS
abbrev rm_X8_setMark : Room := { frames := 2, cells := 0, slots := 0, locals := 42 }
def f_X8_setMark (Z : Nat) (p1 : Int32) (p2 : Int32) (aTh : Int32) (aSm : Int32) (aS : Nat → Int32) (aSv : Nat → Int32) : Option (Int32 × Int32 × Int32 × (Nat → Int32) × (Nat → Int32)) :=
  (f_X8_isMark Z p1).bind fun r1 =>
  if r1 = 0 then
    (f_X8_fails Z 1 (0)).bind fun (r14, aTh_14) =>
    some (r14, aTh_14, aSm, aS, aSv)
  else
    (f_X8_in Z p2 0 1).bind fun r3 =>
    if r3 = 0 then
      (f_X8_fails Z 2 (0)).bind fun (r13, aTh_13) =>
      some (r13, aTh_13, aSm, aS, aSv)
    else
      (f_X8_saves Z aSm aS aSv).bind fun (aSm_5, aSv_5) =>
      rd (12 + p1) 344 (
      kl (aS (Int32.toNatClampNeg (12 + p1))) fun x3_7 =>
      rd 1 344 (
      rd (12 + p1) 344 (kl (upd aS (Int32.toNatClampNeg (12 + p1)) (aS (Int32.toNatClampNeg 1))) fun aS_10 =>
      rd (16 + p1) 344 (kl (upd aS_10 (Int32.toNatClampNeg (16 + p1)) p2) fun aS_12 =>
      some (x3_7, (0), aSm_5, aS_12, aSv_5)))))
set_option maxRecDepth 100000 in
set_option maxHeartbeats 4000000 in
theorem k_X8_setMark (l : Launch) (D : va_G) (cI cS cL : ClassId) (Z : Nat) (h0 : Nat) (h1 : Nat) (h2 : Nat) (h3 : Nat) (h4 : Nat) (h5 : Nat) (p1 : Int32) (p2 : Int32) (aTh : Int32) (aSm : Int32) (aLn : Int32) (aAt : Int32) (aWe : Int32) (aRm : Int32) (aBm : Int32) (aHa : Int64) (aS : Nat → Int32) (aSv : Nat → Int32) (aCm : Nat → Int32) (aRd : Nat → Int32) (aBy : Nat → Int32) {r : Int32} {aTh' : Int32} {aSm' : Int32} {aS' : Nat → Int32} {aSv' : Nat → Int32} (h : f_X8_setMark Z p1 p2 aTh aSm aS aSv = some (r, aTh', aSm', aS', aSv')) : CI l yX8_setMark cX8_setMark 4 (some .int) rm_X8_setMark D cI cS cL [.ref h0, .int p1, .int p2] (wX8 cI h0 h1 h2 h3 h4 h5 aTh aSm aLn aAt aWe aRm aBm aHa aS aSv aCm aRd aBy) (wX8 cI h0 h1 h2 h3 h4 h5 (aTh') (aSm') aLn aAt aWe aRm aBm aHa (aS') (aSv') aCm aRd aBy) r := by
  refine ent_i (by decide +kernel) (Nat.le_of_ble_eq_true rfl) ?_
  intro p e s m args below meth c A ls hx hb hr hml hlocks hg hown hK hP hD hS hA hl
  have hown : s.vm.findClass RX8 = some m.cls := hown
  have hl : lv_has ls 4 [(0, .ref h0), (1, .int p1), (2, .int p2)] := hl
  have hP : va_P D vwCl (wX8 cI h0 h1 h2 h3 h4 h5 aTh aSm aLn aAt aWe aRm aBm aHa aS aSv aCm aRd aBy) s.heap := hP
  have hD : va_D A (wX8 cI h0 h1 h2 h3 h4 h5 aTh aSm aLn aAt aWe aRm aBm aHa aS aSv aCm aRd aBy) := hD
  show W p l e rm_X8_setMark s m args below meth c s.heap [] 0 0 (FI D below args s (wX8 cI h0 h1 h2 h3 h4 h5 (aTh') (aSm') aLn aAt aWe aRm aBm aHa (aS') (aSv') aCm aRd aBy) r A) (F0 m 0 ls [])
  unfold f_X8_setMark at h
  have hmain : ∀ (H : Heap) (locs : List Loc), va_P D vwCl (wX8 cI h0 h1 h2 h3 h4 h5 aTh aSm aLn aAt aWe aRm aBm aHa aS aSv aCm aRd aBy) H → va_S A s.heap H locs → W p l e rm_X8_setMark s m args below meth c H locs 0 0 (FI D below args s (wX8 cI h0 h1 h2 h3 h4 h5 (aTh') (aSm') aLn aAt aWe aRm aBm aHa (aS') (aSv') aCm aRd aBy) r A) (F0 m 0 ls []) := by
    intro H locs hP hS
    refine lv_aload_n hx hb dX8_setMark_0 rfl (lv_at hl 0 rfl) ?_
    refine lv_iconst (v := 0) hx hb dX8_setMark_1 (by decide) ?_
    refine va_put (D := D) (ci := 8) (v := .int 0) (ty := tyX8 0) (C := RX8) (T := TX8) (N := 13) hx hb hg uX8 tyX8 tyX8_ok nmX8 hown hK.1 hP hD hS 0 rfl rfl 0 (by decide) (hg _ gw_940) (fun _ h9 => h9) rfl (tyX8_ok 0 (by decide)) rfl rfl (Nat.le_of_ble_eq_true rfl) dX8_setMark_2 (fun H locs hP hD hS => ?_)
    have hP : va_P D vwCl (wX8 cI h0 h1 h2 h3 h4 h5 (0) aSm aLn aAt aWe aRm aBm aHa aS aSv aCm aRd aBy) H := hP
    have hD : va_D A (wX8 cI h0 h1 h2 h3 h4 h5 (0) aSm aLn aAt aWe aRm aBm aHa aS aSv aCm aRd aBy) := hD
    refine lv_iload_n hx hb dX8_setMark_5 rfl (lv_at hl 1 rfl) ?_
    obtain ⟨r1, ec1, h⟩ := bd_some h
    refine cS_i (As := [.int p1]) (rest := []) (wc := []) (wc' := []) hx hb hml hown hg hK hP hD hS hA hl.1 (k_X8_isMark l D cI cS cL Z p1 ec1) gs_X8_isMark gw_1109 ⟨rfl, rfl, by decide, by decide⟩ ⟨Nat.zero_le _, Nat.zero_le _⟩ [] rfl rfl rfl rfl rfl (Nat.le_of_ble_eq_true rfl) dX8_setMark_6 (fun H locs hP hD hS => ?_)
    have hP : va_P D vwCl (wX8 cI h0 h1 h2 h3 h4 h5 (0) aSm aLn aAt aWe aRm aBm aHa aS aSv aCm aRd aBy) H := hP
    have hD : va_D A (wX8 cI h0 h1 h2 h3 h4 h5 (0) aSm aLn aAt aWe aRm aBm aHa aS aSv aCm aRd aBy) := hD
    refine lv_if_ne (tgt := 18) hx hb dX8_setMark_9 (by decide) (fun q2 => ?_) (fun q2 => ?_)
    · replace h := if_some q2 h
      refine lv_iload_n hx hb dX8_setMark_18 rfl (lv_at hl 2 rfl) ?_
      refine lv_iconst (v := 0) hx hb dX8_setMark_19 (by decide) ?_
      refine lv_iconst (v := 1) hx hb dX8_setMark_20 (by decide) ?_
      obtain ⟨r3, ec3, h⟩ := bd_some h
      refine cS_i (As := [.int p2, .int 0, .int 1]) (rest := []) (wc := []) (wc' := []) hx hb hml hown hg hK hP hD hS hA hl.1 (k_X8_in l D cI cS cL Z p2 0 1 ec3) gs_X8_in gw_991 ⟨rfl, rfl, by decide, by decide⟩ ⟨Nat.zero_le _, Nat.zero_le _⟩ [] rfl rfl rfl rfl rfl (Nat.le_of_ble_eq_true rfl) dX8_setMark_21 (fun H locs hP hD hS => ?_)
      have hP : va_P D vwCl (wX8 cI h0 h1 h2 h3 h4 h5 (0) aSm aLn aAt aWe aRm aBm aHa aS aSv aCm aRd aBy) H := hP
      have hD : va_D A (wX8 cI h0 h1 h2 h3 h4 h5 (0) aSm aLn aAt aWe aRm aBm aHa aS aSv aCm aRd aBy) := hD
      refine lv_if_ne (tgt := 33) hx hb dX8_setMark_24 (by decide) (fun q4 => ?_) (fun q4 => ?_)
      · replace h := if_some q4 h
        refine lv_aload_n hx hb dX8_setMark_33 rfl (lv_at hl 0 rfl) ?_
        obtain ⟨⟨aSm_5, aSv_5⟩, ec5, h⟩ := bd_some h
        refine cV_v (As := []) (rest := []) (wc := (wX8 cI h0 h1 h2 h3 h4 h5 (0) aSm aLn aAt aWe aRm aBm aHa aS aSv aCm aRd aBy)) (wc' := (wX8 cI h0 h1 h2 h3 h4 h5 (0) aSm_5 aLn aAt aWe aRm aBm aHa aS aSv_5 aCm aRd aBy)) hx hb hml hown hg hK hP hD hS hA hl.1 (k_X8_saves l D cI cS cL Z h0 h1 h2 h3 h4 h5 (0) aSm aLn aAt aWe aRm aBm aHa aS aSv aCm aRd aBy ec5) gm_X8_saves gw_1002 ⟨rfl, rfl, by decide, by decide⟩ ⟨Nat.zero_le _, Nat.zero_le _⟩ [0, 1, 2, 3, 4, 5] rfl rfl rfl rfl rfl rfl rfl rfl (Nat.le_of_ble_eq_true rfl) dX8_setMark_34 (fun H locs hP hD hS => ?_)
        have hP : va_P D vwCl (wX8 cI h0 h1 h2 h3 h4 h5 (0) aSm_5 aLn aAt aWe aRm aBm aHa aS aSv_5 aCm aRd aBy) H := hP
        have hD : va_D A (wX8 cI h0 h1 h2 h3 h4 h5 (0) aSm_5 aLn aAt aWe aRm aBm aHa aS aSv_5 aCm aRd aBy) := hD
        refine lv_aload_n hx hb dX8_setMark_37 rfl (lv_at hl 0 rfl) ?_
        refine va_get (D := D) (ci := 8) (v := .ref h1) (C := RX8) (T := TX8) (N := 13) hx hb hg uX8 hown hK.1 hP 0 rfl rfl 1 (by decide) (hg _ gw_941) (fun _ h9 => h9) rfl dX8_setMark_38 ?_
        refine lv_bipush (v := 12) hx hb dX8_setMark_41 (by decide) ?_
        refine lv_iload_n hx hb dX8_setMark_43 rfl (lv_at hl 1 rfl) ?_
        refine lv_iadd hx hb dX8_setMark_44 ?_
        obtain ⟨v6, h⟩ := rd_some h
        refine va_iald hx hb hK.1 hP 1 0 rfl rfl v6 dX8_setMark_45 ?_
        obtain ⟨x3_7, ex3_7, h⟩ := kl_some h
        refine nm_i ex3_7 ?_
        refine lv_istore_n (lv' := [(3, .int x3_7), (0, .ref h0), (1, .int p1), (2, .int p2)]) hx hb dX8_setMark_46 rfl hl (by decide) rfl (fun ls hl => ?_)
        refine lv_aload_n hx hb dX8_setMark_47 rfl (lv_at hl 1 rfl) ?_
        refine va_get (D := D) (ci := 8) (v := .ref h1) (C := RX8) (T := TX8) (N := 13) hx hb hg uX8 hown hK.1 hP 0 rfl rfl 1 (by decide) (hg _ gw_941) (fun _ h9 => h9) rfl dX8_setMark_48 ?_
        refine lv_bipush (v := 12) hx hb dX8_setMark_51 (by decide) ?_
        refine lv_iload_n hx hb dX8_setMark_53 rfl (lv_at hl 2 rfl) ?_
        refine lv_iadd hx hb dX8_setMark_54 ?_
        refine lv_aload_n hx hb dX8_setMark_55 rfl (lv_at hl 1 rfl) ?_
        refine va_get (D := D) (ci := 8) (v := .ref h1) (C := RX8) (T := TX8) (N := 13) hx hb hg uX8 hown hK.1 hP 0 rfl rfl 1 (by decide) (hg _ gw_941) (fun _ h9 => h9) rfl dX8_setMark_56 ?_
        refine lv_iconst (v := 1) hx hb dX8_setMark_59 (by decide) ?_
        obtain ⟨v8, h⟩ := rd_some h
        refine va_iald hx hb hK.1 hP 1 0 rfl rfl v8 dX8_setMark_60 ?_
        obtain ⟨v9, h⟩ := rd_some h
        obtain ⟨aS_10, eaS_10, h⟩ := kl_some h
        refine va_iast hx hb hK.1 hP hD hS 1 0 rfl rfl v9 dX8_setMark_61 (fun H locs hP hD hS => ?_)
        have hP : va_P D vwCl (wX8 cI h0 h1 h2 h3 h4 h5 (0) aSm_5 aLn aAt aWe aRm aBm aHa aS_10 aSv_5 aCm aRd aBy) H := by rw [eaS_10]; exact hP
        have hD : va_D A (wX8 cI h0 h1 h2 h3 h4 h5 (0) aSm_5 aLn aAt aWe aRm aBm aHa aS_10 aSv_5 aCm aRd aBy) := by rw [eaS_10]; exact hD
        refine lv_aload_n hx hb dX8_setMark_62 rfl (lv_at hl 1 rfl) ?_
        refine va_get (D := D) (ci := 8) (v := .ref h1) (C := RX8) (T := TX8) (N := 13) hx hb hg uX8 hown hK.1 hP 0 rfl rfl 1 (by decide) (hg _ gw_941) (fun _ h9 => h9) rfl dX8_setMark_63 ?_
        refine lv_bipush (v := 16) hx hb dX8_setMark_66 (by decide) ?_
        refine lv_iload_n hx hb dX8_setMark_68 rfl (lv_at hl 2 rfl) ?_
        refine lv_iadd hx hb dX8_setMark_69 ?_
        refine lv_iload_n hx hb dX8_setMark_70 rfl (lv_at hl 3 rfl) ?_
        obtain ⟨v11, h⟩ := rd_some h
        obtain ⟨aS_12, eaS_12, h⟩ := kl_some h
        refine va_iast hx hb hK.1 hP hD hS 1 0 rfl rfl v11 dX8_setMark_71 (fun H locs hP hD hS => ?_)
        have hP : va_P D vwCl (wX8 cI h0 h1 h2 h3 h4 h5 (0) aSm_5 aLn aAt aWe aRm aBm aHa aS_12 aSv_5 aCm aRd aBy) H := by rw [eaS_12]; exact hP
        have hD : va_D A (wX8 cI h0 h1 h2 h3 h4 h5 (0) aSm_5 aLn aAt aWe aRm aBm aHa aS_12 aSv_5 aCm aRd aBy) := by rw [eaS_12]; exact hD
        refine lv_iload_n hx hb dX8_setMark_72 rfl (lv_at hl 0 rfl) ?_
        cases h
        exact ret_i hx hb hr hlocks hP hD hS dX8_setMark_73 rfl
      · replace h := it_some q4 h
        refine lv_aload_n hx hb dX8_setMark_27 rfl (lv_at hl 0 rfl) ?_
        refine lv_iconst (v := 2) hx hb dX8_setMark_28 (by decide) ?_
        obtain ⟨⟨r13, aTh_13⟩, ec13, h⟩ := bd_some h
        refine cV_i (As := [.int 2]) (rest := []) (wc := (wX8 cI h0 h1 h2 h3 h4 h5 (0) aSm aLn aAt aWe aRm aBm aHa aS aSv aCm aRd aBy)) (wc' := (wX8 cI h0 h1 h2 h3 h4 h5 aTh_13 aSm aLn aAt aWe aRm aBm aHa aS aSv aCm aRd aBy)) hx hb hml hown hg hK hP hD hS hA hl.1 (k_X8_fails l D cI cS cL Z h0 h1 h2 h3 h4 h5 2 (0) aSm aLn aAt aWe aRm aBm aHa aS aSv aCm aRd aBy ec13) gm_X8_fails gw_994 ⟨rfl, rfl, by decide, by decide⟩ ⟨Nat.zero_le _, Nat.zero_le _⟩ [0, 1, 2, 3, 4, 5] rfl rfl rfl rfl rfl rfl rfl rfl (Nat.le_of_ble_eq_true rfl) dX8_setMark_29 (fun H locs hP hD hS => ?_)
        have hP : va_P D vwCl (wX8 cI h0 h1 h2 h3 h4 h5 aTh_13 aSm aLn aAt aWe aRm aBm aHa aS aSv aCm aRd aBy) H := hP
        have hD : va_D A (wX8 cI h0 h1 h2 h3 h4 h5 aTh_13 aSm aLn aAt aWe aRm aBm aHa aS aSv aCm aRd aBy) := hD
        cases h
        exact ret_i hx hb hr hlocks hP hD hS dX8_setMark_32 rfl
    · replace h := it_some q2 h
      refine lv_aload_n hx hb dX8_setMark_12 rfl (lv_at hl 0 rfl) ?_
      refine lv_iconst (v := 1) hx hb dX8_setMark_13 (by decide) ?_
      obtain ⟨⟨r14, aTh_14⟩, ec14, h⟩ := bd_some h
      refine cV_i (As := [.int 1]) (rest := []) (wc := (wX8 cI h0 h1 h2 h3 h4 h5 (0) aSm aLn aAt aWe aRm aBm aHa aS aSv aCm aRd aBy)) (wc' := (wX8 cI h0 h1 h2 h3 h4 h5 aTh_14 aSm aLn aAt aWe aRm aBm aHa aS aSv aCm aRd aBy)) hx hb hml hown hg hK hP hD hS hA hl.1 (k_X8_fails l D cI cS cL Z h0 h1 h2 h3 h4 h5 1 (0) aSm aLn aAt aWe aRm aBm aHa aS aSv aCm aRd aBy ec14) gm_X8_fails gw_994 ⟨rfl, rfl, by decide, by decide⟩ ⟨Nat.zero_le _, Nat.zero_le _⟩ [0, 1, 2, 3, 4, 5] rfl rfl rfl rfl rfl rfl rfl rfl (Nat.le_of_ble_eq_true rfl) dX8_setMark_14 (fun H locs hP hD hS => ?_)
      have hP : va_P D vwCl (wX8 cI h0 h1 h2 h3 h4 h5 aTh_14 aSm aLn aAt aWe aRm aBm aHa aS aSv aCm aRd aBy) H := hP
      have hD : va_D A (wX8 cI h0 h1 h2 h3 h4 h5 aTh_14 aSm aLn aAt aWe aRm aBm aHa aS aSv aCm aRd aBy) := hD
      cases h
      exact ret_i hx hb hr hlocks hP hD hS dX8_setMark_17 rfl
  exact hmain _ _ hP hS
abbrev rm_X8_region : Room := { frames := 1, cells := 0, slots := 0, locals := 20 }
def f_X8_region (Z : Nat) (p1 : Int32) (aS : Nat → Int32) : Option (Int32) :=
  rd 1 344 (
  rd (12 + p1) 344 (
  (f_X8_size Z ((aS (Int32.toNatClampNeg 1)) - (aS (Int32.toNatClampNeg (12 + p1))))).bind fun r3 =>
  some r3))
set_option maxRecDepth 100000 in
set_option maxHeartbeats 4000000 in
theorem k_X8_region (l : Launch) (D : va_G) (cI cS cL : ClassId) (Z : Nat) (h0 : Nat) (h1 : Nat) (h2 : Nat) (h3 : Nat) (h4 : Nat) (h5 : Nat) (p1 : Int32) (aTh : Int32) (aSm : Int32) (aLn : Int32) (aAt : Int32) (aWe : Int32) (aRm : Int32) (aBm : Int32) (aHa : Int64) (aS : Nat → Int32) (aSv : Nat → Int32) (aCm : Nat → Int32) (aRd : Nat → Int32) (aBy : Nat → Int32) {r : Int32} (h : f_X8_region Z p1 aS = some r) : CI l yX8_region cX8_region 2 (some .int) rm_X8_region D cI cS cL [.ref h0, .int p1] (wX8 cI h0 h1 h2 h3 h4 h5 aTh aSm aLn aAt aWe aRm aBm aHa aS aSv aCm aRd aBy) (wX8 cI h0 h1 h2 h3 h4 h5 aTh aSm aLn aAt aWe aRm aBm aHa aS aSv aCm aRd aBy) r := by
  refine ent_i (by decide +kernel) (Nat.le_of_ble_eq_true rfl) ?_
  intro p e s m args below meth c A ls hx hb hr hml hlocks hg hown hK hP hD hS hA hl
  have hown : s.vm.findClass RX8 = some m.cls := hown
  have hl : lv_has ls 2 [(0, .ref h0), (1, .int p1)] := hl
  have hP : va_P D vwCl (wX8 cI h0 h1 h2 h3 h4 h5 aTh aSm aLn aAt aWe aRm aBm aHa aS aSv aCm aRd aBy) s.heap := hP
  have hD : va_D A (wX8 cI h0 h1 h2 h3 h4 h5 aTh aSm aLn aAt aWe aRm aBm aHa aS aSv aCm aRd aBy) := hD
  show W p l e rm_X8_region s m args below meth c s.heap [] 0 0 (FI D below args s (wX8 cI h0 h1 h2 h3 h4 h5 aTh aSm aLn aAt aWe aRm aBm aHa aS aSv aCm aRd aBy) r A) (F0 m 0 ls [])
  unfold f_X8_region at h
  have hmain : ∀ (H : Heap) (locs : List Loc), va_P D vwCl (wX8 cI h0 h1 h2 h3 h4 h5 aTh aSm aLn aAt aWe aRm aBm aHa aS aSv aCm aRd aBy) H → va_S A s.heap H locs → W p l e rm_X8_region s m args below meth c H locs 0 0 (FI D below args s (wX8 cI h0 h1 h2 h3 h4 h5 aTh aSm aLn aAt aWe aRm aBm aHa aS aSv aCm aRd aBy) r A) (F0 m 0 ls []) := by
    intro H locs hP hS
    refine lv_aload_n hx hb dX8_region_0 rfl (lv_at hl 0 rfl) ?_
    refine va_get (D := D) (ci := 8) (v := .ref h1) (C := RX8) (T := TX8) (N := 13) hx hb hg uX8 hown hK.1 hP 0 rfl rfl 1 (by decide) (hg _ gw_941) (fun _ h9 => h9) rfl dX8_region_1 ?_
    refine lv_iconst (v := 1) hx hb dX8_region_4 (by decide) ?_
    obtain ⟨v1, h⟩ := rd_some h
    refine va_iald hx hb hK.1 hP 1 0 rfl rfl v1 dX8_region_5 ?_
    refine lv_aload_n hx hb dX8_region_6 rfl (lv_at hl 0 rfl) ?_
    refine va_get (D := D) (ci := 8) (v := .ref h1) (C := RX8) (T := TX8) (N := 13) hx hb hg uX8 hown hK.1 hP 0 rfl rfl 1 (by decide) (hg _ gw_941) (fun _ h9 => h9) rfl dX8_region_7 ?_
    refine lv_bipush (v := 12) hx hb dX8_region_10 (by decide) ?_
    refine lv_iload_n hx hb dX8_region_12 rfl (lv_at hl 1 rfl) ?_
    refine lv_iadd hx hb dX8_region_13 ?_
    obtain ⟨v2, h⟩ := rd_some h
    refine va_iald hx hb hK.1 hP 1 0 rfl rfl v2 dX8_region_14 ?_
    refine lv_isub hx hb dX8_region_15 ?_
    obtain ⟨r3, ec3, h⟩ := bd_some h
    refine cS_i (As := [.int ((aS (Int32.toNatClampNeg 1)) - (aS (Int32.toNatClampNeg (12 + p1))))]) (rest := []) (wc := []) (wc' := []) hx hb hml hown hg hK hP hD hS hA hl.1 (k_X8_size l D cI cS cL Z ((aS (Int32.toNatClampNeg 1)) - (aS (Int32.toNatClampNeg (12 + p1)))) ec3) gs_X8_size gw_1018 ⟨rfl, rfl, by decide, by decide⟩ ⟨Nat.zero_le _, Nat.zero_le _⟩ [] rfl rfl rfl rfl rfl (Nat.le_of_ble_eq_true rfl) dX8_region_16 (fun H locs hP hD hS => ?_)
    have hP : va_P D vwCl (wX8 cI h0 h1 h2 h3 h4 h5 aTh aSm aLn aAt aWe aRm aBm aHa aS aSv aCm aRd aBy) H := hP
    have hD : va_D A (wX8 cI h0 h1 h2 h3 h4 h5 aTh aSm aLn aAt aWe aRm aBm aHa aS aSv aCm aRd aBy) := hD
    cases h
    exact ret_i hx hb hr hlocks hP hD hS dX8_region_19 rfl
  exact hmain _ _ hP hS
abbrev rm_X8_noRegion : Room := { frames := 2, cells := 0, slots := 0, locals := 41 }
def f_X8_noRegion (Z : Nat) (p1 : Int32) (aS : Nat → Int32) : Option (Int32) :=
  rd (12 + p1) 344 (
  if (aS (Int32.toNatClampNeg (12 + p1))) = (-1) then
    some 2
  else
    (f_X8_region Z p1 aS).bind fun r3 =>
    if r3 ≤ 60 then
      some 0
    else
      some 3)
set_option maxRecDepth 100000 in
set_option maxHeartbeats 4000000 in
theorem k_X8_noRegion (l : Launch) (D : va_G) (cI cS cL : ClassId) (Z : Nat) (h0 : Nat) (h1 : Nat) (h2 : Nat) (h3 : Nat) (h4 : Nat) (h5 : Nat) (p1 : Int32) (aTh : Int32) (aSm : Int32) (aLn : Int32) (aAt : Int32) (aWe : Int32) (aRm : Int32) (aBm : Int32) (aHa : Int64) (aS : Nat → Int32) (aSv : Nat → Int32) (aCm : Nat → Int32) (aRd : Nat → Int32) (aBy : Nat → Int32) {r : Int32} (h : f_X8_noRegion Z p1 aS = some r) : CI l yX8_noRegion cX8_noRegion 2 (some .int) rm_X8_noRegion D cI cS cL [.ref h0, .int p1] (wX8 cI h0 h1 h2 h3 h4 h5 aTh aSm aLn aAt aWe aRm aBm aHa aS aSv aCm aRd aBy) (wX8 cI h0 h1 h2 h3 h4 h5 aTh aSm aLn aAt aWe aRm aBm aHa aS aSv aCm aRd aBy) r := by
  refine ent_i (by decide +kernel) (Nat.le_of_ble_eq_true rfl) ?_
  intro p e s m args below meth c A ls hx hb hr hml hlocks hg hown hK hP hD hS hA hl
  have hown : s.vm.findClass RX8 = some m.cls := hown
  have hl : lv_has ls 2 [(0, .ref h0), (1, .int p1)] := hl
  have hP : va_P D vwCl (wX8 cI h0 h1 h2 h3 h4 h5 aTh aSm aLn aAt aWe aRm aBm aHa aS aSv aCm aRd aBy) s.heap := hP
  have hD : va_D A (wX8 cI h0 h1 h2 h3 h4 h5 aTh aSm aLn aAt aWe aRm aBm aHa aS aSv aCm aRd aBy) := hD
  show W p l e rm_X8_noRegion s m args below meth c s.heap [] 0 0 (FI D below args s (wX8 cI h0 h1 h2 h3 h4 h5 aTh aSm aLn aAt aWe aRm aBm aHa aS aSv aCm aRd aBy) r A) (F0 m 0 ls [])
  unfold f_X8_noRegion at h
  have hmain : ∀ (H : Heap) (locs : List Loc), va_P D vwCl (wX8 cI h0 h1 h2 h3 h4 h5 aTh aSm aLn aAt aWe aRm aBm aHa aS aSv aCm aRd aBy) H → va_S A s.heap H locs → W p l e rm_X8_noRegion s m args below meth c H locs 0 0 (FI D below args s (wX8 cI h0 h1 h2 h3 h4 h5 aTh aSm aLn aAt aWe aRm aBm aHa aS aSv aCm aRd aBy) r A) (F0 m 0 ls []) := by
    intro H locs hP hS
    refine lv_aload_n hx hb dX8_noRegion_0 rfl (lv_at hl 0 rfl) ?_
    refine va_get (D := D) (ci := 8) (v := .ref h1) (C := RX8) (T := TX8) (N := 13) hx hb hg uX8 hown hK.1 hP 0 rfl rfl 1 (by decide) (hg _ gw_941) (fun _ h9 => h9) rfl dX8_noRegion_1 ?_
    refine lv_bipush (v := 12) hx hb dX8_noRegion_4 (by decide) ?_
    refine lv_iload_n hx hb dX8_noRegion_6 rfl (lv_at hl 1 rfl) ?_
    refine lv_iadd hx hb dX8_noRegion_7 ?_
    obtain ⟨v1, h⟩ := rd_some h
    refine va_iald hx hb hK.1 hP 1 0 rfl rfl v1 dX8_noRegion_8 ?_
    refine lv_iconst (v := (-1)) hx hb dX8_noRegion_9 (by decide) ?_
    refine lv_icmp_ne (tgt := 17) hx hb dX8_noRegion_10 (by decide) (fun q2 => ?_) (fun q2 => ?_)
    · replace h := if_some q2 h
      refine lv_aload_n hx hb dX8_noRegion_17 rfl (lv_at hl 0 rfl) ?_
      refine lv_iload_n hx hb dX8_noRegion_18 rfl (lv_at hl 1 rfl) ?_
      obtain ⟨r3, ec3, h⟩ := bd_some h
      refine cV_i (As := [.int p1]) (rest := []) (wc := (wX8 cI h0 h1 h2 h3 h4 h5 aTh aSm aLn aAt aWe aRm aBm aHa aS aSv aCm aRd aBy)) (wc' := (wX8 cI h0 h1 h2 h3 h4 h5 aTh aSm aLn aAt aWe aRm aBm aHa aS aSv aCm aRd aBy)) hx hb hml hown hg hK hP hD hS hA hl.1 (k_X8_region l D cI cS cL Z h0 h1 h2 h3 h4 h5 p1 aTh aSm aLn aAt aWe aRm aBm aHa aS aSv aCm aRd aBy ec3) gm_X8_region gw_1120 ⟨rfl, rfl, by decide, by decide⟩ ⟨Nat.zero_le _, Nat.zero_le _⟩ [0, 1, 2, 3, 4, 5] rfl rfl rfl rfl rfl rfl rfl rfl (Nat.le_of_ble_eq_true rfl) dX8_noRegion_19 (fun H locs hP hD hS => ?_)
      have hP : va_P D vwCl (wX8 cI h0 h1 h2 h3 h4 h5 aTh aSm aLn aAt aWe aRm aBm aHa aS aSv aCm aRd aBy) H := hP
      have hD : va_D A (wX8 cI h0 h1 h2 h3 h4 h5 aTh aSm aLn aAt aWe aRm aBm aHa aS aSv aCm aRd aBy) := hD
      refine lv_bipush (v := 60) hx hb dX8_noRegion_22 (by decide) ?_
      refine lv_icmp_le (tgt := 31) hx hb dX8_noRegion_24 (by decide) (fun q4 => ?_) (fun q4 => ?_)
      · replace h := it_some q4 h
        refine lv_iconst (v := 0) hx hb dX8_noRegion_31 (by decide) ?_
        cases h
        exact ret_i hx hb hr hlocks hP hD hS dX8_noRegion_32 rfl
      · replace h := if_some q4 h
        refine lv_iconst (v := 3) hx hb dX8_noRegion_27 (by decide) ?_
        refine lv_goto (tgt := 32) hx hb dX8_noRegion_28 (by decide) ?_
        cases h
        exact ret_i hx hb hr hlocks hP hD hS dX8_noRegion_32 rfl
    · replace h := it_some q2 h
      refine lv_iconst (v := 2) hx hb dX8_noRegion_13 (by decide) ?_
      refine lv_goto (tgt := 32) hx hb dX8_noRegion_14 (by decide) ?_
      cases h
      exact ret_i hx hb hr hlocks hP hD hS dX8_noRegion_32 rfl
  exact hmain _ _ hP hS
abbrev rm_X8_clips : Room := { frames := 2, cells := 0, slots := 0, locals := 41 }
def f_X8_clips_b51 (Z : Nat) (p1 : Int32) (rec : Int32 → Int32 → (Nat → Int32) → Option ((Nat → Int32))) (x2 : Int32) (x3 : Int32) (aS : Nat → Int32) : Option ((Nat → Int32)) :=
      if 60 ≤ x3 then
        some aS
      else
        rd 10 344 (
        if (aS (Int32.toNatClampNeg 10)) ≤ x3 then
          rd (20 + x3) 344 (kl (upd aS (Int32.toNatClampNeg (20 + x3)) 0) fun aS_5 =>
          kl (x3 + 1) fun x3_6 =>
          rec x2 x3_6 aS_5)
        else
          rd ((80 + x2) + x3) 344 (
          rd (20 + x3) 344 (kl (upd aS (Int32.toNatClampNeg (20 + x3)) (aS (Int32.toNatClampNeg ((80 + x2) + x3)))) fun aS_9 =>
          kl (x3 + 1) fun x3_10 =>
          rec x2 x3_10 aS_9)))
def f_X8_clips_l51 (Z : Nat) (p1 : Int32) : Nat → Int32 → Int32 → (Nat → Int32) → Option ((Nat → Int32))
  | 0, _, _, _ => none
  | n + 1, x2, x3, aS => f_X8_clips_b51 Z p1 (f_X8_clips_l51 Z p1 n) x2 x3 aS
def f_X8_clips (Z : Nat) (p1 : Int32) (aS : Nat → Int32) : Option ((Nat → Int32)) :=
  rd (12 + p1) 344 (
  rd 1 344 (
  if (aS (Int32.toNatClampNeg 1)) ≤ (aS (Int32.toNatClampNeg (12 + p1))) then
    rd 1 344 (
    kl (aS (Int32.toNatClampNeg 1)) fun x2_15 =>
    (f_X8_region Z p1 aS).bind fun r16 =>
    rd 10 344 (kl (upd aS (Int32.toNatClampNeg 10) r16) fun aS_18 =>
    f_X8_clips_l51 Z p1 Z x2_15 0 aS_18))
  else
    rd (12 + p1) 344 (
    kl (aS (Int32.toNatClampNeg (12 + p1))) fun x2_20 =>
    (f_X8_region Z p1 aS).bind fun r21 =>
    rd 10 344 (kl (upd aS (Int32.toNatClampNeg 10) r21) fun aS_23 =>
    f_X8_clips_l51 Z p1 Z x2_20 0 aS_23))))
set_option maxRecDepth 100000 in
set_option maxHeartbeats 4000000 in
theorem k_X8_clips (l : Launch) (D : va_G) (cI cS cL : ClassId) (Z : Nat) (h0 : Nat) (h1 : Nat) (h2 : Nat) (h3 : Nat) (h4 : Nat) (h5 : Nat) (p1 : Int32) (aTh : Int32) (aSm : Int32) (aLn : Int32) (aAt : Int32) (aWe : Int32) (aRm : Int32) (aBm : Int32) (aHa : Int64) (aS : Nat → Int32) (aSv : Nat → Int32) (aCm : Nat → Int32) (aRd : Nat → Int32) (aBy : Nat → Int32) {aS' : Nat → Int32} (h : f_X8_clips Z p1 aS = some aS') : CV l yX8_clips cX8_clips 4 none rm_X8_clips D cI cS cL [.ref h0, .int p1] (wX8 cI h0 h1 h2 h3 h4 h5 aTh aSm aLn aAt aWe aRm aBm aHa aS aSv aCm aRd aBy) (wX8 cI h0 h1 h2 h3 h4 h5 aTh aSm aLn aAt aWe aRm aBm aHa (aS') aSv aCm aRd aBy) := by
  refine ent_v (by decide +kernel) (Nat.le_of_ble_eq_true rfl) ?_
  intro p e s m args below meth c A ls hx hb hr hml hlocks hg hown hK hP hD hS hA hl
  have hown : s.vm.findClass RX8 = some m.cls := hown
  have c_51 : ∀ (n : Nat) (x2 : Int32) (x3 : Int32) (aS : Nat → Int32), f_X8_clips_l51 Z p1 n x2 x3 aS = some aS' → ∀ (H : Heap) (locs : List Loc), va_P D vwCl (wX8 cI h0 h1 h2 h3 h4 h5 aTh aSm aLn aAt aWe aRm aBm aHa aS aSv aCm aRd aBy) H → va_D A (wX8 cI h0 h1 h2 h3 h4 h5 aTh aSm aLn aAt aWe aRm aBm aHa aS aSv aCm aRd aBy) → va_S A s.heap H locs → ∀ ls : Array Slot, lv_has ls 4 [(0, .ref h0), (2, .int x2), (3, .int x3)] → W p l e rm_X8_clips s m args below meth c H locs 0 0 (FV D below args s (wX8 cI h0 h1 h2 h3 h4 h5 aTh aSm aLn aAt aWe aRm aBm aHa (aS') aSv aCm aRd aBy) A) (F0 m 51 ls []) := by
    intro n
    induction n with
    | zero => intro x2 x3 aS h; exact no_some h
    | succ n ih =>
      intro x2 x3 aS h H locs hP hD hS ls hl
      have h : f_X8_clips_b51 Z p1 (f_X8_clips_l51 Z p1 n) x2 x3 aS = some aS' := h
      unfold f_X8_clips_b51 at h
      refine lv_iload_n hx hb dX8_clips_51 rfl (lv_at hl 2 rfl) ?_
      refine lv_bipush (v := 60) hx hb dX8_clips_52 (by decide) ?_
      refine lv_icmp_ge (tgt := 98) hx hb dX8_clips_54 (by decide) (fun q1 => ?_) (fun q1 => ?_)
      · replace h := it_some q1 h
        cases h
        exact ret_v hx hb hr hlocks hP hD hS dX8_clips_98
      · replace h := if_some q1 h
        refine lv_aload_n hx hb dX8_clips_57 rfl (lv_at hl 0 rfl) ?_
        refine va_get (D := D) (ci := 8) (v := .ref h1) (C := RX8) (T := TX8) (N := 13) hx hb hg uX8 hown hK.1 hP 0 rfl rfl 1 (by decide) (hg _ gw_941) (fun _ h9 => h9) rfl dX8_clips_58 ?_
        refine lv_bipush (v := 20) hx hb dX8_clips_61 (by decide) ?_
        refine lv_iload_n hx hb dX8_clips_63 rfl (lv_at hl 2 rfl) ?_
        refine lv_iadd hx hb dX8_clips_64 ?_
        refine lv_iload_n hx hb dX8_clips_65 rfl (lv_at hl 2 rfl) ?_
        refine lv_aload_n hx hb dX8_clips_66 rfl (lv_at hl 0 rfl) ?_
        refine va_get (D := D) (ci := 8) (v := .ref h1) (C := RX8) (T := TX8) (N := 13) hx hb hg uX8 hown hK.1 hP 0 rfl rfl 1 (by decide) (hg _ gw_941) (fun _ h9 => h9) rfl dX8_clips_67 ?_
        refine lv_bipush (v := 10) hx hb dX8_clips_70 (by decide) ?_
        obtain ⟨v2, h⟩ := rd_some h
        refine va_iald hx hb hK.1 hP 1 0 rfl rfl v2 dX8_clips_72 ?_
        refine lv_icmp_ge (tgt := 90) hx hb dX8_clips_73 (by decide) (fun q3 => ?_) (fun q3 => ?_)
        · replace h := it_some q3 h
          refine lv_iconst (v := 0) hx hb dX8_clips_90 (by decide) ?_
          obtain ⟨v4, h⟩ := rd_some h
          obtain ⟨aS_5, eaS_5, h⟩ := kl_some h
          refine va_iast hx hb hK.1 hP hD hS 1 0 rfl rfl v4 dX8_clips_91 (fun H locs hP hD hS => ?_)
          have hP : va_P D vwCl (wX8 cI h0 h1 h2 h3 h4 h5 aTh aSm aLn aAt aWe aRm aBm aHa aS_5 aSv aCm aRd aBy) H := by rw [eaS_5]; exact hP
          have hD : va_D A (wX8 cI h0 h1 h2 h3 h4 h5 aTh aSm aLn aAt aWe aRm aBm aHa aS_5 aSv aCm aRd aBy) := by rw [eaS_5]; exact hD
          obtain ⟨x3_6, ex3_6, h⟩ := kl_some h
          refine lv_iinc (v := x3_6) (lv' := [(3, .int x3_6), (0, .ref h0), (2, .int x2)]) hx hb dX8_clips_92 hl (k := 2) rfl (by rw [ex3_6]; rfl) (by decide) rfl (fun ls hl => ?_)
          refine lv_goto (tgt := 51) hx hb dX8_clips_95 (by decide) ?_
          exact ih x2 x3_6 aS_5 h H locs hP hD hS ls (lv_sub hl [1, 2, 0] rfl)
        · replace h := if_some q3 h
          refine lv_aload_n hx hb dX8_clips_76 rfl (lv_at hl 0 rfl) ?_
          refine va_get (D := D) (ci := 8) (v := .ref h1) (C := RX8) (T := TX8) (N := 13) hx hb hg uX8 hown hK.1 hP 0 rfl rfl 1 (by decide) (hg _ gw_941) (fun _ h9 => h9) rfl dX8_clips_77 ?_
          refine lv_bipush (v := 80) hx hb dX8_clips_80 (by decide) ?_
          refine lv_iload_n hx hb dX8_clips_82 rfl (lv_at hl 1 rfl) ?_
          refine lv_iadd hx hb dX8_clips_83 ?_
          refine lv_iload_n hx hb dX8_clips_84 rfl (lv_at hl 2 rfl) ?_
          refine lv_iadd hx hb dX8_clips_85 ?_
          obtain ⟨v7, h⟩ := rd_some h
          refine va_iald hx hb hK.1 hP 1 0 rfl rfl v7 dX8_clips_86 ?_
          refine lv_goto (tgt := 91) hx hb dX8_clips_87 (by decide) ?_
          obtain ⟨v8, h⟩ := rd_some h
          obtain ⟨aS_9, eaS_9, h⟩ := kl_some h
          refine va_iast hx hb hK.1 hP hD hS 1 0 rfl rfl v8 dX8_clips_91 (fun H locs hP hD hS => ?_)
          have hP : va_P D vwCl (wX8 cI h0 h1 h2 h3 h4 h5 aTh aSm aLn aAt aWe aRm aBm aHa aS_9 aSv aCm aRd aBy) H := by rw [eaS_9]; exact hP
          have hD : va_D A (wX8 cI h0 h1 h2 h3 h4 h5 aTh aSm aLn aAt aWe aRm aBm aHa aS_9 aSv aCm aRd aBy) := by rw [eaS_9]; exact hD
          obtain ⟨x3_10, ex3_10, h⟩ := kl_some h
          refine lv_iinc (v := x3_10) (lv' := [(3, .int x3_10), (0, .ref h0), (2, .int x2)]) hx hb dX8_clips_92 hl (k := 2) rfl (by rw [ex3_10]; rfl) (by decide) rfl (fun ls hl => ?_)
          refine lv_goto (tgt := 51) hx hb dX8_clips_95 (by decide) ?_
          exact ih x2 x3_10 aS_9 h H locs hP hD hS ls (lv_sub hl [1, 2, 0] rfl)
  have hl : lv_has ls 4 [(0, .ref h0), (1, .int p1)] := hl
  have hP : va_P D vwCl (wX8 cI h0 h1 h2 h3 h4 h5 aTh aSm aLn aAt aWe aRm aBm aHa aS aSv aCm aRd aBy) s.heap := hP
  have hD : va_D A (wX8 cI h0 h1 h2 h3 h4 h5 aTh aSm aLn aAt aWe aRm aBm aHa aS aSv aCm aRd aBy) := hD
  show W p l e rm_X8_clips s m args below meth c s.heap [] 0 0 (FV D below args s (wX8 cI h0 h1 h2 h3 h4 h5 aTh aSm aLn aAt aWe aRm aBm aHa (aS') aSv aCm aRd aBy) A) (F0 m 0 ls [])
  unfold f_X8_clips at h
  have hmain : ∀ (H : Heap) (locs : List Loc), va_P D vwCl (wX8 cI h0 h1 h2 h3 h4 h5 aTh aSm aLn aAt aWe aRm aBm aHa aS aSv aCm aRd aBy) H → va_S A s.heap H locs → W p l e rm_X8_clips s m args below meth c H locs 0 0 (FV D below args s (wX8 cI h0 h1 h2 h3 h4 h5 aTh aSm aLn aAt aWe aRm aBm aHa (aS') aSv aCm aRd aBy) A) (F0 m 0 ls []) := by
    intro H locs hP hS
    refine lv_aload_n hx hb dX8_clips_0 rfl (lv_at hl 0 rfl) ?_
    refine va_get (D := D) (ci := 8) (v := .ref h1) (C := RX8) (T := TX8) (N := 13) hx hb hg uX8 hown hK.1 hP 0 rfl rfl 1 (by decide) (hg _ gw_941) (fun _ h9 => h9) rfl dX8_clips_1 ?_
    refine lv_bipush (v := 12) hx hb dX8_clips_4 (by decide) ?_
    refine lv_iload_n hx hb dX8_clips_6 rfl (lv_at hl 1 rfl) ?_
    refine lv_iadd hx hb dX8_clips_7 ?_
    obtain ⟨v11, h⟩ := rd_some h
    refine va_iald hx hb hK.1 hP 1 0 rfl rfl v11 dX8_clips_8 ?_
    refine lv_aload_n hx hb dX8_clips_9 rfl (lv_at hl 0 rfl) ?_
    refine va_get (D := D) (ci := 8) (v := .ref h1) (C := RX8) (T := TX8) (N := 13) hx hb hg uX8 hown hK.1 hP 0 rfl rfl 1 (by decide) (hg _ gw_941) (fun _ h9 => h9) rfl dX8_clips_10 ?_
    refine lv_iconst (v := 1) hx hb dX8_clips_13 (by decide) ?_
    obtain ⟨v12, h⟩ := rd_some h
    refine va_iald hx hb hK.1 hP 1 0 rfl rfl v12 dX8_clips_14 ?_
    refine lv_icmp_ge (tgt := 30) hx hb dX8_clips_15 (by decide) (fun q13 => ?_) (fun q13 => ?_)
    · replace h := it_some q13 h
      refine lv_aload_n hx hb dX8_clips_30 rfl (lv_at hl 0 rfl) ?_
      refine va_get (D := D) (ci := 8) (v := .ref h1) (C := RX8) (T := TX8) (N := 13) hx hb hg uX8 hown hK.1 hP 0 rfl rfl 1 (by decide) (hg _ gw_941) (fun _ h9 => h9) rfl dX8_clips_31 ?_
      refine lv_iconst (v := 1) hx hb dX8_clips_34 (by decide) ?_
      obtain ⟨v14, h⟩ := rd_some h
      refine va_iald hx hb hK.1 hP 1 0 rfl rfl v14 dX8_clips_35 ?_
      obtain ⟨x2_15, ex2_15, h⟩ := kl_some h
      refine nm_i ex2_15 ?_
      refine lv_istore_n (lv' := [(2, .int x2_15), (0, .ref h0), (1, .int p1)]) hx hb dX8_clips_36 rfl hl (by decide) rfl (fun ls hl => ?_)
      refine lv_aload_n hx hb dX8_clips_37 rfl (lv_at hl 1 rfl) ?_
      refine va_get (D := D) (ci := 8) (v := .ref h1) (C := RX8) (T := TX8) (N := 13) hx hb hg uX8 hown hK.1 hP 0 rfl rfl 1 (by decide) (hg _ gw_941) (fun _ h9 => h9) rfl dX8_clips_38 ?_
      refine lv_bipush (v := 10) hx hb dX8_clips_41 (by decide) ?_
      refine lv_aload_n hx hb dX8_clips_43 rfl (lv_at hl 1 rfl) ?_
      refine lv_iload_n hx hb dX8_clips_44 rfl (lv_at hl 2 rfl) ?_
      obtain ⟨r16, ec16, h⟩ := bd_some h
      refine cV_i (As := [.int p1]) (rest := [.int 10, .ref h1]) (wc := (wX8 cI h0 h1 h2 h3 h4 h5 aTh aSm aLn aAt aWe aRm aBm aHa aS aSv aCm aRd aBy)) (wc' := (wX8 cI h0 h1 h2 h3 h4 h5 aTh aSm aLn aAt aWe aRm aBm aHa aS aSv aCm aRd aBy)) hx hb hml hown hg hK hP hD hS hA hl.1 (k_X8_region l D cI cS cL Z h0 h1 h2 h3 h4 h5 p1 aTh aSm aLn aAt aWe aRm aBm aHa aS aSv aCm aRd aBy ec16) gm_X8_region gw_1120 ⟨rfl, rfl, by decide, by decide⟩ ⟨Nat.zero_le _, Nat.zero_le _⟩ [0, 1, 2, 3, 4, 5] rfl rfl rfl rfl rfl rfl rfl rfl (Nat.le_of_ble_eq_true rfl) dX8_clips_45 (fun H locs hP hD hS => ?_)
      have hP : va_P D vwCl (wX8 cI h0 h1 h2 h3 h4 h5 aTh aSm aLn aAt aWe aRm aBm aHa aS aSv aCm aRd aBy) H := hP
      have hD : va_D A (wX8 cI h0 h1 h2 h3 h4 h5 aTh aSm aLn aAt aWe aRm aBm aHa aS aSv aCm aRd aBy) := hD
      obtain ⟨v17, h⟩ := rd_some h
      obtain ⟨aS_18, eaS_18, h⟩ := kl_some h
      refine va_iast hx hb hK.1 hP hD hS 1 0 rfl rfl v17 dX8_clips_48 (fun H locs hP hD hS => ?_)
      have hP : va_P D vwCl (wX8 cI h0 h1 h2 h3 h4 h5 aTh aSm aLn aAt aWe aRm aBm aHa aS_18 aSv aCm aRd aBy) H := by rw [eaS_18]; exact hP
      have hD : va_D A (wX8 cI h0 h1 h2 h3 h4 h5 aTh aSm aLn aAt aWe aRm aBm aHa aS_18 aSv aCm aRd aBy) := by rw [eaS_18]; exact hD
      refine lv_iconst (v := 0) hx hb dX8_clips_49 (by decide) ?_
      refine lv_istore_n (lv' := [(3, .int 0), (2, .int x2_15), (0, .ref h0), (1, .int p1)]) hx hb dX8_clips_50 rfl hl (by decide) rfl (fun ls hl => ?_)
      exact c_51 Z x2_15 0 aS_18 h H locs hP hD hS ls (lv_sub hl [2, 1, 0] rfl)
    · replace h := if_some q13 h
      refine lv_aload_n hx hb dX8_clips_18 rfl (lv_at hl 0 rfl) ?_
      refine va_get (D := D) (ci := 8) (v := .ref h1) (C := RX8) (T := TX8) (N := 13) hx hb hg uX8 hown hK.1 hP 0 rfl rfl 1 (by decide) (hg _ gw_941) (fun _ h9 => h9) rfl dX8_clips_19 ?_
      refine lv_bipush (v := 12) hx hb dX8_clips_22 (by decide) ?_
      refine lv_iload_n hx hb dX8_clips_24 rfl (lv_at hl 1 rfl) ?_
      refine lv_iadd hx hb dX8_clips_25 ?_
      obtain ⟨v19, h⟩ := rd_some h
      refine va_iald hx hb hK.1 hP 1 0 rfl rfl v19 dX8_clips_26 ?_
      refine lv_goto (tgt := 36) hx hb dX8_clips_27 (by decide) ?_
      obtain ⟨x2_20, ex2_20, h⟩ := kl_some h
      refine nm_i ex2_20 ?_
      refine lv_istore_n (lv' := [(2, .int x2_20), (0, .ref h0), (1, .int p1)]) hx hb dX8_clips_36 rfl hl (by decide) rfl (fun ls hl => ?_)
      refine lv_aload_n hx hb dX8_clips_37 rfl (lv_at hl 1 rfl) ?_
      refine va_get (D := D) (ci := 8) (v := .ref h1) (C := RX8) (T := TX8) (N := 13) hx hb hg uX8 hown hK.1 hP 0 rfl rfl 1 (by decide) (hg _ gw_941) (fun _ h9 => h9) rfl dX8_clips_38 ?_
      refine lv_bipush (v := 10) hx hb dX8_clips_41 (by decide) ?_
      refine lv_aload_n hx hb dX8_clips_43 rfl (lv_at hl 1 rfl) ?_
      refine lv_iload_n hx hb dX8_clips_44 rfl (lv_at hl 2 rfl) ?_
      obtain ⟨r21, ec21, h⟩ := bd_some h
      refine cV_i (As := [.int p1]) (rest := [.int 10, .ref h1]) (wc := (wX8 cI h0 h1 h2 h3 h4 h5 aTh aSm aLn aAt aWe aRm aBm aHa aS aSv aCm aRd aBy)) (wc' := (wX8 cI h0 h1 h2 h3 h4 h5 aTh aSm aLn aAt aWe aRm aBm aHa aS aSv aCm aRd aBy)) hx hb hml hown hg hK hP hD hS hA hl.1 (k_X8_region l D cI cS cL Z h0 h1 h2 h3 h4 h5 p1 aTh aSm aLn aAt aWe aRm aBm aHa aS aSv aCm aRd aBy ec21) gm_X8_region gw_1120 ⟨rfl, rfl, by decide, by decide⟩ ⟨Nat.zero_le _, Nat.zero_le _⟩ [0, 1, 2, 3, 4, 5] rfl rfl rfl rfl rfl rfl rfl rfl (Nat.le_of_ble_eq_true rfl) dX8_clips_45 (fun H locs hP hD hS => ?_)
      have hP : va_P D vwCl (wX8 cI h0 h1 h2 h3 h4 h5 aTh aSm aLn aAt aWe aRm aBm aHa aS aSv aCm aRd aBy) H := hP
      have hD : va_D A (wX8 cI h0 h1 h2 h3 h4 h5 aTh aSm aLn aAt aWe aRm aBm aHa aS aSv aCm aRd aBy) := hD
      obtain ⟨v22, h⟩ := rd_some h
      obtain ⟨aS_23, eaS_23, h⟩ := kl_some h
      refine va_iast hx hb hK.1 hP hD hS 1 0 rfl rfl v22 dX8_clips_48 (fun H locs hP hD hS => ?_)
      have hP : va_P D vwCl (wX8 cI h0 h1 h2 h3 h4 h5 aTh aSm aLn aAt aWe aRm aBm aHa aS_23 aSv aCm aRd aBy) H := by rw [eaS_23]; exact hP
      have hD : va_D A (wX8 cI h0 h1 h2 h3 h4 h5 aTh aSm aLn aAt aWe aRm aBm aHa aS_23 aSv aCm aRd aBy) := by rw [eaS_23]; exact hD
      refine lv_iconst (v := 0) hx hb dX8_clips_49 (by decide) ?_
      refine lv_istore_n (lv' := [(3, .int 0), (2, .int x2_20), (0, .ref h0), (1, .int p1)]) hx hb dX8_clips_50 rfl hl (by decide) rfl (fun ls hl => ?_)
      exact c_51 Z x2_20 0 aS_23 h H locs hP hD hS ls (lv_sub hl [2, 1, 0] rfl)
  exact hmain _ _ hP hS
abbrev rm_X8_cuts : Room := { frames := 4, cells := 0, slots := 0, locals := 88 }
def f_X8_cuts (Z : Nat) (p1 : Int32) (aS : Nat → Int32) : Option ((Nat → Int32)) :=
  (f_X8_clips Z p1 aS).bind fun aS_1 =>
  rd (12 + p1) 344 (
  rd 1 344 (
  if (aS_1 (Int32.toNatClampNeg 1)) ≤ (aS_1 (Int32.toNatClampNeg (12 + p1))) then
    rd 1 344 (
    rd 10 344 (
    (f_X8_deletes Z (aS_1 (Int32.toNatClampNeg 1)) (aS_1 (Int32.toNatClampNeg 10)) aS_1).bind fun aS_7 =>
    some aS_7))
  else
    rd (12 + p1) 344 (
    rd 10 344 (
    (f_X8_deletes Z (aS_1 (Int32.toNatClampNeg (12 + p1))) (aS_1 (Int32.toNatClampNeg 10)) aS_1).bind fun aS_10 =>
    some aS_10))))
set_option maxRecDepth 100000 in
set_option maxHeartbeats 4000000 in
theorem k_X8_cuts (l : Launch) (D : va_G) (cI cS cL : ClassId) (Z : Nat) (h0 : Nat) (h1 : Nat) (h2 : Nat) (h3 : Nat) (h4 : Nat) (h5 : Nat) (p1 : Int32) (aTh : Int32) (aSm : Int32) (aLn : Int32) (aAt : Int32) (aWe : Int32) (aRm : Int32) (aBm : Int32) (aHa : Int64) (aS : Nat → Int32) (aSv : Nat → Int32) (aCm : Nat → Int32) (aRd : Nat → Int32) (aBy : Nat → Int32) {aS' : Nat → Int32} (h : f_X8_cuts Z p1 aS = some aS') : CV l yX8_cuts cX8_cuts 2 none rm_X8_cuts D cI cS cL [.ref h0, .int p1] (wX8 cI h0 h1 h2 h3 h4 h5 aTh aSm aLn aAt aWe aRm aBm aHa aS aSv aCm aRd aBy) (wX8 cI h0 h1 h2 h3 h4 h5 aTh aSm aLn aAt aWe aRm aBm aHa (aS') aSv aCm aRd aBy) := by
  refine ent_v (by decide +kernel) (Nat.le_of_ble_eq_true rfl) ?_
  intro p e s m args below meth c A ls hx hb hr hml hlocks hg hown hK hP hD hS hA hl
  have hown : s.vm.findClass RX8 = some m.cls := hown
  have hl : lv_has ls 2 [(0, .ref h0), (1, .int p1)] := hl
  have hP : va_P D vwCl (wX8 cI h0 h1 h2 h3 h4 h5 aTh aSm aLn aAt aWe aRm aBm aHa aS aSv aCm aRd aBy) s.heap := hP
  have hD : va_D A (wX8 cI h0 h1 h2 h3 h4 h5 aTh aSm aLn aAt aWe aRm aBm aHa aS aSv aCm aRd aBy) := hD
  show W p l e rm_X8_cuts s m args below meth c s.heap [] 0 0 (FV D below args s (wX8 cI h0 h1 h2 h3 h4 h5 aTh aSm aLn aAt aWe aRm aBm aHa (aS') aSv aCm aRd aBy) A) (F0 m 0 ls [])
  unfold f_X8_cuts at h
  have hmain : ∀ (H : Heap) (locs : List Loc), va_P D vwCl (wX8 cI h0 h1 h2 h3 h4 h5 aTh aSm aLn aAt aWe aRm aBm aHa aS aSv aCm aRd aBy) H → va_S A s.heap H locs → W p l e rm_X8_cuts s m args below meth c H locs 0 0 (FV D below args s (wX8 cI h0 h1 h2 h3 h4 h5 aTh aSm aLn aAt aWe aRm aBm aHa (aS') aSv aCm aRd aBy) A) (F0 m 0 ls []) := by
    intro H locs hP hS
    refine lv_aload_n hx hb dX8_cuts_0 rfl (lv_at hl 0 rfl) ?_
    refine lv_iload_n hx hb dX8_cuts_1 rfl (lv_at hl 1 rfl) ?_
    obtain ⟨aS_1, ec1, h⟩ := bd_some h
    refine cV_v (As := [.int p1]) (rest := []) (wc := (wX8 cI h0 h1 h2 h3 h4 h5 aTh aSm aLn aAt aWe aRm aBm aHa aS aSv aCm aRd aBy)) (wc' := (wX8 cI h0 h1 h2 h3 h4 h5 aTh aSm aLn aAt aWe aRm aBm aHa aS_1 aSv aCm aRd aBy)) hx hb hml hown hg hK hP hD hS hA hl.1 (k_X8_clips l D cI cS cL Z h0 h1 h2 h3 h4 h5 p1 aTh aSm aLn aAt aWe aRm aBm aHa aS aSv aCm aRd aBy ec1) gm_X8_clips gw_1124 ⟨rfl, rfl, by decide, by decide⟩ ⟨Nat.zero_le _, Nat.zero_le _⟩ [0, 1, 2, 3, 4, 5] rfl rfl rfl rfl rfl rfl rfl rfl (Nat.le_of_ble_eq_true rfl) dX8_cuts_2 (fun H locs hP hD hS => ?_)
    have hP : va_P D vwCl (wX8 cI h0 h1 h2 h3 h4 h5 aTh aSm aLn aAt aWe aRm aBm aHa aS_1 aSv aCm aRd aBy) H := hP
    have hD : va_D A (wX8 cI h0 h1 h2 h3 h4 h5 aTh aSm aLn aAt aWe aRm aBm aHa aS_1 aSv aCm aRd aBy) := hD
    refine lv_aload_n hx hb dX8_cuts_5 rfl (lv_at hl 0 rfl) ?_
    refine lv_aload_n hx hb dX8_cuts_6 rfl (lv_at hl 0 rfl) ?_
    refine va_get (D := D) (ci := 8) (v := .ref h1) (C := RX8) (T := TX8) (N := 13) hx hb hg uX8 hown hK.1 hP 0 rfl rfl 1 (by decide) (hg _ gw_941) (fun _ h9 => h9) rfl dX8_cuts_7 ?_
    refine lv_bipush (v := 12) hx hb dX8_cuts_10 (by decide) ?_
    refine lv_iload_n hx hb dX8_cuts_12 rfl (lv_at hl 1 rfl) ?_
    refine lv_iadd hx hb dX8_cuts_13 ?_
    obtain ⟨v2, h⟩ := rd_some h
    refine va_iald hx hb hK.1 hP 1 0 rfl rfl v2 dX8_cuts_14 ?_
    refine lv_aload_n hx hb dX8_cuts_15 rfl (lv_at hl 0 rfl) ?_
    refine va_get (D := D) (ci := 8) (v := .ref h1) (C := RX8) (T := TX8) (N := 13) hx hb hg uX8 hown hK.1 hP 0 rfl rfl 1 (by decide) (hg _ gw_941) (fun _ h9 => h9) rfl dX8_cuts_16 ?_
    refine lv_iconst (v := 1) hx hb dX8_cuts_19 (by decide) ?_
    obtain ⟨v3, h⟩ := rd_some h
    refine va_iald hx hb hK.1 hP 1 0 rfl rfl v3 dX8_cuts_20 ?_
    refine lv_icmp_ge (tgt := 36) hx hb dX8_cuts_21 (by decide) (fun q4 => ?_) (fun q4 => ?_)
    · replace h := it_some q4 h
      refine lv_aload_n hx hb dX8_cuts_36 rfl (lv_at hl 0 rfl) ?_
      refine va_get (D := D) (ci := 8) (v := .ref h1) (C := RX8) (T := TX8) (N := 13) hx hb hg uX8 hown hK.1 hP 0 rfl rfl 1 (by decide) (hg _ gw_941) (fun _ h9 => h9) rfl dX8_cuts_37 ?_
      refine lv_iconst (v := 1) hx hb dX8_cuts_40 (by decide) ?_
      obtain ⟨v5, h⟩ := rd_some h
      refine va_iald hx hb hK.1 hP 1 0 rfl rfl v5 dX8_cuts_41 ?_
      refine lv_aload_n hx hb dX8_cuts_42 rfl (lv_at hl 0 rfl) ?_
      refine va_get (D := D) (ci := 8) (v := .ref h1) (C := RX8) (T := TX8) (N := 13) hx hb hg uX8 hown hK.1 hP 0 rfl rfl 1 (by decide) (hg _ gw_941) (fun _ h9 => h9) rfl dX8_cuts_43 ?_
      refine lv_bipush (v := 10) hx hb dX8_cuts_46 (by decide) ?_
      obtain ⟨v6, h⟩ := rd_some h
      refine va_iald hx hb hK.1 hP 1 0 rfl rfl v6 dX8_cuts_48 ?_
      obtain ⟨aS_7, ec7, h⟩ := bd_some h
      refine cV_v (As := [.int (aS_1 (Int32.toNatClampNeg 1)), .int (aS_1 (Int32.toNatClampNeg 10))]) (rest := []) (wc := (wX8 cI h0 h1 h2 h3 h4 h5 aTh aSm aLn aAt aWe aRm aBm aHa aS_1 aSv aCm aRd aBy)) (wc' := (wX8 cI h0 h1 h2 h3 h4 h5 aTh aSm aLn aAt aWe aRm aBm aHa aS_7 aSv aCm aRd aBy)) hx hb hml hown hg hK hP hD hS hA hl.1 (k_X8_deletes l D cI cS cL Z h0 h1 h2 h3 h4 h5 (aS_1 (Int32.toNatClampNeg 1)) (aS_1 (Int32.toNatClampNeg 10)) aTh aSm aLn aAt aWe aRm aBm aHa aS_1 aSv aCm aRd aBy ec7) gm_X8_deletes gw_1049 ⟨rfl, rfl, by decide, by decide⟩ ⟨Nat.zero_le _, Nat.zero_le _⟩ [0, 1, 2, 3, 4, 5] rfl rfl rfl rfl rfl rfl rfl rfl (Nat.le_of_ble_eq_true rfl) dX8_cuts_49 (fun H locs hP hD hS => ?_)
      have hP : va_P D vwCl (wX8 cI h0 h1 h2 h3 h4 h5 aTh aSm aLn aAt aWe aRm aBm aHa aS_7 aSv aCm aRd aBy) H := hP
      have hD : va_D A (wX8 cI h0 h1 h2 h3 h4 h5 aTh aSm aLn aAt aWe aRm aBm aHa aS_7 aSv aCm aRd aBy) := hD
      cases h
      exact ret_v hx hb hr hlocks hP hD hS dX8_cuts_52
    · replace h := if_some q4 h
      refine lv_aload_n hx hb dX8_cuts_24 rfl (lv_at hl 0 rfl) ?_
      refine va_get (D := D) (ci := 8) (v := .ref h1) (C := RX8) (T := TX8) (N := 13) hx hb hg uX8 hown hK.1 hP 0 rfl rfl 1 (by decide) (hg _ gw_941) (fun _ h9 => h9) rfl dX8_cuts_25 ?_
      refine lv_bipush (v := 12) hx hb dX8_cuts_28 (by decide) ?_
      refine lv_iload_n hx hb dX8_cuts_30 rfl (lv_at hl 1 rfl) ?_
      refine lv_iadd hx hb dX8_cuts_31 ?_
      obtain ⟨v8, h⟩ := rd_some h
      refine va_iald hx hb hK.1 hP 1 0 rfl rfl v8 dX8_cuts_32 ?_
      refine lv_goto (tgt := 42) hx hb dX8_cuts_33 (by decide) ?_
      refine lv_aload_n hx hb dX8_cuts_42 rfl (lv_at hl 0 rfl) ?_
      refine va_get (D := D) (ci := 8) (v := .ref h1) (C := RX8) (T := TX8) (N := 13) hx hb hg uX8 hown hK.1 hP 0 rfl rfl 1 (by decide) (hg _ gw_941) (fun _ h9 => h9) rfl dX8_cuts_43 ?_
      refine lv_bipush (v := 10) hx hb dX8_cuts_46 (by decide) ?_
      obtain ⟨v9, h⟩ := rd_some h
      refine va_iald hx hb hK.1 hP 1 0 rfl rfl v9 dX8_cuts_48 ?_
      obtain ⟨aS_10, ec10, h⟩ := bd_some h
      refine cV_v (As := [.int (aS_1 (Int32.toNatClampNeg (12 + p1))), .int (aS_1 (Int32.toNatClampNeg 10))]) (rest := []) (wc := (wX8 cI h0 h1 h2 h3 h4 h5 aTh aSm aLn aAt aWe aRm aBm aHa aS_1 aSv aCm aRd aBy)) (wc' := (wX8 cI h0 h1 h2 h3 h4 h5 aTh aSm aLn aAt aWe aRm aBm aHa aS_10 aSv aCm aRd aBy)) hx hb hml hown hg hK hP hD hS hA hl.1 (k_X8_deletes l D cI cS cL Z h0 h1 h2 h3 h4 h5 (aS_1 (Int32.toNatClampNeg (12 + p1))) (aS_1 (Int32.toNatClampNeg 10)) aTh aSm aLn aAt aWe aRm aBm aHa aS_1 aSv aCm aRd aBy ec10) gm_X8_deletes gw_1049 ⟨rfl, rfl, by decide, by decide⟩ ⟨Nat.zero_le _, Nat.zero_le _⟩ [0, 1, 2, 3, 4, 5] rfl rfl rfl rfl rfl rfl rfl rfl (Nat.le_of_ble_eq_true rfl) dX8_cuts_49 (fun H locs hP hD hS => ?_)
      have hP : va_P D vwCl (wX8 cI h0 h1 h2 h3 h4 h5 aTh aSm aLn aAt aWe aRm aBm aHa aS_10 aSv aCm aRd aBy) H := hP
      have hD : va_D A (wX8 cI h0 h1 h2 h3 h4 h5 aTh aSm aLn aAt aWe aRm aBm aHa aS_10 aSv aCm aRd aBy) := hD
      cases h
      exact ret_v hx hb hr hlocks hP hD hS dX8_cuts_52
  exact hmain _ _ hP hS
abbrev rm_X8_copy : Room := { frames := 3, cells := 0, slots := 0, locals := 64 }
def f_X8_copy (Z : Nat) (p1 : Int32) (aTh : Int32) (aSm : Int32) (aS : Nat → Int32) (aSv : Nat → Int32) : Option (Int32 × Int32 × Int32 × (Nat → Int32) × (Nat → Int32)) :=
  (f_X8_isMark Z p1).bind fun r1 =>
  if r1 = 0 then
    (f_X8_fails Z 1 (0)).bind fun (r9, aTh_9) =>
    some (r9, aTh_9, aSm, aS, aSv)
  else
    (f_X8_noRegion Z p1 aS).bind fun r3 =>
    if r3 = 0 then
      (f_X8_saves Z aSm aS aSv).bind fun (aSm_5, aSv_5) =>
      (f_X8_clips Z p1 aS).bind fun aS_6 =>
      rd 10 344 (
      some (aS_6 (Int32.toNatClampNeg 10), (0), aSm_5, aS_6, aSv_5))
    else
      (f_X8_fails Z 2 (0)).bind fun (r8, aTh_8) =>
      some (r8, aTh_8, aSm, aS, aSv)
set_option maxRecDepth 100000 in
set_option maxHeartbeats 4000000 in
theorem k_X8_copy (l : Launch) (D : va_G) (cI cS cL : ClassId) (Z : Nat) (h0 : Nat) (h1 : Nat) (h2 : Nat) (h3 : Nat) (h4 : Nat) (h5 : Nat) (p1 : Int32) (aTh : Int32) (aSm : Int32) (aLn : Int32) (aAt : Int32) (aWe : Int32) (aRm : Int32) (aBm : Int32) (aHa : Int64) (aS : Nat → Int32) (aSv : Nat → Int32) (aCm : Nat → Int32) (aRd : Nat → Int32) (aBy : Nat → Int32) {r : Int32} {aTh' : Int32} {aSm' : Int32} {aS' : Nat → Int32} {aSv' : Nat → Int32} (h : f_X8_copy Z p1 aTh aSm aS aSv = some (r, aTh', aSm', aS', aSv')) : CI l yX8_copy cX8_copy 2 (some .int) rm_X8_copy D cI cS cL [.ref h0, .int p1] (wX8 cI h0 h1 h2 h3 h4 h5 aTh aSm aLn aAt aWe aRm aBm aHa aS aSv aCm aRd aBy) (wX8 cI h0 h1 h2 h3 h4 h5 (aTh') (aSm') aLn aAt aWe aRm aBm aHa (aS') (aSv') aCm aRd aBy) r := by
  refine ent_i (by decide +kernel) (Nat.le_of_ble_eq_true rfl) ?_
  intro p e s m args below meth c A ls hx hb hr hml hlocks hg hown hK hP hD hS hA hl
  have hown : s.vm.findClass RX8 = some m.cls := hown
  have hl : lv_has ls 2 [(0, .ref h0), (1, .int p1)] := hl
  have hP : va_P D vwCl (wX8 cI h0 h1 h2 h3 h4 h5 aTh aSm aLn aAt aWe aRm aBm aHa aS aSv aCm aRd aBy) s.heap := hP
  have hD : va_D A (wX8 cI h0 h1 h2 h3 h4 h5 aTh aSm aLn aAt aWe aRm aBm aHa aS aSv aCm aRd aBy) := hD
  show W p l e rm_X8_copy s m args below meth c s.heap [] 0 0 (FI D below args s (wX8 cI h0 h1 h2 h3 h4 h5 (aTh') (aSm') aLn aAt aWe aRm aBm aHa (aS') (aSv') aCm aRd aBy) r A) (F0 m 0 ls [])
  unfold f_X8_copy at h
  have hmain : ∀ (H : Heap) (locs : List Loc), va_P D vwCl (wX8 cI h0 h1 h2 h3 h4 h5 aTh aSm aLn aAt aWe aRm aBm aHa aS aSv aCm aRd aBy) H → va_S A s.heap H locs → W p l e rm_X8_copy s m args below meth c H locs 0 0 (FI D below args s (wX8 cI h0 h1 h2 h3 h4 h5 (aTh') (aSm') aLn aAt aWe aRm aBm aHa (aS') (aSv') aCm aRd aBy) r A) (F0 m 0 ls []) := by
    intro H locs hP hS
    refine lv_aload_n hx hb dX8_copy_0 rfl (lv_at hl 0 rfl) ?_
    refine lv_iconst (v := 0) hx hb dX8_copy_1 (by decide) ?_
    refine va_put (D := D) (ci := 8) (v := .int 0) (ty := tyX8 0) (C := RX8) (T := TX8) (N := 13) hx hb hg uX8 tyX8 tyX8_ok nmX8 hown hK.1 hP hD hS 0 rfl rfl 0 (by decide) (hg _ gw_940) (fun _ h9 => h9) rfl (tyX8_ok 0 (by decide)) rfl rfl (Nat.le_of_ble_eq_true rfl) dX8_copy_2 (fun H locs hP hD hS => ?_)
    have hP : va_P D vwCl (wX8 cI h0 h1 h2 h3 h4 h5 (0) aSm aLn aAt aWe aRm aBm aHa aS aSv aCm aRd aBy) H := hP
    have hD : va_D A (wX8 cI h0 h1 h2 h3 h4 h5 (0) aSm aLn aAt aWe aRm aBm aHa aS aSv aCm aRd aBy) := hD
    refine lv_iload_n hx hb dX8_copy_5 rfl (lv_at hl 1 rfl) ?_
    obtain ⟨r1, ec1, h⟩ := bd_some h
    refine cS_i (As := [.int p1]) (rest := []) (wc := []) (wc' := []) hx hb hml hown hg hK hP hD hS hA hl.1 (k_X8_isMark l D cI cS cL Z p1 ec1) gs_X8_isMark gw_1109 ⟨rfl, rfl, by decide, by decide⟩ ⟨Nat.zero_le _, Nat.zero_le _⟩ [] rfl rfl rfl rfl rfl (Nat.le_of_ble_eq_true rfl) dX8_copy_6 (fun H locs hP hD hS => ?_)
    have hP : va_P D vwCl (wX8 cI h0 h1 h2 h3 h4 h5 (0) aSm aLn aAt aWe aRm aBm aHa aS aSv aCm aRd aBy) H := hP
    have hD : va_D A (wX8 cI h0 h1 h2 h3 h4 h5 (0) aSm aLn aAt aWe aRm aBm aHa aS aSv aCm aRd aBy) := hD
    refine lv_if_ne (tgt := 18) hx hb dX8_copy_9 (by decide) (fun q2 => ?_) (fun q2 => ?_)
    · replace h := if_some q2 h
      refine lv_aload_n hx hb dX8_copy_18 rfl (lv_at hl 0 rfl) ?_
      refine lv_iload_n hx hb dX8_copy_19 rfl (lv_at hl 1 rfl) ?_
      obtain ⟨r3, ec3, h⟩ := bd_some h
      refine cV_i (As := [.int p1]) (rest := []) (wc := (wX8 cI h0 h1 h2 h3 h4 h5 (0) aSm aLn aAt aWe aRm aBm aHa aS aSv aCm aRd aBy)) (wc' := (wX8 cI h0 h1 h2 h3 h4 h5 (0) aSm aLn aAt aWe aRm aBm aHa aS aSv aCm aRd aBy)) hx hb hml hown hg hK hP hD hS hA hl.1 (k_X8_noRegion l D cI cS cL Z h0 h1 h2 h3 h4 h5 p1 (0) aSm aLn aAt aWe aRm aBm aHa aS aSv aCm aRd aBy ec3) gm_X8_noRegion gw_1116 ⟨rfl, rfl, by decide, by decide⟩ ⟨Nat.zero_le _, Nat.zero_le _⟩ [0, 1, 2, 3, 4, 5] rfl rfl rfl rfl rfl rfl rfl rfl (Nat.le_of_ble_eq_true rfl) dX8_copy_20 (fun H locs hP hD hS => ?_)
      have hP : va_P D vwCl (wX8 cI h0 h1 h2 h3 h4 h5 (0) aSm aLn aAt aWe aRm aBm aHa aS aSv aCm aRd aBy) H := hP
      have hD : va_D A (wX8 cI h0 h1 h2 h3 h4 h5 (0) aSm aLn aAt aWe aRm aBm aHa aS aSv aCm aRd aBy) := hD
      refine lv_if_eq (tgt := 32) hx hb dX8_copy_23 (by decide) (fun q4 => ?_) (fun q4 => ?_)
      · replace h := it_some q4 h
        refine lv_aload_n hx hb dX8_copy_32 rfl (lv_at hl 0 rfl) ?_
        obtain ⟨⟨aSm_5, aSv_5⟩, ec5, h⟩ := bd_some h
        refine cV_v (As := []) (rest := []) (wc := (wX8 cI h0 h1 h2 h3 h4 h5 (0) aSm aLn aAt aWe aRm aBm aHa aS aSv aCm aRd aBy)) (wc' := (wX8 cI h0 h1 h2 h3 h4 h5 (0) aSm_5 aLn aAt aWe aRm aBm aHa aS aSv_5 aCm aRd aBy)) hx hb hml hown hg hK hP hD hS hA hl.1 (k_X8_saves l D cI cS cL Z h0 h1 h2 h3 h4 h5 (0) aSm aLn aAt aWe aRm aBm aHa aS aSv aCm aRd aBy ec5) gm_X8_saves gw_1002 ⟨rfl, rfl, by decide, by decide⟩ ⟨Nat.zero_le _, Nat.zero_le _⟩ [0, 1, 2, 3, 4, 5] rfl rfl rfl rfl rfl rfl rfl rfl (Nat.le_of_ble_eq_true rfl) dX8_copy_33 (fun H locs hP hD hS => ?_)
        have hP : va_P D vwCl (wX8 cI h0 h1 h2 h3 h4 h5 (0) aSm_5 aLn aAt aWe aRm aBm aHa aS aSv_5 aCm aRd aBy) H := hP
        have hD : va_D A (wX8 cI h0 h1 h2 h3 h4 h5 (0) aSm_5 aLn aAt aWe aRm aBm aHa aS aSv_5 aCm aRd aBy) := hD
        refine lv_aload_n hx hb dX8_copy_36 rfl (lv_at hl 0 rfl) ?_
        refine lv_iload_n hx hb dX8_copy_37 rfl (lv_at hl 1 rfl) ?_
        obtain ⟨aS_6, ec6, h⟩ := bd_some h
        refine cV_v (As := [.int p1]) (rest := []) (wc := (wX8 cI h0 h1 h2 h3 h4 h5 (0) aSm_5 aLn aAt aWe aRm aBm aHa aS aSv_5 aCm aRd aBy)) (wc' := (wX8 cI h0 h1 h2 h3 h4 h5 (0) aSm_5 aLn aAt aWe aRm aBm aHa aS_6 aSv_5 aCm aRd aBy)) hx hb hml hown hg hK hP hD hS hA hl.1 (k_X8_clips l D cI cS cL Z h0 h1 h2 h3 h4 h5 p1 (0) aSm_5 aLn aAt aWe aRm aBm aHa aS aSv_5 aCm aRd aBy ec6) gm_X8_clips gw_1124 ⟨rfl, rfl, by decide, by decide⟩ ⟨Nat.zero_le _, Nat.zero_le _⟩ [0, 1, 2, 3, 4, 5] rfl rfl rfl rfl rfl rfl rfl rfl (Nat.le_of_ble_eq_true rfl) dX8_copy_38 (fun H locs hP hD hS => ?_)
        have hP : va_P D vwCl (wX8 cI h0 h1 h2 h3 h4 h5 (0) aSm_5 aLn aAt aWe aRm aBm aHa aS_6 aSv_5 aCm aRd aBy) H := hP
        have hD : va_D A (wX8 cI h0 h1 h2 h3 h4 h5 (0) aSm_5 aLn aAt aWe aRm aBm aHa aS_6 aSv_5 aCm aRd aBy) := hD
        refine lv_aload_n hx hb dX8_copy_41 rfl (lv_at hl 0 rfl) ?_
        refine va_get (D := D) (ci := 8) (v := .ref h1) (C := RX8) (T := TX8) (N := 13) hx hb hg uX8 hown hK.1 hP 0 rfl rfl 1 (by decide) (hg _ gw_941) (fun _ h9 => h9) rfl dX8_copy_42 ?_
        refine lv_bipush (v := 10) hx hb dX8_copy_45 (by decide) ?_
        obtain ⟨v7, h⟩ := rd_some h
        refine va_iald hx hb hK.1 hP 1 0 rfl rfl v7 dX8_copy_47 ?_
        cases h
        exact ret_i hx hb hr hlocks hP hD hS dX8_copy_48 rfl
      · replace h := if_some q4 h
        refine lv_aload_n hx hb dX8_copy_26 rfl (lv_at hl 0 rfl) ?_
        refine lv_iconst (v := 2) hx hb dX8_copy_27 (by decide) ?_
        obtain ⟨⟨r8, aTh_8⟩, ec8, h⟩ := bd_some h
        refine cV_i (As := [.int 2]) (rest := []) (wc := (wX8 cI h0 h1 h2 h3 h4 h5 (0) aSm aLn aAt aWe aRm aBm aHa aS aSv aCm aRd aBy)) (wc' := (wX8 cI h0 h1 h2 h3 h4 h5 aTh_8 aSm aLn aAt aWe aRm aBm aHa aS aSv aCm aRd aBy)) hx hb hml hown hg hK hP hD hS hA hl.1 (k_X8_fails l D cI cS cL Z h0 h1 h2 h3 h4 h5 2 (0) aSm aLn aAt aWe aRm aBm aHa aS aSv aCm aRd aBy ec8) gm_X8_fails gw_994 ⟨rfl, rfl, by decide, by decide⟩ ⟨Nat.zero_le _, Nat.zero_le _⟩ [0, 1, 2, 3, 4, 5] rfl rfl rfl rfl rfl rfl rfl rfl (Nat.le_of_ble_eq_true rfl) dX8_copy_28 (fun H locs hP hD hS => ?_)
        have hP : va_P D vwCl (wX8 cI h0 h1 h2 h3 h4 h5 aTh_8 aSm aLn aAt aWe aRm aBm aHa aS aSv aCm aRd aBy) H := hP
        have hD : va_D A (wX8 cI h0 h1 h2 h3 h4 h5 aTh_8 aSm aLn aAt aWe aRm aBm aHa aS aSv aCm aRd aBy) := hD
        cases h
        exact ret_i hx hb hr hlocks hP hD hS dX8_copy_31 rfl
    · replace h := it_some q2 h
      refine lv_aload_n hx hb dX8_copy_12 rfl (lv_at hl 0 rfl) ?_
      refine lv_iconst (v := 1) hx hb dX8_copy_13 (by decide) ?_
      obtain ⟨⟨r9, aTh_9⟩, ec9, h⟩ := bd_some h
      refine cV_i (As := [.int 1]) (rest := []) (wc := (wX8 cI h0 h1 h2 h3 h4 h5 (0) aSm aLn aAt aWe aRm aBm aHa aS aSv aCm aRd aBy)) (wc' := (wX8 cI h0 h1 h2 h3 h4 h5 aTh_9 aSm aLn aAt aWe aRm aBm aHa aS aSv aCm aRd aBy)) hx hb hml hown hg hK hP hD hS hA hl.1 (k_X8_fails l D cI cS cL Z h0 h1 h2 h3 h4 h5 1 (0) aSm aLn aAt aWe aRm aBm aHa aS aSv aCm aRd aBy ec9) gm_X8_fails gw_994 ⟨rfl, rfl, by decide, by decide⟩ ⟨Nat.zero_le _, Nat.zero_le _⟩ [0, 1, 2, 3, 4, 5] rfl rfl rfl rfl rfl rfl rfl rfl (Nat.le_of_ble_eq_true rfl) dX8_copy_14 (fun H locs hP hD hS => ?_)
      have hP : va_P D vwCl (wX8 cI h0 h1 h2 h3 h4 h5 aTh_9 aSm aLn aAt aWe aRm aBm aHa aS aSv aCm aRd aBy) H := hP
      have hD : va_D A (wX8 cI h0 h1 h2 h3 h4 h5 aTh_9 aSm aLn aAt aWe aRm aBm aHa aS aSv aCm aRd aBy) := hD
      cases h
      exact ret_i hx hb hr hlocks hP hD hS dX8_copy_17 rfl
  exact hmain _ _ hP hS
abbrev rm_X8_cut : Room := { frames := 5, cells := 0, slots := 0, locals := 109 }
def f_X8_cut (Z : Nat) (p1 : Int32) (aTh : Int32) (aSm : Int32) (aS : Nat → Int32) (aSv : Nat → Int32) : Option (Int32 × Int32 × Int32 × (Nat → Int32) × (Nat → Int32)) :=
  (f_X8_isMark Z p1).bind fun r1 =>
  if r1 = 0 then
    (f_X8_fails Z 1 (0)).bind fun (r9, aTh_9) =>
    some (r9, aTh_9, aSm, aS, aSv)
  else
    (f_X8_noRegion Z p1 aS).bind fun r3 =>
    if r3 = 0 then
      (f_X8_saves Z aSm aS aSv).bind fun (aSm_5, aSv_5) =>
      (f_X8_cuts Z p1 aS).bind fun aS_6 =>
      rd 10 344 (
      some (aS_6 (Int32.toNatClampNeg 10), (0), aSm_5, aS_6, aSv_5))
    else
      (f_X8_fails Z 2 (0)).bind fun (r8, aTh_8) =>
      some (r8, aTh_8, aSm, aS, aSv)
set_option maxRecDepth 100000 in
set_option maxHeartbeats 4000000 in
theorem k_X8_cut (l : Launch) (D : va_G) (cI cS cL : ClassId) (Z : Nat) (h0 : Nat) (h1 : Nat) (h2 : Nat) (h3 : Nat) (h4 : Nat) (h5 : Nat) (p1 : Int32) (aTh : Int32) (aSm : Int32) (aLn : Int32) (aAt : Int32) (aWe : Int32) (aRm : Int32) (aBm : Int32) (aHa : Int64) (aS : Nat → Int32) (aSv : Nat → Int32) (aCm : Nat → Int32) (aRd : Nat → Int32) (aBy : Nat → Int32) {r : Int32} {aTh' : Int32} {aSm' : Int32} {aS' : Nat → Int32} {aSv' : Nat → Int32} (h : f_X8_cut Z p1 aTh aSm aS aSv = some (r, aTh', aSm', aS', aSv')) : CI l yX8_cut cX8_cut 2 (some .int) rm_X8_cut D cI cS cL [.ref h0, .int p1] (wX8 cI h0 h1 h2 h3 h4 h5 aTh aSm aLn aAt aWe aRm aBm aHa aS aSv aCm aRd aBy) (wX8 cI h0 h1 h2 h3 h4 h5 (aTh') (aSm') aLn aAt aWe aRm aBm aHa (aS') (aSv') aCm aRd aBy) r := by
  refine ent_i (by decide +kernel) (Nat.le_of_ble_eq_true rfl) ?_
  intro p e s m args below meth c A ls hx hb hr hml hlocks hg hown hK hP hD hS hA hl
  have hown : s.vm.findClass RX8 = some m.cls := hown
  have hl : lv_has ls 2 [(0, .ref h0), (1, .int p1)] := hl
  have hP : va_P D vwCl (wX8 cI h0 h1 h2 h3 h4 h5 aTh aSm aLn aAt aWe aRm aBm aHa aS aSv aCm aRd aBy) s.heap := hP
  have hD : va_D A (wX8 cI h0 h1 h2 h3 h4 h5 aTh aSm aLn aAt aWe aRm aBm aHa aS aSv aCm aRd aBy) := hD
  show W p l e rm_X8_cut s m args below meth c s.heap [] 0 0 (FI D below args s (wX8 cI h0 h1 h2 h3 h4 h5 (aTh') (aSm') aLn aAt aWe aRm aBm aHa (aS') (aSv') aCm aRd aBy) r A) (F0 m 0 ls [])
  unfold f_X8_cut at h
  have hmain : ∀ (H : Heap) (locs : List Loc), va_P D vwCl (wX8 cI h0 h1 h2 h3 h4 h5 aTh aSm aLn aAt aWe aRm aBm aHa aS aSv aCm aRd aBy) H → va_S A s.heap H locs → W p l e rm_X8_cut s m args below meth c H locs 0 0 (FI D below args s (wX8 cI h0 h1 h2 h3 h4 h5 (aTh') (aSm') aLn aAt aWe aRm aBm aHa (aS') (aSv') aCm aRd aBy) r A) (F0 m 0 ls []) := by
    intro H locs hP hS
    refine lv_aload_n hx hb dX8_cut_0 rfl (lv_at hl 0 rfl) ?_
    refine lv_iconst (v := 0) hx hb dX8_cut_1 (by decide) ?_
    refine va_put (D := D) (ci := 8) (v := .int 0) (ty := tyX8 0) (C := RX8) (T := TX8) (N := 13) hx hb hg uX8 tyX8 tyX8_ok nmX8 hown hK.1 hP hD hS 0 rfl rfl 0 (by decide) (hg _ gw_940) (fun _ h9 => h9) rfl (tyX8_ok 0 (by decide)) rfl rfl (Nat.le_of_ble_eq_true rfl) dX8_cut_2 (fun H locs hP hD hS => ?_)
    have hP : va_P D vwCl (wX8 cI h0 h1 h2 h3 h4 h5 (0) aSm aLn aAt aWe aRm aBm aHa aS aSv aCm aRd aBy) H := hP
    have hD : va_D A (wX8 cI h0 h1 h2 h3 h4 h5 (0) aSm aLn aAt aWe aRm aBm aHa aS aSv aCm aRd aBy) := hD
    refine lv_iload_n hx hb dX8_cut_5 rfl (lv_at hl 1 rfl) ?_
    obtain ⟨r1, ec1, h⟩ := bd_some h
    refine cS_i (As := [.int p1]) (rest := []) (wc := []) (wc' := []) hx hb hml hown hg hK hP hD hS hA hl.1 (k_X8_isMark l D cI cS cL Z p1 ec1) gs_X8_isMark gw_1109 ⟨rfl, rfl, by decide, by decide⟩ ⟨Nat.zero_le _, Nat.zero_le _⟩ [] rfl rfl rfl rfl rfl (Nat.le_of_ble_eq_true rfl) dX8_cut_6 (fun H locs hP hD hS => ?_)
    have hP : va_P D vwCl (wX8 cI h0 h1 h2 h3 h4 h5 (0) aSm aLn aAt aWe aRm aBm aHa aS aSv aCm aRd aBy) H := hP
    have hD : va_D A (wX8 cI h0 h1 h2 h3 h4 h5 (0) aSm aLn aAt aWe aRm aBm aHa aS aSv aCm aRd aBy) := hD
    refine lv_if_ne (tgt := 18) hx hb dX8_cut_9 (by decide) (fun q2 => ?_) (fun q2 => ?_)
    · replace h := if_some q2 h
      refine lv_aload_n hx hb dX8_cut_18 rfl (lv_at hl 0 rfl) ?_
      refine lv_iload_n hx hb dX8_cut_19 rfl (lv_at hl 1 rfl) ?_
      obtain ⟨r3, ec3, h⟩ := bd_some h
      refine cV_i (As := [.int p1]) (rest := []) (wc := (wX8 cI h0 h1 h2 h3 h4 h5 (0) aSm aLn aAt aWe aRm aBm aHa aS aSv aCm aRd aBy)) (wc' := (wX8 cI h0 h1 h2 h3 h4 h5 (0) aSm aLn aAt aWe aRm aBm aHa aS aSv aCm aRd aBy)) hx hb hml hown hg hK hP hD hS hA hl.1 (k_X8_noRegion l D cI cS cL Z h0 h1 h2 h3 h4 h5 p1 (0) aSm aLn aAt aWe aRm aBm aHa aS aSv aCm aRd aBy ec3) gm_X8_noRegion gw_1116 ⟨rfl, rfl, by decide, by decide⟩ ⟨Nat.zero_le _, Nat.zero_le _⟩ [0, 1, 2, 3, 4, 5] rfl rfl rfl rfl rfl rfl rfl rfl (Nat.le_of_ble_eq_true rfl) dX8_cut_20 (fun H locs hP hD hS => ?_)
      have hP : va_P D vwCl (wX8 cI h0 h1 h2 h3 h4 h5 (0) aSm aLn aAt aWe aRm aBm aHa aS aSv aCm aRd aBy) H := hP
      have hD : va_D A (wX8 cI h0 h1 h2 h3 h4 h5 (0) aSm aLn aAt aWe aRm aBm aHa aS aSv aCm aRd aBy) := hD
      refine lv_if_eq (tgt := 32) hx hb dX8_cut_23 (by decide) (fun q4 => ?_) (fun q4 => ?_)
      · replace h := it_some q4 h
        refine lv_aload_n hx hb dX8_cut_32 rfl (lv_at hl 0 rfl) ?_
        obtain ⟨⟨aSm_5, aSv_5⟩, ec5, h⟩ := bd_some h
        refine cV_v (As := []) (rest := []) (wc := (wX8 cI h0 h1 h2 h3 h4 h5 (0) aSm aLn aAt aWe aRm aBm aHa aS aSv aCm aRd aBy)) (wc' := (wX8 cI h0 h1 h2 h3 h4 h5 (0) aSm_5 aLn aAt aWe aRm aBm aHa aS aSv_5 aCm aRd aBy)) hx hb hml hown hg hK hP hD hS hA hl.1 (k_X8_saves l D cI cS cL Z h0 h1 h2 h3 h4 h5 (0) aSm aLn aAt aWe aRm aBm aHa aS aSv aCm aRd aBy ec5) gm_X8_saves gw_1002 ⟨rfl, rfl, by decide, by decide⟩ ⟨Nat.zero_le _, Nat.zero_le _⟩ [0, 1, 2, 3, 4, 5] rfl rfl rfl rfl rfl rfl rfl rfl (Nat.le_of_ble_eq_true rfl) dX8_cut_33 (fun H locs hP hD hS => ?_)
        have hP : va_P D vwCl (wX8 cI h0 h1 h2 h3 h4 h5 (0) aSm_5 aLn aAt aWe aRm aBm aHa aS aSv_5 aCm aRd aBy) H := hP
        have hD : va_D A (wX8 cI h0 h1 h2 h3 h4 h5 (0) aSm_5 aLn aAt aWe aRm aBm aHa aS aSv_5 aCm aRd aBy) := hD
        refine lv_aload_n hx hb dX8_cut_36 rfl (lv_at hl 0 rfl) ?_
        refine lv_iload_n hx hb dX8_cut_37 rfl (lv_at hl 1 rfl) ?_
        obtain ⟨aS_6, ec6, h⟩ := bd_some h
        refine cV_v (As := [.int p1]) (rest := []) (wc := (wX8 cI h0 h1 h2 h3 h4 h5 (0) aSm_5 aLn aAt aWe aRm aBm aHa aS aSv_5 aCm aRd aBy)) (wc' := (wX8 cI h0 h1 h2 h3 h4 h5 (0) aSm_5 aLn aAt aWe aRm aBm aHa aS_6 aSv_5 aCm aRd aBy)) hx hb hml hown hg hK hP hD hS hA hl.1 (k_X8_cuts l D cI cS cL Z h0 h1 h2 h3 h4 h5 p1 (0) aSm_5 aLn aAt aWe aRm aBm aHa aS aSv_5 aCm aRd aBy ec6) gm_X8_cuts gw_1132 ⟨rfl, rfl, by decide, by decide⟩ ⟨Nat.zero_le _, Nat.zero_le _⟩ [0, 1, 2, 3, 4, 5] rfl rfl rfl rfl rfl rfl rfl rfl (Nat.le_of_ble_eq_true rfl) dX8_cut_38 (fun H locs hP hD hS => ?_)
        have hP : va_P D vwCl (wX8 cI h0 h1 h2 h3 h4 h5 (0) aSm_5 aLn aAt aWe aRm aBm aHa aS_6 aSv_5 aCm aRd aBy) H := hP
        have hD : va_D A (wX8 cI h0 h1 h2 h3 h4 h5 (0) aSm_5 aLn aAt aWe aRm aBm aHa aS_6 aSv_5 aCm aRd aBy) := hD
        refine lv_aload_n hx hb dX8_cut_41 rfl (lv_at hl 0 rfl) ?_
        refine va_get (D := D) (ci := 8) (v := .ref h1) (C := RX8) (T := TX8) (N := 13) hx hb hg uX8 hown hK.1 hP 0 rfl rfl 1 (by decide) (hg _ gw_941) (fun _ h9 => h9) rfl dX8_cut_42 ?_
        refine lv_bipush (v := 10) hx hb dX8_cut_45 (by decide) ?_
        obtain ⟨v7, h⟩ := rd_some h
        refine va_iald hx hb hK.1 hP 1 0 rfl rfl v7 dX8_cut_47 ?_
        cases h
        exact ret_i hx hb hr hlocks hP hD hS dX8_cut_48 rfl
      · replace h := if_some q4 h
        refine lv_aload_n hx hb dX8_cut_26 rfl (lv_at hl 0 rfl) ?_
        refine lv_iconst (v := 2) hx hb dX8_cut_27 (by decide) ?_
        obtain ⟨⟨r8, aTh_8⟩, ec8, h⟩ := bd_some h
        refine cV_i (As := [.int 2]) (rest := []) (wc := (wX8 cI h0 h1 h2 h3 h4 h5 (0) aSm aLn aAt aWe aRm aBm aHa aS aSv aCm aRd aBy)) (wc' := (wX8 cI h0 h1 h2 h3 h4 h5 aTh_8 aSm aLn aAt aWe aRm aBm aHa aS aSv aCm aRd aBy)) hx hb hml hown hg hK hP hD hS hA hl.1 (k_X8_fails l D cI cS cL Z h0 h1 h2 h3 h4 h5 2 (0) aSm aLn aAt aWe aRm aBm aHa aS aSv aCm aRd aBy ec8) gm_X8_fails gw_994 ⟨rfl, rfl, by decide, by decide⟩ ⟨Nat.zero_le _, Nat.zero_le _⟩ [0, 1, 2, 3, 4, 5] rfl rfl rfl rfl rfl rfl rfl rfl (Nat.le_of_ble_eq_true rfl) dX8_cut_28 (fun H locs hP hD hS => ?_)
        have hP : va_P D vwCl (wX8 cI h0 h1 h2 h3 h4 h5 aTh_8 aSm aLn aAt aWe aRm aBm aHa aS aSv aCm aRd aBy) H := hP
        have hD : va_D A (wX8 cI h0 h1 h2 h3 h4 h5 aTh_8 aSm aLn aAt aWe aRm aBm aHa aS aSv aCm aRd aBy) := hD
        cases h
        exact ret_i hx hb hr hlocks hP hD hS dX8_cut_31 rfl
    · replace h := it_some q2 h
      refine lv_aload_n hx hb dX8_cut_12 rfl (lv_at hl 0 rfl) ?_
      refine lv_iconst (v := 1) hx hb dX8_cut_13 (by decide) ?_
      obtain ⟨⟨r9, aTh_9⟩, ec9, h⟩ := bd_some h
      refine cV_i (As := [.int 1]) (rest := []) (wc := (wX8 cI h0 h1 h2 h3 h4 h5 (0) aSm aLn aAt aWe aRm aBm aHa aS aSv aCm aRd aBy)) (wc' := (wX8 cI h0 h1 h2 h3 h4 h5 aTh_9 aSm aLn aAt aWe aRm aBm aHa aS aSv aCm aRd aBy)) hx hb hml hown hg hK hP hD hS hA hl.1 (k_X8_fails l D cI cS cL Z h0 h1 h2 h3 h4 h5 1 (0) aSm aLn aAt aWe aRm aBm aHa aS aSv aCm aRd aBy ec9) gm_X8_fails gw_994 ⟨rfl, rfl, by decide, by decide⟩ ⟨Nat.zero_le _, Nat.zero_le _⟩ [0, 1, 2, 3, 4, 5] rfl rfl rfl rfl rfl rfl rfl rfl (Nat.le_of_ble_eq_true rfl) dX8_cut_14 (fun H locs hP hD hS => ?_)
      have hP : va_P D vwCl (wX8 cI h0 h1 h2 h3 h4 h5 aTh_9 aSm aLn aAt aWe aRm aBm aHa aS aSv aCm aRd aBy) H := hP
      have hD : va_D A (wX8 cI h0 h1 h2 h3 h4 h5 aTh_9 aSm aLn aAt aWe aRm aBm aHa aS aSv aCm aRd aBy) := hD
      cases h
      exact ret_i hx hb hr hlocks hP hD hS dX8_cut_17 rfl
  exact hmain _ _ hP hS
abbrev rm_X8_pastes : Room := { frames := 4, cells := 0, slots := 0, locals := 85 }
def f_X8_pastes_b13 (Z : Nat) (rec : Int32 → Int32 → (Nat → Int32) → (Nat → Int32) → Option (Int32 × (Nat → Int32) × (Nat → Int32))) (x1 : Int32) (aBm : Int32) (aS : Nat → Int32) (aBy : Nat → Int32) : Option (Int32 × (Nat → Int32) × (Nat → Int32)) :=
      if aBm ≤ x1 then
        (f_X8_inserts Z aBm aS aBy).bind fun aS_2 =>
        some (aBm, aS_2, aBy)
      else
        rd (20 + x1) 344 (
        rd x1 100 (kl (upd aBy (Int32.toNatClampNeg x1) (aS (Int32.toNatClampNeg (20 + x1)))) fun aBy_5 =>
        kl (x1 + 1) fun x1_6 =>
        rec x1_6 aBm aS aBy_5))
def f_X8_pastes_l13 (Z : Nat) : Nat → Int32 → Int32 → (Nat → Int32) → (Nat → Int32) → Option (Int32 × (Nat → Int32) × (Nat → Int32))
  | 0, _, _, _, _ => none
  | n + 1, x1, aBm, aS, aBy => f_X8_pastes_b13 Z (f_X8_pastes_l13 Z n) x1 aBm aS aBy
def f_X8_pastes (Z : Nat) (aBm : Int32) (aS : Nat → Int32) (aBy : Nat → Int32) : Option (Int32 × (Nat → Int32) × (Nat → Int32)) :=
  rd 10 344 (
  kl (aS (Int32.toNatClampNeg 10)) fun aBm_8 =>
  f_X8_pastes_l13 Z Z 0 aBm_8 aS aBy)
set_option maxRecDepth 100000 in
set_option maxHeartbeats 4000000 in
theorem k_X8_pastes (l : Launch) (D : va_G) (cI cS cL : ClassId) (Z : Nat) (h0 : Nat) (h1 : Nat) (h2 : Nat) (h3 : Nat) (h4 : Nat) (h5 : Nat) (aTh : Int32) (aSm : Int32) (aLn : Int32) (aAt : Int32) (aWe : Int32) (aRm : Int32) (aBm : Int32) (aHa : Int64) (aS : Nat → Int32) (aSv : Nat → Int32) (aCm : Nat → Int32) (aRd : Nat → Int32) (aBy : Nat → Int32) {aBm' : Int32} {aS' : Nat → Int32} {aBy' : Nat → Int32} (h : f_X8_pastes Z aBm aS aBy = some (aBm', aS', aBy')) : CV l yX8_pastes cX8_pastes 2 none rm_X8_pastes D cI cS cL [.ref h0] (wX8 cI h0 h1 h2 h3 h4 h5 aTh aSm aLn aAt aWe aRm aBm aHa aS aSv aCm aRd aBy) (wX8 cI h0 h1 h2 h3 h4 h5 aTh aSm aLn aAt aWe aRm (aBm') aHa (aS') aSv aCm aRd (aBy')) := by
  refine ent_v (by decide +kernel) (Nat.le_of_ble_eq_true rfl) ?_
  intro p e s m args below meth c A ls hx hb hr hml hlocks hg hown hK hP hD hS hA hl
  have hown : s.vm.findClass RX8 = some m.cls := hown
  have c_13 : ∀ (n : Nat) (x1 : Int32) (aBm : Int32) (aS : Nat → Int32) (aBy : Nat → Int32), f_X8_pastes_l13 Z n x1 aBm aS aBy = some (aBm', aS', aBy') → ∀ (H : Heap) (locs : List Loc), va_P D vwCl (wX8 cI h0 h1 h2 h3 h4 h5 aTh aSm aLn aAt aWe aRm aBm aHa aS aSv aCm aRd aBy) H → va_D A (wX8 cI h0 h1 h2 h3 h4 h5 aTh aSm aLn aAt aWe aRm aBm aHa aS aSv aCm aRd aBy) → va_S A s.heap H locs → ∀ ls : Array Slot, lv_has ls 2 [(0, .ref h0), (1, .int x1)] → W p l e rm_X8_pastes s m args below meth c H locs 0 0 (FV D below args s (wX8 cI h0 h1 h2 h3 h4 h5 aTh aSm aLn aAt aWe aRm (aBm') aHa (aS') aSv aCm aRd (aBy')) A) (F0 m 13 ls []) := by
    intro n
    induction n with
    | zero => intro x1 aBm aS aBy h; exact no_some h
    | succ n ih =>
      intro x1 aBm aS aBy h H locs hP hD hS ls hl
      have h : f_X8_pastes_b13 Z (f_X8_pastes_l13 Z n) x1 aBm aS aBy = some (aBm', aS', aBy') := h
      unfold f_X8_pastes_b13 at h
      refine lv_iload_n hx hb dX8_pastes_13 rfl (lv_at hl 1 rfl) ?_
      refine lv_aload_n hx hb dX8_pastes_14 rfl (lv_at hl 0 rfl) ?_
      refine va_get (D := D) (ci := 8) (v := .int aBm) (C := RX8) (T := TX8) (N := 13) hx hb hg uX8 hown hK.1 hP 0 rfl rfl 11 (by decide) (hg _ gw_951) (fun _ h9 => h9) rfl dX8_pastes_15 ?_
      refine lv_icmp_ge (tgt := 42) hx hb dX8_pastes_18 (by decide) (fun q1 => ?_) (fun q1 => ?_)
      · replace h := it_some q1 h
        refine lv_aload_n hx hb dX8_pastes_42 rfl (lv_at hl 0 rfl) ?_
        obtain ⟨aS_2, ec2, h⟩ := bd_some h
        refine cV_v (As := []) (rest := []) (wc := (wX8 cI h0 h1 h2 h3 h4 h5 aTh aSm aLn aAt aWe aRm aBm aHa aS aSv aCm aRd aBy)) (wc' := (wX8 cI h0 h1 h2 h3 h4 h5 aTh aSm aLn aAt aWe aRm aBm aHa aS_2 aSv aCm aRd aBy)) hx hb hml hown hg hK hP hD hS hA hl.1 (k_X8_inserts l D cI cS cL Z h0 h1 h2 h3 h4 h5 aTh aSm aLn aAt aWe aRm aBm aHa aS aSv aCm aRd aBy ec2) gm_X8_inserts gw_1010 ⟨rfl, rfl, by decide, by decide⟩ ⟨Nat.zero_le _, Nat.zero_le _⟩ [0, 1, 2, 3, 4, 5] rfl rfl rfl rfl rfl rfl rfl rfl (Nat.le_of_ble_eq_true rfl) dX8_pastes_43 (fun H locs hP hD hS => ?_)
        have hP : va_P D vwCl (wX8 cI h0 h1 h2 h3 h4 h5 aTh aSm aLn aAt aWe aRm aBm aHa aS_2 aSv aCm aRd aBy) H := hP
        have hD : va_D A (wX8 cI h0 h1 h2 h3 h4 h5 aTh aSm aLn aAt aWe aRm aBm aHa aS_2 aSv aCm aRd aBy) := hD
        cases h
        exact ret_v hx hb hr hlocks hP hD hS dX8_pastes_46
      · replace h := if_some q1 h
        refine lv_aload_n hx hb dX8_pastes_21 rfl (lv_at hl 0 rfl) ?_
        refine va_get (D := D) (ci := 8) (v := .ref h5) (C := RX8) (T := TX8) (N := 13) hx hb hg uX8 hown hK.1 hP 0 rfl rfl 10 (by decide) (hg _ gw_950) (fun _ h9 => h9) rfl dX8_pastes_22 ?_
        refine lv_iload_n hx hb dX8_pastes_25 rfl (lv_at hl 1 rfl) ?_
        refine lv_aload_n hx hb dX8_pastes_26 rfl (lv_at hl 0 rfl) ?_
        refine va_get (D := D) (ci := 8) (v := .ref h1) (C := RX8) (T := TX8) (N := 13) hx hb hg uX8 hown hK.1 hP 0 rfl rfl 1 (by decide) (hg _ gw_941) (fun _ h9 => h9) rfl dX8_pastes_27 ?_
        refine lv_bipush (v := 20) hx hb dX8_pastes_30 (by decide) ?_
        refine lv_iload_n hx hb dX8_pastes_32 rfl (lv_at hl 1 rfl) ?_
        refine lv_iadd hx hb dX8_pastes_33 ?_
        obtain ⟨v3, h⟩ := rd_some h
        refine va_iald hx hb hK.1 hP 1 0 rfl rfl v3 dX8_pastes_34 ?_
        obtain ⟨v4, h⟩ := rd_some h
        obtain ⟨aBy_5, eaBy_5, h⟩ := kl_some h
        refine va_iast hx hb hK.1 hP hD hS 5 0 rfl rfl v4 dX8_pastes_35 (fun H locs hP hD hS => ?_)
        have hP : va_P D vwCl (wX8 cI h0 h1 h2 h3 h4 h5 aTh aSm aLn aAt aWe aRm aBm aHa aS aSv aCm aRd aBy_5) H := by rw [eaBy_5]; exact hP
        have hD : va_D A (wX8 cI h0 h1 h2 h3 h4 h5 aTh aSm aLn aAt aWe aRm aBm aHa aS aSv aCm aRd aBy_5) := by rw [eaBy_5]; exact hD
        obtain ⟨x1_6, ex1_6, h⟩ := kl_some h
        refine lv_iinc (v := x1_6) (lv' := [(1, .int x1_6), (0, .ref h0)]) hx hb dX8_pastes_36 hl (k := 1) rfl (by rw [ex1_6]; rfl) (by decide) rfl (fun ls hl => ?_)
        refine lv_goto (tgt := 13) hx hb dX8_pastes_39 (by decide) ?_
        exact ih x1_6 aBm aS aBy_5 h H locs hP hD hS ls (lv_sub hl [1, 0] rfl)
  have hl : lv_has ls 2 [(0, .ref h0)] := hl
  have hP : va_P D vwCl (wX8 cI h0 h1 h2 h3 h4 h5 aTh aSm aLn aAt aWe aRm aBm aHa aS aSv aCm aRd aBy) s.heap := hP
  have hD : va_D A (wX8 cI h0 h1 h2 h3 h4 h5 aTh aSm aLn aAt aWe aRm aBm aHa aS aSv aCm aRd aBy) := hD
  show W p l e rm_X8_pastes s m args below meth c s.heap [] 0 0 (FV D below args s (wX8 cI h0 h1 h2 h3 h4 h5 aTh aSm aLn aAt aWe aRm (aBm') aHa (aS') aSv aCm aRd (aBy')) A) (F0 m 0 ls [])
  unfold f_X8_pastes at h
  have hmain : ∀ (H : Heap) (locs : List Loc), va_P D vwCl (wX8 cI h0 h1 h2 h3 h4 h5 aTh aSm aLn aAt aWe aRm aBm aHa aS aSv aCm aRd aBy) H → va_S A s.heap H locs → W p l e rm_X8_pastes s m args below meth c H locs 0 0 (FV D below args s (wX8 cI h0 h1 h2 h3 h4 h5 aTh aSm aLn aAt aWe aRm (aBm') aHa (aS') aSv aCm aRd (aBy')) A) (F0 m 0 ls []) := by
    intro H locs hP hS
    refine lv_aload_n hx hb dX8_pastes_0 rfl (lv_at hl 0 rfl) ?_
    refine lv_aload_n hx hb dX8_pastes_1 rfl (lv_at hl 0 rfl) ?_
    refine va_get (D := D) (ci := 8) (v := .ref h1) (C := RX8) (T := TX8) (N := 13) hx hb hg uX8 hown hK.1 hP 0 rfl rfl 1 (by decide) (hg _ gw_941) (fun _ h9 => h9) rfl dX8_pastes_2 ?_
    refine lv_bipush (v := 10) hx hb dX8_pastes_5 (by decide) ?_
    obtain ⟨v7, h⟩ := rd_some h
    refine va_iald hx hb hK.1 hP 1 0 rfl rfl v7 dX8_pastes_7 ?_
    obtain ⟨aBm_8, eaBm_8, h⟩ := kl_some h
    refine nm_i eaBm_8 ?_
    refine va_put (D := D) (ci := 8) (v := .int aBm_8) (ty := tyX8 11) (C := RX8) (T := TX8) (N := 13) hx hb hg uX8 tyX8 tyX8_ok nmX8 hown hK.1 hP hD hS 0 rfl rfl 11 (by decide) (hg _ gw_951) (fun _ h9 => h9) rfl (tyX8_ok 11 (by decide)) rfl rfl (Nat.le_of_ble_eq_true rfl) dX8_pastes_8 (fun H locs hP hD hS => ?_)
    have hP : va_P D vwCl (wX8 cI h0 h1 h2 h3 h4 h5 aTh aSm aLn aAt aWe aRm aBm_8 aHa aS aSv aCm aRd aBy) H := hP
    have hD : va_D A (wX8 cI h0 h1 h2 h3 h4 h5 aTh aSm aLn aAt aWe aRm aBm_8 aHa aS aSv aCm aRd aBy) := hD
    refine lv_iconst (v := 0) hx hb dX8_pastes_11 (by decide) ?_
    refine lv_istore_n (lv' := [(1, .int 0), (0, .ref h0)]) hx hb dX8_pastes_12 rfl hl (by decide) rfl (fun ls hl => ?_)
    exact c_13 Z 0 aBm_8 aS aBy h H locs hP hD hS ls (lv_sub hl [1, 0] rfl)
  exact hmain _ _ hP hS
abbrev rm_X8_paste : Room := { frames := 5, cells := 0, slots := 0, locals := 106 }
def f_X8_paste (Z : Nat) (aTh : Int32) (aSm : Int32) (aBm : Int32) (aS : Nat → Int32) (aSv : Nat → Int32) (aBy : Nat → Int32) : Option (Int32 × Int32 × Int32 × Int32 × (Nat → Int32) × (Nat → Int32) × (Nat → Int32)) :=
  rd 10 344 (
  if (aS (Int32.toNatClampNeg 10)) = 0 then
    (f_X8_fails Z 1 (0)).bind fun (r3, aTh_3) =>
    some (r3, aTh_3, aSm, aBm, aS, aSv, aBy)
  else
    rd 10 344 (
    (f_X8_hasRoom Z (aS (Int32.toNatClampNeg 10)) aS).bind fun r5 =>
    if r5 = 0 then
      (f_X8_fails Z 1 (0)).bind fun (r10, aTh_10) =>
      some (r10, aTh_10, aSm, aBm, aS, aSv, aBy)
    else
      (f_X8_saves Z aSm aS aSv).bind fun (aSm_7, aSv_7) =>
      (f_X8_pastes Z aBm aS aBy).bind fun (aBm_8, aS_8, aBy_8) =>
      rd 0 344 (
      some (aS_8 (Int32.toNatClampNeg 0), (0), aSm_7, aBm_8, aS_8, aSv_7, aBy_8))))
set_option maxRecDepth 100000 in
set_option maxHeartbeats 4000000 in
theorem k_X8_paste (l : Launch) (D : va_G) (cI cS cL : ClassId) (Z : Nat) (h0 : Nat) (h1 : Nat) (h2 : Nat) (h3 : Nat) (h4 : Nat) (h5 : Nat) (aTh : Int32) (aSm : Int32) (aLn : Int32) (aAt : Int32) (aWe : Int32) (aRm : Int32) (aBm : Int32) (aHa : Int64) (aS : Nat → Int32) (aSv : Nat → Int32) (aCm : Nat → Int32) (aRd : Nat → Int32) (aBy : Nat → Int32) {r : Int32} {aTh' : Int32} {aSm' : Int32} {aBm' : Int32} {aS' : Nat → Int32} {aSv' : Nat → Int32} {aBy' : Nat → Int32} (h : f_X8_paste Z aTh aSm aBm aS aSv aBy = some (r, aTh', aSm', aBm', aS', aSv', aBy')) : CI l yX8_paste cX8_paste 1 (some .int) rm_X8_paste D cI cS cL [.ref h0] (wX8 cI h0 h1 h2 h3 h4 h5 aTh aSm aLn aAt aWe aRm aBm aHa aS aSv aCm aRd aBy) (wX8 cI h0 h1 h2 h3 h4 h5 (aTh') (aSm') aLn aAt aWe aRm (aBm') aHa (aS') (aSv') aCm aRd (aBy')) r := by
  refine ent_i (by decide +kernel) (Nat.le_of_ble_eq_true rfl) ?_
  intro p e s m args below meth c A ls hx hb hr hml hlocks hg hown hK hP hD hS hA hl
  have hown : s.vm.findClass RX8 = some m.cls := hown
  have hl : lv_has ls 1 [(0, .ref h0)] := hl
  have hP : va_P D vwCl (wX8 cI h0 h1 h2 h3 h4 h5 aTh aSm aLn aAt aWe aRm aBm aHa aS aSv aCm aRd aBy) s.heap := hP
  have hD : va_D A (wX8 cI h0 h1 h2 h3 h4 h5 aTh aSm aLn aAt aWe aRm aBm aHa aS aSv aCm aRd aBy) := hD
  show W p l e rm_X8_paste s m args below meth c s.heap [] 0 0 (FI D below args s (wX8 cI h0 h1 h2 h3 h4 h5 (aTh') (aSm') aLn aAt aWe aRm (aBm') aHa (aS') (aSv') aCm aRd (aBy')) r A) (F0 m 0 ls [])
  unfold f_X8_paste at h
  have hmain : ∀ (H : Heap) (locs : List Loc), va_P D vwCl (wX8 cI h0 h1 h2 h3 h4 h5 aTh aSm aLn aAt aWe aRm aBm aHa aS aSv aCm aRd aBy) H → va_S A s.heap H locs → W p l e rm_X8_paste s m args below meth c H locs 0 0 (FI D below args s (wX8 cI h0 h1 h2 h3 h4 h5 (aTh') (aSm') aLn aAt aWe aRm (aBm') aHa (aS') (aSv') aCm aRd (aBy')) r A) (F0 m 0 ls []) := by
    intro H locs hP hS
    refine lv_aload_n hx hb dX8_paste_0 rfl (lv_at hl 0 rfl) ?_
    refine lv_iconst (v := 0) hx hb dX8_paste_1 (by decide) ?_
    refine va_put (D := D) (ci := 8) (v := .int 0) (ty := tyX8 0) (C := RX8) (T := TX8) (N := 13) hx hb hg uX8 tyX8 tyX8_ok nmX8 hown hK.1 hP hD hS 0 rfl rfl 0 (by decide) (hg _ gw_940) (fun _ h9 => h9) rfl (tyX8_ok 0 (by decide)) rfl rfl (Nat.le_of_ble_eq_true rfl) dX8_paste_2 (fun H locs hP hD hS => ?_)
    have hP : va_P D vwCl (wX8 cI h0 h1 h2 h3 h4 h5 (0) aSm aLn aAt aWe aRm aBm aHa aS aSv aCm aRd aBy) H := hP
    have hD : va_D A (wX8 cI h0 h1 h2 h3 h4 h5 (0) aSm aLn aAt aWe aRm aBm aHa aS aSv aCm aRd aBy) := hD
    refine lv_aload_n hx hb dX8_paste_5 rfl (lv_at hl 0 rfl) ?_
    refine va_get (D := D) (ci := 8) (v := .ref h1) (C := RX8) (T := TX8) (N := 13) hx hb hg uX8 hown hK.1 hP 0 rfl rfl 1 (by decide) (hg _ gw_941) (fun _ h9 => h9) rfl dX8_paste_6 ?_
    refine lv_bipush (v := 10) hx hb dX8_paste_9 (by decide) ?_
    obtain ⟨v1, h⟩ := rd_some h
    refine va_iald hx hb hK.1 hP 1 0 rfl rfl v1 dX8_paste_11 ?_
    refine lv_if_eq (tgt := 29) hx hb dX8_paste_12 (by decide) (fun q2 => ?_) (fun q2 => ?_)
    · replace h := it_some q2 h
      refine lv_aload_n hx hb dX8_paste_29 rfl (lv_at hl 0 rfl) ?_
      refine lv_iconst (v := 1) hx hb dX8_paste_30 (by decide) ?_
      obtain ⟨⟨r3, aTh_3⟩, ec3, h⟩ := bd_some h
      refine cV_i (As := [.int 1]) (rest := []) (wc := (wX8 cI h0 h1 h2 h3 h4 h5 (0) aSm aLn aAt aWe aRm aBm aHa aS aSv aCm aRd aBy)) (wc' := (wX8 cI h0 h1 h2 h3 h4 h5 aTh_3 aSm aLn aAt aWe aRm aBm aHa aS aSv aCm aRd aBy)) hx hb hml hown hg hK hP hD hS hA hl.1 (k_X8_fails l D cI cS cL Z h0 h1 h2 h3 h4 h5 1 (0) aSm aLn aAt aWe aRm aBm aHa aS aSv aCm aRd aBy ec3) gm_X8_fails gw_994 ⟨rfl, rfl, by decide, by decide⟩ ⟨Nat.zero_le _, Nat.zero_le _⟩ [0, 1, 2, 3, 4, 5] rfl rfl rfl rfl rfl rfl rfl rfl (Nat.le_of_ble_eq_true rfl) dX8_paste_31 (fun H locs hP hD hS => ?_)
      have hP : va_P D vwCl (wX8 cI h0 h1 h2 h3 h4 h5 aTh_3 aSm aLn aAt aWe aRm aBm aHa aS aSv aCm aRd aBy) H := hP
      have hD : va_D A (wX8 cI h0 h1 h2 h3 h4 h5 aTh_3 aSm aLn aAt aWe aRm aBm aHa aS aSv aCm aRd aBy) := hD
      cases h
      exact ret_i hx hb hr hlocks hP hD hS dX8_paste_34 rfl
    · replace h := if_some q2 h
      refine lv_aload_n hx hb dX8_paste_15 rfl (lv_at hl 0 rfl) ?_
      refine lv_aload_n hx hb dX8_paste_16 rfl (lv_at hl 0 rfl) ?_
      refine va_get (D := D) (ci := 8) (v := .ref h1) (C := RX8) (T := TX8) (N := 13) hx hb hg uX8 hown hK.1 hP 0 rfl rfl 1 (by decide) (hg _ gw_941) (fun _ h9 => h9) rfl dX8_paste_17 ?_
      refine lv_bipush (v := 10) hx hb dX8_paste_20 (by decide) ?_
      obtain ⟨v4, h⟩ := rd_some h
      refine va_iald hx hb hK.1 hP 1 0 rfl rfl v4 dX8_paste_22 ?_
      obtain ⟨r5, ec5, h⟩ := bd_some h
      refine cV_i (As := [.int (aS (Int32.toNatClampNeg 10))]) (rest := []) (wc := (wX8 cI h0 h1 h2 h3 h4 h5 (0) aSm aLn aAt aWe aRm aBm aHa aS aSv aCm aRd aBy)) (wc' := (wX8 cI h0 h1 h2 h3 h4 h5 (0) aSm aLn aAt aWe aRm aBm aHa aS aSv aCm aRd aBy)) hx hb hml hown hg hK hP hD hS hA hl.1 (k_X8_hasRoom l D cI cS cL Z h0 h1 h2 h3 h4 h5 (aS (Int32.toNatClampNeg 10)) (0) aSm aLn aAt aWe aRm aBm aHa aS aSv aCm aRd aBy ec5) gm_X8_hasRoom gw_998 ⟨rfl, rfl, by decide, by decide⟩ ⟨Nat.zero_le _, Nat.zero_le _⟩ [0, 1, 2, 3, 4, 5] rfl rfl rfl rfl rfl rfl rfl rfl (Nat.le_of_ble_eq_true rfl) dX8_paste_23 (fun H locs hP hD hS => ?_)
      have hP : va_P D vwCl (wX8 cI h0 h1 h2 h3 h4 h5 (0) aSm aLn aAt aWe aRm aBm aHa aS aSv aCm aRd aBy) H := hP
      have hD : va_D A (wX8 cI h0 h1 h2 h3 h4 h5 (0) aSm aLn aAt aWe aRm aBm aHa aS aSv aCm aRd aBy) := hD
      refine lv_if_ne (tgt := 35) hx hb dX8_paste_26 (by decide) (fun q6 => ?_) (fun q6 => ?_)
      · replace h := if_some q6 h
        refine lv_aload_n hx hb dX8_paste_35 rfl (lv_at hl 0 rfl) ?_
        obtain ⟨⟨aSm_7, aSv_7⟩, ec7, h⟩ := bd_some h
        refine cV_v (As := []) (rest := []) (wc := (wX8 cI h0 h1 h2 h3 h4 h5 (0) aSm aLn aAt aWe aRm aBm aHa aS aSv aCm aRd aBy)) (wc' := (wX8 cI h0 h1 h2 h3 h4 h5 (0) aSm_7 aLn aAt aWe aRm aBm aHa aS aSv_7 aCm aRd aBy)) hx hb hml hown hg hK hP hD hS hA hl.1 (k_X8_saves l D cI cS cL Z h0 h1 h2 h3 h4 h5 (0) aSm aLn aAt aWe aRm aBm aHa aS aSv aCm aRd aBy ec7) gm_X8_saves gw_1002 ⟨rfl, rfl, by decide, by decide⟩ ⟨Nat.zero_le _, Nat.zero_le _⟩ [0, 1, 2, 3, 4, 5] rfl rfl rfl rfl rfl rfl rfl rfl (Nat.le_of_ble_eq_true rfl) dX8_paste_36 (fun H locs hP hD hS => ?_)
        have hP : va_P D vwCl (wX8 cI h0 h1 h2 h3 h4 h5 (0) aSm_7 aLn aAt aWe aRm aBm aHa aS aSv_7 aCm aRd aBy) H := hP
        have hD : va_D A (wX8 cI h0 h1 h2 h3 h4 h5 (0) aSm_7 aLn aAt aWe aRm aBm aHa aS aSv_7 aCm aRd aBy) := hD
        refine lv_aload_n hx hb dX8_paste_39 rfl (lv_at hl 0 rfl) ?_
        obtain ⟨⟨aBm_8, aS_8, aBy_8⟩, ec8, h⟩ := bd_some h
        refine cV_v (As := []) (rest := []) (wc := (wX8 cI h0 h1 h2 h3 h4 h5 (0) aSm_7 aLn aAt aWe aRm aBm aHa aS aSv_7 aCm aRd aBy)) (wc' := (wX8 cI h0 h1 h2 h3 h4 h5 (0) aSm_7 aLn aAt aWe aRm aBm_8 aHa aS_8 aSv_7 aCm aRd aBy_8)) hx hb hml hown hg hK hP hD hS hA hl.1 (k_X8_pastes l D cI cS cL Z h0 h1 h2 h3 h4 h5 (0) aSm_7 aLn aAt aWe aRm aBm aHa aS aSv_7 aCm aRd aBy ec8) gm_X8_pastes gw_1140 ⟨rfl, rfl, by decide, by decide⟩ ⟨Nat.zero_le _, Nat.zero_le _⟩ [0, 1, 2, 3, 4, 5] rfl rfl rfl rfl rfl rfl rfl rfl (Nat.le_of_ble_eq_true rfl) dX8_paste_40 (fun H locs hP hD hS => ?_)
        have hP : va_P D vwCl (wX8 cI h0 h1 h2 h3 h4 h5 (0) aSm_7 aLn aAt aWe aRm aBm_8 aHa aS_8 aSv_7 aCm aRd aBy_8) H := hP
        have hD : va_D A (wX8 cI h0 h1 h2 h3 h4 h5 (0) aSm_7 aLn aAt aWe aRm aBm_8 aHa aS_8 aSv_7 aCm aRd aBy_8) := hD
        refine lv_aload_n hx hb dX8_paste_43 rfl (lv_at hl 0 rfl) ?_
        refine va_get (D := D) (ci := 8) (v := .ref h1) (C := RX8) (T := TX8) (N := 13) hx hb hg uX8 hown hK.1 hP 0 rfl rfl 1 (by decide) (hg _ gw_941) (fun _ h9 => h9) rfl dX8_paste_44 ?_
        refine lv_iconst (v := 0) hx hb dX8_paste_47 (by decide) ?_
        obtain ⟨v9, h⟩ := rd_some h
        refine va_iald hx hb hK.1 hP 1 0 rfl rfl v9 dX8_paste_48 ?_
        cases h
        exact ret_i hx hb hr hlocks hP hD hS dX8_paste_49 rfl
      · replace h := it_some q6 h
        refine lv_aload_n hx hb dX8_paste_29 rfl (lv_at hl 0 rfl) ?_
        refine lv_iconst (v := 1) hx hb dX8_paste_30 (by decide) ?_
        obtain ⟨⟨r10, aTh_10⟩, ec10, h⟩ := bd_some h
        refine cV_i (As := [.int 1]) (rest := []) (wc := (wX8 cI h0 h1 h2 h3 h4 h5 (0) aSm aLn aAt aWe aRm aBm aHa aS aSv aCm aRd aBy)) (wc' := (wX8 cI h0 h1 h2 h3 h4 h5 aTh_10 aSm aLn aAt aWe aRm aBm aHa aS aSv aCm aRd aBy)) hx hb hml hown hg hK hP hD hS hA hl.1 (k_X8_fails l D cI cS cL Z h0 h1 h2 h3 h4 h5 1 (0) aSm aLn aAt aWe aRm aBm aHa aS aSv aCm aRd aBy ec10) gm_X8_fails gw_994 ⟨rfl, rfl, by decide, by decide⟩ ⟨Nat.zero_le _, Nat.zero_le _⟩ [0, 1, 2, 3, 4, 5] rfl rfl rfl rfl rfl rfl rfl rfl (Nat.le_of_ble_eq_true rfl) dX8_paste_31 (fun H locs hP hD hS => ?_)
        have hP : va_P D vwCl (wX8 cI h0 h1 h2 h3 h4 h5 aTh_10 aSm aLn aAt aWe aRm aBm aHa aS aSv aCm aRd aBy) H := hP
        have hD : va_D A (wX8 cI h0 h1 h2 h3 h4 h5 aTh_10 aSm aLn aAt aWe aRm aBm aHa aS aSv aCm aRd aBy) := hD
        cases h
        exact ret_i hx hb hr hlocks hP hD hS dX8_paste_34 rfl
  exact hmain _ _ hP hS
abbrev rm_X8_mark : Room := { frames := 2, cells := 0, slots := 0, locals := 42 }
def f_X8_mark (Z : Nat) (p1 : Int32) (aTh : Int32) (aS : Nat → Int32) : Option (Int32 × Int32) :=
  (f_X8_isMark Z p1).bind fun r1 =>
  if r1 = 0 then
    (f_X8_fails Z 1 (0)).bind fun (r3, aTh_3) =>
    some (r3, aTh_3)
  else
    rd (12 + p1) 344 (
    some (aS (Int32.toNatClampNeg (12 + p1)), (0)))
set_option maxRecDepth 100000 in
set_option maxHeartbeats 4000000 in
theorem k_X8_mark (l : Launch) (D : va_G) (cI cS cL : ClassId) (Z : Nat) (h0 : Nat) (h1 : Nat) (h2 : Nat) (h3 : Nat) (h4 : Nat) (h5 : Nat) (p1 : Int32) (aTh : Int32) (aSm : Int32) (aLn : Int32) (aAt : Int32) (aWe : Int32) (aRm : Int32) (aBm : Int32) (aHa : Int64) (aS : Nat → Int32) (aSv : Nat → Int32) (aCm : Nat → Int32) (aRd : Nat → Int32) (aBy : Nat → Int32) {r : Int32} {aTh' : Int32} (h : f_X8_mark Z p1 aTh aS = some (r, aTh')) : CI l yX8_mark cX8_mark 2 (some .int) rm_X8_mark D cI cS cL [.ref h0, .int p1] (wX8 cI h0 h1 h2 h3 h4 h5 aTh aSm aLn aAt aWe aRm aBm aHa aS aSv aCm aRd aBy) (wX8 cI h0 h1 h2 h3 h4 h5 (aTh') aSm aLn aAt aWe aRm aBm aHa aS aSv aCm aRd aBy) r := by
  refine ent_i (by decide +kernel) (Nat.le_of_ble_eq_true rfl) ?_
  intro p e s m args below meth c A ls hx hb hr hml hlocks hg hown hK hP hD hS hA hl
  have hown : s.vm.findClass RX8 = some m.cls := hown
  have hl : lv_has ls 2 [(0, .ref h0), (1, .int p1)] := hl
  have hP : va_P D vwCl (wX8 cI h0 h1 h2 h3 h4 h5 aTh aSm aLn aAt aWe aRm aBm aHa aS aSv aCm aRd aBy) s.heap := hP
  have hD : va_D A (wX8 cI h0 h1 h2 h3 h4 h5 aTh aSm aLn aAt aWe aRm aBm aHa aS aSv aCm aRd aBy) := hD
  show W p l e rm_X8_mark s m args below meth c s.heap [] 0 0 (FI D below args s (wX8 cI h0 h1 h2 h3 h4 h5 (aTh') aSm aLn aAt aWe aRm aBm aHa aS aSv aCm aRd aBy) r A) (F0 m 0 ls [])
  unfold f_X8_mark at h
  have hmain : ∀ (H : Heap) (locs : List Loc), va_P D vwCl (wX8 cI h0 h1 h2 h3 h4 h5 aTh aSm aLn aAt aWe aRm aBm aHa aS aSv aCm aRd aBy) H → va_S A s.heap H locs → W p l e rm_X8_mark s m args below meth c H locs 0 0 (FI D below args s (wX8 cI h0 h1 h2 h3 h4 h5 (aTh') aSm aLn aAt aWe aRm aBm aHa aS aSv aCm aRd aBy) r A) (F0 m 0 ls []) := by
    intro H locs hP hS
    refine lv_aload_n hx hb dX8_mark_0 rfl (lv_at hl 0 rfl) ?_
    refine lv_iconst (v := 0) hx hb dX8_mark_1 (by decide) ?_
    refine va_put (D := D) (ci := 8) (v := .int 0) (ty := tyX8 0) (C := RX8) (T := TX8) (N := 13) hx hb hg uX8 tyX8 tyX8_ok nmX8 hown hK.1 hP hD hS 0 rfl rfl 0 (by decide) (hg _ gw_940) (fun _ h9 => h9) rfl (tyX8_ok 0 (by decide)) rfl rfl (Nat.le_of_ble_eq_true rfl) dX8_mark_2 (fun H locs hP hD hS => ?_)
    have hP : va_P D vwCl (wX8 cI h0 h1 h2 h3 h4 h5 (0) aSm aLn aAt aWe aRm aBm aHa aS aSv aCm aRd aBy) H := hP
    have hD : va_D A (wX8 cI h0 h1 h2 h3 h4 h5 (0) aSm aLn aAt aWe aRm aBm aHa aS aSv aCm aRd aBy) := hD
    refine lv_iload_n hx hb dX8_mark_5 rfl (lv_at hl 1 rfl) ?_
    obtain ⟨r1, ec1, h⟩ := bd_some h
    refine cS_i (As := [.int p1]) (rest := []) (wc := []) (wc' := []) hx hb hml hown hg hK hP hD hS hA hl.1 (k_X8_isMark l D cI cS cL Z p1 ec1) gs_X8_isMark gw_1109 ⟨rfl, rfl, by decide, by decide⟩ ⟨Nat.zero_le _, Nat.zero_le _⟩ [] rfl rfl rfl rfl rfl (Nat.le_of_ble_eq_true rfl) dX8_mark_6 (fun H locs hP hD hS => ?_)
    have hP : va_P D vwCl (wX8 cI h0 h1 h2 h3 h4 h5 (0) aSm aLn aAt aWe aRm aBm aHa aS aSv aCm aRd aBy) H := hP
    have hD : va_D A (wX8 cI h0 h1 h2 h3 h4 h5 (0) aSm aLn aAt aWe aRm aBm aHa aS aSv aCm aRd aBy) := hD
    refine lv_if_eq (tgt := 24) hx hb dX8_mark_9 (by decide) (fun q2 => ?_) (fun q2 => ?_)
    · replace h := it_some q2 h
      refine lv_aload_n hx hb dX8_mark_24 rfl (lv_at hl 0 rfl) ?_
      refine lv_iconst (v := 1) hx hb dX8_mark_25 (by decide) ?_
      obtain ⟨⟨r3, aTh_3⟩, ec3, h⟩ := bd_some h
      refine cV_i (As := [.int 1]) (rest := []) (wc := (wX8 cI h0 h1 h2 h3 h4 h5 (0) aSm aLn aAt aWe aRm aBm aHa aS aSv aCm aRd aBy)) (wc' := (wX8 cI h0 h1 h2 h3 h4 h5 aTh_3 aSm aLn aAt aWe aRm aBm aHa aS aSv aCm aRd aBy)) hx hb hml hown hg hK hP hD hS hA hl.1 (k_X8_fails l D cI cS cL Z h0 h1 h2 h3 h4 h5 1 (0) aSm aLn aAt aWe aRm aBm aHa aS aSv aCm aRd aBy ec3) gm_X8_fails gw_994 ⟨rfl, rfl, by decide, by decide⟩ ⟨Nat.zero_le _, Nat.zero_le _⟩ [0, 1, 2, 3, 4, 5] rfl rfl rfl rfl rfl rfl rfl rfl (Nat.le_of_ble_eq_true rfl) dX8_mark_26 (fun H locs hP hD hS => ?_)
      have hP : va_P D vwCl (wX8 cI h0 h1 h2 h3 h4 h5 aTh_3 aSm aLn aAt aWe aRm aBm aHa aS aSv aCm aRd aBy) H := hP
      have hD : va_D A (wX8 cI h0 h1 h2 h3 h4 h5 aTh_3 aSm aLn aAt aWe aRm aBm aHa aS aSv aCm aRd aBy) := hD
      cases h
      exact ret_i hx hb hr hlocks hP hD hS dX8_mark_29 rfl
    · replace h := if_some q2 h
      refine lv_aload_n hx hb dX8_mark_12 rfl (lv_at hl 0 rfl) ?_
      refine va_get (D := D) (ci := 8) (v := .ref h1) (C := RX8) (T := TX8) (N := 13) hx hb hg uX8 hown hK.1 hP 0 rfl rfl 1 (by decide) (hg _ gw_941) (fun _ h9 => h9) rfl dX8_mark_13 ?_
      refine lv_bipush (v := 12) hx hb dX8_mark_16 (by decide) ?_
      refine lv_iload_n hx hb dX8_mark_18 rfl (lv_at hl 1 rfl) ?_
      refine lv_iadd hx hb dX8_mark_19 ?_
      obtain ⟨v4, h⟩ := rd_some h
      refine va_iald hx hb hK.1 hP 1 0 rfl rfl v4 dX8_mark_20 ?_
      refine lv_goto (tgt := 29) hx hb dX8_mark_21 (by decide) ?_
      cases h
      exact ret_i hx hb hr hlocks hP hD hS dX8_mark_29 rfl
  exact hmain _ _ hP hS
