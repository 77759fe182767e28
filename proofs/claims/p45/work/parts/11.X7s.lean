abbrev rm_X7_isMark : Room := { frames := 0, cells := 0, slots := 0, locals := 0 }
def f_X7_isMark (Z : Nat) (p0 : Int32) : Option (Int32) :=
  if p0 < 0 then
    some 0
  else
    if 4 ≤ p0 then
      some 0
    else
      some 1
set_option maxRecDepth 100000 in
set_option maxHeartbeats 4000000 in
theorem k_X7_isMark (l : Launch) (D : va_G) (cI cS cL : ClassId) (Z : Nat) (p0 : Int32) {r : Int32} (h : f_X7_isMark Z p0 = some r) : CI l yX7_isMark cX7_isMark 1 (some .boolean) rm_X7_isMark D cI cS cL [.int p0] [] [] r := by
  refine ent_i (by decide +kernel) (Nat.le_of_ble_eq_true rfl) ?_
  intro p e s m args below meth c A ls hx hb hr hml hlocks hg hown hK hP hD hS hA hl
  have hown : s.vm.findClass RX7 = some m.cls := hown
  have hl : lv_has ls 1 [(0, .int p0)] := hl
  have hP : va_P D vwCl [] s.heap := hP
  have hD : va_D A [] := hD
  show W p l e rm_X7_isMark s m args below meth c s.heap [] 0 0 (FI D below args s [] r A) (F0 m 0 ls [])
  unfold f_X7_isMark at h
  have hmain : ∀ (H : Heap) (locs : List Loc), va_P D vwCl [] H → va_S A s.heap H locs → W p l e rm_X7_isMark s m args below meth c H locs 0 0 (FI D below args s [] r A) (F0 m 0 ls []) := by
    intro H locs hP hS
    refine lv_iload_n hx hb dX7_isMark_0 rfl (lv_at hl 0 rfl) ?_
    refine lv_if_lt (tgt := 13) hx hb dX7_isMark_1 (by decide) (fun q1 => ?_) (fun q1 => ?_)
    · replace h := it_some q1 h
      refine lv_iconst (v := 0) hx hb dX7_isMark_13 (by decide) ?_
      cases h
      exact ret_z hx hb hr hlocks hP hD hS dX7_isMark_14 (Or.inl rfl) rfl
    · replace h := if_some q1 h
      refine lv_iload_n hx hb dX7_isMark_4 rfl (lv_at hl 0 rfl) ?_
      refine lv_iconst (v := 4) hx hb dX7_isMark_5 (by decide) ?_
      refine lv_icmp_ge (tgt := 13) hx hb dX7_isMark_6 (by decide) (fun q2 => ?_) (fun q2 => ?_)
      · replace h := it_some q2 h
        refine lv_iconst (v := 0) hx hb dX7_isMark_13 (by decide) ?_
        cases h
        exact ret_z hx hb hr hlocks hP hD hS dX7_isMark_14 (Or.inl rfl) rfl
      · replace h := if_some q2 h
        refine lv_iconst (v := 1) hx hb dX7_isMark_9 (by decide) ?_
        refine lv_goto (tgt := 14) hx hb dX7_isMark_10 (by decide) ?_
        cases h
        exact ret_z hx hb hr hlocks hP hD hS dX7_isMark_14 (Or.inr rfl) rfl
  exact hmain _ _ hP hS
abbrev rm_X7_isByte : Room := { frames := 0, cells := 0, slots := 0, locals := 0 }
def f_X7_isByte (Z : Nat) (p0 : Int32) : Option (Int32) :=
  if p0 = 10 then
    some 1
  else
    if p0 < 32 then
      some 0
    else
      if 126 < p0 then
        some 0
      else
        some 1
set_option maxRecDepth 100000 in
set_option maxHeartbeats 4000000 in
theorem k_X7_isByte (l : Launch) (D : va_G) (cI cS cL : ClassId) (Z : Nat) (p0 : Int32) {r : Int32} (h : f_X7_isByte Z p0 = some r) : CI l yX7_isByte cX7_isByte 1 (some .boolean) rm_X7_isByte D cI cS cL [.int p0] [] [] r := by
  refine ent_i (by decide +kernel) (Nat.le_of_ble_eq_true rfl) ?_
  intro p e s m args below meth c A ls hx hb hr hml hlocks hg hown hK hP hD hS hA hl
  have hown : s.vm.findClass RX7 = some m.cls := hown
  have hl : lv_has ls 1 [(0, .int p0)] := hl
  have hP : va_P D vwCl [] s.heap := hP
  have hD : va_D A [] := hD
  show W p l e rm_X7_isByte s m args below meth c s.heap [] 0 0 (FI D below args s [] r A) (F0 m 0 ls [])
  unfold f_X7_isByte at h
  have hmain : ∀ (H : Heap) (locs : List Loc), va_P D vwCl [] H → va_S A s.heap H locs → W p l e rm_X7_isByte s m args below meth c H locs 0 0 (FI D below args s [] r A) (F0 m 0 ls []) := by
    intro H locs hP hS
    refine lv_iload_n hx hb dX7_isByte_0 rfl (lv_at hl 0 rfl) ?_
    refine lv_bipush (v := 10) hx hb dX7_isByte_1 (by decide) ?_
    refine lv_icmp_eq (tgt := 18) hx hb dX7_isByte_3 (by decide) (fun q1 => ?_) (fun q1 => ?_)
    · replace h := it_some q1 h
      refine lv_iconst (v := 1) hx hb dX7_isByte_18 (by decide) ?_
      refine lv_goto (tgt := 23) hx hb dX7_isByte_19 (by decide) ?_
      cases h
      exact ret_z hx hb hr hlocks hP hD hS dX7_isByte_23 (Or.inr rfl) rfl
    · replace h := if_some q1 h
      refine lv_iload_n hx hb dX7_isByte_6 rfl (lv_at hl 0 rfl) ?_
      refine lv_bipush (v := 32) hx hb dX7_isByte_7 (by decide) ?_
      refine lv_icmp_lt (tgt := 22) hx hb dX7_isByte_9 (by decide) (fun q2 => ?_) (fun q2 => ?_)
      · replace h := it_some q2 h
        refine lv_iconst (v := 0) hx hb dX7_isByte_22 (by decide) ?_
        cases h
        exact ret_z hx hb hr hlocks hP hD hS dX7_isByte_23 (Or.inl rfl) rfl
      · replace h := if_some q2 h
        refine lv_iload_n hx hb dX7_isByte_12 rfl (lv_at hl 0 rfl) ?_
        refine lv_bipush (v := 126) hx hb dX7_isByte_13 (by decide) ?_
        refine lv_icmp_gt (tgt := 22) hx hb dX7_isByte_15 (by decide) (fun q3 => ?_) (fun q3 => ?_)
        · replace h := it_some q3 h
          refine lv_iconst (v := 0) hx hb dX7_isByte_22 (by decide) ?_
          cases h
          exact ret_z hx hb hr hlocks hP hD hS dX7_isByte_23 (Or.inl rfl) rfl
        · replace h := if_some q3 h
          refine lv_iconst (v := 1) hx hb dX7_isByte_18 (by decide) ?_
          refine lv_goto (tgt := 23) hx hb dX7_isByte_19 (by decide) ?_
          cases h
          exact ret_z hx hb hr hlocks hP hD hS dX7_isByte_23 (Or.inr rfl) rfl
  exact hmain _ _ hP hS
abbrev rm_X7_isCount : Room := { frames := 0, cells := 0, slots := 0, locals := 0 }
def f_X7_isCount (Z : Nat) (p0 : Int32) : Option (Int32) :=
  if p0 < 1 then
    some 0
  else
    if 100 < p0 then
      some 0
    else
      some 1
set_option maxRecDepth 100000 in
set_option maxHeartbeats 4000000 in
theorem k_X7_isCount (l : Launch) (D : va_G) (cI cS cL : ClassId) (Z : Nat) (p0 : Int32) {r : Int32} (h : f_X7_isCount Z p0 = some r) : CI l yX7_isCount cX7_isCount 1 (some .boolean) rm_X7_isCount D cI cS cL [.int p0] [] [] r := by
  refine ent_i (by decide +kernel) (Nat.le_of_ble_eq_true rfl) ?_
  intro p e s m args below meth c A ls hx hb hr hml hlocks hg hown hK hP hD hS hA hl
  have hown : s.vm.findClass RX7 = some m.cls := hown
  have hl : lv_has ls 1 [(0, .int p0)] := hl
  have hP : va_P D vwCl [] s.heap := hP
  have hD : va_D A [] := hD
  show W p l e rm_X7_isCount s m args below meth c s.heap [] 0 0 (FI D below args s [] r A) (F0 m 0 ls [])
  unfold f_X7_isCount at h
  have hmain : ∀ (H : Heap) (locs : List Loc), va_P D vwCl [] H → va_S A s.heap H locs → W p l e rm_X7_isCount s m args below meth c H locs 0 0 (FI D below args s [] r A) (F0 m 0 ls []) := by
    intro H locs hP hS
    refine lv_iload_n hx hb dX7_isCount_0 rfl (lv_at hl 0 rfl) ?_
    refine lv_iconst (v := 1) hx hb dX7_isCount_1 (by decide) ?_
    refine lv_icmp_lt (tgt := 15) hx hb dX7_isCount_2 (by decide) (fun q1 => ?_) (fun q1 => ?_)
    · replace h := it_some q1 h
      refine lv_iconst (v := 0) hx hb dX7_isCount_15 (by decide) ?_
      cases h
      exact ret_z hx hb hr hlocks hP hD hS dX7_isCount_16 (Or.inl rfl) rfl
    · replace h := if_some q1 h
      refine lv_iload_n hx hb dX7_isCount_5 rfl (lv_at hl 0 rfl) ?_
      refine lv_bipush (v := 100) hx hb dX7_isCount_6 (by decide) ?_
      refine lv_icmp_gt (tgt := 15) hx hb dX7_isCount_8 (by decide) (fun q2 => ?_) (fun q2 => ?_)
      · replace h := it_some q2 h
        refine lv_iconst (v := 0) hx hb dX7_isCount_15 (by decide) ?_
        cases h
        exact ret_z hx hb hr hlocks hP hD hS dX7_isCount_16 (Or.inl rfl) rfl
      · replace h := if_some q2 h
        refine lv_iconst (v := 1) hx hb dX7_isCount_11 (by decide) ?_
        refine lv_goto (tgt := 16) hx hb dX7_isCount_12 (by decide) ?_
        cases h
        exact ret_z hx hb hr hlocks hP hD hS dX7_isCount_16 (Or.inr rfl) rfl
  exact hmain _ _ hP hS
