theorem gw_15 : Cond.initialized RX1 ∈ GW := gw_mem 15 (by decide +kernel) (by decide +kernel)
theorem gw_16 : Cond.initialized RX5 ∈ GW := gw_mem 16 (by decide +kernel) (by decide +kernel)
theorem gw_29 : Cond.methodLink RX7 1 objectInit ∈ GW := gw_mem 29 (by decide +kernel) (by decide +kernel)
theorem gw_30 : Cond.instanceMethod objectInit ∈ GW := gw_mem 30 (by decide +kernel) (by decide +kernel)
theorem gw_31 : Cond.code objectInit ⟨#[0xb1]⟩ 1 none ∈ GW := gw_mem 31 (by decide +kernel) (by decide +kernel)
theorem gw_32 : Cond.classLink RX7 7 RX6 ∈ GW := gw_mem 32 (by decide +kernel) (by decide +kernel)
theorem gw_33 : Cond.instantiable RX6 7 ∈ GW := gw_mem 33 (by decide +kernel) (by decide +kernel)
theorem nw_34 : Cond.methodLinkNest RX7 9 yX6_init "GapBuffer" ∈ NW := nw_mem 34 (by decide +kernel) (by decide +kernel)
theorem gw_35 : Cond.instanceMethod yX6_init ∈ GW := gw_mem 35 (by decide +kernel) (by decide +kernel)
theorem gw_36 : Cond.code yX6_init cX6_init 1 none ∈ GW := gw_mem 36 (by decide +kernel) (by decide +kernel)
theorem gw_37 : Cond.methodLink RX6 3 objectInit ∈ GW := gw_mem 37 (by decide +kernel) (by decide +kernel)
theorem gw_38 : Cond.classLink RX6 9 RX0 ∈ GW := gw_mem 38 (by decide +kernel) (by decide +kernel)
theorem gw_39 : Cond.instantiable RX0 2 ∈ GW := gw_mem 39 (by decide +kernel) (by decide +kernel)
theorem gw_40 : Cond.methodLink RX6 11 yX0_init ∈ GW := gw_mem 40 (by decide +kernel) (by decide +kernel)
theorem gw_41 : Cond.instanceMethod yX0_init ∈ GW := gw_mem 41 (by decide +kernel) (by decide +kernel)
theorem gw_42 : Cond.code yX0_init cX0_init 2 none ∈ GW := gw_mem 42 (by decide +kernel) (by decide +kernel)
theorem gw_43 : Cond.methodLink RX0 3 objectInit ∈ GW := gw_mem 43 (by decide +kernel) (by decide +kernel)
theorem gw_44 : Cond.methodLink RX0 15 Lib.Math.max.name ∈ GW := gw_mem 44 (by decide +kernel) (by decide +kernel)
theorem gw_54 : Cond.arrayClass .int ∈ GW := gw_mem 54 (by decide +kernel) (by decide +kernel)
theorem gw_55 : Cond.classLink RX6 23 RX4 ∈ GW := gw_mem 55 (by decide +kernel) (by decide +kernel)
theorem gw_56 : Cond.instantiable RX4 2 ∈ GW := gw_mem 56 (by decide +kernel) (by decide +kernel)
theorem gw_57 : Cond.methodLink RX6 25 yX4_init ∈ GW := gw_mem 57 (by decide +kernel) (by decide +kernel)
theorem gw_58 : Cond.instanceMethod yX4_init ∈ GW := gw_mem 58 (by decide +kernel) (by decide +kernel)
theorem gw_59 : Cond.code yX4_init cX4_init 2 none ∈ GW := gw_mem 59 (by decide +kernel) (by decide +kernel)
theorem gw_60 : Cond.methodLink RX4 3 objectInit ∈ GW := gw_mem 60 (by decide +kernel) (by decide +kernel)
theorem gw_68 : Cond.classLink RX6 30 RX3 ∈ GW := gw_mem 68 (by decide +kernel) (by decide +kernel)
theorem gw_69 : Cond.instantiable RX3 6 ∈ GW := gw_mem 69 (by decide +kernel) (by decide +kernel)
theorem nw_70 : Cond.methodLinkNest RX6 32 yX3_init "GapBuffer" ∈ NW := nw_mem 70 (by decide +kernel) (by decide +kernel)
theorem gw_71 : Cond.instanceMethod yX3_init ∈ GW := gw_mem 71 (by decide +kernel) (by decide +kernel)
theorem gw_72 : Cond.code yX3_init cX3_init 1 none ∈ GW := gw_mem 72 (by decide +kernel) (by decide +kernel)
theorem gw_73 : Cond.methodLink RX3 3 objectInit ∈ GW := gw_mem 73 (by decide +kernel) (by decide +kernel)
theorem gw_132 : Cond.classLink RX7 16 RX2 ∈ GW := gw_mem 132 (by decide +kernel) (by decide +kernel)
theorem gw_133 : Cond.instantiable RX2 3 ∈ GW := gw_mem 133 (by decide +kernel) (by decide +kernel)
theorem gw_134 : Cond.methodLink RX7 18 yX2_init ∈ GW := gw_mem 134 (by decide +kernel) (by decide +kernel)
theorem gw_135 : Cond.instanceMethod yX2_init ∈ GW := gw_mem 135 (by decide +kernel) (by decide +kernel)
theorem gw_136 : Cond.code yX2_init cX2_init 2 none ∈ GW := gw_mem 136 (by decide +kernel) (by decide +kernel)
theorem gw_137 : Cond.methodLink RX2 3 objectInit ∈ GW := gw_mem 137 (by decide +kernel) (by decide +kernel)
theorem gw_138 : Cond.classLink RX2 9 RX6 ∈ GW := gw_mem 138 (by decide +kernel) (by decide +kernel)
theorem nw_140 : Cond.methodLinkNest RX2 24 yX6_init "GapBuffer" ∈ NW := nw_mem 140 (by decide +kernel) (by decide +kernel)
theorem gw_151 : Cond.classLink RX7 23 RX1 ∈ GW := gw_mem 151 (by decide +kernel) (by decide +kernel)
theorem gw_152 : Cond.instantiable RX1 2 ∈ GW := gw_mem 152 (by decide +kernel) (by decide +kernel)
theorem nw_153 : Cond.methodLinkNest RX7 25 yX1_init "GapBuffer" ∈ NW := nw_mem 153 (by decide +kernel) (by decide +kernel)
theorem gw_154 : Cond.instanceMethod yX1_init ∈ GW := gw_mem 154 (by decide +kernel) (by decide +kernel)
theorem gw_155 : Cond.code yX1_init cX1_init 1 none ∈ GW := gw_mem 155 (by decide +kernel) (by decide +kernel)
theorem gw_156 : Cond.methodLink RX1 3 objectInit ∈ GW := gw_mem 156 (by decide +kernel) (by decide +kernel)
theorem gw_157 : Cond.classLink RX1 9 RX0 ∈ GW := gw_mem 157 (by decide +kernel) (by decide +kernel)
theorem gw_158 : Cond.methodLink RX1 11 yX0_init ∈ GW := gw_mem 158 (by decide +kernel) (by decide +kernel)
theorem gw_159 : Cond.classLink RX1 20 RX5 ∈ GW := gw_mem 159 (by decide +kernel) (by decide +kernel)
theorem gw_160 : Cond.instantiable RX5 3 ∈ GW := gw_mem 160 (by decide +kernel) (by decide +kernel)
theorem nw_161 : Cond.methodLinkNest RX1 22 yX5_init "GapBuffer" ∈ NW := nw_mem 161 (by decide +kernel) (by decide +kernel)
theorem gw_162 : Cond.instanceMethod yX5_init ∈ GW := gw_mem 162 (by decide +kernel) (by decide +kernel)
theorem gw_163 : Cond.code yX5_init cX5_init 1 none ∈ GW := gw_mem 163 (by decide +kernel) (by decide +kernel)
theorem gw_164 : Cond.methodLink RX5 3 objectInit ∈ GW := gw_mem 164 (by decide +kernel) (by decide +kernel)
theorem gw_165 : Cond.fieldLink RX5 9 "GapBuffer$Reader" "command" "I" ∈ GW := gw_mem 165 (by decide +kernel) (by decide +kernel)
theorem gw_166 : Cond.fieldLink RX5 15 "GapBuffer$Reader" "letters" "I" ∈ GW := gw_mem 166 (by decide +kernel) (by decide +kernel)
theorem gw_167 : Cond.fieldLink RX5 18 "GapBuffer$Reader" "number" "I" ∈ GW := gw_mem 167 (by decide +kernel) (by decide +kernel)
theorem gw_175 : Cond.fieldLink RX1 14 "GapBuffer$Commands" "buffer" "LGapBuffer$Bytes;" ∈ GW := gw_mem 175 (by decide +kernel) (by decide +kernel)
theorem gw_176 : Cond.fieldLink RX1 23 "GapBuffer$Commands" "reader" "LGapBuffer$Reader;" ∈ GW := gw_mem 176 (by decide +kernel) (by decide +kernel)
theorem gw_182 : Cond.classLink RX7 30 RX3 ∈ GW := gw_mem 182 (by decide +kernel) (by decide +kernel)
theorem nw_183 : Cond.methodLinkNest RX7 32 yX3_init "GapBuffer" ∈ NW := nw_mem 183 (by decide +kernel) (by decide +kernel)
theorem gw_186 : Cond.fieldLink RX7 26 "GapBuffer" "commands" "LGapBuffer$Commands;" ∈ GW := gw_mem 186 (by decide +kernel) (by decide +kernel)
theorem gw_187 : Cond.fieldLink RX7 33 "GapBuffer" "forecast" "LGapBuffer$Layout;" ∈ GW := gw_mem 187 (by decide +kernel) (by decide +kernel)
def mP0 : Nat → Int32 := upd (upd (upd (upd (fun _ => 0) 0 (-1)) 1 (-1)) 2 (-1)) 3 (-1)
def s0 : Nat → Int32 := upd (upd (upd (upd (upd (fun _ => 0) 3 8) 12 (-1)) 13 (-1)) 14 (-1)) 15 (-1)
abbrev st0 : StT := (0, 0, 0, 0, (fun _ => 0), 0, (fun _ => 0), mP0, (fun _ => 0), 8, 0, 0, 0, 0, 0)
def ad (h0 : Nat) (u : Nat → Nat) : Nat → Nat := fun i => match i with
  | 0 => h0
  | k + 1 => u (k + 1)
theorem pm_h {α : Type} {b a r0 r1 r2 r3 r4 r5 : List α} : ((((((((b ++ a) ++ r0) ++ r1) ++ r2) ++ r3) ++ r4) ++ r5)).Perm ((b ++ a) ++ (r0 ++ (r1 ++ (r2 ++ (r3 ++ (r4 ++ (r5 ++ []))))))) := List.Perm.of_eq (by simp only [List.append_assoc, List.append_nil])
theorem pm_i {α : Type} {g : α} {st hi co la : List α} : (((([g] ++ st) ++ hi) ++ co) ++ la).Perm (g :: (st ++ (co ++ (la ++ hi)))) := by
  classical
  rw [List.perm_iff_count]
  intro a
  simp only [List.count_append, List.count_cons, List.count_nil]
  omega
abbrev rn_X0_256 : Room := { frames := 1, cells := 1, slots := 256, locals := 21 }
set_option maxRecDepth 100000 in
set_option maxHeartbeats 4000000 in
theorem kn_X0_256 (l : Launch) (D : va_G) (cI cS cL : ClassId) (h0 : Nat) : CN l yX0_init cX0_init 2 rn_X0_256 D cI cS cL [.ref h0, .int 256] [(h0, .inr (0, [.null, .int 0]))] (fun (hh : Nat → Nat) => wX0 cI h0 (hh 1) 256 0 (fun _ => 0)) 1 256 := by
  refine ent_n (by decide +kernel) rfl (Nat.le_of_ble_eq_true rfl) ?_
  intro p e s m args below meth c A ls hx hb hr hml hlocks hg hown hK hP hD hS hA hl hin
  have hown : s.vm.findClass RX0 = some m.cls := hown
  have hl : lv_has ls 2 [(0, .ref h0), (1, .int 256)] := hl
  refine lv_aload_n hx hb dX0_init_0 rfl (lv_at hl 0 rfl) ?_
  refine W.objInit hx hb hown (hg _ gw_43) (hg _ gw_30) (hg _ gw_31) rfl (by rw [hml]; exact hl.1) rfl dX0_init_1 (Nat.le_of_ble_eq_true rfl) (Nat.le_of_ble_eq_true rfl) ?_
  refine W.eq (g2 := F0 m 4 ls []) rfl ?_
  refine lv_aload_n hx hb dX0_init_4 rfl (lv_at hl 0 rfl) ?_
  refine lv_iconst (v := 0) hx hb dX0_init_5 (by decide) ?_
  refine va_put (D := D) (ci := 0) (v := .int 0) (ty := tyX0 1) (C := RX0) (T := TX0) (N := 2) hx hb hg uX0 tyX0 tyX0_ok nmX0 hown hK.1 hP hD hS 0 rfl rfl 1 (by decide) (hg _ gw_48) (fun _ h9 => h9) rfl (tyX0_ok 1 (by decide)) rfl rfl (Nat.le_of_ble_eq_true rfl) dX0_init_6 (fun H locs hP hD hS => ?_)
  have hP : va_P D vwCl [(h0, .inr (0, [.null, .int 0]))] H := hP
  have hD : va_D A [(h0, .inr (0, [.null, .int 0]))] := hD
  refine lv_aload_n hx hb dX0_init_9 rfl (lv_at hl 0 rfl) ?_
  refine lv_iconst (v := 0) hx hb dX0_init_10 (by decide) ?_
  refine lv_iload_n hx hb dX0_init_11 rfl (lv_at hl 1 rfl) ?_
  refine va_mmax hx hb (hml.trans hl.1.symm) hown (hg _ gw_44) (hg _ gw_45) (hg _ gw_11) (hg _ gw_46) (by decide) (Nat.le_of_ble_eq_true rfl) (Nat.le_of_ble_eq_true rfl) (Nat.le_of_ble_eq_true rfl) dX0_init_12 ?_
  refine nm_i (y := 256) (by decide) ?_
  refine va_newa (atype := .int) (N' := 256) (a0 := (256, .inl (fun _ => 0))) hx hb (hg _ gw_54) rfl hK.1 hP hD hS hA (fun _ => rfl) (by decide) (by decide) (by decide) (Nat.le_of_ble_eq_true rfl) (Nat.le_of_ble_eq_true rfl) dX0_init_15 (fun q1 cA H hK1 hP hD hS => ?_)
  have e9 : cI = cA := (cA_int (k := 3) (j := 0) hK1 rfl rfl).symm
  subst e9
  have hP : va_P D vwCl ([(h0, .inr (0, [.null, .int 0]))] ++ [(q1, .inl (cI, 256, .inl (fun _ => 0)))]) H := hP
  have hD : va_D A ([(h0, .inr (0, [.null, .int 0]))] ++ [(q1, .inl (cI, 256, .inl (fun _ => 0)))]) := hD
  refine va_putF (D := D) (ci := 0) (v := .ref q1) (ty := tyX0 0) (C := RX0) (T := TX0) (N := 2) hx hb hg uX0 tyX0 tyX0_ok nmX0 hown hK.1 hP hD hS 0 rfl rfl 0 (by decide) (hg _ gw_47) (fun _ h9 => h9) rfl hin rfl (tyX0_ok 0 (by decide)) rfl rfl (Nat.le_of_ble_eq_true rfl) dX0_init_17 (fun H locs hP hD hS => ?_)
  have hP : va_P D vwCl ([(h0, .inr (0, [.ref q1, .int 0]))] ++ [(q1, .inl (cI, 256, .inl (fun _ => 0)))]) H := hP
  have hD : va_D A ([(h0, .inr (0, [.ref q1, .int 0]))] ++ [(q1, .inl (cI, 256, .inl (fun _ => 0)))]) := hD
  exact ret_n (fun i => ([h0, q1] : List Nat).getD i 0) hx hb hr hlocks hP hD hS (Nat.le_of_ble_eq_true rfl) (Nat.le_of_ble_eq_true rfl) dX0_init_20
abbrev rn_X0_60 : Room := { frames := 1, cells := 1, slots := 60, locals := 21 }
set_option maxRecDepth 100000 in
set_option maxHeartbeats 4000000 in
theorem kn_X0_60 (l : Launch) (D : va_G) (cI cS cL : ClassId) (h0 : Nat) : CN l yX0_init cX0_init 2 rn_X0_60 D cI cS cL [.ref h0, .int 60] [(h0, .inr (0, [.null, .int 0]))] (fun (hh : Nat → Nat) => wX0 cI h0 (hh 1) 60 0 (fun _ => 0)) 1 60 := by
  refine ent_n (by decide +kernel) rfl (Nat.le_of_ble_eq_true rfl) ?_
  intro p e s m args below meth c A ls hx hb hr hml hlocks hg hown hK hP hD hS hA hl hin
  have hown : s.vm.findClass RX0 = some m.cls := hown
  have hl : lv_has ls 2 [(0, .ref h0), (1, .int 60)] := hl
  refine lv_aload_n hx hb dX0_init_0 rfl (lv_at hl 0 rfl) ?_
  refine W.objInit hx hb hown (hg _ gw_43) (hg _ gw_30) (hg _ gw_31) rfl (by rw [hml]; exact hl.1) rfl dX0_init_1 (Nat.le_of_ble_eq_true rfl) (Nat.le_of_ble_eq_true rfl) ?_
  refine W.eq (g2 := F0 m 4 ls []) rfl ?_
  refine lv_aload_n hx hb dX0_init_4 rfl (lv_at hl 0 rfl) ?_
  refine lv_iconst (v := 0) hx hb dX0_init_5 (by decide) ?_
  refine va_put (D := D) (ci := 0) (v := .int 0) (ty := tyX0 1) (C := RX0) (T := TX0) (N := 2) hx hb hg uX0 tyX0 tyX0_ok nmX0 hown hK.1 hP hD hS 0 rfl rfl 1 (by decide) (hg _ gw_48) (fun _ h9 => h9) rfl (tyX0_ok 1 (by decide)) rfl rfl (Nat.le_of_ble_eq_true rfl) dX0_init_6 (fun H locs hP hD hS => ?_)
  have hP : va_P D vwCl [(h0, .inr (0, [.null, .int 0]))] H := hP
  have hD : va_D A [(h0, .inr (0, [.null, .int 0]))] := hD
  refine lv_aload_n hx hb dX0_init_9 rfl (lv_at hl 0 rfl) ?_
  refine lv_iconst (v := 0) hx hb dX0_init_10 (by decide) ?_
  refine lv_iload_n hx hb dX0_init_11 rfl (lv_at hl 1 rfl) ?_
  refine va_mmax hx hb (hml.trans hl.1.symm) hown (hg _ gw_44) (hg _ gw_45) (hg _ gw_11) (hg _ gw_46) (by decide) (Nat.le_of_ble_eq_true rfl) (Nat.le_of_ble_eq_true rfl) (Nat.le_of_ble_eq_true rfl) dX0_init_12 ?_
  refine nm_i (y := 60) (by decide) ?_
  refine va_newa (atype := .int) (N' := 60) (a0 := (60, .inl (fun _ => 0))) hx hb (hg _ gw_54) rfl hK.1 hP hD hS hA (fun _ => rfl) (by decide) (by decide) (by decide) (Nat.le_of_ble_eq_true rfl) (Nat.le_of_ble_eq_true rfl) dX0_init_15 (fun q1 cA H hK1 hP hD hS => ?_)
  have e9 : cI = cA := (cA_int (k := 3) (j := 0) hK1 rfl rfl).symm
  subst e9
  have hP : va_P D vwCl ([(h0, .inr (0, [.null, .int 0]))] ++ [(q1, .inl (cI, 60, .inl (fun _ => 0)))]) H := hP
  have hD : va_D A ([(h0, .inr (0, [.null, .int 0]))] ++ [(q1, .inl (cI, 60, .inl (fun _ => 0)))]) := hD
  refine va_putF (D := D) (ci := 0) (v := .ref q1) (ty := tyX0 0) (C := RX0) (T := TX0) (N := 2) hx hb hg uX0 tyX0 tyX0_ok nmX0 hown hK.1 hP hD hS 0 rfl rfl 0 (by decide) (hg _ gw_47) (fun _ h9 => h9) rfl hin rfl (tyX0_ok 0 (by decide)) rfl rfl (Nat.le_of_ble_eq_true rfl) dX0_init_17 (fun H locs hP hD hS => ?_)
  have hP : va_P D vwCl ([(h0, .inr (0, [.ref q1, .int 0]))] ++ [(q1, .inl (cI, 60, .inl (fun _ => 0)))]) H := hP
  have hD : va_D A ([(h0, .inr (0, [.ref q1, .int 0]))] ++ [(q1, .inl (cI, 60, .inl (fun _ => 0)))]) := hD
  exact ret_n (fun i => ([h0, q1] : List Nat).getD i 0) hx hb hr hlocks hP hD hS (Nat.le_of_ble_eq_true rfl) (Nat.le_of_ble_eq_true rfl) dX0_init_20
abbrev rn_X3 : Room := { frames := 1, cells := 0, slots := 0, locals := 12 }
set_option maxRecDepth 100000 in
set_option maxHeartbeats 4000000 in
theorem kn_X3 (l : Launch) (D : va_G) (cI cS cL : ClassId) (h0 : Nat) : CN l yX3_init cX3_init 1 rn_X3 D cI cS cL [.ref h0] [(h0, .inr (3, [.int 0, .int 0, .int 0, .int 0, .int 0, .int 0]))] (fun (hh : Nat → Nat) => wX3 cI h0 8 0 0 0 0 0) 0 0 := by
  refine ent_n (by decide +kernel) rfl (Nat.le_of_ble_eq_true rfl) ?_
  intro p e s m args below meth c A ls hx hb hr hml hlocks hg hown hK hP hD hS hA hl hin
  have hown : s.vm.findClass RX3 = some m.cls := hown
  have hl : lv_has ls 1 [(0, .ref h0)] := hl
  refine lv_aload_n hx hb dX3_init_0 rfl (lv_at hl 0 rfl) ?_
  refine W.objInit hx hb hown (hg _ gw_73) (hg _ gw_30) (hg _ gw_31) rfl (by rw [hml]; exact hl.1) rfl dX3_init_1 (Nat.le_of_ble_eq_true rfl) (Nat.le_of_ble_eq_true rfl) ?_
  refine W.eq (g2 := F0 m 4 ls []) rfl ?_
  refine lv_aload_n hx hb dX3_init_4 rfl (lv_at hl 0 rfl) ?_
  refine lv_bipush (v := 8) hx hb dX3_init_5 (by decide) ?_
  refine va_put (D := D) (ci := 3) (v := .int 8) (ty := tyX3 0) (C := RX3) (T := TX3) (N := 6) hx hb hg uX3 tyX3 tyX3_ok nmX3 hown hK.1 hP hD hS 0 rfl rfl 0 (by decide) (hg _ gw_74) (fun _ h9 => h9) rfl (tyX3_ok 0 (by decide)) rfl rfl (Nat.le_of_ble_eq_true rfl) dX3_init_7 (fun H locs hP hD hS => ?_)
  have hP : va_P D vwCl [(h0, .inr (3, [.int 8, .int 0, .int 0, .int 0, .int 0, .int 0]))] H := hP
  have hD : va_D A [(h0, .inr (3, [.int 8, .int 0, .int 0, .int 0, .int 0, .int 0]))] := hD
  refine lv_aload_n hx hb dX3_init_10 rfl (lv_at hl 0 rfl) ?_
  refine lv_iconst (v := 0) hx hb dX3_init_11 (by decide) ?_
  refine va_put (D := D) (ci := 3) (v := .int 0) (ty := tyX3 1) (C := RX3) (T := TX3) (N := 6) hx hb hg uX3 tyX3 tyX3_ok nmX3 hown hK.1 hP hD hS 0 rfl rfl 1 (by decide) (hg _ gw_77) (fun _ h9 => h9) rfl (tyX3_ok 1 (by decide)) rfl rfl (Nat.le_of_ble_eq_true rfl) dX3_init_12 (fun H locs hP hD hS => ?_)
  have hP : va_P D vwCl [(h0, .inr (3, [.int 8, .int 0, .int 0, .int 0, .int 0, .int 0]))] H := hP
  have hD : va_D A [(h0, .inr (3, [.int 8, .int 0, .int 0, .int 0, .int 0, .int 0]))] := hD
  refine lv_aload_n hx hb dX3_init_15 rfl (lv_at hl 0 rfl) ?_
  refine lv_iconst (v := 0) hx hb dX3_init_16 (by decide) ?_
  refine va_put (D := D) (ci := 3) (v := .int 0) (ty := tyX3 2) (C := RX3) (T := TX3) (N := 6) hx hb hg uX3 tyX3 tyX3_ok nmX3 hown hK.1 hP hD hS 0 rfl rfl 2 (by decide) (hg _ gw_80) (fun _ h9 => h9) rfl (tyX3_ok 2 (by decide)) rfl rfl (Nat.le_of_ble_eq_true rfl) dX3_init_17 (fun H locs hP hD hS => ?_)
  have hP : va_P D vwCl [(h0, .inr (3, [.int 8, .int 0, .int 0, .int 0, .int 0, .int 0]))] H := hP
  have hD : va_D A [(h0, .inr (3, [.int 8, .int 0, .int 0, .int 0, .int 0, .int 0]))] := hD
  refine lv_aload_n hx hb dX3_init_20 rfl (lv_at hl 0 rfl) ?_
  refine lv_iconst (v := 0) hx hb dX3_init_21 (by decide) ?_
  refine va_put (D := D) (ci := 3) (v := .int 0) (ty := tyX3 3) (C := RX3) (T := TX3) (N := 6) hx hb hg uX3 tyX3 tyX3_ok nmX3 hown hK.1 hP hD hS 0 rfl rfl 3 (by decide) (hg _ gw_82) (fun _ h9 => h9) rfl (tyX3_ok 3 (by decide)) rfl rfl (Nat.le_of_ble_eq_true rfl) dX3_init_22 (fun H locs hP hD hS => ?_)
  have hP : va_P D vwCl [(h0, .inr (3, [.int 8, .int 0, .int 0, .int 0, .int 0, .int 0]))] H := hP
  have hD : va_D A [(h0, .inr (3, [.int 8, .int 0, .int 0, .int 0, .int 0, .int 0]))] := hD
  refine lv_aload_n hx hb dX3_init_25 rfl (lv_at hl 0 rfl) ?_
  refine lv_iconst (v := 0) hx hb dX3_init_26 (by decide) ?_
  refine va_put (D := D) (ci := 3) (v := .int 0) (ty := tyX3 4) (C := RX3) (T := TX3) (N := 6) hx hb hg uX3 tyX3 tyX3_ok nmX3 hown hK.1 hP hD hS 0 rfl rfl 4 (by decide) (hg _ gw_85) (fun _ h9 => h9) rfl (tyX3_ok 4 (by decide)) rfl rfl (Nat.le_of_ble_eq_true rfl) dX3_init_27 (fun H locs hP hD hS => ?_)
  have hP : va_P D vwCl [(h0, .inr (3, [.int 8, .int 0, .int 0, .int 0, .int 0, .int 0]))] H := hP
  have hD : va_D A [(h0, .inr (3, [.int 8, .int 0, .int 0, .int 0, .int 0, .int 0]))] := hD
  refine lv_aload_n hx hb dX3_init_30 rfl (lv_at hl 0 rfl) ?_
  refine lv_iconst (v := 0) hx hb dX3_init_31 (by decide) ?_
  refine va_put (D := D) (ci := 3) (v := .int 0) (ty := tyX3 5) (C := RX3) (T := TX3) (N := 6) hx hb hg uX3 tyX3 tyX3_ok nmX3 hown hK.1 hP hD hS 0 rfl rfl 5 (by decide) (hg _ gw_88) (fun _ h9 => h9) rfl (tyX3_ok 5 (by decide)) rfl rfl (Nat.le_of_ble_eq_true rfl) dX3_init_32 (fun H locs hP hD hS => ?_)
  have hP : va_P D vwCl [(h0, .inr (3, [.int 8, .int 0, .int 0, .int 0, .int 0, .int 0]))] H := hP
  have hD : va_D A [(h0, .inr (3, [.int 8, .int 0, .int 0, .int 0, .int 0, .int 0]))] := hD
  exact ret_n (fun i => ([h0] : List Nat).getD i 0) hx hb hr hlocks hP hD hS (Nat.le_of_ble_eq_true rfl) (Nat.le_of_ble_eq_true rfl) dX3_init_35
abbrev rn_X4 : Room := { frames := 1, cells := 2, slots := 8, locals := 12 }
set_option maxRecDepth 100000 in
set_option maxHeartbeats 4000000 in
theorem kn_X4 (l : Launch) (D : va_G) (cI cS cL : ClassId) (h0 : Nat) : CN l yX4_init cX4_init 2 rn_X4 D cI cS cL [.ref h0] [(h0, .inr (4, [.null, .null]))] (fun (hh : Nat → Nat) => wX4 cI h0 (hh 1) (hh 2) mP0 (fun _ => 0)) 2 8 := by
  refine ent_n (by decide +kernel) rfl (Nat.le_of_ble_eq_true rfl) ?_
  intro p e s m args below meth c A ls hx hb hr hml hlocks hg hown hK hP hD hS hA hl hin
  have hown : s.vm.findClass RX4 = some m.cls := hown
  have hl : lv_has ls 2 [(0, .ref h0)] := hl
  refine lv_aload_n hx hb dX4_init_0 rfl (lv_at hl 0 rfl) ?_
  refine W.objInit hx hb hown (hg _ gw_60) (hg _ gw_30) (hg _ gw_31) rfl (by rw [hml]; exact hl.1) rfl dX4_init_1 (Nat.le_of_ble_eq_true rfl) (Nat.le_of_ble_eq_true rfl) ?_
  refine W.eq (g2 := F0 m 4 ls []) rfl ?_
  refine lv_aload_n hx hb dX4_init_4 rfl (lv_at hl 0 rfl) ?_
  refine lv_iconst (v := 4) hx hb dX4_init_5 (by decide) ?_
  refine va_newa (atype := .int) (N' := 4) (a0 := (4, .inl (fun _ => 0))) hx hb (hg _ gw_54) rfl hK.1 hP hD hS hA (fun _ => rfl) (by decide) (by decide) (by decide) (Nat.le_of_ble_eq_true rfl) (Nat.le_of_ble_eq_true rfl) dX4_init_6 (fun q1 cA H hK1 hP hD hS => ?_)
  have e9 : cI = cA := (cA_int (k := 3) (j := 0) hK1 rfl rfl).symm
  subst e9
  have hP : va_P D vwCl ([(h0, .inr (4, [.null, .null]))] ++ [(q1, .inl (cI, 4, .inl (fun _ => 0)))]) H := hP
  have hD : va_D A ([(h0, .inr (4, [.null, .null]))] ++ [(q1, .inl (cI, 4, .inl (fun _ => 0)))]) := hD
  refine va_putF (D := D) (ci := 4) (v := .ref q1) (ty := tyX4 0) (C := RX4) (T := TX4) (N := 2) hx hb hg uX4 tyX4 tyX4_ok nmX4 hown hK.1 hP hD hS 0 rfl rfl 0 (by decide) (hg _ gw_61) (fun _ h9 => h9) rfl hin rfl (tyX4_ok 0 (by decide)) rfl rfl (Nat.le_of_ble_eq_true rfl) dX4_init_8 (fun H locs hP hD hS => ?_)
  have hP : va_P D vwCl ([(h0, .inr (4, [.ref q1, .null]))] ++ [(q1, .inl (cI, 4, .inl (fun _ => 0)))]) H := hP
  have hD : va_D A ([(h0, .inr (4, [.ref q1, .null]))] ++ [(q1, .inl (cI, 4, .inl (fun _ => 0)))]) := hD
  refine lv_aload_n hx hb dX4_init_11 rfl (lv_at hl 0 rfl) ?_
  refine lv_iconst (v := 4) hx hb dX4_init_12 (by decide) ?_
  refine va_newa (atype := .int) (N' := 4) (a0 := (4, .inl (fun _ => 0))) hx hb (hg _ gw_54) rfl hK.1 hP hD hS hA (fun _ => rfl) (by decide) (by decide) (by decide) (Nat.le_of_ble_eq_true rfl) (Nat.le_of_ble_eq_true rfl) dX4_init_13 (fun q2 cA H hK1 hP hD hS => ?_)
  have e9 : cI = cA := (cA_int (k := 3) (j := 0) hK1 rfl rfl).symm
  subst e9
  have hP : va_P D vwCl (([(h0, .inr (4, [.ref q1, .null]))] ++ [(q1, .inl (cI, 4, .inl (fun _ => 0)))]) ++ [(q2, .inl (cI, 4, .inl (fun _ => 0)))]) H := hP
  have hD : va_D A (([(h0, .inr (4, [.ref q1, .null]))] ++ [(q1, .inl (cI, 4, .inl (fun _ => 0)))]) ++ [(q2, .inl (cI, 4, .inl (fun _ => 0)))]) := hD
  refine va_putF (D := D) (ci := 4) (v := .ref q2) (ty := tyX4 1) (C := RX4) (T := TX4) (N := 2) hx hb hg uX4 tyX4 tyX4_ok nmX4 hown hK.1 hP hD hS 0 rfl rfl 1 (by decide) (hg _ gw_62) (fun _ h9 => h9) rfl hin rfl (tyX4_ok 1 (by decide)) rfl rfl (Nat.le_of_ble_eq_true rfl) dX4_init_15 (fun H locs hP hD hS => ?_)
  have hP : va_P D vwCl (([(h0, .inr (4, [.ref q1, .ref q2]))] ++ [(q1, .inl (cI, 4, .inl (fun _ => 0)))]) ++ [(q2, .inl (cI, 4, .inl (fun _ => 0)))]) H := hP
  have hD : va_D A (([(h0, .inr (4, [.ref q1, .ref q2]))] ++ [(q1, .inl (cI, 4, .inl (fun _ => 0)))]) ++ [(q2, .inl (cI, 4, .inl (fun _ => 0)))]) := hD
  refine lv_iconst (v := 0) hx hb dX4_init_18 (by decide) ?_
  refine lv_istore_n (lv' := [(1, .int 0), (0, .ref h0)]) hx hb dX4_init_19 rfl hl (by decide) rfl (fun ls hl => ?_)
  refine lv_iload_n hx hb dX4_init_20 rfl (lv_at hl 0 rfl) ?_
  refine lv_iconst (v := 4) hx hb dX4_init_21 (by decide) ?_
  refine lv_icmp_ge (tgt := 38) hx hb dX4_init_22 (by decide) (fun q => absurd q (by decide)) (fun _ => ?_)
  refine lv_aload_n hx hb dX4_init_25 rfl (lv_at hl 1 rfl) ?_
  refine va_get (D := D) (ci := 4) (v := .ref q1) (C := RX4) (T := TX4) (N := 2) hx hb hg uX4 hown hK.1 hP 0 rfl rfl 0 (by decide) (hg _ gw_61) (fun _ h9 => h9) rfl dX4_init_26 ?_
  refine lv_iload_n hx hb dX4_init_29 rfl (lv_at hl 0 rfl) ?_
  refine lv_iconst (v := (-1)) hx hb dX4_init_30 (by decide) ?_
  refine va_iast hx hb hK.1 hP hD hS 1 0 rfl rfl (i := 0) (x := (-1)) (vp_in_nI (n := 0) (by decide) (by decide)) dX4_init_31 (fun H locs hP hD hS => ?_)
  have hP : va_P D vwCl (([(h0, .inr (4, [.ref q1, .ref q2]))] ++ [(q1, .inl (cI, 4, .inl (upd (fun _ => 0) 0 (-1))))]) ++ [(q2, .inl (cI, 4, .inl (fun _ => 0)))]) H := hP
  have hD : va_D A (([(h0, .inr (4, [.ref q1, .ref q2]))] ++ [(q1, .inl (cI, 4, .inl (upd (fun _ => 0) 0 (-1))))]) ++ [(q2, .inl (cI, 4, .inl (fun _ => 0)))]) := hD
  refine lv_iinc (v := 1) (lv' := [(1, .int 1), (0, .ref h0)]) hx hb dX4_init_32 hl (k := 0) rfl (by decide) (by decide) rfl (fun ls hl => ?_)
  refine lv_goto (tgt := 20) hx hb dX4_init_35 (by decide) ?_
  refine lv_iload_n hx hb dX4_init_20 rfl (lv_at hl 0 rfl) ?_
  refine lv_iconst (v := 4) hx hb dX4_init_21 (by decide) ?_
  refine lv_icmp_ge (tgt := 38) hx hb dX4_init_22 (by decide) (fun q => absurd q (by decide)) (fun _ => ?_)
  refine lv_aload_n hx hb dX4_init_25 rfl (lv_at hl 1 rfl) ?_
  refine va_get (D := D) (ci := 4) (v := .ref q1) (C := RX4) (T := TX4) (N := 2) hx hb hg uX4 hown hK.1 hP 0 rfl rfl 0 (by decide) (hg _ gw_61) (fun _ h9 => h9) rfl dX4_init_26 ?_
  refine lv_iload_n hx hb dX4_init_29 rfl (lv_at hl 0 rfl) ?_
  refine lv_iconst (v := (-1)) hx hb dX4_init_30 (by decide) ?_
  refine va_iast hx hb hK.1 hP hD hS 1 0 rfl rfl (i := 1) (x := (-1)) (vp_in_nI (n := 1) (by decide) (by decide)) dX4_init_31 (fun H locs hP hD hS => ?_)
  have hP : va_P D vwCl (([(h0, .inr (4, [.ref q1, .ref q2]))] ++ [(q1, .inl (cI, 4, .inl (upd (upd (fun _ => 0) 0 (-1)) 1 (-1))))]) ++ [(q2, .inl (cI, 4, .inl (fun _ => 0)))]) H := hP
  have hD : va_D A (([(h0, .inr (4, [.ref q1, .ref q2]))] ++ [(q1, .inl (cI, 4, .inl (upd (upd (fun _ => 0) 0 (-1)) 1 (-1))))]) ++ [(q2, .inl (cI, 4, .inl (fun _ => 0)))]) := hD
  refine lv_iinc (v := 2) (lv' := [(1, .int 2), (0, .ref h0)]) hx hb dX4_init_32 hl (k := 0) rfl (by decide) (by decide) rfl (fun ls hl => ?_)
  refine lv_goto (tgt := 20) hx hb dX4_init_35 (by decide) ?_
  refine lv_iload_n hx hb dX4_init_20 rfl (lv_at hl 0 rfl) ?_
  refine lv_iconst (v := 4) hx hb dX4_init_21 (by decide) ?_
  refine lv_icmp_ge (tgt := 38) hx hb dX4_init_22 (by decide) (fun q => absurd q (by decide)) (fun _ => ?_)
  refine lv_aload_n hx hb dX4_init_25 rfl (lv_at hl 1 rfl) ?_
  refine va_get (D := D) (ci := 4) (v := .ref q1) (C := RX4) (T := TX4) (N := 2) hx hb hg uX4 hown hK.1 hP 0 rfl rfl 0 (by decide) (hg _ gw_61) (fun _ h9 => h9) rfl dX4_init_26 ?_
  refine lv_iload_n hx hb dX4_init_29 rfl (lv_at hl 0 rfl) ?_
  refine lv_iconst (v := (-1)) hx hb dX4_init_30 (by decide) ?_
  refine va_iast hx hb hK.1 hP hD hS 1 0 rfl rfl (i := 2) (x := (-1)) (vp_in_nI (n := 2) (by decide) (by decide)) dX4_init_31 (fun H locs hP hD hS => ?_)
  have hP : va_P D vwCl (([(h0, .inr (4, [.ref q1, .ref q2]))] ++ [(q1, .inl (cI, 4, .inl (upd (upd (upd (fun _ => 0) 0 (-1)) 1 (-1)) 2 (-1))))]) ++ [(q2, .inl (cI, 4, .inl (fun _ => 0)))]) H := hP
  have hD : va_D A (([(h0, .inr (4, [.ref q1, .ref q2]))] ++ [(q1, .inl (cI, 4, .inl (upd (upd (upd (fun _ => 0) 0 (-1)) 1 (-1)) 2 (-1))))]) ++ [(q2, .inl (cI, 4, .inl (fun _ => 0)))]) := hD
  refine lv_iinc (v := 3) (lv' := [(1, .int 3), (0, .ref h0)]) hx hb dX4_init_32 hl (k := 0) rfl (by decide) (by decide) rfl (fun ls hl => ?_)
  refine lv_goto (tgt := 20) hx hb dX4_init_35 (by decide) ?_
  refine lv_iload_n hx hb dX4_init_20 rfl (lv_at hl 0 rfl) ?_
  refine lv_iconst (v := 4) hx hb dX4_init_21 (by decide) ?_
  refine lv_icmp_ge (tgt := 38) hx hb dX4_init_22 (by decide) (fun q => absurd q (by decide)) (fun _ => ?_)
  refine lv_aload_n hx hb dX4_init_25 rfl (lv_at hl 1 rfl) ?_
  refine va_get (D := D) (ci := 4) (v := .ref q1) (C := RX4) (T := TX4) (N := 2) hx hb hg uX4 hown hK.1 hP 0 rfl rfl 0 (by decide) (hg _ gw_61) (fun _ h9 => h9) rfl dX4_init_26 ?_
  refine lv_iload_n hx hb dX4_init_29 rfl (lv_at hl 0 rfl) ?_
  refine lv_iconst (v := (-1)) hx hb dX4_init_30 (by decide) ?_
  refine va_iast hx hb hK.1 hP hD hS 1 0 rfl rfl (i := 3) (x := (-1)) (vp_in_nI (n := 3) (by decide) (by decide)) dX4_init_31 (fun H locs hP hD hS => ?_)
  have hP : va_P D vwCl (([(h0, .inr (4, [.ref q1, .ref q2]))] ++ [(q1, .inl (cI, 4, .inl (upd (upd (upd (upd (fun _ => 0) 0 (-1)) 1 (-1)) 2 (-1)) 3 (-1))))]) ++ [(q2, .inl (cI, 4, .inl (fun _ => 0)))]) H := hP
  have hD : va_D A (([(h0, .inr (4, [.ref q1, .ref q2]))] ++ [(q1, .inl (cI, 4, .inl (upd (upd (upd (upd (fun _ => 0) 0 (-1)) 1 (-1)) 2 (-1)) 3 (-1))))]) ++ [(q2, .inl (cI, 4, .inl (fun _ => 0)))]) := hD
  refine lv_iinc (v := 4) (lv' := [(1, .int 4), (0, .ref h0)]) hx hb dX4_init_32 hl (k := 0) rfl (by decide) (by decide) rfl (fun ls hl => ?_)
  refine lv_goto (tgt := 20) hx hb dX4_init_35 (by decide) ?_
  refine lv_iload_n hx hb dX4_init_20 rfl (lv_at hl 0 rfl) ?_
  refine lv_iconst (v := 4) hx hb dX4_init_21 (by decide) ?_
  refine lv_icmp_ge (tgt := 38) hx hb dX4_init_22 (by decide) (fun _ => ?_) (fun q => absurd (by decide) q)
  exact ret_n (fun i => ([h0, q1, q2] : List Nat).getD i 0) hx hb hr hlocks hP hD hS (Nat.le_of_ble_eq_true rfl) (Nat.le_of_ble_eq_true rfl) dX4_init_38
abbrev rn_X5 : Room := { frames := 1, cells := 0, slots := 0, locals := 12 }
set_option maxRecDepth 100000 in
set_option maxHeartbeats 4000000 in
theorem kn_X5 (l : Launch) (D : va_G) (cI cS cL : ClassId) (h0 : Nat) : CN l yX5_init cX5_init 1 rn_X5 D cI cS cL [.ref h0] [(h0, .inr (5, [.int 0, .int 0, .int 0]))] (fun (hh : Nat → Nat) => wX5 cI h0 (-1) 0 (-1)) 0 0 := by
  refine ent_n (by decide +kernel) rfl (Nat.le_of_ble_eq_true rfl) ?_
  intro p e s m args below meth c A ls hx hb hr hml hlocks hg hown hK hP hD hS hA hl hin
  have hown : s.vm.findClass RX5 = some m.cls := hown
  have hl : lv_has ls 1 [(0, .ref h0)] := hl
  refine lv_aload_n hx hb dX5_init_0 rfl (lv_at hl 0 rfl) ?_
  refine W.objInit hx hb hown (hg _ gw_164) (hg _ gw_30) (hg _ gw_31) rfl (by rw [hml]; exact hl.1) rfl dX5_init_1 (Nat.le_of_ble_eq_true rfl) (Nat.le_of_ble_eq_true rfl) ?_
  refine W.eq (g2 := F0 m 4 ls []) rfl ?_
  refine lv_aload_n hx hb dX5_init_4 rfl (lv_at hl 0 rfl) ?_
  refine lv_iconst (v := (-1)) hx hb dX5_init_5 (by decide) ?_
  refine va_put (D := D) (ci := 5) (v := .int (-1)) (ty := tyX5 0) (C := RX5) (T := TX5) (N := 3) hx hb hg uX5 tyX5 tyX5_ok nmX5 hown hK.1 hP hD hS 0 rfl rfl 0 (by decide) (hg _ gw_165) (fun _ h9 => h9) rfl (tyX5_ok 0 (by decide)) rfl rfl (Nat.le_of_ble_eq_true rfl) dX5_init_6 (fun H locs hP hD hS => ?_)
  have hP : va_P D vwCl [(h0, .inr (5, [.int (-1), .int 0, .int 0]))] H := hP
  have hD : va_D A [(h0, .inr (5, [.int (-1), .int 0, .int 0]))] := hD
  refine lv_aload_n hx hb dX5_init_9 rfl (lv_at hl 0 rfl) ?_
  refine lv_iconst (v := 0) hx hb dX5_init_10 (by decide) ?_
  refine va_put (D := D) (ci := 5) (v := .int 0) (ty := tyX5 1) (C := RX5) (T := TX5) (N := 3) hx hb hg uX5 tyX5 tyX5_ok nmX5 hown hK.1 hP hD hS 0 rfl rfl 1 (by decide) (hg _ gw_166) (fun _ h9 => h9) rfl (tyX5_ok 1 (by decide)) rfl rfl (Nat.le_of_ble_eq_true rfl) dX5_init_11 (fun H locs hP hD hS => ?_)
  have hP : va_P D vwCl [(h0, .inr (5, [.int (-1), .int 0, .int 0]))] H := hP
  have hD : va_D A [(h0, .inr (5, [.int (-1), .int 0, .int 0]))] := hD
  refine lv_aload_n hx hb dX5_init_14 rfl (lv_at hl 0 rfl) ?_
  refine lv_iconst (v := (-1)) hx hb dX5_init_15 (by decide) ?_
  refine va_put (D := D) (ci := 5) (v := .int (-1)) (ty := tyX5 2) (C := RX5) (T := TX5) (N := 3) hx hb hg uX5 tyX5 tyX5_ok nmX5 hown hK.1 hP hD hS 0 rfl rfl 2 (by decide) (hg _ gw_167) (fun _ h9 => h9) rfl (tyX5_ok 2 (by decide)) rfl rfl (Nat.le_of_ble_eq_true rfl) dX5_init_16 (fun H locs hP hD hS => ?_)
  have hP : va_P D vwCl [(h0, .inr (5, [.int (-1), .int 0, .int (-1)]))] H := hP
  have hD : va_D A [(h0, .inr (5, [.int (-1), .int 0, .int (-1)]))] := hD
  exact ret_n (fun i => ([h0] : List Nat).getD i 0) hx hb hr hlocks hP hD hS (Nat.le_of_ble_eq_true rfl) (Nat.le_of_ble_eq_true rfl) dX5_init_19
abbrev rn_X6 : Room := { frames := 2, cells := 8, slots := 336, locals := 42 }
set_option maxRecDepth 100000 in
set_option maxHeartbeats 4000000 in
theorem kn_X6 (l : Launch) (D : va_G) (cI cS cL : ClassId) (h0 : Nat) : CN l yX6_init cX6_init 1 rn_X6 D cI cS cL [.ref h0] [(h0, .inr (6, [.null, .null, .null, .null, .int 0, .int 0, .int 0]))] (fun (hh : Nat → Nat) => wX6 cI h0 (hh 1) (hh 2) (hh 3) (hh 4) (hh 5) (hh 6) (hh 7) (hh 8) 0 0 0 0 (fun _ => 0) 0 (fun _ => 0) mP0 (fun _ => 0) 8 0 0 0 0 0) 8 336 := by
  refine ent_n (by decide +kernel) rfl (Nat.le_of_ble_eq_true rfl) ?_
  intro p e s m args below meth c A ls hx hb hr hml hlocks hg hown hK hP hD hS hA hl hin
  have hown : s.vm.findClass RX6 = some m.cls := hown
  have hl : lv_has ls 1 [(0, .ref h0)] := hl
  refine lv_aload_n hx hb dX6_init_0 rfl (lv_at hl 0 rfl) ?_
  refine W.objInit hx hb hown (hg _ gw_37) (hg _ gw_30) (hg _ gw_31) rfl (by rw [hml]; exact hl.1) rfl dX6_init_1 (Nat.le_of_ble_eq_true rfl) (Nat.le_of_ble_eq_true rfl) ?_
  refine W.eq (g2 := F0 m 4 ls []) rfl ?_
  refine lv_aload_n hx hb dX6_init_4 rfl (lv_at hl 0 rfl) ?_
  refine va_new (ci := 0) (fs := [.null, .int 0]) (C := RX0) (T := TX0) (N := 2) hx hb hg uX0 tyX0 tyX0_ok hown (hg _ gw_38) (hg _ gw_39) (hg _ gw_10) hK.1 hP hD hS hA rfl (fun j hj => by rcases (show j = 0 ∨ j = 1 by omega) with rfl | rfl <;> rfl) (Nat.le_of_ble_eq_true rfl) (Nat.le_of_ble_eq_true rfl) dX6_init_5 (fun q1 H hP hD hS => ?_)
  have hP : va_P D vwCl ([(h0, .inr (6, [.null, .null, .null, .null, .int 0, .int 0, .int 0]))] ++ [(q1, .inr (0, [.null, .int 0]))]) H := hP
  have hD : va_D A ([(h0, .inr (6, [.null, .null, .null, .null, .int 0, .int 0, .int 0]))] ++ [(q1, .inr (0, [.null, .int 0]))]) := hD
  refine lv_dup hx hb dX6_init_8 rfl ?_
  refine lv_sipush (v := 256) hx hb dX6_init_9 (by decide) ?_
  refine cI_n (As := [.int 256]) (rest := [.ref q1, .ref h0]) (wc := [(q1, .inr (0, [.null, .int 0]))]) (wr := [(h0, .inr (6, [.null, .null, .null, .null, .int 0, .int 0, .int 0]))]) hx hb hml hown hg hK hP hD hS hA hl.1 (kn_X0_256 l D cI cS cL q1) rfl gw_41 gw_10 gw_42 (by decide +kernel) gw_40 ⟨rfl, rfl, by decide, by decide⟩ ⟨Nat.le_of_ble_eq_true rfl, Nat.le_of_ble_eq_true rfl⟩ List.perm_append_comm rfl rfl (Nat.le_of_ble_eq_true rfl) dX6_init_12 (fun u2 H locs hP hD hS => ?_)
  have hP : va_P D vwCl ([(h0, .inr (6, [.null, .null, .null, .null, .int 0, .int 0, .int 0]))] ++ (wX0 cI q1 (u2 1) 256 0 (fun _ => 0))) H := hP
  have hD : va_D A ([(h0, .inr (6, [.null, .null, .null, .null, .int 0, .int 0, .int 0]))] ++ (wX0 cI q1 (u2 1) 256 0 (fun _ => 0))) := hD
  refine va_putF (D := D) (ci := 6) (v := .ref q1) (ty := tyX6 0) (C := RX6) (T := TX6) (N := 7) hx hb hg uX6 tyX6 tyX6_ok nmX6 hown hK.1 hP hD hS 0 rfl rfl 0 (by decide) (hg _ gw_104) (fun _ h9 => h9) rfl hin rfl (tyX6_ok 0 (by decide)) rfl rfl (Nat.le_of_ble_eq_true rfl) dX6_init_15 (fun H locs hP hD hS => ?_)
  have hP : va_P D vwCl ([(h0, .inr (6, [.ref q1, .null, .null, .null, .int 0, .int 0, .int 0]))] ++ (wX0 cI q1 (u2 1) 256 0 (fun _ => 0))) H := hP
  have hD : va_D A ([(h0, .inr (6, [.ref q1, .null, .null, .null, .int 0, .int 0, .int 0]))] ++ (wX0 cI q1 (u2 1) 256 0 (fun _ => 0))) := hD
  refine lv_aload_n hx hb dX6_init_18 rfl (lv_at hl 0 rfl) ?_
  refine va_new (ci := 0) (fs := [.null, .int 0]) (C := RX0) (T := TX0) (N := 2) hx hb hg uX0 tyX0 tyX0_ok hown (hg _ gw_38) (hg _ gw_39) (hg _ gw_10) hK.1 hP hD hS hA rfl (fun j hj => by rcases (show j = 0 ∨ j = 1 by omega) with rfl | rfl <;> rfl) (Nat.le_of_ble_eq_true rfl) (Nat.le_of_ble_eq_true rfl) dX6_init_19 (fun q3 H hP hD hS => ?_)
  have hP : va_P D vwCl (([(h0, .inr (6, [.ref q1, .null, .null, .null, .int 0, .int 0, .int 0]))] ++ (wX0 cI q1 (u2 1) 256 0 (fun _ => 0))) ++ [(q3, .inr (0, [.null, .int 0]))]) H := hP
  have hD : va_D A (([(h0, .inr (6, [.ref q1, .null, .null, .null, .int 0, .int 0, .int 0]))] ++ (wX0 cI q1 (u2 1) 256 0 (fun _ => 0))) ++ [(q3, .inr (0, [.null, .int 0]))]) := hD
  refine lv_dup hx hb dX6_init_22 rfl ?_
  refine lv_bipush (v := 60) hx hb dX6_init_23 (by decide) ?_
  refine cI_n (As := [.int 60]) (rest := [.ref q3, .ref h0]) (wc := [(q3, .inr (0, [.null, .int 0]))]) (wr := ([(h0, .inr (6, [.ref q1, .null, .null, .null, .int 0, .int 0, .int 0]))] ++ (wX0 cI q1 (u2 1) 256 0 (fun _ => 0)))) hx hb hml hown hg hK hP hD hS hA hl.1 (kn_X0_60 l D cI cS cL q3) rfl gw_41 gw_10 gw_42 (by decide +kernel) gw_40 ⟨rfl, rfl, by decide, by decide⟩ ⟨Nat.le_of_ble_eq_true rfl, Nat.le_of_ble_eq_true rfl⟩ List.perm_append_comm rfl rfl (Nat.le_of_ble_eq_true rfl) dX6_init_25 (fun u4 H locs hP hD hS => ?_)
  have hP : va_P D vwCl (([(h0, .inr (6, [.ref q1, .null, .null, .null, .int 0, .int 0, .int 0]))] ++ (wX0 cI q1 (u2 1) 256 0 (fun _ => 0))) ++ (wX0 cI q3 (u4 1) 60 0 (fun _ => 0))) H := hP
  have hD : va_D A (([(h0, .inr (6, [.ref q1, .null, .null, .null, .int 0, .int 0, .int 0]))] ++ (wX0 cI q1 (u2 1) 256 0 (fun _ => 0))) ++ (wX0 cI q3 (u4 1) 60 0 (fun _ => 0))) := hD
  refine va_putF (D := D) (ci := 6) (v := .ref q3) (ty := tyX6 1) (C := RX6) (T := TX6) (N := 7) hx hb hg uX6 tyX6 tyX6_ok nmX6 hown hK.1 hP hD hS 0 rfl rfl 1 (by decide) (hg _ gw_106) (fun _ h9 => h9) rfl hin rfl (tyX6_ok 1 (by decide)) rfl rfl (Nat.le_of_ble_eq_true rfl) dX6_init_28 (fun H locs hP hD hS => ?_)
  have hP : va_P D vwCl (([(h0, .inr (6, [.ref q1, .ref q3, .null, .null, .int 0, .int 0, .int 0]))] ++ (wX0 cI q1 (u2 1) 256 0 (fun _ => 0))) ++ (wX0 cI q3 (u4 1) 60 0 (fun _ => 0))) H := hP
  have hD : va_D A (([(h0, .inr (6, [.ref q1, .ref q3, .null, .null, .int 0, .int 0, .int 0]))] ++ (wX0 cI q1 (u2 1) 256 0 (fun _ => 0))) ++ (wX0 cI q3 (u4 1) 60 0 (fun _ => 0))) := hD
  refine lv_aload_n hx hb dX6_init_31 rfl (lv_at hl 0 rfl) ?_
  refine va_new (ci := 4) (fs := [.null, .null]) (C := RX4) (T := TX4) (N := 2) hx hb hg uX4 tyX4 tyX4_ok hown (hg _ gw_55) (hg _ gw_56) (hg _ gw_12) hK.1 hP hD hS hA rfl (fun j hj => by rcases (show j = 0 ∨ j = 1 by omega) with rfl | rfl <;> rfl) (Nat.le_of_ble_eq_true rfl) (Nat.le_of_ble_eq_true rfl) dX6_init_32 (fun q5 H hP hD hS => ?_)
  have hP : va_P D vwCl ((([(h0, .inr (6, [.ref q1, .ref q3, .null, .null, .int 0, .int 0, .int 0]))] ++ (wX0 cI q1 (u2 1) 256 0 (fun _ => 0))) ++ (wX0 cI q3 (u4 1) 60 0 (fun _ => 0))) ++ [(q5, .inr (4, [.null, .null]))]) H := hP
  have hD : va_D A ((([(h0, .inr (6, [.ref q1, .ref q3, .null, .null, .int 0, .int 0, .int 0]))] ++ (wX0 cI q1 (u2 1) 256 0 (fun _ => 0))) ++ (wX0 cI q3 (u4 1) 60 0 (fun _ => 0))) ++ [(q5, .inr (4, [.null, .null]))]) := hD
  refine lv_dup hx hb dX6_init_35 rfl ?_
  refine cI_n (As := []) (rest := [.ref q5, .ref h0]) (wc := [(q5, .inr (4, [.null, .null]))]) (wr := (([(h0, .inr (6, [.ref q1, .ref q3, .null, .null, .int 0, .int 0, .int 0]))] ++ (wX0 cI q1 (u2 1) 256 0 (fun _ => 0))) ++ (wX0 cI q3 (u4 1) 60 0 (fun _ => 0)))) hx hb hml hown hg hK hP hD hS hA hl.1 (kn_X4 l D cI cS cL q5) rfl gw_58 gw_12 gw_59 (by decide +kernel) gw_57 ⟨rfl, rfl, by decide, by decide⟩ ⟨Nat.le_of_ble_eq_true rfl, Nat.le_of_ble_eq_true rfl⟩ List.perm_append_comm rfl rfl (Nat.le_of_ble_eq_true rfl) dX6_init_36 (fun u6 H locs hP hD hS => ?_)
  have hP : va_P D vwCl ((([(h0, .inr (6, [.ref q1, .ref q3, .null, .null, .int 0, .int 0, .int 0]))] ++ (wX0 cI q1 (u2 1) 256 0 (fun _ => 0))) ++ (wX0 cI q3 (u4 1) 60 0 (fun _ => 0))) ++ (wX4 cI q5 (u6 1) (u6 2) mP0 (fun _ => 0))) H := hP
  have hD : va_D A ((([(h0, .inr (6, [.ref q1, .ref q3, .null, .null, .int 0, .int 0, .int 0]))] ++ (wX0 cI q1 (u2 1) 256 0 (fun _ => 0))) ++ (wX0 cI q3 (u4 1) 60 0 (fun _ => 0))) ++ (wX4 cI q5 (u6 1) (u6 2) mP0 (fun _ => 0))) := hD
  refine va_putF (D := D) (ci := 6) (v := .ref q5) (ty := tyX6 2) (C := RX6) (T := TX6) (N := 7) hx hb hg uX6 tyX6 tyX6_ok nmX6 hown hK.1 hP hD hS 0 rfl rfl 2 (by decide) (hg _ gw_108) (fun _ h9 => h9) rfl hin rfl (tyX6_ok 2 (by decide)) rfl rfl (Nat.le_of_ble_eq_true rfl) dX6_init_39 (fun H locs hP hD hS => ?_)
  have hP : va_P D vwCl ((([(h0, .inr (6, [.ref q1, .ref q3, .ref q5, .null, .int 0, .int 0, .int 0]))] ++ (wX0 cI q1 (u2 1) 256 0 (fun _ => 0))) ++ (wX0 cI q3 (u4 1) 60 0 (fun _ => 0))) ++ (wX4 cI q5 (u6 1) (u6 2) mP0 (fun _ => 0))) H := hP
  have hD : va_D A ((([(h0, .inr (6, [.ref q1, .ref q3, .ref q5, .null, .int 0, .int 0, .int 0]))] ++ (wX0 cI q1 (u2 1) 256 0 (fun _ => 0))) ++ (wX0 cI q3 (u4 1) 60 0 (fun _ => 0))) ++ (wX4 cI q5 (u6 1) (u6 2) mP0 (fun _ => 0))) := hD
  refine lv_aload_n hx hb dX6_init_42 rfl (lv_at hl 0 rfl) ?_
  refine va_new (ci := 3) (fs := [.int 0, .int 0, .int 0, .int 0, .int 0, .int 0]) (C := RX3) (T := TX3) (N := 6) hx hb hg uX3 tyX3 tyX3_ok hown (hg _ gw_68) (hg _ gw_69) (hg _ gw_13) hK.1 hP hD hS hA rfl (fun j hj => by rcases (show j = 0 ∨ j = 1 ∨ j = 2 ∨ j = 3 ∨ j = 4 ∨ j = 5 by omega) with rfl | rfl | rfl | rfl | rfl | rfl <;> rfl) (Nat.le_of_ble_eq_true rfl) (Nat.le_of_ble_eq_true rfl) dX6_init_43 (fun q7 H hP hD hS => ?_)
  have hP : va_P D vwCl (((([(h0, .inr (6, [.ref q1, .ref q3, .ref q5, .null, .int 0, .int 0, .int 0]))] ++ (wX0 cI q1 (u2 1) 256 0 (fun _ => 0))) ++ (wX0 cI q3 (u4 1) 60 0 (fun _ => 0))) ++ (wX4 cI q5 (u6 1) (u6 2) mP0 (fun _ => 0))) ++ [(q7, .inr (3, [.int 0, .int 0, .int 0, .int 0, .int 0, .int 0]))]) H := hP
  have hD : va_D A (((([(h0, .inr (6, [.ref q1, .ref q3, .ref q5, .null, .int 0, .int 0, .int 0]))] ++ (wX0 cI q1 (u2 1) 256 0 (fun _ => 0))) ++ (wX0 cI q3 (u4 1) 60 0 (fun _ => 0))) ++ (wX4 cI q5 (u6 1) (u6 2) mP0 (fun _ => 0))) ++ [(q7, .inr (3, [.int 0, .int 0, .int 0, .int 0, .int 0, .int 0]))]) := hD
  refine lv_dup hx hb dX6_init_46 rfl ?_
  refine cJ_n (As := []) (rest := [.ref q7, .ref h0]) (wc := [(q7, .inr (3, [.int 0, .int 0, .int 0, .int 0, .int 0, .int 0]))]) (wr := ((([(h0, .inr (6, [.ref q1, .ref q3, .ref q5, .null, .int 0, .int 0, .int 0]))] ++ (wX0 cI q1 (u2 1) 256 0 (fun _ => 0))) ++ (wX0 cI q3 (u4 1) 60 0 (fun _ => 0))) ++ (wX4 cI q5 (u6 1) (u6 2) mP0 (fun _ => 0)))) hx hb hml hown hg hK hP hD hS hA hl.1 (kn_X3 l D cI cS cL q7) rfl gw_71 gw_13 gw_72 (by decide +kernel) nw_70 ⟨rfl, rfl, by decide, by decide⟩ ⟨Nat.le_of_ble_eq_true rfl, Nat.le_of_ble_eq_true rfl⟩ List.perm_append_comm rfl rfl (Nat.le_of_ble_eq_true rfl) dX6_init_47 (fun u8 H locs hP hD hS => ?_)
  have hP : va_P D vwCl (((([(h0, .inr (6, [.ref q1, .ref q3, .ref q5, .null, .int 0, .int 0, .int 0]))] ++ (wX0 cI q1 (u2 1) 256 0 (fun _ => 0))) ++ (wX0 cI q3 (u4 1) 60 0 (fun _ => 0))) ++ (wX4 cI q5 (u6 1) (u6 2) mP0 (fun _ => 0))) ++ (wX3 cI q7 8 0 0 0 0 0)) H := hP
  have hD : va_D A (((([(h0, .inr (6, [.ref q1, .ref q3, .ref q5, .null, .int 0, .int 0, .int 0]))] ++ (wX0 cI q1 (u2 1) 256 0 (fun _ => 0))) ++ (wX0 cI q3 (u4 1) 60 0 (fun _ => 0))) ++ (wX4 cI q5 (u6 1) (u6 2) mP0 (fun _ => 0))) ++ (wX3 cI q7 8 0 0 0 0 0)) := hD
  refine va_putF (D := D) (ci := 6) (v := .ref q7) (ty := tyX6 3) (C := RX6) (T := TX6) (N := 7) hx hb hg uX6 tyX6 tyX6_ok nmX6 hown hK.1 hP hD hS 0 rfl rfl 3 (by decide) (hg _ gw_110) (fun _ h9 => h9) rfl hin rfl (tyX6_ok 3 (by decide)) rfl rfl (Nat.le_of_ble_eq_true rfl) dX6_init_50 (fun H locs hP hD hS => ?_)
  have hP : va_P D vwCl (((([(h0, .inr (6, [.ref q1, .ref q3, .ref q5, .ref q7, .int 0, .int 0, .int 0]))] ++ (wX0 cI q1 (u2 1) 256 0 (fun _ => 0))) ++ (wX0 cI q3 (u4 1) 60 0 (fun _ => 0))) ++ (wX4 cI q5 (u6 1) (u6 2) mP0 (fun _ => 0))) ++ (wX3 cI q7 8 0 0 0 0 0)) H := hP
  have hD : va_D A (((([(h0, .inr (6, [.ref q1, .ref q3, .ref q5, .ref q7, .int 0, .int 0, .int 0]))] ++ (wX0 cI q1 (u2 1) 256 0 (fun _ => 0))) ++ (wX0 cI q3 (u4 1) 60 0 (fun _ => 0))) ++ (wX4 cI q5 (u6 1) (u6 2) mP0 (fun _ => 0))) ++ (wX3 cI q7 8 0 0 0 0 0)) := hD
  refine lv_aload_n hx hb dX6_init_53 rfl (lv_at hl 0 rfl) ?_
  refine lv_iconst (v := 0) hx hb dX6_init_54 (by decide) ?_
  refine va_put (D := D) (ci := 6) (v := .int 0) (ty := tyX6 4) (C := RX6) (T := TX6) (N := 7) hx hb hg uX6 tyX6 tyX6_ok nmX6 hown hK.1 hP hD hS 0 rfl rfl 4 (by decide) (hg _ gw_112) (fun _ h9 => h9) rfl (tyX6_ok 4 (by decide)) rfl rfl (Nat.le_of_ble_eq_true rfl) dX6_init_55 (fun H locs hP hD hS => ?_)
  have hP : va_P D vwCl (((([(h0, .inr (6, [.ref q1, .ref q3, .ref q5, .ref q7, .int 0, .int 0, .int 0]))] ++ (wX0 cI q1 (u2 1) 256 0 (fun _ => 0))) ++ (wX0 cI q3 (u4 1) 60 0 (fun _ => 0))) ++ (wX4 cI q5 (u6 1) (u6 2) mP0 (fun _ => 0))) ++ (wX3 cI q7 8 0 0 0 0 0)) H := hP
  have hD : va_D A (((([(h0, .inr (6, [.ref q1, .ref q3, .ref q5, .ref q7, .int 0, .int 0, .int 0]))] ++ (wX0 cI q1 (u2 1) 256 0 (fun _ => 0))) ++ (wX0 cI q3 (u4 1) 60 0 (fun _ => 0))) ++ (wX4 cI q5 (u6 1) (u6 2) mP0 (fun _ => 0))) ++ (wX3 cI q7 8 0 0 0 0 0)) := hD
  refine lv_aload_n hx hb dX6_init_58 rfl (lv_at hl 0 rfl) ?_
  refine lv_iconst (v := 0) hx hb dX6_init_59 (by decide) ?_
  refine va_put (D := D) (ci := 6) (v := .int 0) (ty := tyX6 5) (C := RX6) (T := TX6) (N := 7) hx hb hg uX6 tyX6 tyX6_ok nmX6 hown hK.1 hP hD hS 0 rfl rfl 5 (by decide) (hg _ gw_114) (fun _ h9 => h9) rfl (tyX6_ok 5 (by decide)) rfl rfl (Nat.le_of_ble_eq_true rfl) dX6_init_60 (fun H locs hP hD hS => ?_)
  have hP : va_P D vwCl (((([(h0, .inr (6, [.ref q1, .ref q3, .ref q5, .ref q7, .int 0, .int 0, .int 0]))] ++ (wX0 cI q1 (u2 1) 256 0 (fun _ => 0))) ++ (wX0 cI q3 (u4 1) 60 0 (fun _ => 0))) ++ (wX4 cI q5 (u6 1) (u6 2) mP0 (fun _ => 0))) ++ (wX3 cI q7 8 0 0 0 0 0)) H := hP
  have hD : va_D A (((([(h0, .inr (6, [.ref q1, .ref q3, .ref q5, .ref q7, .int 0, .int 0, .int 0]))] ++ (wX0 cI q1 (u2 1) 256 0 (fun _ => 0))) ++ (wX0 cI q3 (u4 1) 60 0 (fun _ => 0))) ++ (wX4 cI q5 (u6 1) (u6 2) mP0 (fun _ => 0))) ++ (wX3 cI q7 8 0 0 0 0 0)) := hD
  refine lv_aload_n hx hb dX6_init_63 rfl (lv_at hl 0 rfl) ?_
  refine lv_iconst (v := 0) hx hb dX6_init_64 (by decide) ?_
  refine va_put (D := D) (ci := 6) (v := .int 0) (ty := tyX6 6) (C := RX6) (T := TX6) (N := 7) hx hb hg uX6 tyX6 tyX6_ok nmX6 hown hK.1 hP hD hS 0 rfl rfl 6 (by decide) (hg _ gw_115) (fun _ h9 => h9) rfl (tyX6_ok 6 (by decide)) rfl rfl (Nat.le_of_ble_eq_true rfl) dX6_init_65 (fun H locs hP hD hS => ?_)
  have hP : va_P D vwCl (((([(h0, .inr (6, [.ref q1, .ref q3, .ref q5, .ref q7, .int 0, .int 0, .int 0]))] ++ (wX0 cI q1 (u2 1) 256 0 (fun _ => 0))) ++ (wX0 cI q3 (u4 1) 60 0 (fun _ => 0))) ++ (wX4 cI q5 (u6 1) (u6 2) mP0 (fun _ => 0))) ++ (wX3 cI q7 8 0 0 0 0 0)) H := hP
  have hD : va_D A (((([(h0, .inr (6, [.ref q1, .ref q3, .ref q5, .ref q7, .int 0, .int 0, .int 0]))] ++ (wX0 cI q1 (u2 1) 256 0 (fun _ => 0))) ++ (wX0 cI q3 (u4 1) 60 0 (fun _ => 0))) ++ (wX4 cI q5 (u6 1) (u6 2) mP0 (fun _ => 0))) ++ (wX3 cI q7 8 0 0 0 0 0)) := hD
  exact ret_n (fun i => ([h0, q1, (u2 1), q3, (u4 1), q5, (u6 1), (u6 2), q7] : List Nat).getD i 0) hx hb hr hlocks hP hD hS (Nat.le_of_ble_eq_true rfl) (Nat.le_of_ble_eq_true rfl) dX6_init_68
abbrev rn_X1 : Room := { frames := 2, cells := 3, slots := 65, locals := 42 }
set_option maxRecDepth 100000 in
set_option maxHeartbeats 4000000 in
theorem kn_X1 (l : Launch) (D : va_G) (cI cS cL : ClassId) (h0 : Nat) : CN l yX1_init cX1_init 1 rn_X1 D cI cS cL [.ref h0] [(h0, .inr (1, [.null, .null]))] (fun (hh : Nat → Nat) => wX1 cI h0 (hh 1) (hh 2) (hh 3) 0 (fun _ => 0) (-1) 0 (-1)) 3 65 := by
  refine ent_n (by decide +kernel) rfl (Nat.le_of_ble_eq_true rfl) ?_
  intro p e s m args below meth c A ls hx hb hr hml hlocks hg hown hK hP hD hS hA hl hin
  have hown : s.vm.findClass RX1 = some m.cls := hown
  have hl : lv_has ls 1 [(0, .ref h0)] := hl
  refine lv_aload_n hx hb dX1_init_0 rfl (lv_at hl 0 rfl) ?_
  refine W.objInit hx hb hown (hg _ gw_156) (hg _ gw_30) (hg _ gw_31) rfl (by rw [hml]; exact hl.1) rfl dX1_init_1 (Nat.le_of_ble_eq_true rfl) (Nat.le_of_ble_eq_true rfl) ?_
  refine W.eq (g2 := F0 m 4 ls []) rfl ?_
  refine lv_aload_n hx hb dX1_init_4 rfl (lv_at hl 0 rfl) ?_
  refine va_new (ci := 0) (fs := [.null, .int 0]) (C := RX0) (T := TX0) (N := 2) hx hb hg uX0 tyX0 tyX0_ok hown (hg _ gw_157) (hg _ gw_39) (hg _ gw_10) hK.1 hP hD hS hA rfl (fun j hj => by rcases (show j = 0 ∨ j = 1 by omega) with rfl | rfl <;> rfl) (Nat.le_of_ble_eq_true rfl) (Nat.le_of_ble_eq_true rfl) dX1_init_5 (fun q1 H hP hD hS => ?_)
  have hP : va_P D vwCl ([(h0, .inr (1, [.null, .null]))] ++ [(q1, .inr (0, [.null, .int 0]))]) H := hP
  have hD : va_D A ([(h0, .inr (1, [.null, .null]))] ++ [(q1, .inr (0, [.null, .int 0]))]) := hD
  refine lv_dup hx hb dX1_init_8 rfl ?_
  refine lv_bipush (v := 60) hx hb dX1_init_9 (by decide) ?_
  refine cI_n (As := [.int 60]) (rest := [.ref q1, .ref h0]) (wc := [(q1, .inr (0, [.null, .int 0]))]) (wr := [(h0, .inr (1, [.null, .null]))]) hx hb hml hown hg hK hP hD hS hA hl.1 (kn_X0_60 l D cI cS cL q1) rfl gw_41 gw_10 gw_42 (by decide +kernel) gw_158 ⟨rfl, rfl, by decide, by decide⟩ ⟨Nat.le_of_ble_eq_true rfl, Nat.le_of_ble_eq_true rfl⟩ List.perm_append_comm rfl rfl (Nat.le_of_ble_eq_true rfl) dX1_init_11 (fun u2 H locs hP hD hS => ?_)
  have hP : va_P D vwCl ([(h0, .inr (1, [.null, .null]))] ++ (wX0 cI q1 (u2 1) 60 0 (fun _ => 0))) H := hP
  have hD : va_D A ([(h0, .inr (1, [.null, .null]))] ++ (wX0 cI q1 (u2 1) 60 0 (fun _ => 0))) := hD
  refine va_putF (D := D) (ci := 1) (v := .ref q1) (ty := tyX1 0) (C := RX1) (T := TX1) (N := 2) hx hb hg uX1 tyX1 tyX1_ok nmX1 hown hK.1 hP hD hS 0 rfl rfl 0 (by decide) (hg _ gw_175) (fun _ h9 => h9) rfl hin rfl (tyX1_ok 0 (by decide)) rfl rfl (Nat.le_of_ble_eq_true rfl) dX1_init_14 (fun H locs hP hD hS => ?_)
  have hP : va_P D vwCl ([(h0, .inr (1, [.ref q1, .null]))] ++ (wX0 cI q1 (u2 1) 60 0 (fun _ => 0))) H := hP
  have hD : va_D A ([(h0, .inr (1, [.ref q1, .null]))] ++ (wX0 cI q1 (u2 1) 60 0 (fun _ => 0))) := hD
  refine lv_aload_n hx hb dX1_init_17 rfl (lv_at hl 0 rfl) ?_
  refine va_new (ci := 5) (fs := [.int 0, .int 0, .int 0]) (C := RX5) (T := TX5) (N := 3) hx hb hg uX5 tyX5 tyX5_ok hown (hg _ gw_159) (hg _ gw_160) (hg _ gw_16) hK.1 hP hD hS hA rfl (fun j hj => by rcases (show j = 0 ∨ j = 1 ∨ j = 2 by omega) with rfl | rfl | rfl <;> rfl) (Nat.le_of_ble_eq_true rfl) (Nat.le_of_ble_eq_true rfl) dX1_init_18 (fun q3 H hP hD hS => ?_)
  have hP : va_P D vwCl (([(h0, .inr (1, [.ref q1, .null]))] ++ (wX0 cI q1 (u2 1) 60 0 (fun _ => 0))) ++ [(q3, .inr (5, [.int 0, .int 0, .int 0]))]) H := hP
  have hD : va_D A (([(h0, .inr (1, [.ref q1, .null]))] ++ (wX0 cI q1 (u2 1) 60 0 (fun _ => 0))) ++ [(q3, .inr (5, [.int 0, .int 0, .int 0]))]) := hD
  refine lv_dup hx hb dX1_init_21 rfl ?_
  refine cJ_n (As := []) (rest := [.ref q3, .ref h0]) (wc := [(q3, .inr (5, [.int 0, .int 0, .int 0]))]) (wr := ([(h0, .inr (1, [.ref q1, .null]))] ++ (wX0 cI q1 (u2 1) 60 0 (fun _ => 0)))) hx hb hml hown hg hK hP hD hS hA hl.1 (kn_X5 l D cI cS cL q3) rfl gw_162 gw_16 gw_163 (by decide +kernel) nw_161 ⟨rfl, rfl, by decide, by decide⟩ ⟨Nat.le_of_ble_eq_true rfl, Nat.le_of_ble_eq_true rfl⟩ List.perm_append_comm rfl rfl (Nat.le_of_ble_eq_true rfl) dX1_init_22 (fun u4 H locs hP hD hS => ?_)
  have hP : va_P D vwCl (([(h0, .inr (1, [.ref q1, .null]))] ++ (wX0 cI q1 (u2 1) 60 0 (fun _ => 0))) ++ (wX5 cI q3 (-1) 0 (-1))) H := hP
  have hD : va_D A (([(h0, .inr (1, [.ref q1, .null]))] ++ (wX0 cI q1 (u2 1) 60 0 (fun _ => 0))) ++ (wX5 cI q3 (-1) 0 (-1))) := hD
  refine va_putF (D := D) (ci := 1) (v := .ref q3) (ty := tyX1 1) (C := RX1) (T := TX1) (N := 2) hx hb hg uX1 tyX1 tyX1_ok nmX1 hown hK.1 hP hD hS 0 rfl rfl 1 (by decide) (hg _ gw_176) (fun _ h9 => h9) rfl hin rfl (tyX1_ok 1 (by decide)) rfl rfl (Nat.le_of_ble_eq_true rfl) dX1_init_25 (fun H locs hP hD hS => ?_)
  have hP : va_P D vwCl (([(h0, .inr (1, [.ref q1, .ref q3]))] ++ (wX0 cI q1 (u2 1) 60 0 (fun _ => 0))) ++ (wX5 cI q3 (-1) 0 (-1))) H := hP
  have hD : va_D A (([(h0, .inr (1, [.ref q1, .ref q3]))] ++ (wX0 cI q1 (u2 1) 60 0 (fun _ => 0))) ++ (wX5 cI q3 (-1) 0 (-1))) := hD
  exact ret_n (fun i => ([h0, q1, (u2 1), q3] : List Nat).getD i 0) hx hb hr hlocks hP hD hS (Nat.le_of_ble_eq_true rfl) (Nat.le_of_ble_eq_true rfl) dX1_init_28
