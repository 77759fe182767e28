theorem gw_81 : Cond.methodLink RX7 1 objectInit ∈ GW := gw_mem 81 (by decide +kernel) (by decide +kernel)
theorem gw_82 : Cond.instanceMethod objectInit ∈ GW := gw_mem 82 (by decide +kernel) (by decide +kernel)
theorem gw_83 : Cond.code objectInit ⟨#[0xb1]⟩ 1 none ∈ GW := gw_mem 83 (by decide +kernel) (by decide +kernel)
theorem gw_84 : Cond.classLink RX7 7 RX6 ∈ GW := gw_mem 84 (by decide +kernel) (by decide +kernel)
theorem gw_85 : Cond.instantiable RX6 7 ∈ GW := gw_mem 85 (by decide +kernel) (by decide +kernel)
theorem nw_86 : Cond.methodLinkNest RX7 9 yX6_init "GapBuffer" ∈ NW := nw_mem 86 (by decide +kernel) (by decide +kernel)
theorem gw_87 : Cond.instanceMethod yX6_init ∈ GW := gw_mem 87 (by decide +kernel) (by decide +kernel)
theorem gw_88 : Cond.code yX6_init cX6_init 1 none ∈ GW := gw_mem 88 (by decide +kernel) (by decide +kernel)
theorem gw_89 : Cond.methodLink RX6 3 objectInit ∈ GW := gw_mem 89 (by decide +kernel) (by decide +kernel)
theorem gw_90 : Cond.classLink RX6 9 RX0 ∈ GW := gw_mem 90 (by decide +kernel) (by decide +kernel)
theorem gw_91 : Cond.instantiable RX0 2 ∈ GW := gw_mem 91 (by decide +kernel) (by decide +kernel)
theorem gw_92 : Cond.methodLink RX6 11 yX0_init ∈ GW := gw_mem 92 (by decide +kernel) (by decide +kernel)
theorem gw_93 : Cond.instanceMethod yX0_init ∈ GW := gw_mem 93 (by decide +kernel) (by decide +kernel)
theorem gw_94 : Cond.code yX0_init cX0_init 2 none ∈ GW := gw_mem 94 (by decide +kernel) (by decide +kernel)
theorem gw_95 : Cond.methodLink RX0 3 objectInit ∈ GW := gw_mem 95 (by decide +kernel) (by decide +kernel)
theorem gw_96 : Cond.methodLink RX0 15 Lib.Math.max.name ∈ GW := gw_mem 96 (by decide +kernel) (by decide +kernel)
theorem gw_106 : Cond.arrayClass .int ∈ GW := gw_mem 106 (by decide +kernel) (by decide +kernel)
theorem gw_107 : Cond.classLink RX6 23 RX4 ∈ GW := gw_mem 107 (by decide +kernel) (by decide +kernel)
theorem gw_108 : Cond.instantiable RX4 2 ∈ GW := gw_mem 108 (by decide +kernel) (by decide +kernel)
theorem gw_109 : Cond.methodLink RX6 25 yX4_init ∈ GW := gw_mem 109 (by decide +kernel) (by decide +kernel)
theorem gw_110 : Cond.instanceMethod yX4_init ∈ GW := gw_mem 110 (by decide +kernel) (by decide +kernel)
theorem gw_111 : Cond.code yX4_init cX4_init 2 none ∈ GW := gw_mem 111 (by decide +kernel) (by decide +kernel)
theorem gw_112 : Cond.methodLink RX4 3 objectInit ∈ GW := gw_mem 112 (by decide +kernel) (by decide +kernel)
theorem gw_120 : Cond.classLink RX6 30 RX3 ∈ GW := gw_mem 120 (by decide +kernel) (by decide +kernel)
theorem gw_121 : Cond.instantiable RX3 6 ∈ GW := gw_mem 121 (by decide +kernel) (by decide +kernel)
theorem nw_122 : Cond.methodLinkNest RX6 32 yX3_init "GapBuffer" ∈ NW := nw_mem 122 (by decide +kernel) (by decide +kernel)
theorem gw_123 : Cond.instanceMethod yX3_init ∈ GW := gw_mem 123 (by decide +kernel) (by decide +kernel)
theorem gw_124 : Cond.code yX3_init cX3_init 1 none ∈ GW := gw_mem 124 (by decide +kernel) (by decide +kernel)
theorem gw_125 : Cond.methodLink RX3 3 objectInit ∈ GW := gw_mem 125 (by decide +kernel) (by decide +kernel)
theorem gw_188 : Cond.classLink RX7 16 RX2 ∈ GW := gw_mem 188 (by decide +kernel) (by decide +kernel)
theorem gw_189 : Cond.instantiable RX2 3 ∈ GW := gw_mem 189 (by decide +kernel) (by decide +kernel)
theorem gw_190 : Cond.methodLink RX7 18 yX2_init ∈ GW := gw_mem 190 (by decide +kernel) (by decide +kernel)
theorem gw_191 : Cond.instanceMethod yX2_init ∈ GW := gw_mem 191 (by decide +kernel) (by decide +kernel)
theorem gw_192 : Cond.code yX2_init cX2_init 2 none ∈ GW := gw_mem 192 (by decide +kernel) (by decide +kernel)
theorem gw_193 : Cond.methodLink RX2 3 objectInit ∈ GW := gw_mem 193 (by decide +kernel) (by decide +kernel)
theorem gw_194 : Cond.classLink RX2 9 RX6 ∈ GW := gw_mem 194 (by decide +kernel) (by decide +kernel)
theorem nw_196 : Cond.methodLinkNest RX2 24 yX6_init "GapBuffer" ∈ NW := nw_mem 196 (by decide +kernel) (by decide +kernel)
theorem gw_207 : Cond.classLink RX7 23 RX1 ∈ GW := gw_mem 207 (by decide +kernel) (by decide +kernel)
theorem gw_208 : Cond.instantiable RX1 2 ∈ GW := gw_mem 208 (by decide +kernel) (by decide +kernel)
theorem nw_209 : Cond.methodLinkNest RX7 25 yX1_init "GapBuffer" ∈ NW := nw_mem 209 (by decide +kernel) (by decide +kernel)
theorem gw_210 : Cond.instanceMethod yX1_init ∈ GW := gw_mem 210 (by decide +kernel) (by decide +kernel)
theorem gw_211 : Cond.code yX1_init cX1_init 1 none ∈ GW := gw_mem 211 (by decide +kernel) (by decide +kernel)
theorem gw_212 : Cond.methodLink RX1 3 objectInit ∈ GW := gw_mem 212 (by decide +kernel) (by decide +kernel)
theorem gw_213 : Cond.classLink RX1 9 RX0 ∈ GW := gw_mem 213 (by decide +kernel) (by decide +kernel)
theorem gw_214 : Cond.methodLink RX1 11 yX0_init ∈ GW := gw_mem 214 (by decide +kernel) (by decide +kernel)
theorem gw_215 : Cond.classLink RX1 20 RX5 ∈ GW := gw_mem 215 (by decide +kernel) (by decide +kernel)
theorem gw_216 : Cond.instantiable RX5 3 ∈ GW := gw_mem 216 (by decide +kernel) (by decide +kernel)
theorem nw_217 : Cond.methodLinkNest RX1 22 yX5_init "GapBuffer" ∈ NW := nw_mem 217 (by decide +kernel) (by decide +kernel)
theorem gw_218 : Cond.instanceMethod yX5_init ∈ GW := gw_mem 218 (by decide +kernel) (by decide +kernel)
theorem gw_219 : Cond.code yX5_init cX5_init 1 none ∈ GW := gw_mem 219 (by decide +kernel) (by decide +kernel)
theorem gw_220 : Cond.methodLink RX5 3 objectInit ∈ GW := gw_mem 220 (by decide +kernel) (by decide +kernel)
theorem gw_242 : Cond.classLink RX7 30 RX3 ∈ GW := gw_mem 242 (by decide +kernel) (by decide +kernel)
theorem nw_243 : Cond.methodLinkNest RX7 32 yX3_init "GapBuffer" ∈ NW := nw_mem 243 (by decide +kernel) (by decide +kernel)
theorem gw_939 : Cond.methodLink RX8 1 objectInit ∈ GW := gw_mem 939 (by decide +kernel) (by decide +kernel)
def mP0 : Nat → Int32 := upd (upd (upd (upd (fun _ => 0) 0 (-1)) 1 (-1)) 2 (-1)) 3 (-1)
def s0 : Nat → Int32 := upd (upd (upd (upd (upd (fun _ => 0) 3 8) 12 (-1)) 13 (-1)) 14 (-1)) 15 (-1)
abbrev st0 : StT := (0, 0, 0, 0, (fun _ => 0), 0, (fun _ => 0), mP0, (fun _ => 0), 8, 0, 0, 0, 0, 0)
def ad (h0 : Nat) (u : Nat → Nat) : Nat → Nat := fun i => match i with
  | 0 => h0
  | k + 1 => u (k + 1)
theorem pm_h {α : Type} {b a r0 r1 r2 r3 r4 r5 : List α} : ((((((((b ++ a) ++ r0) ++ r1) ++ r2) ++ r3) ++ r4) ++ r5)).Perm ((b ++ a) ++ (r0 ++ (r1 ++ (r2 ++ (r3 ++ (r4 ++ (r5 ++ []))))))) := List.Perm.of_eq (by simp only [List.append_assoc, List.append_nil])
theorem pm_i {α : Type} {g : α} {st hi co la : List α} : (((([g] ++ st) ++ hi) ++ co) ++ la).Perm (g :: (st ++ (co ++ (la ++ hi)))) := by
  classical
  rw [List.perm_iff_count]
  intro a
  simp only [List.count_append, List.count_cons, List.count_nil]
  omega
abbrev rn_X0_256 : Room := { frames := 1, cells := 1, slots := 256, locals := 21 }
set_option maxRecDepth 100000 in
set_option maxHeartbeats 4000000 in
theorem kn_X0_256 (l : Launch) (D : va_G) (cI cS cL : ClassId) (h0 : Nat) : CN l yX0_init cX0_init 2 rn_X0_256 D cI cS cL [.ref h0, .int 256] [(h0, .inr (0, [.null, .int 0]))] (fun (hh : Nat → Nat) => wX0 cI h0 (hh 1) 256 0 (fun _ => 0)) 1 256 := by
  refine ent_n (by decide +kernel) rfl (Nat.le_of_ble_eq_true rfl) ?_
  intro p e s m args below meth c A ls hx hb hr hml hlocks hg hown hK hP hD hS hA hl hin
  have hown : s.vm.findClass RX0 = some m.cls := hown
  have hl : lv_has ls 2 [(0, .ref h0), (1, .int 256)] := hl
  refine lv_aload_n hx hb dX0_init_0 rfl (lv_at hl 0 rfl) ?_
  refine W.objInit hx hb hown (hg _ gw_95) (hg _ gw_82) (hg _ gw_83) rfl (by rw [hml]; exact hl.1) rfl dX0_init_1 (Nat.le_of_ble_eq_true rfl) (Nat.le_of_ble_eq_true rfl) ?_
  refine W.eq (g2 := F0 m 4 ls []) rfl ?_
  refine lv_aload_n hx hb dX0_init_4 rfl (lv_at hl 0 rfl) ?_
  refine lv_iconst (v := 0) hx hb dX0_init_5 (by decide) ?_
  refine va_put (D := D) (ci := 0) (v := .int 0) (ty := tyX0 1) (C := RX0) (T := TX0) (N := 2) hx hb hg uX0 tyX0 tyX0_ok nmX0 hown hK.1 hP hD hS 0 rfl rfl 1 (by decide) (hg _ gw_100) (fun _ h9 => h9) rfl (tyX0_ok 1 (by decide)) rfl rfl (Nat.le_of_ble_eq_true rfl) dX0_init_6 (fun H locs hP hD hS => ?_)
  have hP : va_P D vwCl [(h0, .inr (0, [.null, .int 0]))] H := hP
  have hD : va_D A [(h0, .inr (0, [.null, .int 0]))] := hD
  refine lv_aload_n hx hb dX0_init_9 rfl (lv_at hl 0 rfl) ?_
  refine lv_iconst (v := 0) hx hb dX0_init_10 (by decide) ?_
  refine lv_iload_n hx hb dX0_init_11 rfl (lv_at hl 1 rfl) ?_
  refine va_mmax hx hb (hml.trans hl.1.symm) hown (hg _ gw_96) (hg _ gw_97) (hg _ gw_62) (hg _ gw_98) (by decide) (Nat.le_of_ble_eq_true rfl) (Nat.le_of_ble_eq_true rfl) (Nat.le_of_ble_eq_true rfl) dX0_init_12 ?_
  refine nm_i (y := 256) (by decide) ?_
  refine va_newa (atype := .int) (N' := 256) (a0 := (256, .inl (fun _ => 0))) hx hb (hg _ gw_106) rfl hK.1 hP hD hS hA (fun _ => rfl) (by decide) (by decide) (by decide) (Nat.le_of_ble_eq_true rfl) (Nat.le_of_ble_eq_true rfl) dX0_init_15 (fun q1 cA H hK1 hP hD hS => ?_)
  have e9 : cI = cA := (cA_int (k := 3) (j := 0) hK1 rfl rfl).symm
  subst e9
  have hP : va_P D vwCl ([(h0, .inr (0, [.null, .int 0]))] ++ [(q1, .inl (cI, 256, .inl (fun _ => 0)))]) H := hP
  have hD : va_D A ([(h0, .inr (0, [.null, .int 0]))] ++ [(q1, .inl (cI, 256, .inl (fun _ => 0)))]) := hD
  refine va_putF (D := D) (ci := 0) (v := .ref q1) (ty := tyX0 0) (C := RX0) (T := TX0) (N := 2) hx hb hg uX0 tyX0 tyX0_ok nmX0 hown hK.1 hP hD hS 0 rfl rfl 0 (by decide) (hg _ gw_99) (fun _ h9 => h9) rfl hin rfl (tyX0_ok 0 (by decide)) rfl rfl (Nat.le_of_ble_eq_true rfl) dX0_init_17 (fun H locs hP hD hS => ?_)
  have hP : va_P D vwCl ([(h0, .inr (0, [.ref q1, .int 0]))] ++ [(q1, .inl (cI, 256, .inl (fun _ => 0)))]) H := hP
  have hD : va_D A ([(h0, .inr (0, [.ref q1, .int 0]))] ++ [(q1, .inl (cI, 256, .inl (fun _ => 0)))]) := hD
  exact ret_n (fun i => ([h0, q1] : List Nat).getD i 0) hx hb hr hlocks hP hD hS (Nat.le_of_ble_eq_true rfl) (Nat.le_of_ble_eq_true rfl) dX0_init_20
abbrev rn_X0_60 : Room := { frames := 1, cells := 1, slots := 60, locals := 21 }
set_option maxRecDepth 100000 in
set_option maxHeartbeats 4000000 in
theorem kn_X0_60 (l : Launch) (D : va_G) (cI cS cL : ClassId) (h0 : Nat) : CN l yX0_init cX0_init 2 rn_X0_60 D cI cS cL [.ref h0, .int 60] [(h0, .inr (0, [.null, .int 0]))] (fun (hh : Nat → Nat) => wX0 cI h0 (hh 1) 60 0 (fun _ => 0)) 1 60 := by
  refine ent_n (by decide +kernel) rfl (Nat.le_of_ble_eq_true rfl) ?_
  intro p e s m args below meth c A ls hx hb hr hml hlocks hg hown hK hP hD hS hA hl hin
  have hown : s.vm.findClass RX0 = some m.cls := hown
  have hl : lv_has ls 2 [(0, .ref h0), (1, .int 60)] := hl
  refine lv_aload_n hx hb dX0_init_0 rfl (lv_at hl 0 rfl) ?_
  refine W.objInit hx hb hown (hg _ gw_95) (hg _ gw_82) (hg _ gw_83) rfl (by rw [hml]; exact hl.1) rfl dX0_init_1 (Nat.le_of_ble_eq_true rfl) (Nat.le_of_ble_eq_true rfl) ?_
  refine W.eq (g2 := F0 m 4 ls []) rfl ?_
  refine lv_aload_n hx hb dX0_init_4 rfl (lv_at hl 0 rfl) ?_
  refine lv_iconst (v := 0) hx hb dX0_init_5 (by decide) ?_
  refine va_put (D := D) (ci := 0) (v := .int 0) (ty := tyX0 1) (C := RX0) (T := TX0) (N := 2) hx hb hg uX0 tyX0 tyX0_ok nmX0 hown hK.1 hP hD hS 0 rfl rfl 1 (by decide) (hg _ gw_100) (fun _ h9 => h9) rfl (tyX0_ok 1 (by decide)) rfl rfl (Nat.le_of_ble_eq_true rfl) dX0_init_6 (fun H locs hP hD hS => ?_)
  have hP : va_P D vwCl [(h0, .inr (0, [.null, .int 0]))] H := hP
  have hD : va_D A [(h0, .inr (0, [.null, .int 0]))] := hD
  refine lv_aload_n hx hb dX0_init_9 rfl (lv_at hl 0 rfl) ?_
  refine lv_iconst (v := 0) hx hb dX0_init_10 (by decide) ?_
  refine lv_iload_n hx hb dX0_init_11 rfl (lv_at hl 1 rfl) ?_
  refine va_mmax hx hb (hml.trans hl.1.symm) hown (hg _ gw_96) (hg _ gw_97) (hg _ gw_62) (hg _ gw_98) (by decide) (Nat.le_of_ble_eq_true rfl) (Nat.le_of_ble_eq_true rfl) (Nat.le_of_ble_eq_true rfl) dX0_init_12 ?_
  refine nm_i (y := 60) (by decide) ?_
  refine va_newa (atype := .int) (N' := 60) (a0 := (60, .inl (fun _ => 0))) hx hb (hg _ gw_106) rfl hK.1 hP hD hS hA (fun _ => rfl) (by decide) (by decide) (by decide) (Nat.le_of_ble_eq_true rfl) (Nat.le_of_ble_eq_true rfl) dX0_init_15 (fun q1 cA H hK1 hP hD hS => ?_)
  have e9 : cI = cA := (cA_int (k := 3) (j := 0) hK1 rfl rfl).symm
  subst e9
  have hP : va_P D vwCl ([(h0, .inr (0, [.null, .int 0]))] ++ [(q1, .inl (cI, 60, .inl (fun _ => 0)))]) H := hP
  have hD : va_D A ([(h0, .inr (0, [.null, .int 0]))] ++ [(q1, .inl (cI, 60, .inl (fun _ => 0)))]) := hD
  refine va_putF (D := D) (ci := 0) (v := .ref q1) (ty := tyX0 0) (C := RX0) (T := TX0) (N := 2) hx hb hg uX0 tyX0 tyX0_ok nmX0 hown hK.1 hP hD hS 0 rfl rfl 0 (by decide) (hg _ gw_99) (fun _ h9 => h9) rfl hin rfl (tyX0_ok 0 (by decide)) rfl rfl (Nat.le_of_ble_eq_true rfl) dX0_init_17 (fun H locs hP hD hS => ?_)
  have hP : va_P D vwCl ([(h0, .inr (0, [.ref q1, .int 0]))] ++ [(q1, .inl (cI, 60, .inl (fun _ => 0)))]) H := hP
  have hD : va_D A ([(h0, .inr (0, [.ref q1, .int 0]))] ++ [(q1, .inl (cI, 60, .inl (fun _ => 0)))]) := hD
  exact ret_n (fun i => ([h0, q1] : List Nat).getD i 0) hx hb hr hlocks hP hD hS (Nat.le_of_ble_eq_true rfl) (Nat.le_of_ble_eq_true rfl) dX0_init_20
abbrev rn_X3 : Room := { frames := 1, cells := 0, slots := 0, locals := 12 }
set_option maxRecDepth 100000 in
set_option maxHeartbeats 4000000 in
theorem kn_X3 (l : Launch) (D : va_G) (cI cS cL : ClassId) (h0 : Nat) : CN l yX3_init cX3_init 1 rn_X3 D cI cS cL [.ref h0] [(h0, .inr (3, [.int 0, .int 0, .int 0, .int 0, .int 0, .int 0]))] (fun (hh : Nat → Nat) => wX3 cI h0 8 0 0 0 0 0) 0 0 := by
  refine ent_n (by decide +kernel) rfl (Nat.le_of_ble_eq_true rfl) ?_
  intro p e s m args below meth c A ls hx hb hr hml hlocks hg hown hK hP hD hS hA hl hin
  have hown : s.vm.findClass RX3 = some m.cls := hown
  have hl : lv_has ls 1 [(0, .ref h0)] := hl
  refine lv_aload_n hx hb dX3_init_0 rfl (lv_at hl 0 rfl) ?_
  refine W.objInit hx hb hown (hg _ gw_125) (hg _ gw_82) (hg _ gw_83) rfl (by rw [hml]; exact hl.1) rfl dX3_init_1 (Nat.le_of_ble_eq_true rfl) (Nat.le_of_ble_eq_true rfl) ?_
  refine W.eq (g2 := F0 m 4 ls []) rfl ?_
  refine lv_aload_n hx hb dX3_init_4 rfl (lv_at hl 0 rfl) ?_
  refine lv_bipush (v := 8) hx hb dX3_init_5 (by decide) ?_
  refine va_put (D := D) (ci := 3) (v := .int 8) (ty := tyX3 0) (C := RX3) (T := TX3) (N := 6) hx hb hg uX3 tyX3 tyX3_ok nmX3 hown hK.1 hP hD hS 0 rfl rfl 0 (by decide) (hg _ gw_126) (fun _ h9 => h9) rfl (tyX3_ok 0 (by decide)) rfl rfl (Nat.le_of_ble_eq_true rfl) dX3_init_7 (fun H locs hP hD hS => ?_)
  have hP : va_P D vwCl [(h0, .inr (3, [.int 8, .int 0, .int 0, .int 0, .int 0, .int 0]))] H := hP
  have hD : va_D A [(h0, .inr (3, [.int 8, .int 0, .int 0, .int 0, .int 0, .int 0]))] := hD
  refine lv_aload_n hx hb dX3_init_10 rfl (lv_at hl 0 rfl) ?_
  refine lv_iconst (v := 0) hx hb dX3_init_11 (by decide) ?_
  refine va_put (D := D) (ci := 3) (v := .int 0) (ty := tyX3 1) (C := RX3) (T := TX3) (N := 6) hx hb hg uX3 tyX3 tyX3_ok nmX3 hown hK.1 hP hD hS 0 rfl rfl 1 (by decide) (hg _ gw_129) (fun _ h9 => h9) rfl (tyX3_ok 1 (by decide)) rfl rfl (Nat.le_of_ble_eq_true rfl) dX3_init_12 (fun H locs hP hD hS => ?_)
  have hP : va_P D vwCl [(h0, .inr (3, [.int 8, .int 0, .int 0, .int 0, .int 0, .int 0]))] H := hP
  have hD : va_D A [(h0, .inr (3, [.int 8, .int 0, .int 0, .int 0, .int 0, .int 0]))] := hD
  refine lv_aload_n hx hb dX3_init_15 rfl (lv_at hl 0 rfl) ?_
  refine lv_iconst (v := 0) hx hb dX3_init_16 (by decide) ?_
  refine va_put (D := D) (ci := 3) (v := .int 0) (ty := tyX3 2) (C := RX3) (T := TX3) (N := 6) hx hb hg uX3 tyX3 tyX3_ok nmX3 hown hK.1 hP hD hS 0 rfl rfl 2 (by decide) (hg _ gw_132) (fun _ h9 => h9) rfl (tyX3_ok 2 (by decide)) rfl rfl (Nat.le_of_ble_eq_true rfl) dX3_init_17 (fun H locs hP hD hS => ?_)
  have hP : va_P D vwCl [(h0, .inr (3, [.int 8, .int 0, .int 0, .int 0, .int 0, .int 0]))] H := hP
  have hD : va_D A [(h0, .inr (3, [.int 8, .int 0, .int 0, .int 0, .int 0, .int 0]))] := hD
  refine lv_aload_n hx hb dX3_init_20 rfl (lv_at hl 0 rfl) ?_
  refine lv_iconst (v := 0) hx hb dX3_init_21 (by decide) ?_
  refine va_put (D := D) (ci := 3) (v := .int 0) (ty := tyX3 3) (C := RX3) (T := TX3) (N := 6) hx hb hg uX3 tyX3 tyX3_ok nmX3 hown hK.1 hP hD hS 0 rfl rfl 3 (by decide) (hg _ gw_135) (fun _ h9 => h9) rfl (tyX3_ok 3 (by decide)) rfl rfl (Nat.le_of_ble_eq_true rfl) dX3_init_22 (fun H locs hP hD hS => ?_)
  have hP : va_P D vwCl [(h0, .inr (3, [.int 8, .int 0, .int 0, .int 0, .int 0, .int 0]))] H := hP
  have hD : va_D A [(h0, .inr (3, [.int 8, .int 0, .int 0, .int 0, .int 0, .int 0]))] := hD
  refine lv_aload_n hx hb dX3_init_25 rfl (lv_at hl 0 rfl) ?_
  refine lv_iconst (v := 0) hx hb dX3_init_26 (by decide) ?_
  refine va_put (D := D) (ci := 3) (v := .int 0) (ty := tyX3 4) (C := RX3) (T := TX3) (N := 6) hx hb hg uX3 tyX3 tyX3_ok nmX3 hown hK.1 hP hD hS 0 rfl rfl 4 (by decide) (hg _ gw_138) (fun _ h9 => h9) rfl (tyX3_ok 4 (by decide)) rfl rfl (Nat.le_of_ble_eq_true rfl) dX3_init_27 (fun H locs hP hD hS => ?_)
  have hP : va_P D vwCl [(h0, .inr (3, [.int 8, .int 0, .int 0, .int 0, .int 0, .int 0]))] H := hP
  have hD : va_D A [(h0, .inr (3, [.int 8, .int 0, .int 0, .int 0, .int 0, .int 0]))] := hD
  refine lv_aload_n hx hb dX3_init_30 rfl (lv_at hl 0 rfl) ?_
  refine lv_iconst (v := 0) hx hb dX3_init_31 (by decide) ?_
  refine va_put (D := D) (ci := 3) (v := .int 0) (ty := tyX3 5) (C := RX3) (T := TX3) (N := 6) hx hb hg uX3 tyX3 tyX3_ok nmX3 hown hK.1 hP hD hS 0 rfl rfl 5 (by decide) (hg _ gw_141) (fun _ h9 => h9) rfl (tyX3_ok 5 (by decide)) rfl rfl (Nat.le_of_ble_eq_true rfl) dX3_init_32 (fun H locs hP hD hS => ?_)
  have hP : va_P D vwCl [(h0, .inr (3, [.int 8, .int 0, .int 0, .int 0, .int 0, .int 0]))] H := hP
  have hD : va_D A [(h0, .inr (3, [.int 8, .int 0, .int 0, .int 0, .int 0, .int 0]))] := hD
  exact ret_n (fun i => ([h0] : List Nat).getD i 0) hx hb hr hlocks hP hD hS (Nat.le_of_ble_eq_true rfl) (Nat.le_of_ble_eq_true rfl) dX3_init_35
abbrev rn_X4 : Room := { frames := 1, cells := 2, slots := 8, locals := 12 }
set_option maxRecDepth 100000 in
set_option maxHeartbeats 4000000 in
theorem kn_X4 (l : Launch) (D : va_G) (cI cS cL : ClassId) (h0 : Nat) : CN l yX4_init cX4_init 2 rn_X4 D cI cS cL [.ref h0] [(h0, .inr (4, [.null, .null]))] (fun (hh : Nat → Nat) => wX4 cI h0 (hh 1) (hh 2) mP0 (fun _ => 0)) 2 8 := by
  refine ent_n (by decide +kernel) rfl (Nat.le_of_ble_eq_true rfl) ?_
  intro p e s m args below meth c A ls hx hb hr hml hlocks hg hown hK hP hD hS hA hl hin
  have hown : s.vm.findClass RX4 = some m.cls := hown
  have hl : lv_has ls 2 [(0, .ref h0)] := hl
  refine lv_aload_n hx hb dX4_init_0 rfl (lv_at hl 0 rfl) ?_
  refine W.objInit hx hb hown (hg _ gw_112) (hg _ gw_82) (hg _ gw_83) rfl (by rw [hml]; exact hl.1) rfl dX4_init_1 (Nat.le_of_ble_eq_true rfl) (Nat.le_of_ble_eq_true rfl) ?_
  refine W.eq (g2 := F0 m 4 ls []) rfl ?_
  refine lv_aload_n hx hb dX4_init_4 rfl (lv_at hl 0 rfl) ?_
  refine lv_iconst (v := 4) hx hb dX4_init_5 (by decide) ?_
  refine va_newa (atype := .int) (N' := 4) (a0 := (4, .inl (fun _ => 0))) hx hb (hg _ gw_106) rfl hK.1 hP hD hS hA (fun _ => rfl) (by decide) (by decide) (by decide) (Nat.le_of_ble_eq_true rfl) (Nat.le_of_ble_eq_true rfl) dX4_init_6 (fun q1 cA H hK1 hP hD hS => ?_)
  have e9 : cI = cA := (cA_int (k := 3) (j := 0) hK1 rfl rfl).symm
  subst e9
  have hP : va_P D vwCl ([(h0, .inr (4, [.null, .null]))] ++ [(q1, .inl (cI, 4, .inl (fun _ => 0)))]) H := hP
  have hD : va_D A ([(h0, .inr (4, [.null, .null]))] ++ [(q1, .inl (cI, 4, .inl (fun _ => 0)))]) := hD
  refine va_putF (D := D) (ci := 4) (v := .ref q1) (ty := tyX4 0) (C := RX4) (T := TX4) (N := 2) hx hb hg uX4 tyX4 tyX4_ok nmX4 hown hK.1 hP hD hS 0 rfl rfl 0 (by decide) (hg _ gw_113) (fun _ h9 => h9) rfl hin rfl (tyX4_ok 0 (by decide)) rfl rfl (Nat.le_of_ble_eq_true rfl) dX4_init_8 (fun H locs hP hD hS => ?_)
  have hP : va_P D vwCl ([(h0, .inr (4, [.ref q1, .null]))] ++ [(q1, .inl (cI, 4, .inl (fun _ => 0)))]) H := hP
  have hD : va_D A ([(h0, .inr (4, [.ref q1, .null]))] ++ [(q1, .inl (cI, 4, .inl (fun _ => 0)))]) := hD
  refine lv_aload_n hx hb dX4_init_11 rfl (lv_at hl 0 rfl) ?_
  refine lv_iconst (v := 4) hx hb dX4_init_12 (by decide) ?_
  refine va_newa (atype := .int) (N' := 4) (a0 := (4, .inl (fun _ => 0))) hx hb (hg _ gw_106) rfl hK.1 hP hD hS hA (fun _ => rfl) (by decide) (by decide) (by decide) (Nat.le_of_ble_eq_true rfl) (Nat.le_of_ble_eq_true rfl) dX4_init_13 (fun q2 cA H hK1 hP hD hS => ?_)
  have e9 : cI = cA := (cA_int (k := 3) (j := 0) hK1 rfl rfl).symm
  subst e9
  have hP : va_P D vwCl (([(h0, .inr (4, [.ref q1, .null]))] ++ [(q1, .inl (cI, 4, .inl (fun _ => 0)))]) ++ [(q2, .inl (cI, 4, .inl (fun _ => 0)))]) H := hP
  have hD : va_D A (([(h0, .inr (4, [.ref q1, .null]))] ++ [(q1, .inl (cI, 4, .inl (fun _ => 0)))]) ++ [(q2, .inl (cI, 4, .inl (fun _ => 0)))]) := hD
  refine va_putF (D := D) (ci := 4) (v := .ref q2) (ty := tyX4 1) (C := RX4) (T := TX4) (N := 2) hx hb hg uX4 tyX4 tyX4_ok nmX4 hown hK.1 hP hD hS 0 rfl rfl 1 (by decide) (hg _ gw_114) (fun _ h9 => h9) rfl hin rfl (tyX4_ok 1 (by decide)) rfl rfl (Nat.le_of_ble_eq_true rfl) dX4_init_15 (fun H locs hP hD hS => ?_)
  have hP : va_P D vwCl (([(h0, .inr (4, [.ref q1, .ref q2]))] ++ [(q1, .inl (cI, 4, .inl (fun _ => 0)))]) ++ [(q2, .inl (cI, 4, .inl (fun _ => 0)))]) H := hP
  have hD : va_D A (([(h0, .inr (4, [.ref q1, .ref q2]))] ++ [(q1, .inl (cI, 4, .inl (fun _ => 0)))]) ++ [(q2, .inl (cI, 4, .inl (fun _ => 0)))]) := hD
  refine lv_iconst (v := 0) hx hb dX4_init_18 (by decide) ?_
  refine lv_istore_n (lv' := [(1, .int 0), (0, .ref h0)]) hx hb dX4_init_19 rfl hl (by decide) rfl (fun ls hl => ?_)
  refine lv_iload_n hx hb dX4_init_20 rfl (lv_at hl 0 rfl) ?_
  refine lv_iconst (v := 4) hx hb dX4_init_21 (by decide) ?_
  refine lv_icmp_ge (tgt := 38) hx hb dX4_init_22 (by decide) (fun q => absurd q (by decide)) (fun _ => ?_)
  refine lv_aload_n hx hb dX4_init_25 rfl (lv_at hl 1 rfl) ?_
  refine va_get (D := D) (ci := 4) (v := .ref q1) (C := RX4) (T := TX4) (N := 2) hx hb hg uX4 hown hK.1 hP 0 rfl rfl 0 (by decide) (hg _ gw_113) (fun _ h9 => h9) rfl dX4_init_26 ?_
  refine lv_iload_n hx hb dX4_init_29 rfl (lv_at hl 0 rfl) ?_
  refine lv_iconst (v := (-1)) hx hb dX4_init_30 (by decide) ?_
  refine va_iast hx hb hK.1 hP hD hS 1 0 rfl rfl (i := 0) (x := (-1)) (vp_in_nI (n := 0) (by decide) (by decide)) dX4_init_31 (fun H locs hP hD hS => ?_)
  have hP : va_P D vwCl (([(h0, .inr (4, [.ref q1, .ref q2]))] ++ [(q1, .inl (cI, 4, .inl (upd (fun _ => 0) 0 (-1))))]) ++ [(q2, .inl (cI, 4, .inl (fun _ => 0)))]) H := hP
  have hD : va_D A (([(h0, .inr (4, [.ref q1, .ref q2]))] ++ [(q1, .inl (cI, 4, .inl (upd (fun _ => 0) 0 (-1))))]) ++ [(q2, .inl (cI, 4, .inl (fun _ => 0)))]) := hD
  refine lv_iinc (v := 1) (lv' := [(1, .int 1), (0, .ref h0)]) hx hb dX4_init_32 hl (k := 0) rfl (by decide) (by decide) rfl (fun ls hl => ?_)
  refine lv_goto (tgt := 20) hx hb dX4_init_35 (by decide) ?_
  refine lv_iload_n hx hb dX4_init_20 rfl (lv_at hl 0 rfl) ?_
  refine lv_iconst (v := 4) hx hb dX4_init_21 (by decide) ?_
  refine lv_icmp_ge (tgt := 38) hx hb dX4_init_22 (by decide) (fun q => absurd q (by decide)) (fun _ => ?_)
  refine lv_aload_n hx hb dX4_init_25 rfl (lv_at hl 1 rfl) ?_
  refine va_get (D := D) (ci := 4) (v := .ref q1) (C := RX4) (T := TX4) (N := 2) hx hb hg uX4 hown hK.1 hP 0 rfl rfl 0 (by decide) (hg _ gw_113) (fun _ h9 => h9) rfl dX4_init_26 ?_
  refine lv_iload_n hx hb dX4_init_29 rfl (lv_at hl 0 rfl) ?_
  refine lv_iconst (v := (-1)) hx hb dX4_init_30 (by decide) ?_
  refine va_iast hx hb hK.1 hP hD hS 1 0 rfl rfl (i := 1) (x := (-1)) (vp_in_nI (n := 1) (by decide) (by decide)) dX4_init_31 (fun H locs hP hD hS => ?_)
  have hP : va_P D vwCl (([(h0, .inr (4, [.ref q1, .ref q2]))] ++ [(q1, .inl (cI, 4, .inl (upd (upd (fun _ => 0) 0 (-1)) 1 (-1))))]) ++ [(q2, .inl (cI, 4, .inl (fun _ => 0)))]) H := hP
  have hD : va_D A (([(h0, .inr (4, [.ref q1, .ref q2]))] ++ [(q1, .inl (cI, 4, .inl (upd (upd (fun _ => 0) 0 (-1)) 1 (-1))))]) ++ [(q2, .inl (cI, 4, .inl (fun _ => 0)))]) := hD
  refine lv_iinc (v := 2) (lv' := [(1, .int 2), (0, .ref h0)]) hx hb dX4_init_32 hl (k := 0) rfl (by decide) (by decide) rfl (fun ls hl => ?_)
  refine lv_goto (tgt := 20) hx hb dX4_init_35 (by decide) ?_
  refine lv_iload_n hx hb dX4_init_20 rfl (lv_at hl 0 rfl) ?_
  refine lv_iconst (v := 4) hx hb dX4_init_21 (by decide) ?_
  refine lv_icmp_ge (tgt := 38) hx hb dX4_init_22 (by decide) (fun q => absurd q (by decide)) (fun _ => ?_)
  refine lv_aload_n hx hb dX4_init_25 rfl (lv_at hl 1 rfl) ?_
  refine va_get (D := D) (ci := 4) (v := .ref q1) (C := RX4) (T := TX4) (N := 2) hx hb hg uX4 hown hK.1 hP 0 rfl rfl 0 (by decide) (hg _ gw_113) (fun _ h9 => h9) rfl dX4_init_26 ?_
  refine lv_iload_n hx hb dX4_init_29 rfl (lv_at hl 0 rfl) ?_
  refine lv_iconst (v := (-1)) hx hb dX4_init_30 (by decide) ?_
  refine va_iast hx hb hK.1 hP hD hS 1 0 rfl rfl (i := 2) (x := (-1)) (vp_in_nI (n := 2) (by decide) (by decide)) dX4_init_31 (fun H locs hP hD hS => ?_)
  have hP : va_P D vwCl (([(h0, .inr (4, [.ref q1, .ref q2]))] ++ [(q1, .inl (cI, 4, .inl (upd (upd (upd (fun _ => 0) 0 (-1)) 1 (-1)) 2 (-1))))]) ++ [(q2, .inl (cI, 4, .inl (fun _ => 0)))]) H := hP
  have hD : va_D A (([(h0, .inr (4, [.ref q1, .ref q2]))] ++ [(q1, .inl (cI, 4, .inl (upd (upd (upd (fun _ => 0) 0 (-1)) 1 (-1)) 2 (-1))))]) ++ [(q2, .inl (cI, 4, .inl (fun _ => 0)))]) := hD
  refine lv_iinc (v := 3) (lv' := [(1, .int 3), (0, .ref h0)]) hx hb dX4_init_32 hl (k := 0) rfl (by decide) (by decide) rfl (fun ls hl => ?_)
  refine lv_goto (tgt := 20) hx hb dX4_init_35 (by decide) ?_
  refine lv_iload_n hx hb dX4_init_20 rfl (lv_at hl 0 rfl) ?_
  refine lv_iconst (v := 4) hx hb dX4_init_21 (by decide) ?_
  refine lv_icmp_ge (tgt := 38) hx hb dX4_init_22 (by decide) (fun q => absurd q (by decide)) (fun _ => ?_)
  refine lv_aload_n hx hb dX4_init_25 rfl (lv_at hl 1 rfl) ?_
  refine va_get (D := D) (ci := 4) (v := .ref q1) (C := RX4) (T := TX4) (N := 2) hx hb hg uX4 hown hK.1 hP 0 rfl rfl 0 (by decide) (hg _ gw_113) (fun _ h9 => h9) rfl dX4_init_26 ?_
  refine lv_iload_n hx hb dX4_init_29 rfl (lv_at hl 0 rfl) ?_
  refine lv_iconst (v := (-1)) hx hb dX4_init_30 (by decide) ?_
  refine va_iast hx hb hK.1 hP hD hS 1 0 rfl rfl (i := 3) (x := (-1)) (vp_in_nI (n := 3) (by decide) (by decide)) dX4_init_31 (fun H locs hP hD hS => ?_)
  have hP : va_P D vwCl (([(h0, .inr (4, [.ref q1, .ref q2]))] ++ [(q1, .inl (cI, 4, .inl (upd (upd (upd (upd (fun _ => 0) 0 (-1)) 1 (-1)) 2 (-1)) 3 (-1))))]) ++ [(q2, .inl (cI, 4, .inl (fun _ => 0)))]) H := hP
  have hD : va_D A (([(h0, .inr (4, [.ref q1, .ref q2]))] ++ [(q1, .inl (cI, 4, .inl (upd (upd (upd (upd (fun _ => 0) 0 (-1)) 1 (-1)) 2 (-1)) 3 (-1))))]) ++ [(q2, .inl (cI, 4, .inl (fun _ => 0)))]) := hD
  refine lv_iinc (v := 4) (lv' := [(1, .int 4), (0, .ref h0)]) hx hb dX4_init_32 hl (k := 0) rfl (by decide) (by decide) rfl (fun ls hl => ?_)
  refine lv_goto (tgt := 20) hx hb dX4_init_35 (by decide) ?_
  refine lv_iload_n hx hb dX4_init_20 rfl (lv_at hl 0 rfl) ?_
  refine lv_iconst (v := 4) hx hb dX4_init_21 (by decide) ?_
  refine lv_icmp_ge (tgt := 38) hx hb dX4_init_22 (by decide) (fun _ => ?_) (fun q => absurd (by decide) q)
  exact ret_n (fun i => ([h0, q1, q2] : List Nat).getD i 0) hx hb hr hlocks hP hD hS (Nat.le_of_ble_eq_true rfl) (Nat.le_of_ble_eq_true rfl) dX4_init_38
abbrev rn_X5 : Room := { frames := 1, cells := 0, slots := 0, locals := 12 }
set_option maxRecDepth 100000 in
set_option maxHeartbeats 4000000 in
theorem kn_X5 (l : Launch) (D : va_G) (cI cS cL : ClassId) (h0 : Nat) : CN l yX5_init cX5_init 1 rn_X5 D cI cS cL [.ref h0] [(h0, .inr (5, [.int 0, .int 0, .int 0]))] (fun (hh : Nat → Nat) => wX5 cI h0 (-1) 0 (-1)) 0 0 := by
  refine ent_n (by decide +kernel) rfl (Nat.le_of_ble_eq_true rfl) ?_
  intro p e s m args below meth c A ls hx hb hr hml hlocks hg hown hK hP hD hS hA hl hin
  have hown : s.vm.findClass RX5 = some m.cls := hown
  have hl : lv_has ls 1 [(0, .ref h0)] := hl
  refine lv_aload_n hx hb dX5_init_0 rfl (lv_at hl 0 rfl) ?_
  refine W.objInit hx hb hown (hg _ gw_220) (hg _ gw_82) (hg _ gw_83) rfl (by rw [hml]; exact hl.1) rfl dX5_init_1 (Nat.le_of_ble_eq_true rfl) (Nat.le_of_ble_eq_true rfl) ?_
  refine W.eq (g2 := F0 m 4 ls []) rfl ?_
  refine lv_aload_n hx hb dX5_init_4 rfl (lv_at hl 0 rfl) ?_
  refine lv_iconst (v := (-1)) hx hb dX5_init_5 (by decide) ?_
  refine va_put (D := D) (ci := 5) (v := .int (-1)) (ty := tyX5 0) (C := RX5) (T := TX5) (N := 3) hx hb hg uX5 tyX5 tyX5_ok nmX5 hown hK.1 hP hD hS 0 rfl rfl 0 (by decide) (hg _ gw_221) (fun _ h9 => h9) rfl (tyX5_ok 0 (by decide)) rfl rfl (Nat.le_of_ble_eq_true rfl) dX5_init_6 (fun H locs hP hD hS => ?_)
  have hP : va_P D vwCl [(h0, .inr (5, [.int (-1), .int 0, .int 0]))] H := hP
  have hD : va_D A [(h0, .inr (5, [.int (-1), .int 0, .int 0]))] := hD
  refine lv_aload_n hx hb dX5_init_9 rfl (lv_at hl 0 rfl) ?_
  refine lv_iconst (v := 0) hx hb dX5_init_10 (by decide) ?_
  refine va_put (D := D) (ci := 5) (v := .int 0) (ty := tyX5 1) (C := RX5) (T := TX5) (N := 3) hx hb hg uX5 tyX5 tyX5_ok nmX5 hown hK.1 hP hD hS 0 rfl rfl 1 (by decide) (hg _ gw_223) (fun _ h9 => h9) rfl (tyX5_ok 1 (by decide)) rfl rfl (Nat.le_of_ble_eq_true rfl) dX5_init_11 (fun H locs hP hD hS => ?_)
  have hP : va_P D vwCl [(h0, .inr (5, [.int (-1), .int 0, .int 0]))] H := hP
  have hD : va_D A [(h0, .inr (5, [.int (-1), .int 0, .int 0]))] := hD
  refine lv_aload_n hx hb dX5_init_14 rfl (lv_at hl 0 rfl) ?_
  refine lv_iconst (v := (-1)) hx hb dX5_init_15 (by decide) ?_
  refine va_put (D := D) (ci := 5) (v := .int (-1)) (ty := tyX5 2) (C := RX5) (T := TX5) (N := 3) hx hb hg uX5 tyX5 tyX5_ok nmX5 hown hK.1 hP hD hS 0 rfl rfl 2 (by decide) (hg _ gw_225) (fun _ h9 => h9) rfl (tyX5_ok 2 (by decide)) rfl rfl (Nat.le_of_ble_eq_true rfl) dX5_init_16 (fun H locs hP hD hS => ?_)
  have hP : va_P D vwCl [(h0, .inr (5, [.int (-1), .int 0, .int (-1)]))] H := hP
  have hD : va_D A [(h0, .inr (5, [.int (-1), .int 0, .int (-1)]))] := hD
  exact ret_n (fun i => ([h0] : List Nat).getD i 0) hx hb hr hlocks hP hD hS (Nat.le_of_ble_eq_true rfl) (Nat.le_of_ble_eq_true rfl) dX5_init_19
abbrev rn_X6 : Room := { frames := 2, cells := 8, slots := 336, locals := 42 }
set_option maxRecDepth 100000 in
set_option maxHeartbeats 4000000 in
theorem kn_X6 (l : Launch) (D : va_G) (cI cS cL : ClassId) (h0 : Nat) : CN l yX6_init cX6_init 1 rn_X6 D cI cS cL [.ref h0] [(h0, .inr (6, [.null, .null, .null, .null, .int 0, .int 0, .int 0]))] (fun (hh : Nat → Nat) => wX6 cI h0 (hh 1) (hh 2) (hh 3) (hh 4) (hh 5) (hh 6) (hh 7) (hh 8) 0 0 0 0 (fun _ => 0) 0 (fun _ => 0) mP0 (fun _ => 0) 8 0 0 0 0 0) 8 336 := by
  refine ent_n (by decide +kernel) rfl (Nat.le_of_ble_eq_true rfl) ?_
  intro p e s m args below meth c A ls hx hb hr hml hlocks hg hown hK hP hD hS hA hl hin
  have hown : s.vm.findClass RX6 = some m.cls := hown
  have hl : lv_has ls 1 [(0, .ref h0)] := hl
  refine lv_aload_n hx hb dX6_init_0 rfl (lv_at hl 0 rfl) ?_
  refine W.objInit hx hb hown (hg _ gw_89) (hg _ gw_82) (hg _ gw_83) rfl (by rw [hml]; exact hl.1) rfl dX6_init_1 (Nat.le_of_ble_eq_true rfl) (Nat.le_of_ble_eq_true rfl) ?_
  refine W.eq (g2 := F0 m 4 ls []) rfl ?_
  refine lv_aload_n hx hb dX6_init_4 rfl (lv_at hl 0 rfl) ?_
  refine va_new (ci := 0) (fs := [.null, .int 0]) (C := RX0) (T := TX0) (N := 2) hx hb hg uX0 tyX0 tyX0_ok hown (hg _ gw_90) (hg _ gw_91) (hg _ gw_61) hK.1 hP hD hS hA rfl (fun j hj => by rcases (show j = 0 ∨ j = 1 by omega) with rfl | rfl <;> rfl) (Nat.le_of_ble_eq_true rfl) (Nat.le_of_ble_eq_true rfl) dX6_init_5 (fun q1 H hP hD hS => ?_)
  have hP : va_P D vwCl ([(h0, .inr (6, [.null, .null, .null, .null, .int 0, .int 0, .int 0]))] ++ [(q1, .inr (0, [.null, .int 0]))]) H := hP
  have hD : va_D A ([(h0, .inr (6, [.null, .null, .null, .null, .int 0, .int 0, .int 0]))] ++ [(q1, .inr (0, [.null, .int 0]))]) := hD
  refine lv_dup hx hb dX6_init_8 rfl ?_
  refine lv_sipush (v := 256) hx hb dX6_init_9 (by decide) ?_
  refine cI_n (As := [.int 256]) (rest := [.ref q1, .ref h0]) (wc := [(q1, .inr (0, [.null, .int 0]))]) (wr := [(h0, .inr (6, [.null, .null, .null, .null, .int 0, .int 0, .int 0]))]) hx hb hml hown hg hK hP hD hS hA hl.1 (kn_X0_256 l D cI cS cL q1) rfl gw_93 gw_61 gw_94 (by decide +kernel) gw_92 ⟨rfl, rfl, by decide, by decide⟩ ⟨Nat.le_of_ble_eq_true rfl, Nat.le_of_ble_eq_true rfl⟩ List.perm_append_comm rfl rfl (Nat.le_of_ble_eq_true rfl) dX6_init_12 (fun u2 H locs hP hD hS => ?_)
  have hP : va_P D vwCl ([(h0, .inr (6, [.null, .null, .null, .null, .int 0, .int 0, .int 0]))] ++ (wX0 cI q1 (u2 1) 256 0 (fun _ => 0))) H := hP
  have hD : va_D A ([(h0, .inr (6, [.null, .null, .null, .null, .int 0, .int 0, .int 0]))] ++ (wX0 cI q1 (u2 1) 256 0 (fun _ => 0))) := hD
  refine va_putF (D := D) (ci := 6) (v := .ref q1) (ty := tyX6 0) (C := RX6) (T := TX6) (N := 7) hx hb hg uX6 tyX6 tyX6_ok nmX6 hown hK.1 hP hD hS 0 rfl rfl 0 (by decide) (hg _ gw_157) (fun _ h9 => h9) rfl hin rfl (tyX6_ok 0 (by decide)) rfl rfl (Nat.le_of_ble_eq_true rfl) dX6_init_15 (fun H locs hP hD hS => ?_)
  have hP : va_P D vwCl ([(h0, .inr (6, [.ref q1, .null, .null, .null, .int 0, .int 0, .int 0]))] ++ (wX0 cI q1 (u2 1) 256 0 (fun _ => 0))) H := hP
  have hD : va_D A ([(h0, .inr (6, [.ref q1, .null, .null, .null, .int 0, .int 0, .int 0]))] ++ (wX0 cI q1 (u2 1) 256 0 (fun _ => 0))) := hD
  refine lv_aload_n hx hb dX6_init_18 rfl (lv_at hl 0 rfl) ?_
  refine va_new (ci := 0) (fs := [.null, .int 0]) (C := RX0) (T := TX0) (N := 2) hx hb hg uX0 tyX0 tyX0_ok hown (hg _ gw_90) (hg _ gw_91) (hg _ gw_61) hK.1 hP hD hS hA rfl (fun j hj => by rcases (show j = 0 ∨ j = 1 by omega) with rfl | rfl <;> rfl) (Nat.le_of_ble_eq_true rfl) (Nat.le_of_ble_eq_true rfl) dX6_init_19 (fun q3 H hP hD hS => ?_)
  have hP : va_P D vwCl (([(h0, .inr (6, [.ref q1, .null, .null, .null, .int 0, .int 0, .int 0]))] ++ (wX0 cI q1 (u2 1) 256 0 (fun _ => 0))) ++ [(q3, .inr (0, [.null, .int 0]))]) H := hP
  have hD : va_D A (([(h0, .inr (6, [.ref q1, .null, .null, .null, .int 0, .int 0, .int 0]))] ++ (wX0 cI q1 (u2 1) 256 0 (fun _ => 0))) ++ [(q3, .inr (0, [.null, .int 0]))]) := hD
  refine lv_dup hx hb dX6_init_22 rfl ?_
  refine lv_bipush (v := 60) hx hb dX6_init_23 (by decide) ?_
  refine cI_n (As := [.int 60]) (rest := [.ref q3, .ref h0]) (wc := [(q3, .inr (0, [.null, .int 0]))]) (wr := ([(h0, .inr (6, [.ref q1, .null, .null, .null, .int 0, .int 0, .int 0]))] ++ (wX0 cI q1 (u2 1) 256 0 (fun _ => 0)))) hx hb hml hown hg hK hP hD hS hA hl.1 (kn_X0_60 l D cI cS cL q3) rfl gw_93 gw_61 gw_94 (by decide +kernel) gw_92 ⟨rfl, rfl, by decide, by decide⟩ ⟨Nat.le_of_ble_eq_true rfl, Nat.le_of_ble_eq_true rfl⟩ List.perm_append_comm rfl rfl (Nat.le_of_ble_eq_true rfl) dX6_init_25 (fun u4 H locs hP hD hS => ?_)
  have hP : va_P D vwCl (([(h0, .inr (6, [.ref q1, .null, .null, .null, .int 0, .int 0, .int 0]))] ++ (wX0 cI q1 (u2 1) 256 0 (fun _ => 0))) ++ (wX0 cI q3 (u4 1) 60 0 (fun _ => 0))) H := hP
  have hD : va_D A (([(h0, .inr (6, [.ref q1, .null, .null, .null, .int 0, .int 0, .int 0]))] ++ (wX0 cI q1 (u2 1) 256 0 (fun _ => 0))) ++ (wX0 cI q3 (u4 1) 60 0 (fun _ => 0))) := hD
  refine va_putF (D := D) (ci := 6) (v := .ref q3) (ty := tyX6 1) (C := RX6) (T := TX6) (N := 7) hx hb hg uX6 tyX6 tyX6_ok nmX6 hown hK.1 hP hD hS 0 rfl rfl 1 (by decide) (hg _ gw_159) (fun _ h9 => h9) rfl hin rfl (tyX6_ok 1 (by decide)) rfl rfl (Nat.le_of_ble_eq_true rfl) dX6_init_28 (fun H locs hP hD hS => ?_)
  have hP : va_P D vwCl (([(h0, .inr (6, [.ref q1, .ref q3, .null, .null, .int 0, .int 0, .int 0]))] ++ (wX0 cI q1 (u2 1) 256 0 (fun _ => 0))) ++ (wX0 cI q3 (u4 1) 60 0 (fun _ => 0))) H := hP
  have hD : va_D A (([(h0, .inr (6, [.ref q1, .ref q3, .null, .null, .int 0, .int 0, .int 0]))] ++ (wX0 cI q1 (u2 1) 256 0 (fun _ => 0))) ++ (wX0 cI q3 (u4 1) 60 0 (fun _ => 0))) := hD
  refine lv_aload_n hx hb dX6_init_31 rfl (lv_at hl 0 rfl) ?_
  refine va_new (ci := 4) (fs := [.null, .null]) (C := RX4) (T := TX4) (N := 2) hx hb hg uX4 tyX4 tyX4_ok hown (hg _ gw_107) (hg _ gw_108) (hg _ gw_63) hK.1 hP hD hS hA rfl (fun j hj => by rcases (show j = 0 ∨ j = 1 by omega) with rfl | rfl <;> rfl) (Nat.le_of_ble_eq_true rfl) (Nat.le_of_ble_eq_true rfl) dX6_init_32 (fun q5 H hP hD hS => ?_)
  have hP : va_P D vwCl ((([(h0, .inr (6, [.ref q1, .ref q3, .null, .null, .int 0, .int 0, .int 0]))] ++ (wX0 cI q1 (u2 1) 256 0 (fun _ => 0))) ++ (wX0 cI q3 (u4 1) 60 0 (fun _ => 0))) ++ [(q5, .inr (4, [.null, .null]))]) H := hP
  have hD : va_D A ((([(h0, .inr (6, [.ref q1, .ref q3, .null, .null, .int 0, .int 0, .int 0]))] ++ (wX0 cI q1 (u2 1) 256 0 (fun _ => 0))) ++ (wX0 cI q3 (u4 1) 60 0 (fun _ => 0))) ++ [(q5, .inr (4, [.null, .null]))]) := hD
  refine lv_dup hx hb dX6_init_35 rfl ?_
  refine cI_n (As := []) (rest := [.ref q5, .ref h0]) (wc := [(q5, .inr (4, [.null, .null]))]) (wr := (([(h0, .inr (6, [.ref q1, .ref q3, .null, .null, .int 0, .int 0, .int 0]))] ++ (wX0 cI q1 (u2 1) 256 0 (fun _ => 0))) ++ (wX0 cI q3 (u4 1) 60 0 (fun _ => 0)))) hx hb hml hown hg hK hP hD hS hA hl.1 (kn_X4 l D cI cS cL q5) rfl gw_110 gw_63 gw_111 (by decide +kernel) gw_109 ⟨rfl, rfl, by decide, by decide⟩ ⟨Nat.le_of_ble_eq_true rfl, Nat.le_of_ble_eq_true rfl⟩ List.perm_append_comm rfl rfl (Nat.le_of_ble_eq_true rfl) dX6_init_36 (fun u6 H locs hP hD hS => ?_)
  have hP : va_P D vwCl ((([(h0, .inr (6, [.ref q1, .ref q3, .null, .null, .int 0, .int 0, .int 0]))] ++ (wX0 cI q1 (u2 1) 256 0 (fun _ => 0))) ++ (wX0 cI q3 (u4 1) 60 0 (fun _ => 0))) ++ (wX4 cI q5 (u6 1) (u6 2) mP0 (fun _ => 0))) H := hP
  have hD : va_D A ((([(h0, .inr (6, [.ref q1, .ref q3, .null, .null, .int 0, .int 0, .int 0]))] ++ (wX0 cI q1 (u2 1) 256 0 (fun _ => 0))) ++ (wX0 cI q3 (u4 1) 60 0 (fun _ => 0))) ++ (wX4 cI q5 (u6 1) (u6 2) mP0 (fun _ => 0))) := hD
  refine va_putF (D := D) (ci := 6) (v := .ref q5) (ty := tyX6 2) (C := RX6) (T := TX6) (N := 7) hx hb hg uX6 tyX6 tyX6_ok nmX6 hown hK.1 hP hD hS 0 rfl rfl 2 (by decide) (hg _ gw_162) (fun _ h9 => h9) rfl hin rfl (tyX6_ok 2 (by decide)) rfl rfl (Nat.le_of_ble_eq_true rfl) dX6_init_39 (fun H locs hP hD hS => ?_)
  have hP : va_P D vwCl ((([(h0, .inr (6, [.ref q1, .ref q3, .ref q5, .null, .int 0, .int 0, .int 0]))] ++ (wX0 cI q1 (u2 1) 256 0 (fun _ => 0))) ++ (wX0 cI q3 (u4 1) 60 0 (fun _ => 0))) ++ (wX4 cI q5 (u6 1) (u6 2) mP0 (fun _ => 0))) H := hP
  have hD : va_D A ((([(h0, .inr (6, [.ref q1, .ref q3, .ref q5, .null, .int 0, .int 0, .int 0]))] ++ (wX0 cI q1 (u2 1) 256 0 (fun _ => 0))) ++ (wX0 cI q3 (u4 1) 60 0 (fun _ => 0))) ++ (wX4 cI q5 (u6 1) (u6 2) mP0 (fun _ => 0))) := hD
  refine lv_aload_n hx hb dX6_init_42 rfl (lv_at hl 0 rfl) ?_
  refine va_new (ci := 3) (fs := [.int 0, .int 0, .int 0, .int 0, .int 0, .int 0]) (C := RX3) (T := TX3) (N := 6) hx hb hg uX3 tyX3 tyX3_ok hown (hg _ gw_120) (hg _ gw_121) (hg _ gw_64) hK.1 hP hD hS hA rfl (fun j hj => by rcases (show j = 0 ∨ j = 1 ∨ j = 2 ∨ j = 3 ∨ j = 4 ∨ j = 5 by omega) with rfl | rfl | rfl | rfl | rfl | rfl <;> rfl) (Nat.le_of_ble_eq_true rfl) (Nat.le_of_ble_eq_true rfl) dX6_init_43 (fun q7 H hP hD hS => ?_)
  have hP : va_P D vwCl (((([(h0, .inr (6, [.ref q1, .ref q3, .ref q5, .null, .int 0, .int 0, .int 0]))] ++ (wX0 cI q1 (u2 1) 256 0 (fun _ => 0))) ++ (wX0 cI q3 (u4 1) 60 0 (fun _ => 0))) ++ (wX4 cI q5 (u6 1) (u6 2) mP0 (fun _ => 0))) ++ [(q7, .inr (3, [.int 0, .int 0, .int 0, .int 0, .int 0, .int 0]))]) H := hP
  have hD : va_D A (((([(h0, .inr (6, [.ref q1, .ref q3, .ref q5, .null, .int 0, .int 0, .int 0]))] ++ (wX0 cI q1 (u2 1) 256 0 (fun _ => 0))) ++ (wX0 cI q3 (u4 1) 60 0 (fun _ => 0))) ++ (wX4 cI q5 (u6 1) (u6 2) mP0 (fun _ => 0))) ++ [(q7, .inr (3, [.int 0, .int 0, .int 0, .int 0, .int 0, .int 0]))]) := hD
  refine lv_dup hx hb dX6_init_46 rfl ?_
  refine cJ_n (As := []) (rest := [.ref q7, .ref h0]) (wc := [(q7, .inr (3, [.int 0, .int 0, .int 0, .int 0, .int 0, .int 0]))]) (wr := ((([(h0, .inr (6, [.ref q1, .ref q3, .ref q5, .null, .int 0, .int 0, .int 0]))] ++ (wX0 cI q1 (u2 1) 256 0 (fun _ => 0))) ++ (wX0 cI q3 (u4 1) 60 0 (fun _ => 0))) ++ (wX4 cI q5 (u6 1) (u6 2) mP0 (fun _ => 0)))) hx hb hml hown hg hK hP hD hS hA hl.1 (kn_X3 l D cI cS cL q7) rfl gw_123 gw_64 gw_124 (by decide +kernel) nw_122 ⟨rfl, rfl, by decide, by decide⟩ ⟨Nat.le_of_ble_eq_true rfl, Nat.le_of_ble_eq_true rfl⟩ List.perm_append_comm rfl rfl (Nat.le_of_ble_eq_true rfl) dX6_init_47 (fun u8 H locs hP hD hS => ?_)
  have hP : va_P D vwCl (((([(h0, .inr (6, [.ref q1, .ref q3, .ref q5, .null, .int 0, .int 0, .int 0]))] ++ (wX0 cI q1 (u2 1) 256 0 (fun _ => 0))) ++ (wX0 cI q3 (u4 1) 60 0 (fun _ => 0))) ++ (wX4 cI q5 (u6 1) (u6 2) mP0 (fun _ => 0))) ++ (wX3 cI q7 8 0 0 0 0 0)) H := hP
  have hD : va_D A (((([(h0, .inr (6, [.ref q1, .ref q3, .ref q5, .null, .int 0, .int 0, .int 0]))] ++ (wX0 cI q1 (u2 1) 256 0 (fun _ => 0))) ++ (wX0 cI q3 (u4 1) 60 0 (fun _ => 0))) ++ (wX4 cI q5 (u6 1) (u6 2) mP0 (fun _ => 0))) ++ (wX3 cI q7 8 0 0 0 0 0)) := hD
  refine va_putF (D := D) (ci := 6) (v := .ref q7) (ty := tyX6 3) (C := RX6) (T := TX6) (N := 7) hx hb hg uX6 tyX6 tyX6_ok nmX6 hown hK.1 hP hD hS 0 rfl rfl 3 (by decide) (hg _ gw_165) (fun _ h9 => h9) rfl hin rfl (tyX6_ok 3 (by decide)) rfl rfl (Nat.le_of_ble_eq_true rfl) dX6_init_50 (fun H locs hP hD hS => ?_)
  have hP : va_P D vwCl (((([(h0, .inr (6, [.ref q1, .ref q3, .ref q5, .ref q7, .int 0, .int 0, .int 0]))] ++ (wX0 cI q1 (u2 1) 256 0 (fun _ => 0))) ++ (wX0 cI q3 (u4 1) 60 0 (fun _ => 0))) ++ (wX4 cI q5 (u6 1) (u6 2) mP0 (fun _ => 0))) ++ (wX3 cI q7 8 0 0 0 0 0)) H := hP
  have hD : va_D A (((([(h0, .inr (6, [.ref q1, .ref q3, .ref q5, .ref q7, .int 0, .int 0, .int 0]))] ++ (wX0 cI q1 (u2 1) 256 0 (fun _ => 0))) ++ (wX0 cI q3 (u4 1) 60 0 (fun _ => 0))) ++ (wX4 cI q5 (u6 1) (u6 2) mP0 (fun _ => 0))) ++ (wX3 cI q7 8 0 0 0 0 0)) := hD
  refine lv_aload_n hx hb dX6_init_53 rfl (lv_at hl 0 rfl) ?_
  refine lv_iconst (v := 0) hx hb dX6_init_54 (by decide) ?_
  refine va_put (D := D) (ci := 6) (v := .int 0) (ty := tyX6 4) (C := RX6) (T := TX6) (N := 7) hx hb hg uX6 tyX6 tyX6_ok nmX6 hown hK.1 hP hD hS 0 rfl rfl 4 (by decide) (hg _ gw_167) (fun _ h9 => h9) rfl (tyX6_ok 4 (by decide)) rfl rfl (Nat.le_of_ble_eq_true rfl) dX6_init_55 (fun H locs hP hD hS => ?_)
  have hP : va_P D vwCl (((([(h0, .inr (6, [.ref q1, .ref q3, .ref q5, .ref q7, .int 0, .int 0, .int 0]))] ++ (wX0 cI q1 (u2 1) 256 0 (fun _ => 0))) ++ (wX0 cI q3 (u4 1) 60 0 (fun _ => 0))) ++ (wX4 cI q5 (u6 1) (u6 2) mP0 (fun _ => 0))) ++ (wX3 cI q7 8 0 0 0 0 0)) H := hP
  have hD : va_D A (((([(h0, .inr (6, [.ref q1, .ref q3, .ref q5, .ref q7, .int 0, .int 0, .int 0]))] ++ (wX0 cI q1 (u2 1) 256 0 (fun _ => 0))) ++ (wX0 cI q3 (u4 1) 60 0 (fun _ => 0))) ++ (wX4 cI q5 (u6 1) (u6 2) mP0 (fun _ => 0))) ++ (wX3 cI q7 8 0 0 0 0 0)) := hD
  refine lv_aload_n hx hb dX6_init_58 rfl (lv_at hl 0 rfl) ?_
  refine lv_iconst (v := 0) hx hb dX6_init_59 (by decide) ?_
  refine va_put (D := D) (ci := 6) (v := .int 0) (ty := tyX6 5) (C := RX6) (T := TX6) (N := 7) hx hb hg uX6 tyX6 tyX6_ok nmX6 hown hK.1 hP hD hS 0 rfl rfl 5 (by decide) (hg _ gw_170) (fun _ h9 => h9) rfl (tyX6_ok 5 (by decide)) rfl rfl (Nat.le_of_ble_eq_true rfl) dX6_init_60 (fun H locs hP hD hS => ?_)
  have hP : va_P D vwCl (((([(h0, .inr (6, [.ref q1, .ref q3, .ref q5, .ref q7, .int 0, .int 0, .int 0]))] ++ (wX0 cI q1 (u2 1) 256 0 (fun _ => 0))) ++ (wX0 cI q3 (u4 1) 60 0 (fun _ => 0))) ++ (wX4 cI q5 (u6 1) (u6 2) mP0 (fun _ => 0))) ++ (wX3 cI q7 8 0 0 0 0 0)) H := hP
  have hD : va_D A (((([(h0, .inr (6, [.ref q1, .ref q3, .ref q5, .ref q7, .int 0, .int 0, .int 0]))] ++ (wX0 cI q1 (u2 1) 256 0 (fun _ => 0))) ++ (wX0 cI q3 (u4 1) 60 0 (fun _ => 0))) ++ (wX4 cI q5 (u6 1) (u6 2) mP0 (fun _ => 0))) ++ (wX3 cI q7 8 0 0 0 0 0)) := hD
  refine lv_aload_n hx hb dX6_init_63 rfl (lv_at hl 0 rfl) ?_
  refine lv_iconst (v := 0) hx hb dX6_init_64 (by decide) ?_
  refine va_put (D := D) (ci := 6) (v := .int 0) (ty := tyX6 6) (C := RX6) (T := TX6) (N := 7) hx hb hg uX6 tyX6 tyX6_ok nmX6 hown hK.1 hP hD hS 0 rfl rfl 6 (by decide) (hg _ gw_171) (fun _ h9 => h9) rfl (tyX6_ok 6 (by decide)) rfl rfl (Nat.le_of_ble_eq_true rfl) dX6_init_65 (fun H locs hP hD hS => ?_)
  have hP : va_P D vwCl (((([(h0, .inr (6, [.ref q1, .ref q3, .ref q5, .ref q7, .int 0, .int 0, .int 0]))] ++ (wX0 cI q1 (u2 1) 256 0 (fun _ => 0))) ++ (wX0 cI q3 (u4 1) 60 0 (fun _ => 0))) ++ (wX4 cI q5 (u6 1) (u6 2) mP0 (fun _ => 0))) ++ (wX3 cI q7 8 0 0 0 0 0)) H := hP
  have hD : va_D A (((([(h0, .inr (6, [.ref q1, .ref q3, .ref q5, .ref q7, .int 0, .int 0, .int 0]))] ++ (wX0 cI q1 (u2 1) 256 0 (fun _ => 0))) ++ (wX0 cI q3 (u4 1) 60 0 (fun _ => 0))) ++ (wX4 cI q5 (u6 1) (u6 2) mP0 (fun _ => 0))) ++ (wX3 cI q7 8 0 0 0 0 0)) := hD
  exact ret_n (fun i => ([h0, q1, (u2 1), q3, (u4 1), q5, (u6 1), (u6 2), q7] : List Nat).getD i 0) hx hb hr hlocks hP hD hS (Nat.le_of_ble_eq_true rfl) (Nat.le_of_ble_eq_true rfl) dX6_init_68
abbrev rn_X1 : Room := { frames := 2, cells := 3, slots := 65, locals := 42 }
set_option maxRecDepth 100000 in
set_option maxHeartbeats 4000000 in
theorem kn_X1 (l : Launch) (D : va_G) (cI cS cL : ClassId) (h0 : Nat) : CN l yX1_init cX1_init 1 rn_X1 D cI cS cL [.ref h0] [(h0, .inr (1, [.null, .null]))] (fun (hh : Nat → Nat) => wX1 cI h0 (hh 1) (hh 2) (hh 3) 0 (fun _ => 0) (-1) 0 (-1)) 3 65 := by
  refine ent_n (by decide +kernel) rfl (Nat.le_of_ble_eq_true rfl) ?_
  intro p e s m args below meth c A ls hx hb hr hml hlocks hg hown hK hP hD hS hA hl hin
  have hown : s.vm.findClass RX1 = some m.cls := hown
  have hl : lv_has ls 1 [(0, .ref h0)] := hl
  refine lv_aload_n hx hb dX1_init_0 rfl (lv_at hl 0 rfl) ?_
  refine W.objInit hx hb hown (hg _ gw_212) (hg _ gw_82) (hg _ gw_83) rfl (by rw [hml]; exact hl.1) rfl dX1_init_1 (Nat.le_of_ble_eq_true rfl) (Nat.le_of_ble_eq_true rfl) ?_
  refine W.eq (g2 := F0 m 4 ls []) rfl ?_
  refine lv_aload_n hx hb dX1_init_4 rfl (lv_at hl 0 rfl) ?_
  refine va_new (ci := 0) (fs := [.null, .int 0]) (C := RX0) (T := TX0) (N := 2) hx hb hg uX0 tyX0 tyX0_ok hown (hg _ gw_213) (hg _ gw_91) (hg _ gw_61) hK.1 hP hD hS hA rfl (fun j hj => by rcases (show j = 0 ∨ j = 1 by omega) with rfl | rfl <;> rfl) (Nat.le_of_ble_eq_true rfl) (Nat.le_of_ble_eq_true rfl) dX1_init_5 (fun q1 H hP hD hS => ?_)
  have hP : va_P D vwCl ([(h0, .inr (1, [.null, .null]))] ++ [(q1, .inr (0, [.null, .int 0]))]) H := hP
  have hD : va_D A ([(h0, .inr (1, [.null, .null]))] ++ [(q1, .inr (0, [.null, .int 0]))]) := hD
  refine lv_dup hx hb dX1_init_8 rfl ?_
  refine lv_bipush (v := 60) hx hb dX1_init_9 (by decide) ?_
  refine cI_n (As := [.int 60]) (rest := [.ref q1, .ref h0]) (wc := [(q1, .inr (0, [.null, .int 0]))]) (wr := [(h0, .inr (1, [.null, .null]))]) hx hb hml hown hg hK hP hD hS hA hl.1 (kn_X0_60 l D cI cS cL q1) rfl gw_93 gw_61 gw_94 (by decide +kernel) gw_214 ⟨rfl, rfl, by decide, by decide⟩ ⟨Nat.le_of_ble_eq_true rfl, Nat.le_of_ble_eq_true rfl⟩ List.perm_append_comm rfl rfl (Nat.le_of_ble_eq_true rfl) dX1_init_11 (fun u2 H locs hP hD hS => ?_)
  have hP : va_P D vwCl ([(h0, .inr (1, [.null, .null]))] ++ (wX0 cI q1 (u2 1) 60 0 (fun _ => 0))) H := hP
  have hD : va_D A ([(h0, .inr (1, [.null, .null]))] ++ (wX0 cI q1 (u2 1) 60 0 (fun _ => 0))) := hD
  refine va_putF (D := D) (ci := 1) (v := .ref q1) (ty := tyX1 0) (C := RX1) (T := TX1) (N := 2) hx hb hg uX1 tyX1 tyX1_ok nmX1 hown hK.1 hP hD hS 0 rfl rfl 0 (by decide) (hg _ gw_234) (fun _ h9 => h9) rfl hin rfl (tyX1_ok 0 (by decide)) rfl rfl (Nat.le_of_ble_eq_true rfl) dX1_init_14 (fun H locs hP hD hS => ?_)
  have hP : va_P D vwCl ([(h0, .inr (1, [.ref q1, .null]))] ++ (wX0 cI q1 (u2 1) 60 0 (fun _ => 0))) H := hP
  have hD : va_D A ([(h0, .inr (1, [.ref q1, .null]))] ++ (wX0 cI q1 (u2 1) 60 0 (fun _ => 0))) := hD
  refine lv_aload_n hx hb dX1_init_17 rfl (lv_at hl 0 rfl) ?_
  refine va_new (ci := 5) (fs := [.int 0, .int 0, .int 0]) (C := RX5) (T := TX5) (N := 3) hx hb hg uX5 tyX5 tyX5_ok hown (hg _ gw_215) (hg _ gw_216) (hg _ gw_67) hK.1 hP hD hS hA rfl (fun j hj => by rcases (show j = 0 ∨ j = 1 ∨ j = 2 by omega) with rfl | rfl | rfl <;> rfl) (Nat.le_of_ble_eq_true rfl) (Nat.le_of_ble_eq_true rfl) dX1_init_18 (fun q3 H hP hD hS => ?_)
  have hP : va_P D vwCl (([(h0, .inr (1, [.ref q1, .null]))] ++ (wX0 cI q1 (u2 1) 60 0 (fun _ => 0))) ++ [(q3, .inr (5, [.int 0, .int 0, .int 0]))]) H := hP
  have hD : va_D A (([(h0, .inr (1, [.ref q1, .null]))] ++ (wX0 cI q1 (u2 1) 60 0 (fun _ => 0))) ++ [(q3, .inr (5, [.int 0, .int 0, .int 0]))]) := hD
  refine lv_dup hx hb dX1_init_21 rfl ?_
  refine cJ_n (As := []) (rest := [.ref q3, .ref h0]) (wc := [(q3, .inr (5, [.int 0, .int 0, .int 0]))]) (wr := ([(h0, .inr (1, [.ref q1, .null]))] ++ (wX0 cI q1 (u2 1) 60 0 (fun _ => 0)))) hx hb hml hown hg hK hP hD hS hA hl.1 (kn_X5 l D cI cS cL q3) rfl gw_218 gw_67 gw_219 (by decide +kernel) nw_217 ⟨rfl, rfl, by decide, by decide⟩ ⟨Nat.le_of_ble_eq_true rfl, Nat.le_of_ble_eq_true rfl⟩ List.perm_append_comm rfl rfl (Nat.le_of_ble_eq_true rfl) dX1_init_22 (fun u4 H locs hP hD hS => ?_)
  have hP : va_P D vwCl (([(h0, .inr (1, [.ref q1, .null]))] ++ (wX0 cI q1 (u2 1) 60 0 (fun _ => 0))) ++ (wX5 cI q3 (-1) 0 (-1))) H := hP
  have hD : va_D A (([(h0, .inr (1, [.ref q1, .null]))] ++ (wX0 cI q1 (u2 1) 60 0 (fun _ => 0))) ++ (wX5 cI q3 (-1) 0 (-1))) := hD
  refine va_putF (D := D) (ci := 1) (v := .ref q3) (ty := tyX1 1) (C := RX1) (T := TX1) (N := 2) hx hb hg uX1 tyX1 tyX1_ok nmX1 hown hK.1 hP hD hS 0 rfl rfl 1 (by decide) (hg _ gw_236) (fun _ h9 => h9) rfl hin rfl (tyX1_ok 1 (by decide)) rfl rfl (Nat.le_of_ble_eq_true rfl) dX1_init_25 (fun H locs hP hD hS => ?_)
  have hP : va_P D vwCl (([(h0, .inr (1, [.ref q1, .ref q3]))] ++ (wX0 cI q1 (u2 1) 60 0 (fun _ => 0))) ++ (wX5 cI q3 (-1) 0 (-1))) H := hP
  have hD : va_D A (([(h0, .inr (1, [.ref q1, .ref q3]))] ++ (wX0 cI q1 (u2 1) 60 0 (fun _ => 0))) ++ (wX5 cI q3 (-1) 0 (-1))) := hD
  exact ret_n (fun i => ([h0, q1, (u2 1), q3] : List Nat).getD i 0) hx hb hr hlocks hP hD hS (Nat.le_of_ble_eq_true rfl) (Nat.le_of_ble_eq_true rfl) dX1_init_28
abbrev rn_X8 : Room := { frames := 1, cells := 5, slots := 2664, locals := 12 }
set_option maxRecDepth 100000 in
set_option maxHeartbeats 4000000 in
theorem kn_X8 (l : Launch) (D : va_G) (cI cS cL : ClassId) (h0 : Nat) : CN l yX8_init cX8_init 2 rn_X8 D cI cS cL [.ref h0] [(h0, .inr (8, [.int 0, .null, .null, .int 0, .null, .int 0, .int 0, .int 0, .null, .int 0, .null, .int 0, .long 0]))] (fun (hh : Nat → Nat) => wX8 cI h0 (hh 1) (hh 2) (hh 3) (hh 4) (hh 5) 0 0 0 0 0 0 0 0 s0 (fun _ => 0) (fun _ => 0) (fun _ => 0) (fun _ => 0)) 5 2664 := by
  refine ent_n (by decide +kernel) rfl (Nat.le_of_ble_eq_true rfl) ?_
  intro p e s m args below meth c A ls hx hb hr hml hlocks hg hown hK hP hD hS hA hl hin
  have hown : s.vm.findClass RX8 = some m.cls := hown
  have hl : lv_has ls 2 [(0, .ref h0)] := hl
  refine lv_aload_n hx hb dX8_init_0 rfl (lv_at hl 0 rfl) ?_
  refine W.objInit hx hb hown (hg _ gw_939) (hg _ gw_82) (hg _ gw_83) rfl (by rw [hml]; exact hl.1) rfl dX8_init_1 (Nat.le_of_ble_eq_true rfl) (Nat.le_of_ble_eq_true rfl) ?_
  refine W.eq (g2 := F0 m 4 ls []) rfl ?_
  refine lv_aload_n hx hb dX8_init_4 rfl (lv_at hl 0 rfl) ?_
  refine lv_sipush (v := 344) hx hb dX8_init_5 (by decide) ?_
  refine va_newa (atype := .int) (N' := 344) (a0 := (344, .inl (fun _ => 0))) hx hb (hg _ gw_106) rfl hK.1 hP hD hS hA (fun _ => rfl) (by decide) (by decide) (by decide) (Nat.le_of_ble_eq_true rfl) (Nat.le_of_ble_eq_true rfl) dX8_init_8 (fun q1 cA H hK1 hP hD hS => ?_)
  have e9 : cI = cA := (cA_int (k := 3) (j := 0) hK1 rfl rfl).symm
  subst e9
  have hP : va_P D vwCl ([(h0, .inr (8, [.int 0, .null, .null, .int 0, .null, .int 0, .int 0, .int 0, .null, .int 0, .null, .int 0, .long 0]))] ++ [(q1, .inl (cI, 344, .inl (fun _ => 0)))]) H := hP
  have hD : va_D A ([(h0, .inr (8, [.int 0, .null, .null, .int 0, .null, .int 0, .int 0, .int 0, .null, .int 0, .null, .int 0, .long 0]))] ++ [(q1, .inl (cI, 344, .inl (fun _ => 0)))]) := hD
  refine va_putF (D := D) (ci := 8) (v := .ref q1) (ty := tyX8 1) (C := RX8) (T := TX8) (N := 13) hx hb hg uX8 tyX8 tyX8_ok nmX8 hown hK.1 hP hD hS 0 rfl rfl 1 (by decide) (hg _ gw_941) (fun _ h9 => h9) rfl hin rfl (tyX8_ok 1 (by decide)) rfl rfl (Nat.le_of_ble_eq_true rfl) dX8_init_10 (fun H locs hP hD hS => ?_)
  have hP : va_P D vwCl ([(h0, .inr (8, [.int 0, .ref q1, .null, .int 0, .null, .int 0, .int 0, .int 0, .null, .int 0, .null, .int 0, .long 0]))] ++ [(q1, .inl (cI, 344, .inl (fun _ => 0)))]) H := hP
  have hD : va_D A ([(h0, .inr (8, [.int 0, .ref q1, .null, .int 0, .null, .int 0, .int 0, .int 0, .null, .int 0, .null, .int 0, .long 0]))] ++ [(q1, .inl (cI, 344, .inl (fun _ => 0)))]) := hD
  refine lv_aload_n hx hb dX8_init_13 rfl (lv_at hl 0 rfl) ?_
  refine lv_sipush (v := 2064) hx hb dX8_init_14 (by decide) ?_
  refine va_newa (atype := .int) (N' := 2064) (a0 := (2064, .inl (fun _ => 0))) hx hb (hg _ gw_106) rfl hK.1 hP hD hS hA (fun _ => rfl) (by decide) (by decide) (by decide) (Nat.le_of_ble_eq_true rfl) (Nat.le_of_ble_eq_true rfl) dX8_init_17 (fun q2 cA H hK1 hP hD hS => ?_)
  have e9 : cI = cA := (cA_int (k := 3) (j := 0) hK1 rfl rfl).symm
  subst e9
  have hP : va_P D vwCl (([(h0, .inr (8, [.int 0, .ref q1, .null, .int 0, .null, .int 0, .int 0, .int 0, .null, .int 0, .null, .int 0, .long 0]))] ++ [(q1, .inl (cI, 344, .inl (fun _ => 0)))]) ++ [(q2, .inl (cI, 2064, .inl (fun _ => 0)))]) H := hP
  have hD : va_D A (([(h0, .inr (8, [.int 0, .ref q1, .null, .int 0, .null, .int 0, .int 0, .int 0, .null, .int 0, .null, .int 0, .long 0]))] ++ [(q1, .inl (cI, 344, .inl (fun _ => 0)))]) ++ [(q2, .inl (cI, 2064, .inl (fun _ => 0)))]) := hD
  refine va_putF (D := D) (ci := 8) (v := .ref q2) (ty := tyX8 2) (C := RX8) (T := TX8) (N := 13) hx hb hg uX8 tyX8 tyX8_ok nmX8 hown hK.1 hP hD hS 0 rfl rfl 2 (by decide) (hg _ gw_942) (fun _ h9 => h9) rfl hin rfl (tyX8_ok 2 (by decide)) rfl rfl (Nat.le_of_ble_eq_true rfl) dX8_init_19 (fun H locs hP hD hS => ?_)
  have hP : va_P D vwCl (([(h0, .inr (8, [.int 0, .ref q1, .ref q2, .int 0, .null, .int 0, .int 0, .int 0, .null, .int 0, .null, .int 0, .long 0]))] ++ [(q1, .inl (cI, 344, .inl (fun _ => 0)))]) ++ [(q2, .inl (cI, 2064, .inl (fun _ => 0)))]) H := hP
  have hD : va_D A (([(h0, .inr (8, [.int 0, .ref q1, .ref q2, .int 0, .null, .int 0, .int 0, .int 0, .null, .int 0, .null, .int 0, .long 0]))] ++ [(q1, .inl (cI, 344, .inl (fun _ => 0)))]) ++ [(q2, .inl (cI, 2064, .inl (fun _ => 0)))]) := hD
  refine lv_aload_n hx hb dX8_init_22 rfl (lv_at hl 0 rfl) ?_
  refine lv_bipush (v := 60) hx hb dX8_init_23 (by decide) ?_
  refine va_newa (atype := .int) (N' := 60) (a0 := (60, .inl (fun _ => 0))) hx hb (hg _ gw_106) rfl hK.1 hP hD hS hA (fun _ => rfl) (by decide) (by decide) (by decide) (Nat.le_of_ble_eq_true rfl) (Nat.le_of_ble_eq_true rfl) dX8_init_25 (fun q3 cA H hK1 hP hD hS => ?_)
  have e9 : cI = cA := (cA_int (k := 3) (j := 0) hK1 rfl rfl).symm
  subst e9
  have hP : va_P D vwCl ((([(h0, .inr (8, [.int 0, .ref q1, .ref q2, .int 0, .null, .int 0, .int 0, .int 0, .null, .int 0, .null, .int 0, .long 0]))] ++ [(q1, .inl (cI, 344, .inl (fun _ => 0)))]) ++ [(q2, .inl (cI, 2064, .inl (fun _ => 0)))]) ++ [(q3, .inl (cI, 60, .inl (fun _ => 0)))]) H := hP
  have hD : va_D A ((([(h0, .inr (8, [.int 0, .ref q1, .ref q2, .int 0, .null, .int 0, .int 0, .int 0, .null, .int 0, .null, .int 0, .long 0]))] ++ [(q1, .inl (cI, 344, .inl (fun _ => 0)))]) ++ [(q2, .inl (cI, 2064, .inl (fun _ => 0)))]) ++ [(q3, .inl (cI, 60, .inl (fun _ => 0)))]) := hD
  refine va_putF (D := D) (ci := 8) (v := .ref q3) (ty := tyX8 4) (C := RX8) (T := TX8) (N := 13) hx hb hg uX8 tyX8 tyX8_ok nmX8 hown hK.1 hP hD hS 0 rfl rfl 4 (by decide) (hg _ gw_944) (fun _ h9 => h9) rfl hin rfl (tyX8_ok 4 (by decide)) rfl rfl (Nat.le_of_ble_eq_true rfl) dX8_init_27 (fun H locs hP hD hS => ?_)
  have hP : va_P D vwCl ((([(h0, .inr (8, [.int 0, .ref q1, .ref q2, .int 0, .ref q3, .int 0, .int 0, .int 0, .null, .int 0, .null, .int 0, .long 0]))] ++ [(q1, .inl (cI, 344, .inl (fun _ => 0)))]) ++ [(q2, .inl (cI, 2064, .inl (fun _ => 0)))]) ++ [(q3, .inl (cI, 60, .inl (fun _ => 0)))]) H := hP
  have hD : va_D A ((([(h0, .inr (8, [.int 0, .ref q1, .ref q2, .int 0, .ref q3, .int 0, .int 0, .int 0, .null, .int 0, .null, .int 0, .long 0]))] ++ [(q1, .inl (cI, 344, .inl (fun _ => 0)))]) ++ [(q2, .inl (cI, 2064, .inl (fun _ => 0)))]) ++ [(q3, .inl (cI, 60, .inl (fun _ => 0)))]) := hD
  refine lv_aload_n hx hb dX8_init_30 rfl (lv_at hl 0 rfl) ?_
  refine lv_bipush (v := 96) hx hb dX8_init_31 (by decide) ?_
  refine va_newa (atype := .int) (N' := 96) (a0 := (96, .inl (fun _ => 0))) hx hb (hg _ gw_106) rfl hK.1 hP hD hS hA (fun _ => rfl) (by decide) (by decide) (by decide) (Nat.le_of_ble_eq_true rfl) (Nat.le_of_ble_eq_true rfl) dX8_init_33 (fun q4 cA H hK1 hP hD hS => ?_)
  have e9 : cI = cA := (cA_int (k := 3) (j := 0) hK1 rfl rfl).symm
  subst e9
  have hP : va_P D vwCl (((([(h0, .inr (8, [.int 0, .ref q1, .ref q2, .int 0, .ref q3, .int 0, .int 0, .int 0, .null, .int 0, .null, .int 0, .long 0]))] ++ [(q1, .inl (cI, 344, .inl (fun _ => 0)))]) ++ [(q2, .inl (cI, 2064, .inl (fun _ => 0)))]) ++ [(q3, .inl (cI, 60, .inl (fun _ => 0)))]) ++ [(q4, .inl (cI, 96, .inl (fun _ => 0)))]) H := hP
  have hD : va_D A (((([(h0, .inr (8, [.int 0, .ref q1, .ref q2, .int 0, .ref q3, .int 0, .int 0, .int 0, .null, .int 0, .null, .int 0, .long 0]))] ++ [(q1, .inl (cI, 344, .inl (fun _ => 0)))]) ++ [(q2, .inl (cI, 2064, .inl (fun _ => 0)))]) ++ [(q3, .inl (cI, 60, .inl (fun _ => 0)))]) ++ [(q4, .inl (cI, 96, .inl (fun _ => 0)))]) := hD
  refine va_putF (D := D) (ci := 8) (v := .ref q4) (ty := tyX8 8) (C := RX8) (T := TX8) (N := 13) hx hb hg uX8 tyX8 tyX8_ok nmX8 hown hK.1 hP hD hS 0 rfl rfl 8 (by decide) (hg _ gw_948) (fun _ h9 => h9) rfl hin rfl (tyX8_ok 8 (by decide)) rfl rfl (Nat.le_of_ble_eq_true rfl) dX8_init_35 (fun H locs hP hD hS => ?_)
  have hP : va_P D vwCl (((([(h0, .inr (8, [.int 0, .ref q1, .ref q2, .int 0, .ref q3, .int 0, .int 0, .int 0, .ref q4, .int 0, .null, .int 0, .long 0]))] ++ [(q1, .inl (cI, 344, .inl (fun _ => 0)))]) ++ [(q2, .inl (cI, 2064, .inl (fun _ => 0)))]) ++ [(q3, .inl (cI, 60, .inl (fun _ => 0)))]) ++ [(q4, .inl (cI, 96, .inl (fun _ => 0)))]) H := hP
  have hD : va_D A (((([(h0, .inr (8, [.int 0, .ref q1, .ref q2, .int 0, .ref q3, .int 0, .int 0, .int 0, .ref q4, .int 0, .null, .int 0, .long 0]))] ++ [(q1, .inl (cI, 344, .inl (fun _ => 0)))]) ++ [(q2, .inl (cI, 2064, .inl (fun _ => 0)))]) ++ [(q3, .inl (cI, 60, .inl (fun _ => 0)))]) ++ [(q4, .inl (cI, 96, .inl (fun _ => 0)))]) := hD
  refine lv_aload_n hx hb dX8_init_38 rfl (lv_at hl 0 rfl) ?_
  refine lv_bipush (v := 100) hx hb dX8_init_39 (by decide) ?_
  refine va_newa (atype := .int) (N' := 100) (a0 := (100, .inl (fun _ => 0))) hx hb (hg _ gw_106) rfl hK.1 hP hD hS hA (fun _ => rfl) (by decide) (by decide) (by decide) (Nat.le_of_ble_eq_true rfl) (Nat.le_of_ble_eq_true rfl) dX8_init_41 (fun q5 cA H hK1 hP hD hS => ?_)
  have e9 : cI = cA := (cA_int (k := 3) (j := 0) hK1 rfl rfl).symm
  subst e9
  have hP : va_P D vwCl ((((([(h0, .inr (8, [.int 0, .ref q1, .ref q2, .int 0, .ref q3, .int 0, .int 0, .int 0, .ref q4, .int 0, .null, .int 0, .long 0]))] ++ [(q1, .inl (cI, 344, .inl (fun _ => 0)))]) ++ [(q2, .inl (cI, 2064, .inl (fun _ => 0)))]) ++ [(q3, .inl (cI, 60, .inl (fun _ => 0)))]) ++ [(q4, .inl (cI, 96, .inl (fun _ => 0)))]) ++ [(q5, .inl (cI, 100, .inl (fun _ => 0)))]) H := hP
  have hD : va_D A ((((([(h0, .inr (8, [.int 0, .ref q1, .ref q2, .int 0, .ref q3, .int 0, .int 0, .int 0, .ref q4, .int 0, .null, .int 0, .long 0]))] ++ [(q1, .inl (cI, 344, .inl (fun _ => 0)))]) ++ [(q2, .inl (cI, 2064, .inl (fun _ => 0)))]) ++ [(q3, .inl (cI, 60, .inl (fun _ => 0)))]) ++ [(q4, .inl (cI, 96, .inl (fun _ => 0)))]) ++ [(q5, .inl (cI, 100, .inl (fun _ => 0)))]) := hD
  refine va_putF (D := D) (ci := 8) (v := .ref q5) (ty := tyX8 10) (C := RX8) (T := TX8) (N := 13) hx hb hg uX8 tyX8 tyX8_ok nmX8 hown hK.1 hP hD hS 0 rfl rfl 10 (by decide) (hg _ gw_950) (fun _ h9 => h9) rfl hin rfl (tyX8_ok 10 (by decide)) rfl rfl (Nat.le_of_ble_eq_true rfl) dX8_init_43 (fun H locs hP hD hS => ?_)
  have hP : va_P D vwCl ((((([(h0, .inr (8, [.int 0, .ref q1, .ref q2, .int 0, .ref q3, .int 0, .int 0, .int 0, .ref q4, .int 0, .ref q5, .int 0, .long 0]))] ++ [(q1, .inl (cI, 344, .inl (fun _ => 0)))]) ++ [(q2, .inl (cI, 2064, .inl (fun _ => 0)))]) ++ [(q3, .inl (cI, 60, .inl (fun _ => 0)))]) ++ [(q4, .inl (cI, 96, .inl (fun _ => 0)))]) ++ [(q5, .inl (cI, 100, .inl (fun _ => 0)))]) H := hP
  have hD : va_D A ((((([(h0, .inr (8, [.int 0, .ref q1, .ref q2, .int 0, .ref q3, .int 0, .int 0, .int 0, .ref q4, .int 0, .ref q5, .int 0, .long 0]))] ++ [(q1, .inl (cI, 344, .inl (fun _ => 0)))]) ++ [(q2, .inl (cI, 2064, .inl (fun _ => 0)))]) ++ [(q3, .inl (cI, 60, .inl (fun _ => 0)))]) ++ [(q4, .inl (cI, 96, .inl (fun _ => 0)))]) ++ [(q5, .inl (cI, 100, .inl (fun _ => 0)))]) := hD
  refine lv_aload_n hx hb dX8_init_46 rfl (lv_at hl 0 rfl) ?_
  refine lv_iconst (v := 0) hx hb dX8_init_47 (by decide) ?_
  refine va_put (D := D) (ci := 8) (v := .int 0) (ty := tyX8 0) (C := RX8) (T := TX8) (N := 13) hx hb hg uX8 tyX8 tyX8_ok nmX8 hown hK.1 hP hD hS 0 rfl rfl 0 (by decide) (hg _ gw_940) (fun _ h9 => h9) rfl (tyX8_ok 0 (by decide)) rfl rfl (Nat.le_of_ble_eq_true rfl) dX8_init_48 (fun H locs hP hD hS => ?_)
  have hP : va_P D vwCl ((((([(h0, .inr (8, [.int 0, .ref q1, .ref q2, .int 0, .ref q3, .int 0, .int 0, .int 0, .ref q4, .int 0, .ref q5, .int 0, .long 0]))] ++ [(q1, .inl (cI, 344, .inl (fun _ => 0)))]) ++ [(q2, .inl (cI, 2064, .inl (fun _ => 0)))]) ++ [(q3, .inl (cI, 60, .inl (fun _ => 0)))]) ++ [(q4, .inl (cI, 96, .inl (fun _ => 0)))]) ++ [(q5, .inl (cI, 100, .inl (fun _ => 0)))]) H := hP
  have hD : va_D A ((((([(h0, .inr (8, [.int 0, .ref q1, .ref q2, .int 0, .ref q3, .int 0, .int 0, .int 0, .ref q4, .int 0, .ref q5, .int 0, .long 0]))] ++ [(q1, .inl (cI, 344, .inl (fun _ => 0)))]) ++ [(q2, .inl (cI, 2064, .inl (fun _ => 0)))]) ++ [(q3, .inl (cI, 60, .inl (fun _ => 0)))]) ++ [(q4, .inl (cI, 96, .inl (fun _ => 0)))]) ++ [(q5, .inl (cI, 100, .inl (fun _ => 0)))]) := hD
  refine lv_aload_n hx hb dX8_init_51 rfl (lv_at hl 0 rfl) ?_
  refine va_get (D := D) (ci := 8) (v := .ref q1) (C := RX8) (T := TX8) (N := 13) hx hb hg uX8 hown hK.1 hP 0 rfl rfl 1 (by decide) (hg _ gw_941) (fun _ h9 => h9) rfl dX8_init_52 ?_
  refine lv_iconst (v := 3) hx hb dX8_init_55 (by decide) ?_
  refine lv_bipush (v := 8) hx hb dX8_init_56 (by decide) ?_
  refine va_iast hx hb hK.1 hP hD hS 1 0 rfl rfl (i := 3) (x := 8) (vp_in_nI (n := 3) (by decide) (by decide)) dX8_init_58 (fun H locs hP hD hS => ?_)
  have hP : va_P D vwCl ((((([(h0, .inr (8, [.int 0, .ref q1, .ref q2, .int 0, .ref q3, .int 0, .int 0, .int 0, .ref q4, .int 0, .ref q5, .int 0, .long 0]))] ++ [(q1, .inl (cI, 344, .inl (upd (fun _ => 0) 3 8)))]) ++ [(q2, .inl (cI, 2064, .inl (fun _ => 0)))]) ++ [(q3, .inl (cI, 60, .inl (fun _ => 0)))]) ++ [(q4, .inl (cI, 96, .inl (fun _ => 0)))]) ++ [(q5, .inl (cI, 100, .inl (fun _ => 0)))]) H := hP
  have hD : va_D A ((((([(h0, .inr (8, [.int 0, .ref q1, .ref q2, .int 0, .ref q3, .int 0, .int 0, .int 0, .ref q4, .int 0, .ref q5, .int 0, .long 0]))] ++ [(q1, .inl (cI, 344, .inl (upd (fun _ => 0) 3 8)))]) ++ [(q2, .inl (cI, 2064, .inl (fun _ => 0)))]) ++ [(q3, .inl (cI, 60, .inl (fun _ => 0)))]) ++ [(q4, .inl (cI, 96, .inl (fun _ => 0)))]) ++ [(q5, .inl (cI, 100, .inl (fun _ => 0)))]) := hD
  refine lv_iconst (v := 0) hx hb dX8_init_59 (by decide) ?_
  refine lv_istore_n (lv' := [(1, .int 0), (0, .ref h0)]) hx hb dX8_init_60 rfl hl (by decide) rfl (fun ls hl => ?_)
  refine lv_iload_n hx hb dX8_init_61 rfl (lv_at hl 0 rfl) ?_
  refine lv_iconst (v := 4) hx hb dX8_init_62 (by decide) ?_
  refine lv_icmp_ge (tgt := 82) hx hb dX8_init_63 (by decide) (fun q => absurd q (by decide)) (fun _ => ?_)
  refine lv_aload_n hx hb dX8_init_66 rfl (lv_at hl 1 rfl) ?_
  refine va_get (D := D) (ci := 8) (v := .ref q1) (C := RX8) (T := TX8) (N := 13) hx hb hg uX8 hown hK.1 hP 0 rfl rfl 1 (by decide) (hg _ gw_941) (fun _ h9 => h9) rfl dX8_init_67 ?_
  refine lv_bipush (v := 12) hx hb dX8_init_70 (by decide) ?_
  refine lv_iload_n hx hb dX8_init_72 rfl (lv_at hl 0 rfl) ?_
  refine lv_iadd hx hb dX8_init_73 ?_
  refine nm_i (y := 12) (by decide) ?_
  refine lv_iconst (v := (-1)) hx hb dX8_init_74 (by decide) ?_
  refine va_iast hx hb hK.1 hP hD hS 1 0 rfl rfl (i := 12) (x := (-1)) (vp_in_nI (n := 12) (by decide) (by decide)) dX8_init_75 (fun H locs hP hD hS => ?_)
  have hP : va_P D vwCl ((((([(h0, .inr (8, [.int 0, .ref q1, .ref q2, .int 0, .ref q3, .int 0, .int 0, .int 0, .ref q4, .int 0, .ref q5, .int 0, .long 0]))] ++ [(q1, .inl (cI, 344, .inl (upd (upd (fun _ => 0) 3 8) 12 (-1))))]) ++ [(q2, .inl (cI, 2064, .inl (fun _ => 0)))]) ++ [(q3, .inl (cI, 60, .inl (fun _ => 0)))]) ++ [(q4, .inl (cI, 96, .inl (fun _ => 0)))]) ++ [(q5, .inl (cI, 100, .inl (fun _ => 0)))]) H := hP
  have hD : va_D A ((((([(h0, .inr (8, [.int 0, .ref q1, .ref q2, .int 0, .ref q3, .int 0, .int 0, .int 0, .ref q4, .int 0, .ref q5, .int 0, .long 0]))] ++ [(q1, .inl (cI, 344, .inl (upd (upd (fun _ => 0) 3 8) 12 (-1))))]) ++ [(q2, .inl (cI, 2064, .inl (fun _ => 0)))]) ++ [(q3, .inl (cI, 60, .inl (fun _ => 0)))]) ++ [(q4, .inl (cI, 96, .inl (fun _ => 0)))]) ++ [(q5, .inl (cI, 100, .inl (fun _ => 0)))]) := hD
  refine lv_iinc (v := 1) (lv' := [(1, .int 1), (0, .ref h0)]) hx hb dX8_init_76 hl (k := 0) rfl (by decide) (by decide) rfl (fun ls hl => ?_)
  refine lv_goto (tgt := 61) hx hb dX8_init_79 (by decide) ?_
  refine lv_iload_n hx hb dX8_init_61 rfl (lv_at hl 0 rfl) ?_
  refine lv_iconst (v := 4) hx hb dX8_init_62 (by decide) ?_
  refine lv_icmp_ge (tgt := 82) hx hb dX8_init_63 (by decide) (fun q => absurd q (by decide)) (fun _ => ?_)
  refine lv_aload_n hx hb dX8_init_66 rfl (lv_at hl 1 rfl) ?_
  refine va_get (D := D) (ci := 8) (v := .ref q1) (C := RX8) (T := TX8) (N := 13) hx hb hg uX8 hown hK.1 hP 0 rfl rfl 1 (by decide) (hg _ gw_941) (fun _ h9 => h9) rfl dX8_init_67 ?_
  refine lv_bipush (v := 12) hx hb dX8_init_70 (by decide) ?_
  refine lv_iload_n hx hb dX8_init_72 rfl (lv_at hl 0 rfl) ?_
  refine lv_iadd hx hb dX8_init_73 ?_
  refine nm_i (y := 13) (by decide) ?_
  refine lv_iconst (v := (-1)) hx hb dX8_init_74 (by decide) ?_
  refine va_iast hx hb hK.1 hP hD hS 1 0 rfl rfl (i := 13) (x := (-1)) (vp_in_nI (n := 13) (by decide) (by decide)) dX8_init_75 (fun H locs hP hD hS => ?_)
  have hP : va_P D vwCl ((((([(h0, .inr (8, [.int 0, .ref q1, .ref q2, .int 0, .ref q3, .int 0, .int 0, .int 0, .ref q4, .int 0, .ref q5, .int 0, .long 0]))] ++ [(q1, .inl (cI, 344, .inl (upd (upd (upd (fun _ => 0) 3 8) 12 (-1)) 13 (-1))))]) ++ [(q2, .inl (cI, 2064, .inl (fun _ => 0)))]) ++ [(q3, .inl (cI, 60, .inl (fun _ => 0)))]) ++ [(q4, .inl (cI, 96, .inl (fun _ => 0)))]) ++ [(q5, .inl (cI, 100, .inl (fun _ => 0)))]) H := hP
  have hD : va_D A ((((([(h0, .inr (8, [.int 0, .ref q1, .ref q2, .int 0, .ref q3, .int 0, .int 0, .int 0, .ref q4, .int 0, .ref q5, .int 0, .long 0]))] ++ [(q1, .inl (cI, 344, .inl (upd (upd (upd (fun _ => 0) 3 8) 12 (-1)) 13 (-1))))]) ++ [(q2, .inl (cI, 2064, .inl (fun _ => 0)))]) ++ [(q3, .inl (cI, 60, .inl (fun _ => 0)))]) ++ [(q4, .inl (cI, 96, .inl (fun _ => 0)))]) ++ [(q5, .inl (cI, 100, .inl (fun _ => 0)))]) := hD
  refine lv_iinc (v := 2) (lv' := [(1, .int 2), (0, .ref h0)]) hx hb dX8_init_76 hl (k := 0) rfl (by decide) (by decide) rfl (fun ls hl => ?_)
  refine lv_goto (tgt := 61) hx hb dX8_init_79 (by decide) ?_
  refine lv_iload_n hx hb dX8_init_61 rfl (lv_at hl 0 rfl) ?_
  refine lv_iconst (v := 4) hx hb dX8_init_62 (by decide) ?_
  refine lv_icmp_ge (tgt := 82) hx hb dX8_init_63 (by decide) (fun q => absurd q (by decide)) (fun _ => ?_)
  refine lv_aload_n hx hb dX8_init_66 rfl (lv_at hl 1 rfl) ?_
  refine va_get (D := D) (ci := 8) (v := .ref q1) (C := RX8) (T := TX8) (N := 13) hx hb hg uX8 hown hK.1 hP 0 rfl rfl 1 (by decide) (hg _ gw_941) (fun _ h9 => h9) rfl dX8_init_67 ?_
  refine lv_bipush (v := 12) hx hb dX8_init_70 (by decide) ?_
  refine lv_iload_n hx hb dX8_init_72 rfl (lv_at hl 0 rfl) ?_
  refine lv_iadd hx hb dX8_init_73 ?_
  refine nm_i (y := 14) (by decide) ?_
  refine lv_iconst (v := (-1)) hx hb dX8_init_74 (by decide) ?_
  refine va_iast hx hb hK.1 hP hD hS 1 0 rfl rfl (i := 14) (x := (-1)) (vp_in_nI (n := 14) (by decide) (by decide)) dX8_init_75 (fun H locs hP hD hS => ?_)
  have hP : va_P D vwCl ((((([(h0, .inr (8, [.int 0, .ref q1, .ref q2, .int 0, .ref q3, .int 0, .int 0, .int 0, .ref q4, .int 0, .ref q5, .int 0, .long 0]))] ++ [(q1, .inl (cI, 344, .inl (upd (upd (upd (upd (fun _ => 0) 3 8) 12 (-1)) 13 (-1)) 14 (-1))))]) ++ [(q2, .inl (cI, 2064, .inl (fun _ => 0)))]) ++ [(q3, .inl (cI, 60, .inl (fun _ => 0)))]) ++ [(q4, .inl (cI, 96, .inl (fun _ => 0)))]) ++ [(q5, .inl (cI, 100, .inl (fun _ => 0)))]) H := hP
  have hD : va_D A ((((([(h0, .inr (8, [.int 0, .ref q1, .ref q2, .int 0, .ref q3, .int 0, .int 0, .int 0, .ref q4, .int 0, .ref q5, .int 0, .long 0]))] ++ [(q1, .inl (cI, 344, .inl (upd (upd (upd (upd (fun _ => 0) 3 8) 12 (-1)) 13 (-1)) 14 (-1))))]) ++ [(q2, .inl (cI, 2064, .inl (fun _ => 0)))]) ++ [(q3, .inl (cI, 60, .inl (fun _ => 0)))]) ++ [(q4, .inl (cI, 96, .inl (fun _ => 0)))]) ++ [(q5, .inl (cI, 100, .inl (fun _ => 0)))]) := hD
  refine lv_iinc (v := 3) (lv' := [(1, .int 3), (0, .ref h0)]) hx hb dX8_init_76 hl (k := 0) rfl (by decide) (by decide) rfl (fun ls hl => ?_)
  refine lv_goto (tgt := 61) hx hb dX8_init_79 (by decide) ?_
  refine lv_iload_n hx hb dX8_init_61 rfl (lv_at hl 0 rfl) ?_
  refine lv_iconst (v := 4) hx hb dX8_init_62 (by decide) ?_
  refine lv_icmp_ge (tgt := 82) hx hb dX8_init_63 (by decide) (fun q => absurd q (by decide)) (fun _ => ?_)
  refine lv_aload_n hx hb dX8_init_66 rfl (lv_at hl 1 rfl) ?_
  refine va_get (D := D) (ci := 8) (v := .ref q1) (C := RX8) (T := TX8) (N := 13) hx hb hg uX8 hown hK.1 hP 0 rfl rfl 1 (by decide) (hg _ gw_941) (fun _ h9 => h9) rfl dX8_init_67 ?_
  refine lv_bipush (v := 12) hx hb dX8_init_70 (by decide) ?_
  refine lv_iload_n hx hb dX8_init_72 rfl (lv_at hl 0 rfl) ?_
  refine lv_iadd hx hb dX8_init_73 ?_
  refine nm_i (y := 15) (by decide) ?_
  refine lv_iconst (v := (-1)) hx hb dX8_init_74 (by decide) ?_
  refine va_iast hx hb hK.1 hP hD hS 1 0 rfl rfl (i := 15) (x := (-1)) (vp_in_nI (n := 15) (by decide) (by decide)) dX8_init_75 (fun H locs hP hD hS => ?_)
  have hP : va_P D vwCl ((((([(h0, .inr (8, [.int 0, .ref q1, .ref q2, .int 0, .ref q3, .int 0, .int 0, .int 0, .ref q4, .int 0, .ref q5, .int 0, .long 0]))] ++ [(q1, .inl (cI, 344, .inl (upd (upd (upd (upd (upd (fun _ => 0) 3 8) 12 (-1)) 13 (-1)) 14 (-1)) 15 (-1))))]) ++ [(q2, .inl (cI, 2064, .inl (fun _ => 0)))]) ++ [(q3, .inl (cI, 60, .inl (fun _ => 0)))]) ++ [(q4, .inl (cI, 96, .inl (fun _ => 0)))]) ++ [(q5, .inl (cI, 100, .inl (fun _ => 0)))]) H := hP
  have hD : va_D A ((((([(h0, .inr (8, [.int 0, .ref q1, .ref q2, .int 0, .ref q3, .int 0, .int 0, .int 0, .ref q4, .int 0, .ref q5, .int 0, .long 0]))] ++ [(q1, .inl (cI, 344, .inl (upd (upd (upd (upd (upd (fun _ => 0) 3 8) 12 (-1)) 13 (-1)) 14 (-1)) 15 (-1))))]) ++ [(q2, .inl (cI, 2064, .inl (fun _ => 0)))]) ++ [(q3, .inl (cI, 60, .inl (fun _ => 0)))]) ++ [(q4, .inl (cI, 96, .inl (fun _ => 0)))]) ++ [(q5, .inl (cI, 100, .inl (fun _ => 0)))]) := hD
  refine lv_iinc (v := 4) (lv' := [(1, .int 4), (0, .ref h0)]) hx hb dX8_init_76 hl (k := 0) rfl (by decide) (by decide) rfl (fun ls hl => ?_)
  refine lv_goto (tgt := 61) hx hb dX8_init_79 (by decide) ?_
  refine lv_iload_n hx hb dX8_init_61 rfl (lv_at hl 0 rfl) ?_
  refine lv_iconst (v := 4) hx hb dX8_init_62 (by decide) ?_
  refine lv_icmp_ge (tgt := 82) hx hb dX8_init_63 (by decide) (fun _ => ?_) (fun q => absurd (by decide) q)
  exact ret_n (fun i => ([h0, q1, q2, q3, q4, q5] : List Nat).getD i 0) hx hb hr hlocks hP hD hS (Nat.le_of_ble_eq_true rfl) (Nat.le_of_ble_eq_true rfl) dX8_init_82
