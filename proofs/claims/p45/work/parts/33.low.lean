abbrev rm_L_low : Room := { frames := 0, cells := 0, slots := 0, locals := 0 }
def f_L_low (Z : Nat) (p0 : Int32) (p1 : Int32) : Option (Int32) :=
  kz p1 (
  some ((p0 &&& 2147483647) - (p0 &&& 2147483647) / p1 * p1))
set_option maxRecDepth 100000 in
set_option maxHeartbeats 4000000 in
theorem k_L_low (l : Launch) (D : va_G) (cI cS cL : ClassId) (Z : Nat) (p0 : Int32) (p1 : Int32) {r : Int32} (h : f_L_low Z p0 p1 = some r) : CI l yL_low cL_low 2 (some .int) rm_L_low D cI cS cL [.int p0, .int p1] [] [] r := by
  refine ent_i (by decide +kernel) (Nat.le_of_ble_eq_true rfl) ?_
  intro p e s m args below meth c A ls hx hb hr hml hlocks hg hown hK hP hD hS hA hl
  have hown : s.vm.findClass RL = some m.cls := hown
  have hl : lv_has ls 2 [(0, .int p0), (1, .int p1)] := hl
  have hP : va_P D vwCl [] s.heap := hP
  have hD : va_D A [] := hD
  show W p l e rm_L_low s m args below meth c s.heap [] 0 0 (FI D below args s [] r A) (F0 m 0 ls [])
  unfold f_L_low at h
  have hmain : ∀ (H : Heap) (locs : List Loc), va_P D vwCl [] H → va_S A s.heap H locs → W p l e rm_L_low s m args below meth c H locs 0 0 (FI D below args s [] r A) (F0 m 0 ls []) := by
    intro H locs hP hS
    refine lv_iload_n hx hb dL_low_0 rfl (lv_at hl 0 rfl) ?_
    refine lv_ldc (v := 2147483647) hx hb hown (hg _ gw_353) dL_low_1 ?_
    refine lv_iand hx hb dL_low_3 ?_
    refine lv_iload_n hx hb dL_low_4 rfl (lv_at hl 1 rfl) ?_
    obtain ⟨b1, h⟩ := kz_some h
    refine lv_irem hx hb dL_low_5 b1 ?_
    cases h
    exact ret_i hx hb hr hlocks hP hD hS dL_low_6 rfl
  exact hmain _ _ hP hS
