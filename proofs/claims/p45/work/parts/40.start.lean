set_option maxRecDepth 100000 in
set_option maxHeartbeats 4000000 in
theorem start_open {p : Program} {e : Env} {s : State} {m : MethodId} {below : List Frame} {meth : Method} {c : Code} (l : Launch) {b L : Nat} {xs : Nat → Int32} (hL : L ≤ 260) (C0 : lw_At p s m meth c b L xs) (Z : Nat) (hf : f_L_law Z (f_L_cell L xs) 0 0 0 0 0 (fun _ => 0) 0 (fun _ => 0) mP0 (fun _ => 0) 8 0 0 0 0 0 0 0 (fun _ => st0) (fun _ => 0) = some 1) : W p l e room_1 s m #[Value.ref b] below meth c s.heap [] 0 0 (lw_Z below #[Value.ref b] s) (entryFrame m ([Value.ref b] : List Value).toArray 12) := by
  obtain ⟨hx, hb, hr, hml, hown, hts, hXs, hbl, hlocks, hgv⟩ := id C0
  have hown : s.vm.findClass RL = some m.cls := hown
  have hg : ∀ w ∈ GW, w.before #[Value.ref b] s = true := fun w hw => hts w (List.mem_filter.mp hw).1
  have hA : ∀ q, s.heap.size ≤ q → (fun q : Nat => s.heap.size ≤ q) q := fun _ h => h
  obtain ⟨cX0, iX0, hkX0⟩ := u_known (C := RX0) (T := TX0) (N := 2) (n := 2) hg uX0 (hts (.instantiable RX0 2) (List.mem_of_getElem? (i := 39) (by decide +kernel)))
  obtain ⟨cX1, iX1, hkX1⟩ := u_known (C := RX1) (T := TX1) (N := 2) (n := 2) hg uX1 (hts (.instantiable RX1 2) (List.mem_of_getElem? (i := 152) (by decide +kernel)))
  obtain ⟨cX2, iX2, hkX2⟩ := u_known (C := RX2) (T := TX2) (N := 3) (n := 3) hg uX2 (hts (.instantiable RX2 3) (List.mem_of_getElem? (i := 133) (by decide +kernel)))
  obtain ⟨cX3, iX3, hkX3⟩ := u_known (C := RX3) (T := TX3) (N := 6) (n := 6) hg uX3 (hts (.instantiable RX3 6) (List.mem_of_getElem? (i := 69) (by decide +kernel)))
  obtain ⟨cX4, iX4, hkX4⟩ := u_known (C := RX4) (T := TX4) (N := 2) (n := 2) hg uX4 (hts (.instantiable RX4 2) (List.mem_of_getElem? (i := 56) (by decide +kernel)))
  obtain ⟨cX5, iX5, hkX5⟩ := u_known (C := RX5) (T := TX5) (N := 3) (n := 3) hg uX5 (hts (.instantiable RX5 3) (List.mem_of_getElem? (i := 160) (by decide +kernel)))
  obtain ⟨cX6, iX6, hkX6⟩ := u_known (C := RX6) (T := TX6) (N := 7) (n := 7) hg uX6 (hts (.instantiable RX6 7) (List.mem_of_getElem? (i := 33) (by decide +kernel)))
  obtain ⟨cX7, iX7, hkX7⟩ := u_known (C := RX7) (T := TX7) (N := 4) (n := 4) hg uX7 (hts (.instantiable RX7 4) (List.mem_of_getElem? (i := 25) (by decide +kernel)))
  obtain ⟨D, hKc⟩ : ∃ D : va_G, ∀ (k : Nat) (q : vw_C), vwCl[k]? = some q → u_Kn s q.1 q.2.1 q.2.2 (D.1 k) (D.2 k) := by
    refine ⟨(fun k => if k = 0 then cX0 else if k = 1 then cX1 else if k = 2 then cX2 else if k = 3 then cX3 else if k = 4 then cX4 else if k = 5 then cX5 else if k = 6 then cX6 else cX7, fun k => if k = 0 then iX0 else if k = 1 then iX1 else if k = 2 then iX2 else if k = 3 then iX3 else if k = 4 then iX4 else if k = 5 then iX5 else if k = 6 then iX6 else iX7), ?_⟩
    intro k q hq
    match k, hq with
    | 0, hq => cases hq; exact hkX0
    | 1, hq => cases hq; exact hkX1
    | 2, hq => cases hq; exact hkX2
    | 3, hq => cases hq; exact hkX3
    | 4, hq => cases hq; exact hkX4
    | 5, hq => cases hq; exact hkX5
    | 6, hq => cases hq; exact hkX6
    | 7, hq => cases hq; exact hkX7
    | k + 8, hq => simp [vwCl] at hq
  obtain ⟨cI, kI, compI, hI1, hI2, hI3⟩ := Cond.arrayClass_spec (hts (.arrayClass .int) (List.mem_of_getElem? (i := 54) (by decide +kernel)))
  have hAO : (Cond.arrayOver (.object "GapBuffer$State")).before #[Value.ref b] s = true := hts (.arrayOver (.object "GapBuffer$State")) (List.mem_of_getElem? (i := 139) (by decide +kernel))
  obtain ⟨compS, cS, kS, hS1, hS2, hS3, hS4, hS5⟩ := Cond.arrayOver_spec hAO
  have hK : kk_ D cI cS cI s := by
    refine ⟨⟨hKc, fun k q hk => ?_⟩, fun w hw => va_Nw.of (nw_tab (List.mem_filter.mp hw).2) (hts w (List.mem_filter.mp hw).1), trivial, trivial, trivial, va_AO.of hAO⟩
    match k, hk with
    | 0, hk => cases hk; exact ⟨fun n z => ⟨fun k h => (by cases h), kI, hI2, compI, hI3⟩, hI1⟩
    | 1, hk => cases hk; exact ⟨fun n z => ⟨fun k h => (by cases h), kS, hS3, compS, hS4⟩, kS, compS, hS3, hS4, hS1, hS5⟩
    | 2, hk => cases hk; exact ⟨fun n z => ⟨fun k h => (by cases h), kI, hI2, compI, hI3⟩, hI1⟩
    | k + 3, hk => simp at hk
  have hS : va_S (fun q : Nat => s.heap.size ≤ q) s.heap s.heap [] := va_S.rf
  have hP : va_P D vwCl [] s.heap := fun k q h => by simp at h
  have hD : va_D (fun q : Nat => s.heap.size ≤ q) [] := ⟨fun i j p q h => by simp at h, fun k q h => by simp at h⟩
  have hl := lv_entry ([.ref b]) (n := 12) (Nat.le_of_ble_eq_true rfl)
  rw [lg_entry_eq]
  generalize (lg_sl ([.ref b]) ++ List.replicate (12 - (lg_sl ([.ref b])).length) Slot.unset).toArray = ls at hl ⊢
  have hl : lv_has ls 12 [(0, .ref b)] := hl
  refine va_new (ci := 7) (fs := [.null, .null, .null, .null]) (C := RX7) (T := TX7) (N := 4) hx hb hg uX7 tyX7 tyX7_ok hown (hg _ gw_24) (hg _ gw_25) (hg _ gw_8) hK.1 hP hD hS hA rfl (fun j hj => by rcases (show j = 0 ∨ j = 1 ∨ j = 2 ∨ j = 3 by omega) with rfl | rfl | rfl | rfl <;> rfl) (by show 0 + 1 ≤ 600172; omega) (by show 0 + 4 ≤ 7300668; omega) dL_law_0 (fun q1 H hP hD hS => ?_)
  refine lv_dup hx hb dL_law_3 rfl ?_
  refine cI_n (As := []) (rest := [.ref q1]) (wc := [(q1, .inr (7, [.null, .null, .null, .null]))]) (wr := []) hx hb hml hown hg hK hP hD hS hA hl.1 (kn_X7 l D cI cS cI q1) rfl gw_27 gw_8 gw_28 (by decide +kernel) gw_26 ⟨rfl, rfl, by decide, by decide⟩ ⟨by show 0 + 1 + 70 ≤ 600172; omega, by show 0 + 4 + 2483 ≤ 7300668; omega⟩ List.perm_append_comm rfl rfl (Nat.le_of_ble_eq_true rfl) dL_law_4 (fun u1 H locs hP hD hS => ?_)
  refine lv_astore_n (lv' := [(1, .ref q1), (0, .ref b)]) hx hb dL_law_7 rfl hl (by decide) rfl (fun ls hl => ?_)
  refine lv_bipush (v := 64) hx hb dL_law_8 (by decide) ?_
  refine va_newa (atype := .int) (ty := .int) (N' := 64) (a0 := (64, .inl (fun _ => 0))) hx hb (hg _ gw_54) rfl hK.1 hP hD hS hA (fun _ => rfl) (by decide) (by decide) (by decide) (by show 0 + 1 + 70 + 1 ≤ 600172; omega) (by show 0 + 4 + 2483 + 64 ≤ 7300668; omega) dL_law_10 (fun h71 cA H hK1 hP hD hS => ?_)
  have e9 : cI = cA := (cA_int (k := 3) (j := 0) hK1 rfl rfl).symm
  subst e9
  refine lv_astore_n (lv' := [(2, .ref h71), (1, .ref q1), (0, .ref b)]) hx hb dL_law_12 rfl hl (by decide) rfl (fun ls hl => ?_)
  refine lv_iconst (v := 0) hx hb dL_law_13 (by decide) ?_
  refine lv_istore_n (lv' := [(3, .int 0), (2, .ref h71), (1, .ref q1), (0, .ref b)]) hx hb dL_law_14 rfl hl (by decide) rfl (fun ls hl => ?_)
  have hl : lv_has ls 12 [(0, .ref b), (1, .ref ((ad q1 u1) 0)), (2, .ref h71), (3, .int 0)] := lv_sub hl [3, 2, 1, 0] rfl
  refine W.widen (k := 600172) (n := 7300668) (by omega) (by omega) ?_
  have hP : va_P D vwCl (wX7 cI cS (ad q1 u1) 0 0 0 0 (fun _ => 0) 0 (fun _ => 0) mP0 (fun _ => 0) 8 0 0 0 0 0 0 (fun _ => 0) (-1) 0 (-1) 8 0 0 0 0 0 0 0 (fun _ => st0) ++ wA64 cI h71 (fun _ => 0)) H := hP
  have hD : va_D (fun q : Nat => s.heap.size ≤ q) (wX7 cI cS (ad q1 u1) 0 0 0 0 (fun _ => 0) 0 (fun _ => 0) mP0 (fun _ => 0) 8 0 0 0 0 0 0 (fun _ => 0) (-1) 0 (-1) 8 0 0 0 0 0 0 0 (fun _ => st0) ++ wA64 cI h71 (fun _ => 0)) := hD
  exact k_L_law hx hb hr hml hown hg hK hlocks hA (fun _ h => h) (Nat.not_le.mpr hbl) hbl hXs Z (f_L_cell L xs) (fun k r h => k_L_cell l D cI cS cI b L xs k h) (ad q1 u1) h71 0 0 0 0 0 (fun _ => 0) 0 (fun _ => 0) mP0 (fun _ => 0) 8 0 0 0 0 0 0 (fun _ => 0) (-1) 0 (-1) 8 0 0 0 0 0 0 0 (fun _ => st0) (fun _ => 0) hf H _ hP hD hS ls hl
