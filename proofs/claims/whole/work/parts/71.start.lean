theorem pm_s {α : Type} {a b : List α} {o : α} : (([] ++ a ++ b) ++ [o]).Perm (o :: (a ++ b)) := by
  classical
  rw [List.perm_iff_count]
  intro x
  simp only [List.count_append, List.count_cons, List.count_nil]
  omega
set_option maxRecDepth 100000 in
set_option maxHeartbeats 4000000 in
theorem start_open {p : Program} {e : Env} {s : State} {m : MethodId} {below : List Frame} {meth : Method} {c : Code} (l : Launch) (hflags : l.flags = flags0) {b L : Nat} {xs : Nat → Int32} (hL : L ≤ 1536) (C0 : lw_At p s m meth c b L xs) (Z : Nat) (Rel : Int32 → Int32 → Int32 → Int32 → (Nat → Int32) → Int32 → (Nat → Int32) → (Nat → Int32) → (Nat → Int32) → Int32 → Int32 → Int32 → Int32 → Int32 → Int32 → Int32 → (Nat → Int32) → Int32 → Int32 → Int32 → Int32 → Int32 → Int32 → Int32 → Int32 → Int32 → Int32 → Int32 → (Nat → StT) → Int32 → Int32 → Int32 → Int32 → Int32 → Int32 → Int32 → Int64 → (Nat → Int32) → (Nat → Int32) → (Nat → Int32) → (Nat → Int32) → (Nat → Int32) → Prop) (pbs : PBs Z Rel) (rel0 : Rel 0 0 0 0 (fun _ => 0) 0 (fun _ => 0) mP0 (fun _ => 0) 8 0 0 0 0 0 0 (fun _ => 0) (-1) 0 (-1) 8 0 0 0 0 0 0 0 (fun _ => st0) 0 0 0 0 0 0 0 0 s0 (fun _ => 0) (fun _ => 0) (fun _ => 0) (fun _ => 0)) : W p l e room_1 s m #[Value.ref b] below meth c s.heap [] 0 0 (lw_Z below #[Value.ref b] s) (entryFrame m ([Value.ref b] : List Value).toArray 7) := by
  have hlt : l.stackTraces = false := by
    unfold Launch.stackTraces
    rw [hflags]
    decide +kernel
  obtain ⟨hx, hb, hr, hml, hown, hts, hXs, hbl, hlocks, hgv⟩ := id C0
  have hown : s.vm.findClass RL = some m.cls := hown
  have hg : ∀ w ∈ GW, w.before #[Value.ref b] s = true := fun w hw => hts w (List.mem_filter.mp hw).1
  have hfl := flat_of_before _ hgv
  have hA : ∀ q : Nat, s.heap.size ≤ q → (fun q : Nat => s.heap.size ≤ q) q := fun _ h => h
  obtain ⟨cX0, iX0, hkX0⟩ := u_known (C := RX0) (T := TX0) (N := 2) (n := 2) hg uX0 (hts (.instantiable RX0 2) (List.mem_of_getElem? (i := 91) (by decide +kernel)))
  obtain ⟨cX1, iX1, hkX1⟩ := u_known (C := RX1) (T := TX1) (N := 2) (n := 2) hg uX1 (hts (.instantiable RX1 2) (List.mem_of_getElem? (i := 208) (by decide +kernel)))
  obtain ⟨cX2, iX2, hkX2⟩ := u_known (C := RX2) (T := TX2) (N := 3) (n := 3) hg uX2 (hts (.instantiable RX2 3) (List.mem_of_getElem? (i := 189) (by decide +kernel)))
  obtain ⟨cX3, iX3, hkX3⟩ := u_known (C := RX3) (T := TX3) (N := 6) (n := 6) hg uX3 (hts (.instantiable RX3 6) (List.mem_of_getElem? (i := 121) (by decide +kernel)))
  obtain ⟨cX4, iX4, hkX4⟩ := u_known (C := RX4) (T := TX4) (N := 2) (n := 2) hg uX4 (hts (.instantiable RX4 2) (List.mem_of_getElem? (i := 108) (by decide +kernel)))
  obtain ⟨cX5, iX5, hkX5⟩ := u_known (C := RX5) (T := TX5) (N := 3) (n := 3) hg uX5 (hts (.instantiable RX5 3) (List.mem_of_getElem? (i := 216) (by decide +kernel)))
  obtain ⟨cX6, iX6, hkX6⟩ := u_known (C := RX6) (T := TX6) (N := 7) (n := 7) hg uX6 (hts (.instantiable RX6 7) (List.mem_of_getElem? (i := 85) (by decide +kernel)))
  obtain ⟨cX7, iX7, hkX7⟩ := u_known (C := RX7) (T := TX7) (N := 4) (n := 4) hg uX7 (hts (.instantiable RX7 4) (List.mem_of_getElem? (i := 77) (by decide +kernel)))
  obtain ⟨cX8, iX8, hkX8⟩ := u_known (C := RX8) (T := TX8) (N := 13) (n := 13) hg uX8 (hts (.instantiable RX8 13) (List.mem_of_getElem? (i := 935) (by decide +kernel)))
  obtain ⟨D, hKc⟩ : ∃ D : va_G, ∀ (k : Nat) (q : vw_C), vwCl[k]? = some q → u_Kn s q.1 q.2.1 q.2.2 (D.1 k) (D.2 k) := by
    refine ⟨(fun k => if k = 0 then cX0 else if k = 1 then cX1 else if k = 2 then cX2 else if k = 3 then cX3 else if k = 4 then cX4 else if k = 5 then cX5 else if k = 6 then cX6 else if k = 7 then cX7 else cX8, fun k => if k = 0 then iX0 else if k = 1 then iX1 else if k = 2 then iX2 else if k = 3 then iX3 else if k = 4 then iX4 else if k = 5 then iX5 else if k = 6 then iX6 else if k = 7 then iX7 else iX8), ?_⟩
    intro k q hq
    match k, hq with
    | 0, hq => cases hq; exact hkX0
    | 1, hq => cases hq; exact hkX1
    | 2, hq => cases hq; exact hkX2
    | 3, hq => cases hq; exact hkX3
    | 4, hq => cases hq; exact hkX4
    | 5, hq => cases hq; exact hkX5
    | 6, hq => cases hq; exact hkX6
    | 7, hq => cases hq; exact hkX7
    | 8, hq => cases hq; exact hkX8
    | k + 9, hq => simp [vwCl] at hq
  obtain ⟨cI, kI, compI, hI1, hI2, hI3⟩ := Cond.arrayClass_spec (hts (.arrayClass .int) (List.mem_of_getElem? (i := 106) (by decide +kernel)))
  obtain ⟨cL, kL, compL, hL1, hL2, hL3⟩ := Cond.arrayClass_spec (hts (.arrayClass .long) (List.mem_of_getElem? (i := 1329) (by decide +kernel)))
  have hAO : (Cond.arrayOver (.object "GapBuffer$State")).before #[Value.ref b] s = true := hts (.arrayOver (.object "GapBuffer$State")) (List.mem_of_getElem? (i := 195) (by decide +kernel))
  obtain ⟨compS, cS, kS, hS1, hS2, hS3, hS4, hS5⟩ := Cond.arrayOver_spec hAO
  have hK : kk_ D cI cS cL s := by
    refine ⟨⟨hKc, fun k q hk => ?_⟩, fun w hw => va_Nw.of (nw_tab (List.mem_filter.mp hw).2) (hts w (List.mem_filter.mp hw).1), va_Nc.of (hfl _ (by decide +kernel)), va_Nc.of (hfl _ (by decide +kernel)), va_Nc.of (hfl _ (by decide +kernel)), va_AO.of hAO⟩
    match k, hk with
    | 0, hk => cases hk; exact ⟨fun n z => ⟨fun k h => (by cases h), kI, hI2, compI, hI3⟩, hI1⟩
    | 1, hk => cases hk; exact ⟨fun n z => ⟨fun k h => (by cases h), kS, hS3, compS, hS4⟩, kS, compS, hS3, hS4, hS1, hS5⟩
    | 2, hk => cases hk; exact ⟨fun n z => ⟨fun k h => (by cases h), kL, hL2, compL, hL3⟩, hL1⟩
    | k + 3, hk => simp at hk
  have hZ : zz_ (fun q : Nat => s.heap.size ≤ q) s s.heap := ⟨vx_Zqof (hts (.laysStatic Bundle.tN "UNASSIGNED_STACK" Bundle.steD) (List.mem_of_getElem? (i := 531) (by decide +kernel))) (hts (.initialized Bundle.tN) (List.mem_of_getElem? (i := 69) (by decide +kernel))) (hfl _ (by decide +kernel)) (fun a h => Nat.not_le.mpr h), vx_Zqof (hts (.laysStatic Bundle.tN "SUPPRESSED_SENTINEL" Bundle.listD) (List.mem_of_getElem? (i := 533) (by decide +kernel))) (hts (.initialized Bundle.tN) (List.mem_of_getElem? (i := 69) (by decide +kernel))) (hfl _ (by decide +kernel)) (fun a h => Nat.not_le.mpr h)⟩
  have hS : va_S (fun q : Nat => s.heap.size ≤ q) s.heap s.heap [] := va_S.rf
  have hP : va_P D vwCl [] s.heap := fun k q h => by simp at h
  have hD : va_D (fun q : Nat => s.heap.size ≤ q) [] := ⟨fun i j p q h => by simp at h, fun k q h => by simp at h⟩
  have hl := lv_entry ([.ref b]) (n := 7) (Nat.le_of_ble_eq_true rfl)
  rw [lg_entry_eq]
  generalize (lg_sl ([.ref b]) ++ List.replicate (7 - (lg_sl ([.ref b])).length) Slot.unset).toArray = ls at hl ⊢
  have hl : lv_has ls 7 [(0, .ref b)] := hl
  refine va_new (ci := 7) (fs := [.null, .null, .null, .null]) (C := RX7) (T := TX7) (N := 4) hx hb hg uX7 tyX7 tyX7_ok hown (hg _ gw_76) (hg _ gw_77) (hg _ gw_59) hK.1 hP hD hS hA rfl (fun j hj => by rcases (show j = 0 ∨ j = 1 ∨ j = 2 ∨ j = 3 by omega) with rfl | rfl | rfl | rfl <;> rfl) (by show 0 + 1 ≤ 601024; omega) (by show 0 + 4 ≤ 7293033; omega) dL_law_0 (fun q1 H hP hD hS => ?_)
  refine lv_dup hx hb dL_law_3 rfl ?_
  refine cI_n (As := []) (rest := [.ref q1]) (wc := [(q1, .inr (7, [.null, .null, .null, .null]))]) (wr := []) hx hb hml hown hg hK hP hD hS hA hl.1 (kn_X7 l D cI cS cL q1) rfl gw_79 gw_59 gw_80 (by decide +kernel) gw_78 ⟨rfl, rfl, by decide, by decide⟩ ⟨by show 0 + 1 + 70 ≤ 601024; omega, by show 0 + 4 + 2483 ≤ 7293033; omega⟩ List.perm_append_comm rfl rfl (Nat.le_of_ble_eq_true rfl) dL_law_4 (fun u1 H locs hP hD hS => ?_)
  refine lv_astore_n (lv' := [(1, .ref q1), (0, .ref b)]) hx hb dL_law_7 rfl hl (by decide) rfl (fun ls hl => ?_)
  refine va_new (ci := 8) (fs := [.int 0, .null, .null, .int 0, .null, .int 0, .int 0, .int 0, .null, .int 0, .null, .int 0, .long 0]) (C := RX8) (T := TX8) (N := 13) hx hb hg uX8 tyX8 tyX8_ok hown (hg _ gw_934) (hg _ gw_935) (hg _ gw_68) hK.1 hP hD hS hA rfl (fun j hj => by rcases (show j = 0 ∨ j = 1 ∨ j = 2 ∨ j = 3 ∨ j = 4 ∨ j = 5 ∨ j = 6 ∨ j = 7 ∨ j = 8 ∨ j = 9 ∨ j = 10 ∨ j = 11 ∨ j = 12 by omega) with rfl | rfl | rfl | rfl | rfl | rfl | rfl | rfl | rfl | rfl | rfl | rfl | rfl <;> rfl) (by show 0 + 1 + 70 + 1 ≤ 601024; omega) (by show 0 + 4 + 2483 + 13 ≤ 7293033; omega) dL_law_8 (fun q2 H hP hD hS => ?_)
  refine lv_dup hx hb dL_law_11 rfl ?_
  refine cI_n (As := []) (rest := [.ref q2]) (wc := [(q2, .inr (8, [.int 0, .null, .null, .int 0, .null, .int 0, .int 0, .int 0, .null, .int 0, .null, .int 0, .long 0]))]) (wr := ([] ++ wX7 cI cS (ad q1 u1) 0 0 0 0 (fun _ => 0) 0 (fun _ => 0) mP0 (fun _ => 0) 8 0 0 0 0 0 0 (fun _ => 0) (-1) 0 (-1) 8 0 0 0 0 0 0 0 (fun _ => st0))) hx hb hml hown hg hK hP hD hS hA hl.1 (kn_X8 l D cI cS cL q2) rfl gw_937 gw_68 gw_938 (by decide +kernel) gw_936 ⟨rfl, rfl, by decide, by decide⟩ ⟨by show 0 + 1 + 70 + 1 + 5 ≤ 601024; omega, by show 0 + 4 + 2483 + 13 + 2664 ≤ 7293033; omega⟩ List.perm_append_comm rfl rfl (Nat.le_of_ble_eq_true rfl) dL_law_12 (fun u2 H locs hP hD hS => ?_)
  refine lv_astore_n (lv' := [(2, .ref q2), (1, .ref q1), (0, .ref b)]) hx hb dL_law_15 rfl hl (by decide) rfl (fun ls hl => ?_)
  refine lv_iconst (v := 1) hx hb dL_law_16 (by decide) ?_
  refine va_newa (atype := .long) (ty := .long) (N' := 1) (a0 := (1, .inr (.inl (fun _ => 0)))) hx hb (hg _ gw_1329) rfl hK.1 hP hD hS hA (fun _ => rfl) (by decide) (by decide) (by decide) (by show 0 + 1 + 70 + 1 + 5 + 1 ≤ 601024; omega) (by show 0 + 4 + 2483 + 13 + 2664 + 1 ≤ 7293033; omega) dL_law_17 (fun ho cA H hK1 hP hD hS => ?_)
  have e9 : cL = cA := (cA_long (k := 3) (j := 2) hK1 rfl rfl).symm
  subst e9
  refine lv_astore_n (lv' := [(3, .ref ho), (2, .ref q2), (1, .ref q1), (0, .ref b)]) hx hb dL_law_19 rfl hl (by decide) rfl (fun ls hl => ?_)
  refine lv_iconst (v := 0) hx hb dL_law_20 (by decide) ?_
  refine lv_istore (lv' := [(4, .int 0), (3, .ref ho), (2, .ref q2), (1, .ref q1), (0, .ref b)]) hx hb dL_law_21 hl (by decide) rfl (fun ls hl => ?_)
  have hl : lv_has ls 7 [(4, .int (nI (3 * 0))), (0, .ref b), (1, .ref ((ad q1 u1) 0)), (2, .ref ((ad q2 u2) 0)), (3, .ref ho)] := lv_sub hl [0, 4, 3, 2, 1] rfl
  refine W.widen (k := 100 + 0) (n := 6000 + 6 * 0) (by omega) (by omega) ?_
  have hP : va_P D vwCl (wLW cI cS cL (ad q1 u1) (ad q2 u2) ho 0 0 0 0 (fun _ => 0) 0 (fun _ => 0) mP0 (fun _ => 0) 8 0 0 0 0 0 0 (fun _ => 0) (-1) 0 (-1) 8 0 0 0 0 0 0 0 (fun _ => st0) 0 0 0 0 0 0 0 0 s0 (fun _ => 0) (fun _ => 0) (fun _ => 0) (fun _ => 0) (fun _ => 0)) H := va_P_perm pm_s hP
  have hD : va_D (fun q : Nat => s.heap.size ≤ q) (wLW cI cS cL (ad q1 u1) (ad q2 u2) ho 0 0 0 0 (fun _ => 0) 0 (fun _ => 0) mP0 (fun _ => 0) 8 0 0 0 0 0 0 (fun _ => 0) (-1) 0 (-1) 8 0 0 0 0 0 0 0 (fun _ => st0) 0 0 0 0 0 0 0 0 s0 (fun _ => 0) (fun _ => 0) (fun _ => 0) (fun _ => 0) (fun _ => 0)) := va_D_perm pm_s hD
  exact law_loop hlt C0 hg hK hZ Z Rel pbs (ad q1 u1) (ad q2 u2) ho hL (L + 1) 0 (by omega) (by omega) 0 0 0 0 (fun _ => 0) 0 (fun _ => 0) mP0 (fun _ => 0) 8 0 0 0 0 0 0 (fun _ => 0) (-1) 0 (-1) 8 0 0 0 0 0 0 0 (fun _ => st0) 0 0 0 0 0 0 0 0 s0 (fun _ => 0) (fun _ => 0) (fun _ => 0) (fun _ => 0) _ rel0 H _ hP hD hS ls hl
