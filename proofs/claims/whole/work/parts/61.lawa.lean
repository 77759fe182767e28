set_option maxRecDepth 100000 in
set_option maxHeartbeats 4000000 in
theorem law_c0 {p : Program} {e : Env} {s : State} {m : MethodId} {below : List Frame} {meth : Method} {c : Code} {l : Launch} (hlt : l.stackTraces = false) {D : va_G} {cI cS cL : ClassId} {b L : Nat} {xs : Nat → Int32} (C0 : lw_At p s m meth c b L xs) (hg : ∀ w ∈ GW, w.before #[Value.ref b] s = true) (hK : kk_ D cI cS cL s) (hZ : zz_ (fun q : Nat => s.heap.size ≤ q) s s.heap) (Z : Nat) (Rel : Int32 → Int32 → Int32 → Int32 → (Nat → Int32) → Int32 → (Nat → Int32) → (Nat → Int32) → (Nat → Int32) → Int32 → Int32 → Int32 → Int32 → Int32 → Int32 → Int32 → (Nat → Int32) → Int32 → Int32 → Int32 → Int32 → Int32 → Int32 → Int32 → Int32 → Int32 → Int32 → Int32 → (Nat → StT) → Int32 → Int32 → Int32 → Int32 → Int32 → Int32 → Int32 → Int64 → (Nat → Int32) → (Nat → Int32) → (Nat → Int32) → (Nat → Int32) → (Nat → Int32) → Prop) (pb : PB_type Z Rel) (hh hm : Nat → Nat) (ho k : Nat) (hk : 3 * k + 2 < L) (hL : L ≤ 1536) (vCar : Int32) (vGoa : Int32) (vEag : Int32) (tN : Int32) (tF : Nat → Int32) (cN : Int32) (cF : Nat → Int32) (mP : Nat → Int32) (mS : Nat → Int32) (kCap : Int32) (kGap : Int32) (kCar : Int32) (kCop : Int32) (kGro : Int32) (kShr : Int32) (bN : Int32) (bF : Nat → Int32) (rCmd : Int32) (rLet : Int32) (rNum : Int32) (fCap : Int32) (fGap : Int32) (fCar : Int32) (fCop : Int32) (fGro : Int32) (fShr : Int32) (hX : Int32) (hC : Int32) (hR : Nat → StT) (aTh : Int32) (aSm : Int32) (aLn : Int32) (aAt : Int32) (aWe : Int32) (aRm : Int32) (aBm : Int32) (aHa : Int64) (aS : Nat → Int32) (aSv : Nat → Int32) (aCm : Nat → Int32) (aRd : Nat → Int32) (aBy : Nat → Int32) (oF : Nat → Int64) (hRel : Rel vCar vGoa vEag tN tF cN cF mP mS kCap kGap kCar kCop kGro kShr bN bF rCmd rLet rNum fCap fGap fCar fCop fGro fShr hX hC hR aTh aSm aLn aAt aWe aRm aBm aHa aS aSv aCm aRd aBy) (H : Heap) (locs : List Loc) (hP : va_P D vwCl (wLW cI cS cL hh hm ho vCar vGoa vEag tN tF cN cF mP mS kCap kGap kCar kCop kGro kShr bN bF rCmd rLet rNum fCap fGap fCar fCop fGro fShr hX hC hR aTh aSm aLn aAt aWe aRm aBm aHa aS aSv aCm aRd aBy oF) H) (hD : va_D (fun q : Nat => s.heap.size ≤ q) (wLW cI cS cL hh hm ho vCar vGoa vEag tN tF cN cF mP mS kCap kGap kCar kCop kGro kShr bN bF rCmd rLet rNum fCap fGap fCar fCop fGro fShr hX hC hR aTh aSm aLn aAt aWe aRm aBm aHa aS aSv aCm aRd aBy oF)) (hS : va_S (fun q : Nat => s.heap.size ≤ q) s.heap H locs) (ls : Array Slot) (hl : lv_has ls 7 [(4, .int (nI (3 * k))), (0, .ref b), (1, .ref (hh 0)), (2, .ref (hm 0)), (3, .ref ho)]) (IH : LH p l e s m b below meth c D cI cS cL hh hm ho (k + 1) Rel) : W p l e room_1 s m #[Value.ref b] below meth c H locs (100 + k) (6000 + 6 * k) (lw_Z below #[Value.ref b] s) (F0 m 220 ls []) := by
  obtain ⟨hx, hb, hr, hml, hown, hts, hXs, hbl, hlocks, hgv⟩ := C0
  have hown : s.vm.findClass RL = some m.cls := hown
  have hA : ∀ q : Nat, s.heap.size ≤ q → (fun q : Nat => s.heap.size ≤ q) q := fun _ h => h
  have hbA : ¬ (fun q : Nat => s.heap.size ≤ q) b := Nat.not_le.mpr hbl
  obtain ⟨a1, ea1⟩ : ∃ y, y = xs (nI (3 * k + 1)).toNatClampNeg := ⟨_, rfl⟩
  obtain ⟨a2, ea2⟩ : ∃ y, y = xs (nI (3 * k + 2)).toNatClampNeg := ⟨_, rfl⟩
  rcases pb a1 vCar vGoa vEag tN tF cN cF mP mS kCap kGap kCar kCop kGro kShr bN bF rCmd rLet rNum fCap fGap fCar fCop fGro fShr hX hC hR aTh aSm aLn aAt aWe aRm aBm aHa aS aSv aCm aRd aBy hRel with ⟨r, vCar', vGoa', tN', tF', mP', kCap', kGap', kCar', kCop', kGro', hX', hC', hR', aSm', aBm', aS', aSv', aBy', e7, e8, hRel⟩ | ⟨r, aSm', aBm', aS', aSv', aBy', e7, e8, hRel⟩ | ⟨r, aSm', aBm', aS', aSv', aBy', e7, e8, hRel⟩
  · skip
    refine lv_aload_n hx hb dL_law_220 rfl (lv_at hl 2 rfl) ?_
    refine lv_aload_n hx hb dL_law_221 rfl (lv_at hl 1 rfl) ?_
    refine lv_iload hx hb dL_law_222 (lv_at hl 0 rfl) ?_
    refine lv_iconst (v := 1) hx hb dL_law_224 (by decide) ?_
    refine lv_iadd hx hb dL_law_225 ?_
    refine nm_i (y := nI (3 * k + 1)) (nI_1 (3 * k)).symm ?_
    refine va_sld hx hb hXs hbl hbA hS (vp_in_nI (n := 3 * k + 1) (by omega) (by omega)) dL_law_226 ?_
    refine nm_i ea1 ?_
    refine lv_aload_n hx hb dL_law_227 rfl (lv_at hl 4 rfl) ?_
    refine cW_i (As := [.ref (hh 0), .int a1, .ref ho]) (rest := []) (wc := ((ho, .inl (cL, 1, .inr (.inl oF))) :: wX7 cI cS hh vCar vGoa vEag tN tF cN cF mP mS kCap kGap kCar kCop kGro kShr bN bF rCmd rLet rNum fCap fGap fCar fCop fGro fShr hX hC hR)) (wc' := ((ho, .inl (cL, 1, .inr (.inl (vp_updL oF 0 (r : Int32).toInt64)))) :: wX7 cI cS hh vCar' vGoa' vEag tN' tF' cN cF mP' mS kCap' kGap' kCar' kCop' kGro' kShr bN bF rCmd rLet rNum fCap fGap fCar fCop fGro fShr hX' hC' hR')) (ws' := ((ho, .inl (cL, 1, .inr (.inl (vp_updL oF 0 (r : Int32).toInt64)))) :: (wX7 cI cS hh vCar' vGoa' vEag tN' tF' cN cF mP' mS kCap' kGap' kCar' kCop' kGro' kShr bN bF rCmd rLet rNum fCap fGap fCar fCop fGro fShr hX' hC' hR' ++ wX8 cI (hm 0) (hm 1) (hm 2) (hm 3) (hm 4) (hm 5) aTh aSm aLn aAt aWe aRm aBm aHa aS aSv aCm aRd aBy))) hx hb hml hown hg hK hP hD hS hA hl.1 hZ (k_L_type l D cI cS cL Z hh ho a1 vCar vGoa vEag tN tF cN cF mP mS kCap kGap kCar kCop kGro kShr bN bF rCmd rLet rNum fCap fGap fCar fCop fGro fShr hX hC hR oF e7) gww_L_type gw_489 ⟨rfl, rfl, by decide, by decide⟩ ⟨by show 100 + k + 1 ≤ 601024; omega, by show 6000 + 6 * k + 6 ≤ 7293033; omega⟩ pm_l0 pm_l0 (congrArg (List.cons ho) fst_X7) rfl rfl (Nat.le_of_ble_eq_true rfl) dL_law_228 (fun H locs hP hD hS => ?_)
    refine lv_istore (lv' := [(5, .int 0), (4, .int (nI (3 * k))), (0, .ref b), (1, .ref (hh 0)), (2, .ref (hm 0)), (3, .ref ho)]) hx hb dL_law_231 hl (by decide) rfl (fun ls hl => ?_)
    refine lv_aload_n hx hb dL_law_233 rfl (lv_at hl 4 rfl) ?_
    refine lv_aload_n hx hb dL_law_234 rfl (lv_at hl 2 rfl) ?_
    refine lv_iload hx hb dL_law_235 (lv_at hl 1 rfl) ?_
    refine lv_iconst (v := 1) hx hb dL_law_237 (by decide) ?_
    refine lv_iadd hx hb dL_law_238 ?_
    refine nm_i (y := nI (3 * k + 1)) (nI_1 (3 * k)).symm ?_
    refine va_sld hx hb hXs hbl hbA hS (vp_in_nI (n := 3 * k + 1) (by omega) (by omega)) dL_law_239 ?_
    refine nm_i ea1 ?_
    refine cP_i (As := [.int a1]) (rest := []) (wc := (wX8 cI (hm 0) (hm 1) (hm 2) (hm 3) (hm 4) (hm 5) aTh aSm aLn aAt aWe aRm aBm aHa aS aSv aCm aRd aBy)) (wc' := (wX8 cI (hm 0) (hm 1) (hm 2) (hm 3) (hm 4) (hm 5) 0 aSm' aLn aAt aWe aRm aBm' aHa aS' aSv' aCm aRd aBy')) (ws' := ((ho, .inl (cL, 1, .inr (.inl (vp_updL oF 0 (r : Int32).toInt64)))) :: (wX7 cI cS hh vCar' vGoa' vEag tN' tF' cN cF mP' mS kCap' kGap' kCar' kCop' kGro' kShr bN bF rCmd rLet rNum fCap fGap fCar fCop fGro fShr hX' hC' hR' ++ wX8 cI (hm 0) (hm 1) (hm 2) (hm 3) (hm 4) (hm 5) 0 aSm' aLn aAt aWe aRm aBm' aHa aS' aSv' aCm aRd aBy'))) hx hb hml hown hg hK hP hD hS hA hl.1 (k_X8_type l D cI cS cL Z (hm 0) (hm 1) (hm 2) (hm 3) (hm 4) (hm 5) a1 aTh aSm aLn aAt aWe aRm aBm aHa aS aSv aCm aRd aBy e8) gm_X8_type gw_984 ⟨rfl, rfl, by decide, by decide⟩ ⟨by show 100 + k + 1 ≤ 601024; omega, by show 6000 + 6 * k + 6 ≤ 7293033; omega⟩ pm_l2 pm_l2 fst_X8 rfl rfl rfl rfl rfl (Nat.le_of_ble_eq_true rfl) dL_law_240 (fun H locs hP hD hS => ?_)
    refine lv_istore (lv' := [(6, .int r), (5, .int 0), (4, .int (nI (3 * k))), (0, .ref b), (1, .ref (hh 0)), (2, .ref (hm 0)), (3, .ref ho)]) hx hb dL_law_243 hl (by decide) rfl (fun ls hl => ?_)
    refine lv_aload_n hx hb dL_law_245 rfl (lv_at hl 5 rfl) ?_
    refine cP_i (As := []) (rest := []) (wc := (wX8 cI (hm 0) (hm 1) (hm 2) (hm 3) (hm 4) (hm 5) 0 aSm' aLn aAt aWe aRm aBm' aHa aS' aSv' aCm aRd aBy')) (wc' := (wX8 cI (hm 0) (hm 1) (hm 2) (hm 3) (hm 4) (hm 5) 0 aSm' aLn aAt aWe aRm aBm' aHa aS' aSv' aCm aRd aBy')) (ws' := ((ho, .inl (cL, 1, .inr (.inl (vp_updL oF 0 (r : Int32).toInt64)))) :: (wX7 cI cS hh vCar' vGoa' vEag tN' tF' cN cF mP' mS kCap' kGap' kCar' kCop' kGro' kShr bN bF rCmd rLet rNum fCap fGap fCar fCop fGro fShr hX' hC' hR' ++ wX8 cI (hm 0) (hm 1) (hm 2) (hm 3) (hm 4) (hm 5) 0 aSm' aLn aAt aWe aRm aBm' aHa aS' aSv' aCm aRd aBy'))) hx hb hml hown hg hK hP hD hS hA hl.1 (k_X8_thrown l D cI cS cL Z (hm 0) (hm 1) (hm 2) (hm 3) (hm 4) (hm 5) 0 aSm' aLn aAt aWe aRm aBm' aHa aS' aSv' aCm aRd aBy' (r := 0) rfl) gm_X8_thrown gw_980 ⟨rfl, rfl, by decide, by decide⟩ ⟨by show 100 + k + 1 ≤ 601024; omega, by show 6000 + 6 * k + 6 ≤ 7293033; omega⟩ pm_l2 pm_l2 rfl rfl rfl rfl rfl rfl (Nat.le_of_ble_eq_true rfl) dL_law_246 (fun H locs hP hD hS => ?_)
    refine lv_iload hx hb dL_law_249 (lv_at hl 1 rfl) ?_
    refine lv_icmp_eq (tgt := 256) hx hb dL_law_251 (by decide) (fun _ => ?_) (fun q => absurd rfl q)
    refine lv_iload hx hb dL_law_256 (lv_at hl 1 rfl) ?_
    refine lv_if_ne (tgt := 273) hx hb dL_law_258 (by decide) (fun q => absurd rfl q) (fun _ => ?_)
    refine lv_aload_n hx hb dL_law_261 rfl (lv_at hl 6 rfl) ?_
    refine lv_iconst (v := 0) hx hb dL_law_262 (by decide) ?_
    refine va_lald hx hb hK.1 hP 0 2 rfl rfl (i := 0) (vp_in_nI (n := 0) (by decide) (by decide)) dL_law_263 ?_
    refine nm_l (y := vp_updL oF 0 (r : Int32).toInt64 0) rfl ?_
    refine lv_iload hx hb dL_law_264 (lv_at hl 0 rfl) ?_
    refine lv_i2l (v := (r : Int32).toInt64) hx hb dL_law_266 rfl ?_
    refine W.lcmp hx hb dL_law_267 ?_
    refine nm_i (y := 0) cmp_same.symm ?_
    refine lv_if_eq (tgt := 273) hx hb dL_law_268 (by decide) (fun _ => ?_) (fun q => absurd rfl q)
    refine lv_goto (tgt := 1867) hx hb dL_law_273 (by decide) ?_
    refine lv_iinc (v := nI (3 * (k + 1))) (lv' := [(4, .int (nI (3 * (k + 1)))), (6, .int r), (5, .int 0), (0, .ref b), (1, .ref (hh 0)), (2, .ref (hm 0)), (3, .ref ho)]) hx hb dL_law_1867 hl (k := 2) rfl (it_3 k) (by decide) rfl (fun ls hl => ?_)
    refine lv_goto (tgt := 23) hx hb dL_law_1870 (by decide) ?_
    refine W.widen (k := 100 + (k + 1)) (n := 6000 + 6 * (k + 1)) (by omega) (by omega) ?_
    exact IH (vCar') (vGoa') vEag (tN') (tF') cN cF (mP') mS (kCap') (kGap') (kCar') (kCop') (kGro') kShr bN bF rCmd rLet rNum fCap fGap fCar fCop fGro fShr (hX') (hC') (hR') 0 (aSm') aLn aAt aWe aRm (aBm') aHa (aS') (aSv') aCm aRd (aBy') (vp_updL oF 0 (r : Int32).toInt64) hRel H locs hP hD hS ls (lv_sub hl [0, 3, 4, 5, 6] rfl)
  · skip
    refine lv_aload_n hx hb dL_law_220 rfl (lv_at hl 2 rfl) ?_
    refine lv_aload_n hx hb dL_law_221 rfl (lv_at hl 1 rfl) ?_
    refine lv_iload hx hb dL_law_222 (lv_at hl 0 rfl) ?_
    refine lv_iconst (v := 1) hx hb dL_law_224 (by decide) ?_
    refine lv_iadd hx hb dL_law_225 ?_
    refine nm_i (y := nI (3 * k + 1)) (nI_1 (3 * k)).symm ?_
    refine va_sld hx hb hXs hbl hbA hS (vp_in_nI (n := 3 * k + 1) (by omega) (by omega)) dL_law_226 ?_
    refine nm_i ea1 ?_
    refine lv_aload_n hx hb dL_law_227 rfl (lv_at hl 4 rfl) ?_
    refine cW_i (As := [.ref (hh 0), .int a1, .ref ho]) (rest := []) (wc := ((ho, .inl (cL, 1, .inr (.inl oF))) :: wX7 cI cS hh vCar vGoa vEag tN tF cN cF mP mS kCap kGap kCar kCop kGro kShr bN bF rCmd rLet rNum fCap fGap fCar fCop fGro fShr hX hC hR)) (wc' := ((ho, .inl (cL, 1, .inr (.inl oF))) :: wX7 cI cS hh vCar vGoa vEag tN tF cN cF mP mS kCap kGap kCar kCop kGro kShr bN bF rCmd rLet rNum fCap fGap fCar fCop fGro fShr hX hC hR)) (ws' := ((ho, .inl (cL, 1, .inr (.inl oF))) :: (wX7 cI cS hh vCar vGoa vEag tN tF cN cF mP mS kCap kGap kCar kCop kGro kShr bN bF rCmd rLet rNum fCap fGap fCar fCop fGro fShr hX hC hR ++ wX8 cI (hm 0) (hm 1) (hm 2) (hm 3) (hm 4) (hm 5) aTh aSm aLn aAt aWe aRm aBm aHa aS aSv aCm aRd aBy))) hx hb hml hown hg hK hP hD hS hA hl.1 hZ (t1_L_type l hlt D cI cS cL Z hh ho a1 vCar vGoa vEag tN tF cN cF mP mS kCap kGap kCar kCop kGro kShr bN bF rCmd rLet rNum fCap fGap fCar fCop fGro fShr hX hC hR oF e7) gww_L_type gw_489 ⟨rfl, rfl, by decide, by decide⟩ ⟨by show 100 + k + 1 ≤ 601024; omega, by show 6000 + 6 * k + 6 ≤ 7293033; omega⟩ pm_l0 pm_l0 (congrArg (List.cons ho) fst_X7) rfl rfl (Nat.le_of_ble_eq_true rfl) dL_law_228 (fun H locs hP hD hS => ?_)
    refine lv_istore (lv' := [(5, .int 1), (4, .int (nI (3 * k))), (0, .ref b), (1, .ref (hh 0)), (2, .ref (hm 0)), (3, .ref ho)]) hx hb dL_law_231 hl (by decide) rfl (fun ls hl => ?_)
    refine lv_aload_n hx hb dL_law_233 rfl (lv_at hl 4 rfl) ?_
    refine lv_aload_n hx hb dL_law_234 rfl (lv_at hl 2 rfl) ?_
    refine lv_iload hx hb dL_law_235 (lv_at hl 1 rfl) ?_
    refine lv_iconst (v := 1) hx hb dL_law_237 (by decide) ?_
    refine lv_iadd hx hb dL_law_238 ?_
    refine nm_i (y := nI (3 * k + 1)) (nI_1 (3 * k)).symm ?_
    refine va_sld hx hb hXs hbl hbA hS (vp_in_nI (n := 3 * k + 1) (by omega) (by omega)) dL_law_239 ?_
    refine nm_i ea1 ?_
    refine cP_i (As := [.int a1]) (rest := []) (wc := (wX8 cI (hm 0) (hm 1) (hm 2) (hm 3) (hm 4) (hm 5) aTh aSm aLn aAt aWe aRm aBm aHa aS aSv aCm aRd aBy)) (wc' := (wX8 cI (hm 0) (hm 1) (hm 2) (hm 3) (hm 4) (hm 5) 1 aSm' aLn aAt aWe aRm aBm' aHa aS' aSv' aCm aRd aBy')) (ws' := ((ho, .inl (cL, 1, .inr (.inl oF))) :: (wX7 cI cS hh vCar vGoa vEag tN tF cN cF mP mS kCap kGap kCar kCop kGro kShr bN bF rCmd rLet rNum fCap fGap fCar fCop fGro fShr hX hC hR ++ wX8 cI (hm 0) (hm 1) (hm 2) (hm 3) (hm 4) (hm 5) 1 aSm' aLn aAt aWe aRm aBm' aHa aS' aSv' aCm aRd aBy'))) hx hb hml hown hg hK hP hD hS hA hl.1 (k_X8_type l D cI cS cL Z (hm 0) (hm 1) (hm 2) (hm 3) (hm 4) (hm 5) a1 aTh aSm aLn aAt aWe aRm aBm aHa aS aSv aCm aRd aBy e8) gm_X8_type gw_984 ⟨rfl, rfl, by decide, by decide⟩ ⟨by show 100 + k + 1 ≤ 601024; omega, by show 6000 + 6 * k + 6 ≤ 7293033; omega⟩ pm_l2 pm_l2 fst_X8 rfl rfl rfl rfl rfl (Nat.le_of_ble_eq_true rfl) dL_law_240 (fun H locs hP hD hS => ?_)
    refine lv_istore (lv' := [(6, .int r), (5, .int 1), (4, .int (nI (3 * k))), (0, .ref b), (1, .ref (hh 0)), (2, .ref (hm 0)), (3, .ref ho)]) hx hb dL_law_243 hl (by decide) rfl (fun ls hl => ?_)
    refine lv_aload_n hx hb dL_law_245 rfl (lv_at hl 5 rfl) ?_
    refine cP_i (As := []) (rest := []) (wc := (wX8 cI (hm 0) (hm 1) (hm 2) (hm 3) (hm 4) (hm 5) 1 aSm' aLn aAt aWe aRm aBm' aHa aS' aSv' aCm aRd aBy')) (wc' := (wX8 cI (hm 0) (hm 1) (hm 2) (hm 3) (hm 4) (hm 5) 1 aSm' aLn aAt aWe aRm aBm' aHa aS' aSv' aCm aRd aBy')) (ws' := ((ho, .inl (cL, 1, .inr (.inl oF))) :: (wX7 cI cS hh vCar vGoa vEag tN tF cN cF mP mS kCap kGap kCar kCop kGro kShr bN bF rCmd rLet rNum fCap fGap fCar fCop fGro fShr hX hC hR ++ wX8 cI (hm 0) (hm 1) (hm 2) (hm 3) (hm 4) (hm 5) 1 aSm' aLn aAt aWe aRm aBm' aHa aS' aSv' aCm aRd aBy'))) hx hb hml hown hg hK hP hD hS hA hl.1 (k_X8_thrown l D cI cS cL Z (hm 0) (hm 1) (hm 2) (hm 3) (hm 4) (hm 5) 1 aSm' aLn aAt aWe aRm aBm' aHa aS' aSv' aCm aRd aBy' (r := 1) rfl) gm_X8_thrown gw_980 ⟨rfl, rfl, by decide, by decide⟩ ⟨by show 100 + k + 1 ≤ 601024; omega, by show 6000 + 6 * k + 6 ≤ 7293033; omega⟩ pm_l2 pm_l2 rfl rfl rfl rfl rfl rfl (Nat.le_of_ble_eq_true rfl) dL_law_246 (fun H locs hP hD hS => ?_)
    refine lv_iload hx hb dL_law_249 (lv_at hl 1 rfl) ?_
    refine lv_icmp_eq (tgt := 256) hx hb dL_law_251 (by decide) (fun _ => ?_) (fun q => absurd rfl q)
    refine lv_iload hx hb dL_law_256 (lv_at hl 1 rfl) ?_
    refine lv_if_ne (tgt := 273) hx hb dL_law_258 (by decide) (fun _ => ?_) (fun q => absurd q (by decide))
    refine lv_goto (tgt := 1867) hx hb dL_law_273 (by decide) ?_
    refine lv_iinc (v := nI (3 * (k + 1))) (lv' := [(4, .int (nI (3 * (k + 1)))), (6, .int r), (5, .int 1), (0, .ref b), (1, .ref (hh 0)), (2, .ref (hm 0)), (3, .ref ho)]) hx hb dL_law_1867 hl (k := 2) rfl (it_3 k) (by decide) rfl (fun ls hl => ?_)
    refine lv_goto (tgt := 23) hx hb dL_law_1870 (by decide) ?_
    refine W.widen (k := 100 + (k + 1)) (n := 6000 + 6 * (k + 1)) (by omega) (by omega) ?_
    exact IH vCar vGoa vEag tN tF cN cF mP mS kCap kGap kCar kCop kGro kShr bN bF rCmd rLet rNum fCap fGap fCar fCop fGro fShr hX hC hR 1 (aSm') aLn aAt aWe aRm (aBm') aHa (aS') (aSv') aCm aRd (aBy') oF hRel H locs hP hD hS ls (lv_sub hl [0, 3, 4, 5, 6] rfl)
  · skip
    refine lv_aload_n hx hb dL_law_220 rfl (lv_at hl 2 rfl) ?_
    refine lv_aload_n hx hb dL_law_221 rfl (lv_at hl 1 rfl) ?_
    refine lv_iload hx hb dL_law_222 (lv_at hl 0 rfl) ?_
    refine lv_iconst (v := 1) hx hb dL_law_224 (by decide) ?_
    refine lv_iadd hx hb dL_law_225 ?_
    refine nm_i (y := nI (3 * k + 1)) (nI_1 (3 * k)).symm ?_
    refine va_sld hx hb hXs hbl hbA hS (vp_in_nI (n := 3 * k + 1) (by omega) (by omega)) dL_law_226 ?_
    refine nm_i ea1 ?_
    refine lv_aload_n hx hb dL_law_227 rfl (lv_at hl 4 rfl) ?_
    refine cW_i (As := [.ref (hh 0), .int a1, .ref ho]) (rest := []) (wc := ((ho, .inl (cL, 1, .inr (.inl oF))) :: wX7 cI cS hh vCar vGoa vEag tN tF cN cF mP mS kCap kGap kCar kCop kGro kShr bN bF rCmd rLet rNum fCap fGap fCar fCop fGro fShr hX hC hR)) (wc' := ((ho, .inl (cL, 1, .inr (.inl oF))) :: wX7 cI cS hh vCar vGoa vEag tN tF cN cF mP mS kCap kGap kCar kCop kGro kShr bN bF rCmd rLet rNum fCap fGap fCar fCop fGro fShr hX hC hR)) (ws' := ((ho, .inl (cL, 1, .inr (.inl oF))) :: (wX7 cI cS hh vCar vGoa vEag tN tF cN cF mP mS kCap kGap kCar kCop kGro kShr bN bF rCmd rLet rNum fCap fGap fCar fCop fGro fShr hX hC hR ++ wX8 cI (hm 0) (hm 1) (hm 2) (hm 3) (hm 4) (hm 5) aTh aSm aLn aAt aWe aRm aBm aHa aS aSv aCm aRd aBy))) hx hb hml hown hg hK hP hD hS hA hl.1 hZ (t2_L_type l hlt D cI cS cL Z hh ho a1 vCar vGoa vEag tN tF cN cF mP mS kCap kGap kCar kCop kGro kShr bN bF rCmd rLet rNum fCap fGap fCar fCop fGro fShr hX hC hR oF e7) gww_L_type gw_489 ⟨rfl, rfl, by decide, by decide⟩ ⟨by show 100 + k + 1 ≤ 601024; omega, by show 6000 + 6 * k + 6 ≤ 7293033; omega⟩ pm_l0 pm_l0 (congrArg (List.cons ho) fst_X7) rfl rfl (Nat.le_of_ble_eq_true rfl) dL_law_228 (fun H locs hP hD hS => ?_)
    refine lv_istore (lv' := [(5, .int 2), (4, .int (nI (3 * k))), (0, .ref b), (1, .ref (hh 0)), (2, .ref (hm 0)), (3, .ref ho)]) hx hb dL_law_231 hl (by decide) rfl (fun ls hl => ?_)
    refine lv_aload_n hx hb dL_law_233 rfl (lv_at hl 4 rfl) ?_
    refine lv_aload_n hx hb dL_law_234 rfl (lv_at hl 2 rfl) ?_
    refine lv_iload hx hb dL_law_235 (lv_at hl 1 rfl) ?_
    refine lv_iconst (v := 1) hx hb dL_law_237 (by decide) ?_
    refine lv_iadd hx hb dL_law_238 ?_
    refine nm_i (y := nI (3 * k + 1)) (nI_1 (3 * k)).symm ?_
    refine va_sld hx hb hXs hbl hbA hS (vp_in_nI (n := 3 * k + 1) (by omega) (by omega)) dL_law_239 ?_
    refine nm_i ea1 ?_
    refine cP_i (As := [.int a1]) (rest := []) (wc := (wX8 cI (hm 0) (hm 1) (hm 2) (hm 3) (hm 4) (hm 5) aTh aSm aLn aAt aWe aRm aBm aHa aS aSv aCm aRd aBy)) (wc' := (wX8 cI (hm 0) (hm 1) (hm 2) (hm 3) (hm 4) (hm 5) 2 aSm' aLn aAt aWe aRm aBm' aHa aS' aSv' aCm aRd aBy')) (ws' := ((ho, .inl (cL, 1, .inr (.inl oF))) :: (wX7 cI cS hh vCar vGoa vEag tN tF cN cF mP mS kCap kGap kCar kCop kGro kShr bN bF rCmd rLet rNum fCap fGap fCar fCop fGro fShr hX hC hR ++ wX8 cI (hm 0) (hm 1) (hm 2) (hm 3) (hm 4) (hm 5) 2 aSm' aLn aAt aWe aRm aBm' aHa aS' aSv' aCm aRd aBy'))) hx hb hml hown hg hK hP hD hS hA hl.1 (k_X8_type l D cI cS cL Z (hm 0) (hm 1) (hm 2) (hm 3) (hm 4) (hm 5) a1 aTh aSm aLn aAt aWe aRm aBm aHa aS aSv aCm aRd aBy e8) gm_X8_type gw_984 ⟨rfl, rfl, by decide, by decide⟩ ⟨by show 100 + k + 1 ≤ 601024; omega, by show 6000 + 6 * k + 6 ≤ 7293033; omega⟩ pm_l2 pm_l2 fst_X8 rfl rfl rfl rfl rfl (Nat.le_of_ble_eq_true rfl) dL_law_240 (fun H locs hP hD hS => ?_)
    refine lv_istore (lv' := [(6, .int r), (5, .int 2), (4, .int (nI (3 * k))), (0, .ref b), (1, .ref (hh 0)), (2, .ref (hm 0)), (3, .ref ho)]) hx hb dL_law_243 hl (by decide) rfl (fun ls hl => ?_)
    refine lv_aload_n hx hb dL_law_245 rfl (lv_at hl 5 rfl) ?_
    refine cP_i (As := []) (rest := []) (wc := (wX8 cI (hm 0) (hm 1) (hm 2) (hm 3) (hm 4) (hm 5) 2 aSm' aLn aAt aWe aRm aBm' aHa aS' aSv' aCm aRd aBy')) (wc' := (wX8 cI (hm 0) (hm 1) (hm 2) (hm 3) (hm 4) (hm 5) 2 aSm' aLn aAt aWe aRm aBm' aHa aS' aSv' aCm aRd aBy')) (ws' := ((ho, .inl (cL, 1, .inr (.inl oF))) :: (wX7 cI cS hh vCar vGoa vEag tN tF cN cF mP mS kCap kGap kCar kCop kGro kShr bN bF rCmd rLet rNum fCap fGap fCar fCop fGro fShr hX hC hR ++ wX8 cI (hm 0) (hm 1) (hm 2) (hm 3) (hm 4) (hm 5) 2 aSm' aLn aAt aWe aRm aBm' aHa aS' aSv' aCm aRd aBy'))) hx hb hml hown hg hK hP hD hS hA hl.1 (k_X8_thrown l D cI cS cL Z (hm 0) (hm 1) (hm 2) (hm 3) (hm 4) (hm 5) 2 aSm' aLn aAt aWe aRm aBm' aHa aS' aSv' aCm aRd aBy' (r := 2) rfl) gm_X8_thrown gw_980 ⟨rfl, rfl, by decide, by decide⟩ ⟨by show 100 + k + 1 ≤ 601024; omega, by show 6000 + 6 * k + 6 ≤ 7293033; omega⟩ pm_l2 pm_l2 rfl rfl rfl rfl rfl rfl (Nat.le_of_ble_eq_true rfl) dL_law_246 (fun H locs hP hD hS => ?_)
    refine lv_iload hx hb dL_law_249 (lv_at hl 1 rfl) ?_
    refine lv_icmp_eq (tgt := 256) hx hb dL_law_251 (by decide) (fun _ => ?_) (fun q => absurd rfl q)
    refine lv_iload hx hb dL_law_256 (lv_at hl 1 rfl) ?_
    refine lv_if_ne (tgt := 273) hx hb dL_law_258 (by decide) (fun _ => ?_) (fun q => absurd q (by decide))
    refine lv_goto (tgt := 1867) hx hb dL_law_273 (by decide) ?_
    refine lv_iinc (v := nI (3 * (k + 1))) (lv' := [(4, .int (nI (3 * (k + 1)))), (6, .int r), (5, .int 2), (0, .ref b), (1, .ref (hh 0)), (2, .ref (hm 0)), (3, .ref ho)]) hx hb dL_law_1867 hl (k := 2) rfl (it_3 k) (by decide) rfl (fun ls hl => ?_)
    refine lv_goto (tgt := 23) hx hb dL_law_1870 (by decide) ?_
    refine W.widen (k := 100 + (k + 1)) (n := 6000 + 6 * (k + 1)) (by omega) (by omega) ?_
    exact IH vCar vGoa vEag tN tF cN cF mP mS kCap kGap kCar kCop kGro kShr bN bF rCmd rLet rNum fCap fGap fCar fCop fGro fShr hX hC hR 2 (aSm') aLn aAt aWe aRm (aBm') aHa (aS') (aSv') aCm aRd (aBy') oF hRel H locs hP hD hS ls (lv_sub hl [0, 3, 4, 5, 6] rfl)
set_option maxRecDepth 100000 in
set_option maxHeartbeats 4000000 in
theorem law_c1 {p : Program} {e : Env} {s : State} {m : MethodId} {below : List Frame} {meth : Method} {c : Code} {l : Launch} (hlt : l.stackTraces = false) {D : va_G} {cI cS cL : ClassId} {b L : Nat} {xs : Nat → Int32} (C0 : lw_At p s m meth c b L xs) (hg : ∀ w ∈ GW, w.before #[Value.ref b] s = true) (hK : kk_ D cI cS cL s) (hZ : zz_ (fun q : Nat => s.heap.size ≤ q) s s.heap) (Z : Nat) (Rel : Int32 → Int32 → Int32 → Int32 → (Nat → Int32) → Int32 → (Nat → Int32) → (Nat → Int32) → (Nat → Int32) → Int32 → Int32 → Int32 → Int32 → Int32 → Int32 → Int32 → (Nat → Int32) → Int32 → Int32 → Int32 → Int32 → Int32 → Int32 → Int32 → Int32 → Int32 → Int32 → Int32 → (Nat → StT) → Int32 → Int32 → Int32 → Int32 → Int32 → Int32 → Int32 → Int64 → (Nat → Int32) → (Nat → Int32) → (Nat → Int32) → (Nat → Int32) → (Nat → Int32) → Prop) (pb : PB_fill Z Rel) (hh hm : Nat → Nat) (ho k : Nat) (hk : 3 * k + 2 < L) (hL : L ≤ 1536) (vCar : Int32) (vGoa : Int32) (vEag : Int32) (tN : Int32) (tF : Nat → Int32) (cN : Int32) (cF : Nat → Int32) (mP : Nat → Int32) (mS : Nat → Int32) (kCap : Int32) (kGap : Int32) (kCar : Int32) (kCop : Int32) (kGro : Int32) (kShr : Int32) (bN : Int32) (bF : Nat → Int32) (rCmd : Int32) (rLet : Int32) (rNum : Int32) (fCap : Int32) (fGap : Int32) (fCar : Int32) (fCop : Int32) (fGro : Int32) (fShr : Int32) (hX : Int32) (hC : Int32) (hR : Nat → StT) (aTh : Int32) (aSm : Int32) (aLn : Int32) (aAt : Int32) (aWe : Int32) (aRm : Int32) (aBm : Int32) (aHa : Int64) (aS : Nat → Int32) (aSv : Nat → Int32) (aCm : Nat → Int32) (aRd : Nat → Int32) (aBy : Nat → Int32) (oF : Nat → Int64) (hRel : Rel vCar vGoa vEag tN tF cN cF mP mS kCap kGap kCar kCop kGro kShr bN bF rCmd rLet rNum fCap fGap fCar fCop fGro fShr hX hC hR aTh aSm aLn aAt aWe aRm aBm aHa aS aSv aCm aRd aBy) (H : Heap) (locs : List Loc) (hP : va_P D vwCl (wLW cI cS cL hh hm ho vCar vGoa vEag tN tF cN cF mP mS kCap kGap kCar kCop kGro kShr bN bF rCmd rLet rNum fCap fGap fCar fCop fGro fShr hX hC hR aTh aSm aLn aAt aWe aRm aBm aHa aS aSv aCm aRd aBy oF) H) (hD : va_D (fun q : Nat => s.heap.size ≤ q) (wLW cI cS cL hh hm ho vCar vGoa vEag tN tF cN cF mP mS kCap kGap kCar kCop kGro kShr bN bF rCmd rLet rNum fCap fGap fCar fCop fGro fShr hX hC hR aTh aSm aLn aAt aWe aRm aBm aHa aS aSv aCm aRd aBy oF)) (hS : va_S (fun q : Nat => s.heap.size ≤ q) s.heap H locs) (ls : Array Slot) (hl : lv_has ls 7 [(4, .int (nI (3 * k))), (0, .ref b), (1, .ref (hh 0)), (2, .ref (hm 0)), (3, .ref ho)]) (IH : LH p l e s m b below meth c D cI cS cL hh hm ho (k + 1) Rel) : W p l e room_1 s m #[Value.ref b] below meth c H locs (100 + k) (6000 + 6 * k) (lw_Z below #[Value.ref b] s) (F0 m 276 ls []) := by
  obtain ⟨hx, hb, hr, hml, hown, hts, hXs, hbl, hlocks, hgv⟩ := C0
  have hown : s.vm.findClass RL = some m.cls := hown
  have hA : ∀ q : Nat, s.heap.size ≤ q → (fun q : Nat => s.heap.size ≤ q) q := fun _ h => h
  have hbA : ¬ (fun q : Nat => s.heap.size ≤ q) b := Nat.not_le.mpr hbl
  obtain ⟨a1, ea1⟩ : ∃ y, y = xs (nI (3 * k + 1)).toNatClampNeg := ⟨_, rfl⟩
  obtain ⟨a2, ea2⟩ : ∃ y, y = xs (nI (3 * k + 2)).toNatClampNeg := ⟨_, rfl⟩
  rcases pb a1 a2 vCar vGoa vEag tN tF cN cF mP mS kCap kGap kCar kCop kGro kShr bN bF rCmd rLet rNum fCap fGap fCar fCop fGro fShr hX hC hR aTh aSm aLn aAt aWe aRm aBm aHa aS aSv aCm aRd aBy hRel with ⟨r, vCar', vGoa', tN', tF', mP', kCap', kGap', kCar', kCop', kGro', hX', hC', hR', aSm', aBm', aS', aSv', aBy', e7, e8, hRel⟩ | ⟨r, aSm', aBm', aS', aSv', aBy', e7, e8, hRel⟩ | ⟨r, aSm', aBm', aS', aSv', aBy', e7, e8, hRel⟩
  · skip
    refine lv_aload_n hx hb dL_law_276 rfl (lv_at hl 2 rfl) ?_
    refine lv_aload_n hx hb dL_law_277 rfl (lv_at hl 1 rfl) ?_
    refine lv_iload hx hb dL_law_278 (lv_at hl 0 rfl) ?_
    refine lv_iconst (v := 1) hx hb dL_law_280 (by decide) ?_
    refine lv_iadd hx hb dL_law_281 ?_
    refine nm_i (y := nI (3 * k + 1)) (nI_1 (3 * k)).symm ?_
    refine va_sld hx hb hXs hbl hbA hS (vp_in_nI (n := 3 * k + 1) (by omega) (by omega)) dL_law_282 ?_
    refine nm_i ea1 ?_
    refine lv_aload_n hx hb dL_law_283 rfl (lv_at hl 1 rfl) ?_
    refine lv_iload hx hb dL_law_284 (lv_at hl 0 rfl) ?_
    refine lv_iconst (v := 2) hx hb dL_law_286 (by decide) ?_
    refine lv_iadd hx hb dL_law_287 ?_
    refine nm_i (y := nI (3 * k + 2)) (nI_2 (3 * k)).symm ?_
    refine va_sld hx hb hXs hbl hbA hS (vp_in_nI (n := 3 * k + 2) (by omega) (by omega)) dL_law_288 ?_
    refine nm_i ea2 ?_
    refine lv_aload_n hx hb dL_law_289 rfl (lv_at hl 4 rfl) ?_
    refine cW_i (As := [.ref (hh 0), .int a1, .int a2, .ref ho]) (rest := []) (wc := ((ho, .inl (cL, 1, .inr (.inl oF))) :: wX7 cI cS hh vCar vGoa vEag tN tF cN cF mP mS kCap kGap kCar kCop kGro kShr bN bF rCmd rLet rNum fCap fGap fCar fCop fGro fShr hX hC hR)) (wc' := ((ho, .inl (cL, 1, .inr (.inl (vp_updL oF 0 (r : Int32).toInt64)))) :: wX7 cI cS hh vCar' vGoa' vEag tN' tF' cN cF mP' mS kCap' kGap' kCar' kCop' kGro' kShr bN bF rCmd rLet rNum fCap fGap fCar fCop fGro fShr hX' hC' hR')) (ws' := ((ho, .inl (cL, 1, .inr (.inl (vp_updL oF 0 (r : Int32).toInt64)))) :: (wX7 cI cS hh vCar' vGoa' vEag tN' tF' cN cF mP' mS kCap' kGap' kCar' kCop' kGro' kShr bN bF rCmd rLet rNum fCap fGap fCar fCop fGro fShr hX' hC' hR' ++ wX8 cI (hm 0) (hm 1) (hm 2) (hm 3) (hm 4) (hm 5) aTh aSm aLn aAt aWe aRm aBm aHa aS aSv aCm aRd aBy))) hx hb hml hown hg hK hP hD hS hA hl.1 hZ (k_L_fill l D cI cS cL Z hh ho a1 a2 vCar vGoa vEag tN tF cN cF mP mS kCap kGap kCar kCop kGro kShr bN bF rCmd rLet rNum fCap fGap fCar fCop fGro fShr hX hC hR oF e7) gww_L_fill gw_614 ⟨rfl, rfl, by decide, by decide⟩ ⟨by show 100 + k + 1 ≤ 601024; omega, by show 6000 + 6 * k + 6 ≤ 7293033; omega⟩ pm_l0 pm_l0 (congrArg (List.cons ho) fst_X7) rfl rfl (Nat.le_of_ble_eq_true rfl) dL_law_290 (fun H locs hP hD hS => ?_)
    refine lv_istore (lv' := [(5, .int 0), (4, .int (nI (3 * k))), (0, .ref b), (1, .ref (hh 0)), (2, .ref (hm 0)), (3, .ref ho)]) hx hb dL_law_293 hl (by decide) rfl (fun ls hl => ?_)
    refine lv_aload_n hx hb dL_law_295 rfl (lv_at hl 4 rfl) ?_
    refine lv_aload_n hx hb dL_law_296 rfl (lv_at hl 2 rfl) ?_
    refine lv_iload hx hb dL_law_297 (lv_at hl 1 rfl) ?_
    refine lv_iconst (v := 1) hx hb dL_law_299 (by decide) ?_
    refine lv_iadd hx hb dL_law_300 ?_
    refine nm_i (y := nI (3 * k + 1)) (nI_1 (3 * k)).symm ?_
    refine va_sld hx hb hXs hbl hbA hS (vp_in_nI (n := 3 * k + 1) (by omega) (by omega)) dL_law_301 ?_
    refine nm_i ea1 ?_
    refine lv_aload_n hx hb dL_law_302 rfl (lv_at hl 2 rfl) ?_
    refine lv_iload hx hb dL_law_303 (lv_at hl 1 rfl) ?_
    refine lv_iconst (v := 2) hx hb dL_law_305 (by decide) ?_
    refine lv_iadd hx hb dL_law_306 ?_
    refine nm_i (y := nI (3 * k + 2)) (nI_2 (3 * k)).symm ?_
    refine va_sld hx hb hXs hbl hbA hS (vp_in_nI (n := 3 * k + 2) (by omega) (by omega)) dL_law_307 ?_
    refine nm_i ea2 ?_
    refine cP_i (As := [.int a1, .int a2]) (rest := []) (wc := (wX8 cI (hm 0) (hm 1) (hm 2) (hm 3) (hm 4) (hm 5) aTh aSm aLn aAt aWe aRm aBm aHa aS aSv aCm aRd aBy)) (wc' := (wX8 cI (hm 0) (hm 1) (hm 2) (hm 3) (hm 4) (hm 5) 0 aSm' aLn aAt aWe aRm aBm' aHa aS' aSv' aCm aRd aBy')) (ws' := ((ho, .inl (cL, 1, .inr (.inl (vp_updL oF 0 (r : Int32).toInt64)))) :: (wX7 cI cS hh vCar' vGoa' vEag tN' tF' cN cF mP' mS kCap' kGap' kCar' kCop' kGro' kShr bN bF rCmd rLet rNum fCap fGap fCar fCop fGro fShr hX' hC' hR' ++ wX8 cI (hm 0) (hm 1) (hm 2) (hm 3) (hm 4) (hm 5) 0 aSm' aLn aAt aWe aRm aBm' aHa aS' aSv' aCm aRd aBy'))) hx hb hml hown hg hK hP hD hS hA hl.1 (k_X8_fill l D cI cS cL Z (hm 0) (hm 1) (hm 2) (hm 3) (hm 4) (hm 5) a1 a2 aTh aSm aLn aAt aWe aRm aBm aHa aS aSv aCm aRd aBy e8) gm_X8_fill gw_1037 ⟨rfl, rfl, by decide, by decide⟩ ⟨by show 100 + k + 1 ≤ 601024; omega, by show 6000 + 6 * k + 6 ≤ 7293033; omega⟩ pm_l2 pm_l2 fst_X8 rfl rfl rfl rfl rfl (Nat.le_of_ble_eq_true rfl) dL_law_308 (fun H locs hP hD hS => ?_)
    refine lv_istore (lv' := [(6, .int r), (5, .int 0), (4, .int (nI (3 * k))), (0, .ref b), (1, .ref (hh 0)), (2, .ref (hm 0)), (3, .ref ho)]) hx hb dL_law_311 hl (by decide) rfl (fun ls hl => ?_)
    refine lv_aload_n hx hb dL_law_313 rfl (lv_at hl 5 rfl) ?_
    refine cP_i (As := []) (rest := []) (wc := (wX8 cI (hm 0) (hm 1) (hm 2) (hm 3) (hm 4) (hm 5) 0 aSm' aLn aAt aWe aRm aBm' aHa aS' aSv' aCm aRd aBy')) (wc' := (wX8 cI (hm 0) (hm 1) (hm 2) (hm 3) (hm 4) (hm 5) 0 aSm' aLn aAt aWe aRm aBm' aHa aS' aSv' aCm aRd aBy')) (ws' := ((ho, .inl (cL, 1, .inr (.inl (vp_updL oF 0 (r : Int32).toInt64)))) :: (wX7 cI cS hh vCar' vGoa' vEag tN' tF' cN cF mP' mS kCap' kGap' kCar' kCop' kGro' kShr bN bF rCmd rLet rNum fCap fGap fCar fCop fGro fShr hX' hC' hR' ++ wX8 cI (hm 0) (hm 1) (hm 2) (hm 3) (hm 4) (hm 5) 0 aSm' aLn aAt aWe aRm aBm' aHa aS' aSv' aCm aRd aBy'))) hx hb hml hown hg hK hP hD hS hA hl.1 (k_X8_thrown l D cI cS cL Z (hm 0) (hm 1) (hm 2) (hm 3) (hm 4) (hm 5) 0 aSm' aLn aAt aWe aRm aBm' aHa aS' aSv' aCm aRd aBy' (r := 0) rfl) gm_X8_thrown gw_980 ⟨rfl, rfl, by decide, by decide⟩ ⟨by show 100 + k + 1 ≤ 601024; omega, by show 6000 + 6 * k + 6 ≤ 7293033; omega⟩ pm_l2 pm_l2 rfl rfl rfl rfl rfl rfl (Nat.le_of_ble_eq_true rfl) dL_law_314 (fun H locs hP hD hS => ?_)
    refine lv_iload hx hb dL_law_317 (lv_at hl 1 rfl) ?_
    refine lv_icmp_eq (tgt := 324) hx hb dL_law_319 (by decide) (fun _ => ?_) (fun q => absurd rfl q)
    refine lv_iload hx hb dL_law_324 (lv_at hl 1 rfl) ?_
    refine lv_if_ne (tgt := 341) hx hb dL_law_326 (by decide) (fun q => absurd rfl q) (fun _ => ?_)
    refine lv_aload_n hx hb dL_law_329 rfl (lv_at hl 6 rfl) ?_
    refine lv_iconst (v := 0) hx hb dL_law_330 (by decide) ?_
    refine va_lald hx hb hK.1 hP 0 2 rfl rfl (i := 0) (vp_in_nI (n := 0) (by decide) (by decide)) dL_law_331 ?_
    refine nm_l (y := vp_updL oF 0 (r : Int32).toInt64 0) rfl ?_
    refine lv_iload hx hb dL_law_332 (lv_at hl 0 rfl) ?_
    refine lv_i2l (v := (r : Int32).toInt64) hx hb dL_law_334 rfl ?_
    refine W.lcmp hx hb dL_law_335 ?_
    refine nm_i (y := 0) cmp_same.symm ?_
    refine lv_if_eq (tgt := 341) hx hb dL_law_336 (by decide) (fun _ => ?_) (fun q => absurd rfl q)
    refine lv_goto (tgt := 1867) hx hb dL_law_341 (by decide) ?_
    refine lv_iinc (v := nI (3 * (k + 1))) (lv' := [(4, .int (nI (3 * (k + 1)))), (6, .int r), (5, .int 0), (0, .ref b), (1, .ref (hh 0)), (2, .ref (hm 0)), (3, .ref ho)]) hx hb dL_law_1867 hl (k := 2) rfl (it_3 k) (by decide) rfl (fun ls hl => ?_)
    refine lv_goto (tgt := 23) hx hb dL_law_1870 (by decide) ?_
    refine W.widen (k := 100 + (k + 1)) (n := 6000 + 6 * (k + 1)) (by omega) (by omega) ?_
    exact IH (vCar') (vGoa') vEag (tN') (tF') cN cF (mP') mS (kCap') (kGap') (kCar') (kCop') (kGro') kShr bN bF rCmd rLet rNum fCap fGap fCar fCop fGro fShr (hX') (hC') (hR') 0 (aSm') aLn aAt aWe aRm (aBm') aHa (aS') (aSv') aCm aRd (aBy') (vp_updL oF 0 (r : Int32).toInt64) hRel H locs hP hD hS ls (lv_sub hl [0, 3, 4, 5, 6] rfl)
  · skip
    refine lv_aload_n hx hb dL_law_276 rfl (lv_at hl 2 rfl) ?_
    refine lv_aload_n hx hb dL_law_277 rfl (lv_at hl 1 rfl) ?_
    refine lv_iload hx hb dL_law_278 (lv_at hl 0 rfl) ?_
    refine lv_iconst (v := 1) hx hb dL_law_280 (by decide) ?_
    refine lv_iadd hx hb dL_law_281 ?_
    refine nm_i (y := nI (3 * k + 1)) (nI_1 (3 * k)).symm ?_
    refine va_sld hx hb hXs hbl hbA hS (vp_in_nI (n := 3 * k + 1) (by omega) (by omega)) dL_law_282 ?_
    refine nm_i ea1 ?_
    refine lv_aload_n hx hb dL_law_283 rfl (lv_at hl 1 rfl) ?_
    refine lv_iload hx hb dL_law_284 (lv_at hl 0 rfl) ?_
    refine lv_iconst (v := 2) hx hb dL_law_286 (by decide) ?_
    refine lv_iadd hx hb dL_law_287 ?_
    refine nm_i (y := nI (3 * k + 2)) (nI_2 (3 * k)).symm ?_
    refine va_sld hx hb hXs hbl hbA hS (vp_in_nI (n := 3 * k + 2) (by omega) (by omega)) dL_law_288 ?_
    refine nm_i ea2 ?_
    refine lv_aload_n hx hb dL_law_289 rfl (lv_at hl 4 rfl) ?_
    refine cW_i (As := [.ref (hh 0), .int a1, .int a2, .ref ho]) (rest := []) (wc := ((ho, .inl (cL, 1, .inr (.inl oF))) :: wX7 cI cS hh vCar vGoa vEag tN tF cN cF mP mS kCap kGap kCar kCop kGro kShr bN bF rCmd rLet rNum fCap fGap fCar fCop fGro fShr hX hC hR)) (wc' := ((ho, .inl (cL, 1, .inr (.inl oF))) :: wX7 cI cS hh vCar vGoa vEag tN tF cN cF mP mS kCap kGap kCar kCop kGro kShr bN bF rCmd rLet rNum fCap fGap fCar fCop fGro fShr hX hC hR)) (ws' := ((ho, .inl (cL, 1, .inr (.inl oF))) :: (wX7 cI cS hh vCar vGoa vEag tN tF cN cF mP mS kCap kGap kCar kCop kGro kShr bN bF rCmd rLet rNum fCap fGap fCar fCop fGro fShr hX hC hR ++ wX8 cI (hm 0) (hm 1) (hm 2) (hm 3) (hm 4) (hm 5) aTh aSm aLn aAt aWe aRm aBm aHa aS aSv aCm aRd aBy))) hx hb hml hown hg hK hP hD hS hA hl.1 hZ (t1_L_fill l hlt D cI cS cL Z hh ho a1 a2 vCar vGoa vEag tN tF cN cF mP mS kCap kGap kCar kCop kGro kShr bN bF rCmd rLet rNum fCap fGap fCar fCop fGro fShr hX hC hR oF e7) gww_L_fill gw_614 ⟨rfl, rfl, by decide, by decide⟩ ⟨by show 100 + k + 1 ≤ 601024; omega, by show 6000 + 6 * k + 6 ≤ 7293033; omega⟩ pm_l0 pm_l0 (congrArg (List.cons ho) fst_X7) rfl rfl (Nat.le_of_ble_eq_true rfl) dL_law_290 (fun H locs hP hD hS => ?_)
    refine lv_istore (lv' := [(5, .int 1), (4, .int (nI (3 * k))), (0, .ref b), (1, .ref (hh 0)), (2, .ref (hm 0)), (3, .ref ho)]) hx hb dL_law_293 hl (by decide) rfl (fun ls hl => ?_)
    refine lv_aload_n hx hb dL_law_295 rfl (lv_at hl 4 rfl) ?_
    refine lv_aload_n hx hb dL_law_296 rfl (lv_at hl 2 rfl) ?_
    refine lv_iload hx hb dL_law_297 (lv_at hl 1 rfl) ?_
    refine lv_iconst (v := 1) hx hb dL_law_299 (by decide) ?_
    refine lv_iadd hx hb dL_law_300 ?_
    refine nm_i (y := nI (3 * k + 1)) (nI_1 (3 * k)).symm ?_
    refine va_sld hx hb hXs hbl hbA hS (vp_in_nI (n := 3 * k + 1) (by omega) (by omega)) dL_law_301 ?_
    refine nm_i ea1 ?_
    refine lv_aload_n hx hb dL_law_302 rfl (lv_at hl 2 rfl) ?_
    refine lv_iload hx hb dL_law_303 (lv_at hl 1 rfl) ?_
    refine lv_iconst (v := 2) hx hb dL_law_305 (by decide) ?_
    refine lv_iadd hx hb dL_law_306 ?_
    refine nm_i (y := nI (3 * k + 2)) (nI_2 (3 * k)).symm ?_
    refine va_sld hx hb hXs hbl hbA hS (vp_in_nI (n := 3 * k + 2) (by omega) (by omega)) dL_law_307 ?_
    refine nm_i ea2 ?_
    refine cP_i (As := [.int a1, .int a2]) (rest := []) (wc := (wX8 cI (hm 0) (hm 1) (hm 2) (hm 3) (hm 4) (hm 5) aTh aSm aLn aAt aWe aRm aBm aHa aS aSv aCm aRd aBy)) (wc' := (wX8 cI (hm 0) (hm 1) (hm 2) (hm 3) (hm 4) (hm 5) 1 aSm' aLn aAt aWe aRm aBm' aHa aS' aSv' aCm aRd aBy')) (ws' := ((ho, .inl (cL, 1, .inr (.inl oF))) :: (wX7 cI cS hh vCar vGoa vEag tN tF cN cF mP mS kCap kGap kCar kCop kGro kShr bN bF rCmd rLet rNum fCap fGap fCar fCop fGro fShr hX hC hR ++ wX8 cI (hm 0) (hm 1) (hm 2) (hm 3) (hm 4) (hm 5) 1 aSm' aLn aAt aWe aRm aBm' aHa aS' aSv' aCm aRd aBy'))) hx hb hml hown hg hK hP hD hS hA hl.1 (k_X8_fill l D cI cS cL Z (hm 0) (hm 1) (hm 2) (hm 3) (hm 4) (hm 5) a1 a2 aTh aSm aLn aAt aWe aRm aBm aHa aS aSv aCm aRd aBy e8) gm_X8_fill gw_1037 ⟨rfl, rfl, by decide, by decide⟩ ⟨by show 100 + k + 1 ≤ 601024; omega, by show 6000 + 6 * k + 6 ≤ 7293033; omega⟩ pm_l2 pm_l2 fst_X8 rfl rfl rfl rfl rfl (Nat.le_of_ble_eq_true rfl) dL_law_308 (fun H locs hP hD hS => ?_)
    refine lv_istore (lv' := [(6, .int r), (5, .int 1), (4, .int (nI (3 * k))), (0, .ref b), (1, .ref (hh 0)), (2, .ref (hm 0)), (3, .ref ho)]) hx hb dL_law_311 hl (by decide) rfl (fun ls hl => ?_)
    refine lv_aload_n hx hb dL_law_313 rfl (lv_at hl 5 rfl) ?_
    refine cP_i (As := []) (rest := []) (wc := (wX8 cI (hm 0) (hm 1) (hm 2) (hm 3) (hm 4) (hm 5) 1 aSm' aLn aAt aWe aRm aBm' aHa aS' aSv' aCm aRd aBy')) (wc' := (wX8 cI (hm 0) (hm 1) (hm 2) (hm 3) (hm 4) (hm 5) 1 aSm' aLn aAt aWe aRm aBm' aHa aS' aSv' aCm aRd aBy')) (ws' := ((ho, .inl (cL, 1, .inr (.inl oF))) :: (wX7 cI cS hh vCar vGoa vEag tN tF cN cF mP mS kCap kGap kCar kCop kGro kShr bN bF rCmd rLet rNum fCap fGap fCar fCop fGro fShr hX hC hR ++ wX8 cI (hm 0) (hm 1) (hm 2) (hm 3) (hm 4) (hm 5) 1 aSm' aLn aAt aWe aRm aBm' aHa aS' aSv' aCm aRd aBy'))) hx hb hml hown hg hK hP hD hS hA hl.1 (k_X8_thrown l D cI cS cL Z (hm 0) (hm 1) (hm 2) (hm 3) (hm 4) (hm 5) 1 aSm' aLn aAt aWe aRm aBm' aHa aS' aSv' aCm aRd aBy' (r := 1) rfl) gm_X8_thrown gw_980 ⟨rfl, rfl, by decide, by decide⟩ ⟨by show 100 + k + 1 ≤ 601024; omega, by show 6000 + 6 * k + 6 ≤ 7293033; omega⟩ pm_l2 pm_l2 rfl rfl rfl rfl rfl rfl (Nat.le_of_ble_eq_true rfl) dL_law_314 (fun H locs hP hD hS => ?_)
    refine lv_iload hx hb dL_law_317 (lv_at hl 1 rfl) ?_
    refine lv_icmp_eq (tgt := 324) hx hb dL_law_319 (by decide) (fun _ => ?_) (fun q => absurd rfl q)
    refine lv_iload hx hb dL_law_324 (lv_at hl 1 rfl) ?_
    refine lv_if_ne (tgt := 341) hx hb dL_law_326 (by decide) (fun _ => ?_) (fun q => absurd q (by decide))
    refine lv_goto (tgt := 1867) hx hb dL_law_341 (by decide) ?_
    refine lv_iinc (v := nI (3 * (k + 1))) (lv' := [(4, .int (nI (3 * (k + 1)))), (6, .int r), (5, .int 1), (0, .ref b), (1, .ref (hh 0)), (2, .ref (hm 0)), (3, .ref ho)]) hx hb dL_law_1867 hl (k := 2) rfl (it_3 k) (by decide) rfl (fun ls hl => ?_)
    refine lv_goto (tgt := 23) hx hb dL_law_1870 (by decide) ?_
    refine W.widen (k := 100 + (k + 1)) (n := 6000 + 6 * (k + 1)) (by omega) (by omega) ?_
    exact IH vCar vGoa vEag tN tF cN cF mP mS kCap kGap kCar kCop kGro kShr bN bF rCmd rLet rNum fCap fGap fCar fCop fGro fShr hX hC hR 1 (aSm') aLn aAt aWe aRm (aBm') aHa (aS') (aSv') aCm aRd (aBy') oF hRel H locs hP hD hS ls (lv_sub hl [0, 3, 4, 5, 6] rfl)
  · skip
    refine lv_aload_n hx hb dL_law_276 rfl (lv_at hl 2 rfl) ?_
    refine lv_aload_n hx hb dL_law_277 rfl (lv_at hl 1 rfl) ?_
    refine lv_iload hx hb dL_law_278 (lv_at hl 0 rfl) ?_
    refine lv_iconst (v := 1) hx hb dL_law_280 (by decide) ?_
    refine lv_iadd hx hb dL_law_281 ?_
    refine nm_i (y := nI (3 * k + 1)) (nI_1 (3 * k)).symm ?_
    refine va_sld hx hb hXs hbl hbA hS (vp_in_nI (n := 3 * k + 1) (by omega) (by omega)) dL_law_282 ?_
    refine nm_i ea1 ?_
    refine lv_aload_n hx hb dL_law_283 rfl (lv_at hl 1 rfl) ?_
    refine lv_iload hx hb dL_law_284 (lv_at hl 0 rfl) ?_
    refine lv_iconst (v := 2) hx hb dL_law_286 (by decide) ?_
    refine lv_iadd hx hb dL_law_287 ?_
    refine nm_i (y := nI (3 * k + 2)) (nI_2 (3 * k)).symm ?_
    refine va_sld hx hb hXs hbl hbA hS (vp_in_nI (n := 3 * k + 2) (by omega) (by omega)) dL_law_288 ?_
    refine nm_i ea2 ?_
    refine lv_aload_n hx hb dL_law_289 rfl (lv_at hl 4 rfl) ?_
    refine cW_i (As := [.ref (hh 0), .int a1, .int a2, .ref ho]) (rest := []) (wc := ((ho, .inl (cL, 1, .inr (.inl oF))) :: wX7 cI cS hh vCar vGoa vEag tN tF cN cF mP mS kCap kGap kCar kCop kGro kShr bN bF rCmd rLet rNum fCap fGap fCar fCop fGro fShr hX hC hR)) (wc' := ((ho, .inl (cL, 1, .inr (.inl oF))) :: wX7 cI cS hh vCar vGoa vEag tN tF cN cF mP mS kCap kGap kCar kCop kGro kShr bN bF rCmd rLet rNum fCap fGap fCar fCop fGro fShr hX hC hR)) (ws' := ((ho, .inl (cL, 1, .inr (.inl oF))) :: (wX7 cI cS hh vCar vGoa vEag tN tF cN cF mP mS kCap kGap kCar kCop kGro kShr bN bF rCmd rLet rNum fCap fGap fCar fCop fGro fShr hX hC hR ++ wX8 cI (hm 0) (hm 1) (hm 2) (hm 3) (hm 4) (hm 5) aTh aSm aLn aAt aWe aRm aBm aHa aS aSv aCm aRd aBy))) hx hb hml hown hg hK hP hD hS hA hl.1 hZ (t2_L_fill l hlt D cI cS cL Z hh ho a1 a2 vCar vGoa vEag tN tF cN cF mP mS kCap kGap kCar kCop kGro kShr bN bF rCmd rLet rNum fCap fGap fCar fCop fGro fShr hX hC hR oF e7) gww_L_fill gw_614 ⟨rfl, rfl, by decide, by decide⟩ ⟨by show 100 + k + 1 ≤ 601024; omega, by show 6000 + 6 * k + 6 ≤ 7293033; omega⟩ pm_l0 pm_l0 (congrArg (List.cons ho) fst_X7) rfl rfl (Nat.le_of_ble_eq_true rfl) dL_law_290 (fun H locs hP hD hS => ?_)
    refine lv_istore (lv' := [(5, .int 2), (4, .int (nI (3 * k))), (0, .ref b), (1, .ref (hh 0)), (2, .ref (hm 0)), (3, .ref ho)]) hx hb dL_law_293 hl (by decide) rfl (fun ls hl => ?_)
    refine lv_aload_n hx hb dL_law_295 rfl (lv_at hl 4 rfl) ?_
    refine lv_aload_n hx hb dL_law_296 rfl (lv_at hl 2 rfl) ?_
    refine lv_iload hx hb dL_law_297 (lv_at hl 1 rfl) ?_
    refine lv_iconst (v := 1) hx hb dL_law_299 (by decide) ?_
    refine lv_iadd hx hb dL_law_300 ?_
    refine nm_i (y := nI (3 * k + 1)) (nI_1 (3 * k)).symm ?_
    refine va_sld hx hb hXs hbl hbA hS (vp_in_nI (n := 3 * k + 1) (by omega) (by omega)) dL_law_301 ?_
    refine nm_i ea1 ?_
    refine lv_aload_n hx hb dL_law_302 rfl (lv_at hl 2 rfl) ?_
    refine lv_iload hx hb dL_law_303 (lv_at hl 1 rfl) ?_
    refine lv_iconst (v := 2) hx hb dL_law_305 (by decide) ?_
    refine lv_iadd hx hb dL_law_306 ?_
    refine nm_i (y := nI (3 * k + 2)) (nI_2 (3 * k)).symm ?_
    refine va_sld hx hb hXs hbl hbA hS (vp_in_nI (n := 3 * k + 2) (by omega) (by omega)) dL_law_307 ?_
    refine nm_i ea2 ?_
    refine cP_i (As := [.int a1, .int a2]) (rest := []) (wc := (wX8 cI (hm 0) (hm 1) (hm 2) (hm 3) (hm 4) (hm 5) aTh aSm aLn aAt aWe aRm aBm aHa aS aSv aCm aRd aBy)) (wc' := (wX8 cI (hm 0) (hm 1) (hm 2) (hm 3) (hm 4) (hm 5) 2 aSm' aLn aAt aWe aRm aBm' aHa aS' aSv' aCm aRd aBy')) (ws' := ((ho, .inl (cL, 1, .inr (.inl oF))) :: (wX7 cI cS hh vCar vGoa vEag tN tF cN cF mP mS kCap kGap kCar kCop kGro kShr bN bF rCmd rLet rNum fCap fGap fCar fCop fGro fShr hX hC hR ++ wX8 cI (hm 0) (hm 1) (hm 2) (hm 3) (hm 4) (hm 5) 2 aSm' aLn aAt aWe aRm aBm' aHa aS' aSv' aCm aRd aBy'))) hx hb hml hown hg hK hP hD hS hA hl.1 (k_X8_fill l D cI cS cL Z (hm 0) (hm 1) (hm 2) (hm 3) (hm 4) (hm 5) a1 a2 aTh aSm aLn aAt aWe aRm aBm aHa aS aSv aCm aRd aBy e8) gm_X8_fill gw_1037 ⟨rfl, rfl, by decide, by decide⟩ ⟨by show 100 + k + 1 ≤ 601024; omega, by show 6000 + 6 * k + 6 ≤ 7293033; omega⟩ pm_l2 pm_l2 fst_X8 rfl rfl rfl rfl rfl (Nat.le_of_ble_eq_true rfl) dL_law_308 (fun H locs hP hD hS => ?_)
    refine lv_istore (lv' := [(6, .int r), (5, .int 2), (4, .int (nI (3 * k))), (0, .ref b), (1, .ref (hh 0)), (2, .ref (hm 0)), (3, .ref ho)]) hx hb dL_law_311 hl (by decide) rfl (fun ls hl => ?_)
    refine lv_aload_n hx hb dL_law_313 rfl (lv_at hl 5 rfl) ?_
    refine cP_i (As := []) (rest := []) (wc := (wX8 cI (hm 0) (hm 1) (hm 2) (hm 3) (hm 4) (hm 5) 2 aSm' aLn aAt aWe aRm aBm' aHa aS' aSv' aCm aRd aBy')) (wc' := (wX8 cI (hm 0) (hm 1) (hm 2) (hm 3) (hm 4) (hm 5) 2 aSm' aLn aAt aWe aRm aBm' aHa aS' aSv' aCm aRd aBy')) (ws' := ((ho, .inl (cL, 1, .inr (.inl oF))) :: (wX7 cI cS hh vCar vGoa vEag tN tF cN cF mP mS kCap kGap kCar kCop kGro kShr bN bF rCmd rLet rNum fCap fGap fCar fCop fGro fShr hX hC hR ++ wX8 cI (hm 0) (hm 1) (hm 2) (hm 3) (hm 4) (hm 5) 2 aSm' aLn aAt aWe aRm aBm' aHa aS' aSv' aCm aRd aBy'))) hx hb hml hown hg hK hP hD hS hA hl.1 (k_X8_thrown l D cI cS cL Z (hm 0) (hm 1) (hm 2) (hm 3) (hm 4) (hm 5) 2 aSm' aLn aAt aWe aRm aBm' aHa aS' aSv' aCm aRd aBy' (r := 2) rfl) gm_X8_thrown gw_980 ⟨rfl, rfl, by decide, by decide⟩ ⟨by show 100 + k + 1 ≤ 601024; omega, by show 6000 + 6 * k + 6 ≤ 7293033; omega⟩ pm_l2 pm_l2 rfl rfl rfl rfl rfl rfl (Nat.le_of_ble_eq_true rfl) dL_law_314 (fun H locs hP hD hS => ?_)
    refine lv_iload hx hb dL_law_317 (lv_at hl 1 rfl) ?_
    refine lv_icmp_eq (tgt := 324) hx hb dL_law_319 (by decide) (fun _ => ?_) (fun q => absurd rfl q)
    refine lv_iload hx hb dL_law_324 (lv_at hl 1 rfl) ?_
    refine lv_if_ne (tgt := 341) hx hb dL_law_326 (by decide) (fun _ => ?_) (fun q => absurd q (by decide))
    refine lv_goto (tgt := 1867) hx hb dL_law_341 (by decide) ?_
    refine lv_iinc (v := nI (3 * (k + 1))) (lv' := [(4, .int (nI (3 * (k + 1)))), (6, .int r), (5, .int 2), (0, .ref b), (1, .ref (hh 0)), (2, .ref (hm 0)), (3, .ref ho)]) hx hb dL_law_1867 hl (k := 2) rfl (it_3 k) (by decide) rfl (fun ls hl => ?_)
    refine lv_goto (tgt := 23) hx hb dL_law_1870 (by decide) ?_
    refine W.widen (k := 100 + (k + 1)) (n := 6000 + 6 * (k + 1)) (by omega) (by omega) ?_
    exact IH vCar vGoa vEag tN tF cN cF mP mS kCap kGap kCar kCop kGro kShr bN bF rCmd rLet rNum fCap fGap fCar fCop fGro fShr hX hC hR 2 (aSm') aLn aAt aWe aRm (aBm') aHa (aS') (aSv') aCm aRd (aBy') oF hRel H locs hP hD hS ls (lv_sub hl [0, 3, 4, 5, 6] rfl)
set_option maxRecDepth 100000 in
set_option maxHeartbeats 4000000 in
theorem law_c2 {p : Program} {e : Env} {s : State} {m : MethodId} {below : List Frame} {meth : Method} {c : Code} {l : Launch} (hlt : l.stackTraces = false) {D : va_G} {cI cS cL : ClassId} {b L : Nat} {xs : Nat → Int32} (C0 : lw_At p s m meth c b L xs) (hg : ∀ w ∈ GW, w.before #[Value.ref b] s = true) (hK : kk_ D cI cS cL s) (hZ : zz_ (fun q : Nat => s.heap.size ≤ q) s s.heap) (Z : Nat) (Rel : Int32 → Int32 → Int32 → Int32 → (Nat → Int32) → Int32 → (Nat → Int32) → (Nat → Int32) → (Nat → Int32) → Int32 → Int32 → Int32 → Int32 → Int32 → Int32 → Int32 → (Nat → Int32) → Int32 → Int32 → Int32 → Int32 → Int32 → Int32 → Int32 → Int32 → Int32 → Int32 → Int32 → (Nat → StT) → Int32 → Int32 → Int32 → Int32 → Int32 → Int32 → Int32 → Int64 → (Nat → Int32) → (Nat → Int32) → (Nat → Int32) → (Nat → Int32) → (Nat → Int32) → Prop) (pb : PB_erase Z Rel) (hh hm : Nat → Nat) (ho k : Nat) (hk : 3 * k + 2 < L) (hL : L ≤ 1536) (vCar : Int32) (vGoa : Int32) (vEag : Int32) (tN : Int32) (tF : Nat → Int32) (cN : Int32) (cF : Nat → Int32) (mP : Nat → Int32) (mS : Nat → Int32) (kCap : Int32) (kGap : Int32) (kCar : Int32) (kCop : Int32) (kGro : Int32) (kShr : Int32) (bN : Int32) (bF : Nat → Int32) (rCmd : Int32) (rLet : Int32) (rNum : Int32) (fCap : Int32) (fGap : Int32) (fCar : Int32) (fCop : Int32) (fGro : Int32) (fShr : Int32) (hX : Int32) (hC : Int32) (hR : Nat → StT) (aTh : Int32) (aSm : Int32) (aLn : Int32) (aAt : Int32) (aWe : Int32) (aRm : Int32) (aBm : Int32) (aHa : Int64) (aS : Nat → Int32) (aSv : Nat → Int32) (aCm : Nat → Int32) (aRd : Nat → Int32) (aBy : Nat → Int32) (oF : Nat → Int64) (hRel : Rel vCar vGoa vEag tN tF cN cF mP mS kCap kGap kCar kCop kGro kShr bN bF rCmd rLet rNum fCap fGap fCar fCop fGro fShr hX hC hR aTh aSm aLn aAt aWe aRm aBm aHa aS aSv aCm aRd aBy) (H : Heap) (locs : List Loc) (hP : va_P D vwCl (wLW cI cS cL hh hm ho vCar vGoa vEag tN tF cN cF mP mS kCap kGap kCar kCop kGro kShr bN bF rCmd rLet rNum fCap fGap fCar fCop fGro fShr hX hC hR aTh aSm aLn aAt aWe aRm aBm aHa aS aSv aCm aRd aBy oF) H) (hD : va_D (fun q : Nat => s.heap.size ≤ q) (wLW cI cS cL hh hm ho vCar vGoa vEag tN tF cN cF mP mS kCap kGap kCar kCop kGro kShr bN bF rCmd rLet rNum fCap fGap fCar fCop fGro fShr hX hC hR aTh aSm aLn aAt aWe aRm aBm aHa aS aSv aCm aRd aBy oF)) (hS : va_S (fun q : Nat => s.heap.size ≤ q) s.heap H locs) (ls : Array Slot) (hl : lv_has ls 7 [(4, .int (nI (3 * k))), (0, .ref b), (1, .ref (hh 0)), (2, .ref (hm 0)), (3, .ref ho)]) (IH : LH p l e s m b below meth c D cI cS cL hh hm ho (k + 1) Rel) : W p l e room_1 s m #[Value.ref b] below meth c H locs (100 + k) (6000 + 6 * k) (lw_Z below #[Value.ref b] s) (F0 m 344 ls []) := by
  obtain ⟨hx, hb, hr, hml, hown, hts, hXs, hbl, hlocks, hgv⟩ := C0
  have hown : s.vm.findClass RL = some m.cls := hown
  have hA : ∀ q : Nat, s.heap.size ≤ q → (fun q : Nat => s.heap.size ≤ q) q := fun _ h => h
  have hbA : ¬ (fun q : Nat => s.heap.size ≤ q) b := Nat.not_le.mpr hbl
  obtain ⟨a1, ea1⟩ : ∃ y, y = xs (nI (3 * k + 1)).toNatClampNeg := ⟨_, rfl⟩
  obtain ⟨a2, ea2⟩ : ∃ y, y = xs (nI (3 * k + 2)).toNatClampNeg := ⟨_, rfl⟩
  rcases pb a1 vCar vGoa vEag tN tF cN cF mP mS kCap kGap kCar kCop kGro kShr bN bF rCmd rLet rNum fCap fGap fCar fCop fGro fShr hX hC hR aTh aSm aLn aAt aWe aRm aBm aHa aS aSv aCm aRd aBy hRel with ⟨r, vCar', vGoa', tN', tF', mP', kCap', kGap', kCar', kCop', kShr', hX', hC', hR', aSm', aS', aSv', e7, e8, hRel⟩ | ⟨r, aSm', aS', aSv', e7, e8, hRel⟩
  · skip
    refine lv_aload_n hx hb dL_law_344 rfl (lv_at hl 2 rfl) ?_
    refine lv_aload_n hx hb dL_law_345 rfl (lv_at hl 1 rfl) ?_
    refine lv_iload hx hb dL_law_346 (lv_at hl 0 rfl) ?_
    refine lv_iconst (v := 1) hx hb dL_law_348 (by decide) ?_
    refine lv_iadd hx hb dL_law_349 ?_
    refine nm_i (y := nI (3 * k + 1)) (nI_1 (3 * k)).symm ?_
    refine va_sld hx hb hXs hbl hbA hS (vp_in_nI (n := 3 * k + 1) (by omega) (by omega)) dL_law_350 ?_
    refine nm_i ea1 ?_
    refine lv_aload_n hx hb dL_law_351 rfl (lv_at hl 4 rfl) ?_
    refine cW_i (As := [.ref (hh 0), .int a1, .ref ho]) (rest := []) (wc := ((ho, .inl (cL, 1, .inr (.inl oF))) :: wX7 cI cS hh vCar vGoa vEag tN tF cN cF mP mS kCap kGap kCar kCop kGro kShr bN bF rCmd rLet rNum fCap fGap fCar fCop fGro fShr hX hC hR)) (wc' := ((ho, .inl (cL, 1, .inr (.inl (vp_updL oF 0 (r : Int32).toInt64)))) :: wX7 cI cS hh vCar' vGoa' vEag tN' tF' cN cF mP' mS kCap' kGap' kCar' kCop' kGro kShr' bN bF rCmd rLet rNum fCap fGap fCar fCop fGro fShr hX' hC' hR')) (ws' := ((ho, .inl (cL, 1, .inr (.inl (vp_updL oF 0 (r : Int32).toInt64)))) :: (wX7 cI cS hh vCar' vGoa' vEag tN' tF' cN cF mP' mS kCap' kGap' kCar' kCop' kGro kShr' bN bF rCmd rLet rNum fCap fGap fCar fCop fGro fShr hX' hC' hR' ++ wX8 cI (hm 0) (hm 1) (hm 2) (hm 3) (hm 4) (hm 5) aTh aSm aLn aAt aWe aRm aBm aHa aS aSv aCm aRd aBy))) hx hb hml hown hg hK hP hD hS hA hl.1 hZ (k_L_erase l D cI cS cL Z hh ho a1 vCar vGoa vEag tN tF cN cF mP mS kCap kGap kCar kCop kGro kShr bN bF rCmd rLet rNum fCap fGap fCar fCop fGro fShr hX hC hR oF e7) gww_L_erase gw_624 ⟨rfl, rfl, by decide, by decide⟩ ⟨by show 100 + k + 1 ≤ 601024; omega, by show 6000 + 6 * k + 6 ≤ 7293033; omega⟩ pm_l0 pm_l0 (congrArg (List.cons ho) fst_X7) rfl rfl (Nat.le_of_ble_eq_true rfl) dL_law_352 (fun H locs hP hD hS => ?_)
    refine lv_istore (lv' := [(5, .int 0), (4, .int (nI (3 * k))), (0, .ref b), (1, .ref (hh 0)), (2, .ref (hm 0)), (3, .ref ho)]) hx hb dL_law_355 hl (by decide) rfl (fun ls hl => ?_)
    refine lv_aload_n hx hb dL_law_357 rfl (lv_at hl 4 rfl) ?_
    refine lv_aload_n hx hb dL_law_358 rfl (lv_at hl 2 rfl) ?_
    refine lv_iload hx hb dL_law_359 (lv_at hl 1 rfl) ?_
    refine lv_iconst (v := 1) hx hb dL_law_361 (by decide) ?_
    refine lv_iadd hx hb dL_law_362 ?_
    refine nm_i (y := nI (3 * k + 1)) (nI_1 (3 * k)).symm ?_
    refine va_sld hx hb hXs hbl hbA hS (vp_in_nI (n := 3 * k + 1) (by omega) (by omega)) dL_law_363 ?_
    refine nm_i ea1 ?_
    refine cP_i (As := [.int a1]) (rest := []) (wc := (wX8 cI (hm 0) (hm 1) (hm 2) (hm 3) (hm 4) (hm 5) aTh aSm aLn aAt aWe aRm aBm aHa aS aSv aCm aRd aBy)) (wc' := (wX8 cI (hm 0) (hm 1) (hm 2) (hm 3) (hm 4) (hm 5) 0 aSm' aLn aAt aWe aRm aBm aHa aS' aSv' aCm aRd aBy)) (ws' := ((ho, .inl (cL, 1, .inr (.inl (vp_updL oF 0 (r : Int32).toInt64)))) :: (wX7 cI cS hh vCar' vGoa' vEag tN' tF' cN cF mP' mS kCap' kGap' kCar' kCop' kGro kShr' bN bF rCmd rLet rNum fCap fGap fCar fCop fGro fShr hX' hC' hR' ++ wX8 cI (hm 0) (hm 1) (hm 2) (hm 3) (hm 4) (hm 5) 0 aSm' aLn aAt aWe aRm aBm aHa aS' aSv' aCm aRd aBy))) hx hb hml hown hg hK hP hD hS hA hl.1 (k_X8_erase l D cI cS cL Z (hm 0) (hm 1) (hm 2) (hm 3) (hm 4) (hm 5) a1 aTh aSm aLn aAt aWe aRm aBm aHa aS aSv aCm aRd aBy e8) gm_X8_erase gw_1041 ⟨rfl, rfl, by decide, by decide⟩ ⟨by show 100 + k + 1 ≤ 601024; omega, by show 6000 + 6 * k + 6 ≤ 7293033; omega⟩ pm_l2 pm_l2 fst_X8 rfl rfl rfl rfl rfl (Nat.le_of_ble_eq_true rfl) dL_law_364 (fun H locs hP hD hS => ?_)
    refine lv_istore (lv' := [(6, .int r), (5, .int 0), (4, .int (nI (3 * k))), (0, .ref b), (1, .ref (hh 0)), (2, .ref (hm 0)), (3, .ref ho)]) hx hb dL_law_367 hl (by decide) rfl (fun ls hl => ?_)
    refine lv_aload_n hx hb dL_law_369 rfl (lv_at hl 5 rfl) ?_
    refine cP_i (As := []) (rest := []) (wc := (wX8 cI (hm 0) (hm 1) (hm 2) (hm 3) (hm 4) (hm 5) 0 aSm' aLn aAt aWe aRm aBm aHa aS' aSv' aCm aRd aBy)) (wc' := (wX8 cI (hm 0) (hm 1) (hm 2) (hm 3) (hm 4) (hm 5) 0 aSm' aLn aAt aWe aRm aBm aHa aS' aSv' aCm aRd aBy)) (ws' := ((ho, .inl (cL, 1, .inr (.inl (vp_updL oF 0 (r : Int32).toInt64)))) :: (wX7 cI cS hh vCar' vGoa' vEag tN' tF' cN cF mP' mS kCap' kGap' kCar' kCop' kGro kShr' bN bF rCmd rLet rNum fCap fGap fCar fCop fGro fShr hX' hC' hR' ++ wX8 cI (hm 0) (hm 1) (hm 2) (hm 3) (hm 4) (hm 5) 0 aSm' aLn aAt aWe aRm aBm aHa aS' aSv' aCm aRd aBy))) hx hb hml hown hg hK hP hD hS hA hl.1 (k_X8_thrown l D cI cS cL Z (hm 0) (hm 1) (hm 2) (hm 3) (hm 4) (hm 5) 0 aSm' aLn aAt aWe aRm aBm aHa aS' aSv' aCm aRd aBy (r := 0) rfl) gm_X8_thrown gw_980 ⟨rfl, rfl, by decide, by decide⟩ ⟨by show 100 + k + 1 ≤ 601024; omega, by show 6000 + 6 * k + 6 ≤ 7293033; omega⟩ pm_l2 pm_l2 rfl rfl rfl rfl rfl rfl (Nat.le_of_ble_eq_true rfl) dL_law_370 (fun H locs hP hD hS => ?_)
    refine lv_iload hx hb dL_law_373 (lv_at hl 1 rfl) ?_
    refine lv_icmp_eq (tgt := 380) hx hb dL_law_375 (by decide) (fun _ => ?_) (fun q => absurd rfl q)
    refine lv_iload hx hb dL_law_380 (lv_at hl 1 rfl) ?_
    refine lv_if_ne (tgt := 397) hx hb dL_law_382 (by decide) (fun q => absurd rfl q) (fun _ => ?_)
    refine lv_aload_n hx hb dL_law_385 rfl (lv_at hl 6 rfl) ?_
    refine lv_iconst (v := 0) hx hb dL_law_386 (by decide) ?_
    refine va_lald hx hb hK.1 hP 0 2 rfl rfl (i := 0) (vp_in_nI (n := 0) (by decide) (by decide)) dL_law_387 ?_
    refine nm_l (y := vp_updL oF 0 (r : Int32).toInt64 0) rfl ?_
    refine lv_iload hx hb dL_law_388 (lv_at hl 0 rfl) ?_
    refine lv_i2l (v := (r : Int32).toInt64) hx hb dL_law_390 rfl ?_
    refine W.lcmp hx hb dL_law_391 ?_
    refine nm_i (y := 0) cmp_same.symm ?_
    refine lv_if_eq (tgt := 397) hx hb dL_law_392 (by decide) (fun _ => ?_) (fun q => absurd rfl q)
    refine lv_goto (tgt := 1867) hx hb dL_law_397 (by decide) ?_
    refine lv_iinc (v := nI (3 * (k + 1))) (lv' := [(4, .int (nI (3 * (k + 1)))), (6, .int r), (5, .int 0), (0, .ref b), (1, .ref (hh 0)), (2, .ref (hm 0)), (3, .ref ho)]) hx hb dL_law_1867 hl (k := 2) rfl (it_3 k) (by decide) rfl (fun ls hl => ?_)
    refine lv_goto (tgt := 23) hx hb dL_law_1870 (by decide) ?_
    refine W.widen (k := 100 + (k + 1)) (n := 6000 + 6 * (k + 1)) (by omega) (by omega) ?_
    exact IH (vCar') (vGoa') vEag (tN') (tF') cN cF (mP') mS (kCap') (kGap') (kCar') (kCop') kGro (kShr') bN bF rCmd rLet rNum fCap fGap fCar fCop fGro fShr (hX') (hC') (hR') 0 (aSm') aLn aAt aWe aRm aBm aHa (aS') (aSv') aCm aRd aBy (vp_updL oF 0 (r : Int32).toInt64) hRel H locs hP hD hS ls (lv_sub hl [0, 3, 4, 5, 6] rfl)
  · skip
    refine lv_aload_n hx hb dL_law_344 rfl (lv_at hl 2 rfl) ?_
    refine lv_aload_n hx hb dL_law_345 rfl (lv_at hl 1 rfl) ?_
    refine lv_iload hx hb dL_law_346 (lv_at hl 0 rfl) ?_
    refine lv_iconst (v := 1) hx hb dL_law_348 (by decide) ?_
    refine lv_iadd hx hb dL_law_349 ?_
    refine nm_i (y := nI (3 * k + 1)) (nI_1 (3 * k)).symm ?_
    refine va_sld hx hb hXs hbl hbA hS (vp_in_nI (n := 3 * k + 1) (by omega) (by omega)) dL_law_350 ?_
    refine nm_i ea1 ?_
    refine lv_aload_n hx hb dL_law_351 rfl (lv_at hl 4 rfl) ?_
    refine cW_i (As := [.ref (hh 0), .int a1, .ref ho]) (rest := []) (wc := ((ho, .inl (cL, 1, .inr (.inl oF))) :: wX7 cI cS hh vCar vGoa vEag tN tF cN cF mP mS kCap kGap kCar kCop kGro kShr bN bF rCmd rLet rNum fCap fGap fCar fCop fGro fShr hX hC hR)) (wc' := ((ho, .inl (cL, 1, .inr (.inl oF))) :: wX7 cI cS hh vCar vGoa vEag tN tF cN cF mP mS kCap kGap kCar kCop kGro kShr bN bF rCmd rLet rNum fCap fGap fCar fCop fGro fShr hX hC hR)) (ws' := ((ho, .inl (cL, 1, .inr (.inl oF))) :: (wX7 cI cS hh vCar vGoa vEag tN tF cN cF mP mS kCap kGap kCar kCop kGro kShr bN bF rCmd rLet rNum fCap fGap fCar fCop fGro fShr hX hC hR ++ wX8 cI (hm 0) (hm 1) (hm 2) (hm 3) (hm 4) (hm 5) aTh aSm aLn aAt aWe aRm aBm aHa aS aSv aCm aRd aBy))) hx hb hml hown hg hK hP hD hS hA hl.1 hZ (t1_L_erase l hlt D cI cS cL Z hh ho a1 vCar vGoa vEag tN tF cN cF mP mS kCap kGap kCar kCop kGro kShr bN bF rCmd rLet rNum fCap fGap fCar fCop fGro fShr hX hC hR oF e7) gww_L_erase gw_624 ⟨rfl, rfl, by decide, by decide⟩ ⟨by show 100 + k + 1 ≤ 601024; omega, by show 6000 + 6 * k + 6 ≤ 7293033; omega⟩ pm_l0 pm_l0 (congrArg (List.cons ho) fst_X7) rfl rfl (Nat.le_of_ble_eq_true rfl) dL_law_352 (fun H locs hP hD hS => ?_)
    refine lv_istore (lv' := [(5, .int 1), (4, .int (nI (3 * k))), (0, .ref b), (1, .ref (hh 0)), (2, .ref (hm 0)), (3, .ref ho)]) hx hb dL_law_355 hl (by decide) rfl (fun ls hl => ?_)
    refine lv_aload_n hx hb dL_law_357 rfl (lv_at hl 4 rfl) ?_
    refine lv_aload_n hx hb dL_law_358 rfl (lv_at hl 2 rfl) ?_
    refine lv_iload hx hb dL_law_359 (lv_at hl 1 rfl) ?_
    refine lv_iconst (v := 1) hx hb dL_law_361 (by decide) ?_
    refine lv_iadd hx hb dL_law_362 ?_
    refine nm_i (y := nI (3 * k + 1)) (nI_1 (3 * k)).symm ?_
    refine va_sld hx hb hXs hbl hbA hS (vp_in_nI (n := 3 * k + 1) (by omega) (by omega)) dL_law_363 ?_
    refine nm_i ea1 ?_
    refine cP_i (As := [.int a1]) (rest := []) (wc := (wX8 cI (hm 0) (hm 1) (hm 2) (hm 3) (hm 4) (hm 5) aTh aSm aLn aAt aWe aRm aBm aHa aS aSv aCm aRd aBy)) (wc' := (wX8 cI (hm 0) (hm 1) (hm 2) (hm 3) (hm 4) (hm 5) 1 aSm' aLn aAt aWe aRm aBm aHa aS' aSv' aCm aRd aBy)) (ws' := ((ho, .inl (cL, 1, .inr (.inl oF))) :: (wX7 cI cS hh vCar vGoa vEag tN tF cN cF mP mS kCap kGap kCar kCop kGro kShr bN bF rCmd rLet rNum fCap fGap fCar fCop fGro fShr hX hC hR ++ wX8 cI (hm 0) (hm 1) (hm 2) (hm 3) (hm 4) (hm 5) 1 aSm' aLn aAt aWe aRm aBm aHa aS' aSv' aCm aRd aBy))) hx hb hml hown hg hK hP hD hS hA hl.1 (k_X8_erase l D cI cS cL Z (hm 0) (hm 1) (hm 2) (hm 3) (hm 4) (hm 5) a1 aTh aSm aLn aAt aWe aRm aBm aHa aS aSv aCm aRd aBy e8) gm_X8_erase gw_1041 ⟨rfl, rfl, by decide, by decide⟩ ⟨by show 100 + k + 1 ≤ 601024; omega, by show 6000 + 6 * k + 6 ≤ 7293033; omega⟩ pm_l2 pm_l2 fst_X8 rfl rfl rfl rfl rfl (Nat.le_of_ble_eq_true rfl) dL_law_364 (fun H locs hP hD hS => ?_)
    refine lv_istore (lv' := [(6, .int r), (5, .int 1), (4, .int (nI (3 * k))), (0, .ref b), (1, .ref (hh 0)), (2, .ref (hm 0)), (3, .ref ho)]) hx hb dL_law_367 hl (by decide) rfl (fun ls hl => ?_)
    refine lv_aload_n hx hb dL_law_369 rfl (lv_at hl 5 rfl) ?_
    refine cP_i (As := []) (rest := []) (wc := (wX8 cI (hm 0) (hm 1) (hm 2) (hm 3) (hm 4) (hm 5) 1 aSm' aLn aAt aWe aRm aBm aHa aS' aSv' aCm aRd aBy)) (wc' := (wX8 cI (hm 0) (hm 1) (hm 2) (hm 3) (hm 4) (hm 5) 1 aSm' aLn aAt aWe aRm aBm aHa aS' aSv' aCm aRd aBy)) (ws' := ((ho, .inl (cL, 1, .inr (.inl oF))) :: (wX7 cI cS hh vCar vGoa vEag tN tF cN cF mP mS kCap kGap kCar kCop kGro kShr bN bF rCmd rLet rNum fCap fGap fCar fCop fGro fShr hX hC hR ++ wX8 cI (hm 0) (hm 1) (hm 2) (hm 3) (hm 4) (hm 5) 1 aSm' aLn aAt aWe aRm aBm aHa aS' aSv' aCm aRd aBy))) hx hb hml hown hg hK hP hD hS hA hl.1 (k_X8_thrown l D cI cS cL Z (hm 0) (hm 1) (hm 2) (hm 3) (hm 4) (hm 5) 1 aSm' aLn aAt aWe aRm aBm aHa aS' aSv' aCm aRd aBy (r := 1) rfl) gm_X8_thrown gw_980 ⟨rfl, rfl, by decide, by decide⟩ ⟨by show 100 + k + 1 ≤ 601024; omega, by show 6000 + 6 * k + 6 ≤ 7293033; omega⟩ pm_l2 pm_l2 rfl rfl rfl rfl rfl rfl (Nat.le_of_ble_eq_true rfl) dL_law_370 (fun H locs hP hD hS => ?_)
    refine lv_iload hx hb dL_law_373 (lv_at hl 1 rfl) ?_
    refine lv_icmp_eq (tgt := 380) hx hb dL_law_375 (by decide) (fun _ => ?_) (fun q => absurd rfl q)
    refine lv_iload hx hb dL_law_380 (lv_at hl 1 rfl) ?_
    refine lv_if_ne (tgt := 397) hx hb dL_law_382 (by decide) (fun _ => ?_) (fun q => absurd q (by decide))
    refine lv_goto (tgt := 1867) hx hb dL_law_397 (by decide) ?_
    refine lv_iinc (v := nI (3 * (k + 1))) (lv' := [(4, .int (nI (3 * (k + 1)))), (6, .int r), (5, .int 1), (0, .ref b), (1, .ref (hh 0)), (2, .ref (hm 0)), (3, .ref ho)]) hx hb dL_law_1867 hl (k := 2) rfl (it_3 k) (by decide) rfl (fun ls hl => ?_)
    refine lv_goto (tgt := 23) hx hb dL_law_1870 (by decide) ?_
    refine W.widen (k := 100 + (k + 1)) (n := 6000 + 6 * (k + 1)) (by omega) (by omega) ?_
    exact IH vCar vGoa vEag tN tF cN cF mP mS kCap kGap kCar kCop kGro kShr bN bF rCmd rLet rNum fCap fGap fCar fCop fGro fShr hX hC hR 1 (aSm') aLn aAt aWe aRm aBm aHa (aS') (aSv') aCm aRd aBy oF hRel H locs hP hD hS ls (lv_sub hl [0, 3, 4, 5, 6] rfl)
set_option maxRecDepth 100000 in
set_option maxHeartbeats 4000000 in
theorem law_c3 {p : Program} {e : Env} {s : State} {m : MethodId} {below : List Frame} {meth : Method} {c : Code} {l : Launch} (hlt : l.stackTraces = false) {D : va_G} {cI cS cL : ClassId} {b L : Nat} {xs : Nat → Int32} (C0 : lw_At p s m meth c b L xs) (hg : ∀ w ∈ GW, w.before #[Value.ref b] s = true) (hK : kk_ D cI cS cL s) (hZ : zz_ (fun q : Nat => s.heap.size ≤ q) s s.heap) (Z : Nat) (Rel : Int32 → Int32 → Int32 → Int32 → (Nat → Int32) → Int32 → (Nat → Int32) → (Nat → Int32) → (Nat → Int32) → Int32 → Int32 → Int32 → Int32 → Int32 → Int32 → Int32 → (Nat → Int32) → Int32 → Int32 → Int32 → Int32 → Int32 → Int32 → Int32 → Int32 → Int32 → Int32 → Int32 → (Nat → StT) → Int32 → Int32 → Int32 → Int32 → Int32 → Int32 → Int32 → Int64 → (Nat → Int32) → (Nat → Int32) → (Nat → Int32) → (Nat → Int32) → (Nat → Int32) → Prop) (pb : PB_backspace Z Rel) (hh hm : Nat → Nat) (ho k : Nat) (hk : 3 * k + 2 < L) (hL : L ≤ 1536) (vCar : Int32) (vGoa : Int32) (vEag : Int32) (tN : Int32) (tF : Nat → Int32) (cN : Int32) (cF : Nat → Int32) (mP : Nat → Int32) (mS : Nat → Int32) (kCap : Int32) (kGap : Int32) (kCar : Int32) (kCop : Int32) (kGro : Int32) (kShr : Int32) (bN : Int32) (bF : Nat → Int32) (rCmd : Int32) (rLet : Int32) (rNum : Int32) (fCap : Int32) (fGap : Int32) (fCar : Int32) (fCop : Int32) (fGro : Int32) (fShr : Int32) (hX : Int32) (hC : Int32) (hR : Nat → StT) (aTh : Int32) (aSm : Int32) (aLn : Int32) (aAt : Int32) (aWe : Int32) (aRm : Int32) (aBm : Int32) (aHa : Int64) (aS : Nat → Int32) (aSv : Nat → Int32) (aCm : Nat → Int32) (aRd : Nat → Int32) (aBy : Nat → Int32) (oF : Nat → Int64) (hRel : Rel vCar vGoa vEag tN tF cN cF mP mS kCap kGap kCar kCop kGro kShr bN bF rCmd rLet rNum fCap fGap fCar fCop fGro fShr hX hC hR aTh aSm aLn aAt aWe aRm aBm aHa aS aSv aCm aRd aBy) (H : Heap) (locs : List Loc) (hP : va_P D vwCl (wLW cI cS cL hh hm ho vCar vGoa vEag tN tF cN cF mP mS kCap kGap kCar kCop kGro kShr bN bF rCmd rLet rNum fCap fGap fCar fCop fGro fShr hX hC hR aTh aSm aLn aAt aWe aRm aBm aHa aS aSv aCm aRd aBy oF) H) (hD : va_D (fun q : Nat => s.heap.size ≤ q) (wLW cI cS cL hh hm ho vCar vGoa vEag tN tF cN cF mP mS kCap kGap kCar kCop kGro kShr bN bF rCmd rLet rNum fCap fGap fCar fCop fGro fShr hX hC hR aTh aSm aLn aAt aWe aRm aBm aHa aS aSv aCm aRd aBy oF)) (hS : va_S (fun q : Nat => s.heap.size ≤ q) s.heap H locs) (ls : Array Slot) (hl : lv_has ls 7 [(4, .int (nI (3 * k))), (0, .ref b), (1, .ref (hh 0)), (2, .ref (hm 0)), (3, .ref ho)]) (IH : LH p l e s m b below meth c D cI cS cL hh hm ho (k + 1) Rel) : W p l e room_1 s m #[Value.ref b] below meth c H locs (100 + k) (6000 + 6 * k) (lw_Z below #[Value.ref b] s) (F0 m 400 ls []) := by
  obtain ⟨hx, hb, hr, hml, hown, hts, hXs, hbl, hlocks, hgv⟩ := C0
  have hown : s.vm.findClass RL = some m.cls := hown
  have hA : ∀ q : Nat, s.heap.size ≤ q → (fun q : Nat => s.heap.size ≤ q) q := fun _ h => h
  have hbA : ¬ (fun q : Nat => s.heap.size ≤ q) b := Nat.not_le.mpr hbl
  obtain ⟨a1, ea1⟩ : ∃ y, y = xs (nI (3 * k + 1)).toNatClampNeg := ⟨_, rfl⟩
  obtain ⟨a2, ea2⟩ : ∃ y, y = xs (nI (3 * k + 2)).toNatClampNeg := ⟨_, rfl⟩
  rcases pb a1 vCar vGoa vEag tN tF cN cF mP mS kCap kGap kCar kCop kGro kShr bN bF rCmd rLet rNum fCap fGap fCar fCop fGro fShr hX hC hR aTh aSm aLn aAt aWe aRm aBm aHa aS aSv aCm aRd aBy hRel with ⟨r, vCar', vGoa', tN', tF', mP', kCap', kGap', kCar', kCop', kShr', hX', hC', hR', aSm', aS', aSv', e7, e8, hRel⟩ | ⟨r, aSm', aS', aSv', e7, e8, hRel⟩
  · skip
    refine lv_aload_n hx hb dL_law_400 rfl (lv_at hl 2 rfl) ?_
    refine lv_aload_n hx hb dL_law_401 rfl (lv_at hl 1 rfl) ?_
    refine lv_iload hx hb dL_law_402 (lv_at hl 0 rfl) ?_
    refine lv_iconst (v := 1) hx hb dL_law_404 (by decide) ?_
    refine lv_iadd hx hb dL_law_405 ?_
    refine nm_i (y := nI (3 * k + 1)) (nI_1 (3 * k)).symm ?_
    refine va_sld hx hb hXs hbl hbA hS (vp_in_nI (n := 3 * k + 1) (by omega) (by omega)) dL_law_406 ?_
    refine nm_i ea1 ?_
    refine lv_aload_n hx hb dL_law_407 rfl (lv_at hl 4 rfl) ?_
    refine cW_i (As := [.ref (hh 0), .int a1, .ref ho]) (rest := []) (wc := ((ho, .inl (cL, 1, .inr (.inl oF))) :: wX7 cI cS hh vCar vGoa vEag tN tF cN cF mP mS kCap kGap kCar kCop kGro kShr bN bF rCmd rLet rNum fCap fGap fCar fCop fGro fShr hX hC hR)) (wc' := ((ho, .inl (cL, 1, .inr (.inl (vp_updL oF 0 (r : Int32).toInt64)))) :: wX7 cI cS hh vCar' vGoa' vEag tN' tF' cN cF mP' mS kCap' kGap' kCar' kCop' kGro kShr' bN bF rCmd rLet rNum fCap fGap fCar fCop fGro fShr hX' hC' hR')) (ws' := ((ho, .inl (cL, 1, .inr (.inl (vp_updL oF 0 (r : Int32).toInt64)))) :: (wX7 cI cS hh vCar' vGoa' vEag tN' tF' cN cF mP' mS kCap' kGap' kCar' kCop' kGro kShr' bN bF rCmd rLet rNum fCap fGap fCar fCop fGro fShr hX' hC' hR' ++ wX8 cI (hm 0) (hm 1) (hm 2) (hm 3) (hm 4) (hm 5) aTh aSm aLn aAt aWe aRm aBm aHa aS aSv aCm aRd aBy))) hx hb hml hown hg hK hP hD hS hA hl.1 hZ (k_L_backspace l D cI cS cL Z hh ho a1 vCar vGoa vEag tN tF cN cF mP mS kCap kGap kCar kCop kGro kShr bN bF rCmd rLet rNum fCap fGap fCar fCop fGro fShr hX hC hR oF e7) gww_L_backspace gw_656 ⟨rfl, rfl, by decide, by decide⟩ ⟨by show 100 + k + 1 ≤ 601024; omega, by show 6000 + 6 * k + 6 ≤ 7293033; omega⟩ pm_l0 pm_l0 (congrArg (List.cons ho) fst_X7) rfl rfl (Nat.le_of_ble_eq_true rfl) dL_law_408 (fun H locs hP hD hS => ?_)
    refine lv_istore (lv' := [(5, .int 0), (4, .int (nI (3 * k))), (0, .ref b), (1, .ref (hh 0)), (2, .ref (hm 0)), (3, .ref ho)]) hx hb dL_law_411 hl (by decide) rfl (fun ls hl => ?_)
    refine lv_aload_n hx hb dL_law_413 rfl (lv_at hl 4 rfl) ?_
    refine lv_aload_n hx hb dL_law_414 rfl (lv_at hl 2 rfl) ?_
    refine lv_iload hx hb dL_law_415 (lv_at hl 1 rfl) ?_
    refine lv_iconst (v := 1) hx hb dL_law_417 (by decide) ?_
    refine lv_iadd hx hb dL_law_418 ?_
    refine nm_i (y := nI (3 * k + 1)) (nI_1 (3 * k)).symm ?_
    refine va_sld hx hb hXs hbl hbA hS (vp_in_nI (n := 3 * k + 1) (by omega) (by omega)) dL_law_419 ?_
    refine nm_i ea1 ?_
    refine cP_i (As := [.int a1]) (rest := []) (wc := (wX8 cI (hm 0) (hm 1) (hm 2) (hm 3) (hm 4) (hm 5) aTh aSm aLn aAt aWe aRm aBm aHa aS aSv aCm aRd aBy)) (wc' := (wX8 cI (hm 0) (hm 1) (hm 2) (hm 3) (hm 4) (hm 5) 0 aSm' aLn aAt aWe aRm aBm aHa aS' aSv' aCm aRd aBy)) (ws' := ((ho, .inl (cL, 1, .inr (.inl (vp_updL oF 0 (r : Int32).toInt64)))) :: (wX7 cI cS hh vCar' vGoa' vEag tN' tF' cN cF mP' mS kCap' kGap' kCar' kCop' kGro kShr' bN bF rCmd rLet rNum fCap fGap fCar fCop fGro fShr hX' hC' hR' ++ wX8 cI (hm 0) (hm 1) (hm 2) (hm 3) (hm 4) (hm 5) 0 aSm' aLn aAt aWe aRm aBm aHa aS' aSv' aCm aRd aBy))) hx hb hml hown hg hK hP hD hS hA hl.1 (k_X8_backspace l D cI cS cL Z (hm 0) (hm 1) (hm 2) (hm 3) (hm 4) (hm 5) a1 aTh aSm aLn aAt aWe aRm aBm aHa aS aSv aCm aRd aBy e8) gm_X8_backspace gw_1053 ⟨rfl, rfl, by decide, by decide⟩ ⟨by show 100 + k + 1 ≤ 601024; omega, by show 6000 + 6 * k + 6 ≤ 7293033; omega⟩ pm_l2 pm_l2 fst_X8 rfl rfl rfl rfl rfl (Nat.le_of_ble_eq_true rfl) dL_law_420 (fun H locs hP hD hS => ?_)
    refine lv_istore (lv' := [(6, .int r), (5, .int 0), (4, .int (nI (3 * k))), (0, .ref b), (1, .ref (hh 0)), (2, .ref (hm 0)), (3, .ref ho)]) hx hb dL_law_423 hl (by decide) rfl (fun ls hl => ?_)
    refine lv_aload_n hx hb dL_law_425 rfl (lv_at hl 5 rfl) ?_
    refine cP_i (As := []) (rest := []) (wc := (wX8 cI (hm 0) (hm 1) (hm 2) (hm 3) (hm 4) (hm 5) 0 aSm' aLn aAt aWe aRm aBm aHa aS' aSv' aCm aRd aBy)) (wc' := (wX8 cI (hm 0) (hm 1) (hm 2) (hm 3) (hm 4) (hm 5) 0 aSm' aLn aAt aWe aRm aBm aHa aS' aSv' aCm aRd aBy)) (ws' := ((ho, .inl (cL, 1, .inr (.inl (vp_updL oF 0 (r : Int32).toInt64)))) :: (wX7 cI cS hh vCar' vGoa' vEag tN' tF' cN cF mP' mS kCap' kGap' kCar' kCop' kGro kShr' bN bF rCmd rLet rNum fCap fGap fCar fCop fGro fShr hX' hC' hR' ++ wX8 cI (hm 0) (hm 1) (hm 2) (hm 3) (hm 4) (hm 5) 0 aSm' aLn aAt aWe aRm aBm aHa aS' aSv' aCm aRd aBy))) hx hb hml hown hg hK hP hD hS hA hl.1 (k_X8_thrown l D cI cS cL Z (hm 0) (hm 1) (hm 2) (hm 3) (hm 4) (hm 5) 0 aSm' aLn aAt aWe aRm aBm aHa aS' aSv' aCm aRd aBy (r := 0) rfl) gm_X8_thrown gw_980 ⟨rfl, rfl, by decide, by decide⟩ ⟨by show 100 + k + 1 ≤ 601024; omega, by show 6000 + 6 * k + 6 ≤ 7293033; omega⟩ pm_l2 pm_l2 rfl rfl rfl rfl rfl rfl (Nat.le_of_ble_eq_true rfl) dL_law_426 (fun H locs hP hD hS => ?_)
    refine lv_iload hx hb dL_law_429 (lv_at hl 1 rfl) ?_
    refine lv_icmp_eq (tgt := 436) hx hb dL_law_431 (by decide) (fun _ => ?_) (fun q => absurd rfl q)
    refine lv_iload hx hb dL_law_436 (lv_at hl 1 rfl) ?_
    refine lv_if_ne (tgt := 453) hx hb dL_law_438 (by decide) (fun q => absurd rfl q) (fun _ => ?_)
    refine lv_aload_n hx hb dL_law_441 rfl (lv_at hl 6 rfl) ?_
    refine lv_iconst (v := 0) hx hb dL_law_442 (by decide) ?_
    refine va_lald hx hb hK.1 hP 0 2 rfl rfl (i := 0) (vp_in_nI (n := 0) (by decide) (by decide)) dL_law_443 ?_
    refine nm_l (y := vp_updL oF 0 (r : Int32).toInt64 0) rfl ?_
    refine lv_iload hx hb dL_law_444 (lv_at hl 0 rfl) ?_
    refine lv_i2l (v := (r : Int32).toInt64) hx hb dL_law_446 rfl ?_
    refine W.lcmp hx hb dL_law_447 ?_
    refine nm_i (y := 0) cmp_same.symm ?_
    refine lv_if_eq (tgt := 453) hx hb dL_law_448 (by decide) (fun _ => ?_) (fun q => absurd rfl q)
    refine lv_goto (tgt := 1867) hx hb dL_law_453 (by decide) ?_
    refine lv_iinc (v := nI (3 * (k + 1))) (lv' := [(4, .int (nI (3 * (k + 1)))), (6, .int r), (5, .int 0), (0, .ref b), (1, .ref (hh 0)), (2, .ref (hm 0)), (3, .ref ho)]) hx hb dL_law_1867 hl (k := 2) rfl (it_3 k) (by decide) rfl (fun ls hl => ?_)
    refine lv_goto (tgt := 23) hx hb dL_law_1870 (by decide) ?_
    refine W.widen (k := 100 + (k + 1)) (n := 6000 + 6 * (k + 1)) (by omega) (by omega) ?_
    exact IH (vCar') (vGoa') vEag (tN') (tF') cN cF (mP') mS (kCap') (kGap') (kCar') (kCop') kGro (kShr') bN bF rCmd rLet rNum fCap fGap fCar fCop fGro fShr (hX') (hC') (hR') 0 (aSm') aLn aAt aWe aRm aBm aHa (aS') (aSv') aCm aRd aBy (vp_updL oF 0 (r : Int32).toInt64) hRel H locs hP hD hS ls (lv_sub hl [0, 3, 4, 5, 6] rfl)
  · skip
    refine lv_aload_n hx hb dL_law_400 rfl (lv_at hl 2 rfl) ?_
    refine lv_aload_n hx hb dL_law_401 rfl (lv_at hl 1 rfl) ?_
    refine lv_iload hx hb dL_law_402 (lv_at hl 0 rfl) ?_
    refine lv_iconst (v := 1) hx hb dL_law_404 (by decide) ?_
    refine lv_iadd hx hb dL_law_405 ?_
    refine nm_i (y := nI (3 * k + 1)) (nI_1 (3 * k)).symm ?_
    refine va_sld hx hb hXs hbl hbA hS (vp_in_nI (n := 3 * k + 1) (by omega) (by omega)) dL_law_406 ?_
    refine nm_i ea1 ?_
    refine lv_aload_n hx hb dL_law_407 rfl (lv_at hl 4 rfl) ?_
    refine cW_i (As := [.ref (hh 0), .int a1, .ref ho]) (rest := []) (wc := ((ho, .inl (cL, 1, .inr (.inl oF))) :: wX7 cI cS hh vCar vGoa vEag tN tF cN cF mP mS kCap kGap kCar kCop kGro kShr bN bF rCmd rLet rNum fCap fGap fCar fCop fGro fShr hX hC hR)) (wc' := ((ho, .inl (cL, 1, .inr (.inl oF))) :: wX7 cI cS hh vCar vGoa vEag tN tF cN cF mP mS kCap kGap kCar kCop kGro kShr bN bF rCmd rLet rNum fCap fGap fCar fCop fGro fShr hX hC hR)) (ws' := ((ho, .inl (cL, 1, .inr (.inl oF))) :: (wX7 cI cS hh vCar vGoa vEag tN tF cN cF mP mS kCap kGap kCar kCop kGro kShr bN bF rCmd rLet rNum fCap fGap fCar fCop fGro fShr hX hC hR ++ wX8 cI (hm 0) (hm 1) (hm 2) (hm 3) (hm 4) (hm 5) aTh aSm aLn aAt aWe aRm aBm aHa aS aSv aCm aRd aBy))) hx hb hml hown hg hK hP hD hS hA hl.1 hZ (t1_L_backspace l hlt D cI cS cL Z hh ho a1 vCar vGoa vEag tN tF cN cF mP mS kCap kGap kCar kCop kGro kShr bN bF rCmd rLet rNum fCap fGap fCar fCop fGro fShr hX hC hR oF e7) gww_L_backspace gw_656 ⟨rfl, rfl, by decide, by decide⟩ ⟨by show 100 + k + 1 ≤ 601024; omega, by show 6000 + 6 * k + 6 ≤ 7293033; omega⟩ pm_l0 pm_l0 (congrArg (List.cons ho) fst_X7) rfl rfl (Nat.le_of_ble_eq_true rfl) dL_law_408 (fun H locs hP hD hS => ?_)
    refine lv_istore (lv' := [(5, .int 1), (4, .int (nI (3 * k))), (0, .ref b), (1, .ref (hh 0)), (2, .ref (hm 0)), (3, .ref ho)]) hx hb dL_law_411 hl (by decide) rfl (fun ls hl => ?_)
    refine lv_aload_n hx hb dL_law_413 rfl (lv_at hl 4 rfl) ?_
    refine lv_aload_n hx hb dL_law_414 rfl (lv_at hl 2 rfl) ?_
    refine lv_iload hx hb dL_law_415 (lv_at hl 1 rfl) ?_
    refine lv_iconst (v := 1) hx hb dL_law_417 (by decide) ?_
    refine lv_iadd hx hb dL_law_418 ?_
    refine nm_i (y := nI (3 * k + 1)) (nI_1 (3 * k)).symm ?_
    refine va_sld hx hb hXs hbl hbA hS (vp_in_nI (n := 3 * k + 1) (by omega) (by omega)) dL_law_419 ?_
    refine nm_i ea1 ?_
    refine cP_i (As := [.int a1]) (rest := []) (wc := (wX8 cI (hm 0) (hm 1) (hm 2) (hm 3) (hm 4) (hm 5) aTh aSm aLn aAt aWe aRm aBm aHa aS aSv aCm aRd aBy)) (wc' := (wX8 cI (hm 0) (hm 1) (hm 2) (hm 3) (hm 4) (hm 5) 1 aSm' aLn aAt aWe aRm aBm aHa aS' aSv' aCm aRd aBy)) (ws' := ((ho, .inl (cL, 1, .inr (.inl oF))) :: (wX7 cI cS hh vCar vGoa vEag tN tF cN cF mP mS kCap kGap kCar kCop kGro kShr bN bF rCmd rLet rNum fCap fGap fCar fCop fGro fShr hX hC hR ++ wX8 cI (hm 0) (hm 1) (hm 2) (hm 3) (hm 4) (hm 5) 1 aSm' aLn aAt aWe aRm aBm aHa aS' aSv' aCm aRd aBy))) hx hb hml hown hg hK hP hD hS hA hl.1 (k_X8_backspace l D cI cS cL Z (hm 0) (hm 1) (hm 2) (hm 3) (hm 4) (hm 5) a1 aTh aSm aLn aAt aWe aRm aBm aHa aS aSv aCm aRd aBy e8) gm_X8_backspace gw_1053 ⟨rfl, rfl, by decide, by decide⟩ ⟨by show 100 + k + 1 ≤ 601024; omega, by show 6000 + 6 * k + 6 ≤ 7293033; omega⟩ pm_l2 pm_l2 fst_X8 rfl rfl rfl rfl rfl (Nat.le_of_ble_eq_true rfl) dL_law_420 (fun H locs hP hD hS => ?_)
    refine lv_istore (lv' := [(6, .int r), (5, .int 1), (4, .int (nI (3 * k))), (0, .ref b), (1, .ref (hh 0)), (2, .ref (hm 0)), (3, .ref ho)]) hx hb dL_law_423 hl (by decide) rfl (fun ls hl => ?_)
    refine lv_aload_n hx hb dL_law_425 rfl (lv_at hl 5 rfl) ?_
    refine cP_i (As := []) (rest := []) (wc := (wX8 cI (hm 0) (hm 1) (hm 2) (hm 3) (hm 4) (hm 5) 1 aSm' aLn aAt aWe aRm aBm aHa aS' aSv' aCm aRd aBy)) (wc' := (wX8 cI (hm 0) (hm 1) (hm 2) (hm 3) (hm 4) (hm 5) 1 aSm' aLn aAt aWe aRm aBm aHa aS' aSv' aCm aRd aBy)) (ws' := ((ho, .inl (cL, 1, .inr (.inl oF))) :: (wX7 cI cS hh vCar vGoa vEag tN tF cN cF mP mS kCap kGap kCar kCop kGro kShr bN bF rCmd rLet rNum fCap fGap fCar fCop fGro fShr hX hC hR ++ wX8 cI (hm 0) (hm 1) (hm 2) (hm 3) (hm 4) (hm 5) 1 aSm' aLn aAt aWe aRm aBm aHa aS' aSv' aCm aRd aBy))) hx hb hml hown hg hK hP hD hS hA hl.1 (k_X8_thrown l D cI cS cL Z (hm 0) (hm 1) (hm 2) (hm 3) (hm 4) (hm 5) 1 aSm' aLn aAt aWe aRm aBm aHa aS' aSv' aCm aRd aBy (r := 1) rfl) gm_X8_thrown gw_980 ⟨rfl, rfl, by decide, by decide⟩ ⟨by show 100 + k + 1 ≤ 601024; omega, by show 6000 + 6 * k + 6 ≤ 7293033; omega⟩ pm_l2 pm_l2 rfl rfl rfl rfl rfl rfl (Nat.le_of_ble_eq_true rfl) dL_law_426 (fun H locs hP hD hS => ?_)
    refine lv_iload hx hb dL_law_429 (lv_at hl 1 rfl) ?_
    refine lv_icmp_eq (tgt := 436) hx hb dL_law_431 (by decide) (fun _ => ?_) (fun q => absurd rfl q)
    refine lv_iload hx hb dL_law_436 (lv_at hl 1 rfl) ?_
    refine lv_if_ne (tgt := 453) hx hb dL_law_438 (by decide) (fun _ => ?_) (fun q => absurd q (by decide))
    refine lv_goto (tgt := 1867) hx hb dL_law_453 (by decide) ?_
    refine lv_iinc (v := nI (3 * (k + 1))) (lv' := [(4, .int (nI (3 * (k + 1)))), (6, .int r), (5, .int 1), (0, .ref b), (1, .ref (hh 0)), (2, .ref (hm 0)), (3, .ref ho)]) hx hb dL_law_1867 hl (k := 2) rfl (it_3 k) (by decide) rfl (fun ls hl => ?_)
    refine lv_goto (tgt := 23) hx hb dL_law_1870 (by decide) ?_
    refine W.widen (k := 100 + (k + 1)) (n := 6000 + 6 * (k + 1)) (by omega) (by omega) ?_
    exact IH vCar vGoa vEag tN tF cN cF mP mS kCap kGap kCar kCop kGro kShr bN bF rCmd rLet rNum fCap fGap fCar fCop fGro fShr hX hC hR 1 (aSm') aLn aAt aWe aRm aBm aHa (aS') (aSv') aCm aRd aBy oF hRel H locs hP hD hS ls (lv_sub hl [0, 3, 4, 5, 6] rfl)
set_option maxRecDepth 100000 in
set_option maxHeartbeats 4000000 in
theorem law_c4 {p : Program} {e : Env} {s : State} {m : MethodId} {below : List Frame} {meth : Method} {c : Code} {l : Launch} (hlt : l.stackTraces = false) {D : va_G} {cI cS cL : ClassId} {b L : Nat} {xs : Nat → Int32} (C0 : lw_At p s m meth c b L xs) (hg : ∀ w ∈ GW, w.before #[Value.ref b] s = true) (hK : kk_ D cI cS cL s) (hZ : zz_ (fun q : Nat => s.heap.size ≤ q) s s.heap) (Z : Nat) (Rel : Int32 → Int32 → Int32 → Int32 → (Nat → Int32) → Int32 → (Nat → Int32) → (Nat → Int32) → (Nat → Int32) → Int32 → Int32 → Int32 → Int32 → Int32 → Int32 → Int32 → (Nat → Int32) → Int32 → Int32 → Int32 → Int32 → Int32 → Int32 → Int32 → Int32 → Int32 → Int32 → Int32 → (Nat → StT) → Int32 → Int32 → Int32 → Int32 → Int32 → Int32 → Int32 → Int64 → (Nat → Int32) → (Nat → Int32) → (Nat → Int32) → (Nat → Int32) → (Nat → Int32) → Prop) (pb : PB_moveTo Z Rel) (hh hm : Nat → Nat) (ho k : Nat) (hk : 3 * k + 2 < L) (hL : L ≤ 1536) (vCar : Int32) (vGoa : Int32) (vEag : Int32) (tN : Int32) (tF : Nat → Int32) (cN : Int32) (cF : Nat → Int32) (mP : Nat → Int32) (mS : Nat → Int32) (kCap : Int32) (kGap : Int32) (kCar : Int32) (kCop : Int32) (kGro : Int32) (kShr : Int32) (bN : Int32) (bF : Nat → Int32) (rCmd : Int32) (rLet : Int32) (rNum : Int32) (fCap : Int32) (fGap : Int32) (fCar : Int32) (fCop : Int32) (fGro : Int32) (fShr : Int32) (hX : Int32) (hC : Int32) (hR : Nat → StT) (aTh : Int32) (aSm : Int32) (aLn : Int32) (aAt : Int32) (aWe : Int32) (aRm : Int32) (aBm : Int32) (aHa : Int64) (aS : Nat → Int32) (aSv : Nat → Int32) (aCm : Nat → Int32) (aRd : Nat → Int32) (aBy : Nat → Int32) (oF : Nat → Int64) (hRel : Rel vCar vGoa vEag tN tF cN cF mP mS kCap kGap kCar kCop kGro kShr bN bF rCmd rLet rNum fCap fGap fCar fCop fGro fShr hX hC hR aTh aSm aLn aAt aWe aRm aBm aHa aS aSv aCm aRd aBy) (H : Heap) (locs : List Loc) (hP : va_P D vwCl (wLW cI cS cL hh hm ho vCar vGoa vEag tN tF cN cF mP mS kCap kGap kCar kCop kGro kShr bN bF rCmd rLet rNum fCap fGap fCar fCop fGro fShr hX hC hR aTh aSm aLn aAt aWe aRm aBm aHa aS aSv aCm aRd aBy oF) H) (hD : va_D (fun q : Nat => s.heap.size ≤ q) (wLW cI cS cL hh hm ho vCar vGoa vEag tN tF cN cF mP mS kCap kGap kCar kCop kGro kShr bN bF rCmd rLet rNum fCap fGap fCar fCop fGro fShr hX hC hR aTh aSm aLn aAt aWe aRm aBm aHa aS aSv aCm aRd aBy oF)) (hS : va_S (fun q : Nat => s.heap.size ≤ q) s.heap H locs) (ls : Array Slot) (hl : lv_has ls 7 [(4, .int (nI (3 * k))), (0, .ref b), (1, .ref (hh 0)), (2, .ref (hm 0)), (3, .ref ho)]) (IH : LH p l e s m b below meth c D cI cS cL hh hm ho (k + 1) Rel) : W p l e room_1 s m #[Value.ref b] below meth c H locs (100 + k) (6000 + 6 * k) (lw_Z below #[Value.ref b] s) (F0 m 456 ls []) := by
  obtain ⟨hx, hb, hr, hml, hown, hts, hXs, hbl, hlocks, hgv⟩ := C0
  have hown : s.vm.findClass RL = some m.cls := hown
  have hA : ∀ q : Nat, s.heap.size ≤ q → (fun q : Nat => s.heap.size ≤ q) q := fun _ h => h
  have hbA : ¬ (fun q : Nat => s.heap.size ≤ q) b := Nat.not_le.mpr hbl
  obtain ⟨a1, ea1⟩ : ∃ y, y = xs (nI (3 * k + 1)).toNatClampNeg := ⟨_, rfl⟩
  obtain ⟨a2, ea2⟩ : ∃ y, y = xs (nI (3 * k + 2)).toNatClampNeg := ⟨_, rfl⟩
  rcases pb a1 vCar vGoa vEag tN tF cN cF mP mS kCap kGap kCar kCop kGro kShr bN bF rCmd rLet rNum fCap fGap fCar fCop fGro fShr hX hC hR aTh aSm aLn aAt aWe aRm aBm aHa aS aSv aCm aRd aBy hRel with ⟨r, vCar', vGoa', kGap', kCar', hX', hC', hR', aSm', aS', aSv', e7, e8, hRel⟩ | ⟨r, aSm', aS', aSv', e7, e8, hRel⟩
  · skip
    refine lv_aload_n hx hb dL_law_456 rfl (lv_at hl 2 rfl) ?_
    refine lv_aload_n hx hb dL_law_457 rfl (lv_at hl 1 rfl) ?_
    refine lv_iload hx hb dL_law_458 (lv_at hl 0 rfl) ?_
    refine lv_iconst (v := 1) hx hb dL_law_460 (by decide) ?_
    refine lv_iadd hx hb dL_law_461 ?_
    refine nm_i (y := nI (3 * k + 1)) (nI_1 (3 * k)).symm ?_
    refine va_sld hx hb hXs hbl hbA hS (vp_in_nI (n := 3 * k + 1) (by omega) (by omega)) dL_law_462 ?_
    refine nm_i ea1 ?_
    refine lv_aload_n hx hb dL_law_463 rfl (lv_at hl 4 rfl) ?_
    refine cW_i (As := [.ref (hh 0), .int a1, .ref ho]) (rest := []) (wc := ((ho, .inl (cL, 1, .inr (.inl oF))) :: wX7 cI cS hh vCar vGoa vEag tN tF cN cF mP mS kCap kGap kCar kCop kGro kShr bN bF rCmd rLet rNum fCap fGap fCar fCop fGro fShr hX hC hR)) (wc' := ((ho, .inl (cL, 1, .inr (.inl (vp_updL oF 0 (r : Int32).toInt64)))) :: wX7 cI cS hh vCar' vGoa' vEag tN tF cN cF mP mS kCap kGap' kCar' kCop kGro kShr bN bF rCmd rLet rNum fCap fGap fCar fCop fGro fShr hX' hC' hR')) (ws' := ((ho, .inl (cL, 1, .inr (.inl (vp_updL oF 0 (r : Int32).toInt64)))) :: (wX7 cI cS hh vCar' vGoa' vEag tN tF cN cF mP mS kCap kGap' kCar' kCop kGro kShr bN bF rCmd rLet rNum fCap fGap fCar fCop fGro fShr hX' hC' hR' ++ wX8 cI (hm 0) (hm 1) (hm 2) (hm 3) (hm 4) (hm 5) aTh aSm aLn aAt aWe aRm aBm aHa aS aSv aCm aRd aBy))) hx hb hml hown hg hK hP hD hS hA hl.1 hZ (k_L_moveTo l D cI cS cL Z hh ho a1 vCar vGoa vEag tN tF cN cF mP mS kCap kGap kCar kCop kGro kShr bN bF rCmd rLet rNum fCap fGap fCar fCop fGro fShr hX hC hR oF e7) gww_L_moveTo gw_667 ⟨rfl, rfl, by decide, by decide⟩ ⟨by show 100 + k + 1 ≤ 601024; omega, by show 6000 + 6 * k + 6 ≤ 7293033; omega⟩ pm_l0 pm_l0 (congrArg (List.cons ho) fst_X7) rfl rfl (Nat.le_of_ble_eq_true rfl) dL_law_464 (fun H locs hP hD hS => ?_)
    refine lv_istore (lv' := [(5, .int 0), (4, .int (nI (3 * k))), (0, .ref b), (1, .ref (hh 0)), (2, .ref (hm 0)), (3, .ref ho)]) hx hb dL_law_467 hl (by decide) rfl (fun ls hl => ?_)
    refine lv_aload_n hx hb dL_law_469 rfl (lv_at hl 4 rfl) ?_
    refine lv_aload_n hx hb dL_law_470 rfl (lv_at hl 2 rfl) ?_
    refine lv_iload hx hb dL_law_471 (lv_at hl 1 rfl) ?_
    refine lv_iconst (v := 1) hx hb dL_law_473 (by decide) ?_
    refine lv_iadd hx hb dL_law_474 ?_
    refine nm_i (y := nI (3 * k + 1)) (nI_1 (3 * k)).symm ?_
    refine va_sld hx hb hXs hbl hbA hS (vp_in_nI (n := 3 * k + 1) (by omega) (by omega)) dL_law_475 ?_
    refine nm_i ea1 ?_
    refine cP_i (As := [.int a1]) (rest := []) (wc := (wX8 cI (hm 0) (hm 1) (hm 2) (hm 3) (hm 4) (hm 5) aTh aSm aLn aAt aWe aRm aBm aHa aS aSv aCm aRd aBy)) (wc' := (wX8 cI (hm 0) (hm 1) (hm 2) (hm 3) (hm 4) (hm 5) 0 aSm' aLn aAt aWe aRm aBm aHa aS' aSv' aCm aRd aBy)) (ws' := ((ho, .inl (cL, 1, .inr (.inl (vp_updL oF 0 (r : Int32).toInt64)))) :: (wX7 cI cS hh vCar' vGoa' vEag tN tF cN cF mP mS kCap kGap' kCar' kCop kGro kShr bN bF rCmd rLet rNum fCap fGap fCar fCop fGro fShr hX' hC' hR' ++ wX8 cI (hm 0) (hm 1) (hm 2) (hm 3) (hm 4) (hm 5) 0 aSm' aLn aAt aWe aRm aBm aHa aS' aSv' aCm aRd aBy))) hx hb hml hown hg hK hP hD hS hA hl.1 (k_X8_moveTo l D cI cS cL Z (hm 0) (hm 1) (hm 2) (hm 3) (hm 4) (hm 5) a1 aTh aSm aLn aAt aWe aRm aBm aHa aS aSv aCm aRd aBy e8) gm_X8_moveTo gw_1061 ⟨rfl, rfl, by decide, by decide⟩ ⟨by show 100 + k + 1 ≤ 601024; omega, by show 6000 + 6 * k + 6 ≤ 7293033; omega⟩ pm_l2 pm_l2 fst_X8 rfl rfl rfl rfl rfl (Nat.le_of_ble_eq_true rfl) dL_law_476 (fun H locs hP hD hS => ?_)
    refine lv_istore (lv' := [(6, .int r), (5, .int 0), (4, .int (nI (3 * k))), (0, .ref b), (1, .ref (hh 0)), (2, .ref (hm 0)), (3, .ref ho)]) hx hb dL_law_479 hl (by decide) rfl (fun ls hl => ?_)
    refine lv_aload_n hx hb dL_law_481 rfl (lv_at hl 5 rfl) ?_
    refine cP_i (As := []) (rest := []) (wc := (wX8 cI (hm 0) (hm 1) (hm 2) (hm 3) (hm 4) (hm 5) 0 aSm' aLn aAt aWe aRm aBm aHa aS' aSv' aCm aRd aBy)) (wc' := (wX8 cI (hm 0) (hm 1) (hm 2) (hm 3) (hm 4) (hm 5) 0 aSm' aLn aAt aWe aRm aBm aHa aS' aSv' aCm aRd aBy)) (ws' := ((ho, .inl (cL, 1, .inr (.inl (vp_updL oF 0 (r : Int32).toInt64)))) :: (wX7 cI cS hh vCar' vGoa' vEag tN tF cN cF mP mS kCap kGap' kCar' kCop kGro kShr bN bF rCmd rLet rNum fCap fGap fCar fCop fGro fShr hX' hC' hR' ++ wX8 cI (hm 0) (hm 1) (hm 2) (hm 3) (hm 4) (hm 5) 0 aSm' aLn aAt aWe aRm aBm aHa aS' aSv' aCm aRd aBy))) hx hb hml hown hg hK hP hD hS hA hl.1 (k_X8_thrown l D cI cS cL Z (hm 0) (hm 1) (hm 2) (hm 3) (hm 4) (hm 5) 0 aSm' aLn aAt aWe aRm aBm aHa aS' aSv' aCm aRd aBy (r := 0) rfl) gm_X8_thrown gw_980 ⟨rfl, rfl, by decide, by decide⟩ ⟨by show 100 + k + 1 ≤ 601024; omega, by show 6000 + 6 * k + 6 ≤ 7293033; omega⟩ pm_l2 pm_l2 rfl rfl rfl rfl rfl rfl (Nat.le_of_ble_eq_true rfl) dL_law_482 (fun H locs hP hD hS => ?_)
    refine lv_iload hx hb dL_law_485 (lv_at hl 1 rfl) ?_
    refine lv_icmp_eq (tgt := 492) hx hb dL_law_487 (by decide) (fun _ => ?_) (fun q => absurd rfl q)
    refine lv_iload hx hb dL_law_492 (lv_at hl 1 rfl) ?_
    refine lv_if_ne (tgt := 509) hx hb dL_law_494 (by decide) (fun q => absurd rfl q) (fun _ => ?_)
    refine lv_aload_n hx hb dL_law_497 rfl (lv_at hl 6 rfl) ?_
    refine lv_iconst (v := 0) hx hb dL_law_498 (by decide) ?_
    refine va_lald hx hb hK.1 hP 0 2 rfl rfl (i := 0) (vp_in_nI (n := 0) (by decide) (by decide)) dL_law_499 ?_
    refine nm_l (y := vp_updL oF 0 (r : Int32).toInt64 0) rfl ?_
    refine lv_iload hx hb dL_law_500 (lv_at hl 0 rfl) ?_
    refine lv_i2l (v := (r : Int32).toInt64) hx hb dL_law_502 rfl ?_
    refine W.lcmp hx hb dL_law_503 ?_
    refine nm_i (y := 0) cmp_same.symm ?_
    refine lv_if_eq (tgt := 509) hx hb dL_law_504 (by decide) (fun _ => ?_) (fun q => absurd rfl q)
    refine lv_goto (tgt := 1867) hx hb dL_law_509 (by decide) ?_
    refine lv_iinc (v := nI (3 * (k + 1))) (lv' := [(4, .int (nI (3 * (k + 1)))), (6, .int r), (5, .int 0), (0, .ref b), (1, .ref (hh 0)), (2, .ref (hm 0)), (3, .ref ho)]) hx hb dL_law_1867 hl (k := 2) rfl (it_3 k) (by decide) rfl (fun ls hl => ?_)
    refine lv_goto (tgt := 23) hx hb dL_law_1870 (by decide) ?_
    refine W.widen (k := 100 + (k + 1)) (n := 6000 + 6 * (k + 1)) (by omega) (by omega) ?_
    exact IH (vCar') (vGoa') vEag tN tF cN cF mP mS kCap (kGap') (kCar') kCop kGro kShr bN bF rCmd rLet rNum fCap fGap fCar fCop fGro fShr (hX') (hC') (hR') 0 (aSm') aLn aAt aWe aRm aBm aHa (aS') (aSv') aCm aRd aBy (vp_updL oF 0 (r : Int32).toInt64) hRel H locs hP hD hS ls (lv_sub hl [0, 3, 4, 5, 6] rfl)
  · skip
    refine lv_aload_n hx hb dL_law_456 rfl (lv_at hl 2 rfl) ?_
    refine lv_aload_n hx hb dL_law_457 rfl (lv_at hl 1 rfl) ?_
    refine lv_iload hx hb dL_law_458 (lv_at hl 0 rfl) ?_
    refine lv_iconst (v := 1) hx hb dL_law_460 (by decide) ?_
    refine lv_iadd hx hb dL_law_461 ?_
    refine nm_i (y := nI (3 * k + 1)) (nI_1 (3 * k)).symm ?_
    refine va_sld hx hb hXs hbl hbA hS (vp_in_nI (n := 3 * k + 1) (by omega) (by omega)) dL_law_462 ?_
    refine nm_i ea1 ?_
    refine lv_aload_n hx hb dL_law_463 rfl (lv_at hl 4 rfl) ?_
    refine cW_i (As := [.ref (hh 0), .int a1, .ref ho]) (rest := []) (wc := ((ho, .inl (cL, 1, .inr (.inl oF))) :: wX7 cI cS hh vCar vGoa vEag tN tF cN cF mP mS kCap kGap kCar kCop kGro kShr bN bF rCmd rLet rNum fCap fGap fCar fCop fGro fShr hX hC hR)) (wc' := ((ho, .inl (cL, 1, .inr (.inl oF))) :: wX7 cI cS hh vCar vGoa vEag tN tF cN cF mP mS kCap kGap kCar kCop kGro kShr bN bF rCmd rLet rNum fCap fGap fCar fCop fGro fShr hX hC hR)) (ws' := ((ho, .inl (cL, 1, .inr (.inl oF))) :: (wX7 cI cS hh vCar vGoa vEag tN tF cN cF mP mS kCap kGap kCar kCop kGro kShr bN bF rCmd rLet rNum fCap fGap fCar fCop fGro fShr hX hC hR ++ wX8 cI (hm 0) (hm 1) (hm 2) (hm 3) (hm 4) (hm 5) aTh aSm aLn aAt aWe aRm aBm aHa aS aSv aCm aRd aBy))) hx hb hml hown hg hK hP hD hS hA hl.1 hZ (t1_L_moveTo l hlt D cI cS cL Z hh ho a1 vCar vGoa vEag tN tF cN cF mP mS kCap kGap kCar kCop kGro kShr bN bF rCmd rLet rNum fCap fGap fCar fCop fGro fShr hX hC hR oF e7) gww_L_moveTo gw_667 ⟨rfl, rfl, by decide, by decide⟩ ⟨by show 100 + k + 1 ≤ 601024; omega, by show 6000 + 6 * k + 6 ≤ 7293033; omega⟩ pm_l0 pm_l0 (congrArg (List.cons ho) fst_X7) rfl rfl (Nat.le_of_ble_eq_true rfl) dL_law_464 (fun H locs hP hD hS => ?_)
    refine lv_istore (lv' := [(5, .int 1), (4, .int (nI (3 * k))), (0, .ref b), (1, .ref (hh 0)), (2, .ref (hm 0)), (3, .ref ho)]) hx hb dL_law_467 hl (by decide) rfl (fun ls hl => ?_)
    refine lv_aload_n hx hb dL_law_469 rfl (lv_at hl 4 rfl) ?_
    refine lv_aload_n hx hb dL_law_470 rfl (lv_at hl 2 rfl) ?_
    refine lv_iload hx hb dL_law_471 (lv_at hl 1 rfl) ?_
    refine lv_iconst (v := 1) hx hb dL_law_473 (by decide) ?_
    refine lv_iadd hx hb dL_law_474 ?_
    refine nm_i (y := nI (3 * k + 1)) (nI_1 (3 * k)).symm ?_
    refine va_sld hx hb hXs hbl hbA hS (vp_in_nI (n := 3 * k + 1) (by omega) (by omega)) dL_law_475 ?_
    refine nm_i ea1 ?_
    refine cP_i (As := [.int a1]) (rest := []) (wc := (wX8 cI (hm 0) (hm 1) (hm 2) (hm 3) (hm 4) (hm 5) aTh aSm aLn aAt aWe aRm aBm aHa aS aSv aCm aRd aBy)) (wc' := (wX8 cI (hm 0) (hm 1) (hm 2) (hm 3) (hm 4) (hm 5) 1 aSm' aLn aAt aWe aRm aBm aHa aS' aSv' aCm aRd aBy)) (ws' := ((ho, .inl (cL, 1, .inr (.inl oF))) :: (wX7 cI cS hh vCar vGoa vEag tN tF cN cF mP mS kCap kGap kCar kCop kGro kShr bN bF rCmd rLet rNum fCap fGap fCar fCop fGro fShr hX hC hR ++ wX8 cI (hm 0) (hm 1) (hm 2) (hm 3) (hm 4) (hm 5) 1 aSm' aLn aAt aWe aRm aBm aHa aS' aSv' aCm aRd aBy))) hx hb hml hown hg hK hP hD hS hA hl.1 (k_X8_moveTo l D cI cS cL Z (hm 0) (hm 1) (hm 2) (hm 3) (hm 4) (hm 5) a1 aTh aSm aLn aAt aWe aRm aBm aHa aS aSv aCm aRd aBy e8) gm_X8_moveTo gw_1061 ⟨rfl, rfl, by decide, by decide⟩ ⟨by show 100 + k + 1 ≤ 601024; omega, by show 6000 + 6 * k + 6 ≤ 7293033; omega⟩ pm_l2 pm_l2 fst_X8 rfl rfl rfl rfl rfl (Nat.le_of_ble_eq_true rfl) dL_law_476 (fun H locs hP hD hS => ?_)
    refine lv_istore (lv' := [(6, .int r), (5, .int 1), (4, .int (nI (3 * k))), (0, .ref b), (1, .ref (hh 0)), (2, .ref (hm 0)), (3, .ref ho)]) hx hb dL_law_479 hl (by decide) rfl (fun ls hl => ?_)
    refine lv_aload_n hx hb dL_law_481 rfl (lv_at hl 5 rfl) ?_
    refine cP_i (As := []) (rest := []) (wc := (wX8 cI (hm 0) (hm 1) (hm 2) (hm 3) (hm 4) (hm 5) 1 aSm' aLn aAt aWe aRm aBm aHa aS' aSv' aCm aRd aBy)) (wc' := (wX8 cI (hm 0) (hm 1) (hm 2) (hm 3) (hm 4) (hm 5) 1 aSm' aLn aAt aWe aRm aBm aHa aS' aSv' aCm aRd aBy)) (ws' := ((ho, .inl (cL, 1, .inr (.inl oF))) :: (wX7 cI cS hh vCar vGoa vEag tN tF cN cF mP mS kCap kGap kCar kCop kGro kShr bN bF rCmd rLet rNum fCap fGap fCar fCop fGro fShr hX hC hR ++ wX8 cI (hm 0) (hm 1) (hm 2) (hm 3) (hm 4) (hm 5) 1 aSm' aLn aAt aWe aRm aBm aHa aS' aSv' aCm aRd aBy))) hx hb hml hown hg hK hP hD hS hA hl.1 (k_X8_thrown l D cI cS cL Z (hm 0) (hm 1) (hm 2) (hm 3) (hm 4) (hm 5) 1 aSm' aLn aAt aWe aRm aBm aHa aS' aSv' aCm aRd aBy (r := 1) rfl) gm_X8_thrown gw_980 ⟨rfl, rfl, by decide, by decide⟩ ⟨by show 100 + k + 1 ≤ 601024; omega, by show 6000 + 6 * k + 6 ≤ 7293033; omega⟩ pm_l2 pm_l2 rfl rfl rfl rfl rfl rfl (Nat.le_of_ble_eq_true rfl) dL_law_482 (fun H locs hP hD hS => ?_)
    refine lv_iload hx hb dL_law_485 (lv_at hl 1 rfl) ?_
    refine lv_icmp_eq (tgt := 492) hx hb dL_law_487 (by decide) (fun _ => ?_) (fun q => absurd rfl q)
    refine lv_iload hx hb dL_law_492 (lv_at hl 1 rfl) ?_
    refine lv_if_ne (tgt := 509) hx hb dL_law_494 (by decide) (fun _ => ?_) (fun q => absurd q (by decide))
    refine lv_goto (tgt := 1867) hx hb dL_law_509 (by decide) ?_
    refine lv_iinc (v := nI (3 * (k + 1))) (lv' := [(4, .int (nI (3 * (k + 1)))), (6, .int r), (5, .int 1), (0, .ref b), (1, .ref (hh 0)), (2, .ref (hm 0)), (3, .ref ho)]) hx hb dL_law_1867 hl (k := 2) rfl (it_3 k) (by decide) rfl (fun ls hl => ?_)
    refine lv_goto (tgt := 23) hx hb dL_law_1870 (by decide) ?_
    refine W.widen (k := 100 + (k + 1)) (n := 6000 + 6 * (k + 1)) (by omega) (by omega) ?_
    exact IH vCar vGoa vEag tN tF cN cF mP mS kCap kGap kCar kCop kGro kShr bN bF rCmd rLet rNum fCap fGap fCar fCop fGro fShr hX hC hR 1 (aSm') aLn aAt aWe aRm aBm aHa (aS') (aSv') aCm aRd aBy oF hRel H locs hP hD hS ls (lv_sub hl [0, 3, 4, 5, 6] rfl)
set_option maxRecDepth 100000 in
set_option maxHeartbeats 4000000 in
theorem law_c5 {p : Program} {e : Env} {s : State} {m : MethodId} {below : List Frame} {meth : Method} {c : Code} {l : Launch} (hlt : l.stackTraces = false) {D : va_G} {cI cS cL : ClassId} {b L : Nat} {xs : Nat → Int32} (C0 : lw_At p s m meth c b L xs) (hg : ∀ w ∈ GW, w.before #[Value.ref b] s = true) (hK : kk_ D cI cS cL s) (hZ : zz_ (fun q : Nat => s.heap.size ≤ q) s s.heap) (Z : Nat) (Rel : Int32 → Int32 → Int32 → Int32 → (Nat → Int32) → Int32 → (Nat → Int32) → (Nat → Int32) → (Nat → Int32) → Int32 → Int32 → Int32 → Int32 → Int32 → Int32 → Int32 → (Nat → Int32) → Int32 → Int32 → Int32 → Int32 → Int32 → Int32 → Int32 → Int32 → Int32 → Int32 → Int32 → (Nat → StT) → Int32 → Int32 → Int32 → Int32 → Int32 → Int32 → Int32 → Int64 → (Nat → Int32) → (Nat → Int32) → (Nat → Int32) → (Nat → Int32) → (Nat → Int32) → Prop) (pb : PB_moveBy Z Rel) (hh hm : Nat → Nat) (ho k : Nat) (hk : 3 * k + 2 < L) (hL : L ≤ 1536) (vCar : Int32) (vGoa : Int32) (vEag : Int32) (tN : Int32) (tF : Nat → Int32) (cN : Int32) (cF : Nat → Int32) (mP : Nat → Int32) (mS : Nat → Int32) (kCap : Int32) (kGap : Int32) (kCar : Int32) (kCop : Int32) (kGro : Int32) (kShr : Int32) (bN : Int32) (bF : Nat → Int32) (rCmd : Int32) (rLet : Int32) (rNum : Int32) (fCap : Int32) (fGap : Int32) (fCar : Int32) (fCop : Int32) (fGro : Int32) (fShr : Int32) (hX : Int32) (hC : Int32) (hR : Nat → StT) (aTh : Int32) (aSm : Int32) (aLn : Int32) (aAt : Int32) (aWe : Int32) (aRm : Int32) (aBm : Int32) (aHa : Int64) (aS : Nat → Int32) (aSv : Nat → Int32) (aCm : Nat → Int32) (aRd : Nat → Int32) (aBy : Nat → Int32) (oF : Nat → Int64) (hRel : Rel vCar vGoa vEag tN tF cN cF mP mS kCap kGap kCar kCop kGro kShr bN bF rCmd rLet rNum fCap fGap fCar fCop fGro fShr hX hC hR aTh aSm aLn aAt aWe aRm aBm aHa aS aSv aCm aRd aBy) (H : Heap) (locs : List Loc) (hP : va_P D vwCl (wLW cI cS cL hh hm ho vCar vGoa vEag tN tF cN cF mP mS kCap kGap kCar kCop kGro kShr bN bF rCmd rLet rNum fCap fGap fCar fCop fGro fShr hX hC hR aTh aSm aLn aAt aWe aRm aBm aHa aS aSv aCm aRd aBy oF) H) (hD : va_D (fun q : Nat => s.heap.size ≤ q) (wLW cI cS cL hh hm ho vCar vGoa vEag tN tF cN cF mP mS kCap kGap kCar kCop kGro kShr bN bF rCmd rLet rNum fCap fGap fCar fCop fGro fShr hX hC hR aTh aSm aLn aAt aWe aRm aBm aHa aS aSv aCm aRd aBy oF)) (hS : va_S (fun q : Nat => s.heap.size ≤ q) s.heap H locs) (ls : Array Slot) (hl : lv_has ls 7 [(4, .int (nI (3 * k))), (0, .ref b), (1, .ref (hh 0)), (2, .ref (hm 0)), (3, .ref ho)]) (IH : LH p l e s m b below meth c D cI cS cL hh hm ho (k + 1) Rel) : W p l e room_1 s m #[Value.ref b] below meth c H locs (100 + k) (6000 + 6 * k) (lw_Z below #[Value.ref b] s) (F0 m 512 ls []) := by
  obtain ⟨hx, hb, hr, hml, hown, hts, hXs, hbl, hlocks, hgv⟩ := C0
  have hown : s.vm.findClass RL = some m.cls := hown
  have hA : ∀ q : Nat, s.heap.size ≤ q → (fun q : Nat => s.heap.size ≤ q) q := fun _ h => h
  have hbA : ¬ (fun q : Nat => s.heap.size ≤ q) b := Nat.not_le.mpr hbl
  obtain ⟨a1, ea1⟩ : ∃ y, y = xs (nI (3 * k + 1)).toNatClampNeg := ⟨_, rfl⟩
  obtain ⟨a2, ea2⟩ : ∃ y, y = xs (nI (3 * k + 2)).toNatClampNeg := ⟨_, rfl⟩
  rcases pb a1 vCar vGoa vEag tN tF cN cF mP mS kCap kGap kCar kCop kGro kShr bN bF rCmd rLet rNum fCap fGap fCar fCop fGro fShr hX hC hR aTh aSm aLn aAt aWe aRm aBm aHa aS aSv aCm aRd aBy hRel with ⟨r, vCar', vGoa', kGap', kCar', hX', hC', hR', aSm', aS', aSv', e7, e8, hRel⟩ | ⟨r, aSm', aS', aSv', e7, e8, hRel⟩
  · skip
    refine lv_aload_n hx hb dL_law_512 rfl (lv_at hl 2 rfl) ?_
    refine lv_aload_n hx hb dL_law_513 rfl (lv_at hl 1 rfl) ?_
    refine lv_iload hx hb dL_law_514 (lv_at hl 0 rfl) ?_
    refine lv_iconst (v := 1) hx hb dL_law_516 (by decide) ?_
    refine lv_iadd hx hb dL_law_517 ?_
    refine nm_i (y := nI (3 * k + 1)) (nI_1 (3 * k)).symm ?_
    refine va_sld hx hb hXs hbl hbA hS (vp_in_nI (n := 3 * k + 1) (by omega) (by omega)) dL_law_518 ?_
    refine nm_i ea1 ?_
    refine lv_aload_n hx hb dL_law_519 rfl (lv_at hl 4 rfl) ?_
    refine cW_i (As := [.ref (hh 0), .int a1, .ref ho]) (rest := []) (wc := ((ho, .inl (cL, 1, .inr (.inl oF))) :: wX7 cI cS hh vCar vGoa vEag tN tF cN cF mP mS kCap kGap kCar kCop kGro kShr bN bF rCmd rLet rNum fCap fGap fCar fCop fGro fShr hX hC hR)) (wc' := ((ho, .inl (cL, 1, .inr (.inl (vp_updL oF 0 (r : Int32).toInt64)))) :: wX7 cI cS hh vCar' vGoa' vEag tN tF cN cF mP mS kCap kGap' kCar' kCop kGro kShr bN bF rCmd rLet rNum fCap fGap fCar fCop fGro fShr hX' hC' hR')) (ws' := ((ho, .inl (cL, 1, .inr (.inl (vp_updL oF 0 (r : Int32).toInt64)))) :: (wX7 cI cS hh vCar' vGoa' vEag tN tF cN cF mP mS kCap kGap' kCar' kCop kGro kShr bN bF rCmd rLet rNum fCap fGap fCar fCop fGro fShr hX' hC' hR' ++ wX8 cI (hm 0) (hm 1) (hm 2) (hm 3) (hm 4) (hm 5) aTh aSm aLn aAt aWe aRm aBm aHa aS aSv aCm aRd aBy))) hx hb hml hown hg hK hP hD hS hA hl.1 hZ (k_L_moveBy l D cI cS cL Z hh ho a1 vCar vGoa vEag tN tF cN cF mP mS kCap kGap kCar kCop kGro kShr bN bF rCmd rLet rNum fCap fGap fCar fCop fGro fShr hX hC hR oF e7) gww_L_moveBy gw_697 ⟨rfl, rfl, by decide, by decide⟩ ⟨by show 100 + k + 1 ≤ 601024; omega, by show 6000 + 6 * k + 6 ≤ 7293033; omega⟩ pm_l0 pm_l0 (congrArg (List.cons ho) fst_X7) rfl rfl (Nat.le_of_ble_eq_true rfl) dL_law_520 (fun H locs hP hD hS => ?_)
    refine lv_istore (lv' := [(5, .int 0), (4, .int (nI (3 * k))), (0, .ref b), (1, .ref (hh 0)), (2, .ref (hm 0)), (3, .ref ho)]) hx hb dL_law_523 hl (by decide) rfl (fun ls hl => ?_)
    refine lv_aload_n hx hb dL_law_525 rfl (lv_at hl 4 rfl) ?_
    refine lv_aload_n hx hb dL_law_526 rfl (lv_at hl 2 rfl) ?_
    refine lv_iload hx hb dL_law_527 (lv_at hl 1 rfl) ?_
    refine lv_iconst (v := 1) hx hb dL_law_529 (by decide) ?_
    refine lv_iadd hx hb dL_law_530 ?_
    refine nm_i (y := nI (3 * k + 1)) (nI_1 (3 * k)).symm ?_
    refine va_sld hx hb hXs hbl hbA hS (vp_in_nI (n := 3 * k + 1) (by omega) (by omega)) dL_law_531 ?_
    refine nm_i ea1 ?_
    refine cP_i (As := [.int a1]) (rest := []) (wc := (wX8 cI (hm 0) (hm 1) (hm 2) (hm 3) (hm 4) (hm 5) aTh aSm aLn aAt aWe aRm aBm aHa aS aSv aCm aRd aBy)) (wc' := (wX8 cI (hm 0) (hm 1) (hm 2) (hm 3) (hm 4) (hm 5) 0 aSm' aLn aAt aWe aRm aBm aHa aS' aSv' aCm aRd aBy)) (ws' := ((ho, .inl (cL, 1, .inr (.inl (vp_updL oF 0 (r : Int32).toInt64)))) :: (wX7 cI cS hh vCar' vGoa' vEag tN tF cN cF mP mS kCap kGap' kCar' kCop kGro kShr bN bF rCmd rLet rNum fCap fGap fCar fCop fGro fShr hX' hC' hR' ++ wX8 cI (hm 0) (hm 1) (hm 2) (hm 3) (hm 4) (hm 5) 0 aSm' aLn aAt aWe aRm aBm aHa aS' aSv' aCm aRd aBy))) hx hb hml hown hg hK hP hD hS hA hl.1 (k_X8_moveBy l D cI cS cL Z (hm 0) (hm 1) (hm 2) (hm 3) (hm 4) (hm 5) a1 aTh aSm aLn aAt aWe aRm aBm aHa aS aSv aCm aRd aBy e8) gm_X8_moveBy gw_1077 ⟨rfl, rfl, by decide, by decide⟩ ⟨by show 100 + k + 1 ≤ 601024; omega, by show 6000 + 6 * k + 6 ≤ 7293033; omega⟩ pm_l2 pm_l2 fst_X8 rfl rfl rfl rfl rfl (Nat.le_of_ble_eq_true rfl) dL_law_532 (fun H locs hP hD hS => ?_)
    refine lv_istore (lv' := [(6, .int r), (5, .int 0), (4, .int (nI (3 * k))), (0, .ref b), (1, .ref (hh 0)), (2, .ref (hm 0)), (3, .ref ho)]) hx hb dL_law_535 hl (by decide) rfl (fun ls hl => ?_)
    refine lv_aload_n hx hb dL_law_537 rfl (lv_at hl 5 rfl) ?_
    refine cP_i (As := []) (rest := []) (wc := (wX8 cI (hm 0) (hm 1) (hm 2) (hm 3) (hm 4) (hm 5) 0 aSm' aLn aAt aWe aRm aBm aHa aS' aSv' aCm aRd aBy)) (wc' := (wX8 cI (hm 0) (hm 1) (hm 2) (hm 3) (hm 4) (hm 5) 0 aSm' aLn aAt aWe aRm aBm aHa aS' aSv' aCm aRd aBy)) (ws' := ((ho, .inl (cL, 1, .inr (.inl (vp_updL oF 0 (r : Int32).toInt64)))) :: (wX7 cI cS hh vCar' vGoa' vEag tN tF cN cF mP mS kCap kGap' kCar' kCop kGro kShr bN bF rCmd rLet rNum fCap fGap fCar fCop fGro fShr hX' hC' hR' ++ wX8 cI (hm 0) (hm 1) (hm 2) (hm 3) (hm 4) (hm 5) 0 aSm' aLn aAt aWe aRm aBm aHa aS' aSv' aCm aRd aBy))) hx hb hml hown hg hK hP hD hS hA hl.1 (k_X8_thrown l D cI cS cL Z (hm 0) (hm 1) (hm 2) (hm 3) (hm 4) (hm 5) 0 aSm' aLn aAt aWe aRm aBm aHa aS' aSv' aCm aRd aBy (r := 0) rfl) gm_X8_thrown gw_980 ⟨rfl, rfl, by decide, by decide⟩ ⟨by show 100 + k + 1 ≤ 601024; omega, by show 6000 + 6 * k + 6 ≤ 7293033; omega⟩ pm_l2 pm_l2 rfl rfl rfl rfl rfl rfl (Nat.le_of_ble_eq_true rfl) dL_law_538 (fun H locs hP hD hS => ?_)
    refine lv_iload hx hb dL_law_541 (lv_at hl 1 rfl) ?_
    refine lv_icmp_eq (tgt := 548) hx hb dL_law_543 (by decide) (fun _ => ?_) (fun q => absurd rfl q)
    refine lv_iload hx hb dL_law_548 (lv_at hl 1 rfl) ?_
    refine lv_if_ne (tgt := 565) hx hb dL_law_550 (by decide) (fun q => absurd rfl q) (fun _ => ?_)
    refine lv_aload_n hx hb dL_law_553 rfl (lv_at hl 6 rfl) ?_
    refine lv_iconst (v := 0) hx hb dL_law_554 (by decide) ?_
    refine va_lald hx hb hK.1 hP 0 2 rfl rfl (i := 0) (vp_in_nI (n := 0) (by decide) (by decide)) dL_law_555 ?_
    refine nm_l (y := vp_updL oF 0 (r : Int32).toInt64 0) rfl ?_
    refine lv_iload hx hb dL_law_556 (lv_at hl 0 rfl) ?_
    refine lv_i2l (v := (r : Int32).toInt64) hx hb dL_law_558 rfl ?_
    refine W.lcmp hx hb dL_law_559 ?_
    refine nm_i (y := 0) cmp_same.symm ?_
    refine lv_if_eq (tgt := 565) hx hb dL_law_560 (by decide) (fun _ => ?_) (fun q => absurd rfl q)
    refine lv_goto (tgt := 1867) hx hb dL_law_565 (by decide) ?_
    refine lv_iinc (v := nI (3 * (k + 1))) (lv' := [(4, .int (nI (3 * (k + 1)))), (6, .int r), (5, .int 0), (0, .ref b), (1, .ref (hh 0)), (2, .ref (hm 0)), (3, .ref ho)]) hx hb dL_law_1867 hl (k := 2) rfl (it_3 k) (by decide) rfl (fun ls hl => ?_)
    refine lv_goto (tgt := 23) hx hb dL_law_1870 (by decide) ?_
    refine W.widen (k := 100 + (k + 1)) (n := 6000 + 6 * (k + 1)) (by omega) (by omega) ?_
    exact IH (vCar') (vGoa') vEag tN tF cN cF mP mS kCap (kGap') (kCar') kCop kGro kShr bN bF rCmd rLet rNum fCap fGap fCar fCop fGro fShr (hX') (hC') (hR') 0 (aSm') aLn aAt aWe aRm aBm aHa (aS') (aSv') aCm aRd aBy (vp_updL oF 0 (r : Int32).toInt64) hRel H locs hP hD hS ls (lv_sub hl [0, 3, 4, 5, 6] rfl)
  · skip
    refine lv_aload_n hx hb dL_law_512 rfl (lv_at hl 2 rfl) ?_
    refine lv_aload_n hx hb dL_law_513 rfl (lv_at hl 1 rfl) ?_
    refine lv_iload hx hb dL_law_514 (lv_at hl 0 rfl) ?_
    refine lv_iconst (v := 1) hx hb dL_law_516 (by decide) ?_
    refine lv_iadd hx hb dL_law_517 ?_
    refine nm_i (y := nI (3 * k + 1)) (nI_1 (3 * k)).symm ?_
    refine va_sld hx hb hXs hbl hbA hS (vp_in_nI (n := 3 * k + 1) (by omega) (by omega)) dL_law_518 ?_
    refine nm_i ea1 ?_
    refine lv_aload_n hx hb dL_law_519 rfl (lv_at hl 4 rfl) ?_
    refine cW_i (As := [.ref (hh 0), .int a1, .ref ho]) (rest := []) (wc := ((ho, .inl (cL, 1, .inr (.inl oF))) :: wX7 cI cS hh vCar vGoa vEag tN tF cN cF mP mS kCap kGap kCar kCop kGro kShr bN bF rCmd rLet rNum fCap fGap fCar fCop fGro fShr hX hC hR)) (wc' := ((ho, .inl (cL, 1, .inr (.inl oF))) :: wX7 cI cS hh vCar vGoa vEag tN tF cN cF mP mS kCap kGap kCar kCop kGro kShr bN bF rCmd rLet rNum fCap fGap fCar fCop fGro fShr hX hC hR)) (ws' := ((ho, .inl (cL, 1, .inr (.inl oF))) :: (wX7 cI cS hh vCar vGoa vEag tN tF cN cF mP mS kCap kGap kCar kCop kGro kShr bN bF rCmd rLet rNum fCap fGap fCar fCop fGro fShr hX hC hR ++ wX8 cI (hm 0) (hm 1) (hm 2) (hm 3) (hm 4) (hm 5) aTh aSm aLn aAt aWe aRm aBm aHa aS aSv aCm aRd aBy))) hx hb hml hown hg hK hP hD hS hA hl.1 hZ (t1_L_moveBy l hlt D cI cS cL Z hh ho a1 vCar vGoa vEag tN tF cN cF mP mS kCap kGap kCar kCop kGro kShr bN bF rCmd rLet rNum fCap fGap fCar fCop fGro fShr hX hC hR oF e7) gww_L_moveBy gw_697 ⟨rfl, rfl, by decide, by decide⟩ ⟨by show 100 + k + 1 ≤ 601024; omega, by show 6000 + 6 * k + 6 ≤ 7293033; omega⟩ pm_l0 pm_l0 (congrArg (List.cons ho) fst_X7) rfl rfl (Nat.le_of_ble_eq_true rfl) dL_law_520 (fun H locs hP hD hS => ?_)
    refine lv_istore (lv' := [(5, .int 1), (4, .int (nI (3 * k))), (0, .ref b), (1, .ref (hh 0)), (2, .ref (hm 0)), (3, .ref ho)]) hx hb dL_law_523 hl (by decide) rfl (fun ls hl => ?_)
    refine lv_aload_n hx hb dL_law_525 rfl (lv_at hl 4 rfl) ?_
    refine lv_aload_n hx hb dL_law_526 rfl (lv_at hl 2 rfl) ?_
    refine lv_iload hx hb dL_law_527 (lv_at hl 1 rfl) ?_
    refine lv_iconst (v := 1) hx hb dL_law_529 (by decide) ?_
    refine lv_iadd hx hb dL_law_530 ?_
    refine nm_i (y := nI (3 * k + 1)) (nI_1 (3 * k)).symm ?_
    refine va_sld hx hb hXs hbl hbA hS (vp_in_nI (n := 3 * k + 1) (by omega) (by omega)) dL_law_531 ?_
    refine nm_i ea1 ?_
    refine cP_i (As := [.int a1]) (rest := []) (wc := (wX8 cI (hm 0) (hm 1) (hm 2) (hm 3) (hm 4) (hm 5) aTh aSm aLn aAt aWe aRm aBm aHa aS aSv aCm aRd aBy)) (wc' := (wX8 cI (hm 0) (hm 1) (hm 2) (hm 3) (hm 4) (hm 5) 1 aSm' aLn aAt aWe aRm aBm aHa aS' aSv' aCm aRd aBy)) (ws' := ((ho, .inl (cL, 1, .inr (.inl oF))) :: (wX7 cI cS hh vCar vGoa vEag tN tF cN cF mP mS kCap kGap kCar kCop kGro kShr bN bF rCmd rLet rNum fCap fGap fCar fCop fGro fShr hX hC hR ++ wX8 cI (hm 0) (hm 1) (hm 2) (hm 3) (hm 4) (hm 5) 1 aSm' aLn aAt aWe aRm aBm aHa aS' aSv' aCm aRd aBy))) hx hb hml hown hg hK hP hD hS hA hl.1 (k_X8_moveBy l D cI cS cL Z (hm 0) (hm 1) (hm 2) (hm 3) (hm 4) (hm 5) a1 aTh aSm aLn aAt aWe aRm aBm aHa aS aSv aCm aRd aBy e8) gm_X8_moveBy gw_1077 ⟨rfl, rfl, by decide, by decide⟩ ⟨by show 100 + k + 1 ≤ 601024; omega, by show 6000 + 6 * k + 6 ≤ 7293033; omega⟩ pm_l2 pm_l2 fst_X8 rfl rfl rfl rfl rfl (Nat.le_of_ble_eq_true rfl) dL_law_532 (fun H locs hP hD hS => ?_)
    refine lv_istore (lv' := [(6, .int r), (5, .int 1), (4, .int (nI (3 * k))), (0, .ref b), (1, .ref (hh 0)), (2, .ref (hm 0)), (3, .ref ho)]) hx hb dL_law_535 hl (by decide) rfl (fun ls hl => ?_)
    refine lv_aload_n hx hb dL_law_537 rfl (lv_at hl 5 rfl) ?_
    refine cP_i (As := []) (rest := []) (wc := (wX8 cI (hm 0) (hm 1) (hm 2) (hm 3) (hm 4) (hm 5) 1 aSm' aLn aAt aWe aRm aBm aHa aS' aSv' aCm aRd aBy)) (wc' := (wX8 cI (hm 0) (hm 1) (hm 2) (hm 3) (hm 4) (hm 5) 1 aSm' aLn aAt aWe aRm aBm aHa aS' aSv' aCm aRd aBy)) (ws' := ((ho, .inl (cL, 1, .inr (.inl oF))) :: (wX7 cI cS hh vCar vGoa vEag tN tF cN cF mP mS kCap kGap kCar kCop kGro kShr bN bF rCmd rLet rNum fCap fGap fCar fCop fGro fShr hX hC hR ++ wX8 cI (hm 0) (hm 1) (hm 2) (hm 3) (hm 4) (hm 5) 1 aSm' aLn aAt aWe aRm aBm aHa aS' aSv' aCm aRd aBy))) hx hb hml hown hg hK hP hD hS hA hl.1 (k_X8_thrown l D cI cS cL Z (hm 0) (hm 1) (hm 2) (hm 3) (hm 4) (hm 5) 1 aSm' aLn aAt aWe aRm aBm aHa aS' aSv' aCm aRd aBy (r := 1) rfl) gm_X8_thrown gw_980 ⟨rfl, rfl, by decide, by decide⟩ ⟨by show 100 + k + 1 ≤ 601024; omega, by show 6000 + 6 * k + 6 ≤ 7293033; omega⟩ pm_l2 pm_l2 rfl rfl rfl rfl rfl rfl (Nat.le_of_ble_eq_true rfl) dL_law_538 (fun H locs hP hD hS => ?_)
    refine lv_iload hx hb dL_law_541 (lv_at hl 1 rfl) ?_
    refine lv_icmp_eq (tgt := 548) hx hb dL_law_543 (by decide) (fun _ => ?_) (fun q => absurd rfl q)
    refine lv_iload hx hb dL_law_548 (lv_at hl 1 rfl) ?_
    refine lv_if_ne (tgt := 565) hx hb dL_law_550 (by decide) (fun _ => ?_) (fun q => absurd q (by decide))
    refine lv_goto (tgt := 1867) hx hb dL_law_565 (by decide) ?_
    refine lv_iinc (v := nI (3 * (k + 1))) (lv' := [(4, .int (nI (3 * (k + 1)))), (6, .int r), (5, .int 1), (0, .ref b), (1, .ref (hh 0)), (2, .ref (hm 0)), (3, .ref ho)]) hx hb dL_law_1867 hl (k := 2) rfl (it_3 k) (by decide) rfl (fun ls hl => ?_)
    refine lv_goto (tgt := 23) hx hb dL_law_1870 (by decide) ?_
    refine W.widen (k := 100 + (k + 1)) (n := 6000 + 6 * (k + 1)) (by omega) (by omega) ?_
    exact IH vCar vGoa vEag tN tF cN cF mP mS kCap kGap kCar kCop kGro kShr bN bF rCmd rLet rNum fCap fGap fCar fCop fGro fShr hX hC hR 1 (aSm') aLn aAt aWe aRm aBm aHa (aS') (aSv') aCm aRd aBy oF hRel H locs hP hD hS ls (lv_sub hl [0, 3, 4, 5, 6] rfl)
set_option maxRecDepth 100000 in
set_option maxHeartbeats 4000000 in
theorem law_c6 {p : Program} {e : Env} {s : State} {m : MethodId} {below : List Frame} {meth : Method} {c : Code} {l : Launch} (hlt : l.stackTraces = false) {D : va_G} {cI cS cL : ClassId} {b L : Nat} {xs : Nat → Int32} (C0 : lw_At p s m meth c b L xs) (hg : ∀ w ∈ GW, w.before #[Value.ref b] s = true) (hK : kk_ D cI cS cL s) (hZ : zz_ (fun q : Nat => s.heap.size ≤ q) s s.heap) (Z : Nat) (Rel : Int32 → Int32 → Int32 → Int32 → (Nat → Int32) → Int32 → (Nat → Int32) → (Nat → Int32) → (Nat → Int32) → Int32 → Int32 → Int32 → Int32 → Int32 → Int32 → Int32 → (Nat → Int32) → Int32 → Int32 → Int32 → Int32 → Int32 → Int32 → Int32 → Int32 → Int32 → Int32 → Int32 → (Nat → StT) → Int32 → Int32 → Int32 → Int32 → Int32 → Int32 → Int32 → Int64 → (Nat → Int32) → (Nat → Int32) → (Nat → Int32) → (Nat → Int32) → (Nat → Int32) → Prop) (pb : PB_up Z Rel) (hh hm : Nat → Nat) (ho k : Nat) (hk : 3 * k + 2 < L) (hL : L ≤ 1536) (vCar : Int32) (vGoa : Int32) (vEag : Int32) (tN : Int32) (tF : Nat → Int32) (cN : Int32) (cF : Nat → Int32) (mP : Nat → Int32) (mS : Nat → Int32) (kCap : Int32) (kGap : Int32) (kCar : Int32) (kCop : Int32) (kGro : Int32) (kShr : Int32) (bN : Int32) (bF : Nat → Int32) (rCmd : Int32) (rLet : Int32) (rNum : Int32) (fCap : Int32) (fGap : Int32) (fCar : Int32) (fCop : Int32) (fGro : Int32) (fShr : Int32) (hX : Int32) (hC : Int32) (hR : Nat → StT) (aTh : Int32) (aSm : Int32) (aLn : Int32) (aAt : Int32) (aWe : Int32) (aRm : Int32) (aBm : Int32) (aHa : Int64) (aS : Nat → Int32) (aSv : Nat → Int32) (aCm : Nat → Int32) (aRd : Nat → Int32) (aBy : Nat → Int32) (oF : Nat → Int64) (hRel : Rel vCar vGoa vEag tN tF cN cF mP mS kCap kGap kCar kCop kGro kShr bN bF rCmd rLet rNum fCap fGap fCar fCop fGro fShr hX hC hR aTh aSm aLn aAt aWe aRm aBm aHa aS aSv aCm aRd aBy) (H : Heap) (locs : List Loc) (hP : va_P D vwCl (wLW cI cS cL hh hm ho vCar vGoa vEag tN tF cN cF mP mS kCap kGap kCar kCop kGro kShr bN bF rCmd rLet rNum fCap fGap fCar fCop fGro fShr hX hC hR aTh aSm aLn aAt aWe aRm aBm aHa aS aSv aCm aRd aBy oF) H) (hD : va_D (fun q : Nat => s.heap.size ≤ q) (wLW cI cS cL hh hm ho vCar vGoa vEag tN tF cN cF mP mS kCap kGap kCar kCop kGro kShr bN bF rCmd rLet rNum fCap fGap fCar fCop fGro fShr hX hC hR aTh aSm aLn aAt aWe aRm aBm aHa aS aSv aCm aRd aBy oF)) (hS : va_S (fun q : Nat => s.heap.size ≤ q) s.heap H locs) (ls : Array Slot) (hl : lv_has ls 7 [(4, .int (nI (3 * k))), (0, .ref b), (1, .ref (hh 0)), (2, .ref (hm 0)), (3, .ref ho)]) (IH : LH p l e s m b below meth c D cI cS cL hh hm ho (k + 1) Rel) : W p l e room_1 s m #[Value.ref b] below meth c H locs (100 + k) (6000 + 6 * k) (lw_Z below #[Value.ref b] s) (F0 m 568 ls []) := by
  obtain ⟨hx, hb, hr, hml, hown, hts, hXs, hbl, hlocks, hgv⟩ := C0
  have hown : s.vm.findClass RL = some m.cls := hown
  have hA : ∀ q : Nat, s.heap.size ≤ q → (fun q : Nat => s.heap.size ≤ q) q := fun _ h => h
  have hbA : ¬ (fun q : Nat => s.heap.size ≤ q) b := Nat.not_le.mpr hbl
  obtain ⟨a1, ea1⟩ : ∃ y, y = xs (nI (3 * k + 1)).toNatClampNeg := ⟨_, rfl⟩
  obtain ⟨a2, ea2⟩ : ∃ y, y = xs (nI (3 * k + 2)).toNatClampNeg := ⟨_, rfl⟩
  obtain ⟨r, vCar', kGap', kCar', hX', hC', hR', aTh', aSm', aS', aSv', e7, e8, hRel⟩ := pb  vCar vGoa vEag tN tF cN cF mP mS kCap kGap kCar kCop kGro kShr bN bF rCmd rLet rNum fCap fGap fCar fCop fGro fShr hX hC hR aTh aSm aLn aAt aWe aRm aBm aHa aS aSv aCm aRd aBy hRel
  refine lv_aload_n hx hb dL_law_568 rfl (lv_at hl 2 rfl) ?_
  refine cP_i (As := []) (rest := []) (wc := (wX7 cI cS hh vCar vGoa vEag tN tF cN cF mP mS kCap kGap kCar kCop kGro kShr bN bF rCmd rLet rNum fCap fGap fCar fCop fGro fShr hX hC hR)) (wc' := (wX7 cI cS hh vCar' vGoa vEag tN tF cN cF mP mS kCap kGap' kCar' kCop kGro kShr bN bF rCmd rLet rNum fCap fGap fCar fCop fGro fShr hX' hC' hR')) (ws' := ((ho, .inl (cL, 1, .inr (.inl oF))) :: (wX7 cI cS hh vCar' vGoa vEag tN tF cN cF mP mS kCap kGap' kCar' kCop kGro kShr bN bF rCmd rLet rNum fCap fGap fCar fCop fGro fShr hX' hC' hR' ++ wX8 cI (hm 0) (hm 1) (hm 2) (hm 3) (hm 4) (hm 5) aTh aSm aLn aAt aWe aRm aBm aHa aS aSv aCm aRd aBy))) hx hb hml hown hg hK hP hD hS hA hl.1 (k_X7_up l D cI cS cL Z hh vCar vGoa vEag tN tF cN cF mP mS kCap kGap kCar kCop kGro kShr bN bF rCmd rLet rNum fCap fGap fCar fCop fGro fShr hX hC hR e7) gm_X7_up gw_257 ⟨rfl, rfl, by decide, by decide⟩ ⟨by show 100 + k ≤ 601024; omega, by show 6000 + 6 * k ≤ 7293033; omega⟩ pm_l1 pm_l1 fst_X7 rfl rfl rfl rfl rfl (Nat.le_of_ble_eq_true rfl) dL_law_569 (fun H locs hP hD hS => ?_)
  refine lv_aload_n hx hb dL_law_572 rfl (lv_at hl 3 rfl) ?_
  refine cP_i (As := []) (rest := [.int r]) (wc := (wX8 cI (hm 0) (hm 1) (hm 2) (hm 3) (hm 4) (hm 5) aTh aSm aLn aAt aWe aRm aBm aHa aS aSv aCm aRd aBy)) (wc' := (wX8 cI (hm 0) (hm 1) (hm 2) (hm 3) (hm 4) (hm 5) aTh' aSm' aLn aAt aWe aRm aBm aHa aS' aSv' aCm aRd aBy)) (ws' := ((ho, .inl (cL, 1, .inr (.inl oF))) :: (wX7 cI cS hh vCar' vGoa vEag tN tF cN cF mP mS kCap kGap' kCar' kCop kGro kShr bN bF rCmd rLet rNum fCap fGap fCar fCop fGro fShr hX' hC' hR' ++ wX8 cI (hm 0) (hm 1) (hm 2) (hm 3) (hm 4) (hm 5) aTh' aSm' aLn aAt aWe aRm aBm aHa aS' aSv' aCm aRd aBy))) hx hb hml hown hg hK hP hD hS hA hl.1 (k_X8_up l D cI cS cL Z (hm 0) (hm 1) (hm 2) (hm 3) (hm 4) (hm 5) aTh aSm aLn aAt aWe aRm aBm aHa aS aSv aCm aRd aBy e8) gm_X8_up gw_1081 ⟨rfl, rfl, by decide, by decide⟩ ⟨by show 100 + k ≤ 601024; omega, by show 6000 + 6 * k ≤ 7293033; omega⟩ pm_l2 pm_l2 fst_X8 rfl rfl rfl rfl rfl (Nat.le_of_ble_eq_true rfl) dL_law_573 (fun H locs hP hD hS => ?_)
  refine lv_icmp_eq (tgt := 1867) hx hb dL_law_576 (by decide) (fun _ => ?_) (fun q => absurd rfl q)
  refine lv_iinc (v := nI (3 * (k + 1))) (lv' := [(4, .int (nI (3 * (k + 1)))), (0, .ref b), (1, .ref (hh 0)), (2, .ref (hm 0)), (3, .ref ho)]) hx hb dL_law_1867 hl (k := 0) rfl (it_3 k) (by decide) rfl (fun ls hl => ?_)
  refine lv_goto (tgt := 23) hx hb dL_law_1870 (by decide) ?_
  refine W.widen (k := 100 + (k + 1)) (n := 6000 + 6 * (k + 1)) (by omega) (by omega) ?_
  exact IH (vCar') vGoa vEag tN tF cN cF mP mS kCap (kGap') (kCar') kCop kGro kShr bN bF rCmd rLet rNum fCap fGap fCar fCop fGro fShr (hX') (hC') (hR') (aTh') (aSm') aLn aAt aWe aRm aBm aHa (aS') (aSv') aCm aRd aBy oF hRel H locs hP hD hS ls (lv_sub hl [0, 1, 2, 3, 4] rfl)
set_option maxRecDepth 100000 in
set_option maxHeartbeats 4000000 in
theorem law_c7 {p : Program} {e : Env} {s : State} {m : MethodId} {below : List Frame} {meth : Method} {c : Code} {l : Launch} (hlt : l.stackTraces = false) {D : va_G} {cI cS cL : ClassId} {b L : Nat} {xs : Nat → Int32} (C0 : lw_At p s m meth c b L xs) (hg : ∀ w ∈ GW, w.before #[Value.ref b] s = true) (hK : kk_ D cI cS cL s) (hZ : zz_ (fun q : Nat => s.heap.size ≤ q) s s.heap) (Z : Nat) (Rel : Int32 → Int32 → Int32 → Int32 → (Nat → Int32) → Int32 → (Nat → Int32) → (Nat → Int32) → (Nat → Int32) → Int32 → Int32 → Int32 → Int32 → Int32 → Int32 → Int32 → (Nat → Int32) → Int32 → Int32 → Int32 → Int32 → Int32 → Int32 → Int32 → Int32 → Int32 → Int32 → Int32 → (Nat → StT) → Int32 → Int32 → Int32 → Int32 → Int32 → Int32 → Int32 → Int64 → (Nat → Int32) → (Nat → Int32) → (Nat → Int32) → (Nat → Int32) → (Nat → Int32) → Prop) (pb : PB_down Z Rel) (hh hm : Nat → Nat) (ho k : Nat) (hk : 3 * k + 2 < L) (hL : L ≤ 1536) (vCar : Int32) (vGoa : Int32) (vEag : Int32) (tN : Int32) (tF : Nat → Int32) (cN : Int32) (cF : Nat → Int32) (mP : Nat → Int32) (mS : Nat → Int32) (kCap : Int32) (kGap : Int32) (kCar : Int32) (kCop : Int32) (kGro : Int32) (kShr : Int32) (bN : Int32) (bF : Nat → Int32) (rCmd : Int32) (rLet : Int32) (rNum : Int32) (fCap : Int32) (fGap : Int32) (fCar : Int32) (fCop : Int32) (fGro : Int32) (fShr : Int32) (hX : Int32) (hC : Int32) (hR : Nat → StT) (aTh : Int32) (aSm : Int32) (aLn : Int32) (aAt : Int32) (aWe : Int32) (aRm : Int32) (aBm : Int32) (aHa : Int64) (aS : Nat → Int32) (aSv : Nat → Int32) (aCm : Nat → Int32) (aRd : Nat → Int32) (aBy : Nat → Int32) (oF : Nat → Int64) (hRel : Rel vCar vGoa vEag tN tF cN cF mP mS kCap kGap kCar kCop kGro kShr bN bF rCmd rLet rNum fCap fGap fCar fCop fGro fShr hX hC hR aTh aSm aLn aAt aWe aRm aBm aHa aS aSv aCm aRd aBy) (H : Heap) (locs : List Loc) (hP : va_P D vwCl (wLW cI cS cL hh hm ho vCar vGoa vEag tN tF cN cF mP mS kCap kGap kCar kCop kGro kShr bN bF rCmd rLet rNum fCap fGap fCar fCop fGro fShr hX hC hR aTh aSm aLn aAt aWe aRm aBm aHa aS aSv aCm aRd aBy oF) H) (hD : va_D (fun q : Nat => s.heap.size ≤ q) (wLW cI cS cL hh hm ho vCar vGoa vEag tN tF cN cF mP mS kCap kGap kCar kCop kGro kShr bN bF rCmd rLet rNum fCap fGap fCar fCop fGro fShr hX hC hR aTh aSm aLn aAt aWe aRm aBm aHa aS aSv aCm aRd aBy oF)) (hS : va_S (fun q : Nat => s.heap.size ≤ q) s.heap H locs) (ls : Array Slot) (hl : lv_has ls 7 [(4, .int (nI (3 * k))), (0, .ref b), (1, .ref (hh 0)), (2, .ref (hm 0)), (3, .ref ho)]) (IH : LH p l e s m b below meth c D cI cS cL hh hm ho (k + 1) Rel) : W p l e room_1 s m #[Value.ref b] below meth c H locs (100 + k) (6000 + 6 * k) (lw_Z below #[Value.ref b] s) (F0 m 581 ls []) := by
  obtain ⟨hx, hb, hr, hml, hown, hts, hXs, hbl, hlocks, hgv⟩ := C0
  have hown : s.vm.findClass RL = some m.cls := hown
  have hA : ∀ q : Nat, s.heap.size ≤ q → (fun q : Nat => s.heap.size ≤ q) q := fun _ h => h
  have hbA : ¬ (fun q : Nat => s.heap.size ≤ q) b := Nat.not_le.mpr hbl
  obtain ⟨a1, ea1⟩ : ∃ y, y = xs (nI (3 * k + 1)).toNatClampNeg := ⟨_, rfl⟩
  obtain ⟨a2, ea2⟩ : ∃ y, y = xs (nI (3 * k + 2)).toNatClampNeg := ⟨_, rfl⟩
  obtain ⟨r, vCar', kGap', kCar', hX', hC', hR', aTh', aSm', aS', aSv', e7, e8, hRel⟩ := pb  vCar vGoa vEag tN tF cN cF mP mS kCap kGap kCar kCop kGro kShr bN bF rCmd rLet rNum fCap fGap fCar fCop fGro fShr hX hC hR aTh aSm aLn aAt aWe aRm aBm aHa aS aSv aCm aRd aBy hRel
  refine lv_aload_n hx hb dL_law_581 rfl (lv_at hl 2 rfl) ?_
  refine cP_i (As := []) (rest := []) (wc := (wX7 cI cS hh vCar vGoa vEag tN tF cN cF mP mS kCap kGap kCar kCop kGro kShr bN bF rCmd rLet rNum fCap fGap fCar fCop fGro fShr hX hC hR)) (wc' := (wX7 cI cS hh vCar' vGoa vEag tN tF cN cF mP mS kCap kGap' kCar' kCop kGro kShr bN bF rCmd rLet rNum fCap fGap fCar fCop fGro fShr hX' hC' hR')) (ws' := ((ho, .inl (cL, 1, .inr (.inl oF))) :: (wX7 cI cS hh vCar' vGoa vEag tN tF cN cF mP mS kCap kGap' kCar' kCop kGro kShr bN bF rCmd rLet rNum fCap fGap fCar fCop fGro fShr hX' hC' hR' ++ wX8 cI (hm 0) (hm 1) (hm 2) (hm 3) (hm 4) (hm 5) aTh aSm aLn aAt aWe aRm aBm aHa aS aSv aCm aRd aBy))) hx hb hml hown hg hK hP hD hS hA hl.1 (k_X7_down l D cI cS cL Z hh vCar vGoa vEag tN tF cN cF mP mS kCap kGap kCar kCop kGro kShr bN bF rCmd rLet rNum fCap fGap fCar fCop fGro fShr hX hC hR e7) gm_X7_down gw_330 ⟨rfl, rfl, by decide, by decide⟩ ⟨by show 100 + k ≤ 601024; omega, by show 6000 + 6 * k ≤ 7293033; omega⟩ pm_l1 pm_l1 fst_X7 rfl rfl rfl rfl rfl (Nat.le_of_ble_eq_true rfl) dL_law_582 (fun H locs hP hD hS => ?_)
  refine lv_aload_n hx hb dL_law_585 rfl (lv_at hl 3 rfl) ?_
  refine cP_i (As := []) (rest := [.int r]) (wc := (wX8 cI (hm 0) (hm 1) (hm 2) (hm 3) (hm 4) (hm 5) aTh aSm aLn aAt aWe aRm aBm aHa aS aSv aCm aRd aBy)) (wc' := (wX8 cI (hm 0) (hm 1) (hm 2) (hm 3) (hm 4) (hm 5) aTh' aSm' aLn aAt aWe aRm aBm aHa aS' aSv' aCm aRd aBy)) (ws' := ((ho, .inl (cL, 1, .inr (.inl oF))) :: (wX7 cI cS hh vCar' vGoa vEag tN tF cN cF mP mS kCap kGap' kCar' kCop kGro kShr bN bF rCmd rLet rNum fCap fGap fCar fCop fGro fShr hX' hC' hR' ++ wX8 cI (hm 0) (hm 1) (hm 2) (hm 3) (hm 4) (hm 5) aTh' aSm' aLn aAt aWe aRm aBm aHa aS' aSv' aCm aRd aBy))) hx hb hml hown hg hK hP hD hS hA hl.1 (k_X8_down l D cI cS cL Z (hm 0) (hm 1) (hm 2) (hm 3) (hm 4) (hm 5) aTh aSm aLn aAt aWe aRm aBm aHa aS aSv aCm aRd aBy e8) gm_X8_down gw_1093 ⟨rfl, rfl, by decide, by decide⟩ ⟨by show 100 + k ≤ 601024; omega, by show 6000 + 6 * k ≤ 7293033; omega⟩ pm_l2 pm_l2 fst_X8 rfl rfl rfl rfl rfl (Nat.le_of_ble_eq_true rfl) dL_law_586 (fun H locs hP hD hS => ?_)
  refine lv_icmp_eq (tgt := 1867) hx hb dL_law_589 (by decide) (fun _ => ?_) (fun q => absurd rfl q)
  refine lv_iinc (v := nI (3 * (k + 1))) (lv' := [(4, .int (nI (3 * (k + 1)))), (0, .ref b), (1, .ref (hh 0)), (2, .ref (hm 0)), (3, .ref ho)]) hx hb dL_law_1867 hl (k := 0) rfl (it_3 k) (by decide) rfl (fun ls hl => ?_)
  refine lv_goto (tgt := 23) hx hb dL_law_1870 (by decide) ?_
  refine W.widen (k := 100 + (k + 1)) (n := 6000 + 6 * (k + 1)) (by omega) (by omega) ?_
  exact IH (vCar') vGoa vEag tN tF cN cF mP mS kCap (kGap') (kCar') kCop kGro kShr bN bF rCmd rLet rNum fCap fGap fCar fCop fGro fShr (hX') (hC') (hR') (aTh') (aSm') aLn aAt aWe aRm aBm aHa (aS') (aSv') aCm aRd aBy oF hRel H locs hP hD hS ls (lv_sub hl [0, 1, 2, 3, 4] rfl)
set_option maxRecDepth 100000 in
set_option maxHeartbeats 4000000 in
theorem law_c8 {p : Program} {e : Env} {s : State} {m : MethodId} {below : List Frame} {meth : Method} {c : Code} {l : Launch} (hlt : l.stackTraces = false) {D : va_G} {cI cS cL : ClassId} {b L : Nat} {xs : Nat → Int32} (C0 : lw_At p s m meth c b L xs) (hg : ∀ w ∈ GW, w.before #[Value.ref b] s = true) (hK : kk_ D cI cS cL s) (hZ : zz_ (fun q : Nat => s.heap.size ≤ q) s s.heap) (Z : Nat) (Rel : Int32 → Int32 → Int32 → Int32 → (Nat → Int32) → Int32 → (Nat → Int32) → (Nat → Int32) → (Nat → Int32) → Int32 → Int32 → Int32 → Int32 → Int32 → Int32 → Int32 → (Nat → Int32) → Int32 → Int32 → Int32 → Int32 → Int32 → Int32 → Int32 → Int32 → Int32 → Int32 → Int32 → (Nat → StT) → Int32 → Int32 → Int32 → Int32 → Int32 → Int32 → Int32 → Int64 → (Nat → Int32) → (Nat → Int32) → (Nat → Int32) → (Nat → Int32) → (Nat → Int32) → Prop) (pb : PB_moveInLine Z Rel) (hh hm : Nat → Nat) (ho k : Nat) (hk : 3 * k + 2 < L) (hL : L ≤ 1536) (vCar : Int32) (vGoa : Int32) (vEag : Int32) (tN : Int32) (tF : Nat → Int32) (cN : Int32) (cF : Nat → Int32) (mP : Nat → Int32) (mS : Nat → Int32) (kCap : Int32) (kGap : Int32) (kCar : Int32) (kCop : Int32) (kGro : Int32) (kShr : Int32) (bN : Int32) (bF : Nat → Int32) (rCmd : Int32) (rLet : Int32) (rNum : Int32) (fCap : Int32) (fGap : Int32) (fCar : Int32) (fCop : Int32) (fGro : Int32) (fShr : Int32) (hX : Int32) (hC : Int32) (hR : Nat → StT) (aTh : Int32) (aSm : Int32) (aLn : Int32) (aAt : Int32) (aWe : Int32) (aRm : Int32) (aBm : Int32) (aHa : Int64) (aS : Nat → Int32) (aSv : Nat → Int32) (aCm : Nat → Int32) (aRd : Nat → Int32) (aBy : Nat → Int32) (oF : Nat → Int64) (hRel : Rel vCar vGoa vEag tN tF cN cF mP mS kCap kGap kCar kCop kGro kShr bN bF rCmd rLet rNum fCap fGap fCar fCop fGro fShr hX hC hR aTh aSm aLn aAt aWe aRm aBm aHa aS aSv aCm aRd aBy) (H : Heap) (locs : List Loc) (hP : va_P D vwCl (wLW cI cS cL hh hm ho vCar vGoa vEag tN tF cN cF mP mS kCap kGap kCar kCop kGro kShr bN bF rCmd rLet rNum fCap fGap fCar fCop fGro fShr hX hC hR aTh aSm aLn aAt aWe aRm aBm aHa aS aSv aCm aRd aBy oF) H) (hD : va_D (fun q : Nat => s.heap.size ≤ q) (wLW cI cS cL hh hm ho vCar vGoa vEag tN tF cN cF mP mS kCap kGap kCar kCop kGro kShr bN bF rCmd rLet rNum fCap fGap fCar fCop fGro fShr hX hC hR aTh aSm aLn aAt aWe aRm aBm aHa aS aSv aCm aRd aBy oF)) (hS : va_S (fun q : Nat => s.heap.size ≤ q) s.heap H locs) (ls : Array Slot) (hl : lv_has ls 7 [(4, .int (nI (3 * k))), (0, .ref b), (1, .ref (hh 0)), (2, .ref (hm 0)), (3, .ref ho)]) (IH : LH p l e s m b below meth c D cI cS cL hh hm ho (k + 1) Rel) : W p l e room_1 s m #[Value.ref b] below meth c H locs (100 + k) (6000 + 6 * k) (lw_Z below #[Value.ref b] s) (F0 m 594 ls []) := by
  obtain ⟨hx, hb, hr, hml, hown, hts, hXs, hbl, hlocks, hgv⟩ := C0
  have hown : s.vm.findClass RL = some m.cls := hown
  have hA : ∀ q : Nat, s.heap.size ≤ q → (fun q : Nat => s.heap.size ≤ q) q := fun _ h => h
  have hbA : ¬ (fun q : Nat => s.heap.size ≤ q) b := Nat.not_le.mpr hbl
  obtain ⟨a1, ea1⟩ : ∃ y, y = xs (nI (3 * k + 1)).toNatClampNeg := ⟨_, rfl⟩
  obtain ⟨a2, ea2⟩ : ∃ y, y = xs (nI (3 * k + 2)).toNatClampNeg := ⟨_, rfl⟩
  by_cases hq : a1 = 0
  · obtain ⟨r, vCar', vGoa', kGap', kCar', hX', hC', hR', aTh', aSm', aS', aSv', e7, e8, hRel⟩ := pb 0 vCar vGoa vEag tN tF cN cF mP mS kCap kGap kCar kCop kGro kShr bN bF rCmd rLet rNum fCap fGap fCar fCop fGro fShr hX hC hR aTh aSm aLn aAt aWe aRm aBm aHa aS aSv aCm aRd aBy hRel (Or.inl rfl)
    refine lv_aload_n hx hb dL_law_594 rfl (lv_at hl 2 rfl) ?_
    refine lv_aload_n hx hb dL_law_595 rfl (lv_at hl 1 rfl) ?_
    refine lv_iload hx hb dL_law_596 (lv_at hl 0 rfl) ?_
    refine lv_iconst (v := 1) hx hb dL_law_598 (by decide) ?_
    refine lv_iadd hx hb dL_law_599 ?_
    refine nm_i (y := nI (3 * k + 1)) (nI_1 (3 * k)).symm ?_
    refine va_sld hx hb hXs hbl hbA hS (vp_in_nI (n := 3 * k + 1) (by omega) (by omega)) dL_law_600 ?_
    refine nm_i ea1 ?_
    refine lv_if_eq (tgt := 608) hx hb dL_law_601 (by decide) (fun _ => ?_) (fun q => absurd hq q)
    refine lv_iconst (v := 0) hx hb dL_law_608 (by decide) ?_
    refine cP_i (As := [.int 0]) (rest := []) (wc := (wX7 cI cS hh vCar vGoa vEag tN tF cN cF mP mS kCap kGap kCar kCop kGro kShr bN bF rCmd rLet rNum fCap fGap fCar fCop fGro fShr hX hC hR)) (wc' := (wX7 cI cS hh vCar' vGoa' vEag tN tF cN cF mP mS kCap kGap' kCar' kCop kGro kShr bN bF rCmd rLet rNum fCap fGap fCar fCop fGro fShr hX' hC' hR')) (ws' := ((ho, .inl (cL, 1, .inr (.inl oF))) :: (wX7 cI cS hh vCar' vGoa' vEag tN tF cN cF mP mS kCap kGap' kCar' kCop kGro kShr bN bF rCmd rLet rNum fCap fGap fCar fCop fGro fShr hX' hC' hR' ++ wX8 cI (hm 0) (hm 1) (hm 2) (hm 3) (hm 4) (hm 5) aTh aSm aLn aAt aWe aRm aBm aHa aS aSv aCm aRd aBy))) hx hb hml hown hg hK hP hD hS hA hl.1 (k_X7_moveInLine l D cI cS cL Z hh 0 vCar vGoa vEag tN tF cN cF mP mS kCap kGap kCar kCop kGro kShr bN bF rCmd rLet rNum fCap fGap fCar fCop fGro fShr hX hC hR e7) gm_X7_moveInLine gw_338 ⟨rfl, rfl, by decide, by decide⟩ ⟨by show 100 + k ≤ 601024; omega, by show 6000 + 6 * k ≤ 7293033; omega⟩ pm_l1 pm_l1 fst_X7 rfl rfl rfl rfl rfl (Nat.le_of_ble_eq_true rfl) dL_law_609 (fun H locs hP hD hS => ?_)
    refine lv_aload_n hx hb dL_law_612 rfl (lv_at hl 3 rfl) ?_
    refine lv_aload_n hx hb dL_law_613 rfl (lv_at hl 1 rfl) ?_
    refine lv_iload hx hb dL_law_614 (lv_at hl 0 rfl) ?_
    refine lv_iconst (v := 1) hx hb dL_law_616 (by decide) ?_
    refine lv_iadd hx hb dL_law_617 ?_
    refine nm_i (y := nI (3 * k + 1)) (nI_1 (3 * k)).symm ?_
    refine va_sld hx hb hXs hbl hbA hS (vp_in_nI (n := 3 * k + 1) (by omega) (by omega)) dL_law_618 ?_
    refine nm_i ea1 ?_
    refine lv_if_eq (tgt := 626) hx hb dL_law_619 (by decide) (fun _ => ?_) (fun q => absurd hq q)
    refine lv_iconst (v := 0) hx hb dL_law_626 (by decide) ?_
    refine cP_i (As := [.int 0]) (rest := [.int r]) (wc := (wX8 cI (hm 0) (hm 1) (hm 2) (hm 3) (hm 4) (hm 5) aTh aSm aLn aAt aWe aRm aBm aHa aS aSv aCm aRd aBy)) (wc' := (wX8 cI (hm 0) (hm 1) (hm 2) (hm 3) (hm 4) (hm 5) aTh' aSm' aLn aAt aWe aRm aBm aHa aS' aSv' aCm aRd aBy)) (ws' := ((ho, .inl (cL, 1, .inr (.inl oF))) :: (wX7 cI cS hh vCar' vGoa' vEag tN tF cN cF mP mS kCap kGap' kCar' kCop kGro kShr bN bF rCmd rLet rNum fCap fGap fCar fCop fGro fShr hX' hC' hR' ++ wX8 cI (hm 0) (hm 1) (hm 2) (hm 3) (hm 4) (hm 5) aTh' aSm' aLn aAt aWe aRm aBm aHa aS' aSv' aCm aRd aBy))) hx hb hml hown hg hK hP hD hS hA hl.1 (k_X8_moveInLine l D cI cS cL Z (hm 0) (hm 1) (hm 2) (hm 3) (hm 4) (hm 5) 0 aTh aSm aLn aAt aWe aRm aBm aHa aS aSv aCm aRd aBy e8) gm_X8_moveInLine gw_1097 ⟨rfl, rfl, by decide, by decide⟩ ⟨by show 100 + k ≤ 601024; omega, by show 6000 + 6 * k ≤ 7293033; omega⟩ pm_l2 pm_l2 fst_X8 rfl rfl rfl rfl rfl (Nat.le_of_ble_eq_true rfl) dL_law_627 (fun H locs hP hD hS => ?_)
    refine lv_icmp_eq (tgt := 1867) hx hb dL_law_630 (by decide) (fun _ => ?_) (fun q => absurd rfl q)
    refine lv_iinc (v := nI (3 * (k + 1))) (lv' := [(4, .int (nI (3 * (k + 1)))), (0, .ref b), (1, .ref (hh 0)), (2, .ref (hm 0)), (3, .ref ho)]) hx hb dL_law_1867 hl (k := 0) rfl (it_3 k) (by decide) rfl (fun ls hl => ?_)
    refine lv_goto (tgt := 23) hx hb dL_law_1870 (by decide) ?_
    refine W.widen (k := 100 + (k + 1)) (n := 6000 + 6 * (k + 1)) (by omega) (by omega) ?_
    exact IH (vCar') (vGoa') vEag tN tF cN cF mP mS kCap (kGap') (kCar') kCop kGro kShr bN bF rCmd rLet rNum fCap fGap fCar fCop fGro fShr (hX') (hC') (hR') (aTh') (aSm') aLn aAt aWe aRm aBm aHa (aS') (aSv') aCm aRd aBy oF hRel H locs hP hD hS ls (lv_sub hl [0, 1, 2, 3, 4] rfl)
  · obtain ⟨r, vCar', vGoa', kGap', kCar', hX', hC', hR', aTh', aSm', aS', aSv', e7, e8, hRel⟩ := pb 1 vCar vGoa vEag tN tF cN cF mP mS kCap kGap kCar kCop kGro kShr bN bF rCmd rLet rNum fCap fGap fCar fCop fGro fShr hX hC hR aTh aSm aLn aAt aWe aRm aBm aHa aS aSv aCm aRd aBy hRel (Or.inr rfl)
    refine lv_aload_n hx hb dL_law_594 rfl (lv_at hl 2 rfl) ?_
    refine lv_aload_n hx hb dL_law_595 rfl (lv_at hl 1 rfl) ?_
    refine lv_iload hx hb dL_law_596 (lv_at hl 0 rfl) ?_
    refine lv_iconst (v := 1) hx hb dL_law_598 (by decide) ?_
    refine lv_iadd hx hb dL_law_599 ?_
    refine nm_i (y := nI (3 * k + 1)) (nI_1 (3 * k)).symm ?_
    refine va_sld hx hb hXs hbl hbA hS (vp_in_nI (n := 3 * k + 1) (by omega) (by omega)) dL_law_600 ?_
    refine nm_i ea1 ?_
    refine lv_if_eq (tgt := 608) hx hb dL_law_601 (by decide) (fun q => absurd q hq) (fun _ => ?_)
    refine lv_iconst (v := 1) hx hb dL_law_604 (by decide) ?_
    refine lv_goto (tgt := 609) hx hb dL_law_605 (by decide) ?_
    refine cP_i (As := [.int 1]) (rest := []) (wc := (wX7 cI cS hh vCar vGoa vEag tN tF cN cF mP mS kCap kGap kCar kCop kGro kShr bN bF rCmd rLet rNum fCap fGap fCar fCop fGro fShr hX hC hR)) (wc' := (wX7 cI cS hh vCar' vGoa' vEag tN tF cN cF mP mS kCap kGap' kCar' kCop kGro kShr bN bF rCmd rLet rNum fCap fGap fCar fCop fGro fShr hX' hC' hR')) (ws' := ((ho, .inl (cL, 1, .inr (.inl oF))) :: (wX7 cI cS hh vCar' vGoa' vEag tN tF cN cF mP mS kCap kGap' kCar' kCop kGro kShr bN bF rCmd rLet rNum fCap fGap fCar fCop fGro fShr hX' hC' hR' ++ wX8 cI (hm 0) (hm 1) (hm 2) (hm 3) (hm 4) (hm 5) aTh aSm aLn aAt aWe aRm aBm aHa aS aSv aCm aRd aBy))) hx hb hml hown hg hK hP hD hS hA hl.1 (k_X7_moveInLine l D cI cS cL Z hh 1 vCar vGoa vEag tN tF cN cF mP mS kCap kGap kCar kCop kGro kShr bN bF rCmd rLet rNum fCap fGap fCar fCop fGro fShr hX hC hR e7) gm_X7_moveInLine gw_338 ⟨rfl, rfl, by decide, by decide⟩ ⟨by show 100 + k ≤ 601024; omega, by show 6000 + 6 * k ≤ 7293033; omega⟩ pm_l1 pm_l1 fst_X7 rfl rfl rfl rfl rfl (Nat.le_of_ble_eq_true rfl) dL_law_609 (fun H locs hP hD hS => ?_)
    refine lv_aload_n hx hb dL_law_612 rfl (lv_at hl 3 rfl) ?_
    refine lv_aload_n hx hb dL_law_613 rfl (lv_at hl 1 rfl) ?_
    refine lv_iload hx hb dL_law_614 (lv_at hl 0 rfl) ?_
    refine lv_iconst (v := 1) hx hb dL_law_616 (by decide) ?_
    refine lv_iadd hx hb dL_law_617 ?_
    refine nm_i (y := nI (3 * k + 1)) (nI_1 (3 * k)).symm ?_
    refine va_sld hx hb hXs hbl hbA hS (vp_in_nI (n := 3 * k + 1) (by omega) (by omega)) dL_law_618 ?_
    refine nm_i ea1 ?_
    refine lv_if_eq (tgt := 626) hx hb dL_law_619 (by decide) (fun q => absurd q hq) (fun _ => ?_)
    refine lv_iconst (v := 1) hx hb dL_law_622 (by decide) ?_
    refine lv_goto (tgt := 627) hx hb dL_law_623 (by decide) ?_
    refine cP_i (As := [.int 1]) (rest := [.int r]) (wc := (wX8 cI (hm 0) (hm 1) (hm 2) (hm 3) (hm 4) (hm 5) aTh aSm aLn aAt aWe aRm aBm aHa aS aSv aCm aRd aBy)) (wc' := (wX8 cI (hm 0) (hm 1) (hm 2) (hm 3) (hm 4) (hm 5) aTh' aSm' aLn aAt aWe aRm aBm aHa aS' aSv' aCm aRd aBy)) (ws' := ((ho, .inl (cL, 1, .inr (.inl oF))) :: (wX7 cI cS hh vCar' vGoa' vEag tN tF cN cF mP mS kCap kGap' kCar' kCop kGro kShr bN bF rCmd rLet rNum fCap fGap fCar fCop fGro fShr hX' hC' hR' ++ wX8 cI (hm 0) (hm 1) (hm 2) (hm 3) (hm 4) (hm 5) aTh' aSm' aLn aAt aWe aRm aBm aHa aS' aSv' aCm aRd aBy))) hx hb hml hown hg hK hP hD hS hA hl.1 (k_X8_moveInLine l D cI cS cL Z (hm 0) (hm 1) (hm 2) (hm 3) (hm 4) (hm 5) 1 aTh aSm aLn aAt aWe aRm aBm aHa aS aSv aCm aRd aBy e8) gm_X8_moveInLine gw_1097 ⟨rfl, rfl, by decide, by decide⟩ ⟨by show 100 + k ≤ 601024; omega, by show 6000 + 6 * k ≤ 7293033; omega⟩ pm_l2 pm_l2 fst_X8 rfl rfl rfl rfl rfl (Nat.le_of_ble_eq_true rfl) dL_law_627 (fun H locs hP hD hS => ?_)
    refine lv_icmp_eq (tgt := 1867) hx hb dL_law_630 (by decide) (fun _ => ?_) (fun q => absurd rfl q)
    refine lv_iinc (v := nI (3 * (k + 1))) (lv' := [(4, .int (nI (3 * (k + 1)))), (0, .ref b), (1, .ref (hh 0)), (2, .ref (hm 0)), (3, .ref ho)]) hx hb dL_law_1867 hl (k := 0) rfl (it_3 k) (by decide) rfl (fun ls hl => ?_)
    refine lv_goto (tgt := 23) hx hb dL_law_1870 (by decide) ?_
    refine W.widen (k := 100 + (k + 1)) (n := 6000 + 6 * (k + 1)) (by omega) (by omega) ?_
    exact IH (vCar') (vGoa') vEag tN tF cN cF mP mS kCap (kGap') (kCar') kCop kGro kShr bN bF rCmd rLet rNum fCap fGap fCar fCop fGro fShr (hX') (hC') (hR') (aTh') (aSm') aLn aAt aWe aRm aBm aHa (aS') (aSv') aCm aRd aBy oF hRel H locs hP hD hS ls (lv_sub hl [0, 1, 2, 3, 4] rfl)
set_option maxRecDepth 100000 in
set_option maxHeartbeats 4000000 in
theorem law_c9 {p : Program} {e : Env} {s : State} {m : MethodId} {below : List Frame} {meth : Method} {c : Code} {l : Launch} (hlt : l.stackTraces = false) {D : va_G} {cI cS cL : ClassId} {b L : Nat} {xs : Nat → Int32} (C0 : lw_At p s m meth c b L xs) (hg : ∀ w ∈ GW, w.before #[Value.ref b] s = true) (hK : kk_ D cI cS cL s) (hZ : zz_ (fun q : Nat => s.heap.size ≤ q) s s.heap) (Z : Nat) (Rel : Int32 → Int32 → Int32 → Int32 → (Nat → Int32) → Int32 → (Nat → Int32) → (Nat → Int32) → (Nat → Int32) → Int32 → Int32 → Int32 → Int32 → Int32 → Int32 → Int32 → (Nat → Int32) → Int32 → Int32 → Int32 → Int32 → Int32 → Int32 → Int32 → Int32 → Int32 → Int32 → Int32 → (Nat → StT) → Int32 → Int32 → Int32 → Int32 → Int32 → Int32 → Int32 → Int64 → (Nat → Int32) → (Nat → Int32) → (Nat → Int32) → (Nat → Int32) → (Nat → Int32) → Prop) (pb : PB_setEager Z Rel) (hh hm : Nat → Nat) (ho k : Nat) (hk : 3 * k + 2 < L) (hL : L ≤ 1536) (vCar : Int32) (vGoa : Int32) (vEag : Int32) (tN : Int32) (tF : Nat → Int32) (cN : Int32) (cF : Nat → Int32) (mP : Nat → Int32) (mS : Nat → Int32) (kCap : Int32) (kGap : Int32) (kCar : Int32) (kCop : Int32) (kGro : Int32) (kShr : Int32) (bN : Int32) (bF : Nat → Int32) (rCmd : Int32) (rLet : Int32) (rNum : Int32) (fCap : Int32) (fGap : Int32) (fCar : Int32) (fCop : Int32) (fGro : Int32) (fShr : Int32) (hX : Int32) (hC : Int32) (hR : Nat → StT) (aTh : Int32) (aSm : Int32) (aLn : Int32) (aAt : Int32) (aWe : Int32) (aRm : Int32) (aBm : Int32) (aHa : Int64) (aS : Nat → Int32) (aSv : Nat → Int32) (aCm : Nat → Int32) (aRd : Nat → Int32) (aBy : Nat → Int32) (oF : Nat → Int64) (hRel : Rel vCar vGoa vEag tN tF cN cF mP mS kCap kGap kCar kCop kGro kShr bN bF rCmd rLet rNum fCap fGap fCar fCop fGro fShr hX hC hR aTh aSm aLn aAt aWe aRm aBm aHa aS aSv aCm aRd aBy) (H : Heap) (locs : List Loc) (hP : va_P D vwCl (wLW cI cS cL hh hm ho vCar vGoa vEag tN tF cN cF mP mS kCap kGap kCar kCop kGro kShr bN bF rCmd rLet rNum fCap fGap fCar fCop fGro fShr hX hC hR aTh aSm aLn aAt aWe aRm aBm aHa aS aSv aCm aRd aBy oF) H) (hD : va_D (fun q : Nat => s.heap.size ≤ q) (wLW cI cS cL hh hm ho vCar vGoa vEag tN tF cN cF mP mS kCap kGap kCar kCop kGro kShr bN bF rCmd rLet rNum fCap fGap fCar fCop fGro fShr hX hC hR aTh aSm aLn aAt aWe aRm aBm aHa aS aSv aCm aRd aBy oF)) (hS : va_S (fun q : Nat => s.heap.size ≤ q) s.heap H locs) (ls : Array Slot) (hl : lv_has ls 7 [(4, .int (nI (3 * k))), (0, .ref b), (1, .ref (hh 0)), (2, .ref (hm 0)), (3, .ref ho)]) (IH : LH p l e s m b below meth c D cI cS cL hh hm ho (k + 1) Rel) : W p l e room_1 s m #[Value.ref b] below meth c H locs (100 + k) (6000 + 6 * k) (lw_Z below #[Value.ref b] s) (F0 m 635 ls []) := by
  obtain ⟨hx, hb, hr, hml, hown, hts, hXs, hbl, hlocks, hgv⟩ := C0
  have hown : s.vm.findClass RL = some m.cls := hown
  have hA : ∀ q : Nat, s.heap.size ≤ q → (fun q : Nat => s.heap.size ≤ q) q := fun _ h => h
  have hbA : ¬ (fun q : Nat => s.heap.size ≤ q) b := Nat.not_le.mpr hbl
  obtain ⟨a1, ea1⟩ : ∃ y, y = xs (nI (3 * k + 1)).toNatClampNeg := ⟨_, rfl⟩
  obtain ⟨a2, ea2⟩ : ∃ y, y = xs (nI (3 * k + 2)).toNatClampNeg := ⟨_, rfl⟩
  by_cases hq : a1 = 0
  · obtain ⟨r, vEag', kGap', kCar', hX', hC', hR', aTh', aSm', aS', aSv', e7, e8, hRel⟩ := pb 0 vCar vGoa vEag tN tF cN cF mP mS kCap kGap kCar kCop kGro kShr bN bF rCmd rLet rNum fCap fGap fCar fCop fGro fShr hX hC hR aTh aSm aLn aAt aWe aRm aBm aHa aS aSv aCm aRd aBy hRel (Or.inl rfl)
    refine lv_aload_n hx hb dL_law_635 rfl (lv_at hl 2 rfl) ?_
    refine lv_aload_n hx hb dL_law_636 rfl (lv_at hl 1 rfl) ?_
    refine lv_iload hx hb dL_law_637 (lv_at hl 0 rfl) ?_
    refine lv_iconst (v := 1) hx hb dL_law_639 (by decide) ?_
    refine lv_iadd hx hb dL_law_640 ?_
    refine nm_i (y := nI (3 * k + 1)) (nI_1 (3 * k)).symm ?_
    refine va_sld hx hb hXs hbl hbA hS (vp_in_nI (n := 3 * k + 1) (by omega) (by omega)) dL_law_641 ?_
    refine nm_i ea1 ?_
    refine lv_if_eq (tgt := 649) hx hb dL_law_642 (by decide) (fun _ => ?_) (fun q => absurd hq q)
    refine lv_iconst (v := 0) hx hb dL_law_649 (by decide) ?_
    refine cP_i (As := [.int 0]) (rest := []) (wc := (wX7 cI cS hh vCar vGoa vEag tN tF cN cF mP mS kCap kGap kCar kCop kGro kShr bN bF rCmd rLet rNum fCap fGap fCar fCop fGro fShr hX hC hR)) (wc' := (wX7 cI cS hh vCar vGoa vEag' tN tF cN cF mP mS kCap kGap' kCar' kCop kGro kShr bN bF rCmd rLet rNum fCap fGap fCar fCop fGro fShr hX' hC' hR')) (ws' := ((ho, .inl (cL, 1, .inr (.inl oF))) :: (wX7 cI cS hh vCar vGoa vEag' tN tF cN cF mP mS kCap kGap' kCar' kCop kGro kShr bN bF rCmd rLet rNum fCap fGap fCar fCop fGro fShr hX' hC' hR' ++ wX8 cI (hm 0) (hm 1) (hm 2) (hm 3) (hm 4) (hm 5) aTh aSm aLn aAt aWe aRm aBm aHa aS aSv aCm aRd aBy))) hx hb hml hown hg hK hP hD hS hA hl.1 (k_X7_setEager l D cI cS cL Z hh 0 vCar vGoa vEag tN tF cN cF mP mS kCap kGap kCar kCop kGro kShr bN bF rCmd rLet rNum fCap fGap fCar fCop fGro fShr hX hC hR e7) gm_X7_setEager gw_352 ⟨rfl, rfl, by decide, by decide⟩ ⟨by show 100 + k ≤ 601024; omega, by show 6000 + 6 * k ≤ 7293033; omega⟩ pm_l1 pm_l1 fst_X7 rfl rfl rfl rfl rfl (Nat.le_of_ble_eq_true rfl) dL_law_650 (fun H locs hP hD hS => ?_)
    refine lv_aload_n hx hb dL_law_653 rfl (lv_at hl 3 rfl) ?_
    refine lv_aload_n hx hb dL_law_654 rfl (lv_at hl 1 rfl) ?_
    refine lv_iload hx hb dL_law_655 (lv_at hl 0 rfl) ?_
    refine lv_iconst (v := 1) hx hb dL_law_657 (by decide) ?_
    refine lv_iadd hx hb dL_law_658 ?_
    refine nm_i (y := nI (3 * k + 1)) (nI_1 (3 * k)).symm ?_
    refine va_sld hx hb hXs hbl hbA hS (vp_in_nI (n := 3 * k + 1) (by omega) (by omega)) dL_law_659 ?_
    refine nm_i ea1 ?_
    refine lv_if_eq (tgt := 667) hx hb dL_law_660 (by decide) (fun _ => ?_) (fun q => absurd hq q)
    refine lv_iconst (v := 0) hx hb dL_law_667 (by decide) ?_
    refine cP_i (As := [.int 0]) (rest := [.int r]) (wc := (wX8 cI (hm 0) (hm 1) (hm 2) (hm 3) (hm 4) (hm 5) aTh aSm aLn aAt aWe aRm aBm aHa aS aSv aCm aRd aBy)) (wc' := (wX8 cI (hm 0) (hm 1) (hm 2) (hm 3) (hm 4) (hm 5) aTh' aSm' aLn aAt aWe aRm aBm aHa aS' aSv' aCm aRd aBy)) (ws' := ((ho, .inl (cL, 1, .inr (.inl oF))) :: (wX7 cI cS hh vCar vGoa vEag' tN tF cN cF mP mS kCap kGap' kCar' kCop kGro kShr bN bF rCmd rLet rNum fCap fGap fCar fCop fGro fShr hX' hC' hR' ++ wX8 cI (hm 0) (hm 1) (hm 2) (hm 3) (hm 4) (hm 5) aTh' aSm' aLn aAt aWe aRm aBm aHa aS' aSv' aCm aRd aBy))) hx hb hml hown hg hK hP hD hS hA hl.1 (k_X8_setEager l D cI cS cL Z (hm 0) (hm 1) (hm 2) (hm 3) (hm 4) (hm 5) 0 aTh aSm aLn aAt aWe aRm aBm aHa aS aSv aCm aRd aBy e8) gm_X8_setEager gw_1101 ⟨rfl, rfl, by decide, by decide⟩ ⟨by show 100 + k ≤ 601024; omega, by show 6000 + 6 * k ≤ 7293033; omega⟩ pm_l2 pm_l2 fst_X8 rfl rfl rfl rfl rfl (Nat.le_of_ble_eq_true rfl) dL_law_668 (fun H locs hP hD hS => ?_)
    refine lv_icmp_eq (tgt := 1867) hx hb dL_law_671 (by decide) (fun _ => ?_) (fun q => absurd rfl q)
    refine lv_iinc (v := nI (3 * (k + 1))) (lv' := [(4, .int (nI (3 * (k + 1)))), (0, .ref b), (1, .ref (hh 0)), (2, .ref (hm 0)), (3, .ref ho)]) hx hb dL_law_1867 hl (k := 0) rfl (it_3 k) (by decide) rfl (fun ls hl => ?_)
    refine lv_goto (tgt := 23) hx hb dL_law_1870 (by decide) ?_
    refine W.widen (k := 100 + (k + 1)) (n := 6000 + 6 * (k + 1)) (by omega) (by omega) ?_
    exact IH vCar vGoa (vEag') tN tF cN cF mP mS kCap (kGap') (kCar') kCop kGro kShr bN bF rCmd rLet rNum fCap fGap fCar fCop fGro fShr (hX') (hC') (hR') (aTh') (aSm') aLn aAt aWe aRm aBm aHa (aS') (aSv') aCm aRd aBy oF hRel H locs hP hD hS ls (lv_sub hl [0, 1, 2, 3, 4] rfl)
  · obtain ⟨r, vEag', kGap', kCar', hX', hC', hR', aTh', aSm', aS', aSv', e7, e8, hRel⟩ := pb 1 vCar vGoa vEag tN tF cN cF mP mS kCap kGap kCar kCop kGro kShr bN bF rCmd rLet rNum fCap fGap fCar fCop fGro fShr hX hC hR aTh aSm aLn aAt aWe aRm aBm aHa aS aSv aCm aRd aBy hRel (Or.inr rfl)
    refine lv_aload_n hx hb dL_law_635 rfl (lv_at hl 2 rfl) ?_
    refine lv_aload_n hx hb dL_law_636 rfl (lv_at hl 1 rfl) ?_
    refine lv_iload hx hb dL_law_637 (lv_at hl 0 rfl) ?_
    refine lv_iconst (v := 1) hx hb dL_law_639 (by decide) ?_
    refine lv_iadd hx hb dL_law_640 ?_
    refine nm_i (y := nI (3 * k + 1)) (nI_1 (3 * k)).symm ?_
    refine va_sld hx hb hXs hbl hbA hS (vp_in_nI (n := 3 * k + 1) (by omega) (by omega)) dL_law_641 ?_
    refine nm_i ea1 ?_
    refine lv_if_eq (tgt := 649) hx hb dL_law_642 (by decide) (fun q => absurd q hq) (fun _ => ?_)
    refine lv_iconst (v := 1) hx hb dL_law_645 (by decide) ?_
    refine lv_goto (tgt := 650) hx hb dL_law_646 (by decide) ?_
    refine cP_i (As := [.int 1]) (rest := []) (wc := (wX7 cI cS hh vCar vGoa vEag tN tF cN cF mP mS kCap kGap kCar kCop kGro kShr bN bF rCmd rLet rNum fCap fGap fCar fCop fGro fShr hX hC hR)) (wc' := (wX7 cI cS hh vCar vGoa vEag' tN tF cN cF mP mS kCap kGap' kCar' kCop kGro kShr bN bF rCmd rLet rNum fCap fGap fCar fCop fGro fShr hX' hC' hR')) (ws' := ((ho, .inl (cL, 1, .inr (.inl oF))) :: (wX7 cI cS hh vCar vGoa vEag' tN tF cN cF mP mS kCap kGap' kCar' kCop kGro kShr bN bF rCmd rLet rNum fCap fGap fCar fCop fGro fShr hX' hC' hR' ++ wX8 cI (hm 0) (hm 1) (hm 2) (hm 3) (hm 4) (hm 5) aTh aSm aLn aAt aWe aRm aBm aHa aS aSv aCm aRd aBy))) hx hb hml hown hg hK hP hD hS hA hl.1 (k_X7_setEager l D cI cS cL Z hh 1 vCar vGoa vEag tN tF cN cF mP mS kCap kGap kCar kCop kGro kShr bN bF rCmd rLet rNum fCap fGap fCar fCop fGro fShr hX hC hR e7) gm_X7_setEager gw_352 ⟨rfl, rfl, by decide, by decide⟩ ⟨by show 100 + k ≤ 601024; omega, by show 6000 + 6 * k ≤ 7293033; omega⟩ pm_l1 pm_l1 fst_X7 rfl rfl rfl rfl rfl (Nat.le_of_ble_eq_true rfl) dL_law_650 (fun H locs hP hD hS => ?_)
    refine lv_aload_n hx hb dL_law_653 rfl (lv_at hl 3 rfl) ?_
    refine lv_aload_n hx hb dL_law_654 rfl (lv_at hl 1 rfl) ?_
    refine lv_iload hx hb dL_law_655 (lv_at hl 0 rfl) ?_
    refine lv_iconst (v := 1) hx hb dL_law_657 (by decide) ?_
    refine lv_iadd hx hb dL_law_658 ?_
    refine nm_i (y := nI (3 * k + 1)) (nI_1 (3 * k)).symm ?_
    refine va_sld hx hb hXs hbl hbA hS (vp_in_nI (n := 3 * k + 1) (by omega) (by omega)) dL_law_659 ?_
    refine nm_i ea1 ?_
    refine lv_if_eq (tgt := 667) hx hb dL_law_660 (by decide) (fun q => absurd q hq) (fun _ => ?_)
    refine lv_iconst (v := 1) hx hb dL_law_663 (by decide) ?_
    refine lv_goto (tgt := 668) hx hb dL_law_664 (by decide) ?_
    refine cP_i (As := [.int 1]) (rest := [.int r]) (wc := (wX8 cI (hm 0) (hm 1) (hm 2) (hm 3) (hm 4) (hm 5) aTh aSm aLn aAt aWe aRm aBm aHa aS aSv aCm aRd aBy)) (wc' := (wX8 cI (hm 0) (hm 1) (hm 2) (hm 3) (hm 4) (hm 5) aTh' aSm' aLn aAt aWe aRm aBm aHa aS' aSv' aCm aRd aBy)) (ws' := ((ho, .inl (cL, 1, .inr (.inl oF))) :: (wX7 cI cS hh vCar vGoa vEag' tN tF cN cF mP mS kCap kGap' kCar' kCop kGro kShr bN bF rCmd rLet rNum fCap fGap fCar fCop fGro fShr hX' hC' hR' ++ wX8 cI (hm 0) (hm 1) (hm 2) (hm 3) (hm 4) (hm 5) aTh' aSm' aLn aAt aWe aRm aBm aHa aS' aSv' aCm aRd aBy))) hx hb hml hown hg hK hP hD hS hA hl.1 (k_X8_setEager l D cI cS cL Z (hm 0) (hm 1) (hm 2) (hm 3) (hm 4) (hm 5) 1 aTh aSm aLn aAt aWe aRm aBm aHa aS aSv aCm aRd aBy e8) gm_X8_setEager gw_1101 ⟨rfl, rfl, by decide, by decide⟩ ⟨by show 100 + k ≤ 601024; omega, by show 6000 + 6 * k ≤ 7293033; omega⟩ pm_l2 pm_l2 fst_X8 rfl rfl rfl rfl rfl (Nat.le_of_ble_eq_true rfl) dL_law_668 (fun H locs hP hD hS => ?_)
    refine lv_icmp_eq (tgt := 1867) hx hb dL_law_671 (by decide) (fun _ => ?_) (fun q => absurd rfl q)
    refine lv_iinc (v := nI (3 * (k + 1))) (lv' := [(4, .int (nI (3 * (k + 1)))), (0, .ref b), (1, .ref (hh 0)), (2, .ref (hm 0)), (3, .ref ho)]) hx hb dL_law_1867 hl (k := 0) rfl (it_3 k) (by decide) rfl (fun ls hl => ?_)
    refine lv_goto (tgt := 23) hx hb dL_law_1870 (by decide) ?_
    refine W.widen (k := 100 + (k + 1)) (n := 6000 + 6 * (k + 1)) (by omega) (by omega) ?_
    exact IH vCar vGoa (vEag') tN tF cN cF mP mS kCap (kGap') (kCar') kCop kGro kShr bN bF rCmd rLet rNum fCap fGap fCar fCop fGro fShr (hX') (hC') (hR') (aTh') (aSm') aLn aAt aWe aRm aBm aHa (aS') (aSv') aCm aRd aBy oF hRel H locs hP hD hS ls (lv_sub hl [0, 1, 2, 3, 4] rfl)
set_option maxRecDepth 100000 in
set_option maxHeartbeats 4000000 in
theorem law_c10 {p : Program} {e : Env} {s : State} {m : MethodId} {below : List Frame} {meth : Method} {c : Code} {l : Launch} (hlt : l.stackTraces = false) {D : va_G} {cI cS cL : ClassId} {b L : Nat} {xs : Nat → Int32} (C0 : lw_At p s m meth c b L xs) (hg : ∀ w ∈ GW, w.before #[Value.ref b] s = true) (hK : kk_ D cI cS cL s) (hZ : zz_ (fun q : Nat => s.heap.size ≤ q) s s.heap) (Z : Nat) (Rel : Int32 → Int32 → Int32 → Int32 → (Nat → Int32) → Int32 → (Nat → Int32) → (Nat → Int32) → (Nat → Int32) → Int32 → Int32 → Int32 → Int32 → Int32 → Int32 → Int32 → (Nat → Int32) → Int32 → Int32 → Int32 → Int32 → Int32 → Int32 → Int32 → Int32 → Int32 → Int32 → Int32 → (Nat → StT) → Int32 → Int32 → Int32 → Int32 → Int32 → Int32 → Int32 → Int64 → (Nat → Int32) → (Nat → Int32) → (Nat → Int32) → (Nat → Int32) → (Nat → Int32) → Prop) (pb : PB_setMark Z Rel) (hh hm : Nat → Nat) (ho k : Nat) (hk : 3 * k + 2 < L) (hL : L ≤ 1536) (vCar : Int32) (vGoa : Int32) (vEag : Int32) (tN : Int32) (tF : Nat → Int32) (cN : Int32) (cF : Nat → Int32) (mP : Nat → Int32) (mS : Nat → Int32) (kCap : Int32) (kGap : Int32) (kCar : Int32) (kCop : Int32) (kGro : Int32) (kShr : Int32) (bN : Int32) (bF : Nat → Int32) (rCmd : Int32) (rLet : Int32) (rNum : Int32) (fCap : Int32) (fGap : Int32) (fCar : Int32) (fCop : Int32) (fGro : Int32) (fShr : Int32) (hX : Int32) (hC : Int32) (hR : Nat → StT) (aTh : Int32) (aSm : Int32) (aLn : Int32) (aAt : Int32) (aWe : Int32) (aRm : Int32) (aBm : Int32) (aHa : Int64) (aS : Nat → Int32) (aSv : Nat → Int32) (aCm : Nat → Int32) (aRd : Nat → Int32) (aBy : Nat → Int32) (oF : Nat → Int64) (hRel : Rel vCar vGoa vEag tN tF cN cF mP mS kCap kGap kCar kCop kGro kShr bN bF rCmd rLet rNum fCap fGap fCar fCop fGro fShr hX hC hR aTh aSm aLn aAt aWe aRm aBm aHa aS aSv aCm aRd aBy) (H : Heap) (locs : List Loc) (hP : va_P D vwCl (wLW cI cS cL hh hm ho vCar vGoa vEag tN tF cN cF mP mS kCap kGap kCar kCop kGro kShr bN bF rCmd rLet rNum fCap fGap fCar fCop fGro fShr hX hC hR aTh aSm aLn aAt aWe aRm aBm aHa aS aSv aCm aRd aBy oF) H) (hD : va_D (fun q : Nat => s.heap.size ≤ q) (wLW cI cS cL hh hm ho vCar vGoa vEag tN tF cN cF mP mS kCap kGap kCar kCop kGro kShr bN bF rCmd rLet rNum fCap fGap fCar fCop fGro fShr hX hC hR aTh aSm aLn aAt aWe aRm aBm aHa aS aSv aCm aRd aBy oF)) (hS : va_S (fun q : Nat => s.heap.size ≤ q) s.heap H locs) (ls : Array Slot) (hl : lv_has ls 7 [(4, .int (nI (3 * k))), (0, .ref b), (1, .ref (hh 0)), (2, .ref (hm 0)), (3, .ref ho)]) (IH : LH p l e s m b below meth c D cI cS cL hh hm ho (k + 1) Rel) : W p l e room_1 s m #[Value.ref b] below meth c H locs (100 + k) (6000 + 6 * k) (lw_Z below #[Value.ref b] s) (F0 m 676 ls []) := by
  obtain ⟨hx, hb, hr, hml, hown, hts, hXs, hbl, hlocks, hgv⟩ := C0
  have hown : s.vm.findClass RL = some m.cls := hown
  have hA : ∀ q : Nat, s.heap.size ≤ q → (fun q : Nat => s.heap.size ≤ q) q := fun _ h => h
  have hbA : ¬ (fun q : Nat => s.heap.size ≤ q) b := Nat.not_le.mpr hbl
  obtain ⟨a1, ea1⟩ : ∃ y, y = xs (nI (3 * k + 1)).toNatClampNeg := ⟨_, rfl⟩
  obtain ⟨a2, ea2⟩ : ∃ y, y = xs (nI (3 * k + 2)).toNatClampNeg := ⟨_, rfl⟩
  rcases pb a1 a2 vCar vGoa vEag tN tF cN cF mP mS kCap kGap kCar kCop kGro kShr bN bF rCmd rLet rNum fCap fGap fCar fCop fGro fShr hX hC hR aTh aSm aLn aAt aWe aRm aBm aHa aS aSv aCm aRd aBy hRel with ⟨r, mP', mS', hX', hC', hR', aSm', aS', aSv', e7, e8, hRel⟩ | ⟨r, aSm', aS', aSv', e7, e8, hRel⟩ | ⟨r, aSm', aS', aSv', e7, e8, hRel⟩
  · skip
    refine lv_aload_n hx hb dL_law_676 rfl (lv_at hl 2 rfl) ?_
    refine lv_aload_n hx hb dL_law_677 rfl (lv_at hl 1 rfl) ?_
    refine lv_iload hx hb dL_law_678 (lv_at hl 0 rfl) ?_
    refine lv_iconst (v := 1) hx hb dL_law_680 (by decide) ?_
    refine lv_iadd hx hb dL_law_681 ?_
    refine nm_i (y := nI (3 * k + 1)) (nI_1 (3 * k)).symm ?_
    refine va_sld hx hb hXs hbl hbA hS (vp_in_nI (n := 3 * k + 1) (by omega) (by omega)) dL_law_682 ?_
    refine nm_i ea1 ?_
    refine lv_aload_n hx hb dL_law_683 rfl (lv_at hl 1 rfl) ?_
    refine lv_iload hx hb dL_law_684 (lv_at hl 0 rfl) ?_
    refine lv_iconst (v := 2) hx hb dL_law_686 (by decide) ?_
    refine lv_iadd hx hb dL_law_687 ?_
    refine nm_i (y := nI (3 * k + 2)) (nI_2 (3 * k)).symm ?_
    refine va_sld hx hb hXs hbl hbA hS (vp_in_nI (n := 3 * k + 2) (by omega) (by omega)) dL_law_688 ?_
    refine nm_i ea2 ?_
    refine lv_aload_n hx hb dL_law_689 rfl (lv_at hl 4 rfl) ?_
    refine cW_i (As := [.ref (hh 0), .int a1, .int a2, .ref ho]) (rest := []) (wc := ((ho, .inl (cL, 1, .inr (.inl oF))) :: wX7 cI cS hh vCar vGoa vEag tN tF cN cF mP mS kCap kGap kCar kCop kGro kShr bN bF rCmd rLet rNum fCap fGap fCar fCop fGro fShr hX hC hR)) (wc' := ((ho, .inl (cL, 1, .inr (.inl (vp_updL oF 0 (r : Int32).toInt64)))) :: wX7 cI cS hh vCar vGoa vEag tN tF cN cF mP' mS' kCap kGap kCar kCop kGro kShr bN bF rCmd rLet rNum fCap fGap fCar fCop fGro fShr hX' hC' hR')) (ws' := ((ho, .inl (cL, 1, .inr (.inl (vp_updL oF 0 (r : Int32).toInt64)))) :: (wX7 cI cS hh vCar vGoa vEag tN tF cN cF mP' mS' kCap kGap kCar kCop kGro kShr bN bF rCmd rLet rNum fCap fGap fCar fCop fGro fShr hX' hC' hR' ++ wX8 cI (hm 0) (hm 1) (hm 2) (hm 3) (hm 4) (hm 5) aTh aSm aLn aAt aWe aRm aBm aHa aS aSv aCm aRd aBy))) hx hb hml hown hg hK hP hD hS hA hl.1 hZ (k_L_setMark l D cI cS cL Z hh ho a1 a2 vCar vGoa vEag tN tF cN cF mP mS kCap kGap kCar kCop kGro kShr bN bF rCmd rLet rNum fCap fGap fCar fCop fGro fShr hX hC hR oF e7) gww_L_setMark gw_706 ⟨rfl, rfl, by decide, by decide⟩ ⟨by show 100 + k + 1 ≤ 601024; omega, by show 6000 + 6 * k + 6 ≤ 7293033; omega⟩ pm_l0 pm_l0 (congrArg (List.cons ho) fst_X7) rfl rfl (Nat.le_of_ble_eq_true rfl) dL_law_690 (fun H locs hP hD hS => ?_)
    refine lv_istore (lv' := [(5, .int 0), (4, .int (nI (3 * k))), (0, .ref b), (1, .ref (hh 0)), (2, .ref (hm 0)), (3, .ref ho)]) hx hb dL_law_693 hl (by decide) rfl (fun ls hl => ?_)
    refine lv_aload_n hx hb dL_law_695 rfl (lv_at hl 4 rfl) ?_
    refine lv_aload_n hx hb dL_law_696 rfl (lv_at hl 2 rfl) ?_
    refine lv_iload hx hb dL_law_697 (lv_at hl 1 rfl) ?_
    refine lv_iconst (v := 1) hx hb dL_law_699 (by decide) ?_
    refine lv_iadd hx hb dL_law_700 ?_
    refine nm_i (y := nI (3 * k + 1)) (nI_1 (3 * k)).symm ?_
    refine va_sld hx hb hXs hbl hbA hS (vp_in_nI (n := 3 * k + 1) (by omega) (by omega)) dL_law_701 ?_
    refine nm_i ea1 ?_
    refine lv_aload_n hx hb dL_law_702 rfl (lv_at hl 2 rfl) ?_
    refine lv_iload hx hb dL_law_703 (lv_at hl 1 rfl) ?_
    refine lv_iconst (v := 2) hx hb dL_law_705 (by decide) ?_
    refine lv_iadd hx hb dL_law_706 ?_
    refine nm_i (y := nI (3 * k + 2)) (nI_2 (3 * k)).symm ?_
    refine va_sld hx hb hXs hbl hbA hS (vp_in_nI (n := 3 * k + 2) (by omega) (by omega)) dL_law_707 ?_
    refine nm_i ea2 ?_
    refine cP_i (As := [.int a1, .int a2]) (rest := []) (wc := (wX8 cI (hm 0) (hm 1) (hm 2) (hm 3) (hm 4) (hm 5) aTh aSm aLn aAt aWe aRm aBm aHa aS aSv aCm aRd aBy)) (wc' := (wX8 cI (hm 0) (hm 1) (hm 2) (hm 3) (hm 4) (hm 5) 0 aSm' aLn aAt aWe aRm aBm aHa aS' aSv' aCm aRd aBy)) (ws' := ((ho, .inl (cL, 1, .inr (.inl (vp_updL oF 0 (r : Int32).toInt64)))) :: (wX7 cI cS hh vCar vGoa vEag tN tF cN cF mP' mS' kCap kGap kCar kCop kGro kShr bN bF rCmd rLet rNum fCap fGap fCar fCop fGro fShr hX' hC' hR' ++ wX8 cI (hm 0) (hm 1) (hm 2) (hm 3) (hm 4) (hm 5) 0 aSm' aLn aAt aWe aRm aBm aHa aS' aSv' aCm aRd aBy))) hx hb hml hown hg hK hP hD hS hA hl.1 (k_X8_setMark l D cI cS cL Z (hm 0) (hm 1) (hm 2) (hm 3) (hm 4) (hm 5) a1 a2 aTh aSm aLn aAt aWe aRm aBm aHa aS aSv aCm aRd aBy e8) gm_X8_setMark gw_1105 ⟨rfl, rfl, by decide, by decide⟩ ⟨by show 100 + k + 1 ≤ 601024; omega, by show 6000 + 6 * k + 6 ≤ 7293033; omega⟩ pm_l2 pm_l2 fst_X8 rfl rfl rfl rfl rfl (Nat.le_of_ble_eq_true rfl) dL_law_708 (fun H locs hP hD hS => ?_)
    refine lv_istore (lv' := [(6, .int r), (5, .int 0), (4, .int (nI (3 * k))), (0, .ref b), (1, .ref (hh 0)), (2, .ref (hm 0)), (3, .ref ho)]) hx hb dL_law_711 hl (by decide) rfl (fun ls hl => ?_)
    refine lv_aload_n hx hb dL_law_713 rfl (lv_at hl 5 rfl) ?_
    refine cP_i (As := []) (rest := []) (wc := (wX8 cI (hm 0) (hm 1) (hm 2) (hm 3) (hm 4) (hm 5) 0 aSm' aLn aAt aWe aRm aBm aHa aS' aSv' aCm aRd aBy)) (wc' := (wX8 cI (hm 0) (hm 1) (hm 2) (hm 3) (hm 4) (hm 5) 0 aSm' aLn aAt aWe aRm aBm aHa aS' aSv' aCm aRd aBy)) (ws' := ((ho, .inl (cL, 1, .inr (.inl (vp_updL oF 0 (r : Int32).toInt64)))) :: (wX7 cI cS hh vCar vGoa vEag tN tF cN cF mP' mS' kCap kGap kCar kCop kGro kShr bN bF rCmd rLet rNum fCap fGap fCar fCop fGro fShr hX' hC' hR' ++ wX8 cI (hm 0) (hm 1) (hm 2) (hm 3) (hm 4) (hm 5) 0 aSm' aLn aAt aWe aRm aBm aHa aS' aSv' aCm aRd aBy))) hx hb hml hown hg hK hP hD hS hA hl.1 (k_X8_thrown l D cI cS cL Z (hm 0) (hm 1) (hm 2) (hm 3) (hm 4) (hm 5) 0 aSm' aLn aAt aWe aRm aBm aHa aS' aSv' aCm aRd aBy (r := 0) rfl) gm_X8_thrown gw_980 ⟨rfl, rfl, by decide, by decide⟩ ⟨by show 100 + k + 1 ≤ 601024; omega, by show 6000 + 6 * k + 6 ≤ 7293033; omega⟩ pm_l2 pm_l2 rfl rfl rfl rfl rfl rfl (Nat.le_of_ble_eq_true rfl) dL_law_714 (fun H locs hP hD hS => ?_)
    refine lv_iload hx hb dL_law_717 (lv_at hl 1 rfl) ?_
    refine lv_icmp_eq (tgt := 724) hx hb dL_law_719 (by decide) (fun _ => ?_) (fun q => absurd rfl q)
    refine lv_iload hx hb dL_law_724 (lv_at hl 1 rfl) ?_
    refine lv_if_ne (tgt := 741) hx hb dL_law_726 (by decide) (fun q => absurd rfl q) (fun _ => ?_)
    refine lv_aload_n hx hb dL_law_729 rfl (lv_at hl 6 rfl) ?_
    refine lv_iconst (v := 0) hx hb dL_law_730 (by decide) ?_
    refine va_lald hx hb hK.1 hP 0 2 rfl rfl (i := 0) (vp_in_nI (n := 0) (by decide) (by decide)) dL_law_731 ?_
    refine nm_l (y := vp_updL oF 0 (r : Int32).toInt64 0) rfl ?_
    refine lv_iload hx hb dL_law_732 (lv_at hl 0 rfl) ?_
    refine lv_i2l (v := (r : Int32).toInt64) hx hb dL_law_734 rfl ?_
    refine W.lcmp hx hb dL_law_735 ?_
    refine nm_i (y := 0) cmp_same.symm ?_
    refine lv_if_eq (tgt := 741) hx hb dL_law_736 (by decide) (fun _ => ?_) (fun q => absurd rfl q)
    refine lv_goto (tgt := 1867) hx hb dL_law_741 (by decide) ?_
    refine lv_iinc (v := nI (3 * (k + 1))) (lv' := [(4, .int (nI (3 * (k + 1)))), (6, .int r), (5, .int 0), (0, .ref b), (1, .ref (hh 0)), (2, .ref (hm 0)), (3, .ref ho)]) hx hb dL_law_1867 hl (k := 2) rfl (it_3 k) (by decide) rfl (fun ls hl => ?_)
    refine lv_goto (tgt := 23) hx hb dL_law_1870 (by decide) ?_
    refine W.widen (k := 100 + (k + 1)) (n := 6000 + 6 * (k + 1)) (by omega) (by omega) ?_
    exact IH vCar vGoa vEag tN tF cN cF (mP') (mS') kCap kGap kCar kCop kGro kShr bN bF rCmd rLet rNum fCap fGap fCar fCop fGro fShr (hX') (hC') (hR') 0 (aSm') aLn aAt aWe aRm aBm aHa (aS') (aSv') aCm aRd aBy (vp_updL oF 0 (r : Int32).toInt64) hRel H locs hP hD hS ls (lv_sub hl [0, 3, 4, 5, 6] rfl)
  · skip
    refine lv_aload_n hx hb dL_law_676 rfl (lv_at hl 2 rfl) ?_
    refine lv_aload_n hx hb dL_law_677 rfl (lv_at hl 1 rfl) ?_
    refine lv_iload hx hb dL_law_678 (lv_at hl 0 rfl) ?_
    refine lv_iconst (v := 1) hx hb dL_law_680 (by decide) ?_
    refine lv_iadd hx hb dL_law_681 ?_
    refine nm_i (y := nI (3 * k + 1)) (nI_1 (3 * k)).symm ?_
    refine va_sld hx hb hXs hbl hbA hS (vp_in_nI (n := 3 * k + 1) (by omega) (by omega)) dL_law_682 ?_
    refine nm_i ea1 ?_
    refine lv_aload_n hx hb dL_law_683 rfl (lv_at hl 1 rfl) ?_
    refine lv_iload hx hb dL_law_684 (lv_at hl 0 rfl) ?_
    refine lv_iconst (v := 2) hx hb dL_law_686 (by decide) ?_
    refine lv_iadd hx hb dL_law_687 ?_
    refine nm_i (y := nI (3 * k + 2)) (nI_2 (3 * k)).symm ?_
    refine va_sld hx hb hXs hbl hbA hS (vp_in_nI (n := 3 * k + 2) (by omega) (by omega)) dL_law_688 ?_
    refine nm_i ea2 ?_
    refine lv_aload_n hx hb dL_law_689 rfl (lv_at hl 4 rfl) ?_
    refine cW_i (As := [.ref (hh 0), .int a1, .int a2, .ref ho]) (rest := []) (wc := ((ho, .inl (cL, 1, .inr (.inl oF))) :: wX7 cI cS hh vCar vGoa vEag tN tF cN cF mP mS kCap kGap kCar kCop kGro kShr bN bF rCmd rLet rNum fCap fGap fCar fCop fGro fShr hX hC hR)) (wc' := ((ho, .inl (cL, 1, .inr (.inl oF))) :: wX7 cI cS hh vCar vGoa vEag tN tF cN cF mP mS kCap kGap kCar kCop kGro kShr bN bF rCmd rLet rNum fCap fGap fCar fCop fGro fShr hX hC hR)) (ws' := ((ho, .inl (cL, 1, .inr (.inl oF))) :: (wX7 cI cS hh vCar vGoa vEag tN tF cN cF mP mS kCap kGap kCar kCop kGro kShr bN bF rCmd rLet rNum fCap fGap fCar fCop fGro fShr hX hC hR ++ wX8 cI (hm 0) (hm 1) (hm 2) (hm 3) (hm 4) (hm 5) aTh aSm aLn aAt aWe aRm aBm aHa aS aSv aCm aRd aBy))) hx hb hml hown hg hK hP hD hS hA hl.1 hZ (t1_L_setMark l hlt D cI cS cL Z hh ho a1 a2 vCar vGoa vEag tN tF cN cF mP mS kCap kGap kCar kCop kGro kShr bN bF rCmd rLet rNum fCap fGap fCar fCop fGro fShr hX hC hR oF e7) gww_L_setMark gw_706 ⟨rfl, rfl, by decide, by decide⟩ ⟨by show 100 + k + 1 ≤ 601024; omega, by show 6000 + 6 * k + 6 ≤ 7293033; omega⟩ pm_l0 pm_l0 (congrArg (List.cons ho) fst_X7) rfl rfl (Nat.le_of_ble_eq_true rfl) dL_law_690 (fun H locs hP hD hS => ?_)
    refine lv_istore (lv' := [(5, .int 1), (4, .int (nI (3 * k))), (0, .ref b), (1, .ref (hh 0)), (2, .ref (hm 0)), (3, .ref ho)]) hx hb dL_law_693 hl (by decide) rfl (fun ls hl => ?_)
    refine lv_aload_n hx hb dL_law_695 rfl (lv_at hl 4 rfl) ?_
    refine lv_aload_n hx hb dL_law_696 rfl (lv_at hl 2 rfl) ?_
    refine lv_iload hx hb dL_law_697 (lv_at hl 1 rfl) ?_
    refine lv_iconst (v := 1) hx hb dL_law_699 (by decide) ?_
    refine lv_iadd hx hb dL_law_700 ?_
    refine nm_i (y := nI (3 * k + 1)) (nI_1 (3 * k)).symm ?_
    refine va_sld hx hb hXs hbl hbA hS (vp_in_nI (n := 3 * k + 1) (by omega) (by omega)) dL_law_701 ?_
    refine nm_i ea1 ?_
    refine lv_aload_n hx hb dL_law_702 rfl (lv_at hl 2 rfl) ?_
    refine lv_iload hx hb dL_law_703 (lv_at hl 1 rfl) ?_
    refine lv_iconst (v := 2) hx hb dL_law_705 (by decide) ?_
    refine lv_iadd hx hb dL_law_706 ?_
    refine nm_i (y := nI (3 * k + 2)) (nI_2 (3 * k)).symm ?_
    refine va_sld hx hb hXs hbl hbA hS (vp_in_nI (n := 3 * k + 2) (by omega) (by omega)) dL_law_707 ?_
    refine nm_i ea2 ?_
    refine cP_i (As := [.int a1, .int a2]) (rest := []) (wc := (wX8 cI (hm 0) (hm 1) (hm 2) (hm 3) (hm 4) (hm 5) aTh aSm aLn aAt aWe aRm aBm aHa aS aSv aCm aRd aBy)) (wc' := (wX8 cI (hm 0) (hm 1) (hm 2) (hm 3) (hm 4) (hm 5) 1 aSm' aLn aAt aWe aRm aBm aHa aS' aSv' aCm aRd aBy)) (ws' := ((ho, .inl (cL, 1, .inr (.inl oF))) :: (wX7 cI cS hh vCar vGoa vEag tN tF cN cF mP mS kCap kGap kCar kCop kGro kShr bN bF rCmd rLet rNum fCap fGap fCar fCop fGro fShr hX hC hR ++ wX8 cI (hm 0) (hm 1) (hm 2) (hm 3) (hm 4) (hm 5) 1 aSm' aLn aAt aWe aRm aBm aHa aS' aSv' aCm aRd aBy))) hx hb hml hown hg hK hP hD hS hA hl.1 (k_X8_setMark l D cI cS cL Z (hm 0) (hm 1) (hm 2) (hm 3) (hm 4) (hm 5) a1 a2 aTh aSm aLn aAt aWe aRm aBm aHa aS aSv aCm aRd aBy e8) gm_X8_setMark gw_1105 ⟨rfl, rfl, by decide, by decide⟩ ⟨by show 100 + k + 1 ≤ 601024; omega, by show 6000 + 6 * k + 6 ≤ 7293033; omega⟩ pm_l2 pm_l2 fst_X8 rfl rfl rfl rfl rfl (Nat.le_of_ble_eq_true rfl) dL_law_708 (fun H locs hP hD hS => ?_)
    refine lv_istore (lv' := [(6, .int r), (5, .int 1), (4, .int (nI (3 * k))), (0, .ref b), (1, .ref (hh 0)), (2, .ref (hm 0)), (3, .ref ho)]) hx hb dL_law_711 hl (by decide) rfl (fun ls hl => ?_)
    refine lv_aload_n hx hb dL_law_713 rfl (lv_at hl 5 rfl) ?_
    refine cP_i (As := []) (rest := []) (wc := (wX8 cI (hm 0) (hm 1) (hm 2) (hm 3) (hm 4) (hm 5) 1 aSm' aLn aAt aWe aRm aBm aHa aS' aSv' aCm aRd aBy)) (wc' := (wX8 cI (hm 0) (hm 1) (hm 2) (hm 3) (hm 4) (hm 5) 1 aSm' aLn aAt aWe aRm aBm aHa aS' aSv' aCm aRd aBy)) (ws' := ((ho, .inl (cL, 1, .inr (.inl oF))) :: (wX7 cI cS hh vCar vGoa vEag tN tF cN cF mP mS kCap kGap kCar kCop kGro kShr bN bF rCmd rLet rNum fCap fGap fCar fCop fGro fShr hX hC hR ++ wX8 cI (hm 0) (hm 1) (hm 2) (hm 3) (hm 4) (hm 5) 1 aSm' aLn aAt aWe aRm aBm aHa aS' aSv' aCm aRd aBy))) hx hb hml hown hg hK hP hD hS hA hl.1 (k_X8_thrown l D cI cS cL Z (hm 0) (hm 1) (hm 2) (hm 3) (hm 4) (hm 5) 1 aSm' aLn aAt aWe aRm aBm aHa aS' aSv' aCm aRd aBy (r := 1) rfl) gm_X8_thrown gw_980 ⟨rfl, rfl, by decide, by decide⟩ ⟨by show 100 + k + 1 ≤ 601024; omega, by show 6000 + 6 * k + 6 ≤ 7293033; omega⟩ pm_l2 pm_l2 rfl rfl rfl rfl rfl rfl (Nat.le_of_ble_eq_true rfl) dL_law_714 (fun H locs hP hD hS => ?_)
    refine lv_iload hx hb dL_law_717 (lv_at hl 1 rfl) ?_
    refine lv_icmp_eq (tgt := 724) hx hb dL_law_719 (by decide) (fun _ => ?_) (fun q => absurd rfl q)
    refine lv_iload hx hb dL_law_724 (lv_at hl 1 rfl) ?_
    refine lv_if_ne (tgt := 741) hx hb dL_law_726 (by decide) (fun _ => ?_) (fun q => absurd q (by decide))
    refine lv_goto (tgt := 1867) hx hb dL_law_741 (by decide) ?_
    refine lv_iinc (v := nI (3 * (k + 1))) (lv' := [(4, .int (nI (3 * (k + 1)))), (6, .int r), (5, .int 1), (0, .ref b), (1, .ref (hh 0)), (2, .ref (hm 0)), (3, .ref ho)]) hx hb dL_law_1867 hl (k := 2) rfl (it_3 k) (by decide) rfl (fun ls hl => ?_)
    refine lv_goto (tgt := 23) hx hb dL_law_1870 (by decide) ?_
    refine W.widen (k := 100 + (k + 1)) (n := 6000 + 6 * (k + 1)) (by omega) (by omega) ?_
    exact IH vCar vGoa vEag tN tF cN cF mP mS kCap kGap kCar kCop kGro kShr bN bF rCmd rLet rNum fCap fGap fCar fCop fGro fShr hX hC hR 1 (aSm') aLn aAt aWe aRm aBm aHa (aS') (aSv') aCm aRd aBy oF hRel H locs hP hD hS ls (lv_sub hl [0, 3, 4, 5, 6] rfl)
  · skip
    refine lv_aload_n hx hb dL_law_676 rfl (lv_at hl 2 rfl) ?_
    refine lv_aload_n hx hb dL_law_677 rfl (lv_at hl 1 rfl) ?_
    refine lv_iload hx hb dL_law_678 (lv_at hl 0 rfl) ?_
    refine lv_iconst (v := 1) hx hb dL_law_680 (by decide) ?_
    refine lv_iadd hx hb dL_law_681 ?_
    refine nm_i (y := nI (3 * k + 1)) (nI_1 (3 * k)).symm ?_
    refine va_sld hx hb hXs hbl hbA hS (vp_in_nI (n := 3 * k + 1) (by omega) (by omega)) dL_law_682 ?_
    refine nm_i ea1 ?_
    refine lv_aload_n hx hb dL_law_683 rfl (lv_at hl 1 rfl) ?_
    refine lv_iload hx hb dL_law_684 (lv_at hl 0 rfl) ?_
    refine lv_iconst (v := 2) hx hb dL_law_686 (by decide) ?_
    refine lv_iadd hx hb dL_law_687 ?_
    refine nm_i (y := nI (3 * k + 2)) (nI_2 (3 * k)).symm ?_
    refine va_sld hx hb hXs hbl hbA hS (vp_in_nI (n := 3 * k + 2) (by omega) (by omega)) dL_law_688 ?_
    refine nm_i ea2 ?_
    refine lv_aload_n hx hb dL_law_689 rfl (lv_at hl 4 rfl) ?_
    refine cW_i (As := [.ref (hh 0), .int a1, .int a2, .ref ho]) (rest := []) (wc := ((ho, .inl (cL, 1, .inr (.inl oF))) :: wX7 cI cS hh vCar vGoa vEag tN tF cN cF mP mS kCap kGap kCar kCop kGro kShr bN bF rCmd rLet rNum fCap fGap fCar fCop fGro fShr hX hC hR)) (wc' := ((ho, .inl (cL, 1, .inr (.inl oF))) :: wX7 cI cS hh vCar vGoa vEag tN tF cN cF mP mS kCap kGap kCar kCop kGro kShr bN bF rCmd rLet rNum fCap fGap fCar fCop fGro fShr hX hC hR)) (ws' := ((ho, .inl (cL, 1, .inr (.inl oF))) :: (wX7 cI cS hh vCar vGoa vEag tN tF cN cF mP mS kCap kGap kCar kCop kGro kShr bN bF rCmd rLet rNum fCap fGap fCar fCop fGro fShr hX hC hR ++ wX8 cI (hm 0) (hm 1) (hm 2) (hm 3) (hm 4) (hm 5) aTh aSm aLn aAt aWe aRm aBm aHa aS aSv aCm aRd aBy))) hx hb hml hown hg hK hP hD hS hA hl.1 hZ (t2_L_setMark l hlt D cI cS cL Z hh ho a1 a2 vCar vGoa vEag tN tF cN cF mP mS kCap kGap kCar kCop kGro kShr bN bF rCmd rLet rNum fCap fGap fCar fCop fGro fShr hX hC hR oF e7) gww_L_setMark gw_706 ⟨rfl, rfl, by decide, by decide⟩ ⟨by show 100 + k + 1 ≤ 601024; omega, by show 6000 + 6 * k + 6 ≤ 7293033; omega⟩ pm_l0 pm_l0 (congrArg (List.cons ho) fst_X7) rfl rfl (Nat.le_of_ble_eq_true rfl) dL_law_690 (fun H locs hP hD hS => ?_)
    refine lv_istore (lv' := [(5, .int 2), (4, .int (nI (3 * k))), (0, .ref b), (1, .ref (hh 0)), (2, .ref (hm 0)), (3, .ref ho)]) hx hb dL_law_693 hl (by decide) rfl (fun ls hl => ?_)
    refine lv_aload_n hx hb dL_law_695 rfl (lv_at hl 4 rfl) ?_
    refine lv_aload_n hx hb dL_law_696 rfl (lv_at hl 2 rfl) ?_
    refine lv_iload hx hb dL_law_697 (lv_at hl 1 rfl) ?_
    refine lv_iconst (v := 1) hx hb dL_law_699 (by decide) ?_
    refine lv_iadd hx hb dL_law_700 ?_
    refine nm_i (y := nI (3 * k + 1)) (nI_1 (3 * k)).symm ?_
    refine va_sld hx hb hXs hbl hbA hS (vp_in_nI (n := 3 * k + 1) (by omega) (by omega)) dL_law_701 ?_
    refine nm_i ea1 ?_
    refine lv_aload_n hx hb dL_law_702 rfl (lv_at hl 2 rfl) ?_
    refine lv_iload hx hb dL_law_703 (lv_at hl 1 rfl) ?_
    refine lv_iconst (v := 2) hx hb dL_law_705 (by decide) ?_
    refine lv_iadd hx hb dL_law_706 ?_
    refine nm_i (y := nI (3 * k + 2)) (nI_2 (3 * k)).symm ?_
    refine va_sld hx hb hXs hbl hbA hS (vp_in_nI (n := 3 * k + 2) (by omega) (by omega)) dL_law_707 ?_
    refine nm_i ea2 ?_
    refine cP_i (As := [.int a1, .int a2]) (rest := []) (wc := (wX8 cI (hm 0) (hm 1) (hm 2) (hm 3) (hm 4) (hm 5) aTh aSm aLn aAt aWe aRm aBm aHa aS aSv aCm aRd aBy)) (wc' := (wX8 cI (hm 0) (hm 1) (hm 2) (hm 3) (hm 4) (hm 5) 2 aSm' aLn aAt aWe aRm aBm aHa aS' aSv' aCm aRd aBy)) (ws' := ((ho, .inl (cL, 1, .inr (.inl oF))) :: (wX7 cI cS hh vCar vGoa vEag tN tF cN cF mP mS kCap kGap kCar kCop kGro kShr bN bF rCmd rLet rNum fCap fGap fCar fCop fGro fShr hX hC hR ++ wX8 cI (hm 0) (hm 1) (hm 2) (hm 3) (hm 4) (hm 5) 2 aSm' aLn aAt aWe aRm aBm aHa aS' aSv' aCm aRd aBy))) hx hb hml hown hg hK hP hD hS hA hl.1 (k_X8_setMark l D cI cS cL Z (hm 0) (hm 1) (hm 2) (hm 3) (hm 4) (hm 5) a1 a2 aTh aSm aLn aAt aWe aRm aBm aHa aS aSv aCm aRd aBy e8) gm_X8_setMark gw_1105 ⟨rfl, rfl, by decide, by decide⟩ ⟨by show 100 + k + 1 ≤ 601024; omega, by show 6000 + 6 * k + 6 ≤ 7293033; omega⟩ pm_l2 pm_l2 fst_X8 rfl rfl rfl rfl rfl (Nat.le_of_ble_eq_true rfl) dL_law_708 (fun H locs hP hD hS => ?_)
    refine lv_istore (lv' := [(6, .int r), (5, .int 2), (4, .int (nI (3 * k))), (0, .ref b), (1, .ref (hh 0)), (2, .ref (hm 0)), (3, .ref ho)]) hx hb dL_law_711 hl (by decide) rfl (fun ls hl => ?_)
    refine lv_aload_n hx hb dL_law_713 rfl (lv_at hl 5 rfl) ?_
    refine cP_i (As := []) (rest := []) (wc := (wX8 cI (hm 0) (hm 1) (hm 2) (hm 3) (hm 4) (hm 5) 2 aSm' aLn aAt aWe aRm aBm aHa aS' aSv' aCm aRd aBy)) (wc' := (wX8 cI (hm 0) (hm 1) (hm 2) (hm 3) (hm 4) (hm 5) 2 aSm' aLn aAt aWe aRm aBm aHa aS' aSv' aCm aRd aBy)) (ws' := ((ho, .inl (cL, 1, .inr (.inl oF))) :: (wX7 cI cS hh vCar vGoa vEag tN tF cN cF mP mS kCap kGap kCar kCop kGro kShr bN bF rCmd rLet rNum fCap fGap fCar fCop fGro fShr hX hC hR ++ wX8 cI (hm 0) (hm 1) (hm 2) (hm 3) (hm 4) (hm 5) 2 aSm' aLn aAt aWe aRm aBm aHa aS' aSv' aCm aRd aBy))) hx hb hml hown hg hK hP hD hS hA hl.1 (k_X8_thrown l D cI cS cL Z (hm 0) (hm 1) (hm 2) (hm 3) (hm 4) (hm 5) 2 aSm' aLn aAt aWe aRm aBm aHa aS' aSv' aCm aRd aBy (r := 2) rfl) gm_X8_thrown gw_980 ⟨rfl, rfl, by decide, by decide⟩ ⟨by show 100 + k + 1 ≤ 601024; omega, by show 6000 + 6 * k + 6 ≤ 7293033; omega⟩ pm_l2 pm_l2 rfl rfl rfl rfl rfl rfl (Nat.le_of_ble_eq_true rfl) dL_law_714 (fun H locs hP hD hS => ?_)
    refine lv_iload hx hb dL_law_717 (lv_at hl 1 rfl) ?_
    refine lv_icmp_eq (tgt := 724) hx hb dL_law_719 (by decide) (fun _ => ?_) (fun q => absurd rfl q)
    refine lv_iload hx hb dL_law_724 (lv_at hl 1 rfl) ?_
    refine lv_if_ne (tgt := 741) hx hb dL_law_726 (by decide) (fun _ => ?_) (fun q => absurd q (by decide))
    refine lv_goto (tgt := 1867) hx hb dL_law_741 (by decide) ?_
    refine lv_iinc (v := nI (3 * (k + 1))) (lv' := [(4, .int (nI (3 * (k + 1)))), (6, .int r), (5, .int 2), (0, .ref b), (1, .ref (hh 0)), (2, .ref (hm 0)), (3, .ref ho)]) hx hb dL_law_1867 hl (k := 2) rfl (it_3 k) (by decide) rfl (fun ls hl => ?_)
    refine lv_goto (tgt := 23) hx hb dL_law_1870 (by decide) ?_
    refine W.widen (k := 100 + (k + 1)) (n := 6000 + 6 * (k + 1)) (by omega) (by omega) ?_
    exact IH vCar vGoa vEag tN tF cN cF mP mS kCap kGap kCar kCop kGro kShr bN bF rCmd rLet rNum fCap fGap fCar fCop fGro fShr hX hC hR 2 (aSm') aLn aAt aWe aRm aBm aHa (aS') (aSv') aCm aRd aBy oF hRel H locs hP hD hS ls (lv_sub hl [0, 3, 4, 5, 6] rfl)
set_option maxRecDepth 100000 in
set_option maxHeartbeats 4000000 in
theorem law_c11 {p : Program} {e : Env} {s : State} {m : MethodId} {below : List Frame} {meth : Method} {c : Code} {l : Launch} (hlt : l.stackTraces = false) {D : va_G} {cI cS cL : ClassId} {b L : Nat} {xs : Nat → Int32} (C0 : lw_At p s m meth c b L xs) (hg : ∀ w ∈ GW, w.before #[Value.ref b] s = true) (hK : kk_ D cI cS cL s) (hZ : zz_ (fun q : Nat => s.heap.size ≤ q) s s.heap) (Z : Nat) (Rel : Int32 → Int32 → Int32 → Int32 → (Nat → Int32) → Int32 → (Nat → Int32) → (Nat → Int32) → (Nat → Int32) → Int32 → Int32 → Int32 → Int32 → Int32 → Int32 → Int32 → (Nat → Int32) → Int32 → Int32 → Int32 → Int32 → Int32 → Int32 → Int32 → Int32 → Int32 → Int32 → Int32 → (Nat → StT) → Int32 → Int32 → Int32 → Int32 → Int32 → Int32 → Int32 → Int64 → (Nat → Int32) → (Nat → Int32) → (Nat → Int32) → (Nat → Int32) → (Nat → Int32) → Prop) (pb : PB_copy Z Rel) (hh hm : Nat → Nat) (ho k : Nat) (hk : 3 * k + 2 < L) (hL : L ≤ 1536) (vCar : Int32) (vGoa : Int32) (vEag : Int32) (tN : Int32) (tF : Nat → Int32) (cN : Int32) (cF : Nat → Int32) (mP : Nat → Int32) (mS : Nat → Int32) (kCap : Int32) (kGap : Int32) (kCar : Int32) (kCop : Int32) (kGro : Int32) (kShr : Int32) (bN : Int32) (bF : Nat → Int32) (rCmd : Int32) (rLet : Int32) (rNum : Int32) (fCap : Int32) (fGap : Int32) (fCar : Int32) (fCop : Int32) (fGro : Int32) (fShr : Int32) (hX : Int32) (hC : Int32) (hR : Nat → StT) (aTh : Int32) (aSm : Int32) (aLn : Int32) (aAt : Int32) (aWe : Int32) (aRm : Int32) (aBm : Int32) (aHa : Int64) (aS : Nat → Int32) (aSv : Nat → Int32) (aCm : Nat → Int32) (aRd : Nat → Int32) (aBy : Nat → Int32) (oF : Nat → Int64) (hRel : Rel vCar vGoa vEag tN tF cN cF mP mS kCap kGap kCar kCop kGro kShr bN bF rCmd rLet rNum fCap fGap fCar fCop fGro fShr hX hC hR aTh aSm aLn aAt aWe aRm aBm aHa aS aSv aCm aRd aBy) (H : Heap) (locs : List Loc) (hP : va_P D vwCl (wLW cI cS cL hh hm ho vCar vGoa vEag tN tF cN cF mP mS kCap kGap kCar kCop kGro kShr bN bF rCmd rLet rNum fCap fGap fCar fCop fGro fShr hX hC hR aTh aSm aLn aAt aWe aRm aBm aHa aS aSv aCm aRd aBy oF) H) (hD : va_D (fun q : Nat => s.heap.size ≤ q) (wLW cI cS cL hh hm ho vCar vGoa vEag tN tF cN cF mP mS kCap kGap kCar kCop kGro kShr bN bF rCmd rLet rNum fCap fGap fCar fCop fGro fShr hX hC hR aTh aSm aLn aAt aWe aRm aBm aHa aS aSv aCm aRd aBy oF)) (hS : va_S (fun q : Nat => s.heap.size ≤ q) s.heap H locs) (ls : Array Slot) (hl : lv_has ls 7 [(4, .int (nI (3 * k))), (0, .ref b), (1, .ref (hh 0)), (2, .ref (hm 0)), (3, .ref ho)]) (IH : LH p l e s m b below meth c D cI cS cL hh hm ho (k + 1) Rel) : W p l e room_1 s m #[Value.ref b] below meth c H locs (100 + k) (6000 + 6 * k) (lw_Z below #[Value.ref b] s) (F0 m 744 ls []) := by
  obtain ⟨hx, hb, hr, hml, hown, hts, hXs, hbl, hlocks, hgv⟩ := C0
  have hown : s.vm.findClass RL = some m.cls := hown
  have hA : ∀ q : Nat, s.heap.size ≤ q → (fun q : Nat => s.heap.size ≤ q) q := fun _ h => h
  have hbA : ¬ (fun q : Nat => s.heap.size ≤ q) b := Nat.not_le.mpr hbl
  obtain ⟨a1, ea1⟩ : ∃ y, y = xs (nI (3 * k + 1)).toNatClampNeg := ⟨_, rfl⟩
  obtain ⟨a2, ea2⟩ : ∃ y, y = xs (nI (3 * k + 2)).toNatClampNeg := ⟨_, rfl⟩
  rcases pb a1 vCar vGoa vEag tN tF cN cF mP mS kCap kGap kCar kCop kGro kShr bN bF rCmd rLet rNum fCap fGap fCar fCop fGro fShr hX hC hR aTh aSm aLn aAt aWe aRm aBm aHa aS aSv aCm aRd aBy hRel with ⟨r, cN', cF', hX', hC', hR', aSm', aS', aSv', e7, e8, hRel⟩ | ⟨r, aSm', aS', aSv', e7, e8, hRel⟩ | ⟨r, aSm', aS', aSv', e7, e8, hRel⟩
  · skip
    refine lv_aload_n hx hb dL_law_744 rfl (lv_at hl 2 rfl) ?_
    refine lv_aload_n hx hb dL_law_745 rfl (lv_at hl 1 rfl) ?_
    refine lv_iload hx hb dL_law_746 (lv_at hl 0 rfl) ?_
    refine lv_iconst (v := 1) hx hb dL_law_748 (by decide) ?_
    refine lv_iadd hx hb dL_law_749 ?_
    refine nm_i (y := nI (3 * k + 1)) (nI_1 (3 * k)).symm ?_
    refine va_sld hx hb hXs hbl hbA hS (vp_in_nI (n := 3 * k + 1) (by omega) (by omega)) dL_law_750 ?_
    refine nm_i ea1 ?_
    refine lv_aload_n hx hb dL_law_751 rfl (lv_at hl 4 rfl) ?_
    refine cW_i (As := [.ref (hh 0), .int a1, .ref ho]) (rest := []) (wc := ((ho, .inl (cL, 1, .inr (.inl oF))) :: wX7 cI cS hh vCar vGoa vEag tN tF cN cF mP mS kCap kGap kCar kCop kGro kShr bN bF rCmd rLet rNum fCap fGap fCar fCop fGro fShr hX hC hR)) (wc' := ((ho, .inl (cL, 1, .inr (.inl (vp_updL oF 0 (r : Int32).toInt64)))) :: wX7 cI cS hh vCar vGoa vEag tN tF cN' cF' mP mS kCap kGap kCar kCop kGro kShr bN bF rCmd rLet rNum fCap fGap fCar fCop fGro fShr hX' hC' hR')) (ws' := ((ho, .inl (cL, 1, .inr (.inl (vp_updL oF 0 (r : Int32).toInt64)))) :: (wX7 cI cS hh vCar vGoa vEag tN tF cN' cF' mP mS kCap kGap kCar kCop kGro kShr bN bF rCmd rLet rNum fCap fGap fCar fCop fGro fShr hX' hC' hR' ++ wX8 cI (hm 0) (hm 1) (hm 2) (hm 3) (hm 4) (hm 5) aTh aSm aLn aAt aWe aRm aBm aHa aS aSv aCm aRd aBy))) hx hb hml hown hg hK hP hD hS hA hl.1 hZ (k_L_copy l D cI cS cL Z hh ho a1 vCar vGoa vEag tN tF cN cF mP mS kCap kGap kCar kCop kGro kShr bN bF rCmd rLet rNum fCap fGap fCar fCop fGro fShr hX hC hR oF e7) gww_L_copy gw_716 ⟨rfl, rfl, by decide, by decide⟩ ⟨by show 100 + k + 1 ≤ 601024; omega, by show 6000 + 6 * k + 6 ≤ 7293033; omega⟩ pm_l0 pm_l0 (congrArg (List.cons ho) fst_X7) rfl rfl (Nat.le_of_ble_eq_true rfl) dL_law_752 (fun H locs hP hD hS => ?_)
    refine lv_istore (lv' := [(5, .int 0), (4, .int (nI (3 * k))), (0, .ref b), (1, .ref (hh 0)), (2, .ref (hm 0)), (3, .ref ho)]) hx hb dL_law_755 hl (by decide) rfl (fun ls hl => ?_)
    refine lv_aload_n hx hb dL_law_757 rfl (lv_at hl 4 rfl) ?_
    refine lv_aload_n hx hb dL_law_758 rfl (lv_at hl 2 rfl) ?_
    refine lv_iload hx hb dL_law_759 (lv_at hl 1 rfl) ?_
    refine lv_iconst (v := 1) hx hb dL_law_761 (by decide) ?_
    refine lv_iadd hx hb dL_law_762 ?_
    refine nm_i (y := nI (3 * k + 1)) (nI_1 (3 * k)).symm ?_
    refine va_sld hx hb hXs hbl hbA hS (vp_in_nI (n := 3 * k + 1) (by omega) (by omega)) dL_law_763 ?_
    refine nm_i ea1 ?_
    refine cP_i (As := [.int a1]) (rest := []) (wc := (wX8 cI (hm 0) (hm 1) (hm 2) (hm 3) (hm 4) (hm 5) aTh aSm aLn aAt aWe aRm aBm aHa aS aSv aCm aRd aBy)) (wc' := (wX8 cI (hm 0) (hm 1) (hm 2) (hm 3) (hm 4) (hm 5) 0 aSm' aLn aAt aWe aRm aBm aHa aS' aSv' aCm aRd aBy)) (ws' := ((ho, .inl (cL, 1, .inr (.inl (vp_updL oF 0 (r : Int32).toInt64)))) :: (wX7 cI cS hh vCar vGoa vEag tN tF cN' cF' mP mS kCap kGap kCar kCop kGro kShr bN bF rCmd rLet rNum fCap fGap fCar fCop fGro fShr hX' hC' hR' ++ wX8 cI (hm 0) (hm 1) (hm 2) (hm 3) (hm 4) (hm 5) 0 aSm' aLn aAt aWe aRm aBm aHa aS' aSv' aCm aRd aBy))) hx hb hml hown hg hK hP hD hS hA hl.1 (k_X8_copy l D cI cS cL Z (hm 0) (hm 1) (hm 2) (hm 3) (hm 4) (hm 5) a1 aTh aSm aLn aAt aWe aRm aBm aHa aS aSv aCm aRd aBy e8) gm_X8_copy gw_1112 ⟨rfl, rfl, by decide, by decide⟩ ⟨by show 100 + k + 1 ≤ 601024; omega, by show 6000 + 6 * k + 6 ≤ 7293033; omega⟩ pm_l2 pm_l2 fst_X8 rfl rfl rfl rfl rfl (Nat.le_of_ble_eq_true rfl) dL_law_764 (fun H locs hP hD hS => ?_)
    refine lv_istore (lv' := [(6, .int r), (5, .int 0), (4, .int (nI (3 * k))), (0, .ref b), (1, .ref (hh 0)), (2, .ref (hm 0)), (3, .ref ho)]) hx hb dL_law_767 hl (by decide) rfl (fun ls hl => ?_)
    refine lv_aload_n hx hb dL_law_769 rfl (lv_at hl 5 rfl) ?_
    refine cP_i (As := []) (rest := []) (wc := (wX8 cI (hm 0) (hm 1) (hm 2) (hm 3) (hm 4) (hm 5) 0 aSm' aLn aAt aWe aRm aBm aHa aS' aSv' aCm aRd aBy)) (wc' := (wX8 cI (hm 0) (hm 1) (hm 2) (hm 3) (hm 4) (hm 5) 0 aSm' aLn aAt aWe aRm aBm aHa aS' aSv' aCm aRd aBy)) (ws' := ((ho, .inl (cL, 1, .inr (.inl (vp_updL oF 0 (r : Int32).toInt64)))) :: (wX7 cI cS hh vCar vGoa vEag tN tF cN' cF' mP mS kCap kGap kCar kCop kGro kShr bN bF rCmd rLet rNum fCap fGap fCar fCop fGro fShr hX' hC' hR' ++ wX8 cI (hm 0) (hm 1) (hm 2) (hm 3) (hm 4) (hm 5) 0 aSm' aLn aAt aWe aRm aBm aHa aS' aSv' aCm aRd aBy))) hx hb hml hown hg hK hP hD hS hA hl.1 (k_X8_thrown l D cI cS cL Z (hm 0) (hm 1) (hm 2) (hm 3) (hm 4) (hm 5) 0 aSm' aLn aAt aWe aRm aBm aHa aS' aSv' aCm aRd aBy (r := 0) rfl) gm_X8_thrown gw_980 ⟨rfl, rfl, by decide, by decide⟩ ⟨by show 100 + k + 1 ≤ 601024; omega, by show 6000 + 6 * k + 6 ≤ 7293033; omega⟩ pm_l2 pm_l2 rfl rfl rfl rfl rfl rfl (Nat.le_of_ble_eq_true rfl) dL_law_770 (fun H locs hP hD hS => ?_)
    refine lv_iload hx hb dL_law_773 (lv_at hl 1 rfl) ?_
    refine lv_icmp_eq (tgt := 780) hx hb dL_law_775 (by decide) (fun _ => ?_) (fun q => absurd rfl q)
    refine lv_iload hx hb dL_law_780 (lv_at hl 1 rfl) ?_
    refine lv_if_ne (tgt := 797) hx hb dL_law_782 (by decide) (fun q => absurd rfl q) (fun _ => ?_)
    refine lv_aload_n hx hb dL_law_785 rfl (lv_at hl 6 rfl) ?_
    refine lv_iconst (v := 0) hx hb dL_law_786 (by decide) ?_
    refine va_lald hx hb hK.1 hP 0 2 rfl rfl (i := 0) (vp_in_nI (n := 0) (by decide) (by decide)) dL_law_787 ?_
    refine nm_l (y := vp_updL oF 0 (r : Int32).toInt64 0) rfl ?_
    refine lv_iload hx hb dL_law_788 (lv_at hl 0 rfl) ?_
    refine lv_i2l (v := (r : Int32).toInt64) hx hb dL_law_790 rfl ?_
    refine W.lcmp hx hb dL_law_791 ?_
    refine nm_i (y := 0) cmp_same.symm ?_
    refine lv_if_eq (tgt := 797) hx hb dL_law_792 (by decide) (fun _ => ?_) (fun q => absurd rfl q)
    refine lv_goto (tgt := 1867) hx hb dL_law_797 (by decide) ?_
    refine lv_iinc (v := nI (3 * (k + 1))) (lv' := [(4, .int (nI (3 * (k + 1)))), (6, .int r), (5, .int 0), (0, .ref b), (1, .ref (hh 0)), (2, .ref (hm 0)), (3, .ref ho)]) hx hb dL_law_1867 hl (k := 2) rfl (it_3 k) (by decide) rfl (fun ls hl => ?_)
    refine lv_goto (tgt := 23) hx hb dL_law_1870 (by decide) ?_
    refine W.widen (k := 100 + (k + 1)) (n := 6000 + 6 * (k + 1)) (by omega) (by omega) ?_
    exact IH vCar vGoa vEag tN tF (cN') (cF') mP mS kCap kGap kCar kCop kGro kShr bN bF rCmd rLet rNum fCap fGap fCar fCop fGro fShr (hX') (hC') (hR') 0 (aSm') aLn aAt aWe aRm aBm aHa (aS') (aSv') aCm aRd aBy (vp_updL oF 0 (r : Int32).toInt64) hRel H locs hP hD hS ls (lv_sub hl [0, 3, 4, 5, 6] rfl)
  · skip
    refine lv_aload_n hx hb dL_law_744 rfl (lv_at hl 2 rfl) ?_
    refine lv_aload_n hx hb dL_law_745 rfl (lv_at hl 1 rfl) ?_
    refine lv_iload hx hb dL_law_746 (lv_at hl 0 rfl) ?_
    refine lv_iconst (v := 1) hx hb dL_law_748 (by decide) ?_
    refine lv_iadd hx hb dL_law_749 ?_
    refine nm_i (y := nI (3 * k + 1)) (nI_1 (3 * k)).symm ?_
    refine va_sld hx hb hXs hbl hbA hS (vp_in_nI (n := 3 * k + 1) (by omega) (by omega)) dL_law_750 ?_
    refine nm_i ea1 ?_
    refine lv_aload_n hx hb dL_law_751 rfl (lv_at hl 4 rfl) ?_
    refine cW_i (As := [.ref (hh 0), .int a1, .ref ho]) (rest := []) (wc := ((ho, .inl (cL, 1, .inr (.inl oF))) :: wX7 cI cS hh vCar vGoa vEag tN tF cN cF mP mS kCap kGap kCar kCop kGro kShr bN bF rCmd rLet rNum fCap fGap fCar fCop fGro fShr hX hC hR)) (wc' := ((ho, .inl (cL, 1, .inr (.inl oF))) :: wX7 cI cS hh vCar vGoa vEag tN tF cN cF mP mS kCap kGap kCar kCop kGro kShr bN bF rCmd rLet rNum fCap fGap fCar fCop fGro fShr hX hC hR)) (ws' := ((ho, .inl (cL, 1, .inr (.inl oF))) :: (wX7 cI cS hh vCar vGoa vEag tN tF cN cF mP mS kCap kGap kCar kCop kGro kShr bN bF rCmd rLet rNum fCap fGap fCar fCop fGro fShr hX hC hR ++ wX8 cI (hm 0) (hm 1) (hm 2) (hm 3) (hm 4) (hm 5) aTh aSm aLn aAt aWe aRm aBm aHa aS aSv aCm aRd aBy))) hx hb hml hown hg hK hP hD hS hA hl.1 hZ (t1_L_copy l hlt D cI cS cL Z hh ho a1 vCar vGoa vEag tN tF cN cF mP mS kCap kGap kCar kCop kGro kShr bN bF rCmd rLet rNum fCap fGap fCar fCop fGro fShr hX hC hR oF e7) gww_L_copy gw_716 ⟨rfl, rfl, by decide, by decide⟩ ⟨by show 100 + k + 1 ≤ 601024; omega, by show 6000 + 6 * k + 6 ≤ 7293033; omega⟩ pm_l0 pm_l0 (congrArg (List.cons ho) fst_X7) rfl rfl (Nat.le_of_ble_eq_true rfl) dL_law_752 (fun H locs hP hD hS => ?_)
    refine lv_istore (lv' := [(5, .int 1), (4, .int (nI (3 * k))), (0, .ref b), (1, .ref (hh 0)), (2, .ref (hm 0)), (3, .ref ho)]) hx hb dL_law_755 hl (by decide) rfl (fun ls hl => ?_)
    refine lv_aload_n hx hb dL_law_757 rfl (lv_at hl 4 rfl) ?_
    refine lv_aload_n hx hb dL_law_758 rfl (lv_at hl 2 rfl) ?_
    refine lv_iload hx hb dL_law_759 (lv_at hl 1 rfl) ?_
    refine lv_iconst (v := 1) hx hb dL_law_761 (by decide) ?_
    refine lv_iadd hx hb dL_law_762 ?_
    refine nm_i (y := nI (3 * k + 1)) (nI_1 (3 * k)).symm ?_
    refine va_sld hx hb hXs hbl hbA hS (vp_in_nI (n := 3 * k + 1) (by omega) (by omega)) dL_law_763 ?_
    refine nm_i ea1 ?_
    refine cP_i (As := [.int a1]) (rest := []) (wc := (wX8 cI (hm 0) (hm 1) (hm 2) (hm 3) (hm 4) (hm 5) aTh aSm aLn aAt aWe aRm aBm aHa aS aSv aCm aRd aBy)) (wc' := (wX8 cI (hm 0) (hm 1) (hm 2) (hm 3) (hm 4) (hm 5) 1 aSm' aLn aAt aWe aRm aBm aHa aS' aSv' aCm aRd aBy)) (ws' := ((ho, .inl (cL, 1, .inr (.inl oF))) :: (wX7 cI cS hh vCar vGoa vEag tN tF cN cF mP mS kCap kGap kCar kCop kGro kShr bN bF rCmd rLet rNum fCap fGap fCar fCop fGro fShr hX hC hR ++ wX8 cI (hm 0) (hm 1) (hm 2) (hm 3) (hm 4) (hm 5) 1 aSm' aLn aAt aWe aRm aBm aHa aS' aSv' aCm aRd aBy))) hx hb hml hown hg hK hP hD hS hA hl.1 (k_X8_copy l D cI cS cL Z (hm 0) (hm 1) (hm 2) (hm 3) (hm 4) (hm 5) a1 aTh aSm aLn aAt aWe aRm aBm aHa aS aSv aCm aRd aBy e8) gm_X8_copy gw_1112 ⟨rfl, rfl, by decide, by decide⟩ ⟨by show 100 + k + 1 ≤ 601024; omega, by show 6000 + 6 * k + 6 ≤ 7293033; omega⟩ pm_l2 pm_l2 fst_X8 rfl rfl rfl rfl rfl (Nat.le_of_ble_eq_true rfl) dL_law_764 (fun H locs hP hD hS => ?_)
    refine lv_istore (lv' := [(6, .int r), (5, .int 1), (4, .int (nI (3 * k))), (0, .ref b), (1, .ref (hh 0)), (2, .ref (hm 0)), (3, .ref ho)]) hx hb dL_law_767 hl (by decide) rfl (fun ls hl => ?_)
    refine lv_aload_n hx hb dL_law_769 rfl (lv_at hl 5 rfl) ?_
    refine cP_i (As := []) (rest := []) (wc := (wX8 cI (hm 0) (hm 1) (hm 2) (hm 3) (hm 4) (hm 5) 1 aSm' aLn aAt aWe aRm aBm aHa aS' aSv' aCm aRd aBy)) (wc' := (wX8 cI (hm 0) (hm 1) (hm 2) (hm 3) (hm 4) (hm 5) 1 aSm' aLn aAt aWe aRm aBm aHa aS' aSv' aCm aRd aBy)) (ws' := ((ho, .inl (cL, 1, .inr (.inl oF))) :: (wX7 cI cS hh vCar vGoa vEag tN tF cN cF mP mS kCap kGap kCar kCop kGro kShr bN bF rCmd rLet rNum fCap fGap fCar fCop fGro fShr hX hC hR ++ wX8 cI (hm 0) (hm 1) (hm 2) (hm 3) (hm 4) (hm 5) 1 aSm' aLn aAt aWe aRm aBm aHa aS' aSv' aCm aRd aBy))) hx hb hml hown hg hK hP hD hS hA hl.1 (k_X8_thrown l D cI cS cL Z (hm 0) (hm 1) (hm 2) (hm 3) (hm 4) (hm 5) 1 aSm' aLn aAt aWe aRm aBm aHa aS' aSv' aCm aRd aBy (r := 1) rfl) gm_X8_thrown gw_980 ⟨rfl, rfl, by decide, by decide⟩ ⟨by show 100 + k + 1 ≤ 601024; omega, by show 6000 + 6 * k + 6 ≤ 7293033; omega⟩ pm_l2 pm_l2 rfl rfl rfl rfl rfl rfl (Nat.le_of_ble_eq_true rfl) dL_law_770 (fun H locs hP hD hS => ?_)
    refine lv_iload hx hb dL_law_773 (lv_at hl 1 rfl) ?_
    refine lv_icmp_eq (tgt := 780) hx hb dL_law_775 (by decide) (fun _ => ?_) (fun q => absurd rfl q)
    refine lv_iload hx hb dL_law_780 (lv_at hl 1 rfl) ?_
    refine lv_if_ne (tgt := 797) hx hb dL_law_782 (by decide) (fun _ => ?_) (fun q => absurd q (by decide))
    refine lv_goto (tgt := 1867) hx hb dL_law_797 (by decide) ?_
    refine lv_iinc (v := nI (3 * (k + 1))) (lv' := [(4, .int (nI (3 * (k + 1)))), (6, .int r), (5, .int 1), (0, .ref b), (1, .ref (hh 0)), (2, .ref (hm 0)), (3, .ref ho)]) hx hb dL_law_1867 hl (k := 2) rfl (it_3 k) (by decide) rfl (fun ls hl => ?_)
    refine lv_goto (tgt := 23) hx hb dL_law_1870 (by decide) ?_
    refine W.widen (k := 100 + (k + 1)) (n := 6000 + 6 * (k + 1)) (by omega) (by omega) ?_
    exact IH vCar vGoa vEag tN tF cN cF mP mS kCap kGap kCar kCop kGro kShr bN bF rCmd rLet rNum fCap fGap fCar fCop fGro fShr hX hC hR 1 (aSm') aLn aAt aWe aRm aBm aHa (aS') (aSv') aCm aRd aBy oF hRel H locs hP hD hS ls (lv_sub hl [0, 3, 4, 5, 6] rfl)
  · skip
    refine lv_aload_n hx hb dL_law_744 rfl (lv_at hl 2 rfl) ?_
    refine lv_aload_n hx hb dL_law_745 rfl (lv_at hl 1 rfl) ?_
    refine lv_iload hx hb dL_law_746 (lv_at hl 0 rfl) ?_
    refine lv_iconst (v := 1) hx hb dL_law_748 (by decide) ?_
    refine lv_iadd hx hb dL_law_749 ?_
    refine nm_i (y := nI (3 * k + 1)) (nI_1 (3 * k)).symm ?_
    refine va_sld hx hb hXs hbl hbA hS (vp_in_nI (n := 3 * k + 1) (by omega) (by omega)) dL_law_750 ?_
    refine nm_i ea1 ?_
    refine lv_aload_n hx hb dL_law_751 rfl (lv_at hl 4 rfl) ?_
    refine cW_i (As := [.ref (hh 0), .int a1, .ref ho]) (rest := []) (wc := ((ho, .inl (cL, 1, .inr (.inl oF))) :: wX7 cI cS hh vCar vGoa vEag tN tF cN cF mP mS kCap kGap kCar kCop kGro kShr bN bF rCmd rLet rNum fCap fGap fCar fCop fGro fShr hX hC hR)) (wc' := ((ho, .inl (cL, 1, .inr (.inl oF))) :: wX7 cI cS hh vCar vGoa vEag tN tF cN cF mP mS kCap kGap kCar kCop kGro kShr bN bF rCmd rLet rNum fCap fGap fCar fCop fGro fShr hX hC hR)) (ws' := ((ho, .inl (cL, 1, .inr (.inl oF))) :: (wX7 cI cS hh vCar vGoa vEag tN tF cN cF mP mS kCap kGap kCar kCop kGro kShr bN bF rCmd rLet rNum fCap fGap fCar fCop fGro fShr hX hC hR ++ wX8 cI (hm 0) (hm 1) (hm 2) (hm 3) (hm 4) (hm 5) aTh aSm aLn aAt aWe aRm aBm aHa aS aSv aCm aRd aBy))) hx hb hml hown hg hK hP hD hS hA hl.1 hZ (t2_L_copy l hlt D cI cS cL Z hh ho a1 vCar vGoa vEag tN tF cN cF mP mS kCap kGap kCar kCop kGro kShr bN bF rCmd rLet rNum fCap fGap fCar fCop fGro fShr hX hC hR oF e7) gww_L_copy gw_716 ⟨rfl, rfl, by decide, by decide⟩ ⟨by show 100 + k + 1 ≤ 601024; omega, by show 6000 + 6 * k + 6 ≤ 7293033; omega⟩ pm_l0 pm_l0 (congrArg (List.cons ho) fst_X7) rfl rfl (Nat.le_of_ble_eq_true rfl) dL_law_752 (fun H locs hP hD hS => ?_)
    refine lv_istore (lv' := [(5, .int 2), (4, .int (nI (3 * k))), (0, .ref b), (1, .ref (hh 0)), (2, .ref (hm 0)), (3, .ref ho)]) hx hb dL_law_755 hl (by decide) rfl (fun ls hl => ?_)
    refine lv_aload_n hx hb dL_law_757 rfl (lv_at hl 4 rfl) ?_
    refine lv_aload_n hx hb dL_law_758 rfl (lv_at hl 2 rfl) ?_
    refine lv_iload hx hb dL_law_759 (lv_at hl 1 rfl) ?_
    refine lv_iconst (v := 1) hx hb dL_law_761 (by decide) ?_
    refine lv_iadd hx hb dL_law_762 ?_
    refine nm_i (y := nI (3 * k + 1)) (nI_1 (3 * k)).symm ?_
    refine va_sld hx hb hXs hbl hbA hS (vp_in_nI (n := 3 * k + 1) (by omega) (by omega)) dL_law_763 ?_
    refine nm_i ea1 ?_
    refine cP_i (As := [.int a1]) (rest := []) (wc := (wX8 cI (hm 0) (hm 1) (hm 2) (hm 3) (hm 4) (hm 5) aTh aSm aLn aAt aWe aRm aBm aHa aS aSv aCm aRd aBy)) (wc' := (wX8 cI (hm 0) (hm 1) (hm 2) (hm 3) (hm 4) (hm 5) 2 aSm' aLn aAt aWe aRm aBm aHa aS' aSv' aCm aRd aBy)) (ws' := ((ho, .inl (cL, 1, .inr (.inl oF))) :: (wX7 cI cS hh vCar vGoa vEag tN tF cN cF mP mS kCap kGap kCar kCop kGro kShr bN bF rCmd rLet rNum fCap fGap fCar fCop fGro fShr hX hC hR ++ wX8 cI (hm 0) (hm 1) (hm 2) (hm 3) (hm 4) (hm 5) 2 aSm' aLn aAt aWe aRm aBm aHa aS' aSv' aCm aRd aBy))) hx hb hml hown hg hK hP hD hS hA hl.1 (k_X8_copy l D cI cS cL Z (hm 0) (hm 1) (hm 2) (hm 3) (hm 4) (hm 5) a1 aTh aSm aLn aAt aWe aRm aBm aHa aS aSv aCm aRd aBy e8) gm_X8_copy gw_1112 ⟨rfl, rfl, by decide, by decide⟩ ⟨by show 100 + k + 1 ≤ 601024; omega, by show 6000 + 6 * k + 6 ≤ 7293033; omega⟩ pm_l2 pm_l2 fst_X8 rfl rfl rfl rfl rfl (Nat.le_of_ble_eq_true rfl) dL_law_764 (fun H locs hP hD hS => ?_)
    refine lv_istore (lv' := [(6, .int r), (5, .int 2), (4, .int (nI (3 * k))), (0, .ref b), (1, .ref (hh 0)), (2, .ref (hm 0)), (3, .ref ho)]) hx hb dL_law_767 hl (by decide) rfl (fun ls hl => ?_)
    refine lv_aload_n hx hb dL_law_769 rfl (lv_at hl 5 rfl) ?_
    refine cP_i (As := []) (rest := []) (wc := (wX8 cI (hm 0) (hm 1) (hm 2) (hm 3) (hm 4) (hm 5) 2 aSm' aLn aAt aWe aRm aBm aHa aS' aSv' aCm aRd aBy)) (wc' := (wX8 cI (hm 0) (hm 1) (hm 2) (hm 3) (hm 4) (hm 5) 2 aSm' aLn aAt aWe aRm aBm aHa aS' aSv' aCm aRd aBy)) (ws' := ((ho, .inl (cL, 1, .inr (.inl oF))) :: (wX7 cI cS hh vCar vGoa vEag tN tF cN cF mP mS kCap kGap kCar kCop kGro kShr bN bF rCmd rLet rNum fCap fGap fCar fCop fGro fShr hX hC hR ++ wX8 cI (hm 0) (hm 1) (hm 2) (hm 3) (hm 4) (hm 5) 2 aSm' aLn aAt aWe aRm aBm aHa aS' aSv' aCm aRd aBy))) hx hb hml hown hg hK hP hD hS hA hl.1 (k_X8_thrown l D cI cS cL Z (hm 0) (hm 1) (hm 2) (hm 3) (hm 4) (hm 5) 2 aSm' aLn aAt aWe aRm aBm aHa aS' aSv' aCm aRd aBy (r := 2) rfl) gm_X8_thrown gw_980 ⟨rfl, rfl, by decide, by decide⟩ ⟨by show 100 + k + 1 ≤ 601024; omega, by show 6000 + 6 * k + 6 ≤ 7293033; omega⟩ pm_l2 pm_l2 rfl rfl rfl rfl rfl rfl (Nat.le_of_ble_eq_true rfl) dL_law_770 (fun H locs hP hD hS => ?_)
    refine lv_iload hx hb dL_law_773 (lv_at hl 1 rfl) ?_
    refine lv_icmp_eq (tgt := 780) hx hb dL_law_775 (by decide) (fun _ => ?_) (fun q => absurd rfl q)
    refine lv_iload hx hb dL_law_780 (lv_at hl 1 rfl) ?_
    refine lv_if_ne (tgt := 797) hx hb dL_law_782 (by decide) (fun _ => ?_) (fun q => absurd q (by decide))
    refine lv_goto (tgt := 1867) hx hb dL_law_797 (by decide) ?_
    refine lv_iinc (v := nI (3 * (k + 1))) (lv' := [(4, .int (nI (3 * (k + 1)))), (6, .int r), (5, .int 2), (0, .ref b), (1, .ref (hh 0)), (2, .ref (hm 0)), (3, .ref ho)]) hx hb dL_law_1867 hl (k := 2) rfl (it_3 k) (by decide) rfl (fun ls hl => ?_)
    refine lv_goto (tgt := 23) hx hb dL_law_1870 (by decide) ?_
    refine W.widen (k := 100 + (k + 1)) (n := 6000 + 6 * (k + 1)) (by omega) (by omega) ?_
    exact IH vCar vGoa vEag tN tF cN cF mP mS kCap kGap kCar kCop kGro kShr bN bF rCmd rLet rNum fCap fGap fCar fCop fGro fShr hX hC hR 2 (aSm') aLn aAt aWe aRm aBm aHa (aS') (aSv') aCm aRd aBy oF hRel H locs hP hD hS ls (lv_sub hl [0, 3, 4, 5, 6] rfl)
set_option maxRecDepth 100000 in
set_option maxHeartbeats 4000000 in
theorem law_c12 {p : Program} {e : Env} {s : State} {m : MethodId} {below : List Frame} {meth : Method} {c : Code} {l : Launch} (hlt : l.stackTraces = false) {D : va_G} {cI cS cL : ClassId} {b L : Nat} {xs : Nat → Int32} (C0 : lw_At p s m meth c b L xs) (hg : ∀ w ∈ GW, w.before #[Value.ref b] s = true) (hK : kk_ D cI cS cL s) (hZ : zz_ (fun q : Nat => s.heap.size ≤ q) s s.heap) (Z : Nat) (Rel : Int32 → Int32 → Int32 → Int32 → (Nat → Int32) → Int32 → (Nat → Int32) → (Nat → Int32) → (Nat → Int32) → Int32 → Int32 → Int32 → Int32 → Int32 → Int32 → Int32 → (Nat → Int32) → Int32 → Int32 → Int32 → Int32 → Int32 → Int32 → Int32 → Int32 → Int32 → Int32 → Int32 → (Nat → StT) → Int32 → Int32 → Int32 → Int32 → Int32 → Int32 → Int32 → Int64 → (Nat → Int32) → (Nat → Int32) → (Nat → Int32) → (Nat → Int32) → (Nat → Int32) → Prop) (pb : PB_cut Z Rel) (hh hm : Nat → Nat) (ho k : Nat) (hk : 3 * k + 2 < L) (hL : L ≤ 1536) (vCar : Int32) (vGoa : Int32) (vEag : Int32) (tN : Int32) (tF : Nat → Int32) (cN : Int32) (cF : Nat → Int32) (mP : Nat → Int32) (mS : Nat → Int32) (kCap : Int32) (kGap : Int32) (kCar : Int32) (kCop : Int32) (kGro : Int32) (kShr : Int32) (bN : Int32) (bF : Nat → Int32) (rCmd : Int32) (rLet : Int32) (rNum : Int32) (fCap : Int32) (fGap : Int32) (fCar : Int32) (fCop : Int32) (fGro : Int32) (fShr : Int32) (hX : Int32) (hC : Int32) (hR : Nat → StT) (aTh : Int32) (aSm : Int32) (aLn : Int32) (aAt : Int32) (aWe : Int32) (aRm : Int32) (aBm : Int32) (aHa : Int64) (aS : Nat → Int32) (aSv : Nat → Int32) (aCm : Nat → Int32) (aRd : Nat → Int32) (aBy : Nat → Int32) (oF : Nat → Int64) (hRel : Rel vCar vGoa vEag tN tF cN cF mP mS kCap kGap kCar kCop kGro kShr bN bF rCmd rLet rNum fCap fGap fCar fCop fGro fShr hX hC hR aTh aSm aLn aAt aWe aRm aBm aHa aS aSv aCm aRd aBy) (H : Heap) (locs : List Loc) (hP : va_P D vwCl (wLW cI cS cL hh hm ho vCar vGoa vEag tN tF cN cF mP mS kCap kGap kCar kCop kGro kShr bN bF rCmd rLet rNum fCap fGap fCar fCop fGro fShr hX hC hR aTh aSm aLn aAt aWe aRm aBm aHa aS aSv aCm aRd aBy oF) H) (hD : va_D (fun q : Nat => s.heap.size ≤ q) (wLW cI cS cL hh hm ho vCar vGoa vEag tN tF cN cF mP mS kCap kGap kCar kCop kGro kShr bN bF rCmd rLet rNum fCap fGap fCar fCop fGro fShr hX hC hR aTh aSm aLn aAt aWe aRm aBm aHa aS aSv aCm aRd aBy oF)) (hS : va_S (fun q : Nat => s.heap.size ≤ q) s.heap H locs) (ls : Array Slot) (hl : lv_has ls 7 [(4, .int (nI (3 * k))), (0, .ref b), (1, .ref (hh 0)), (2, .ref (hm 0)), (3, .ref ho)]) (IH : LH p l e s m b below meth c D cI cS cL hh hm ho (k + 1) Rel) : W p l e room_1 s m #[Value.ref b] below meth c H locs (100 + k) (6000 + 6 * k) (lw_Z below #[Value.ref b] s) (F0 m 800 ls []) := by
  obtain ⟨hx, hb, hr, hml, hown, hts, hXs, hbl, hlocks, hgv⟩ := C0
  have hown : s.vm.findClass RL = some m.cls := hown
  have hA : ∀ q : Nat, s.heap.size ≤ q → (fun q : Nat => s.heap.size ≤ q) q := fun _ h => h
  have hbA : ¬ (fun q : Nat => s.heap.size ≤ q) b := Nat.not_le.mpr hbl
  obtain ⟨a1, ea1⟩ : ∃ y, y = xs (nI (3 * k + 1)).toNatClampNeg := ⟨_, rfl⟩
  obtain ⟨a2, ea2⟩ : ∃ y, y = xs (nI (3 * k + 2)).toNatClampNeg := ⟨_, rfl⟩
  rcases pb a1 vCar vGoa vEag tN tF cN cF mP mS kCap kGap kCar kCop kGro kShr bN bF rCmd rLet rNum fCap fGap fCar fCop fGro fShr hX hC hR aTh aSm aLn aAt aWe aRm aBm aHa aS aSv aCm aRd aBy hRel with ⟨r, vCar', vGoa', tN', tF', cN', cF', mP', kCap', kGap', kCar', kCop', kShr', hX', hC', hR', aSm', aS', aSv', e7, e8, hRel⟩ | ⟨r, aSm', aS', aSv', e7, e8, hRel⟩ | ⟨r, aSm', aS', aSv', e7, e8, hRel⟩
  · skip
    refine lv_aload_n hx hb dL_law_800 rfl (lv_at hl 2 rfl) ?_
    refine lv_aload_n hx hb dL_law_801 rfl (lv_at hl 1 rfl) ?_
    refine lv_iload hx hb dL_law_802 (lv_at hl 0 rfl) ?_
    refine lv_iconst (v := 1) hx hb dL_law_804 (by decide) ?_
    refine lv_iadd hx hb dL_law_805 ?_
    refine nm_i (y := nI (3 * k + 1)) (nI_1 (3 * k)).symm ?_
    refine va_sld hx hb hXs hbl hbA hS (vp_in_nI (n := 3 * k + 1) (by omega) (by omega)) dL_law_806 ?_
    refine nm_i ea1 ?_
    refine lv_aload_n hx hb dL_law_807 rfl (lv_at hl 4 rfl) ?_
    refine cW_i (As := [.ref (hh 0), .int a1, .ref ho]) (rest := []) (wc := ((ho, .inl (cL, 1, .inr (.inl oF))) :: wX7 cI cS hh vCar vGoa vEag tN tF cN cF mP mS kCap kGap kCar kCop kGro kShr bN bF rCmd rLet rNum fCap fGap fCar fCop fGro fShr hX hC hR)) (wc' := ((ho, .inl (cL, 1, .inr (.inl (vp_updL oF 0 (r : Int32).toInt64)))) :: wX7 cI cS hh vCar' vGoa' vEag tN' tF' cN' cF' mP' mS kCap' kGap' kCar' kCop' kGro kShr' bN bF rCmd rLet rNum fCap fGap fCar fCop fGro fShr hX' hC' hR')) (ws' := ((ho, .inl (cL, 1, .inr (.inl (vp_updL oF 0 (r : Int32).toInt64)))) :: (wX7 cI cS hh vCar' vGoa' vEag tN' tF' cN' cF' mP' mS kCap' kGap' kCar' kCop' kGro kShr' bN bF rCmd rLet rNum fCap fGap fCar fCop fGro fShr hX' hC' hR' ++ wX8 cI (hm 0) (hm 1) (hm 2) (hm 3) (hm 4) (hm 5) aTh aSm aLn aAt aWe aRm aBm aHa aS aSv aCm aRd aBy))) hx hb hml hown hg hK hP hD hS hA hl.1 hZ (k_L_cut l D cI cS cL Z hh ho a1 vCar vGoa vEag tN tF cN cF mP mS kCap kGap kCar kCop kGro kShr bN bF rCmd rLet rNum fCap fGap fCar fCop fGro fShr hX hC hR oF e7) gww_L_cut gw_733 ⟨rfl, rfl, by decide, by decide⟩ ⟨by show 100 + k + 1 ≤ 601024; omega, by show 6000 + 6 * k + 6 ≤ 7293033; omega⟩ pm_l0 pm_l0 (congrArg (List.cons ho) fst_X7) rfl rfl (Nat.le_of_ble_eq_true rfl) dL_law_808 (fun H locs hP hD hS => ?_)
    refine lv_istore (lv' := [(5, .int 0), (4, .int (nI (3 * k))), (0, .ref b), (1, .ref (hh 0)), (2, .ref (hm 0)), (3, .ref ho)]) hx hb dL_law_811 hl (by decide) rfl (fun ls hl => ?_)
    refine lv_aload_n hx hb dL_law_813 rfl (lv_at hl 4 rfl) ?_
    refine lv_aload_n hx hb dL_law_814 rfl (lv_at hl 2 rfl) ?_
    refine lv_iload hx hb dL_law_815 (lv_at hl 1 rfl) ?_
    refine lv_iconst (v := 1) hx hb dL_law_817 (by decide) ?_
    refine lv_iadd hx hb dL_law_818 ?_
    refine nm_i (y := nI (3 * k + 1)) (nI_1 (3 * k)).symm ?_
    refine va_sld hx hb hXs hbl hbA hS (vp_in_nI (n := 3 * k + 1) (by omega) (by omega)) dL_law_819 ?_
    refine nm_i ea1 ?_
    refine cP_i (As := [.int a1]) (rest := []) (wc := (wX8 cI (hm 0) (hm 1) (hm 2) (hm 3) (hm 4) (hm 5) aTh aSm aLn aAt aWe aRm aBm aHa aS aSv aCm aRd aBy)) (wc' := (wX8 cI (hm 0) (hm 1) (hm 2) (hm 3) (hm 4) (hm 5) 0 aSm' aLn aAt aWe aRm aBm aHa aS' aSv' aCm aRd aBy)) (ws' := ((ho, .inl (cL, 1, .inr (.inl (vp_updL oF 0 (r : Int32).toInt64)))) :: (wX7 cI cS hh vCar' vGoa' vEag tN' tF' cN' cF' mP' mS kCap' kGap' kCar' kCop' kGro kShr' bN bF rCmd rLet rNum fCap fGap fCar fCop fGro fShr hX' hC' hR' ++ wX8 cI (hm 0) (hm 1) (hm 2) (hm 3) (hm 4) (hm 5) 0 aSm' aLn aAt aWe aRm aBm aHa aS' aSv' aCm aRd aBy))) hx hb hml hown hg hK hP hD hS hA hl.1 (k_X8_cut l D cI cS cL Z (hm 0) (hm 1) (hm 2) (hm 3) (hm 4) (hm 5) a1 aTh aSm aLn aAt aWe aRm aBm aHa aS aSv aCm aRd aBy e8) gm_X8_cut gw_1128 ⟨rfl, rfl, by decide, by decide⟩ ⟨by show 100 + k + 1 ≤ 601024; omega, by show 6000 + 6 * k + 6 ≤ 7293033; omega⟩ pm_l2 pm_l2 fst_X8 rfl rfl rfl rfl rfl (Nat.le_of_ble_eq_true rfl) dL_law_820 (fun H locs hP hD hS => ?_)
    refine lv_istore (lv' := [(6, .int r), (5, .int 0), (4, .int (nI (3 * k))), (0, .ref b), (1, .ref (hh 0)), (2, .ref (hm 0)), (3, .ref ho)]) hx hb dL_law_823 hl (by decide) rfl (fun ls hl => ?_)
    refine lv_aload_n hx hb dL_law_825 rfl (lv_at hl 5 rfl) ?_
    refine cP_i (As := []) (rest := []) (wc := (wX8 cI (hm 0) (hm 1) (hm 2) (hm 3) (hm 4) (hm 5) 0 aSm' aLn aAt aWe aRm aBm aHa aS' aSv' aCm aRd aBy)) (wc' := (wX8 cI (hm 0) (hm 1) (hm 2) (hm 3) (hm 4) (hm 5) 0 aSm' aLn aAt aWe aRm aBm aHa aS' aSv' aCm aRd aBy)) (ws' := ((ho, .inl (cL, 1, .inr (.inl (vp_updL oF 0 (r : Int32).toInt64)))) :: (wX7 cI cS hh vCar' vGoa' vEag tN' tF' cN' cF' mP' mS kCap' kGap' kCar' kCop' kGro kShr' bN bF rCmd rLet rNum fCap fGap fCar fCop fGro fShr hX' hC' hR' ++ wX8 cI (hm 0) (hm 1) (hm 2) (hm 3) (hm 4) (hm 5) 0 aSm' aLn aAt aWe aRm aBm aHa aS' aSv' aCm aRd aBy))) hx hb hml hown hg hK hP hD hS hA hl.1 (k_X8_thrown l D cI cS cL Z (hm 0) (hm 1) (hm 2) (hm 3) (hm 4) (hm 5) 0 aSm' aLn aAt aWe aRm aBm aHa aS' aSv' aCm aRd aBy (r := 0) rfl) gm_X8_thrown gw_980 ⟨rfl, rfl, by decide, by decide⟩ ⟨by show 100 + k + 1 ≤ 601024; omega, by show 6000 + 6 * k + 6 ≤ 7293033; omega⟩ pm_l2 pm_l2 rfl rfl rfl rfl rfl rfl (Nat.le_of_ble_eq_true rfl) dL_law_826 (fun H locs hP hD hS => ?_)
    refine lv_iload hx hb dL_law_829 (lv_at hl 1 rfl) ?_
    refine lv_icmp_eq (tgt := 836) hx hb dL_law_831 (by decide) (fun _ => ?_) (fun q => absurd rfl q)
    refine lv_iload hx hb dL_law_836 (lv_at hl 1 rfl) ?_
    refine lv_if_ne (tgt := 853) hx hb dL_law_838 (by decide) (fun q => absurd rfl q) (fun _ => ?_)
    refine lv_aload_n hx hb dL_law_841 rfl (lv_at hl 6 rfl) ?_
    refine lv_iconst (v := 0) hx hb dL_law_842 (by decide) ?_
    refine va_lald hx hb hK.1 hP 0 2 rfl rfl (i := 0) (vp_in_nI (n := 0) (by decide) (by decide)) dL_law_843 ?_
    refine nm_l (y := vp_updL oF 0 (r : Int32).toInt64 0) rfl ?_
    refine lv_iload hx hb dL_law_844 (lv_at hl 0 rfl) ?_
    refine lv_i2l (v := (r : Int32).toInt64) hx hb dL_law_846 rfl ?_
    refine W.lcmp hx hb dL_law_847 ?_
    refine nm_i (y := 0) cmp_same.symm ?_
    refine lv_if_eq (tgt := 853) hx hb dL_law_848 (by decide) (fun _ => ?_) (fun q => absurd rfl q)
    refine lv_goto (tgt := 1867) hx hb dL_law_853 (by decide) ?_
    refine lv_iinc (v := nI (3 * (k + 1))) (lv' := [(4, .int (nI (3 * (k + 1)))), (6, .int r), (5, .int 0), (0, .ref b), (1, .ref (hh 0)), (2, .ref (hm 0)), (3, .ref ho)]) hx hb dL_law_1867 hl (k := 2) rfl (it_3 k) (by decide) rfl (fun ls hl => ?_)
    refine lv_goto (tgt := 23) hx hb dL_law_1870 (by decide) ?_
    refine W.widen (k := 100 + (k + 1)) (n := 6000 + 6 * (k + 1)) (by omega) (by omega) ?_
    exact IH (vCar') (vGoa') vEag (tN') (tF') (cN') (cF') (mP') mS (kCap') (kGap') (kCar') (kCop') kGro (kShr') bN bF rCmd rLet rNum fCap fGap fCar fCop fGro fShr (hX') (hC') (hR') 0 (aSm') aLn aAt aWe aRm aBm aHa (aS') (aSv') aCm aRd aBy (vp_updL oF 0 (r : Int32).toInt64) hRel H locs hP hD hS ls (lv_sub hl [0, 3, 4, 5, 6] rfl)
  · skip
    refine lv_aload_n hx hb dL_law_800 rfl (lv_at hl 2 rfl) ?_
    refine lv_aload_n hx hb dL_law_801 rfl (lv_at hl 1 rfl) ?_
    refine lv_iload hx hb dL_law_802 (lv_at hl 0 rfl) ?_
    refine lv_iconst (v := 1) hx hb dL_law_804 (by decide) ?_
    refine lv_iadd hx hb dL_law_805 ?_
    refine nm_i (y := nI (3 * k + 1)) (nI_1 (3 * k)).symm ?_
    refine va_sld hx hb hXs hbl hbA hS (vp_in_nI (n := 3 * k + 1) (by omega) (by omega)) dL_law_806 ?_
    refine nm_i ea1 ?_
    refine lv_aload_n hx hb dL_law_807 rfl (lv_at hl 4 rfl) ?_
    refine cW_i (As := [.ref (hh 0), .int a1, .ref ho]) (rest := []) (wc := ((ho, .inl (cL, 1, .inr (.inl oF))) :: wX7 cI cS hh vCar vGoa vEag tN tF cN cF mP mS kCap kGap kCar kCop kGro kShr bN bF rCmd rLet rNum fCap fGap fCar fCop fGro fShr hX hC hR)) (wc' := ((ho, .inl (cL, 1, .inr (.inl oF))) :: wX7 cI cS hh vCar vGoa vEag tN tF cN cF mP mS kCap kGap kCar kCop kGro kShr bN bF rCmd rLet rNum fCap fGap fCar fCop fGro fShr hX hC hR)) (ws' := ((ho, .inl (cL, 1, .inr (.inl oF))) :: (wX7 cI cS hh vCar vGoa vEag tN tF cN cF mP mS kCap kGap kCar kCop kGro kShr bN bF rCmd rLet rNum fCap fGap fCar fCop fGro fShr hX hC hR ++ wX8 cI (hm 0) (hm 1) (hm 2) (hm 3) (hm 4) (hm 5) aTh aSm aLn aAt aWe aRm aBm aHa aS aSv aCm aRd aBy))) hx hb hml hown hg hK hP hD hS hA hl.1 hZ (t1_L_cut l hlt D cI cS cL Z hh ho a1 vCar vGoa vEag tN tF cN cF mP mS kCap kGap kCar kCop kGro kShr bN bF rCmd rLet rNum fCap fGap fCar fCop fGro fShr hX hC hR oF e7) gww_L_cut gw_733 ⟨rfl, rfl, by decide, by decide⟩ ⟨by show 100 + k + 1 ≤ 601024; omega, by show 6000 + 6 * k + 6 ≤ 7293033; omega⟩ pm_l0 pm_l0 (congrArg (List.cons ho) fst_X7) rfl rfl (Nat.le_of_ble_eq_true rfl) dL_law_808 (fun H locs hP hD hS => ?_)
    refine lv_istore (lv' := [(5, .int 1), (4, .int (nI (3 * k))), (0, .ref b), (1, .ref (hh 0)), (2, .ref (hm 0)), (3, .ref ho)]) hx hb dL_law_811 hl (by decide) rfl (fun ls hl => ?_)
    refine lv_aload_n hx hb dL_law_813 rfl (lv_at hl 4 rfl) ?_
    refine lv_aload_n hx hb dL_law_814 rfl (lv_at hl 2 rfl) ?_
    refine lv_iload hx hb dL_law_815 (lv_at hl 1 rfl) ?_
    refine lv_iconst (v := 1) hx hb dL_law_817 (by decide) ?_
    refine lv_iadd hx hb dL_law_818 ?_
    refine nm_i (y := nI (3 * k + 1)) (nI_1 (3 * k)).symm ?_
    refine va_sld hx hb hXs hbl hbA hS (vp_in_nI (n := 3 * k + 1) (by omega) (by omega)) dL_law_819 ?_
    refine nm_i ea1 ?_
    refine cP_i (As := [.int a1]) (rest := []) (wc := (wX8 cI (hm 0) (hm 1) (hm 2) (hm 3) (hm 4) (hm 5) aTh aSm aLn aAt aWe aRm aBm aHa aS aSv aCm aRd aBy)) (wc' := (wX8 cI (hm 0) (hm 1) (hm 2) (hm 3) (hm 4) (hm 5) 1 aSm' aLn aAt aWe aRm aBm aHa aS' aSv' aCm aRd aBy)) (ws' := ((ho, .inl (cL, 1, .inr (.inl oF))) :: (wX7 cI cS hh vCar vGoa vEag tN tF cN cF mP mS kCap kGap kCar kCop kGro kShr bN bF rCmd rLet rNum fCap fGap fCar fCop fGro fShr hX hC hR ++ wX8 cI (hm 0) (hm 1) (hm 2) (hm 3) (hm 4) (hm 5) 1 aSm' aLn aAt aWe aRm aBm aHa aS' aSv' aCm aRd aBy))) hx hb hml hown hg hK hP hD hS hA hl.1 (k_X8_cut l D cI cS cL Z (hm 0) (hm 1) (hm 2) (hm 3) (hm 4) (hm 5) a1 aTh aSm aLn aAt aWe aRm aBm aHa aS aSv aCm aRd aBy e8) gm_X8_cut gw_1128 ⟨rfl, rfl, by decide, by decide⟩ ⟨by show 100 + k + 1 ≤ 601024; omega, by show 6000 + 6 * k + 6 ≤ 7293033; omega⟩ pm_l2 pm_l2 fst_X8 rfl rfl rfl rfl rfl (Nat.le_of_ble_eq_true rfl) dL_law_820 (fun H locs hP hD hS => ?_)
    refine lv_istore (lv' := [(6, .int r), (5, .int 1), (4, .int (nI (3 * k))), (0, .ref b), (1, .ref (hh 0)), (2, .ref (hm 0)), (3, .ref ho)]) hx hb dL_law_823 hl (by decide) rfl (fun ls hl => ?_)
    refine lv_aload_n hx hb dL_law_825 rfl (lv_at hl 5 rfl) ?_
    refine cP_i (As := []) (rest := []) (wc := (wX8 cI (hm 0) (hm 1) (hm 2) (hm 3) (hm 4) (hm 5) 1 aSm' aLn aAt aWe aRm aBm aHa aS' aSv' aCm aRd aBy)) (wc' := (wX8 cI (hm 0) (hm 1) (hm 2) (hm 3) (hm 4) (hm 5) 1 aSm' aLn aAt aWe aRm aBm aHa aS' aSv' aCm aRd aBy)) (ws' := ((ho, .inl (cL, 1, .inr (.inl oF))) :: (wX7 cI cS hh vCar vGoa vEag tN tF cN cF mP mS kCap kGap kCar kCop kGro kShr bN bF rCmd rLet rNum fCap fGap fCar fCop fGro fShr hX hC hR ++ wX8 cI (hm 0) (hm 1) (hm 2) (hm 3) (hm 4) (hm 5) 1 aSm' aLn aAt aWe aRm aBm aHa aS' aSv' aCm aRd aBy))) hx hb hml hown hg hK hP hD hS hA hl.1 (k_X8_thrown l D cI cS cL Z (hm 0) (hm 1) (hm 2) (hm 3) (hm 4) (hm 5) 1 aSm' aLn aAt aWe aRm aBm aHa aS' aSv' aCm aRd aBy (r := 1) rfl) gm_X8_thrown gw_980 ⟨rfl, rfl, by decide, by decide⟩ ⟨by show 100 + k + 1 ≤ 601024; omega, by show 6000 + 6 * k + 6 ≤ 7293033; omega⟩ pm_l2 pm_l2 rfl rfl rfl rfl rfl rfl (Nat.le_of_ble_eq_true rfl) dL_law_826 (fun H locs hP hD hS => ?_)
    refine lv_iload hx hb dL_law_829 (lv_at hl 1 rfl) ?_
    refine lv_icmp_eq (tgt := 836) hx hb dL_law_831 (by decide) (fun _ => ?_) (fun q => absurd rfl q)
    refine lv_iload hx hb dL_law_836 (lv_at hl 1 rfl) ?_
    refine lv_if_ne (tgt := 853) hx hb dL_law_838 (by decide) (fun _ => ?_) (fun q => absurd q (by decide))
    refine lv_goto (tgt := 1867) hx hb dL_law_853 (by decide) ?_
    refine lv_iinc (v := nI (3 * (k + 1))) (lv' := [(4, .int (nI (3 * (k + 1)))), (6, .int r), (5, .int 1), (0, .ref b), (1, .ref (hh 0)), (2, .ref (hm 0)), (3, .ref ho)]) hx hb dL_law_1867 hl (k := 2) rfl (it_3 k) (by decide) rfl (fun ls hl => ?_)
    refine lv_goto (tgt := 23) hx hb dL_law_1870 (by decide) ?_
    refine W.widen (k := 100 + (k + 1)) (n := 6000 + 6 * (k + 1)) (by omega) (by omega) ?_
    exact IH vCar vGoa vEag tN tF cN cF mP mS kCap kGap kCar kCop kGro kShr bN bF rCmd rLet rNum fCap fGap fCar fCop fGro fShr hX hC hR 1 (aSm') aLn aAt aWe aRm aBm aHa (aS') (aSv') aCm aRd aBy oF hRel H locs hP hD hS ls (lv_sub hl [0, 3, 4, 5, 6] rfl)
  · skip
    refine lv_aload_n hx hb dL_law_800 rfl (lv_at hl 2 rfl) ?_
    refine lv_aload_n hx hb dL_law_801 rfl (lv_at hl 1 rfl) ?_
    refine lv_iload hx hb dL_law_802 (lv_at hl 0 rfl) ?_
    refine lv_iconst (v := 1) hx hb dL_law_804 (by decide) ?_
    refine lv_iadd hx hb dL_law_805 ?_
    refine nm_i (y := nI (3 * k + 1)) (nI_1 (3 * k)).symm ?_
    refine va_sld hx hb hXs hbl hbA hS (vp_in_nI (n := 3 * k + 1) (by omega) (by omega)) dL_law_806 ?_
    refine nm_i ea1 ?_
    refine lv_aload_n hx hb dL_law_807 rfl (lv_at hl 4 rfl) ?_
    refine cW_i (As := [.ref (hh 0), .int a1, .ref ho]) (rest := []) (wc := ((ho, .inl (cL, 1, .inr (.inl oF))) :: wX7 cI cS hh vCar vGoa vEag tN tF cN cF mP mS kCap kGap kCar kCop kGro kShr bN bF rCmd rLet rNum fCap fGap fCar fCop fGro fShr hX hC hR)) (wc' := ((ho, .inl (cL, 1, .inr (.inl oF))) :: wX7 cI cS hh vCar vGoa vEag tN tF cN cF mP mS kCap kGap kCar kCop kGro kShr bN bF rCmd rLet rNum fCap fGap fCar fCop fGro fShr hX hC hR)) (ws' := ((ho, .inl (cL, 1, .inr (.inl oF))) :: (wX7 cI cS hh vCar vGoa vEag tN tF cN cF mP mS kCap kGap kCar kCop kGro kShr bN bF rCmd rLet rNum fCap fGap fCar fCop fGro fShr hX hC hR ++ wX8 cI (hm 0) (hm 1) (hm 2) (hm 3) (hm 4) (hm 5) aTh aSm aLn aAt aWe aRm aBm aHa aS aSv aCm aRd aBy))) hx hb hml hown hg hK hP hD hS hA hl.1 hZ (t2_L_cut l hlt D cI cS cL Z hh ho a1 vCar vGoa vEag tN tF cN cF mP mS kCap kGap kCar kCop kGro kShr bN bF rCmd rLet rNum fCap fGap fCar fCop fGro fShr hX hC hR oF e7) gww_L_cut gw_733 ⟨rfl, rfl, by decide, by decide⟩ ⟨by show 100 + k + 1 ≤ 601024; omega, by show 6000 + 6 * k + 6 ≤ 7293033; omega⟩ pm_l0 pm_l0 (congrArg (List.cons ho) fst_X7) rfl rfl (Nat.le_of_ble_eq_true rfl) dL_law_808 (fun H locs hP hD hS => ?_)
    refine lv_istore (lv' := [(5, .int 2), (4, .int (nI (3 * k))), (0, .ref b), (1, .ref (hh 0)), (2, .ref (hm 0)), (3, .ref ho)]) hx hb dL_law_811 hl (by decide) rfl (fun ls hl => ?_)
    refine lv_aload_n hx hb dL_law_813 rfl (lv_at hl 4 rfl) ?_
    refine lv_aload_n hx hb dL_law_814 rfl (lv_at hl 2 rfl) ?_
    refine lv_iload hx hb dL_law_815 (lv_at hl 1 rfl) ?_
    refine lv_iconst (v := 1) hx hb dL_law_817 (by decide) ?_
    refine lv_iadd hx hb dL_law_818 ?_
    refine nm_i (y := nI (3 * k + 1)) (nI_1 (3 * k)).symm ?_
    refine va_sld hx hb hXs hbl hbA hS (vp_in_nI (n := 3 * k + 1) (by omega) (by omega)) dL_law_819 ?_
    refine nm_i ea1 ?_
    refine cP_i (As := [.int a1]) (rest := []) (wc := (wX8 cI (hm 0) (hm 1) (hm 2) (hm 3) (hm 4) (hm 5) aTh aSm aLn aAt aWe aRm aBm aHa aS aSv aCm aRd aBy)) (wc' := (wX8 cI (hm 0) (hm 1) (hm 2) (hm 3) (hm 4) (hm 5) 2 aSm' aLn aAt aWe aRm aBm aHa aS' aSv' aCm aRd aBy)) (ws' := ((ho, .inl (cL, 1, .inr (.inl oF))) :: (wX7 cI cS hh vCar vGoa vEag tN tF cN cF mP mS kCap kGap kCar kCop kGro kShr bN bF rCmd rLet rNum fCap fGap fCar fCop fGro fShr hX hC hR ++ wX8 cI (hm 0) (hm 1) (hm 2) (hm 3) (hm 4) (hm 5) 2 aSm' aLn aAt aWe aRm aBm aHa aS' aSv' aCm aRd aBy))) hx hb hml hown hg hK hP hD hS hA hl.1 (k_X8_cut l D cI cS cL Z (hm 0) (hm 1) (hm 2) (hm 3) (hm 4) (hm 5) a1 aTh aSm aLn aAt aWe aRm aBm aHa aS aSv aCm aRd aBy e8) gm_X8_cut gw_1128 ⟨rfl, rfl, by decide, by decide⟩ ⟨by show 100 + k + 1 ≤ 601024; omega, by show 6000 + 6 * k + 6 ≤ 7293033; omega⟩ pm_l2 pm_l2 fst_X8 rfl rfl rfl rfl rfl (Nat.le_of_ble_eq_true rfl) dL_law_820 (fun H locs hP hD hS => ?_)
    refine lv_istore (lv' := [(6, .int r), (5, .int 2), (4, .int (nI (3 * k))), (0, .ref b), (1, .ref (hh 0)), (2, .ref (hm 0)), (3, .ref ho)]) hx hb dL_law_823 hl (by decide) rfl (fun ls hl => ?_)
    refine lv_aload_n hx hb dL_law_825 rfl (lv_at hl 5 rfl) ?_
    refine cP_i (As := []) (rest := []) (wc := (wX8 cI (hm 0) (hm 1) (hm 2) (hm 3) (hm 4) (hm 5) 2 aSm' aLn aAt aWe aRm aBm aHa aS' aSv' aCm aRd aBy)) (wc' := (wX8 cI (hm 0) (hm 1) (hm 2) (hm 3) (hm 4) (hm 5) 2 aSm' aLn aAt aWe aRm aBm aHa aS' aSv' aCm aRd aBy)) (ws' := ((ho, .inl (cL, 1, .inr (.inl oF))) :: (wX7 cI cS hh vCar vGoa vEag tN tF cN cF mP mS kCap kGap kCar kCop kGro kShr bN bF rCmd rLet rNum fCap fGap fCar fCop fGro fShr hX hC hR ++ wX8 cI (hm 0) (hm 1) (hm 2) (hm 3) (hm 4) (hm 5) 2 aSm' aLn aAt aWe aRm aBm aHa aS' aSv' aCm aRd aBy))) hx hb hml hown hg hK hP hD hS hA hl.1 (k_X8_thrown l D cI cS cL Z (hm 0) (hm 1) (hm 2) (hm 3) (hm 4) (hm 5) 2 aSm' aLn aAt aWe aRm aBm aHa aS' aSv' aCm aRd aBy (r := 2) rfl) gm_X8_thrown gw_980 ⟨rfl, rfl, by decide, by decide⟩ ⟨by show 100 + k + 1 ≤ 601024; omega, by show 6000 + 6 * k + 6 ≤ 7293033; omega⟩ pm_l2 pm_l2 rfl rfl rfl rfl rfl rfl (Nat.le_of_ble_eq_true rfl) dL_law_826 (fun H locs hP hD hS => ?_)
    refine lv_iload hx hb dL_law_829 (lv_at hl 1 rfl) ?_
    refine lv_icmp_eq (tgt := 836) hx hb dL_law_831 (by decide) (fun _ => ?_) (fun q => absurd rfl q)
    refine lv_iload hx hb dL_law_836 (lv_at hl 1 rfl) ?_
    refine lv_if_ne (tgt := 853) hx hb dL_law_838 (by decide) (fun _ => ?_) (fun q => absurd q (by decide))
    refine lv_goto (tgt := 1867) hx hb dL_law_853 (by decide) ?_
    refine lv_iinc (v := nI (3 * (k + 1))) (lv' := [(4, .int (nI (3 * (k + 1)))), (6, .int r), (5, .int 2), (0, .ref b), (1, .ref (hh 0)), (2, .ref (hm 0)), (3, .ref ho)]) hx hb dL_law_1867 hl (k := 2) rfl (it_3 k) (by decide) rfl (fun ls hl => ?_)
    refine lv_goto (tgt := 23) hx hb dL_law_1870 (by decide) ?_
    refine W.widen (k := 100 + (k + 1)) (n := 6000 + 6 * (k + 1)) (by omega) (by omega) ?_
    exact IH vCar vGoa vEag tN tF cN cF mP mS kCap kGap kCar kCop kGro kShr bN bF rCmd rLet rNum fCap fGap fCar fCop fGro fShr hX hC hR 2 (aSm') aLn aAt aWe aRm aBm aHa (aS') (aSv') aCm aRd aBy oF hRel H locs hP hD hS ls (lv_sub hl [0, 3, 4, 5, 6] rfl)
set_option maxRecDepth 100000 in
set_option maxHeartbeats 4000000 in
theorem law_c13 {p : Program} {e : Env} {s : State} {m : MethodId} {below : List Frame} {meth : Method} {c : Code} {l : Launch} (hlt : l.stackTraces = false) {D : va_G} {cI cS cL : ClassId} {b L : Nat} {xs : Nat → Int32} (C0 : lw_At p s m meth c b L xs) (hg : ∀ w ∈ GW, w.before #[Value.ref b] s = true) (hK : kk_ D cI cS cL s) (hZ : zz_ (fun q : Nat => s.heap.size ≤ q) s s.heap) (Z : Nat) (Rel : Int32 → Int32 → Int32 → Int32 → (Nat → Int32) → Int32 → (Nat → Int32) → (Nat → Int32) → (Nat → Int32) → Int32 → Int32 → Int32 → Int32 → Int32 → Int32 → Int32 → (Nat → Int32) → Int32 → Int32 → Int32 → Int32 → Int32 → Int32 → Int32 → Int32 → Int32 → Int32 → Int32 → (Nat → StT) → Int32 → Int32 → Int32 → Int32 → Int32 → Int32 → Int32 → Int64 → (Nat → Int32) → (Nat → Int32) → (Nat → Int32) → (Nat → Int32) → (Nat → Int32) → Prop) (pb : PB_paste Z Rel) (hh hm : Nat → Nat) (ho k : Nat) (hk : 3 * k + 2 < L) (hL : L ≤ 1536) (vCar : Int32) (vGoa : Int32) (vEag : Int32) (tN : Int32) (tF : Nat → Int32) (cN : Int32) (cF : Nat → Int32) (mP : Nat → Int32) (mS : Nat → Int32) (kCap : Int32) (kGap : Int32) (kCar : Int32) (kCop : Int32) (kGro : Int32) (kShr : Int32) (bN : Int32) (bF : Nat → Int32) (rCmd : Int32) (rLet : Int32) (rNum : Int32) (fCap : Int32) (fGap : Int32) (fCar : Int32) (fCop : Int32) (fGro : Int32) (fShr : Int32) (hX : Int32) (hC : Int32) (hR : Nat → StT) (aTh : Int32) (aSm : Int32) (aLn : Int32) (aAt : Int32) (aWe : Int32) (aRm : Int32) (aBm : Int32) (aHa : Int64) (aS : Nat → Int32) (aSv : Nat → Int32) (aCm : Nat → Int32) (aRd : Nat → Int32) (aBy : Nat → Int32) (oF : Nat → Int64) (hRel : Rel vCar vGoa vEag tN tF cN cF mP mS kCap kGap kCar kCop kGro kShr bN bF rCmd rLet rNum fCap fGap fCar fCop fGro fShr hX hC hR aTh aSm aLn aAt aWe aRm aBm aHa aS aSv aCm aRd aBy) (H : Heap) (locs : List Loc) (hP : va_P D vwCl (wLW cI cS cL hh hm ho vCar vGoa vEag tN tF cN cF mP mS kCap kGap kCar kCop kGro kShr bN bF rCmd rLet rNum fCap fGap fCar fCop fGro fShr hX hC hR aTh aSm aLn aAt aWe aRm aBm aHa aS aSv aCm aRd aBy oF) H) (hD : va_D (fun q : Nat => s.heap.size ≤ q) (wLW cI cS cL hh hm ho vCar vGoa vEag tN tF cN cF mP mS kCap kGap kCar kCop kGro kShr bN bF rCmd rLet rNum fCap fGap fCar fCop fGro fShr hX hC hR aTh aSm aLn aAt aWe aRm aBm aHa aS aSv aCm aRd aBy oF)) (hS : va_S (fun q : Nat => s.heap.size ≤ q) s.heap H locs) (ls : Array Slot) (hl : lv_has ls 7 [(4, .int (nI (3 * k))), (0, .ref b), (1, .ref (hh 0)), (2, .ref (hm 0)), (3, .ref ho)]) (IH : LH p l e s m b below meth c D cI cS cL hh hm ho (k + 1) Rel) : W p l e room_1 s m #[Value.ref b] below meth c H locs (100 + k) (6000 + 6 * k) (lw_Z below #[Value.ref b] s) (F0 m 856 ls []) := by
  obtain ⟨hx, hb, hr, hml, hown, hts, hXs, hbl, hlocks, hgv⟩ := C0
  have hown : s.vm.findClass RL = some m.cls := hown
  have hA : ∀ q : Nat, s.heap.size ≤ q → (fun q : Nat => s.heap.size ≤ q) q := fun _ h => h
  have hbA : ¬ (fun q : Nat => s.heap.size ≤ q) b := Nat.not_le.mpr hbl
  obtain ⟨a1, ea1⟩ : ∃ y, y = xs (nI (3 * k + 1)).toNatClampNeg := ⟨_, rfl⟩
  obtain ⟨a2, ea2⟩ : ∃ y, y = xs (nI (3 * k + 2)).toNatClampNeg := ⟨_, rfl⟩
  rcases pb  vCar vGoa vEag tN tF cN cF mP mS kCap kGap kCar kCop kGro kShr bN bF rCmd rLet rNum fCap fGap fCar fCop fGro fShr hX hC hR aTh aSm aLn aAt aWe aRm aBm aHa aS aSv aCm aRd aBy hRel with ⟨r, vCar', vGoa', tN', tF', mP', kCap', kGap', kCar', kCop', kGro', hX', hC', hR', aSm', aBm', aS', aSv', aBy', e7, e8, hRel⟩ | ⟨r, aSm', aBm', aS', aSv', aBy', e7, e8, hRel⟩
  · skip
    refine lv_aload_n hx hb dL_law_856 rfl (lv_at hl 2 rfl) ?_
    refine lv_aload_n hx hb dL_law_857 rfl (lv_at hl 4 rfl) ?_
    refine cW_i (As := [.ref (hh 0), .ref ho]) (rest := []) (wc := ((ho, .inl (cL, 1, .inr (.inl oF))) :: wX7 cI cS hh vCar vGoa vEag tN tF cN cF mP mS kCap kGap kCar kCop kGro kShr bN bF rCmd rLet rNum fCap fGap fCar fCop fGro fShr hX hC hR)) (wc' := ((ho, .inl (cL, 1, .inr (.inl (vp_updL oF 0 (r : Int32).toInt64)))) :: wX7 cI cS hh vCar' vGoa' vEag tN' tF' cN cF mP' mS kCap' kGap' kCar' kCop' kGro' kShr bN bF rCmd rLet rNum fCap fGap fCar fCop fGro fShr hX' hC' hR')) (ws' := ((ho, .inl (cL, 1, .inr (.inl (vp_updL oF 0 (r : Int32).toInt64)))) :: (wX7 cI cS hh vCar' vGoa' vEag tN' tF' cN cF mP' mS kCap' kGap' kCar' kCop' kGro' kShr bN bF rCmd rLet rNum fCap fGap fCar fCop fGro fShr hX' hC' hR' ++ wX8 cI (hm 0) (hm 1) (hm 2) (hm 3) (hm 4) (hm 5) aTh aSm aLn aAt aWe aRm aBm aHa aS aSv aCm aRd aBy))) hx hb hml hown hg hK hP hD hS hA hl.1 hZ (k_L_paste l D cI cS cL Z hh ho vCar vGoa vEag tN tF cN cF mP mS kCap kGap kCar kCop kGro kShr bN bF rCmd rLet rNum fCap fGap fCar fCop fGro fShr hX hC hR oF e7) gww_L_paste gw_745 ⟨rfl, rfl, by decide, by decide⟩ ⟨by show 100 + k + 1 ≤ 601024; omega, by show 6000 + 6 * k + 6 ≤ 7293033; omega⟩ pm_l0 pm_l0 (congrArg (List.cons ho) fst_X7) rfl rfl (Nat.le_of_ble_eq_true rfl) dL_law_858 (fun H locs hP hD hS => ?_)
    refine lv_istore (lv' := [(5, .int 0), (4, .int (nI (3 * k))), (0, .ref b), (1, .ref (hh 0)), (2, .ref (hm 0)), (3, .ref ho)]) hx hb dL_law_861 hl (by decide) rfl (fun ls hl => ?_)
    refine lv_aload_n hx hb dL_law_863 rfl (lv_at hl 4 rfl) ?_
    refine cP_i (As := []) (rest := []) (wc := (wX8 cI (hm 0) (hm 1) (hm 2) (hm 3) (hm 4) (hm 5) aTh aSm aLn aAt aWe aRm aBm aHa aS aSv aCm aRd aBy)) (wc' := (wX8 cI (hm 0) (hm 1) (hm 2) (hm 3) (hm 4) (hm 5) 0 aSm' aLn aAt aWe aRm aBm' aHa aS' aSv' aCm aRd aBy')) (ws' := ((ho, .inl (cL, 1, .inr (.inl (vp_updL oF 0 (r : Int32).toInt64)))) :: (wX7 cI cS hh vCar' vGoa' vEag tN' tF' cN cF mP' mS kCap' kGap' kCar' kCop' kGro' kShr bN bF rCmd rLet rNum fCap fGap fCar fCop fGro fShr hX' hC' hR' ++ wX8 cI (hm 0) (hm 1) (hm 2) (hm 3) (hm 4) (hm 5) 0 aSm' aLn aAt aWe aRm aBm' aHa aS' aSv' aCm aRd aBy'))) hx hb hml hown hg hK hP hD hS hA hl.1 (k_X8_paste l D cI cS cL Z (hm 0) (hm 1) (hm 2) (hm 3) (hm 4) (hm 5) aTh aSm aLn aAt aWe aRm aBm aHa aS aSv aCm aRd aBy e8) gm_X8_paste gw_1136 ⟨rfl, rfl, by decide, by decide⟩ ⟨by show 100 + k + 1 ≤ 601024; omega, by show 6000 + 6 * k + 6 ≤ 7293033; omega⟩ pm_l2 pm_l2 fst_X8 rfl rfl rfl rfl rfl (Nat.le_of_ble_eq_true rfl) dL_law_864 (fun H locs hP hD hS => ?_)
    refine lv_istore (lv' := [(6, .int r), (5, .int 0), (4, .int (nI (3 * k))), (0, .ref b), (1, .ref (hh 0)), (2, .ref (hm 0)), (3, .ref ho)]) hx hb dL_law_867 hl (by decide) rfl (fun ls hl => ?_)
    refine lv_aload_n hx hb dL_law_869 rfl (lv_at hl 5 rfl) ?_
    refine cP_i (As := []) (rest := []) (wc := (wX8 cI (hm 0) (hm 1) (hm 2) (hm 3) (hm 4) (hm 5) 0 aSm' aLn aAt aWe aRm aBm' aHa aS' aSv' aCm aRd aBy')) (wc' := (wX8 cI (hm 0) (hm 1) (hm 2) (hm 3) (hm 4) (hm 5) 0 aSm' aLn aAt aWe aRm aBm' aHa aS' aSv' aCm aRd aBy')) (ws' := ((ho, .inl (cL, 1, .inr (.inl (vp_updL oF 0 (r : Int32).toInt64)))) :: (wX7 cI cS hh vCar' vGoa' vEag tN' tF' cN cF mP' mS kCap' kGap' kCar' kCop' kGro' kShr bN bF rCmd rLet rNum fCap fGap fCar fCop fGro fShr hX' hC' hR' ++ wX8 cI (hm 0) (hm 1) (hm 2) (hm 3) (hm 4) (hm 5) 0 aSm' aLn aAt aWe aRm aBm' aHa aS' aSv' aCm aRd aBy'))) hx hb hml hown hg hK hP hD hS hA hl.1 (k_X8_thrown l D cI cS cL Z (hm 0) (hm 1) (hm 2) (hm 3) (hm 4) (hm 5) 0 aSm' aLn aAt aWe aRm aBm' aHa aS' aSv' aCm aRd aBy' (r := 0) rfl) gm_X8_thrown gw_980 ⟨rfl, rfl, by decide, by decide⟩ ⟨by show 100 + k + 1 ≤ 601024; omega, by show 6000 + 6 * k + 6 ≤ 7293033; omega⟩ pm_l2 pm_l2 rfl rfl rfl rfl rfl rfl (Nat.le_of_ble_eq_true rfl) dL_law_870 (fun H locs hP hD hS => ?_)
    refine lv_iload hx hb dL_law_873 (lv_at hl 1 rfl) ?_
    refine lv_icmp_eq (tgt := 880) hx hb dL_law_875 (by decide) (fun _ => ?_) (fun q => absurd rfl q)
    refine lv_iload hx hb dL_law_880 (lv_at hl 1 rfl) ?_
    refine lv_if_ne (tgt := 897) hx hb dL_law_882 (by decide) (fun q => absurd rfl q) (fun _ => ?_)
    refine lv_aload_n hx hb dL_law_885 rfl (lv_at hl 6 rfl) ?_
    refine lv_iconst (v := 0) hx hb dL_law_886 (by decide) ?_
    refine va_lald hx hb hK.1 hP 0 2 rfl rfl (i := 0) (vp_in_nI (n := 0) (by decide) (by decide)) dL_law_887 ?_
    refine nm_l (y := vp_updL oF 0 (r : Int32).toInt64 0) rfl ?_
    refine lv_iload hx hb dL_law_888 (lv_at hl 0 rfl) ?_
    refine lv_i2l (v := (r : Int32).toInt64) hx hb dL_law_890 rfl ?_
    refine W.lcmp hx hb dL_law_891 ?_
    refine nm_i (y := 0) cmp_same.symm ?_
    refine lv_if_eq (tgt := 897) hx hb dL_law_892 (by decide) (fun _ => ?_) (fun q => absurd rfl q)
    refine lv_goto (tgt := 1867) hx hb dL_law_897 (by decide) ?_
    refine lv_iinc (v := nI (3 * (k + 1))) (lv' := [(4, .int (nI (3 * (k + 1)))), (6, .int r), (5, .int 0), (0, .ref b), (1, .ref (hh 0)), (2, .ref (hm 0)), (3, .ref ho)]) hx hb dL_law_1867 hl (k := 2) rfl (it_3 k) (by decide) rfl (fun ls hl => ?_)
    refine lv_goto (tgt := 23) hx hb dL_law_1870 (by decide) ?_
    refine W.widen (k := 100 + (k + 1)) (n := 6000 + 6 * (k + 1)) (by omega) (by omega) ?_
    exact IH (vCar') (vGoa') vEag (tN') (tF') cN cF (mP') mS (kCap') (kGap') (kCar') (kCop') (kGro') kShr bN bF rCmd rLet rNum fCap fGap fCar fCop fGro fShr (hX') (hC') (hR') 0 (aSm') aLn aAt aWe aRm (aBm') aHa (aS') (aSv') aCm aRd (aBy') (vp_updL oF 0 (r : Int32).toInt64) hRel H locs hP hD hS ls (lv_sub hl [0, 3, 4, 5, 6] rfl)
  · skip
    refine lv_aload_n hx hb dL_law_856 rfl (lv_at hl 2 rfl) ?_
    refine lv_aload_n hx hb dL_law_857 rfl (lv_at hl 4 rfl) ?_
    refine cW_i (As := [.ref (hh 0), .ref ho]) (rest := []) (wc := ((ho, .inl (cL, 1, .inr (.inl oF))) :: wX7 cI cS hh vCar vGoa vEag tN tF cN cF mP mS kCap kGap kCar kCop kGro kShr bN bF rCmd rLet rNum fCap fGap fCar fCop fGro fShr hX hC hR)) (wc' := ((ho, .inl (cL, 1, .inr (.inl oF))) :: wX7 cI cS hh vCar vGoa vEag tN tF cN cF mP mS kCap kGap kCar kCop kGro kShr bN bF rCmd rLet rNum fCap fGap fCar fCop fGro fShr hX hC hR)) (ws' := ((ho, .inl (cL, 1, .inr (.inl oF))) :: (wX7 cI cS hh vCar vGoa vEag tN tF cN cF mP mS kCap kGap kCar kCop kGro kShr bN bF rCmd rLet rNum fCap fGap fCar fCop fGro fShr hX hC hR ++ wX8 cI (hm 0) (hm 1) (hm 2) (hm 3) (hm 4) (hm 5) aTh aSm aLn aAt aWe aRm aBm aHa aS aSv aCm aRd aBy))) hx hb hml hown hg hK hP hD hS hA hl.1 hZ (t1_L_paste l hlt D cI cS cL Z hh ho vCar vGoa vEag tN tF cN cF mP mS kCap kGap kCar kCop kGro kShr bN bF rCmd rLet rNum fCap fGap fCar fCop fGro fShr hX hC hR oF e7) gww_L_paste gw_745 ⟨rfl, rfl, by decide, by decide⟩ ⟨by show 100 + k + 1 ≤ 601024; omega, by show 6000 + 6 * k + 6 ≤ 7293033; omega⟩ pm_l0 pm_l0 (congrArg (List.cons ho) fst_X7) rfl rfl (Nat.le_of_ble_eq_true rfl) dL_law_858 (fun H locs hP hD hS => ?_)
    refine lv_istore (lv' := [(5, .int 1), (4, .int (nI (3 * k))), (0, .ref b), (1, .ref (hh 0)), (2, .ref (hm 0)), (3, .ref ho)]) hx hb dL_law_861 hl (by decide) rfl (fun ls hl => ?_)
    refine lv_aload_n hx hb dL_law_863 rfl (lv_at hl 4 rfl) ?_
    refine cP_i (As := []) (rest := []) (wc := (wX8 cI (hm 0) (hm 1) (hm 2) (hm 3) (hm 4) (hm 5) aTh aSm aLn aAt aWe aRm aBm aHa aS aSv aCm aRd aBy)) (wc' := (wX8 cI (hm 0) (hm 1) (hm 2) (hm 3) (hm 4) (hm 5) 1 aSm' aLn aAt aWe aRm aBm' aHa aS' aSv' aCm aRd aBy')) (ws' := ((ho, .inl (cL, 1, .inr (.inl oF))) :: (wX7 cI cS hh vCar vGoa vEag tN tF cN cF mP mS kCap kGap kCar kCop kGro kShr bN bF rCmd rLet rNum fCap fGap fCar fCop fGro fShr hX hC hR ++ wX8 cI (hm 0) (hm 1) (hm 2) (hm 3) (hm 4) (hm 5) 1 aSm' aLn aAt aWe aRm aBm' aHa aS' aSv' aCm aRd aBy'))) hx hb hml hown hg hK hP hD hS hA hl.1 (k_X8_paste l D cI cS cL Z (hm 0) (hm 1) (hm 2) (hm 3) (hm 4) (hm 5) aTh aSm aLn aAt aWe aRm aBm aHa aS aSv aCm aRd aBy e8) gm_X8_paste gw_1136 ⟨rfl, rfl, by decide, by decide⟩ ⟨by show 100 + k + 1 ≤ 601024; omega, by show 6000 + 6 * k + 6 ≤ 7293033; omega⟩ pm_l2 pm_l2 fst_X8 rfl rfl rfl rfl rfl (Nat.le_of_ble_eq_true rfl) dL_law_864 (fun H locs hP hD hS => ?_)
    refine lv_istore (lv' := [(6, .int r), (5, .int 1), (4, .int (nI (3 * k))), (0, .ref b), (1, .ref (hh 0)), (2, .ref (hm 0)), (3, .ref ho)]) hx hb dL_law_867 hl (by decide) rfl (fun ls hl => ?_)
    refine lv_aload_n hx hb dL_law_869 rfl (lv_at hl 5 rfl) ?_
    refine cP_i (As := []) (rest := []) (wc := (wX8 cI (hm 0) (hm 1) (hm 2) (hm 3) (hm 4) (hm 5) 1 aSm' aLn aAt aWe aRm aBm' aHa aS' aSv' aCm aRd aBy')) (wc' := (wX8 cI (hm 0) (hm 1) (hm 2) (hm 3) (hm 4) (hm 5) 1 aSm' aLn aAt aWe aRm aBm' aHa aS' aSv' aCm aRd aBy')) (ws' := ((ho, .inl (cL, 1, .inr (.inl oF))) :: (wX7 cI cS hh vCar vGoa vEag tN tF cN cF mP mS kCap kGap kCar kCop kGro kShr bN bF rCmd rLet rNum fCap fGap fCar fCop fGro fShr hX hC hR ++ wX8 cI (hm 0) (hm 1) (hm 2) (hm 3) (hm 4) (hm 5) 1 aSm' aLn aAt aWe aRm aBm' aHa aS' aSv' aCm aRd aBy'))) hx hb hml hown hg hK hP hD hS hA hl.1 (k_X8_thrown l D cI cS cL Z (hm 0) (hm 1) (hm 2) (hm 3) (hm 4) (hm 5) 1 aSm' aLn aAt aWe aRm aBm' aHa aS' aSv' aCm aRd aBy' (r := 1) rfl) gm_X8_thrown gw_980 ⟨rfl, rfl, by decide, by decide⟩ ⟨by show 100 + k + 1 ≤ 601024; omega, by show 6000 + 6 * k + 6 ≤ 7293033; omega⟩ pm_l2 pm_l2 rfl rfl rfl rfl rfl rfl (Nat.le_of_ble_eq_true rfl) dL_law_870 (fun H locs hP hD hS => ?_)
    refine lv_iload hx hb dL_law_873 (lv_at hl 1 rfl) ?_
    refine lv_icmp_eq (tgt := 880) hx hb dL_law_875 (by decide) (fun _ => ?_) (fun q => absurd rfl q)
    refine lv_iload hx hb dL_law_880 (lv_at hl 1 rfl) ?_
    refine lv_if_ne (tgt := 897) hx hb dL_law_882 (by decide) (fun _ => ?_) (fun q => absurd q (by decide))
    refine lv_goto (tgt := 1867) hx hb dL_law_897 (by decide) ?_
    refine lv_iinc (v := nI (3 * (k + 1))) (lv' := [(4, .int (nI (3 * (k + 1)))), (6, .int r), (5, .int 1), (0, .ref b), (1, .ref (hh 0)), (2, .ref (hm 0)), (3, .ref ho)]) hx hb dL_law_1867 hl (k := 2) rfl (it_3 k) (by decide) rfl (fun ls hl => ?_)
    refine lv_goto (tgt := 23) hx hb dL_law_1870 (by decide) ?_
    refine W.widen (k := 100 + (k + 1)) (n := 6000 + 6 * (k + 1)) (by omega) (by omega) ?_
    exact IH vCar vGoa vEag tN tF cN cF mP mS kCap kGap kCar kCop kGro kShr bN bF rCmd rLet rNum fCap fGap fCar fCop fGro fShr hX hC hR 1 (aSm') aLn aAt aWe aRm (aBm') aHa (aS') (aSv') aCm aRd (aBy') oF hRel H locs hP hD hS ls (lv_sub hl [0, 3, 4, 5, 6] rfl)
set_option maxRecDepth 100000 in
set_option maxHeartbeats 4000000 in
theorem law_c14 {p : Program} {e : Env} {s : State} {m : MethodId} {below : List Frame} {meth : Method} {c : Code} {l : Launch} (hlt : l.stackTraces = false) {D : va_G} {cI cS cL : ClassId} {b L : Nat} {xs : Nat → Int32} (C0 : lw_At p s m meth c b L xs) (hg : ∀ w ∈ GW, w.before #[Value.ref b] s = true) (hK : kk_ D cI cS cL s) (hZ : zz_ (fun q : Nat => s.heap.size ≤ q) s s.heap) (Z : Nat) (Rel : Int32 → Int32 → Int32 → Int32 → (Nat → Int32) → Int32 → (Nat → Int32) → (Nat → Int32) → (Nat → Int32) → Int32 → Int32 → Int32 → Int32 → Int32 → Int32 → Int32 → (Nat → Int32) → Int32 → Int32 → Int32 → Int32 → Int32 → Int32 → Int32 → Int32 → Int32 → Int32 → Int32 → (Nat → StT) → Int32 → Int32 → Int32 → Int32 → Int32 → Int32 → Int32 → Int64 → (Nat → Int32) → (Nat → Int32) → (Nat → Int32) → (Nat → Int32) → (Nat → Int32) → Prop) (pb : PB_mark Z Rel) (hh hm : Nat → Nat) (ho k : Nat) (hk : 3 * k + 2 < L) (hL : L ≤ 1536) (vCar : Int32) (vGoa : Int32) (vEag : Int32) (tN : Int32) (tF : Nat → Int32) (cN : Int32) (cF : Nat → Int32) (mP : Nat → Int32) (mS : Nat → Int32) (kCap : Int32) (kGap : Int32) (kCar : Int32) (kCop : Int32) (kGro : Int32) (kShr : Int32) (bN : Int32) (bF : Nat → Int32) (rCmd : Int32) (rLet : Int32) (rNum : Int32) (fCap : Int32) (fGap : Int32) (fCar : Int32) (fCop : Int32) (fGro : Int32) (fShr : Int32) (hX : Int32) (hC : Int32) (hR : Nat → StT) (aTh : Int32) (aSm : Int32) (aLn : Int32) (aAt : Int32) (aWe : Int32) (aRm : Int32) (aBm : Int32) (aHa : Int64) (aS : Nat → Int32) (aSv : Nat → Int32) (aCm : Nat → Int32) (aRd : Nat → Int32) (aBy : Nat → Int32) (oF : Nat → Int64) (hRel : Rel vCar vGoa vEag tN tF cN cF mP mS kCap kGap kCar kCop kGro kShr bN bF rCmd rLet rNum fCap fGap fCar fCop fGro fShr hX hC hR aTh aSm aLn aAt aWe aRm aBm aHa aS aSv aCm aRd aBy) (H : Heap) (locs : List Loc) (hP : va_P D vwCl (wLW cI cS cL hh hm ho vCar vGoa vEag tN tF cN cF mP mS kCap kGap kCar kCop kGro kShr bN bF rCmd rLet rNum fCap fGap fCar fCop fGro fShr hX hC hR aTh aSm aLn aAt aWe aRm aBm aHa aS aSv aCm aRd aBy oF) H) (hD : va_D (fun q : Nat => s.heap.size ≤ q) (wLW cI cS cL hh hm ho vCar vGoa vEag tN tF cN cF mP mS kCap kGap kCar kCop kGro kShr bN bF rCmd rLet rNum fCap fGap fCar fCop fGro fShr hX hC hR aTh aSm aLn aAt aWe aRm aBm aHa aS aSv aCm aRd aBy oF)) (hS : va_S (fun q : Nat => s.heap.size ≤ q) s.heap H locs) (ls : Array Slot) (hl : lv_has ls 7 [(4, .int (nI (3 * k))), (0, .ref b), (1, .ref (hh 0)), (2, .ref (hm 0)), (3, .ref ho)]) (IH : LH p l e s m b below meth c D cI cS cL hh hm ho (k + 1) Rel) : W p l e room_1 s m #[Value.ref b] below meth c H locs (100 + k) (6000 + 6 * k) (lw_Z below #[Value.ref b] s) (F0 m 900 ls []) := by
  obtain ⟨hx, hb, hr, hml, hown, hts, hXs, hbl, hlocks, hgv⟩ := C0
  have hown : s.vm.findClass RL = some m.cls := hown
  have hA : ∀ q : Nat, s.heap.size ≤ q → (fun q : Nat => s.heap.size ≤ q) q := fun _ h => h
  have hbA : ¬ (fun q : Nat => s.heap.size ≤ q) b := Nat.not_le.mpr hbl
  obtain ⟨a1, ea1⟩ : ∃ y, y = xs (nI (3 * k + 1)).toNatClampNeg := ⟨_, rfl⟩
  obtain ⟨a2, ea2⟩ : ∃ y, y = xs (nI (3 * k + 2)).toNatClampNeg := ⟨_, rfl⟩
  rcases pb a1 vCar vGoa vEag tN tF cN cF mP mS kCap kGap kCar kCop kGro kShr bN bF rCmd rLet rNum fCap fGap fCar fCop fGro fShr hX hC hR aTh aSm aLn aAt aWe aRm aBm aHa aS aSv aCm aRd aBy hRel with ⟨r, e7, e8, hRel⟩ | ⟨r, e7, e8, hRel⟩
  · skip
    refine lv_aload_n hx hb dL_law_900 rfl (lv_at hl 2 rfl) ?_
    refine lv_aload_n hx hb dL_law_901 rfl (lv_at hl 1 rfl) ?_
    refine lv_iload hx hb dL_law_902 (lv_at hl 0 rfl) ?_
    refine lv_iconst (v := 1) hx hb dL_law_904 (by decide) ?_
    refine lv_iadd hx hb dL_law_905 ?_
    refine nm_i (y := nI (3 * k + 1)) (nI_1 (3 * k)).symm ?_
    refine va_sld hx hb hXs hbl hbA hS (vp_in_nI (n := 3 * k + 1) (by omega) (by omega)) dL_law_906 ?_
    refine nm_i ea1 ?_
    refine lv_aload_n hx hb dL_law_907 rfl (lv_at hl 4 rfl) ?_
    refine cW_i (As := [.ref (hh 0), .int a1, .ref ho]) (rest := []) (wc := ((ho, .inl (cL, 1, .inr (.inl oF))) :: wX7 cI cS hh vCar vGoa vEag tN tF cN cF mP mS kCap kGap kCar kCop kGro kShr bN bF rCmd rLet rNum fCap fGap fCar fCop fGro fShr hX hC hR)) (wc' := ((ho, .inl (cL, 1, .inr (.inl (vp_updL oF 0 (r : Int32).toInt64)))) :: wX7 cI cS hh vCar vGoa vEag tN tF cN cF mP mS kCap kGap kCar kCop kGro kShr bN bF rCmd rLet rNum fCap fGap fCar fCop fGro fShr hX hC hR)) (ws' := ((ho, .inl (cL, 1, .inr (.inl (vp_updL oF 0 (r : Int32).toInt64)))) :: (wX7 cI cS hh vCar vGoa vEag tN tF cN cF mP mS kCap kGap kCar kCop kGro kShr bN bF rCmd rLet rNum fCap fGap fCar fCop fGro fShr hX hC hR ++ wX8 cI (hm 0) (hm 1) (hm 2) (hm 3) (hm 4) (hm 5) aTh aSm aLn aAt aWe aRm aBm aHa aS aSv aCm aRd aBy))) hx hb hml hown hg hK hP hD hS hA hl.1 hZ (k_L_mark l D cI cS cL Z hh ho a1 vCar vGoa vEag tN tF cN cF mP mS kCap kGap kCar kCop kGro kShr bN bF rCmd rLet rNum fCap fGap fCar fCop fGro fShr hX hC hR oF e7) gww_L_mark gw_761 ⟨rfl, rfl, by decide, by decide⟩ ⟨by show 100 + k + 1 ≤ 601024; omega, by show 6000 + 6 * k + 6 ≤ 7293033; omega⟩ pm_l0 pm_l0 (congrArg (List.cons ho) fst_X7) rfl rfl (Nat.le_of_ble_eq_true rfl) dL_law_908 (fun H locs hP hD hS => ?_)
    refine lv_istore (lv' := [(5, .int 0), (4, .int (nI (3 * k))), (0, .ref b), (1, .ref (hh 0)), (2, .ref (hm 0)), (3, .ref ho)]) hx hb dL_law_911 hl (by decide) rfl (fun ls hl => ?_)
    refine lv_aload_n hx hb dL_law_913 rfl (lv_at hl 4 rfl) ?_
    refine lv_aload_n hx hb dL_law_914 rfl (lv_at hl 2 rfl) ?_
    refine lv_iload hx hb dL_law_915 (lv_at hl 1 rfl) ?_
    refine lv_iconst (v := 1) hx hb dL_law_917 (by decide) ?_
    refine lv_iadd hx hb dL_law_918 ?_
    refine nm_i (y := nI (3 * k + 1)) (nI_1 (3 * k)).symm ?_
    refine va_sld hx hb hXs hbl hbA hS (vp_in_nI (n := 3 * k + 1) (by omega) (by omega)) dL_law_919 ?_
    refine nm_i ea1 ?_
    refine cP_i (As := [.int a1]) (rest := []) (wc := (wX8 cI (hm 0) (hm 1) (hm 2) (hm 3) (hm 4) (hm 5) aTh aSm aLn aAt aWe aRm aBm aHa aS aSv aCm aRd aBy)) (wc' := (wX8 cI (hm 0) (hm 1) (hm 2) (hm 3) (hm 4) (hm 5) 0 aSm aLn aAt aWe aRm aBm aHa aS aSv aCm aRd aBy)) (ws' := ((ho, .inl (cL, 1, .inr (.inl (vp_updL oF 0 (r : Int32).toInt64)))) :: (wX7 cI cS hh vCar vGoa vEag tN tF cN cF mP mS kCap kGap kCar kCop kGro kShr bN bF rCmd rLet rNum fCap fGap fCar fCop fGro fShr hX hC hR ++ wX8 cI (hm 0) (hm 1) (hm 2) (hm 3) (hm 4) (hm 5) 0 aSm aLn aAt aWe aRm aBm aHa aS aSv aCm aRd aBy))) hx hb hml hown hg hK hP hD hS hA hl.1 (k_X8_mark l D cI cS cL Z (hm 0) (hm 1) (hm 2) (hm 3) (hm 4) (hm 5) a1 aTh aSm aLn aAt aWe aRm aBm aHa aS aSv aCm aRd aBy e8) gm_X8_mark gw_1144 ⟨rfl, rfl, by decide, by decide⟩ ⟨by show 100 + k + 1 ≤ 601024; omega, by show 6000 + 6 * k + 6 ≤ 7293033; omega⟩ pm_l2 pm_l2 fst_X8 rfl rfl rfl rfl rfl (Nat.le_of_ble_eq_true rfl) dL_law_920 (fun H locs hP hD hS => ?_)
    refine lv_istore (lv' := [(6, .int r), (5, .int 0), (4, .int (nI (3 * k))), (0, .ref b), (1, .ref (hh 0)), (2, .ref (hm 0)), (3, .ref ho)]) hx hb dL_law_923 hl (by decide) rfl (fun ls hl => ?_)
    refine lv_aload_n hx hb dL_law_925 rfl (lv_at hl 5 rfl) ?_
    refine cP_i (As := []) (rest := []) (wc := (wX8 cI (hm 0) (hm 1) (hm 2) (hm 3) (hm 4) (hm 5) 0 aSm aLn aAt aWe aRm aBm aHa aS aSv aCm aRd aBy)) (wc' := (wX8 cI (hm 0) (hm 1) (hm 2) (hm 3) (hm 4) (hm 5) 0 aSm aLn aAt aWe aRm aBm aHa aS aSv aCm aRd aBy)) (ws' := ((ho, .inl (cL, 1, .inr (.inl (vp_updL oF 0 (r : Int32).toInt64)))) :: (wX7 cI cS hh vCar vGoa vEag tN tF cN cF mP mS kCap kGap kCar kCop kGro kShr bN bF rCmd rLet rNum fCap fGap fCar fCop fGro fShr hX hC hR ++ wX8 cI (hm 0) (hm 1) (hm 2) (hm 3) (hm 4) (hm 5) 0 aSm aLn aAt aWe aRm aBm aHa aS aSv aCm aRd aBy))) hx hb hml hown hg hK hP hD hS hA hl.1 (k_X8_thrown l D cI cS cL Z (hm 0) (hm 1) (hm 2) (hm 3) (hm 4) (hm 5) 0 aSm aLn aAt aWe aRm aBm aHa aS aSv aCm aRd aBy (r := 0) rfl) gm_X8_thrown gw_980 ⟨rfl, rfl, by decide, by decide⟩ ⟨by show 100 + k + 1 ≤ 601024; omega, by show 6000 + 6 * k + 6 ≤ 7293033; omega⟩ pm_l2 pm_l2 rfl rfl rfl rfl rfl rfl (Nat.le_of_ble_eq_true rfl) dL_law_926 (fun H locs hP hD hS => ?_)
    refine lv_iload hx hb dL_law_929 (lv_at hl 1 rfl) ?_
    refine lv_icmp_eq (tgt := 936) hx hb dL_law_931 (by decide) (fun _ => ?_) (fun q => absurd rfl q)
    refine lv_iload hx hb dL_law_936 (lv_at hl 1 rfl) ?_
    refine lv_if_ne (tgt := 953) hx hb dL_law_938 (by decide) (fun q => absurd rfl q) (fun _ => ?_)
    refine lv_aload_n hx hb dL_law_941 rfl (lv_at hl 6 rfl) ?_
    refine lv_iconst (v := 0) hx hb dL_law_942 (by decide) ?_
    refine va_lald hx hb hK.1 hP 0 2 rfl rfl (i := 0) (vp_in_nI (n := 0) (by decide) (by decide)) dL_law_943 ?_
    refine nm_l (y := vp_updL oF 0 (r : Int32).toInt64 0) rfl ?_
    refine lv_iload hx hb dL_law_944 (lv_at hl 0 rfl) ?_
    refine lv_i2l (v := (r : Int32).toInt64) hx hb dL_law_946 rfl ?_
    refine W.lcmp hx hb dL_law_947 ?_
    refine nm_i (y := 0) cmp_same.symm ?_
    refine lv_if_eq (tgt := 953) hx hb dL_law_948 (by decide) (fun _ => ?_) (fun q => absurd rfl q)
    refine lv_goto (tgt := 1867) hx hb dL_law_953 (by decide) ?_
    refine lv_iinc (v := nI (3 * (k + 1))) (lv' := [(4, .int (nI (3 * (k + 1)))), (6, .int r), (5, .int 0), (0, .ref b), (1, .ref (hh 0)), (2, .ref (hm 0)), (3, .ref ho)]) hx hb dL_law_1867 hl (k := 2) rfl (it_3 k) (by decide) rfl (fun ls hl => ?_)
    refine lv_goto (tgt := 23) hx hb dL_law_1870 (by decide) ?_
    refine W.widen (k := 100 + (k + 1)) (n := 6000 + 6 * (k + 1)) (by omega) (by omega) ?_
    exact IH vCar vGoa vEag tN tF cN cF mP mS kCap kGap kCar kCop kGro kShr bN bF rCmd rLet rNum fCap fGap fCar fCop fGro fShr hX hC hR 0 aSm aLn aAt aWe aRm aBm aHa aS aSv aCm aRd aBy (vp_updL oF 0 (r : Int32).toInt64) hRel H locs hP hD hS ls (lv_sub hl [0, 3, 4, 5, 6] rfl)
  · skip
    refine lv_aload_n hx hb dL_law_900 rfl (lv_at hl 2 rfl) ?_
    refine lv_aload_n hx hb dL_law_901 rfl (lv_at hl 1 rfl) ?_
    refine lv_iload hx hb dL_law_902 (lv_at hl 0 rfl) ?_
    refine lv_iconst (v := 1) hx hb dL_law_904 (by decide) ?_
    refine lv_iadd hx hb dL_law_905 ?_
    refine nm_i (y := nI (3 * k + 1)) (nI_1 (3 * k)).symm ?_
    refine va_sld hx hb hXs hbl hbA hS (vp_in_nI (n := 3 * k + 1) (by omega) (by omega)) dL_law_906 ?_
    refine nm_i ea1 ?_
    refine lv_aload_n hx hb dL_law_907 rfl (lv_at hl 4 rfl) ?_
    refine cW_i (As := [.ref (hh 0), .int a1, .ref ho]) (rest := []) (wc := ((ho, .inl (cL, 1, .inr (.inl oF))) :: wX7 cI cS hh vCar vGoa vEag tN tF cN cF mP mS kCap kGap kCar kCop kGro kShr bN bF rCmd rLet rNum fCap fGap fCar fCop fGro fShr hX hC hR)) (wc' := ((ho, .inl (cL, 1, .inr (.inl oF))) :: wX7 cI cS hh vCar vGoa vEag tN tF cN cF mP mS kCap kGap kCar kCop kGro kShr bN bF rCmd rLet rNum fCap fGap fCar fCop fGro fShr hX hC hR)) (ws' := ((ho, .inl (cL, 1, .inr (.inl oF))) :: (wX7 cI cS hh vCar vGoa vEag tN tF cN cF mP mS kCap kGap kCar kCop kGro kShr bN bF rCmd rLet rNum fCap fGap fCar fCop fGro fShr hX hC hR ++ wX8 cI (hm 0) (hm 1) (hm 2) (hm 3) (hm 4) (hm 5) aTh aSm aLn aAt aWe aRm aBm aHa aS aSv aCm aRd aBy))) hx hb hml hown hg hK hP hD hS hA hl.1 hZ (t1_L_mark l hlt D cI cS cL Z hh ho a1 vCar vGoa vEag tN tF cN cF mP mS kCap kGap kCar kCop kGro kShr bN bF rCmd rLet rNum fCap fGap fCar fCop fGro fShr hX hC hR oF e7) gww_L_mark gw_761 ⟨rfl, rfl, by decide, by decide⟩ ⟨by show 100 + k + 1 ≤ 601024; omega, by show 6000 + 6 * k + 6 ≤ 7293033; omega⟩ pm_l0 pm_l0 (congrArg (List.cons ho) fst_X7) rfl rfl (Nat.le_of_ble_eq_true rfl) dL_law_908 (fun H locs hP hD hS => ?_)
    refine lv_istore (lv' := [(5, .int 1), (4, .int (nI (3 * k))), (0, .ref b), (1, .ref (hh 0)), (2, .ref (hm 0)), (3, .ref ho)]) hx hb dL_law_911 hl (by decide) rfl (fun ls hl => ?_)
    refine lv_aload_n hx hb dL_law_913 rfl (lv_at hl 4 rfl) ?_
    refine lv_aload_n hx hb dL_law_914 rfl (lv_at hl 2 rfl) ?_
    refine lv_iload hx hb dL_law_915 (lv_at hl 1 rfl) ?_
    refine lv_iconst (v := 1) hx hb dL_law_917 (by decide) ?_
    refine lv_iadd hx hb dL_law_918 ?_
    refine nm_i (y := nI (3 * k + 1)) (nI_1 (3 * k)).symm ?_
    refine va_sld hx hb hXs hbl hbA hS (vp_in_nI (n := 3 * k + 1) (by omega) (by omega)) dL_law_919 ?_
    refine nm_i ea1 ?_
    refine cP_i (As := [.int a1]) (rest := []) (wc := (wX8 cI (hm 0) (hm 1) (hm 2) (hm 3) (hm 4) (hm 5) aTh aSm aLn aAt aWe aRm aBm aHa aS aSv aCm aRd aBy)) (wc' := (wX8 cI (hm 0) (hm 1) (hm 2) (hm 3) (hm 4) (hm 5) 1 aSm aLn aAt aWe aRm aBm aHa aS aSv aCm aRd aBy)) (ws' := ((ho, .inl (cL, 1, .inr (.inl oF))) :: (wX7 cI cS hh vCar vGoa vEag tN tF cN cF mP mS kCap kGap kCar kCop kGro kShr bN bF rCmd rLet rNum fCap fGap fCar fCop fGro fShr hX hC hR ++ wX8 cI (hm 0) (hm 1) (hm 2) (hm 3) (hm 4) (hm 5) 1 aSm aLn aAt aWe aRm aBm aHa aS aSv aCm aRd aBy))) hx hb hml hown hg hK hP hD hS hA hl.1 (k_X8_mark l D cI cS cL Z (hm 0) (hm 1) (hm 2) (hm 3) (hm 4) (hm 5) a1 aTh aSm aLn aAt aWe aRm aBm aHa aS aSv aCm aRd aBy e8) gm_X8_mark gw_1144 ⟨rfl, rfl, by decide, by decide⟩ ⟨by show 100 + k + 1 ≤ 601024; omega, by show 6000 + 6 * k + 6 ≤ 7293033; omega⟩ pm_l2 pm_l2 fst_X8 rfl rfl rfl rfl rfl (Nat.le_of_ble_eq_true rfl) dL_law_920 (fun H locs hP hD hS => ?_)
    refine lv_istore (lv' := [(6, .int r), (5, .int 1), (4, .int (nI (3 * k))), (0, .ref b), (1, .ref (hh 0)), (2, .ref (hm 0)), (3, .ref ho)]) hx hb dL_law_923 hl (by decide) rfl (fun ls hl => ?_)
    refine lv_aload_n hx hb dL_law_925 rfl (lv_at hl 5 rfl) ?_
    refine cP_i (As := []) (rest := []) (wc := (wX8 cI (hm 0) (hm 1) (hm 2) (hm 3) (hm 4) (hm 5) 1 aSm aLn aAt aWe aRm aBm aHa aS aSv aCm aRd aBy)) (wc' := (wX8 cI (hm 0) (hm 1) (hm 2) (hm 3) (hm 4) (hm 5) 1 aSm aLn aAt aWe aRm aBm aHa aS aSv aCm aRd aBy)) (ws' := ((ho, .inl (cL, 1, .inr (.inl oF))) :: (wX7 cI cS hh vCar vGoa vEag tN tF cN cF mP mS kCap kGap kCar kCop kGro kShr bN bF rCmd rLet rNum fCap fGap fCar fCop fGro fShr hX hC hR ++ wX8 cI (hm 0) (hm 1) (hm 2) (hm 3) (hm 4) (hm 5) 1 aSm aLn aAt aWe aRm aBm aHa aS aSv aCm aRd aBy))) hx hb hml hown hg hK hP hD hS hA hl.1 (k_X8_thrown l D cI cS cL Z (hm 0) (hm 1) (hm 2) (hm 3) (hm 4) (hm 5) 1 aSm aLn aAt aWe aRm aBm aHa aS aSv aCm aRd aBy (r := 1) rfl) gm_X8_thrown gw_980 ⟨rfl, rfl, by decide, by decide⟩ ⟨by show 100 + k + 1 ≤ 601024; omega, by show 6000 + 6 * k + 6 ≤ 7293033; omega⟩ pm_l2 pm_l2 rfl rfl rfl rfl rfl rfl (Nat.le_of_ble_eq_true rfl) dL_law_926 (fun H locs hP hD hS => ?_)
    refine lv_iload hx hb dL_law_929 (lv_at hl 1 rfl) ?_
    refine lv_icmp_eq (tgt := 936) hx hb dL_law_931 (by decide) (fun _ => ?_) (fun q => absurd rfl q)
    refine lv_iload hx hb dL_law_936 (lv_at hl 1 rfl) ?_
    refine lv_if_ne (tgt := 953) hx hb dL_law_938 (by decide) (fun _ => ?_) (fun q => absurd q (by decide))
    refine lv_goto (tgt := 1867) hx hb dL_law_953 (by decide) ?_
    refine lv_iinc (v := nI (3 * (k + 1))) (lv' := [(4, .int (nI (3 * (k + 1)))), (6, .int r), (5, .int 1), (0, .ref b), (1, .ref (hh 0)), (2, .ref (hm 0)), (3, .ref ho)]) hx hb dL_law_1867 hl (k := 2) rfl (it_3 k) (by decide) rfl (fun ls hl => ?_)
    refine lv_goto (tgt := 23) hx hb dL_law_1870 (by decide) ?_
    refine W.widen (k := 100 + (k + 1)) (n := 6000 + 6 * (k + 1)) (by omega) (by omega) ?_
    exact IH vCar vGoa vEag tN tF cN cF mP mS kCap kGap kCar kCop kGro kShr bN bF rCmd rLet rNum fCap fGap fCar fCop fGro fShr hX hC hR 1 aSm aLn aAt aWe aRm aBm aHa aS aSv aCm aRd aBy oF hRel H locs hP hD hS ls (lv_sub hl [0, 3, 4, 5, 6] rfl)
set_option maxRecDepth 100000 in
set_option maxHeartbeats 4000000 in
theorem law_c15 {p : Program} {e : Env} {s : State} {m : MethodId} {below : List Frame} {meth : Method} {c : Code} {l : Launch} (hlt : l.stackTraces = false) {D : va_G} {cI cS cL : ClassId} {b L : Nat} {xs : Nat → Int32} (C0 : lw_At p s m meth c b L xs) (hg : ∀ w ∈ GW, w.before #[Value.ref b] s = true) (hK : kk_ D cI cS cL s) (hZ : zz_ (fun q : Nat => s.heap.size ≤ q) s s.heap) (Z : Nat) (Rel : Int32 → Int32 → Int32 → Int32 → (Nat → Int32) → Int32 → (Nat → Int32) → (Nat → Int32) → (Nat → Int32) → Int32 → Int32 → Int32 → Int32 → Int32 → Int32 → Int32 → (Nat → Int32) → Int32 → Int32 → Int32 → Int32 → Int32 → Int32 → Int32 → Int32 → Int32 → Int32 → Int32 → (Nat → StT) → Int32 → Int32 → Int32 → Int32 → Int32 → Int32 → Int32 → Int64 → (Nat → Int32) → (Nat → Int32) → (Nat → Int32) → (Nat → Int32) → (Nat → Int32) → Prop) (pb : PB_clip Z Rel) (hh hm : Nat → Nat) (ho k : Nat) (hk : 3 * k + 2 < L) (hL : L ≤ 1536) (vCar : Int32) (vGoa : Int32) (vEag : Int32) (tN : Int32) (tF : Nat → Int32) (cN : Int32) (cF : Nat → Int32) (mP : Nat → Int32) (mS : Nat → Int32) (kCap : Int32) (kGap : Int32) (kCar : Int32) (kCop : Int32) (kGro : Int32) (kShr : Int32) (bN : Int32) (bF : Nat → Int32) (rCmd : Int32) (rLet : Int32) (rNum : Int32) (fCap : Int32) (fGap : Int32) (fCar : Int32) (fCop : Int32) (fGro : Int32) (fShr : Int32) (hX : Int32) (hC : Int32) (hR : Nat → StT) (aTh : Int32) (aSm : Int32) (aLn : Int32) (aAt : Int32) (aWe : Int32) (aRm : Int32) (aBm : Int32) (aHa : Int64) (aS : Nat → Int32) (aSv : Nat → Int32) (aCm : Nat → Int32) (aRd : Nat → Int32) (aBy : Nat → Int32) (oF : Nat → Int64) (hRel : Rel vCar vGoa vEag tN tF cN cF mP mS kCap kGap kCar kCop kGro kShr bN bF rCmd rLet rNum fCap fGap fCar fCop fGro fShr hX hC hR aTh aSm aLn aAt aWe aRm aBm aHa aS aSv aCm aRd aBy) (H : Heap) (locs : List Loc) (hP : va_P D vwCl (wLW cI cS cL hh hm ho vCar vGoa vEag tN tF cN cF mP mS kCap kGap kCar kCop kGro kShr bN bF rCmd rLet rNum fCap fGap fCar fCop fGro fShr hX hC hR aTh aSm aLn aAt aWe aRm aBm aHa aS aSv aCm aRd aBy oF) H) (hD : va_D (fun q : Nat => s.heap.size ≤ q) (wLW cI cS cL hh hm ho vCar vGoa vEag tN tF cN cF mP mS kCap kGap kCar kCop kGro kShr bN bF rCmd rLet rNum fCap fGap fCar fCop fGro fShr hX hC hR aTh aSm aLn aAt aWe aRm aBm aHa aS aSv aCm aRd aBy oF)) (hS : va_S (fun q : Nat => s.heap.size ≤ q) s.heap H locs) (ls : Array Slot) (hl : lv_has ls 7 [(4, .int (nI (3 * k))), (0, .ref b), (1, .ref (hh 0)), (2, .ref (hm 0)), (3, .ref ho)]) (IH : LH p l e s m b below meth c D cI cS cL hh hm ho (k + 1) Rel) : W p l e room_1 s m #[Value.ref b] below meth c H locs (100 + k) (6000 + 6 * k) (lw_Z below #[Value.ref b] s) (F0 m 956 ls []) := by
  obtain ⟨hx, hb, hr, hml, hown, hts, hXs, hbl, hlocks, hgv⟩ := C0
  have hown : s.vm.findClass RL = some m.cls := hown
  have hA : ∀ q : Nat, s.heap.size ≤ q → (fun q : Nat => s.heap.size ≤ q) q := fun _ h => h
  have hbA : ¬ (fun q : Nat => s.heap.size ≤ q) b := Nat.not_le.mpr hbl
  obtain ⟨a1, ea1⟩ : ∃ y, y = xs (nI (3 * k + 1)).toNatClampNeg := ⟨_, rfl⟩
  obtain ⟨a2, ea2⟩ : ∃ y, y = xs (nI (3 * k + 2)).toNatClampNeg := ⟨_, rfl⟩
  rcases pb a1 vCar vGoa vEag tN tF cN cF mP mS kCap kGap kCar kCop kGro kShr bN bF rCmd rLet rNum fCap fGap fCar fCop fGro fShr hX hC hR aTh aSm aLn aAt aWe aRm aBm aHa aS aSv aCm aRd aBy hRel with ⟨r, e7, e8, hRel⟩ | ⟨r, e7, e8, hRel⟩
  · skip
    refine lv_aload_n hx hb dL_law_956 rfl (lv_at hl 2 rfl) ?_
    refine lv_aload_n hx hb dL_law_957 rfl (lv_at hl 1 rfl) ?_
    refine lv_iload hx hb dL_law_958 (lv_at hl 0 rfl) ?_
    refine lv_iconst (v := 1) hx hb dL_law_960 (by decide) ?_
    refine lv_iadd hx hb dL_law_961 ?_
    refine nm_i (y := nI (3 * k + 1)) (nI_1 (3 * k)).symm ?_
    refine va_sld hx hb hXs hbl hbA hS (vp_in_nI (n := 3 * k + 1) (by omega) (by omega)) dL_law_962 ?_
    refine nm_i ea1 ?_
    refine lv_aload_n hx hb dL_law_963 rfl (lv_at hl 4 rfl) ?_
    refine cW_i (As := [.ref (hh 0), .int a1, .ref ho]) (rest := []) (wc := ((ho, .inl (cL, 1, .inr (.inl oF))) :: wX7 cI cS hh vCar vGoa vEag tN tF cN cF mP mS kCap kGap kCar kCop kGro kShr bN bF rCmd rLet rNum fCap fGap fCar fCop fGro fShr hX hC hR)) (wc' := ((ho, .inl (cL, 1, .inr (.inl (vp_updL oF 0 (r : Int32).toInt64)))) :: wX7 cI cS hh vCar vGoa vEag tN tF cN cF mP mS kCap kGap kCar kCop kGro kShr bN bF rCmd rLet rNum fCap fGap fCar fCop fGro fShr hX hC hR)) (ws' := ((ho, .inl (cL, 1, .inr (.inl (vp_updL oF 0 (r : Int32).toInt64)))) :: (wX7 cI cS hh vCar vGoa vEag tN tF cN cF mP mS kCap kGap kCar kCop kGro kShr bN bF rCmd rLet rNum fCap fGap fCar fCop fGro fShr hX hC hR ++ wX8 cI (hm 0) (hm 1) (hm 2) (hm 3) (hm 4) (hm 5) aTh aSm aLn aAt aWe aRm aBm aHa aS aSv aCm aRd aBy))) hx hb hml hown hg hK hP hD hS hA hl.1 hZ (k_L_clip l D cI cS cL Z hh ho a1 vCar vGoa vEag tN tF cN cF mP mS kCap kGap kCar kCop kGro kShr bN bF rCmd rLet rNum fCap fGap fCar fCop fGro fShr hX hC hR oF e7) gww_L_clip gw_768 ⟨rfl, rfl, by decide, by decide⟩ ⟨by show 100 + k + 1 ≤ 601024; omega, by show 6000 + 6 * k + 6 ≤ 7293033; omega⟩ pm_l0 pm_l0 (congrArg (List.cons ho) fst_X7) rfl rfl (Nat.le_of_ble_eq_true rfl) dL_law_964 (fun H locs hP hD hS => ?_)
    refine lv_istore (lv' := [(5, .int 0), (4, .int (nI (3 * k))), (0, .ref b), (1, .ref (hh 0)), (2, .ref (hm 0)), (3, .ref ho)]) hx hb dL_law_967 hl (by decide) rfl (fun ls hl => ?_)
    refine lv_aload_n hx hb dL_law_969 rfl (lv_at hl 4 rfl) ?_
    refine lv_aload_n hx hb dL_law_970 rfl (lv_at hl 2 rfl) ?_
    refine lv_iload hx hb dL_law_971 (lv_at hl 1 rfl) ?_
    refine lv_iconst (v := 1) hx hb dL_law_973 (by decide) ?_
    refine lv_iadd hx hb dL_law_974 ?_
    refine nm_i (y := nI (3 * k + 1)) (nI_1 (3 * k)).symm ?_
    refine va_sld hx hb hXs hbl hbA hS (vp_in_nI (n := 3 * k + 1) (by omega) (by omega)) dL_law_975 ?_
    refine nm_i ea1 ?_
    refine cP_i (As := [.int a1]) (rest := []) (wc := (wX8 cI (hm 0) (hm 1) (hm 2) (hm 3) (hm 4) (hm 5) aTh aSm aLn aAt aWe aRm aBm aHa aS aSv aCm aRd aBy)) (wc' := (wX8 cI (hm 0) (hm 1) (hm 2) (hm 3) (hm 4) (hm 5) 0 aSm aLn aAt aWe aRm aBm aHa aS aSv aCm aRd aBy)) (ws' := ((ho, .inl (cL, 1, .inr (.inl (vp_updL oF 0 (r : Int32).toInt64)))) :: (wX7 cI cS hh vCar vGoa vEag tN tF cN cF mP mS kCap kGap kCar kCop kGro kShr bN bF rCmd rLet rNum fCap fGap fCar fCop fGro fShr hX hC hR ++ wX8 cI (hm 0) (hm 1) (hm 2) (hm 3) (hm 4) (hm 5) 0 aSm aLn aAt aWe aRm aBm aHa aS aSv aCm aRd aBy))) hx hb hml hown hg hK hP hD hS hA hl.1 (k_X8_clip l D cI cS cL Z (hm 0) (hm 1) (hm 2) (hm 3) (hm 4) (hm 5) a1 aTh aSm aLn aAt aWe aRm aBm aHa aS aSv aCm aRd aBy e8) gm_X8_clip gw_1148 ⟨rfl, rfl, by decide, by decide⟩ ⟨by show 100 + k + 1 ≤ 601024; omega, by show 6000 + 6 * k + 6 ≤ 7293033; omega⟩ pm_l2 pm_l2 fst_X8 rfl rfl rfl rfl rfl (Nat.le_of_ble_eq_true rfl) dL_law_976 (fun H locs hP hD hS => ?_)
    refine lv_istore (lv' := [(6, .int r), (5, .int 0), (4, .int (nI (3 * k))), (0, .ref b), (1, .ref (hh 0)), (2, .ref (hm 0)), (3, .ref ho)]) hx hb dL_law_979 hl (by decide) rfl (fun ls hl => ?_)
    refine lv_aload_n hx hb dL_law_981 rfl (lv_at hl 5 rfl) ?_
    refine cP_i (As := []) (rest := []) (wc := (wX8 cI (hm 0) (hm 1) (hm 2) (hm 3) (hm 4) (hm 5) 0 aSm aLn aAt aWe aRm aBm aHa aS aSv aCm aRd aBy)) (wc' := (wX8 cI (hm 0) (hm 1) (hm 2) (hm 3) (hm 4) (hm 5) 0 aSm aLn aAt aWe aRm aBm aHa aS aSv aCm aRd aBy)) (ws' := ((ho, .inl (cL, 1, .inr (.inl (vp_updL oF 0 (r : Int32).toInt64)))) :: (wX7 cI cS hh vCar vGoa vEag tN tF cN cF mP mS kCap kGap kCar kCop kGro kShr bN bF rCmd rLet rNum fCap fGap fCar fCop fGro fShr hX hC hR ++ wX8 cI (hm 0) (hm 1) (hm 2) (hm 3) (hm 4) (hm 5) 0 aSm aLn aAt aWe aRm aBm aHa aS aSv aCm aRd aBy))) hx hb hml hown hg hK hP hD hS hA hl.1 (k_X8_thrown l D cI cS cL Z (hm 0) (hm 1) (hm 2) (hm 3) (hm 4) (hm 5) 0 aSm aLn aAt aWe aRm aBm aHa aS aSv aCm aRd aBy (r := 0) rfl) gm_X8_thrown gw_980 ⟨rfl, rfl, by decide, by decide⟩ ⟨by show 100 + k + 1 ≤ 601024; omega, by show 6000 + 6 * k + 6 ≤ 7293033; omega⟩ pm_l2 pm_l2 rfl rfl rfl rfl rfl rfl (Nat.le_of_ble_eq_true rfl) dL_law_982 (fun H locs hP hD hS => ?_)
    refine lv_iload hx hb dL_law_985 (lv_at hl 1 rfl) ?_
    refine lv_icmp_eq (tgt := 992) hx hb dL_law_987 (by decide) (fun _ => ?_) (fun q => absurd rfl q)
    refine lv_iload hx hb dL_law_992 (lv_at hl 1 rfl) ?_
    refine lv_if_ne (tgt := 1009) hx hb dL_law_994 (by decide) (fun q => absurd rfl q) (fun _ => ?_)
    refine lv_aload_n hx hb dL_law_997 rfl (lv_at hl 6 rfl) ?_
    refine lv_iconst (v := 0) hx hb dL_law_998 (by decide) ?_
    refine va_lald hx hb hK.1 hP 0 2 rfl rfl (i := 0) (vp_in_nI (n := 0) (by decide) (by decide)) dL_law_999 ?_
    refine nm_l (y := vp_updL oF 0 (r : Int32).toInt64 0) rfl ?_
    refine lv_iload hx hb dL_law_1000 (lv_at hl 0 rfl) ?_
    refine lv_i2l (v := (r : Int32).toInt64) hx hb dL_law_1002 rfl ?_
    refine W.lcmp hx hb dL_law_1003 ?_
    refine nm_i (y := 0) cmp_same.symm ?_
    refine lv_if_eq (tgt := 1009) hx hb dL_law_1004 (by decide) (fun _ => ?_) (fun q => absurd rfl q)
    refine lv_goto (tgt := 1867) hx hb dL_law_1009 (by decide) ?_
    refine lv_iinc (v := nI (3 * (k + 1))) (lv' := [(4, .int (nI (3 * (k + 1)))), (6, .int r), (5, .int 0), (0, .ref b), (1, .ref (hh 0)), (2, .ref (hm 0)), (3, .ref ho)]) hx hb dL_law_1867 hl (k := 2) rfl (it_3 k) (by decide) rfl (fun ls hl => ?_)
    refine lv_goto (tgt := 23) hx hb dL_law_1870 (by decide) ?_
    refine W.widen (k := 100 + (k + 1)) (n := 6000 + 6 * (k + 1)) (by omega) (by omega) ?_
    exact IH vCar vGoa vEag tN tF cN cF mP mS kCap kGap kCar kCop kGro kShr bN bF rCmd rLet rNum fCap fGap fCar fCop fGro fShr hX hC hR 0 aSm aLn aAt aWe aRm aBm aHa aS aSv aCm aRd aBy (vp_updL oF 0 (r : Int32).toInt64) hRel H locs hP hD hS ls (lv_sub hl [0, 3, 4, 5, 6] rfl)
  · skip
    refine lv_aload_n hx hb dL_law_956 rfl (lv_at hl 2 rfl) ?_
    refine lv_aload_n hx hb dL_law_957 rfl (lv_at hl 1 rfl) ?_
    refine lv_iload hx hb dL_law_958 (lv_at hl 0 rfl) ?_
    refine lv_iconst (v := 1) hx hb dL_law_960 (by decide) ?_
    refine lv_iadd hx hb dL_law_961 ?_
    refine nm_i (y := nI (3 * k + 1)) (nI_1 (3 * k)).symm ?_
    refine va_sld hx hb hXs hbl hbA hS (vp_in_nI (n := 3 * k + 1) (by omega) (by omega)) dL_law_962 ?_
    refine nm_i ea1 ?_
    refine lv_aload_n hx hb dL_law_963 rfl (lv_at hl 4 rfl) ?_
    refine cW_i (As := [.ref (hh 0), .int a1, .ref ho]) (rest := []) (wc := ((ho, .inl (cL, 1, .inr (.inl oF))) :: wX7 cI cS hh vCar vGoa vEag tN tF cN cF mP mS kCap kGap kCar kCop kGro kShr bN bF rCmd rLet rNum fCap fGap fCar fCop fGro fShr hX hC hR)) (wc' := ((ho, .inl (cL, 1, .inr (.inl oF))) :: wX7 cI cS hh vCar vGoa vEag tN tF cN cF mP mS kCap kGap kCar kCop kGro kShr bN bF rCmd rLet rNum fCap fGap fCar fCop fGro fShr hX hC hR)) (ws' := ((ho, .inl (cL, 1, .inr (.inl oF))) :: (wX7 cI cS hh vCar vGoa vEag tN tF cN cF mP mS kCap kGap kCar kCop kGro kShr bN bF rCmd rLet rNum fCap fGap fCar fCop fGro fShr hX hC hR ++ wX8 cI (hm 0) (hm 1) (hm 2) (hm 3) (hm 4) (hm 5) aTh aSm aLn aAt aWe aRm aBm aHa aS aSv aCm aRd aBy))) hx hb hml hown hg hK hP hD hS hA hl.1 hZ (t1_L_clip l hlt D cI cS cL Z hh ho a1 vCar vGoa vEag tN tF cN cF mP mS kCap kGap kCar kCop kGro kShr bN bF rCmd rLet rNum fCap fGap fCar fCop fGro fShr hX hC hR oF e7) gww_L_clip gw_768 ⟨rfl, rfl, by decide, by decide⟩ ⟨by show 100 + k + 1 ≤ 601024; omega, by show 6000 + 6 * k + 6 ≤ 7293033; omega⟩ pm_l0 pm_l0 (congrArg (List.cons ho) fst_X7) rfl rfl (Nat.le_of_ble_eq_true rfl) dL_law_964 (fun H locs hP hD hS => ?_)
    refine lv_istore (lv' := [(5, .int 1), (4, .int (nI (3 * k))), (0, .ref b), (1, .ref (hh 0)), (2, .ref (hm 0)), (3, .ref ho)]) hx hb dL_law_967 hl (by decide) rfl (fun ls hl => ?_)
    refine lv_aload_n hx hb dL_law_969 rfl (lv_at hl 4 rfl) ?_
    refine lv_aload_n hx hb dL_law_970 rfl (lv_at hl 2 rfl) ?_
    refine lv_iload hx hb dL_law_971 (lv_at hl 1 rfl) ?_
    refine lv_iconst (v := 1) hx hb dL_law_973 (by decide) ?_
    refine lv_iadd hx hb dL_law_974 ?_
    refine nm_i (y := nI (3 * k + 1)) (nI_1 (3 * k)).symm ?_
    refine va_sld hx hb hXs hbl hbA hS (vp_in_nI (n := 3 * k + 1) (by omega) (by omega)) dL_law_975 ?_
    refine nm_i ea1 ?_
    refine cP_i (As := [.int a1]) (rest := []) (wc := (wX8 cI (hm 0) (hm 1) (hm 2) (hm 3) (hm 4) (hm 5) aTh aSm aLn aAt aWe aRm aBm aHa aS aSv aCm aRd aBy)) (wc' := (wX8 cI (hm 0) (hm 1) (hm 2) (hm 3) (hm 4) (hm 5) 1 aSm aLn aAt aWe aRm aBm aHa aS aSv aCm aRd aBy)) (ws' := ((ho, .inl (cL, 1, .inr (.inl oF))) :: (wX7 cI cS hh vCar vGoa vEag tN tF cN cF mP mS kCap kGap kCar kCop kGro kShr bN bF rCmd rLet rNum fCap fGap fCar fCop fGro fShr hX hC hR ++ wX8 cI (hm 0) (hm 1) (hm 2) (hm 3) (hm 4) (hm 5) 1 aSm aLn aAt aWe aRm aBm aHa aS aSv aCm aRd aBy))) hx hb hml hown hg hK hP hD hS hA hl.1 (k_X8_clip l D cI cS cL Z (hm 0) (hm 1) (hm 2) (hm 3) (hm 4) (hm 5) a1 aTh aSm aLn aAt aWe aRm aBm aHa aS aSv aCm aRd aBy e8) gm_X8_clip gw_1148 ⟨rfl, rfl, by decide, by decide⟩ ⟨by show 100 + k + 1 ≤ 601024; omega, by show 6000 + 6 * k + 6 ≤ 7293033; omega⟩ pm_l2 pm_l2 fst_X8 rfl rfl rfl rfl rfl (Nat.le_of_ble_eq_true rfl) dL_law_976 (fun H locs hP hD hS => ?_)
    refine lv_istore (lv' := [(6, .int r), (5, .int 1), (4, .int (nI (3 * k))), (0, .ref b), (1, .ref (hh 0)), (2, .ref (hm 0)), (3, .ref ho)]) hx hb dL_law_979 hl (by decide) rfl (fun ls hl => ?_)
    refine lv_aload_n hx hb dL_law_981 rfl (lv_at hl 5 rfl) ?_
    refine cP_i (As := []) (rest := []) (wc := (wX8 cI (hm 0) (hm 1) (hm 2) (hm 3) (hm 4) (hm 5) 1 aSm aLn aAt aWe aRm aBm aHa aS aSv aCm aRd aBy)) (wc' := (wX8 cI (hm 0) (hm 1) (hm 2) (hm 3) (hm 4) (hm 5) 1 aSm aLn aAt aWe aRm aBm aHa aS aSv aCm aRd aBy)) (ws' := ((ho, .inl (cL, 1, .inr (.inl oF))) :: (wX7 cI cS hh vCar vGoa vEag tN tF cN cF mP mS kCap kGap kCar kCop kGro kShr bN bF rCmd rLet rNum fCap fGap fCar fCop fGro fShr hX hC hR ++ wX8 cI (hm 0) (hm 1) (hm 2) (hm 3) (hm 4) (hm 5) 1 aSm aLn aAt aWe aRm aBm aHa aS aSv aCm aRd aBy))) hx hb hml hown hg hK hP hD hS hA hl.1 (k_X8_thrown l D cI cS cL Z (hm 0) (hm 1) (hm 2) (hm 3) (hm 4) (hm 5) 1 aSm aLn aAt aWe aRm aBm aHa aS aSv aCm aRd aBy (r := 1) rfl) gm_X8_thrown gw_980 ⟨rfl, rfl, by decide, by decide⟩ ⟨by show 100 + k + 1 ≤ 601024; omega, by show 6000 + 6 * k + 6 ≤ 7293033; omega⟩ pm_l2 pm_l2 rfl rfl rfl rfl rfl rfl (Nat.le_of_ble_eq_true rfl) dL_law_982 (fun H locs hP hD hS => ?_)
    refine lv_iload hx hb dL_law_985 (lv_at hl 1 rfl) ?_
    refine lv_icmp_eq (tgt := 992) hx hb dL_law_987 (by decide) (fun _ => ?_) (fun q => absurd rfl q)
    refine lv_iload hx hb dL_law_992 (lv_at hl 1 rfl) ?_
    refine lv_if_ne (tgt := 1009) hx hb dL_law_994 (by decide) (fun _ => ?_) (fun q => absurd q (by decide))
    refine lv_goto (tgt := 1867) hx hb dL_law_1009 (by decide) ?_
    refine lv_iinc (v := nI (3 * (k + 1))) (lv' := [(4, .int (nI (3 * (k + 1)))), (6, .int r), (5, .int 1), (0, .ref b), (1, .ref (hh 0)), (2, .ref (hm 0)), (3, .ref ho)]) hx hb dL_law_1867 hl (k := 2) rfl (it_3 k) (by decide) rfl (fun ls hl => ?_)
    refine lv_goto (tgt := 23) hx hb dL_law_1870 (by decide) ?_
    refine W.widen (k := 100 + (k + 1)) (n := 6000 + 6 * (k + 1)) (by omega) (by omega) ?_
    exact IH vCar vGoa vEag tN tF cN cF mP mS kCap kGap kCar kCop kGro kShr bN bF rCmd rLet rNum fCap fGap fCar fCop fGro fShr hX hC hR 1 aSm aLn aAt aWe aRm aBm aHa aS aSv aCm aRd aBy oF hRel H locs hP hD hS ls (lv_sub hl [0, 3, 4, 5, 6] rfl)
set_option maxRecDepth 100000 in
set_option maxHeartbeats 4000000 in
theorem law_c16 {p : Program} {e : Env} {s : State} {m : MethodId} {below : List Frame} {meth : Method} {c : Code} {l : Launch} (hlt : l.stackTraces = false) {D : va_G} {cI cS cL : ClassId} {b L : Nat} {xs : Nat → Int32} (C0 : lw_At p s m meth c b L xs) (hg : ∀ w ∈ GW, w.before #[Value.ref b] s = true) (hK : kk_ D cI cS cL s) (hZ : zz_ (fun q : Nat => s.heap.size ≤ q) s s.heap) (Z : Nat) (Rel : Int32 → Int32 → Int32 → Int32 → (Nat → Int32) → Int32 → (Nat → Int32) → (Nat → Int32) → (Nat → Int32) → Int32 → Int32 → Int32 → Int32 → Int32 → Int32 → Int32 → (Nat → Int32) → Int32 → Int32 → Int32 → Int32 → Int32 → Int32 → Int32 → Int32 → Int32 → Int32 → Int32 → (Nat → StT) → Int32 → Int32 → Int32 → Int32 → Int32 → Int32 → Int32 → Int64 → (Nat → Int32) → (Nat → Int32) → (Nat → Int32) → (Nat → Int32) → (Nat → Int32) → Prop) (pb : PB_find Z Rel) (hh hm : Nat → Nat) (ho k : Nat) (hk : 3 * k + 2 < L) (hL : L ≤ 1536) (vCar : Int32) (vGoa : Int32) (vEag : Int32) (tN : Int32) (tF : Nat → Int32) (cN : Int32) (cF : Nat → Int32) (mP : Nat → Int32) (mS : Nat → Int32) (kCap : Int32) (kGap : Int32) (kCar : Int32) (kCop : Int32) (kGro : Int32) (kShr : Int32) (bN : Int32) (bF : Nat → Int32) (rCmd : Int32) (rLet : Int32) (rNum : Int32) (fCap : Int32) (fGap : Int32) (fCar : Int32) (fCop : Int32) (fGro : Int32) (fShr : Int32) (hX : Int32) (hC : Int32) (hR : Nat → StT) (aTh : Int32) (aSm : Int32) (aLn : Int32) (aAt : Int32) (aWe : Int32) (aRm : Int32) (aBm : Int32) (aHa : Int64) (aS : Nat → Int32) (aSv : Nat → Int32) (aCm : Nat → Int32) (aRd : Nat → Int32) (aBy : Nat → Int32) (oF : Nat → Int64) (hRel : Rel vCar vGoa vEag tN tF cN cF mP mS kCap kGap kCar kCop kGro kShr bN bF rCmd rLet rNum fCap fGap fCar fCop fGro fShr hX hC hR aTh aSm aLn aAt aWe aRm aBm aHa aS aSv aCm aRd aBy) (H : Heap) (locs : List Loc) (hP : va_P D vwCl (wLW cI cS cL hh hm ho vCar vGoa vEag tN tF cN cF mP mS kCap kGap kCar kCop kGro kShr bN bF rCmd rLet rNum fCap fGap fCar fCop fGro fShr hX hC hR aTh aSm aLn aAt aWe aRm aBm aHa aS aSv aCm aRd aBy oF) H) (hD : va_D (fun q : Nat => s.heap.size ≤ q) (wLW cI cS cL hh hm ho vCar vGoa vEag tN tF cN cF mP mS kCap kGap kCar kCop kGro kShr bN bF rCmd rLet rNum fCap fGap fCar fCop fGro fShr hX hC hR aTh aSm aLn aAt aWe aRm aBm aHa aS aSv aCm aRd aBy oF)) (hS : va_S (fun q : Nat => s.heap.size ≤ q) s.heap H locs) (ls : Array Slot) (hl : lv_has ls 7 [(4, .int (nI (3 * k))), (0, .ref b), (1, .ref (hh 0)), (2, .ref (hm 0)), (3, .ref ho)]) (IH : LH p l e s m b below meth c D cI cS cL hh hm ho (k + 1) Rel) : W p l e room_1 s m #[Value.ref b] below meth c H locs (100 + k) (6000 + 6 * k) (lw_Z below #[Value.ref b] s) (F0 m 1012 ls []) := by
  obtain ⟨hx, hb, hr, hml, hown, hts, hXs, hbl, hlocks, hgv⟩ := C0
  have hown : s.vm.findClass RL = some m.cls := hown
  have hA : ∀ q : Nat, s.heap.size ≤ q → (fun q : Nat => s.heap.size ≤ q) q := fun _ h => h
  have hbA : ¬ (fun q : Nat => s.heap.size ≤ q) b := Nat.not_le.mpr hbl
  obtain ⟨a1, ea1⟩ : ∃ y, y = xs (nI (3 * k + 1)).toNatClampNeg := ⟨_, rfl⟩
  obtain ⟨a2, ea2⟩ : ∃ y, y = xs (nI (3 * k + 2)).toNatClampNeg := ⟨_, rfl⟩
  rcases pb a1 vCar vGoa vEag tN tF cN cF mP mS kCap kGap kCar kCop kGro kShr bN bF rCmd rLet rNum fCap fGap fCar fCop fGro fShr hX hC hR aTh aSm aLn aAt aWe aRm aBm aHa aS aSv aCm aRd aBy hRel with ⟨r, e7, e8, hRel⟩ | ⟨r, e7, e8, hRel⟩
  · skip
    refine lv_aload_n hx hb dL_law_1012 rfl (lv_at hl 2 rfl) ?_
    refine lv_aload_n hx hb dL_law_1013 rfl (lv_at hl 1 rfl) ?_
    refine lv_iload hx hb dL_law_1014 (lv_at hl 0 rfl) ?_
    refine lv_iconst (v := 1) hx hb dL_law_1016 (by decide) ?_
    refine lv_iadd hx hb dL_law_1017 ?_
    refine nm_i (y := nI (3 * k + 1)) (nI_1 (3 * k)).symm ?_
    refine va_sld hx hb hXs hbl hbA hS (vp_in_nI (n := 3 * k + 1) (by omega) (by omega)) dL_law_1018 ?_
    refine nm_i ea1 ?_
    refine lv_aload_n hx hb dL_law_1019 rfl (lv_at hl 4 rfl) ?_
    refine cW_i (As := [.ref (hh 0), .int a1, .ref ho]) (rest := []) (wc := ((ho, .inl (cL, 1, .inr (.inl oF))) :: wX7 cI cS hh vCar vGoa vEag tN tF cN cF mP mS kCap kGap kCar kCop kGro kShr bN bF rCmd rLet rNum fCap fGap fCar fCop fGro fShr hX hC hR)) (wc' := ((ho, .inl (cL, 1, .inr (.inl (vp_updL oF 0 (r : Int32).toInt64)))) :: wX7 cI cS hh vCar vGoa vEag tN tF cN cF mP mS kCap kGap kCar kCop kGro kShr bN bF rCmd rLet rNum fCap fGap fCar fCop fGro fShr hX hC hR)) (ws' := ((ho, .inl (cL, 1, .inr (.inl (vp_updL oF 0 (r : Int32).toInt64)))) :: (wX7 cI cS hh vCar vGoa vEag tN tF cN cF mP mS kCap kGap kCar kCop kGro kShr bN bF rCmd rLet rNum fCap fGap fCar fCop fGro fShr hX hC hR ++ wX8 cI (hm 0) (hm 1) (hm 2) (hm 3) (hm 4) (hm 5) aTh aSm aLn aAt aWe aRm aBm aHa aS aSv aCm aRd aBy))) hx hb hml hown hg hK hP hD hS hA hl.1 hZ (k_L_find l D cI cS cL Z hh ho a1 vCar vGoa vEag tN tF cN cF mP mS kCap kGap kCar kCop kGro kShr bN bF rCmd rLet rNum fCap fGap fCar fCop fGro fShr hX hC hR oF e7) gww_L_find gw_776 ⟨rfl, rfl, by decide, by decide⟩ ⟨by show 100 + k + 1 ≤ 601024; omega, by show 6000 + 6 * k + 6 ≤ 7293033; omega⟩ pm_l0 pm_l0 (congrArg (List.cons ho) fst_X7) rfl rfl (Nat.le_of_ble_eq_true rfl) dL_law_1020 (fun H locs hP hD hS => ?_)
    refine lv_istore (lv' := [(5, .int 0), (4, .int (nI (3 * k))), (0, .ref b), (1, .ref (hh 0)), (2, .ref (hm 0)), (3, .ref ho)]) hx hb dL_law_1023 hl (by decide) rfl (fun ls hl => ?_)
    refine lv_aload_n hx hb dL_law_1025 rfl (lv_at hl 4 rfl) ?_
    refine lv_aload_n hx hb dL_law_1026 rfl (lv_at hl 2 rfl) ?_
    refine lv_iload hx hb dL_law_1027 (lv_at hl 1 rfl) ?_
    refine lv_iconst (v := 1) hx hb dL_law_1029 (by decide) ?_
    refine lv_iadd hx hb dL_law_1030 ?_
    refine nm_i (y := nI (3 * k + 1)) (nI_1 (3 * k)).symm ?_
    refine va_sld hx hb hXs hbl hbA hS (vp_in_nI (n := 3 * k + 1) (by omega) (by omega)) dL_law_1031 ?_
    refine nm_i ea1 ?_
    refine cP_i (As := [.int a1]) (rest := []) (wc := (wX8 cI (hm 0) (hm 1) (hm 2) (hm 3) (hm 4) (hm 5) aTh aSm aLn aAt aWe aRm aBm aHa aS aSv aCm aRd aBy)) (wc' := (wX8 cI (hm 0) (hm 1) (hm 2) (hm 3) (hm 4) (hm 5) 0 aSm aLn aAt aWe aRm aBm aHa aS aSv aCm aRd aBy)) (ws' := ((ho, .inl (cL, 1, .inr (.inl (vp_updL oF 0 (r : Int32).toInt64)))) :: (wX7 cI cS hh vCar vGoa vEag tN tF cN cF mP mS kCap kGap kCar kCop kGro kShr bN bF rCmd rLet rNum fCap fGap fCar fCop fGro fShr hX hC hR ++ wX8 cI (hm 0) (hm 1) (hm 2) (hm 3) (hm 4) (hm 5) 0 aSm aLn aAt aWe aRm aBm aHa aS aSv aCm aRd aBy))) hx hb hml hown hg hK hP hD hS hA hl.1 (k_X8_find l D cI cS cL Z (hm 0) (hm 1) (hm 2) (hm 3) (hm 4) (hm 5) a1 aTh aSm aLn aAt aWe aRm aBm aHa aS aSv aCm aRd aBy e8) gm_X8_find gw_1152 ⟨rfl, rfl, by decide, by decide⟩ ⟨by show 100 + k + 1 ≤ 601024; omega, by show 6000 + 6 * k + 6 ≤ 7293033; omega⟩ pm_l2 pm_l2 fst_X8 rfl rfl rfl rfl rfl (Nat.le_of_ble_eq_true rfl) dL_law_1032 (fun H locs hP hD hS => ?_)
    refine lv_istore (lv' := [(6, .int r), (5, .int 0), (4, .int (nI (3 * k))), (0, .ref b), (1, .ref (hh 0)), (2, .ref (hm 0)), (3, .ref ho)]) hx hb dL_law_1035 hl (by decide) rfl (fun ls hl => ?_)
    refine lv_aload_n hx hb dL_law_1037 rfl (lv_at hl 5 rfl) ?_
    refine cP_i (As := []) (rest := []) (wc := (wX8 cI (hm 0) (hm 1) (hm 2) (hm 3) (hm 4) (hm 5) 0 aSm aLn aAt aWe aRm aBm aHa aS aSv aCm aRd aBy)) (wc' := (wX8 cI (hm 0) (hm 1) (hm 2) (hm 3) (hm 4) (hm 5) 0 aSm aLn aAt aWe aRm aBm aHa aS aSv aCm aRd aBy)) (ws' := ((ho, .inl (cL, 1, .inr (.inl (vp_updL oF 0 (r : Int32).toInt64)))) :: (wX7 cI cS hh vCar vGoa vEag tN tF cN cF mP mS kCap kGap kCar kCop kGro kShr bN bF rCmd rLet rNum fCap fGap fCar fCop fGro fShr hX hC hR ++ wX8 cI (hm 0) (hm 1) (hm 2) (hm 3) (hm 4) (hm 5) 0 aSm aLn aAt aWe aRm aBm aHa aS aSv aCm aRd aBy))) hx hb hml hown hg hK hP hD hS hA hl.1 (k_X8_thrown l D cI cS cL Z (hm 0) (hm 1) (hm 2) (hm 3) (hm 4) (hm 5) 0 aSm aLn aAt aWe aRm aBm aHa aS aSv aCm aRd aBy (r := 0) rfl) gm_X8_thrown gw_980 ⟨rfl, rfl, by decide, by decide⟩ ⟨by show 100 + k + 1 ≤ 601024; omega, by show 6000 + 6 * k + 6 ≤ 7293033; omega⟩ pm_l2 pm_l2 rfl rfl rfl rfl rfl rfl (Nat.le_of_ble_eq_true rfl) dL_law_1038 (fun H locs hP hD hS => ?_)
    refine lv_iload hx hb dL_law_1041 (lv_at hl 1 rfl) ?_
    refine lv_icmp_eq (tgt := 1048) hx hb dL_law_1043 (by decide) (fun _ => ?_) (fun q => absurd rfl q)
    refine lv_iload hx hb dL_law_1048 (lv_at hl 1 rfl) ?_
    refine lv_if_ne (tgt := 1065) hx hb dL_law_1050 (by decide) (fun q => absurd rfl q) (fun _ => ?_)
    refine lv_aload_n hx hb dL_law_1053 rfl (lv_at hl 6 rfl) ?_
    refine lv_iconst (v := 0) hx hb dL_law_1054 (by decide) ?_
    refine va_lald hx hb hK.1 hP 0 2 rfl rfl (i := 0) (vp_in_nI (n := 0) (by decide) (by decide)) dL_law_1055 ?_
    refine nm_l (y := vp_updL oF 0 (r : Int32).toInt64 0) rfl ?_
    refine lv_iload hx hb dL_law_1056 (lv_at hl 0 rfl) ?_
    refine lv_i2l (v := (r : Int32).toInt64) hx hb dL_law_1058 rfl ?_
    refine W.lcmp hx hb dL_law_1059 ?_
    refine nm_i (y := 0) cmp_same.symm ?_
    refine lv_if_eq (tgt := 1065) hx hb dL_law_1060 (by decide) (fun _ => ?_) (fun q => absurd rfl q)
    refine lv_goto (tgt := 1867) hx hb dL_law_1065 (by decide) ?_
    refine lv_iinc (v := nI (3 * (k + 1))) (lv' := [(4, .int (nI (3 * (k + 1)))), (6, .int r), (5, .int 0), (0, .ref b), (1, .ref (hh 0)), (2, .ref (hm 0)), (3, .ref ho)]) hx hb dL_law_1867 hl (k := 2) rfl (it_3 k) (by decide) rfl (fun ls hl => ?_)
    refine lv_goto (tgt := 23) hx hb dL_law_1870 (by decide) ?_
    refine W.widen (k := 100 + (k + 1)) (n := 6000 + 6 * (k + 1)) (by omega) (by omega) ?_
    exact IH vCar vGoa vEag tN tF cN cF mP mS kCap kGap kCar kCop kGro kShr bN bF rCmd rLet rNum fCap fGap fCar fCop fGro fShr hX hC hR 0 aSm aLn aAt aWe aRm aBm aHa aS aSv aCm aRd aBy (vp_updL oF 0 (r : Int32).toInt64) hRel H locs hP hD hS ls (lv_sub hl [0, 3, 4, 5, 6] rfl)
  · skip
    refine lv_aload_n hx hb dL_law_1012 rfl (lv_at hl 2 rfl) ?_
    refine lv_aload_n hx hb dL_law_1013 rfl (lv_at hl 1 rfl) ?_
    refine lv_iload hx hb dL_law_1014 (lv_at hl 0 rfl) ?_
    refine lv_iconst (v := 1) hx hb dL_law_1016 (by decide) ?_
    refine lv_iadd hx hb dL_law_1017 ?_
    refine nm_i (y := nI (3 * k + 1)) (nI_1 (3 * k)).symm ?_
    refine va_sld hx hb hXs hbl hbA hS (vp_in_nI (n := 3 * k + 1) (by omega) (by omega)) dL_law_1018 ?_
    refine nm_i ea1 ?_
    refine lv_aload_n hx hb dL_law_1019 rfl (lv_at hl 4 rfl) ?_
    refine cW_i (As := [.ref (hh 0), .int a1, .ref ho]) (rest := []) (wc := ((ho, .inl (cL, 1, .inr (.inl oF))) :: wX7 cI cS hh vCar vGoa vEag tN tF cN cF mP mS kCap kGap kCar kCop kGro kShr bN bF rCmd rLet rNum fCap fGap fCar fCop fGro fShr hX hC hR)) (wc' := ((ho, .inl (cL, 1, .inr (.inl oF))) :: wX7 cI cS hh vCar vGoa vEag tN tF cN cF mP mS kCap kGap kCar kCop kGro kShr bN bF rCmd rLet rNum fCap fGap fCar fCop fGro fShr hX hC hR)) (ws' := ((ho, .inl (cL, 1, .inr (.inl oF))) :: (wX7 cI cS hh vCar vGoa vEag tN tF cN cF mP mS kCap kGap kCar kCop kGro kShr bN bF rCmd rLet rNum fCap fGap fCar fCop fGro fShr hX hC hR ++ wX8 cI (hm 0) (hm 1) (hm 2) (hm 3) (hm 4) (hm 5) aTh aSm aLn aAt aWe aRm aBm aHa aS aSv aCm aRd aBy))) hx hb hml hown hg hK hP hD hS hA hl.1 hZ (t1_L_find l hlt D cI cS cL Z hh ho a1 vCar vGoa vEag tN tF cN cF mP mS kCap kGap kCar kCop kGro kShr bN bF rCmd rLet rNum fCap fGap fCar fCop fGro fShr hX hC hR oF e7) gww_L_find gw_776 ⟨rfl, rfl, by decide, by decide⟩ ⟨by show 100 + k + 1 ≤ 601024; omega, by show 6000 + 6 * k + 6 ≤ 7293033; omega⟩ pm_l0 pm_l0 (congrArg (List.cons ho) fst_X7) rfl rfl (Nat.le_of_ble_eq_true rfl) dL_law_1020 (fun H locs hP hD hS => ?_)
    refine lv_istore (lv' := [(5, .int 1), (4, .int (nI (3 * k))), (0, .ref b), (1, .ref (hh 0)), (2, .ref (hm 0)), (3, .ref ho)]) hx hb dL_law_1023 hl (by decide) rfl (fun ls hl => ?_)
    refine lv_aload_n hx hb dL_law_1025 rfl (lv_at hl 4 rfl) ?_
    refine lv_aload_n hx hb dL_law_1026 rfl (lv_at hl 2 rfl) ?_
    refine lv_iload hx hb dL_law_1027 (lv_at hl 1 rfl) ?_
    refine lv_iconst (v := 1) hx hb dL_law_1029 (by decide) ?_
    refine lv_iadd hx hb dL_law_1030 ?_
    refine nm_i (y := nI (3 * k + 1)) (nI_1 (3 * k)).symm ?_
    refine va_sld hx hb hXs hbl hbA hS (vp_in_nI (n := 3 * k + 1) (by omega) (by omega)) dL_law_1031 ?_
    refine nm_i ea1 ?_
    refine cP_i (As := [.int a1]) (rest := []) (wc := (wX8 cI (hm 0) (hm 1) (hm 2) (hm 3) (hm 4) (hm 5) aTh aSm aLn aAt aWe aRm aBm aHa aS aSv aCm aRd aBy)) (wc' := (wX8 cI (hm 0) (hm 1) (hm 2) (hm 3) (hm 4) (hm 5) 1 aSm aLn aAt aWe aRm aBm aHa aS aSv aCm aRd aBy)) (ws' := ((ho, .inl (cL, 1, .inr (.inl oF))) :: (wX7 cI cS hh vCar vGoa vEag tN tF cN cF mP mS kCap kGap kCar kCop kGro kShr bN bF rCmd rLet rNum fCap fGap fCar fCop fGro fShr hX hC hR ++ wX8 cI (hm 0) (hm 1) (hm 2) (hm 3) (hm 4) (hm 5) 1 aSm aLn aAt aWe aRm aBm aHa aS aSv aCm aRd aBy))) hx hb hml hown hg hK hP hD hS hA hl.1 (k_X8_find l D cI cS cL Z (hm 0) (hm 1) (hm 2) (hm 3) (hm 4) (hm 5) a1 aTh aSm aLn aAt aWe aRm aBm aHa aS aSv aCm aRd aBy e8) gm_X8_find gw_1152 ⟨rfl, rfl, by decide, by decide⟩ ⟨by show 100 + k + 1 ≤ 601024; omega, by show 6000 + 6 * k + 6 ≤ 7293033; omega⟩ pm_l2 pm_l2 fst_X8 rfl rfl rfl rfl rfl (Nat.le_of_ble_eq_true rfl) dL_law_1032 (fun H locs hP hD hS => ?_)
    refine lv_istore (lv' := [(6, .int r), (5, .int 1), (4, .int (nI (3 * k))), (0, .ref b), (1, .ref (hh 0)), (2, .ref (hm 0)), (3, .ref ho)]) hx hb dL_law_1035 hl (by decide) rfl (fun ls hl => ?_)
    refine lv_aload_n hx hb dL_law_1037 rfl (lv_at hl 5 rfl) ?_
    refine cP_i (As := []) (rest := []) (wc := (wX8 cI (hm 0) (hm 1) (hm 2) (hm 3) (hm 4) (hm 5) 1 aSm aLn aAt aWe aRm aBm aHa aS aSv aCm aRd aBy)) (wc' := (wX8 cI (hm 0) (hm 1) (hm 2) (hm 3) (hm 4) (hm 5) 1 aSm aLn aAt aWe aRm aBm aHa aS aSv aCm aRd aBy)) (ws' := ((ho, .inl (cL, 1, .inr (.inl oF))) :: (wX7 cI cS hh vCar vGoa vEag tN tF cN cF mP mS kCap kGap kCar kCop kGro kShr bN bF rCmd rLet rNum fCap fGap fCar fCop fGro fShr hX hC hR ++ wX8 cI (hm 0) (hm 1) (hm 2) (hm 3) (hm 4) (hm 5) 1 aSm aLn aAt aWe aRm aBm aHa aS aSv aCm aRd aBy))) hx hb hml hown hg hK hP hD hS hA hl.1 (k_X8_thrown l D cI cS cL Z (hm 0) (hm 1) (hm 2) (hm 3) (hm 4) (hm 5) 1 aSm aLn aAt aWe aRm aBm aHa aS aSv aCm aRd aBy (r := 1) rfl) gm_X8_thrown gw_980 ⟨rfl, rfl, by decide, by decide⟩ ⟨by show 100 + k + 1 ≤ 601024; omega, by show 6000 + 6 * k + 6 ≤ 7293033; omega⟩ pm_l2 pm_l2 rfl rfl rfl rfl rfl rfl (Nat.le_of_ble_eq_true rfl) dL_law_1038 (fun H locs hP hD hS => ?_)
    refine lv_iload hx hb dL_law_1041 (lv_at hl 1 rfl) ?_
    refine lv_icmp_eq (tgt := 1048) hx hb dL_law_1043 (by decide) (fun _ => ?_) (fun q => absurd rfl q)
    refine lv_iload hx hb dL_law_1048 (lv_at hl 1 rfl) ?_
    refine lv_if_ne (tgt := 1065) hx hb dL_law_1050 (by decide) (fun _ => ?_) (fun q => absurd q (by decide))
    refine lv_goto (tgt := 1867) hx hb dL_law_1065 (by decide) ?_
    refine lv_iinc (v := nI (3 * (k + 1))) (lv' := [(4, .int (nI (3 * (k + 1)))), (6, .int r), (5, .int 1), (0, .ref b), (1, .ref (hh 0)), (2, .ref (hm 0)), (3, .ref ho)]) hx hb dL_law_1867 hl (k := 2) rfl (it_3 k) (by decide) rfl (fun ls hl => ?_)
    refine lv_goto (tgt := 23) hx hb dL_law_1870 (by decide) ?_
    refine W.widen (k := 100 + (k + 1)) (n := 6000 + 6 * (k + 1)) (by omega) (by omega) ?_
    exact IH vCar vGoa vEag tN tF cN cF mP mS kCap kGap kCar kCop kGro kShr bN bF rCmd rLet rNum fCap fGap fCar fCop fGro fShr hX hC hR 1 aSm aLn aAt aWe aRm aBm aHa aS aSv aCm aRd aBy oF hRel H locs hP hD hS ls (lv_sub hl [0, 3, 4, 5, 6] rfl)
set_option maxRecDepth 100000 in
set_option maxHeartbeats 4000000 in
theorem law_c17 {p : Program} {e : Env} {s : State} {m : MethodId} {below : List Frame} {meth : Method} {c : Code} {l : Launch} (hlt : l.stackTraces = false) {D : va_G} {cI cS cL : ClassId} {b L : Nat} {xs : Nat → Int32} (C0 : lw_At p s m meth c b L xs) (hg : ∀ w ∈ GW, w.before #[Value.ref b] s = true) (hK : kk_ D cI cS cL s) (hZ : zz_ (fun q : Nat => s.heap.size ≤ q) s s.heap) (Z : Nat) (Rel : Int32 → Int32 → Int32 → Int32 → (Nat → Int32) → Int32 → (Nat → Int32) → (Nat → Int32) → (Nat → Int32) → Int32 → Int32 → Int32 → Int32 → Int32 → Int32 → Int32 → (Nat → Int32) → Int32 → Int32 → Int32 → Int32 → Int32 → Int32 → Int32 → Int32 → Int32 → Int32 → Int32 → (Nat → StT) → Int32 → Int32 → Int32 → Int32 → Int32 → Int32 → Int32 → Int64 → (Nat → Int32) → (Nat → Int32) → (Nat → Int32) → (Nat → Int32) → (Nat → Int32) → Prop) (pb : PB_length Z Rel) (hh hm : Nat → Nat) (ho k : Nat) (hk : 3 * k + 2 < L) (hL : L ≤ 1536) (vCar : Int32) (vGoa : Int32) (vEag : Int32) (tN : Int32) (tF : Nat → Int32) (cN : Int32) (cF : Nat → Int32) (mP : Nat → Int32) (mS : Nat → Int32) (kCap : Int32) (kGap : Int32) (kCar : Int32) (kCop : Int32) (kGro : Int32) (kShr : Int32) (bN : Int32) (bF : Nat → Int32) (rCmd : Int32) (rLet : Int32) (rNum : Int32) (fCap : Int32) (fGap : Int32) (fCar : Int32) (fCop : Int32) (fGro : Int32) (fShr : Int32) (hX : Int32) (hC : Int32) (hR : Nat → StT) (aTh : Int32) (aSm : Int32) (aLn : Int32) (aAt : Int32) (aWe : Int32) (aRm : Int32) (aBm : Int32) (aHa : Int64) (aS : Nat → Int32) (aSv : Nat → Int32) (aCm : Nat → Int32) (aRd : Nat → Int32) (aBy : Nat → Int32) (oF : Nat → Int64) (hRel : Rel vCar vGoa vEag tN tF cN cF mP mS kCap kGap kCar kCop kGro kShr bN bF rCmd rLet rNum fCap fGap fCar fCop fGro fShr hX hC hR aTh aSm aLn aAt aWe aRm aBm aHa aS aSv aCm aRd aBy) (H : Heap) (locs : List Loc) (hP : va_P D vwCl (wLW cI cS cL hh hm ho vCar vGoa vEag tN tF cN cF mP mS kCap kGap kCar kCop kGro kShr bN bF rCmd rLet rNum fCap fGap fCar fCop fGro fShr hX hC hR aTh aSm aLn aAt aWe aRm aBm aHa aS aSv aCm aRd aBy oF) H) (hD : va_D (fun q : Nat => s.heap.size ≤ q) (wLW cI cS cL hh hm ho vCar vGoa vEag tN tF cN cF mP mS kCap kGap kCar kCop kGro kShr bN bF rCmd rLet rNum fCap fGap fCar fCop fGro fShr hX hC hR aTh aSm aLn aAt aWe aRm aBm aHa aS aSv aCm aRd aBy oF)) (hS : va_S (fun q : Nat => s.heap.size ≤ q) s.heap H locs) (ls : Array Slot) (hl : lv_has ls 7 [(4, .int (nI (3 * k))), (0, .ref b), (1, .ref (hh 0)), (2, .ref (hm 0)), (3, .ref ho)]) (IH : LH p l e s m b below meth c D cI cS cL hh hm ho (k + 1) Rel) : W p l e room_1 s m #[Value.ref b] below meth c H locs (100 + k) (6000 + 6 * k) (lw_Z below #[Value.ref b] s) (F0 m 1068 ls []) := by
  obtain ⟨hx, hb, hr, hml, hown, hts, hXs, hbl, hlocks, hgv⟩ := C0
  have hown : s.vm.findClass RL = some m.cls := hown
  have hA : ∀ q : Nat, s.heap.size ≤ q → (fun q : Nat => s.heap.size ≤ q) q := fun _ h => h
  have hbA : ¬ (fun q : Nat => s.heap.size ≤ q) b := Nat.not_le.mpr hbl
  obtain ⟨a1, ea1⟩ : ∃ y, y = xs (nI (3 * k + 1)).toNatClampNeg := ⟨_, rfl⟩
  obtain ⟨a2, ea2⟩ : ∃ y, y = xs (nI (3 * k + 2)).toNatClampNeg := ⟨_, rfl⟩
  obtain ⟨r, aTh', e7, e8, hRel⟩ := pb  vCar vGoa vEag tN tF cN cF mP mS kCap kGap kCar kCop kGro kShr bN bF rCmd rLet rNum fCap fGap fCar fCop fGro fShr hX hC hR aTh aSm aLn aAt aWe aRm aBm aHa aS aSv aCm aRd aBy hRel
  refine lv_aload_n hx hb dL_law_1068 rfl (lv_at hl 2 rfl) ?_
  refine cP_i (As := []) (rest := []) (wc := (wX7 cI cS hh vCar vGoa vEag tN tF cN cF mP mS kCap kGap kCar kCop kGro kShr bN bF rCmd rLet rNum fCap fGap fCar fCop fGro fShr hX hC hR)) (wc' := (wX7 cI cS hh vCar vGoa vEag tN tF cN cF mP mS kCap kGap kCar kCop kGro kShr bN bF rCmd rLet rNum fCap fGap fCar fCop fGro fShr hX hC hR)) (ws' := ((ho, .inl (cL, 1, .inr (.inl oF))) :: (wX7 cI cS hh vCar vGoa vEag tN tF cN cF mP mS kCap kGap kCar kCop kGro kShr bN bF rCmd rLet rNum fCap fGap fCar fCop fGro fShr hX hC hR ++ wX8 cI (hm 0) (hm 1) (hm 2) (hm 3) (hm 4) (hm 5) aTh aSm aLn aAt aWe aRm aBm aHa aS aSv aCm aRd aBy))) hx hb hml hown hg hK hP hD hS hA hl.1 (k_X7_length l D cI cS cL Z hh vCar vGoa vEag tN tF cN cF mP mS kCap kGap kCar kCop kGro kShr bN bF rCmd rLet rNum fCap fGap fCar fCop fGro fShr hX hC hR e7) gm_X7_length gw_357 ⟨rfl, rfl, by decide, by decide⟩ ⟨by show 100 + k ≤ 601024; omega, by show 6000 + 6 * k ≤ 7293033; omega⟩ pm_l1 pm_l1 fst_X7 rfl rfl rfl rfl rfl (Nat.le_of_ble_eq_true rfl) dL_law_1069 (fun H locs hP hD hS => ?_)
  refine lv_aload_n hx hb dL_law_1072 rfl (lv_at hl 3 rfl) ?_
  refine cP_i (As := []) (rest := [.int r]) (wc := (wX8 cI (hm 0) (hm 1) (hm 2) (hm 3) (hm 4) (hm 5) aTh aSm aLn aAt aWe aRm aBm aHa aS aSv aCm aRd aBy)) (wc' := (wX8 cI (hm 0) (hm 1) (hm 2) (hm 3) (hm 4) (hm 5) aTh' aSm aLn aAt aWe aRm aBm aHa aS aSv aCm aRd aBy)) (ws' := ((ho, .inl (cL, 1, .inr (.inl oF))) :: (wX7 cI cS hh vCar vGoa vEag tN tF cN cF mP mS kCap kGap kCar kCop kGro kShr bN bF rCmd rLet rNum fCap fGap fCar fCop fGro fShr hX hC hR ++ wX8 cI (hm 0) (hm 1) (hm 2) (hm 3) (hm 4) (hm 5) aTh' aSm aLn aAt aWe aRm aBm aHa aS aSv aCm aRd aBy))) hx hb hml hown hg hK hP hD hS hA hl.1 (k_X8_length l D cI cS cL Z (hm 0) (hm 1) (hm 2) (hm 3) (hm 4) (hm 5) aTh aSm aLn aAt aWe aRm aBm aHa aS aSv aCm aRd aBy e8) gm_X8_length gw_1160 ⟨rfl, rfl, by decide, by decide⟩ ⟨by show 100 + k ≤ 601024; omega, by show 6000 + 6 * k ≤ 7293033; omega⟩ pm_l2 pm_l2 fst_X8 rfl rfl rfl rfl rfl (Nat.le_of_ble_eq_true rfl) dL_law_1073 (fun H locs hP hD hS => ?_)
  refine lv_icmp_eq (tgt := 1867) hx hb dL_law_1076 (by decide) (fun _ => ?_) (fun q => absurd rfl q)
  refine lv_iinc (v := nI (3 * (k + 1))) (lv' := [(4, .int (nI (3 * (k + 1)))), (0, .ref b), (1, .ref (hh 0)), (2, .ref (hm 0)), (3, .ref ho)]) hx hb dL_law_1867 hl (k := 0) rfl (it_3 k) (by decide) rfl (fun ls hl => ?_)
  refine lv_goto (tgt := 23) hx hb dL_law_1870 (by decide) ?_
  refine W.widen (k := 100 + (k + 1)) (n := 6000 + 6 * (k + 1)) (by omega) (by omega) ?_
  exact IH vCar vGoa vEag tN tF cN cF mP mS kCap kGap kCar kCop kGro kShr bN bF rCmd rLet rNum fCap fGap fCar fCop fGro fShr hX hC hR (aTh') aSm aLn aAt aWe aRm aBm aHa aS aSv aCm aRd aBy oF hRel H locs hP hD hS ls (lv_sub hl [0, 1, 2, 3, 4] rfl)
set_option maxRecDepth 100000 in
set_option maxHeartbeats 4000000 in
theorem law_c18 {p : Program} {e : Env} {s : State} {m : MethodId} {below : List Frame} {meth : Method} {c : Code} {l : Launch} (hlt : l.stackTraces = false) {D : va_G} {cI cS cL : ClassId} {b L : Nat} {xs : Nat → Int32} (C0 : lw_At p s m meth c b L xs) (hg : ∀ w ∈ GW, w.before #[Value.ref b] s = true) (hK : kk_ D cI cS cL s) (hZ : zz_ (fun q : Nat => s.heap.size ≤ q) s s.heap) (Z : Nat) (Rel : Int32 → Int32 → Int32 → Int32 → (Nat → Int32) → Int32 → (Nat → Int32) → (Nat → Int32) → (Nat → Int32) → Int32 → Int32 → Int32 → Int32 → Int32 → Int32 → Int32 → (Nat → Int32) → Int32 → Int32 → Int32 → Int32 → Int32 → Int32 → Int32 → Int32 → Int32 → Int32 → Int32 → (Nat → StT) → Int32 → Int32 → Int32 → Int32 → Int32 → Int32 → Int32 → Int64 → (Nat → Int32) → (Nat → Int32) → (Nat → Int32) → (Nat → Int32) → (Nat → Int32) → Prop) (pb : PB_caret Z Rel) (hh hm : Nat → Nat) (ho k : Nat) (hk : 3 * k + 2 < L) (hL : L ≤ 1536) (vCar : Int32) (vGoa : Int32) (vEag : Int32) (tN : Int32) (tF : Nat → Int32) (cN : Int32) (cF : Nat → Int32) (mP : Nat → Int32) (mS : Nat → Int32) (kCap : Int32) (kGap : Int32) (kCar : Int32) (kCop : Int32) (kGro : Int32) (kShr : Int32) (bN : Int32) (bF : Nat → Int32) (rCmd : Int32) (rLet : Int32) (rNum : Int32) (fCap : Int32) (fGap : Int32) (fCar : Int32) (fCop : Int32) (fGro : Int32) (fShr : Int32) (hX : Int32) (hC : Int32) (hR : Nat → StT) (aTh : Int32) (aSm : Int32) (aLn : Int32) (aAt : Int32) (aWe : Int32) (aRm : Int32) (aBm : Int32) (aHa : Int64) (aS : Nat → Int32) (aSv : Nat → Int32) (aCm : Nat → Int32) (aRd : Nat → Int32) (aBy : Nat → Int32) (oF : Nat → Int64) (hRel : Rel vCar vGoa vEag tN tF cN cF mP mS kCap kGap kCar kCop kGro kShr bN bF rCmd rLet rNum fCap fGap fCar fCop fGro fShr hX hC hR aTh aSm aLn aAt aWe aRm aBm aHa aS aSv aCm aRd aBy) (H : Heap) (locs : List Loc) (hP : va_P D vwCl (wLW cI cS cL hh hm ho vCar vGoa vEag tN tF cN cF mP mS kCap kGap kCar kCop kGro kShr bN bF rCmd rLet rNum fCap fGap fCar fCop fGro fShr hX hC hR aTh aSm aLn aAt aWe aRm aBm aHa aS aSv aCm aRd aBy oF) H) (hD : va_D (fun q : Nat => s.heap.size ≤ q) (wLW cI cS cL hh hm ho vCar vGoa vEag tN tF cN cF mP mS kCap kGap kCar kCop kGro kShr bN bF rCmd rLet rNum fCap fGap fCar fCop fGro fShr hX hC hR aTh aSm aLn aAt aWe aRm aBm aHa aS aSv aCm aRd aBy oF)) (hS : va_S (fun q : Nat => s.heap.size ≤ q) s.heap H locs) (ls : Array Slot) (hl : lv_has ls 7 [(4, .int (nI (3 * k))), (0, .ref b), (1, .ref (hh 0)), (2, .ref (hm 0)), (3, .ref ho)]) (IH : LH p l e s m b below meth c D cI cS cL hh hm ho (k + 1) Rel) : W p l e room_1 s m #[Value.ref b] below meth c H locs (100 + k) (6000 + 6 * k) (lw_Z below #[Value.ref b] s) (F0 m 1081 ls []) := by
  obtain ⟨hx, hb, hr, hml, hown, hts, hXs, hbl, hlocks, hgv⟩ := C0
  have hown : s.vm.findClass RL = some m.cls := hown
  have hA : ∀ q : Nat, s.heap.size ≤ q → (fun q : Nat => s.heap.size ≤ q) q := fun _ h => h
  have hbA : ¬ (fun q : Nat => s.heap.size ≤ q) b := Nat.not_le.mpr hbl
  obtain ⟨a1, ea1⟩ : ∃ y, y = xs (nI (3 * k + 1)).toNatClampNeg := ⟨_, rfl⟩
  obtain ⟨a2, ea2⟩ : ∃ y, y = xs (nI (3 * k + 2)).toNatClampNeg := ⟨_, rfl⟩
  obtain ⟨r, aTh', e7, e8, hRel⟩ := pb  vCar vGoa vEag tN tF cN cF mP mS kCap kGap kCar kCop kGro kShr bN bF rCmd rLet rNum fCap fGap fCar fCop fGro fShr hX hC hR aTh aSm aLn aAt aWe aRm aBm aHa aS aSv aCm aRd aBy hRel
  refine lv_aload_n hx hb dL_law_1081 rfl (lv_at hl 2 rfl) ?_
  refine cP_i (As := []) (rest := []) (wc := (wX7 cI cS hh vCar vGoa vEag tN tF cN cF mP mS kCap kGap kCar kCop kGro kShr bN bF rCmd rLet rNum fCap fGap fCar fCop fGro fShr hX hC hR)) (wc' := (wX7 cI cS hh vCar vGoa vEag tN tF cN cF mP mS kCap kGap kCar kCop kGro kShr bN bF rCmd rLet rNum fCap fGap fCar fCop fGro fShr hX hC hR)) (ws' := ((ho, .inl (cL, 1, .inr (.inl oF))) :: (wX7 cI cS hh vCar vGoa vEag tN tF cN cF mP mS kCap kGap kCar kCop kGro kShr bN bF rCmd rLet rNum fCap fGap fCar fCop fGro fShr hX hC hR ++ wX8 cI (hm 0) (hm 1) (hm 2) (hm 3) (hm 4) (hm 5) aTh aSm aLn aAt aWe aRm aBm aHa aS aSv aCm aRd aBy))) hx hb hml hown hg hK hP hD hS hA hl.1 (k_X7_caret l D cI cS cL Z hh vCar vGoa vEag tN tF cN cF mP mS kCap kGap kCar kCop kGro kShr bN bF rCmd rLet rNum fCap fGap fCar fCop fGro fShr hX hC hR e7) gm_X7_caret gw_362 ⟨rfl, rfl, by decide, by decide⟩ ⟨by show 100 + k ≤ 601024; omega, by show 6000 + 6 * k ≤ 7293033; omega⟩ pm_l1 pm_l1 fst_X7 rfl rfl rfl rfl rfl (Nat.le_of_ble_eq_true rfl) dL_law_1082 (fun H locs hP hD hS => ?_)
  refine lv_aload_n hx hb dL_law_1085 rfl (lv_at hl 3 rfl) ?_
  refine cP_i (As := []) (rest := [.int r]) (wc := (wX8 cI (hm 0) (hm 1) (hm 2) (hm 3) (hm 4) (hm 5) aTh aSm aLn aAt aWe aRm aBm aHa aS aSv aCm aRd aBy)) (wc' := (wX8 cI (hm 0) (hm 1) (hm 2) (hm 3) (hm 4) (hm 5) aTh' aSm aLn aAt aWe aRm aBm aHa aS aSv aCm aRd aBy)) (ws' := ((ho, .inl (cL, 1, .inr (.inl oF))) :: (wX7 cI cS hh vCar vGoa vEag tN tF cN cF mP mS kCap kGap kCar kCop kGro kShr bN bF rCmd rLet rNum fCap fGap fCar fCop fGro fShr hX hC hR ++ wX8 cI (hm 0) (hm 1) (hm 2) (hm 3) (hm 4) (hm 5) aTh' aSm aLn aAt aWe aRm aBm aHa aS aSv aCm aRd aBy))) hx hb hml hown hg hK hP hD hS hA hl.1 (k_X8_caret l D cI cS cL Z (hm 0) (hm 1) (hm 2) (hm 3) (hm 4) (hm 5) aTh aSm aLn aAt aWe aRm aBm aHa aS aSv aCm aRd aBy e8) gm_X8_caret gw_1164 ⟨rfl, rfl, by decide, by decide⟩ ⟨by show 100 + k ≤ 601024; omega, by show 6000 + 6 * k ≤ 7293033; omega⟩ pm_l2 pm_l2 fst_X8 rfl rfl rfl rfl rfl (Nat.le_of_ble_eq_true rfl) dL_law_1086 (fun H locs hP hD hS => ?_)
  refine lv_icmp_eq (tgt := 1867) hx hb dL_law_1089 (by decide) (fun _ => ?_) (fun q => absurd rfl q)
  refine lv_iinc (v := nI (3 * (k + 1))) (lv' := [(4, .int (nI (3 * (k + 1)))), (0, .ref b), (1, .ref (hh 0)), (2, .ref (hm 0)), (3, .ref ho)]) hx hb dL_law_1867 hl (k := 0) rfl (it_3 k) (by decide) rfl (fun ls hl => ?_)
  refine lv_goto (tgt := 23) hx hb dL_law_1870 (by decide) ?_
  refine W.widen (k := 100 + (k + 1)) (n := 6000 + 6 * (k + 1)) (by omega) (by omega) ?_
  exact IH vCar vGoa vEag tN tF cN cF mP mS kCap kGap kCar kCop kGro kShr bN bF rCmd rLet rNum fCap fGap fCar fCop fGro fShr hX hC hR (aTh') aSm aLn aAt aWe aRm aBm aHa aS aSv aCm aRd aBy oF hRel H locs hP hD hS ls (lv_sub hl [0, 1, 2, 3, 4] rfl)
set_option maxRecDepth 100000 in
set_option maxHeartbeats 4000000 in
theorem law_c19 {p : Program} {e : Env} {s : State} {m : MethodId} {below : List Frame} {meth : Method} {c : Code} {l : Launch} (hlt : l.stackTraces = false) {D : va_G} {cI cS cL : ClassId} {b L : Nat} {xs : Nat → Int32} (C0 : lw_At p s m meth c b L xs) (hg : ∀ w ∈ GW, w.before #[Value.ref b] s = true) (hK : kk_ D cI cS cL s) (hZ : zz_ (fun q : Nat => s.heap.size ≤ q) s s.heap) (Z : Nat) (Rel : Int32 → Int32 → Int32 → Int32 → (Nat → Int32) → Int32 → (Nat → Int32) → (Nat → Int32) → (Nat → Int32) → Int32 → Int32 → Int32 → Int32 → Int32 → Int32 → Int32 → (Nat → Int32) → Int32 → Int32 → Int32 → Int32 → Int32 → Int32 → Int32 → Int32 → Int32 → Int32 → Int32 → (Nat → StT) → Int32 → Int32 → Int32 → Int32 → Int32 → Int32 → Int32 → Int64 → (Nat → Int32) → (Nat → Int32) → (Nat → Int32) → (Nat → Int32) → (Nat → Int32) → Prop) (pb : PB_byteAt Z Rel) (hh hm : Nat → Nat) (ho k : Nat) (hk : 3 * k + 2 < L) (hL : L ≤ 1536) (vCar : Int32) (vGoa : Int32) (vEag : Int32) (tN : Int32) (tF : Nat → Int32) (cN : Int32) (cF : Nat → Int32) (mP : Nat → Int32) (mS : Nat → Int32) (kCap : Int32) (kGap : Int32) (kCar : Int32) (kCop : Int32) (kGro : Int32) (kShr : Int32) (bN : Int32) (bF : Nat → Int32) (rCmd : Int32) (rLet : Int32) (rNum : Int32) (fCap : Int32) (fGap : Int32) (fCar : Int32) (fCop : Int32) (fGro : Int32) (fShr : Int32) (hX : Int32) (hC : Int32) (hR : Nat → StT) (aTh : Int32) (aSm : Int32) (aLn : Int32) (aAt : Int32) (aWe : Int32) (aRm : Int32) (aBm : Int32) (aHa : Int64) (aS : Nat → Int32) (aSv : Nat → Int32) (aCm : Nat → Int32) (aRd : Nat → Int32) (aBy : Nat → Int32) (oF : Nat → Int64) (hRel : Rel vCar vGoa vEag tN tF cN cF mP mS kCap kGap kCar kCop kGro kShr bN bF rCmd rLet rNum fCap fGap fCar fCop fGro fShr hX hC hR aTh aSm aLn aAt aWe aRm aBm aHa aS aSv aCm aRd aBy) (H : Heap) (locs : List Loc) (hP : va_P D vwCl (wLW cI cS cL hh hm ho vCar vGoa vEag tN tF cN cF mP mS kCap kGap kCar kCop kGro kShr bN bF rCmd rLet rNum fCap fGap fCar fCop fGro fShr hX hC hR aTh aSm aLn aAt aWe aRm aBm aHa aS aSv aCm aRd aBy oF) H) (hD : va_D (fun q : Nat => s.heap.size ≤ q) (wLW cI cS cL hh hm ho vCar vGoa vEag tN tF cN cF mP mS kCap kGap kCar kCop kGro kShr bN bF rCmd rLet rNum fCap fGap fCar fCop fGro fShr hX hC hR aTh aSm aLn aAt aWe aRm aBm aHa aS aSv aCm aRd aBy oF)) (hS : va_S (fun q : Nat => s.heap.size ≤ q) s.heap H locs) (ls : Array Slot) (hl : lv_has ls 7 [(4, .int (nI (3 * k))), (0, .ref b), (1, .ref (hh 0)), (2, .ref (hm 0)), (3, .ref ho)]) (IH : LH p l e s m b below meth c D cI cS cL hh hm ho (k + 1) Rel) : W p l e room_1 s m #[Value.ref b] below meth c H locs (100 + k) (6000 + 6 * k) (lw_Z below #[Value.ref b] s) (F0 m 1094 ls []) := by
  obtain ⟨hx, hb, hr, hml, hown, hts, hXs, hbl, hlocks, hgv⟩ := C0
  have hown : s.vm.findClass RL = some m.cls := hown
  have hA : ∀ q : Nat, s.heap.size ≤ q → (fun q : Nat => s.heap.size ≤ q) q := fun _ h => h
  have hbA : ¬ (fun q : Nat => s.heap.size ≤ q) b := Nat.not_le.mpr hbl
  obtain ⟨a1, ea1⟩ : ∃ y, y = xs (nI (3 * k + 1)).toNatClampNeg := ⟨_, rfl⟩
  obtain ⟨a2, ea2⟩ : ∃ y, y = xs (nI (3 * k + 2)).toNatClampNeg := ⟨_, rfl⟩
  rcases pb a1 vCar vGoa vEag tN tF cN cF mP mS kCap kGap kCar kCop kGro kShr bN bF rCmd rLet rNum fCap fGap fCar fCop fGro fShr hX hC hR aTh aSm aLn aAt aWe aRm aBm aHa aS aSv aCm aRd aBy hRel with ⟨r, e7, e8, hRel⟩ | ⟨r, e7, e8, hRel⟩
  · skip
    refine lv_aload_n hx hb dL_law_1094 rfl (lv_at hl 2 rfl) ?_
    refine lv_aload_n hx hb dL_law_1095 rfl (lv_at hl 1 rfl) ?_
    refine lv_iload hx hb dL_law_1096 (lv_at hl 0 rfl) ?_
    refine lv_iconst (v := 1) hx hb dL_law_1098 (by decide) ?_
    refine lv_iadd hx hb dL_law_1099 ?_
    refine nm_i (y := nI (3 * k + 1)) (nI_1 (3 * k)).symm ?_
    refine va_sld hx hb hXs hbl hbA hS (vp_in_nI (n := 3 * k + 1) (by omega) (by omega)) dL_law_1100 ?_
    refine nm_i ea1 ?_
    refine lv_aload_n hx hb dL_law_1101 rfl (lv_at hl 4 rfl) ?_
    refine cW_i (As := [.ref (hh 0), .int a1, .ref ho]) (rest := []) (wc := ((ho, .inl (cL, 1, .inr (.inl oF))) :: wX7 cI cS hh vCar vGoa vEag tN tF cN cF mP mS kCap kGap kCar kCop kGro kShr bN bF rCmd rLet rNum fCap fGap fCar fCop fGro fShr hX hC hR)) (wc' := ((ho, .inl (cL, 1, .inr (.inl (vp_updL oF 0 (r : Int32).toInt64)))) :: wX7 cI cS hh vCar vGoa vEag tN tF cN cF mP mS kCap kGap kCar kCop kGro kShr bN bF rCmd rLet rNum fCap fGap fCar fCop fGro fShr hX hC hR)) (ws' := ((ho, .inl (cL, 1, .inr (.inl (vp_updL oF 0 (r : Int32).toInt64)))) :: (wX7 cI cS hh vCar vGoa vEag tN tF cN cF mP mS kCap kGap kCar kCop kGro kShr bN bF rCmd rLet rNum fCap fGap fCar fCop fGro fShr hX hC hR ++ wX8 cI (hm 0) (hm 1) (hm 2) (hm 3) (hm 4) (hm 5) aTh aSm aLn aAt aWe aRm aBm aHa aS aSv aCm aRd aBy))) hx hb hml hown hg hK hP hD hS hA hl.1 hZ (k_L_byteAt l D cI cS cL Z hh ho a1 vCar vGoa vEag tN tF cN cF mP mS kCap kGap kCar kCop kGro kShr bN bF rCmd rLet rNum fCap fGap fCar fCop fGro fShr hX hC hR oF e7) gww_L_byteAt gw_791 ⟨rfl, rfl, by decide, by decide⟩ ⟨by show 100 + k + 1 ≤ 601024; omega, by show 6000 + 6 * k + 6 ≤ 7293033; omega⟩ pm_l0 pm_l0 (congrArg (List.cons ho) fst_X7) rfl rfl (Nat.le_of_ble_eq_true rfl) dL_law_1102 (fun H locs hP hD hS => ?_)
    refine lv_istore (lv' := [(5, .int 0), (4, .int (nI (3 * k))), (0, .ref b), (1, .ref (hh 0)), (2, .ref (hm 0)), (3, .ref ho)]) hx hb dL_law_1105 hl (by decide) rfl (fun ls hl => ?_)
    refine lv_aload_n hx hb dL_law_1107 rfl (lv_at hl 4 rfl) ?_
    refine lv_aload_n hx hb dL_law_1108 rfl (lv_at hl 2 rfl) ?_
    refine lv_iload hx hb dL_law_1109 (lv_at hl 1 rfl) ?_
    refine lv_iconst (v := 1) hx hb dL_law_1111 (by decide) ?_
    refine lv_iadd hx hb dL_law_1112 ?_
    refine nm_i (y := nI (3 * k + 1)) (nI_1 (3 * k)).symm ?_
    refine va_sld hx hb hXs hbl hbA hS (vp_in_nI (n := 3 * k + 1) (by omega) (by omega)) dL_law_1113 ?_
    refine nm_i ea1 ?_
    refine cP_i (As := [.int a1]) (rest := []) (wc := (wX8 cI (hm 0) (hm 1) (hm 2) (hm 3) (hm 4) (hm 5) aTh aSm aLn aAt aWe aRm aBm aHa aS aSv aCm aRd aBy)) (wc' := (wX8 cI (hm 0) (hm 1) (hm 2) (hm 3) (hm 4) (hm 5) 0 aSm aLn aAt aWe aRm aBm aHa aS aSv aCm aRd aBy)) (ws' := ((ho, .inl (cL, 1, .inr (.inl (vp_updL oF 0 (r : Int32).toInt64)))) :: (wX7 cI cS hh vCar vGoa vEag tN tF cN cF mP mS kCap kGap kCar kCop kGro kShr bN bF rCmd rLet rNum fCap fGap fCar fCop fGro fShr hX hC hR ++ wX8 cI (hm 0) (hm 1) (hm 2) (hm 3) (hm 4) (hm 5) 0 aSm aLn aAt aWe aRm aBm aHa aS aSv aCm aRd aBy))) hx hb hml hown hg hK hP hD hS hA hl.1 (k_X8_byteAt l D cI cS cL Z (hm 0) (hm 1) (hm 2) (hm 3) (hm 4) (hm 5) a1 aTh aSm aLn aAt aWe aRm aBm aHa aS aSv aCm aRd aBy e8) gm_X8_byteAt gw_1168 ⟨rfl, rfl, by decide, by decide⟩ ⟨by show 100 + k + 1 ≤ 601024; omega, by show 6000 + 6 * k + 6 ≤ 7293033; omega⟩ pm_l2 pm_l2 fst_X8 rfl rfl rfl rfl rfl (Nat.le_of_ble_eq_true rfl) dL_law_1114 (fun H locs hP hD hS => ?_)
    refine lv_istore (lv' := [(6, .int r), (5, .int 0), (4, .int (nI (3 * k))), (0, .ref b), (1, .ref (hh 0)), (2, .ref (hm 0)), (3, .ref ho)]) hx hb dL_law_1117 hl (by decide) rfl (fun ls hl => ?_)
    refine lv_aload_n hx hb dL_law_1119 rfl (lv_at hl 5 rfl) ?_
    refine cP_i (As := []) (rest := []) (wc := (wX8 cI (hm 0) (hm 1) (hm 2) (hm 3) (hm 4) (hm 5) 0 aSm aLn aAt aWe aRm aBm aHa aS aSv aCm aRd aBy)) (wc' := (wX8 cI (hm 0) (hm 1) (hm 2) (hm 3) (hm 4) (hm 5) 0 aSm aLn aAt aWe aRm aBm aHa aS aSv aCm aRd aBy)) (ws' := ((ho, .inl (cL, 1, .inr (.inl (vp_updL oF 0 (r : Int32).toInt64)))) :: (wX7 cI cS hh vCar vGoa vEag tN tF cN cF mP mS kCap kGap kCar kCop kGro kShr bN bF rCmd rLet rNum fCap fGap fCar fCop fGro fShr hX hC hR ++ wX8 cI (hm 0) (hm 1) (hm 2) (hm 3) (hm 4) (hm 5) 0 aSm aLn aAt aWe aRm aBm aHa aS aSv aCm aRd aBy))) hx hb hml hown hg hK hP hD hS hA hl.1 (k_X8_thrown l D cI cS cL Z (hm 0) (hm 1) (hm 2) (hm 3) (hm 4) (hm 5) 0 aSm aLn aAt aWe aRm aBm aHa aS aSv aCm aRd aBy (r := 0) rfl) gm_X8_thrown gw_980 ⟨rfl, rfl, by decide, by decide⟩ ⟨by show 100 + k + 1 ≤ 601024; omega, by show 6000 + 6 * k + 6 ≤ 7293033; omega⟩ pm_l2 pm_l2 rfl rfl rfl rfl rfl rfl (Nat.le_of_ble_eq_true rfl) dL_law_1120 (fun H locs hP hD hS => ?_)
    refine lv_iload hx hb dL_law_1123 (lv_at hl 1 rfl) ?_
    refine lv_icmp_eq (tgt := 1130) hx hb dL_law_1125 (by decide) (fun _ => ?_) (fun q => absurd rfl q)
    refine lv_iload hx hb dL_law_1130 (lv_at hl 1 rfl) ?_
    refine lv_if_ne (tgt := 1147) hx hb dL_law_1132 (by decide) (fun q => absurd rfl q) (fun _ => ?_)
    refine lv_aload_n hx hb dL_law_1135 rfl (lv_at hl 6 rfl) ?_
    refine lv_iconst (v := 0) hx hb dL_law_1136 (by decide) ?_
    refine va_lald hx hb hK.1 hP 0 2 rfl rfl (i := 0) (vp_in_nI (n := 0) (by decide) (by decide)) dL_law_1137 ?_
    refine nm_l (y := vp_updL oF 0 (r : Int32).toInt64 0) rfl ?_
    refine lv_iload hx hb dL_law_1138 (lv_at hl 0 rfl) ?_
    refine lv_i2l (v := (r : Int32).toInt64) hx hb dL_law_1140 rfl ?_
    refine W.lcmp hx hb dL_law_1141 ?_
    refine nm_i (y := 0) cmp_same.symm ?_
    refine lv_if_eq (tgt := 1147) hx hb dL_law_1142 (by decide) (fun _ => ?_) (fun q => absurd rfl q)
    refine lv_goto (tgt := 1867) hx hb dL_law_1147 (by decide) ?_
    refine lv_iinc (v := nI (3 * (k + 1))) (lv' := [(4, .int (nI (3 * (k + 1)))), (6, .int r), (5, .int 0), (0, .ref b), (1, .ref (hh 0)), (2, .ref (hm 0)), (3, .ref ho)]) hx hb dL_law_1867 hl (k := 2) rfl (it_3 k) (by decide) rfl (fun ls hl => ?_)
    refine lv_goto (tgt := 23) hx hb dL_law_1870 (by decide) ?_
    refine W.widen (k := 100 + (k + 1)) (n := 6000 + 6 * (k + 1)) (by omega) (by omega) ?_
    exact IH vCar vGoa vEag tN tF cN cF mP mS kCap kGap kCar kCop kGro kShr bN bF rCmd rLet rNum fCap fGap fCar fCop fGro fShr hX hC hR 0 aSm aLn aAt aWe aRm aBm aHa aS aSv aCm aRd aBy (vp_updL oF 0 (r : Int32).toInt64) hRel H locs hP hD hS ls (lv_sub hl [0, 3, 4, 5, 6] rfl)
  · skip
    refine lv_aload_n hx hb dL_law_1094 rfl (lv_at hl 2 rfl) ?_
    refine lv_aload_n hx hb dL_law_1095 rfl (lv_at hl 1 rfl) ?_
    refine lv_iload hx hb dL_law_1096 (lv_at hl 0 rfl) ?_
    refine lv_iconst (v := 1) hx hb dL_law_1098 (by decide) ?_
    refine lv_iadd hx hb dL_law_1099 ?_
    refine nm_i (y := nI (3 * k + 1)) (nI_1 (3 * k)).symm ?_
    refine va_sld hx hb hXs hbl hbA hS (vp_in_nI (n := 3 * k + 1) (by omega) (by omega)) dL_law_1100 ?_
    refine nm_i ea1 ?_
    refine lv_aload_n hx hb dL_law_1101 rfl (lv_at hl 4 rfl) ?_
    refine cW_i (As := [.ref (hh 0), .int a1, .ref ho]) (rest := []) (wc := ((ho, .inl (cL, 1, .inr (.inl oF))) :: wX7 cI cS hh vCar vGoa vEag tN tF cN cF mP mS kCap kGap kCar kCop kGro kShr bN bF rCmd rLet rNum fCap fGap fCar fCop fGro fShr hX hC hR)) (wc' := ((ho, .inl (cL, 1, .inr (.inl oF))) :: wX7 cI cS hh vCar vGoa vEag tN tF cN cF mP mS kCap kGap kCar kCop kGro kShr bN bF rCmd rLet rNum fCap fGap fCar fCop fGro fShr hX hC hR)) (ws' := ((ho, .inl (cL, 1, .inr (.inl oF))) :: (wX7 cI cS hh vCar vGoa vEag tN tF cN cF mP mS kCap kGap kCar kCop kGro kShr bN bF rCmd rLet rNum fCap fGap fCar fCop fGro fShr hX hC hR ++ wX8 cI (hm 0) (hm 1) (hm 2) (hm 3) (hm 4) (hm 5) aTh aSm aLn aAt aWe aRm aBm aHa aS aSv aCm aRd aBy))) hx hb hml hown hg hK hP hD hS hA hl.1 hZ (t1_L_byteAt l hlt D cI cS cL Z hh ho a1 vCar vGoa vEag tN tF cN cF mP mS kCap kGap kCar kCop kGro kShr bN bF rCmd rLet rNum fCap fGap fCar fCop fGro fShr hX hC hR oF e7) gww_L_byteAt gw_791 ⟨rfl, rfl, by decide, by decide⟩ ⟨by show 100 + k + 1 ≤ 601024; omega, by show 6000 + 6 * k + 6 ≤ 7293033; omega⟩ pm_l0 pm_l0 (congrArg (List.cons ho) fst_X7) rfl rfl (Nat.le_of_ble_eq_true rfl) dL_law_1102 (fun H locs hP hD hS => ?_)
    refine lv_istore (lv' := [(5, .int 1), (4, .int (nI (3 * k))), (0, .ref b), (1, .ref (hh 0)), (2, .ref (hm 0)), (3, .ref ho)]) hx hb dL_law_1105 hl (by decide) rfl (fun ls hl => ?_)
    refine lv_aload_n hx hb dL_law_1107 rfl (lv_at hl 4 rfl) ?_
    refine lv_aload_n hx hb dL_law_1108 rfl (lv_at hl 2 rfl) ?_
    refine lv_iload hx hb dL_law_1109 (lv_at hl 1 rfl) ?_
    refine lv_iconst (v := 1) hx hb dL_law_1111 (by decide) ?_
    refine lv_iadd hx hb dL_law_1112 ?_
    refine nm_i (y := nI (3 * k + 1)) (nI_1 (3 * k)).symm ?_
    refine va_sld hx hb hXs hbl hbA hS (vp_in_nI (n := 3 * k + 1) (by omega) (by omega)) dL_law_1113 ?_
    refine nm_i ea1 ?_
    refine cP_i (As := [.int a1]) (rest := []) (wc := (wX8 cI (hm 0) (hm 1) (hm 2) (hm 3) (hm 4) (hm 5) aTh aSm aLn aAt aWe aRm aBm aHa aS aSv aCm aRd aBy)) (wc' := (wX8 cI (hm 0) (hm 1) (hm 2) (hm 3) (hm 4) (hm 5) 1 aSm aLn aAt aWe aRm aBm aHa aS aSv aCm aRd aBy)) (ws' := ((ho, .inl (cL, 1, .inr (.inl oF))) :: (wX7 cI cS hh vCar vGoa vEag tN tF cN cF mP mS kCap kGap kCar kCop kGro kShr bN bF rCmd rLet rNum fCap fGap fCar fCop fGro fShr hX hC hR ++ wX8 cI (hm 0) (hm 1) (hm 2) (hm 3) (hm 4) (hm 5) 1 aSm aLn aAt aWe aRm aBm aHa aS aSv aCm aRd aBy))) hx hb hml hown hg hK hP hD hS hA hl.1 (k_X8_byteAt l D cI cS cL Z (hm 0) (hm 1) (hm 2) (hm 3) (hm 4) (hm 5) a1 aTh aSm aLn aAt aWe aRm aBm aHa aS aSv aCm aRd aBy e8) gm_X8_byteAt gw_1168 ⟨rfl, rfl, by decide, by decide⟩ ⟨by show 100 + k + 1 ≤ 601024; omega, by show 6000 + 6 * k + 6 ≤ 7293033; omega⟩ pm_l2 pm_l2 fst_X8 rfl rfl rfl rfl rfl (Nat.le_of_ble_eq_true rfl) dL_law_1114 (fun H locs hP hD hS => ?_)
    refine lv_istore (lv' := [(6, .int r), (5, .int 1), (4, .int (nI (3 * k))), (0, .ref b), (1, .ref (hh 0)), (2, .ref (hm 0)), (3, .ref ho)]) hx hb dL_law_1117 hl (by decide) rfl (fun ls hl => ?_)
    refine lv_aload_n hx hb dL_law_1119 rfl (lv_at hl 5 rfl) ?_
    refine cP_i (As := []) (rest := []) (wc := (wX8 cI (hm 0) (hm 1) (hm 2) (hm 3) (hm 4) (hm 5) 1 aSm aLn aAt aWe aRm aBm aHa aS aSv aCm aRd aBy)) (wc' := (wX8 cI (hm 0) (hm 1) (hm 2) (hm 3) (hm 4) (hm 5) 1 aSm aLn aAt aWe aRm aBm aHa aS aSv aCm aRd aBy)) (ws' := ((ho, .inl (cL, 1, .inr (.inl oF))) :: (wX7 cI cS hh vCar vGoa vEag tN tF cN cF mP mS kCap kGap kCar kCop kGro kShr bN bF rCmd rLet rNum fCap fGap fCar fCop fGro fShr hX hC hR ++ wX8 cI (hm 0) (hm 1) (hm 2) (hm 3) (hm 4) (hm 5) 1 aSm aLn aAt aWe aRm aBm aHa aS aSv aCm aRd aBy))) hx hb hml hown hg hK hP hD hS hA hl.1 (k_X8_thrown l D cI cS cL Z (hm 0) (hm 1) (hm 2) (hm 3) (hm 4) (hm 5) 1 aSm aLn aAt aWe aRm aBm aHa aS aSv aCm aRd aBy (r := 1) rfl) gm_X8_thrown gw_980 ⟨rfl, rfl, by decide, by decide⟩ ⟨by show 100 + k + 1 ≤ 601024; omega, by show 6000 + 6 * k + 6 ≤ 7293033; omega⟩ pm_l2 pm_l2 rfl rfl rfl rfl rfl rfl (Nat.le_of_ble_eq_true rfl) dL_law_1120 (fun H locs hP hD hS => ?_)
    refine lv_iload hx hb dL_law_1123 (lv_at hl 1 rfl) ?_
    refine lv_icmp_eq (tgt := 1130) hx hb dL_law_1125 (by decide) (fun _ => ?_) (fun q => absurd rfl q)
    refine lv_iload hx hb dL_law_1130 (lv_at hl 1 rfl) ?_
    refine lv_if_ne (tgt := 1147) hx hb dL_law_1132 (by decide) (fun _ => ?_) (fun q => absurd q (by decide))
    refine lv_goto (tgt := 1867) hx hb dL_law_1147 (by decide) ?_
    refine lv_iinc (v := nI (3 * (k + 1))) (lv' := [(4, .int (nI (3 * (k + 1)))), (6, .int r), (5, .int 1), (0, .ref b), (1, .ref (hh 0)), (2, .ref (hm 0)), (3, .ref ho)]) hx hb dL_law_1867 hl (k := 2) rfl (it_3 k) (by decide) rfl (fun ls hl => ?_)
    refine lv_goto (tgt := 23) hx hb dL_law_1870 (by decide) ?_
    refine W.widen (k := 100 + (k + 1)) (n := 6000 + 6 * (k + 1)) (by omega) (by omega) ?_
    exact IH vCar vGoa vEag tN tF cN cF mP mS kCap kGap kCar kCop kGro kShr bN bF rCmd rLet rNum fCap fGap fCar fCop fGro fShr hX hC hR 1 aSm aLn aAt aWe aRm aBm aHa aS aSv aCm aRd aBy oF hRel H locs hP hD hS ls (lv_sub hl [0, 3, 4, 5, 6] rfl)
set_option maxRecDepth 100000 in
set_option maxHeartbeats 4000000 in
theorem law_c20 {p : Program} {e : Env} {s : State} {m : MethodId} {below : List Frame} {meth : Method} {c : Code} {l : Launch} (hlt : l.stackTraces = false) {D : va_G} {cI cS cL : ClassId} {b L : Nat} {xs : Nat → Int32} (C0 : lw_At p s m meth c b L xs) (hg : ∀ w ∈ GW, w.before #[Value.ref b] s = true) (hK : kk_ D cI cS cL s) (hZ : zz_ (fun q : Nat => s.heap.size ≤ q) s s.heap) (Z : Nat) (Rel : Int32 → Int32 → Int32 → Int32 → (Nat → Int32) → Int32 → (Nat → Int32) → (Nat → Int32) → (Nat → Int32) → Int32 → Int32 → Int32 → Int32 → Int32 → Int32 → Int32 → (Nat → Int32) → Int32 → Int32 → Int32 → Int32 → Int32 → Int32 → Int32 → Int32 → Int32 → Int32 → Int32 → (Nat → StT) → Int32 → Int32 → Int32 → Int32 → Int32 → Int32 → Int32 → Int64 → (Nat → Int32) → (Nat → Int32) → (Nat → Int32) → (Nat → Int32) → (Nat → Int32) → Prop) (pb : PB_lines Z Rel) (hh hm : Nat → Nat) (ho k : Nat) (hk : 3 * k + 2 < L) (hL : L ≤ 1536) (vCar : Int32) (vGoa : Int32) (vEag : Int32) (tN : Int32) (tF : Nat → Int32) (cN : Int32) (cF : Nat → Int32) (mP : Nat → Int32) (mS : Nat → Int32) (kCap : Int32) (kGap : Int32) (kCar : Int32) (kCop : Int32) (kGro : Int32) (kShr : Int32) (bN : Int32) (bF : Nat → Int32) (rCmd : Int32) (rLet : Int32) (rNum : Int32) (fCap : Int32) (fGap : Int32) (fCar : Int32) (fCop : Int32) (fGro : Int32) (fShr : Int32) (hX : Int32) (hC : Int32) (hR : Nat → StT) (aTh : Int32) (aSm : Int32) (aLn : Int32) (aAt : Int32) (aWe : Int32) (aRm : Int32) (aBm : Int32) (aHa : Int64) (aS : Nat → Int32) (aSv : Nat → Int32) (aCm : Nat → Int32) (aRd : Nat → Int32) (aBy : Nat → Int32) (oF : Nat → Int64) (hRel : Rel vCar vGoa vEag tN tF cN cF mP mS kCap kGap kCar kCop kGro kShr bN bF rCmd rLet rNum fCap fGap fCar fCop fGro fShr hX hC hR aTh aSm aLn aAt aWe aRm aBm aHa aS aSv aCm aRd aBy) (H : Heap) (locs : List Loc) (hP : va_P D vwCl (wLW cI cS cL hh hm ho vCar vGoa vEag tN tF cN cF mP mS kCap kGap kCar kCop kGro kShr bN bF rCmd rLet rNum fCap fGap fCar fCop fGro fShr hX hC hR aTh aSm aLn aAt aWe aRm aBm aHa aS aSv aCm aRd aBy oF) H) (hD : va_D (fun q : Nat => s.heap.size ≤ q) (wLW cI cS cL hh hm ho vCar vGoa vEag tN tF cN cF mP mS kCap kGap kCar kCop kGro kShr bN bF rCmd rLet rNum fCap fGap fCar fCop fGro fShr hX hC hR aTh aSm aLn aAt aWe aRm aBm aHa aS aSv aCm aRd aBy oF)) (hS : va_S (fun q : Nat => s.heap.size ≤ q) s.heap H locs) (ls : Array Slot) (hl : lv_has ls 7 [(4, .int (nI (3 * k))), (0, .ref b), (1, .ref (hh 0)), (2, .ref (hm 0)), (3, .ref ho)]) (IH : LH p l e s m b below meth c D cI cS cL hh hm ho (k + 1) Rel) : W p l e room_1 s m #[Value.ref b] below meth c H locs (100 + k) (6000 + 6 * k) (lw_Z below #[Value.ref b] s) (F0 m 1150 ls []) := by
  obtain ⟨hx, hb, hr, hml, hown, hts, hXs, hbl, hlocks, hgv⟩ := C0
  have hown : s.vm.findClass RL = some m.cls := hown
  have hA : ∀ q : Nat, s.heap.size ≤ q → (fun q : Nat => s.heap.size ≤ q) q := fun _ h => h
  have hbA : ¬ (fun q : Nat => s.heap.size ≤ q) b := Nat.not_le.mpr hbl
  obtain ⟨a1, ea1⟩ : ∃ y, y = xs (nI (3 * k + 1)).toNatClampNeg := ⟨_, rfl⟩
  obtain ⟨a2, ea2⟩ : ∃ y, y = xs (nI (3 * k + 2)).toNatClampNeg := ⟨_, rfl⟩
  obtain ⟨r, aTh', e7, e8, hRel⟩ := pb  vCar vGoa vEag tN tF cN cF mP mS kCap kGap kCar kCop kGro kShr bN bF rCmd rLet rNum fCap fGap fCar fCop fGro fShr hX hC hR aTh aSm aLn aAt aWe aRm aBm aHa aS aSv aCm aRd aBy hRel
  refine lv_aload_n hx hb dL_law_1150 rfl (lv_at hl 2 rfl) ?_
  refine cP_i (As := []) (rest := []) (wc := (wX7 cI cS hh vCar vGoa vEag tN tF cN cF mP mS kCap kGap kCar kCop kGro kShr bN bF rCmd rLet rNum fCap fGap fCar fCop fGro fShr hX hC hR)) (wc' := (wX7 cI cS hh vCar vGoa vEag tN tF cN cF mP mS kCap kGap kCar kCop kGro kShr bN bF rCmd rLet rNum fCap fGap fCar fCop fGro fShr hX hC hR)) (ws' := ((ho, .inl (cL, 1, .inr (.inl oF))) :: (wX7 cI cS hh vCar vGoa vEag tN tF cN cF mP mS kCap kGap kCar kCop kGro kShr bN bF rCmd rLet rNum fCap fGap fCar fCop fGro fShr hX hC hR ++ wX8 cI (hm 0) (hm 1) (hm 2) (hm 3) (hm 4) (hm 5) aTh aSm aLn aAt aWe aRm aBm aHa aS aSv aCm aRd aBy))) hx hb hml hown hg hK hP hD hS hA hl.1 (k_X7_lines l D cI cS cL Z hh vCar vGoa vEag tN tF cN cF mP mS kCap kGap kCar kCop kGro kShr bN bF rCmd rLet rNum fCap fGap fCar fCop fGro fShr hX hC hR e7) gm_X7_lines gw_366 ⟨rfl, rfl, by decide, by decide⟩ ⟨by show 100 + k ≤ 601024; omega, by show 6000 + 6 * k ≤ 7293033; omega⟩ pm_l1 pm_l1 fst_X7 rfl rfl rfl rfl rfl (Nat.le_of_ble_eq_true rfl) dL_law_1151 (fun H locs hP hD hS => ?_)
  refine lv_aload_n hx hb dL_law_1154 rfl (lv_at hl 3 rfl) ?_
  refine cP_i (As := []) (rest := [.int r]) (wc := (wX8 cI (hm 0) (hm 1) (hm 2) (hm 3) (hm 4) (hm 5) aTh aSm aLn aAt aWe aRm aBm aHa aS aSv aCm aRd aBy)) (wc' := (wX8 cI (hm 0) (hm 1) (hm 2) (hm 3) (hm 4) (hm 5) aTh' aSm aLn aAt aWe aRm aBm aHa aS aSv aCm aRd aBy)) (ws' := ((ho, .inl (cL, 1, .inr (.inl oF))) :: (wX7 cI cS hh vCar vGoa vEag tN tF cN cF mP mS kCap kGap kCar kCop kGro kShr bN bF rCmd rLet rNum fCap fGap fCar fCop fGro fShr hX hC hR ++ wX8 cI (hm 0) (hm 1) (hm 2) (hm 3) (hm 4) (hm 5) aTh' aSm aLn aAt aWe aRm aBm aHa aS aSv aCm aRd aBy))) hx hb hml hown hg hK hP hD hS hA hl.1 (k_X8_lines l D cI cS cL Z (hm 0) (hm 1) (hm 2) (hm 3) (hm 4) (hm 5) aTh aSm aLn aAt aWe aRm aBm aHa aS aSv aCm aRd aBy e8) gm_X8_lines gw_1172 ⟨rfl, rfl, by decide, by decide⟩ ⟨by show 100 + k ≤ 601024; omega, by show 6000 + 6 * k ≤ 7293033; omega⟩ pm_l2 pm_l2 fst_X8 rfl rfl rfl rfl rfl (Nat.le_of_ble_eq_true rfl) dL_law_1155 (fun H locs hP hD hS => ?_)
  refine lv_icmp_eq (tgt := 1867) hx hb dL_law_1158 (by decide) (fun _ => ?_) (fun q => absurd rfl q)
  refine lv_iinc (v := nI (3 * (k + 1))) (lv' := [(4, .int (nI (3 * (k + 1)))), (0, .ref b), (1, .ref (hh 0)), (2, .ref (hm 0)), (3, .ref ho)]) hx hb dL_law_1867 hl (k := 0) rfl (it_3 k) (by decide) rfl (fun ls hl => ?_)
  refine lv_goto (tgt := 23) hx hb dL_law_1870 (by decide) ?_
  refine W.widen (k := 100 + (k + 1)) (n := 6000 + 6 * (k + 1)) (by omega) (by omega) ?_
  exact IH vCar vGoa vEag tN tF cN cF mP mS kCap kGap kCar kCop kGro kShr bN bF rCmd rLet rNum fCap fGap fCar fCop fGro fShr hX hC hR (aTh') aSm aLn aAt aWe aRm aBm aHa aS aSv aCm aRd aBy oF hRel H locs hP hD hS ls (lv_sub hl [0, 1, 2, 3, 4] rfl)
