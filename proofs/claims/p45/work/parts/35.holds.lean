abbrev rm_L_holds : Room := { frames := 4, cells := 0, slots := 0, locals := 84 }
def f_L_holds_b233 (Z : Nat) (vCar : Int32) (tN : Int32) (tF : Nat → Int32) (mP : Nat → Int32) (kCap : Int32) (kGap : Int32) (rec : Int32 → Int32 → Int32 → Option (Int32)) (x1 : Int32) (x6 : Int32) (x7 : Int32) : Option (Int32) :=
      if x1 ≤ x7 then
        (f_X7_lines Z tN tF).bind fun r2 =>
        if r2 = (x6 + 1) then
          (nx (f_X7_lineOf Z x1 tN tF)).bind fun r4 =>
          if r4 = x6 then
            some 1
          else
            some 0
        else
          some 0
      else
        (nx (f_X7_byteAt Z x7 tN tF)).bind fun r6 =>
        if r6 = 10 then
          kl (x6 + 1) fun x6_10 =>
          kl (x7 + 1) fun x7_11 =>
          rec x1 x6_10 x7_11
        else
          kl (x6 + 0) fun x6_8 =>
          kl (x7 + 1) fun x7_9 =>
          rec x1 x6_8 x7_9
def f_L_holds_l233 (Z : Nat) (vCar : Int32) (tN : Int32) (tF : Nat → Int32) (mP : Nat → Int32) (kCap : Int32) (kGap : Int32) : Nat → Int32 → Int32 → Int32 → Option (Int32)
  | 0, _, _, _ => none
  | n + 1, x1, x6, x7 => f_L_holds_b233 Z vCar tN tF mP kCap kGap (f_L_holds_l233 Z vCar tN tF mP kCap kGap n) x1 x6 x7
def f_L_holds_b193 (Z : Nat) (vCar : Int32) (tN : Int32) (tF : Nat → Int32) (mP : Nat → Int32) (kCap : Int32) (kGap : Int32) (rec : Int32 → Int32 → Option (Int32)) (x1 : Int32) (x6 : Int32) : Option (Int32) :=
      if 4 ≤ x6 then
        f_L_holds_l233 Z vCar tN tF mP kCap kGap Z x1 0 0
      else
        (nx (f_X7_mark Z x6 mP)).bind fun r13 =>
        if r13 < (-1) then
          some 0
        else
          (nx (f_X7_mark Z x6 mP)).bind fun r15 =>
          if r15 ≤ x1 then
            kl (x6 + 1) fun x6_17 =>
            rec x1 x6_17
          else
            some 0
def f_L_holds_l193 (Z : Nat) (vCar : Int32) (tN : Int32) (tF : Nat → Int32) (mP : Nat → Int32) (kCap : Int32) (kGap : Int32) : Nat → Int32 → Int32 → Option (Int32)
  | 0, _, _ => none
  | n + 1, x1, x6 => f_L_holds_b193 Z vCar tN tF mP kCap kGap (f_L_holds_l193 Z vCar tN tF mP kCap kGap n) x1 x6
def f_L_holds_b126 (Z : Nat) (vCar : Int32) (tN : Int32) (tF : Nat → Int32) (mP : Nat → Int32) (kCap : Int32) (kGap : Int32) (rec : Int32 → Int32 → Int32 → Int32 → Int32 → Option (Int32)) (x1 : Int32) (x2 : Int32) (x3 : Int32) (x4 : Int32) (x6 : Int32) : Option (Int32) :=
      if x2 ≤ x6 then
        f_L_holds_l193 Z vCar tN tF mP kCap kGap Z x1 0
      else
        if x3 ≤ x6 then
          if (x3 + x4) ≤ x6 then
            (nx (f_X7_byteAt Z (x6 - x4) tN tF)).bind fun r21 =>
            (nx (f_X7_cell Z x6 tN tF kCap kGap)).bind fun r22 =>
            if r22 = r21 then
              kl (x6 + 1) fun x6_24 =>
              rec x1 x2 x3 x4 x6_24
            else
              some 0
          else
            (nx (f_X7_cell Z x6 tN tF kCap kGap)).bind fun r25 =>
            if r25 = (-1) then
              kl (x6 + 1) fun x6_27 =>
              rec x1 x2 x3 x4 x6_27
            else
              some 0
        else
          (nx (f_X7_byteAt Z x6 tN tF)).bind fun r28 =>
          (nx (f_X7_cell Z x6 tN tF kCap kGap)).bind fun r29 =>
          if r29 = r28 then
            kl (x6 + 1) fun x6_31 =>
            rec x1 x2 x3 x4 x6_31
          else
            some 0
def f_L_holds_l126 (Z : Nat) (vCar : Int32) (tN : Int32) (tF : Nat → Int32) (mP : Nat → Int32) (kCap : Int32) (kGap : Int32) : Nat → Int32 → Int32 → Int32 → Int32 → Int32 → Option (Int32)
  | 0, _, _, _, _, _ => none
  | n + 1, x1, x2, x3, x4, x6 => f_L_holds_b126 Z vCar tN tF mP kCap kGap (f_L_holds_l126 Z vCar tN tF mP kCap kGap n) x1 x2 x3 x4 x6
def f_L_holds_c89 (Z : Nat) (vCar : Int32) (tN : Int32) (tF : Nat → Int32) (mP : Nat → Int32) (kCap : Int32) (kGap : Int32) (x1 : Int32) (x2 : Int32) (x3 : Int32) (x4 : Int32) : Option (Int32) :=
    if x4 = (x2 - x1) then
      if x3 < 0 then
        some 0
      else
        if x1 < x3 then
          some 0
        else
          (f_X7_caret Z vCar).bind fun r35 =>
          if r35 < 0 then
            some 0
          else
            (f_X7_caret Z vCar).bind fun r37 =>
            if r37 ≤ x1 then
              f_L_holds_l126 Z vCar tN tF mP kCap kGap Z x1 x2 x3 x4 0
            else
              some 0
    else
      some 0
def f_L_holds_c64 (Z : Nat) (vCar : Int32) (tN : Int32) (tF : Nat → Int32) (mP : Nat → Int32) (kCap : Int32) (kGap : Int32) (x1 : Int32) (x2 : Int32) (x3 : Int32) (x4 : Int32) (y0 : Int32) : Option (Int32) :=
    if y0 = 0 then
      some 0
    else
      if x2 < x1 then
        some 0
      else
        if x2 ≤ 8 then
          f_L_holds_c89 Z vCar tN tF mP kCap kGap x1 x2 x3 x4
        else
          if (4 * x1) ≤ x2 then
            some 0
          else
            f_L_holds_c89 Z vCar tN tF mP kCap kGap x1 x2 x3 x4
def f_L_holds_c59 (Z : Nat) (vCar : Int32) (tN : Int32) (tF : Nat → Int32) (mP : Nat → Int32) (kCap : Int32) (kGap : Int32) (x1 : Int32) (x2 : Int32) (x3 : Int32) (x4 : Int32) : Option (Int32) :=
    f_L_holds_c64 Z vCar tN tF mP kCap kGap x1 x2 x3 x4 1
def f_L_holds (Z : Nat) (vCar : Int32) (tN : Int32) (tF : Nat → Int32) (mP : Nat → Int32) (kCap : Int32) (kGap : Int32) : Option (Int32) :=
  (f_X7_length Z tN).bind fun r43 =>
  (f_X7_capacity Z kCap).bind fun r44 =>
  (f_X7_gapStart Z kGap).bind fun r45 =>
  (f_X7_room Z tN kCap).bind fun r46 =>
  if r44 = 8 then
    f_L_holds_c59 Z vCar tN tF mP kCap kGap r43 r44 r45 r46
  else
    if r44 = 16 then
      f_L_holds_c59 Z vCar tN tF mP kCap kGap r43 r44 r45 r46
    else
      if r44 = 32 then
        f_L_holds_c59 Z vCar tN tF mP kCap kGap r43 r44 r45 r46
      else
        if r44 = 64 then
          f_L_holds_c59 Z vCar tN tF mP kCap kGap r43 r44 r45 r46
        else
          if r44 = 128 then
            f_L_holds_c59 Z vCar tN tF mP kCap kGap r43 r44 r45 r46
          else
            if r44 = 256 then
              f_L_holds_c59 Z vCar tN tF mP kCap kGap r43 r44 r45 r46
            else
              f_L_holds_c64 Z vCar tN tF mP kCap kGap r43 r44 r45 r46 0
set_option maxRecDepth 100000 in
set_option maxHeartbeats 4000000 in
theorem k_L_holds (l : Launch) (D : va_G) (cI cS cL : ClassId) (Z : Nat) (hh : Nat → Nat) (vCar : Int32) (vGoa : Int32) (vEag : Int32) (tN : Int32) (tF : Nat → Int32) (cN : Int32) (cF : Nat → Int32) (mP : Nat → Int32) (mS : Nat → Int32) (kCap : Int32) (kGap : Int32) (kCar : Int32) (kCop : Int32) (kGro : Int32) (kShr : Int32) (bN : Int32) (bF : Nat → Int32) (rCmd : Int32) (rLet : Int32) (rNum : Int32) (fCap : Int32) (fGap : Int32) (fCar : Int32) (fCop : Int32) (fGro : Int32) (fShr : Int32) (hX : Int32) (hC : Int32) (hR : Nat → StT) {r : Int32} (h : f_L_holds Z vCar tN tF mP kCap kGap = some r) : CI l yL_holds cL_holds 8 (some .boolean) rm_L_holds D cI cS cL [.ref (hh 0)] (wX7 cI cS hh vCar vGoa vEag tN tF cN cF mP mS kCap kGap kCar kCop kGro kShr bN bF rCmd rLet rNum fCap fGap fCar fCop fGro fShr hX hC hR) (wX7 cI cS hh vCar vGoa vEag tN tF cN cF mP mS kCap kGap kCar kCop kGro kShr bN bF rCmd rLet rNum fCap fGap fCar fCop fGro fShr hX hC hR) r := by
  refine ent_i (by decide +kernel) (Nat.le_of_ble_eq_true rfl) ?_
  intro p e s m args below meth c A ls hx hb hr hml hlocks hg hown hK hP hD hS hA hl
  have hown : s.vm.findClass RL = some m.cls := hown
  have c_233 : ∀ (n : Nat) (x1 : Int32) (x6 : Int32) (x7 : Int32), f_L_holds_l233 Z vCar tN tF mP kCap kGap n x1 x6 x7 = some r → ∀ (H : Heap) (locs : List Loc), va_P D vwCl (wX7 cI cS hh vCar vGoa vEag tN tF cN cF mP mS kCap kGap kCar kCop kGro kShr bN bF rCmd rLet rNum fCap fGap fCar fCop fGro fShr hX hC hR) H → va_D A (wX7 cI cS hh vCar vGoa vEag tN tF cN cF mP mS kCap kGap kCar kCop kGro kShr bN bF rCmd rLet rNum fCap fGap fCar fCop fGro fShr hX hC hR) → va_S A s.heap H locs → ∀ ls : Array Slot, lv_has ls 8 [(0, .ref (hh 0)), (1, .int x1), (6, .int x6), (7, .int x7)] → W p l e rm_L_holds s m args below meth c H locs 0 0 (FI D below args s (wX7 cI cS hh vCar vGoa vEag tN tF cN cF mP mS kCap kGap kCar kCop kGro kShr bN bF rCmd rLet rNum fCap fGap fCar fCop fGro fShr hX hC hR) r A) (F0 m 233 ls []) := by
    intro n
    induction n with
    | zero => intro x1 x6 x7 h; exact no_some h
    | succ n ih =>
      intro x1 x6 x7 h H locs hP hD hS ls hl
      have h : f_L_holds_b233 Z vCar tN tF mP kCap kGap (f_L_holds_l233 Z vCar tN tF mP kCap kGap n) x1 x6 x7 = some r := h
      unfold f_L_holds_b233 at h
      refine lv_iload hx hb dL_holds_233 (lv_at hl 3 rfl) ?_
      refine lv_iload_n hx hb dL_holds_235 rfl (lv_at hl 1 rfl) ?_
      refine lv_icmp_ge (tgt := 266) hx hb dL_holds_236 (by decide) (fun q1 => ?_) (fun q1 => ?_)
      · replace h := it_some q1 h
        refine lv_aload_n hx hb dL_holds_266 rfl (lv_at hl 0 rfl) ?_
        obtain ⟨r2, ec2, h⟩ := bd_some h
        refine cP_i (As := []) (rest := []) (wc := (wX7 cI cS hh vCar vGoa vEag tN tF cN cF mP mS kCap kGap kCar kCop kGro kShr bN bF rCmd rLet rNum fCap fGap fCar fCop fGro fShr hX hC hR)) (wc' := (wX7 cI cS hh vCar vGoa vEag tN tF cN cF mP mS kCap kGap kCar kCop kGro kShr bN bF rCmd rLet rNum fCap fGap fCar fCop fGro fShr hX hC hR)) (ws' := (wX7 cI cS hh vCar vGoa vEag tN tF cN cF mP mS kCap kGap kCar kCop kGro kShr bN bF rCmd rLet rNum fCap fGap fCar fCop fGro fShr hX hC hR)) hx hb hml hown hg hK hP hD hS hA hl.1 (k_X7_lines l D cI cS cL Z hh vCar vGoa vEag tN tF cN cF mP mS kCap kGap kCar kCop kGro kShr bN bF rCmd rLet rNum fCap fGap fCar fCop fGro fShr hX hC hR ec2) gm_X7_lines gw_633 ⟨rfl, rfl, by decide, by decide⟩ ⟨Nat.zero_le _, Nat.zero_le _⟩ pm_all pm_all fst_X7 rfl rfl rfl rfl rfl (Nat.le_of_ble_eq_true rfl) dL_holds_267 (fun H locs hP hD hS => ?_)
        refine lv_iload hx hb dL_holds_270 (lv_at hl 2 rfl) ?_
        refine lv_iconst (v := 1) hx hb dL_holds_272 (by decide) ?_
        refine lv_iadd hx hb dL_holds_273 ?_
        refine lv_icmp_ne (tgt := 291) hx hb dL_holds_274 (by decide) (fun q3 => ?_) (fun q3 => ?_)
        · replace h := if_some q3 h
          refine lv_iconst (v := 0) hx hb dL_holds_291 (by decide) ?_
          cases h
          exact ret_z hx hb hr hlocks hP hD hS dL_holds_292 (Or.inl rfl) rfl
        · replace h := it_some q3 h
          refine lv_aload_n hx hb dL_holds_277 rfl (lv_at hl 0 rfl) ?_
          refine lv_iload_n hx hb dL_holds_278 rfl (lv_at hl 1 rfl) ?_
          obtain ⟨r4, ec4, h⟩ := bd_some h
          refine cP_i (As := [.int x1]) (rest := []) (wc := (wX7 cI cS hh vCar vGoa vEag tN tF cN cF mP mS kCap kGap kCar kCop kGro kShr bN bF rCmd rLet rNum fCap fGap fCar fCop fGro fShr hX hC hR)) (wc' := (wX7 cI cS hh vCar vGoa vEag tN tF cN cF mP mS kCap kGap kCar kCop kGro kShr bN bF rCmd rLet rNum fCap fGap fCar fCop fGro fShr hX hC hR)) (ws' := (wX7 cI cS hh vCar vGoa vEag tN tF cN cF mP mS kCap kGap kCar kCop kGro kShr bN bF rCmd rLet rNum fCap fGap fCar fCop fGro fShr hX hC hR)) hx hb hml hown hg hK hP hD hS hA hl.1 (k_X7_lineOf l D cI cS cL Z hh x1 vCar vGoa vEag tN tF cN cF mP mS kCap kGap kCar kCop kGro kShr bN bF rCmd rLet rNum fCap fGap fCar fCop fGro fShr hX hC hR (nx_some ec4)) gm_X7_lineOf gw_638 ⟨rfl, rfl, by decide, by decide⟩ ⟨Nat.zero_le _, Nat.zero_le _⟩ pm_all pm_all fst_X7 rfl rfl rfl rfl rfl (Nat.le_of_ble_eq_true rfl) dL_holds_279 (fun H locs hP hD hS => ?_)
          refine lv_iload hx hb dL_holds_282 (lv_at hl 2 rfl) ?_
          refine lv_icmp_ne (tgt := 291) hx hb dL_holds_284 (by decide) (fun q5 => ?_) (fun q5 => ?_)
          · replace h := if_some q5 h
            refine lv_iconst (v := 0) hx hb dL_holds_291 (by decide) ?_
            cases h
            exact ret_z hx hb hr hlocks hP hD hS dL_holds_292 (Or.inl rfl) rfl
          · replace h := it_some q5 h
            refine lv_iconst (v := 1) hx hb dL_holds_287 (by decide) ?_
            refine lv_goto (tgt := 292) hx hb dL_holds_288 (by decide) ?_
            cases h
            exact ret_z hx hb hr hlocks hP hD hS dL_holds_292 (Or.inr rfl) rfl
      · replace h := if_some q1 h
        refine lv_iload hx hb dL_holds_239 (lv_at hl 2 rfl) ?_
        refine lv_aload_n hx hb dL_holds_241 rfl (lv_at hl 0 rfl) ?_
        refine lv_iload hx hb dL_holds_242 (lv_at hl 3 rfl) ?_
        obtain ⟨r6, ec6, h⟩ := bd_some h
        refine cP_i (As := [.int x7]) (rest := [.int x6]) (wc := (wX7 cI cS hh vCar vGoa vEag tN tF cN cF mP mS kCap kGap kCar kCop kGro kShr bN bF rCmd rLet rNum fCap fGap fCar fCop fGro fShr hX hC hR)) (wc' := (wX7 cI cS hh vCar vGoa vEag tN tF cN cF mP mS kCap kGap kCar kCop kGro kShr bN bF rCmd rLet rNum fCap fGap fCar fCop fGro fShr hX hC hR)) (ws' := (wX7 cI cS hh vCar vGoa vEag tN tF cN cF mP mS kCap kGap kCar kCop kGro kShr bN bF rCmd rLet rNum fCap fGap fCar fCop fGro fShr hX hC hR)) hx hb hml hown hg hK hP hD hS hA hl.1 (k_X7_byteAt l D cI cS cL Z hh x7 vCar vGoa vEag tN tF cN cF mP mS kCap kGap kCar kCop kGro kShr bN bF rCmd rLet rNum fCap fGap fCar fCop fGro fShr hX hC hR (nx_some ec6)) gm_X7_byteAt gw_621 ⟨rfl, rfl, by decide, by decide⟩ ⟨Nat.zero_le _, Nat.zero_le _⟩ pm_all pm_all fst_X7 rfl rfl rfl rfl rfl (Nat.le_of_ble_eq_true rfl) dL_holds_244 (fun H locs hP hD hS => ?_)
        refine lv_bipush (v := 10) hx hb dL_holds_247 (by decide) ?_
        refine lv_icmp_ne (tgt := 256) hx hb dL_holds_249 (by decide) (fun q7 => ?_) (fun q7 => ?_)
        · replace h := if_some q7 h
          refine lv_iconst (v := 0) hx hb dL_holds_256 (by decide) ?_
          refine lv_iadd hx hb dL_holds_257 ?_
          obtain ⟨x6_8, ex6_8, h⟩ := kl_some h
          refine nm_i ex6_8 ?_
          refine lv_istore (lv' := [(6, .int x6_8), (0, .ref (hh 0)), (1, .int x1), (7, .int x7)]) hx hb dL_holds_258 hl (by decide) rfl (fun ls hl => ?_)
          obtain ⟨x7_9, ex7_9, h⟩ := kl_some h
          refine lv_iinc (v := x7_9) (lv' := [(7, .int x7_9), (6, .int x6_8), (0, .ref (hh 0)), (1, .int x1)]) hx hb dL_holds_260 hl (k := 3) rfl (by rw [ex7_9]; rfl) (by decide) rfl (fun ls hl => ?_)
          refine lv_goto (tgt := 233) hx hb dL_holds_263 (by decide) ?_
          exact ih x1 x6_8 x7_9 h H locs hP hD hS ls (lv_sub hl [2, 3, 1, 0] rfl)
        · replace h := it_some q7 h
          refine lv_iconst (v := 1) hx hb dL_holds_252 (by decide) ?_
          refine lv_goto (tgt := 257) hx hb dL_holds_253 (by decide) ?_
          refine lv_iadd hx hb dL_holds_257 ?_
          obtain ⟨x6_10, ex6_10, h⟩ := kl_some h
          refine nm_i ex6_10 ?_
          refine lv_istore (lv' := [(6, .int x6_10), (0, .ref (hh 0)), (1, .int x1), (7, .int x7)]) hx hb dL_holds_258 hl (by decide) rfl (fun ls hl => ?_)
          obtain ⟨x7_11, ex7_11, h⟩ := kl_some h
          refine lv_iinc (v := x7_11) (lv' := [(7, .int x7_11), (6, .int x6_10), (0, .ref (hh 0)), (1, .int x1)]) hx hb dL_holds_260 hl (k := 3) rfl (by rw [ex7_11]; rfl) (by decide) rfl (fun ls hl => ?_)
          refine lv_goto (tgt := 233) hx hb dL_holds_263 (by decide) ?_
          exact ih x1 x6_10 x7_11 h H locs hP hD hS ls (lv_sub hl [2, 3, 1, 0] rfl)
  have c_193 : ∀ (n : Nat) (x1 : Int32) (x6 : Int32), f_L_holds_l193 Z vCar tN tF mP kCap kGap n x1 x6 = some r → ∀ (H : Heap) (locs : List Loc), va_P D vwCl (wX7 cI cS hh vCar vGoa vEag tN tF cN cF mP mS kCap kGap kCar kCop kGro kShr bN bF rCmd rLet rNum fCap fGap fCar fCop fGro fShr hX hC hR) H → va_D A (wX7 cI cS hh vCar vGoa vEag tN tF cN cF mP mS kCap kGap kCar kCop kGro kShr bN bF rCmd rLet rNum fCap fGap fCar fCop fGro fShr hX hC hR) → va_S A s.heap H locs → ∀ ls : Array Slot, lv_has ls 8 [(0, .ref (hh 0)), (1, .int x1), (6, .int x6)] → W p l e rm_L_holds s m args below meth c H locs 0 0 (FI D below args s (wX7 cI cS hh vCar vGoa vEag tN tF cN cF mP mS kCap kGap kCar kCop kGro kShr bN bF rCmd rLet rNum fCap fGap fCar fCop fGro fShr hX hC hR) r A) (F0 m 193 ls []) := by
    intro n
    induction n with
    | zero => intro x1 x6 h; exact no_some h
    | succ n ih =>
      intro x1 x6 h H locs hP hD hS ls hl
      have h : f_L_holds_b193 Z vCar tN tF mP kCap kGap (f_L_holds_l193 Z vCar tN tF mP kCap kGap n) x1 x6 = some r := h
      unfold f_L_holds_b193 at h
      refine lv_iload hx hb dL_holds_193 (lv_at hl 2 rfl) ?_
      refine lv_iconst (v := 4) hx hb dL_holds_195 (by decide) ?_
      refine lv_icmp_ge (tgt := 227) hx hb dL_holds_196 (by decide) (fun q12 => ?_) (fun q12 => ?_)
      · replace h := it_some q12 h
        refine lv_iconst (v := 0) hx hb dL_holds_227 (by decide) ?_
        refine lv_istore (lv' := [(6, .int 0), (0, .ref (hh 0)), (1, .int x1)]) hx hb dL_holds_228 hl (by decide) rfl (fun ls hl => ?_)
        refine lv_iconst (v := 0) hx hb dL_holds_230 (by decide) ?_
        refine lv_istore (lv' := [(7, .int 0), (6, .int 0), (0, .ref (hh 0)), (1, .int x1)]) hx hb dL_holds_231 hl (by decide) rfl (fun ls hl => ?_)
        exact c_233 Z x1 0 0 h H locs hP hD hS ls (lv_sub hl [2, 3, 1, 0] rfl)
      · replace h := if_some q12 h
        refine lv_aload_n hx hb dL_holds_199 rfl (lv_at hl 0 rfl) ?_
        refine lv_iload hx hb dL_holds_200 (lv_at hl 2 rfl) ?_
        obtain ⟨r13, ec13, h⟩ := bd_some h
        refine cP_i (As := [.int x6]) (rest := []) (wc := (wX7 cI cS hh vCar vGoa vEag tN tF cN cF mP mS kCap kGap kCar kCop kGro kShr bN bF rCmd rLet rNum fCap fGap fCar fCop fGro fShr hX hC hR)) (wc' := (wX7 cI cS hh vCar vGoa vEag tN tF cN cF mP mS kCap kGap kCar kCop kGro kShr bN bF rCmd rLet rNum fCap fGap fCar fCop fGro fShr hX hC hR)) (ws' := (wX7 cI cS hh vCar vGoa vEag tN tF cN cF mP mS kCap kGap kCar kCop kGro kShr bN bF rCmd rLet rNum fCap fGap fCar fCop fGro fShr hX hC hR)) hx hb hml hown hg hK hP hD hS hA hl.1 (k_X7_mark l D cI cS cL Z hh x6 vCar vGoa vEag tN tF cN cF mP mS kCap kGap kCar kCop kGro kShr bN bF rCmd rLet rNum fCap fGap fCar fCop fGro fShr hX hC hR (nx_some ec13)) gm_X7_mark gw_362 ⟨rfl, rfl, by decide, by decide⟩ ⟨Nat.zero_le _, Nat.zero_le _⟩ pm_all pm_all fst_X7 rfl rfl rfl rfl rfl (Nat.le_of_ble_eq_true rfl) dL_holds_202 (fun H locs hP hD hS => ?_)
        refine lv_iconst (v := (-1)) hx hb dL_holds_205 (by decide) ?_
        refine lv_icmp_lt (tgt := 219) hx hb dL_holds_206 (by decide) (fun q14 => ?_) (fun q14 => ?_)
        · replace h := it_some q14 h
          refine lv_iconst (v := 0) hx hb dL_holds_219 (by decide) ?_
          cases h
          exact ret_z hx hb hr hlocks hP hD hS dL_holds_220 (Or.inl rfl) rfl
        · replace h := if_some q14 h
          refine lv_aload_n hx hb dL_holds_209 rfl (lv_at hl 0 rfl) ?_
          refine lv_iload hx hb dL_holds_210 (lv_at hl 2 rfl) ?_
          obtain ⟨r15, ec15, h⟩ := bd_some h
          refine cP_i (As := [.int x6]) (rest := []) (wc := (wX7 cI cS hh vCar vGoa vEag tN tF cN cF mP mS kCap kGap kCar kCop kGro kShr bN bF rCmd rLet rNum fCap fGap fCar fCop fGro fShr hX hC hR)) (wc' := (wX7 cI cS hh vCar vGoa vEag tN tF cN cF mP mS kCap kGap kCar kCop kGro kShr bN bF rCmd rLet rNum fCap fGap fCar fCop fGro fShr hX hC hR)) (ws' := (wX7 cI cS hh vCar vGoa vEag tN tF cN cF mP mS kCap kGap kCar kCop kGro kShr bN bF rCmd rLet rNum fCap fGap fCar fCop fGro fShr hX hC hR)) hx hb hml hown hg hK hP hD hS hA hl.1 (k_X7_mark l D cI cS cL Z hh x6 vCar vGoa vEag tN tF cN cF mP mS kCap kGap kCar kCop kGro kShr bN bF rCmd rLet rNum fCap fGap fCar fCop fGro fShr hX hC hR (nx_some ec15)) gm_X7_mark gw_362 ⟨rfl, rfl, by decide, by decide⟩ ⟨Nat.zero_le _, Nat.zero_le _⟩ pm_all pm_all fst_X7 rfl rfl rfl rfl rfl (Nat.le_of_ble_eq_true rfl) dL_holds_212 (fun H locs hP hD hS => ?_)
          refine lv_iload_n hx hb dL_holds_215 rfl (lv_at hl 1 rfl) ?_
          refine lv_icmp_le (tgt := 221) hx hb dL_holds_216 (by decide) (fun q16 => ?_) (fun q16 => ?_)
          · replace h := it_some q16 h
            obtain ⟨x6_17, ex6_17, h⟩ := kl_some h
            refine lv_iinc (v := x6_17) (lv' := [(6, .int x6_17), (0, .ref (hh 0)), (1, .int x1)]) hx hb dL_holds_221 hl (k := 2) rfl (by rw [ex6_17]; rfl) (by decide) rfl (fun ls hl => ?_)
            refine lv_goto (tgt := 193) hx hb dL_holds_224 (by decide) ?_
            exact ih x1 x6_17 h H locs hP hD hS ls (lv_sub hl [1, 2, 0] rfl)
          · replace h := if_some q16 h
            refine lv_iconst (v := 0) hx hb dL_holds_219 (by decide) ?_
            cases h
            exact ret_z hx hb hr hlocks hP hD hS dL_holds_220 (Or.inl rfl) rfl
  have c_126 : ∀ (n : Nat) (x1 : Int32) (x2 : Int32) (x3 : Int32) (x4 : Int32) (x6 : Int32), f_L_holds_l126 Z vCar tN tF mP kCap kGap n x1 x2 x3 x4 x6 = some r → ∀ (H : Heap) (locs : List Loc), va_P D vwCl (wX7 cI cS hh vCar vGoa vEag tN tF cN cF mP mS kCap kGap kCar kCop kGro kShr bN bF rCmd rLet rNum fCap fGap fCar fCop fGro fShr hX hC hR) H → va_D A (wX7 cI cS hh vCar vGoa vEag tN tF cN cF mP mS kCap kGap kCar kCop kGro kShr bN bF rCmd rLet rNum fCap fGap fCar fCop fGro fShr hX hC hR) → va_S A s.heap H locs → ∀ ls : Array Slot, lv_has ls 8 [(0, .ref (hh 0)), (1, .int x1), (2, .int x2), (3, .int x3), (4, .int x4), (6, .int x6)] → W p l e rm_L_holds s m args below meth c H locs 0 0 (FI D below args s (wX7 cI cS hh vCar vGoa vEag tN tF cN cF mP mS kCap kGap kCar kCop kGro kShr bN bF rCmd rLet rNum fCap fGap fCar fCop fGro fShr hX hC hR) r A) (F0 m 126 ls []) := by
    intro n
    induction n with
    | zero => intro x1 x2 x3 x4 x6 h; exact no_some h
    | succ n ih =>
      intro x1 x2 x3 x4 x6 h H locs hP hD hS ls hl
      have h : f_L_holds_b126 Z vCar tN tF mP kCap kGap (f_L_holds_l126 Z vCar tN tF mP kCap kGap n) x1 x2 x3 x4 x6 = some r := h
      unfold f_L_holds_b126 at h
      refine lv_iload hx hb dL_holds_126 (lv_at hl 5 rfl) ?_
      refine lv_iload_n hx hb dL_holds_128 rfl (lv_at hl 2 rfl) ?_
      refine lv_icmp_ge (tgt := 190) hx hb dL_holds_129 (by decide) (fun q18 => ?_) (fun q18 => ?_)
      · replace h := it_some q18 h
        refine lv_iconst (v := 0) hx hb dL_holds_190 (by decide) ?_
        refine lv_istore (lv' := [(6, .int 0), (0, .ref (hh 0)), (1, .int x1), (2, .int x2), (3, .int x3), (4, .int x4)]) hx hb dL_holds_191 hl (by decide) rfl (fun ls hl => ?_)
        exact c_193 Z x1 0 h H locs hP hD hS ls (lv_sub hl [1, 2, 0] rfl)
      · replace h := if_some q18 h
        refine lv_iload hx hb dL_holds_132 (lv_at hl 5 rfl) ?_
        refine lv_iload_n hx hb dL_holds_134 rfl (lv_at hl 3 rfl) ?_
        refine lv_icmp_ge (tgt := 147) hx hb dL_holds_135 (by decide) (fun q19 => ?_) (fun q19 => ?_)
        · replace h := it_some q19 h
          refine lv_iload hx hb dL_holds_147 (lv_at hl 5 rfl) ?_
          refine lv_iload_n hx hb dL_holds_149 rfl (lv_at hl 3 rfl) ?_
          refine lv_iload hx hb dL_holds_150 (lv_at hl 4 rfl) ?_
          refine lv_iadd hx hb dL_holds_152 ?_
          refine lv_icmp_ge (tgt := 160) hx hb dL_holds_153 (by decide) (fun q20 => ?_) (fun q20 => ?_)
          · replace h := it_some q20 h
            refine lv_aload_n hx hb dL_holds_160 rfl (lv_at hl 0 rfl) ?_
            refine lv_iload hx hb dL_holds_161 (lv_at hl 5 rfl) ?_
            refine lv_iload hx hb dL_holds_163 (lv_at hl 4 rfl) ?_
            refine lv_isub hx hb dL_holds_165 ?_
            obtain ⟨r21, ec21, h⟩ := bd_some h
            refine cP_i (As := [.int (x6 - x4)]) (rest := []) (wc := (wX7 cI cS hh vCar vGoa vEag tN tF cN cF mP mS kCap kGap kCar kCop kGro kShr bN bF rCmd rLet rNum fCap fGap fCar fCop fGro fShr hX hC hR)) (wc' := (wX7 cI cS hh vCar vGoa vEag tN tF cN cF mP mS kCap kGap kCar kCop kGro kShr bN bF rCmd rLet rNum fCap fGap fCar fCop fGro fShr hX hC hR)) (ws' := (wX7 cI cS hh vCar vGoa vEag tN tF cN cF mP mS kCap kGap kCar kCop kGro kShr bN bF rCmd rLet rNum fCap fGap fCar fCop fGro fShr hX hC hR)) hx hb hml hown hg hK hP hD hS hA hl.1 (k_X7_byteAt l D cI cS cL Z hh (x6 - x4) vCar vGoa vEag tN tF cN cF mP mS kCap kGap kCar kCop kGro kShr bN bF rCmd rLet rNum fCap fGap fCar fCop fGro fShr hX hC hR (nx_some ec21)) gm_X7_byteAt gw_621 ⟨rfl, rfl, by decide, by decide⟩ ⟨Nat.zero_le _, Nat.zero_le _⟩ pm_all pm_all fst_X7 rfl rfl rfl rfl rfl (Nat.le_of_ble_eq_true rfl) dL_holds_166 (fun H locs hP hD hS => ?_)
            refine lv_istore (lv' := [(7, .int r21), (0, .ref (hh 0)), (1, .int x1), (2, .int x2), (3, .int x3), (4, .int x4), (6, .int x6)]) hx hb dL_holds_169 hl (by decide) rfl (fun ls hl => ?_)
            refine lv_aload_n hx hb dL_holds_171 rfl (lv_at hl 1 rfl) ?_
            refine lv_iload hx hb dL_holds_172 (lv_at hl 6 rfl) ?_
            obtain ⟨r22, ec22, h⟩ := bd_some h
            refine cP_i (As := [.int x6]) (rest := []) (wc := (wX7 cI cS hh vCar vGoa vEag tN tF cN cF mP mS kCap kGap kCar kCop kGro kShr bN bF rCmd rLet rNum fCap fGap fCar fCop fGro fShr hX hC hR)) (wc' := (wX7 cI cS hh vCar vGoa vEag tN tF cN cF mP mS kCap kGap kCar kCop kGro kShr bN bF rCmd rLet rNum fCap fGap fCar fCop fGro fShr hX hC hR)) (ws' := (wX7 cI cS hh vCar vGoa vEag tN tF cN cF mP mS kCap kGap kCar kCop kGro kShr bN bF rCmd rLet rNum fCap fGap fCar fCop fGro fShr hX hC hR)) hx hb hml hown hg hK hP hD hS hA hl.1 (k_X7_cell l D cI cS cL Z hh x6 vCar vGoa vEag tN tF cN cF mP mS kCap kGap kCar kCop kGro kShr bN bF rCmd rLet rNum fCap fGap fCar fCop fGro fShr hX hC hR (nx_some ec22)) gm_X7_cell gw_625 ⟨rfl, rfl, by decide, by decide⟩ ⟨Nat.zero_le _, Nat.zero_le _⟩ pm_all pm_all fst_X7 rfl rfl rfl rfl rfl (Nat.le_of_ble_eq_true rfl) dL_holds_174 (fun H locs hP hD hS => ?_)
            refine lv_iload hx hb dL_holds_177 (lv_at hl 0 rfl) ?_
            refine lv_icmp_eq (tgt := 184) hx hb dL_holds_179 (by decide) (fun q23 => ?_) (fun q23 => ?_)
            · replace h := it_some q23 h
              obtain ⟨x6_24, ex6_24, h⟩ := kl_some h
              refine lv_iinc (v := x6_24) (lv' := [(6, .int x6_24), (7, .int r21), (0, .ref (hh 0)), (1, .int x1), (2, .int x2), (3, .int x3), (4, .int x4)]) hx hb dL_holds_184 hl (k := 6) rfl (by rw [ex6_24]; rfl) (by decide) rfl (fun ls hl => ?_)
              refine lv_goto (tgt := 126) hx hb dL_holds_187 (by decide) ?_
              exact ih x1 x2 x3 x4 x6_24 h H locs hP hD hS ls (lv_sub hl [2, 3, 4, 5, 6, 0] rfl)
            · replace h := if_some q23 h
              refine lv_iconst (v := 0) hx hb dL_holds_182 (by decide) ?_
              cases h
              exact ret_z hx hb hr hlocks hP hD hS dL_holds_183 (Or.inl rfl) rfl
          · replace h := if_some q20 h
            refine lv_iconst (v := (-1)) hx hb dL_holds_156 (by decide) ?_
            refine lv_goto (tgt := 169) hx hb dL_holds_157 (by decide) ?_
            refine lv_istore (lv' := [(7, .int (-1)), (0, .ref (hh 0)), (1, .int x1), (2, .int x2), (3, .int x3), (4, .int x4), (6, .int x6)]) hx hb dL_holds_169 hl (by decide) rfl (fun ls hl => ?_)
            refine lv_aload_n hx hb dL_holds_171 rfl (lv_at hl 1 rfl) ?_
            refine lv_iload hx hb dL_holds_172 (lv_at hl 6 rfl) ?_
            obtain ⟨r25, ec25, h⟩ := bd_some h
            refine cP_i (As := [.int x6]) (rest := []) (wc := (wX7 cI cS hh vCar vGoa vEag tN tF cN cF mP mS kCap kGap kCar kCop kGro kShr bN bF rCmd rLet rNum fCap fGap fCar fCop fGro fShr hX hC hR)) (wc' := (wX7 cI cS hh vCar vGoa vEag tN tF cN cF mP mS kCap kGap kCar kCop kGro kShr bN bF rCmd rLet rNum fCap fGap fCar fCop fGro fShr hX hC hR)) (ws' := (wX7 cI cS hh vCar vGoa vEag tN tF cN cF mP mS kCap kGap kCar kCop kGro kShr bN bF rCmd rLet rNum fCap fGap fCar fCop fGro fShr hX hC hR)) hx hb hml hown hg hK hP hD hS hA hl.1 (k_X7_cell l D cI cS cL Z hh x6 vCar vGoa vEag tN tF cN cF mP mS kCap kGap kCar kCop kGro kShr bN bF rCmd rLet rNum fCap fGap fCar fCop fGro fShr hX hC hR (nx_some ec25)) gm_X7_cell gw_625 ⟨rfl, rfl, by decide, by decide⟩ ⟨Nat.zero_le _, Nat.zero_le _⟩ pm_all pm_all fst_X7 rfl rfl rfl rfl rfl (Nat.le_of_ble_eq_true rfl) dL_holds_174 (fun H locs hP hD hS => ?_)
            refine lv_iload hx hb dL_holds_177 (lv_at hl 0 rfl) ?_
            refine lv_icmp_eq (tgt := 184) hx hb dL_holds_179 (by decide) (fun q26 => ?_) (fun q26 => ?_)
            · replace h := it_some q26 h
              obtain ⟨x6_27, ex6_27, h⟩ := kl_some h
              refine lv_iinc (v := x6_27) (lv' := [(6, .int x6_27), (7, .int (-1)), (0, .ref (hh 0)), (1, .int x1), (2, .int x2), (3, .int x3), (4, .int x4)]) hx hb dL_holds_184 hl (k := 6) rfl (by rw [ex6_27]; rfl) (by decide) rfl (fun ls hl => ?_)
              refine lv_goto (tgt := 126) hx hb dL_holds_187 (by decide) ?_
              exact ih x1 x2 x3 x4 x6_27 h H locs hP hD hS ls (lv_sub hl [2, 3, 4, 5, 6, 0] rfl)
            · replace h := if_some q26 h
              refine lv_iconst (v := 0) hx hb dL_holds_182 (by decide) ?_
              cases h
              exact ret_z hx hb hr hlocks hP hD hS dL_holds_183 (Or.inl rfl) rfl
        · replace h := if_some q19 h
          refine lv_aload_n hx hb dL_holds_138 rfl (lv_at hl 0 rfl) ?_
          refine lv_iload hx hb dL_holds_139 (lv_at hl 5 rfl) ?_
          obtain ⟨r28, ec28, h⟩ := bd_some h
          refine cP_i (As := [.int x6]) (rest := []) (wc := (wX7 cI cS hh vCar vGoa vEag tN tF cN cF mP mS kCap kGap kCar kCop kGro kShr bN bF rCmd rLet rNum fCap fGap fCar fCop fGro fShr hX hC hR)) (wc' := (wX7 cI cS hh vCar vGoa vEag tN tF cN cF mP mS kCap kGap kCar kCop kGro kShr bN bF rCmd rLet rNum fCap fGap fCar fCop fGro fShr hX hC hR)) (ws' := (wX7 cI cS hh vCar vGoa vEag tN tF cN cF mP mS kCap kGap kCar kCop kGro kShr bN bF rCmd rLet rNum fCap fGap fCar fCop fGro fShr hX hC hR)) hx hb hml hown hg hK hP hD hS hA hl.1 (k_X7_byteAt l D cI cS cL Z hh x6 vCar vGoa vEag tN tF cN cF mP mS kCap kGap kCar kCop kGro kShr bN bF rCmd rLet rNum fCap fGap fCar fCop fGro fShr hX hC hR (nx_some ec28)) gm_X7_byteAt gw_621 ⟨rfl, rfl, by decide, by decide⟩ ⟨Nat.zero_le _, Nat.zero_le _⟩ pm_all pm_all fst_X7 rfl rfl rfl rfl rfl (Nat.le_of_ble_eq_true rfl) dL_holds_141 (fun H locs hP hD hS => ?_)
          refine lv_goto (tgt := 169) hx hb dL_holds_144 (by decide) ?_
          refine lv_istore (lv' := [(7, .int r28), (0, .ref (hh 0)), (1, .int x1), (2, .int x2), (3, .int x3), (4, .int x4), (6, .int x6)]) hx hb dL_holds_169 hl (by decide) rfl (fun ls hl => ?_)
          refine lv_aload_n hx hb dL_holds_171 rfl (lv_at hl 1 rfl) ?_
          refine lv_iload hx hb dL_holds_172 (lv_at hl 6 rfl) ?_
          obtain ⟨r29, ec29, h⟩ := bd_some h
          refine cP_i (As := [.int x6]) (rest := []) (wc := (wX7 cI cS hh vCar vGoa vEag tN tF cN cF mP mS kCap kGap kCar kCop kGro kShr bN bF rCmd rLet rNum fCap fGap fCar fCop fGro fShr hX hC hR)) (wc' := (wX7 cI cS hh vCar vGoa vEag tN tF cN cF mP mS kCap kGap kCar kCop kGro kShr bN bF rCmd rLet rNum fCap fGap fCar fCop fGro fShr hX hC hR)) (ws' := (wX7 cI cS hh vCar vGoa vEag tN tF cN cF mP mS kCap kGap kCar kCop kGro kShr bN bF rCmd rLet rNum fCap fGap fCar fCop fGro fShr hX hC hR)) hx hb hml hown hg hK hP hD hS hA hl.1 (k_X7_cell l D cI cS cL Z hh x6 vCar vGoa vEag tN tF cN cF mP mS kCap kGap kCar kCop kGro kShr bN bF rCmd rLet rNum fCap fGap fCar fCop fGro fShr hX hC hR (nx_some ec29)) gm_X7_cell gw_625 ⟨rfl, rfl, by decide, by decide⟩ ⟨Nat.zero_le _, Nat.zero_le _⟩ pm_all pm_all fst_X7 rfl rfl rfl rfl rfl (Nat.le_of_ble_eq_true rfl) dL_holds_174 (fun H locs hP hD hS => ?_)
          refine lv_iload hx hb dL_holds_177 (lv_at hl 0 rfl) ?_
          refine lv_icmp_eq (tgt := 184) hx hb dL_holds_179 (by decide) (fun q30 => ?_) (fun q30 => ?_)
          · replace h := it_some q30 h
            obtain ⟨x6_31, ex6_31, h⟩ := kl_some h
            refine lv_iinc (v := x6_31) (lv' := [(6, .int x6_31), (7, .int r28), (0, .ref (hh 0)), (1, .int x1), (2, .int x2), (3, .int x3), (4, .int x4)]) hx hb dL_holds_184 hl (k := 6) rfl (by rw [ex6_31]; rfl) (by decide) rfl (fun ls hl => ?_)
            refine lv_goto (tgt := 126) hx hb dL_holds_187 (by decide) ?_
            exact ih x1 x2 x3 x4 x6_31 h H locs hP hD hS ls (lv_sub hl [2, 3, 4, 5, 6, 0] rfl)
          · replace h := if_some q30 h
            refine lv_iconst (v := 0) hx hb dL_holds_182 (by decide) ?_
            cases h
            exact ret_z hx hb hr hlocks hP hD hS dL_holds_183 (Or.inl rfl) rfl
  have c_89 : ∀ (x1 : Int32) (x2 : Int32) (x3 : Int32) (x4 : Int32), f_L_holds_c89 Z vCar tN tF mP kCap kGap x1 x2 x3 x4 = some r → ∀ (H : Heap) (locs : List Loc), va_P D vwCl (wX7 cI cS hh vCar vGoa vEag tN tF cN cF mP mS kCap kGap kCar kCop kGro kShr bN bF rCmd rLet rNum fCap fGap fCar fCop fGro fShr hX hC hR) H → va_D A (wX7 cI cS hh vCar vGoa vEag tN tF cN cF mP mS kCap kGap kCar kCop kGro kShr bN bF rCmd rLet rNum fCap fGap fCar fCop fGro fShr hX hC hR) → va_S A s.heap H locs → ∀ ls : Array Slot, lv_has ls 8 [(0, .ref (hh 0)), (1, .int x1), (2, .int x2), (3, .int x3), (4, .int x4)] → W p l e rm_L_holds s m args below meth c H locs 0 0 (FI D below args s (wX7 cI cS hh vCar vGoa vEag tN tF cN cF mP mS kCap kGap kCar kCop kGro kShr bN bF rCmd rLet rNum fCap fGap fCar fCop fGro fShr hX hC hR) r A) (F0 m 89 ls []) := by
    intro x1 x2 x3 x4 h H locs hP hD hS ls hl
    unfold f_L_holds_c89 at h
    refine lv_iload hx hb dL_holds_89 (lv_at hl 4 rfl) ?_
    refine lv_iload_n hx hb dL_holds_91 rfl (lv_at hl 2 rfl) ?_
    refine lv_iload_n hx hb dL_holds_92 rfl (lv_at hl 1 rfl) ?_
    refine lv_isub hx hb dL_holds_93 ?_
    refine lv_icmp_ne (tgt := 121) hx hb dL_holds_94 (by decide) (fun q32 => ?_) (fun q32 => ?_)
    · replace h := if_some q32 h
      refine lv_iconst (v := 0) hx hb dL_holds_121 (by decide) ?_
      cases h
      exact ret_z hx hb hr hlocks hP hD hS dL_holds_122 (Or.inl rfl) rfl
    · replace h := it_some q32 h
      refine lv_iload_n hx hb dL_holds_97 rfl (lv_at hl 3 rfl) ?_
      refine lv_if_lt (tgt := 121) hx hb dL_holds_98 (by decide) (fun q33 => ?_) (fun q33 => ?_)
      · replace h := it_some q33 h
        refine lv_iconst (v := 0) hx hb dL_holds_121 (by decide) ?_
        cases h
        exact ret_z hx hb hr hlocks hP hD hS dL_holds_122 (Or.inl rfl) rfl
      · replace h := if_some q33 h
        refine lv_iload_n hx hb dL_holds_101 rfl (lv_at hl 3 rfl) ?_
        refine lv_iload_n hx hb dL_holds_102 rfl (lv_at hl 1 rfl) ?_
        refine lv_icmp_gt (tgt := 121) hx hb dL_holds_103 (by decide) (fun q34 => ?_) (fun q34 => ?_)
        · replace h := it_some q34 h
          refine lv_iconst (v := 0) hx hb dL_holds_121 (by decide) ?_
          cases h
          exact ret_z hx hb hr hlocks hP hD hS dL_holds_122 (Or.inl rfl) rfl
        · replace h := if_some q34 h
          refine lv_aload_n hx hb dL_holds_106 rfl (lv_at hl 0 rfl) ?_
          obtain ⟨r35, ec35, h⟩ := bd_some h
          refine cP_i (As := []) (rest := []) (wc := (wX7 cI cS hh vCar vGoa vEag tN tF cN cF mP mS kCap kGap kCar kCop kGro kShr bN bF rCmd rLet rNum fCap fGap fCar fCop fGro fShr hX hC hR)) (wc' := (wX7 cI cS hh vCar vGoa vEag tN tF cN cF mP mS kCap kGap kCar kCop kGro kShr bN bF rCmd rLet rNum fCap fGap fCar fCop fGro fShr hX hC hR)) (ws' := (wX7 cI cS hh vCar vGoa vEag tN tF cN cF mP mS kCap kGap kCar kCop kGro kShr bN bF rCmd rLet rNum fCap fGap fCar fCop fGro fShr hX hC hR)) hx hb hml hown hg hK hP hD hS hA hl.1 (k_X7_caret l D cI cS cL Z hh vCar vGoa vEag tN tF cN cF mP mS kCap kGap kCar kCop kGro kShr bN bF rCmd rLet rNum fCap fGap fCar fCop fGro fShr hX hC hR ec35) gm_X7_caret gw_386 ⟨rfl, rfl, by decide, by decide⟩ ⟨Nat.zero_le _, Nat.zero_le _⟩ pm_all pm_all fst_X7 rfl rfl rfl rfl rfl (Nat.le_of_ble_eq_true rfl) dL_holds_107 (fun H locs hP hD hS => ?_)
          refine lv_if_lt (tgt := 121) hx hb dL_holds_110 (by decide) (fun q36 => ?_) (fun q36 => ?_)
          · replace h := it_some q36 h
            refine lv_iconst (v := 0) hx hb dL_holds_121 (by decide) ?_
            cases h
            exact ret_z hx hb hr hlocks hP hD hS dL_holds_122 (Or.inl rfl) rfl
          · replace h := if_some q36 h
            refine lv_aload_n hx hb dL_holds_113 rfl (lv_at hl 0 rfl) ?_
            obtain ⟨r37, ec37, h⟩ := bd_some h
            refine cP_i (As := []) (rest := []) (wc := (wX7 cI cS hh vCar vGoa vEag tN tF cN cF mP mS kCap kGap kCar kCop kGro kShr bN bF rCmd rLet rNum fCap fGap fCar fCop fGro fShr hX hC hR)) (wc' := (wX7 cI cS hh vCar vGoa vEag tN tF cN cF mP mS kCap kGap kCar kCop kGro kShr bN bF rCmd rLet rNum fCap fGap fCar fCop fGro fShr hX hC hR)) (ws' := (wX7 cI cS hh vCar vGoa vEag tN tF cN cF mP mS kCap kGap kCar kCop kGro kShr bN bF rCmd rLet rNum fCap fGap fCar fCop fGro fShr hX hC hR)) hx hb hml hown hg hK hP hD hS hA hl.1 (k_X7_caret l D cI cS cL Z hh vCar vGoa vEag tN tF cN cF mP mS kCap kGap kCar kCop kGro kShr bN bF rCmd rLet rNum fCap fGap fCar fCop fGro fShr hX hC hR ec37) gm_X7_caret gw_386 ⟨rfl, rfl, by decide, by decide⟩ ⟨Nat.zero_le _, Nat.zero_le _⟩ pm_all pm_all fst_X7 rfl rfl rfl rfl rfl (Nat.le_of_ble_eq_true rfl) dL_holds_114 (fun H locs hP hD hS => ?_)
            refine lv_iload_n hx hb dL_holds_117 rfl (lv_at hl 1 rfl) ?_
            refine lv_icmp_le (tgt := 123) hx hb dL_holds_118 (by decide) (fun q38 => ?_) (fun q38 => ?_)
            · replace h := it_some q38 h
              refine lv_iconst (v := 0) hx hb dL_holds_123 (by decide) ?_
              refine lv_istore (lv' := [(6, .int 0), (0, .ref (hh 0)), (1, .int x1), (2, .int x2), (3, .int x3), (4, .int x4)]) hx hb dL_holds_124 hl (by decide) rfl (fun ls hl => ?_)
              exact c_126 Z x1 x2 x3 x4 0 h H locs hP hD hS ls (lv_sub hl [1, 2, 3, 4, 5, 0] rfl)
            · replace h := if_some q38 h
              refine lv_iconst (v := 0) hx hb dL_holds_121 (by decide) ?_
              cases h
              exact ret_z hx hb hr hlocks hP hD hS dL_holds_122 (Or.inl rfl) rfl
  have c_64 : ∀ (x1 : Int32) (x2 : Int32) (x3 : Int32) (x4 : Int32) (y0 : Int32), f_L_holds_c64 Z vCar tN tF mP kCap kGap x1 x2 x3 x4 y0 = some r → ∀ (H : Heap) (locs : List Loc), va_P D vwCl (wX7 cI cS hh vCar vGoa vEag tN tF cN cF mP mS kCap kGap kCar kCop kGro kShr bN bF rCmd rLet rNum fCap fGap fCar fCop fGro fShr hX hC hR) H → va_D A (wX7 cI cS hh vCar vGoa vEag tN tF cN cF mP mS kCap kGap kCar kCop kGro kShr bN bF rCmd rLet rNum fCap fGap fCar fCop fGro fShr hX hC hR) → va_S A s.heap H locs → ∀ ls : Array Slot, lv_has ls 8 [(0, .ref (hh 0)), (1, .int x1), (2, .int x2), (3, .int x3), (4, .int x4)] → W p l e rm_L_holds s m args below meth c H locs 0 0 (FI D below args s (wX7 cI cS hh vCar vGoa vEag tN tF cN cF mP mS kCap kGap kCar kCop kGro kShr bN bF rCmd rLet rNum fCap fGap fCar fCop fGro fShr hX hC hR) r A) (F0 m 64 ls [.int y0]) := by
    intro x1 x2 x3 x4 y0 h H locs hP hD hS ls hl
    unfold f_L_holds_c64 at h
    refine lv_istore (lv' := [(5, .int y0), (0, .ref (hh 0)), (1, .int x1), (2, .int x2), (3, .int x3), (4, .int x4)]) hx hb dL_holds_64 hl (by decide) rfl (fun ls hl => ?_)
    refine lv_iload hx hb dL_holds_66 (lv_at hl 0 rfl) ?_
    refine lv_if_eq (tgt := 121) hx hb dL_holds_68 (by decide) (fun q39 => ?_) (fun q39 => ?_)
    · replace h := it_some q39 h
      refine lv_iconst (v := 0) hx hb dL_holds_121 (by decide) ?_
      cases h
      exact ret_z hx hb hr hlocks hP hD hS dL_holds_122 (Or.inl rfl) rfl
    · replace h := if_some q39 h
      refine lv_iload_n hx hb dL_holds_71 rfl (lv_at hl 3 rfl) ?_
      refine lv_iload_n hx hb dL_holds_72 rfl (lv_at hl 2 rfl) ?_
      refine lv_icmp_lt (tgt := 121) hx hb dL_holds_73 (by decide) (fun q40 => ?_) (fun q40 => ?_)
      · replace h := it_some q40 h
        refine lv_iconst (v := 0) hx hb dL_holds_121 (by decide) ?_
        cases h
        exact ret_z hx hb hr hlocks hP hD hS dL_holds_122 (Or.inl rfl) rfl
      · replace h := if_some q40 h
        refine lv_iload_n hx hb dL_holds_76 rfl (lv_at hl 3 rfl) ?_
        refine lv_bipush (v := 8) hx hb dL_holds_77 (by decide) ?_
        refine lv_icmp_le (tgt := 89) hx hb dL_holds_79 (by decide) (fun q41 => ?_) (fun q41 => ?_)
        · replace h := it_some q41 h
          exact c_89 x1 x2 x3 x4 h H locs hP hD hS ls (lv_sub hl [1, 2, 3, 4, 5] rfl)
        · replace h := if_some q41 h
          refine lv_iload_n hx hb dL_holds_82 rfl (lv_at hl 3 rfl) ?_
          refine lv_iconst (v := 4) hx hb dL_holds_83 (by decide) ?_
          refine lv_iload_n hx hb dL_holds_84 rfl (lv_at hl 2 rfl) ?_
          refine lv_imul hx hb dL_holds_85 ?_
          refine lv_icmp_ge (tgt := 121) hx hb dL_holds_86 (by decide) (fun q42 => ?_) (fun q42 => ?_)
          · replace h := it_some q42 h
            refine lv_iconst (v := 0) hx hb dL_holds_121 (by decide) ?_
            cases h
            exact ret_z hx hb hr hlocks hP hD hS dL_holds_122 (Or.inl rfl) rfl
          · replace h := if_some q42 h
            exact c_89 x1 x2 x3 x4 h H locs hP hD hS ls (lv_sub hl [1, 2, 3, 4, 5] rfl)
  have c_59 : ∀ (x1 : Int32) (x2 : Int32) (x3 : Int32) (x4 : Int32), f_L_holds_c59 Z vCar tN tF mP kCap kGap x1 x2 x3 x4 = some r → ∀ (H : Heap) (locs : List Loc), va_P D vwCl (wX7 cI cS hh vCar vGoa vEag tN tF cN cF mP mS kCap kGap kCar kCop kGro kShr bN bF rCmd rLet rNum fCap fGap fCar fCop fGro fShr hX hC hR) H → va_D A (wX7 cI cS hh vCar vGoa vEag tN tF cN cF mP mS kCap kGap kCar kCop kGro kShr bN bF rCmd rLet rNum fCap fGap fCar fCop fGro fShr hX hC hR) → va_S A s.heap H locs → ∀ ls : Array Slot, lv_has ls 8 [(0, .ref (hh 0)), (1, .int x1), (2, .int x2), (3, .int x3), (4, .int x4)] → W p l e rm_L_holds s m args below meth c H locs 0 0 (FI D below args s (wX7 cI cS hh vCar vGoa vEag tN tF cN cF mP mS kCap kGap kCar kCop kGro kShr bN bF rCmd rLet rNum fCap fGap fCar fCop fGro fShr hX hC hR) r A) (F0 m 59 ls []) := by
    intro x1 x2 x3 x4 h H locs hP hD hS ls hl
    unfold f_L_holds_c59 at h
    refine lv_iconst (v := 1) hx hb dL_holds_59 (by decide) ?_
    refine lv_goto (tgt := 64) hx hb dL_holds_60 (by decide) ?_
    exact c_64 x1 x2 x3 x4 1 h H locs hP hD hS ls (lv_sub hl [0, 1, 2, 3, 4] rfl)
  have hl : lv_has ls 8 [(0, .ref (hh 0))] := hl
  have hP : va_P D vwCl (wX7 cI cS hh vCar vGoa vEag tN tF cN cF mP mS kCap kGap kCar kCop kGro kShr bN bF rCmd rLet rNum fCap fGap fCar fCop fGro fShr hX hC hR) s.heap := hP
  have hD : va_D A (wX7 cI cS hh vCar vGoa vEag tN tF cN cF mP mS kCap kGap kCar kCop kGro kShr bN bF rCmd rLet rNum fCap fGap fCar fCop fGro fShr hX hC hR) := hD
  show W p l e rm_L_holds s m args below meth c s.heap [] 0 0 (FI D below args s (wX7 cI cS hh vCar vGoa vEag tN tF cN cF mP mS kCap kGap kCar kCop kGro kShr bN bF rCmd rLet rNum fCap fGap fCar fCop fGro fShr hX hC hR) r A) (F0 m 0 ls [])
  unfold f_L_holds at h
  have hmain : ∀ (H : Heap) (locs : List Loc), va_P D vwCl (wX7 cI cS hh vCar vGoa vEag tN tF cN cF mP mS kCap kGap kCar kCop kGro kShr bN bF rCmd rLet rNum fCap fGap fCar fCop fGro fShr hX hC hR) H → va_S A s.heap H locs → W p l e rm_L_holds s m args below meth c H locs 0 0 (FI D below args s (wX7 cI cS hh vCar vGoa vEag tN tF cN cF mP mS kCap kGap kCar kCop kGro kShr bN bF rCmd rLet rNum fCap fGap fCar fCop fGro fShr hX hC hR) r A) (F0 m 0 ls []) := by
    intro H locs hP hS
    refine lv_aload_n hx hb dL_holds_0 rfl (lv_at hl 0 rfl) ?_
    obtain ⟨r43, ec43, h⟩ := bd_some h
    refine cP_i (As := []) (rest := []) (wc := (wX7 cI cS hh vCar vGoa vEag tN tF cN cF mP mS kCap kGap kCar kCop kGro kShr bN bF rCmd rLet rNum fCap fGap fCar fCop fGro fShr hX hC hR)) (wc' := (wX7 cI cS hh vCar vGoa vEag tN tF cN cF mP mS kCap kGap kCar kCop kGro kShr bN bF rCmd rLet rNum fCap fGap fCar fCop fGro fShr hX hC hR)) (ws' := (wX7 cI cS hh vCar vGoa vEag tN tF cN cF mP mS kCap kGap kCar kCop kGro kShr bN bF rCmd rLet rNum fCap fGap fCar fCop fGro fShr hX hC hR)) hx hb hml hown hg hK hP hD hS hA hl.1 (k_X7_length l D cI cS cL Z hh vCar vGoa vEag tN tF cN cF mP mS kCap kGap kCar kCop kGro kShr bN bF rCmd rLet rNum fCap fGap fCar fCop fGro fShr hX hC hR ec43) gm_X7_length gw_357 ⟨rfl, rfl, by decide, by decide⟩ ⟨Nat.zero_le _, Nat.zero_le _⟩ pm_all pm_all fst_X7 rfl rfl rfl rfl rfl (Nat.le_of_ble_eq_true rfl) dL_holds_1 (fun H locs hP hD hS => ?_)
    refine lv_istore_n (lv' := [(1, .int r43), (0, .ref (hh 0))]) hx hb dL_holds_4 rfl hl (by decide) rfl (fun ls hl => ?_)
    refine lv_aload_n hx hb dL_holds_5 rfl (lv_at hl 1 rfl) ?_
    obtain ⟨r44, ec44, h⟩ := bd_some h
    refine cP_i (As := []) (rest := []) (wc := (wX7 cI cS hh vCar vGoa vEag tN tF cN cF mP mS kCap kGap kCar kCop kGro kShr bN bF rCmd rLet rNum fCap fGap fCar fCop fGro fShr hX hC hR)) (wc' := (wX7 cI cS hh vCar vGoa vEag tN tF cN cF mP mS kCap kGap kCar kCop kGro kShr bN bF rCmd rLet rNum fCap fGap fCar fCop fGro fShr hX hC hR)) (ws' := (wX7 cI cS hh vCar vGoa vEag tN tF cN cF mP mS kCap kGap kCar kCop kGro kShr bN bF rCmd rLet rNum fCap fGap fCar fCop fGro fShr hX hC hR)) hx hb hml hown hg hK hP hD hS hA hl.1 (k_X7_capacity l D cI cS cL Z hh vCar vGoa vEag tN tF cN cF mP mS kCap kGap kCar kCop kGro kShr bN bF rCmd rLet rNum fCap fGap fCar fCop fGro fShr hX hC hR ec44) gm_X7_capacity gw_609 ⟨rfl, rfl, by decide, by decide⟩ ⟨Nat.zero_le _, Nat.zero_le _⟩ pm_all pm_all fst_X7 rfl rfl rfl rfl rfl (Nat.le_of_ble_eq_true rfl) dL_holds_6 (fun H locs hP hD hS => ?_)
    refine lv_istore_n (lv' := [(2, .int r44), (1, .int r43), (0, .ref (hh 0))]) hx hb dL_holds_9 rfl hl (by decide) rfl (fun ls hl => ?_)
    refine lv_aload_n hx hb dL_holds_10 rfl (lv_at hl 2 rfl) ?_
    obtain ⟨r45, ec45, h⟩ := bd_some h
    refine cP_i (As := []) (rest := []) (wc := (wX7 cI cS hh vCar vGoa vEag tN tF cN cF mP mS kCap kGap kCar kCop kGro kShr bN bF rCmd rLet rNum fCap fGap fCar fCop fGro fShr hX hC hR)) (wc' := (wX7 cI cS hh vCar vGoa vEag tN tF cN cF mP mS kCap kGap kCar kCop kGro kShr bN bF rCmd rLet rNum fCap fGap fCar fCop fGro fShr hX hC hR)) (ws' := (wX7 cI cS hh vCar vGoa vEag tN tF cN cF mP mS kCap kGap kCar kCop kGro kShr bN bF rCmd rLet rNum fCap fGap fCar fCop fGro fShr hX hC hR)) hx hb hml hown hg hK hP hD hS hA hl.1 (k_X7_gapStart l D cI cS cL Z hh vCar vGoa vEag tN tF cN cF mP mS kCap kGap kCar kCop kGro kShr bN bF rCmd rLet rNum fCap fGap fCar fCop fGro fShr hX hC hR ec45) gm_X7_gapStart gw_613 ⟨rfl, rfl, by decide, by decide⟩ ⟨Nat.zero_le _, Nat.zero_le _⟩ pm_all pm_all fst_X7 rfl rfl rfl rfl rfl (Nat.le_of_ble_eq_true rfl) dL_holds_11 (fun H locs hP hD hS => ?_)
    refine lv_istore_n (lv' := [(3, .int r45), (2, .int r44), (1, .int r43), (0, .ref (hh 0))]) hx hb dL_holds_14 rfl hl (by decide) rfl (fun ls hl => ?_)
    refine lv_aload_n hx hb dL_holds_15 rfl (lv_at hl 3 rfl) ?_
    obtain ⟨r46, ec46, h⟩ := bd_some h
    refine cP_i (As := []) (rest := []) (wc := (wX7 cI cS hh vCar vGoa vEag tN tF cN cF mP mS kCap kGap kCar kCop kGro kShr bN bF rCmd rLet rNum fCap fGap fCar fCop fGro fShr hX hC hR)) (wc' := (wX7 cI cS hh vCar vGoa vEag tN tF cN cF mP mS kCap kGap kCar kCop kGro kShr bN bF rCmd rLet rNum fCap fGap fCar fCop fGro fShr hX hC hR)) (ws' := (wX7 cI cS hh vCar vGoa vEag tN tF cN cF mP mS kCap kGap kCar kCop kGro kShr bN bF rCmd rLet rNum fCap fGap fCar fCop fGro fShr hX hC hR)) hx hb hml hown hg hK hP hD hS hA hl.1 (k_X7_room l D cI cS cL Z hh vCar vGoa vEag tN tF cN cF mP mS kCap kGap kCar kCop kGro kShr bN bF rCmd rLet rNum fCap fGap fCar fCop fGro fShr hX hC hR ec46) gm_X7_room gw_617 ⟨rfl, rfl, by decide, by decide⟩ ⟨Nat.zero_le _, Nat.zero_le _⟩ pm_all pm_all fst_X7 rfl rfl rfl rfl rfl (Nat.le_of_ble_eq_true rfl) dL_holds_16 (fun H locs hP hD hS => ?_)
    refine lv_istore (lv' := [(4, .int r46), (3, .int r45), (2, .int r44), (1, .int r43), (0, .ref (hh 0))]) hx hb dL_holds_19 hl (by decide) rfl (fun ls hl => ?_)
    refine lv_iload_n hx hb dL_holds_21 rfl (lv_at hl 2 rfl) ?_
    refine lv_bipush (v := 8) hx hb dL_holds_22 (by decide) ?_
    refine lv_icmp_eq (tgt := 59) hx hb dL_holds_24 (by decide) (fun q47 => ?_) (fun q47 => ?_)
    · replace h := it_some q47 h
      exact c_59 r43 r44 r45 r46 h H locs hP hD hS ls (lv_sub hl [4, 3, 2, 1, 0] rfl)
    · replace h := if_some q47 h
      refine lv_iload_n hx hb dL_holds_27 rfl (lv_at hl 2 rfl) ?_
      refine lv_bipush (v := 16) hx hb dL_holds_28 (by decide) ?_
      refine lv_icmp_eq (tgt := 59) hx hb dL_holds_30 (by decide) (fun q48 => ?_) (fun q48 => ?_)
      · replace h := it_some q48 h
        exact c_59 r43 r44 r45 r46 h H locs hP hD hS ls (lv_sub hl [4, 3, 2, 1, 0] rfl)
      · replace h := if_some q48 h
        refine lv_iload_n hx hb dL_holds_33 rfl (lv_at hl 2 rfl) ?_
        refine lv_bipush (v := 32) hx hb dL_holds_34 (by decide) ?_
        refine lv_icmp_eq (tgt := 59) hx hb dL_holds_36 (by decide) (fun q49 => ?_) (fun q49 => ?_)
        · replace h := it_some q49 h
          exact c_59 r43 r44 r45 r46 h H locs hP hD hS ls (lv_sub hl [4, 3, 2, 1, 0] rfl)
        · replace h := if_some q49 h
          refine lv_iload_n hx hb dL_holds_39 rfl (lv_at hl 2 rfl) ?_
          refine lv_bipush (v := 64) hx hb dL_holds_40 (by decide) ?_
          refine lv_icmp_eq (tgt := 59) hx hb dL_holds_42 (by decide) (fun q50 => ?_) (fun q50 => ?_)
          · replace h := it_some q50 h
            exact c_59 r43 r44 r45 r46 h H locs hP hD hS ls (lv_sub hl [4, 3, 2, 1, 0] rfl)
          · replace h := if_some q50 h
            refine lv_iload_n hx hb dL_holds_45 rfl (lv_at hl 2 rfl) ?_
            refine lv_sipush (v := 128) hx hb dL_holds_46 (by decide) ?_
            refine lv_icmp_eq (tgt := 59) hx hb dL_holds_49 (by decide) (fun q51 => ?_) (fun q51 => ?_)
            · replace h := it_some q51 h
              exact c_59 r43 r44 r45 r46 h H locs hP hD hS ls (lv_sub hl [4, 3, 2, 1, 0] rfl)
            · replace h := if_some q51 h
              refine lv_iload_n hx hb dL_holds_52 rfl (lv_at hl 2 rfl) ?_
              refine lv_sipush (v := 256) hx hb dL_holds_53 (by decide) ?_
              refine lv_icmp_ne (tgt := 63) hx hb dL_holds_56 (by decide) (fun q52 => ?_) (fun q52 => ?_)
              · replace h := if_some q52 h
                refine lv_iconst (v := 0) hx hb dL_holds_63 (by decide) ?_
                exact c_64 r43 r44 r45 r46 0 h H locs hP hD hS ls (lv_sub hl [4, 3, 2, 1, 0] rfl)
              · replace h := it_some q52 h
                exact c_59 r43 r44 r45 r46 h H locs hP hD hS ls (lv_sub hl [4, 3, 2, 1, 0] rfl)
  exact hmain _ _ hP hS
