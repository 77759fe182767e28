-- ===== the law's methods: connectives, static calls over a world in blocks, the script's cell =====
def nx {α β : Type} : Option (α ⊕ β) → Option α
  | some (.inl a) => some a
  | _ => none
theorem nx_some {α β : Type} {x : Option (α ⊕ β)} {a : α} (h : nx x = some a) : x = some (.inl a) := by
  match x, h with
  | some (.inl y), h => exact congrArg (fun z => some (Sum.inl z)) (Option.some.inj h)
theorem tb_out {x b : Int32} {hi : Int} (h : x < 0 ∨ b < x) (e : b.toInt = hi) : x.toInt < 0 ∨ hi < x.toInt := by
  rcases h with h | h
  · exact Or.inl (Int32.lt_iff_toInt_lt.mp h)
  · exact Or.inr (by rw [← e]; exact Int32.lt_iff_toInt_lt.mp h)
section LAWK
variable {p : Program} {l : Launch} {e : Env} {R : Room} {s : State} {m : MethodId} {args : Array Value} {below : List Frame} {meth : Method} {c : Code} {H H0 : Heap} {locs : List Loc} {cells slots : Nat} {Q : State → Prop}
variable {D : va_G} {cI cS cL : ClassId} {A : Nat → Prop} {ws ws' wc wc' wr : va_W} {ls : Array Slot} {rest st : List Value} {pc index nL n maxL : Nat} {cc bts : ByteArray} {own : String} {y : MethodName} {ret : Option FieldType} {rm : Room} {As : List Value}
theorem cPS_i {r : Int32} (hx : p.tables.exec = Jvm.exec) (hb : c.code = cc) (hml : c.maxLocals = nL) (hown : s.vm.findClass own = some m.cls) (hg : ∀ w ∈ GW, w.before args s = true) (hK : kk_ D cI cS cL s) (hP : va_P D vwCl ws H) (hD : va_D A ws) (hS : va_S A H0 H locs) (hA : ∀ q, H0.size ≤ q → A q) (hsz : ls.size = nL)
    (hM : CI l y bts maxL ret rm D cI cS cL As wc wc' r) (hm : gs_ y bts maxL ret n) (hl : Cond.methodLink own index y ∈ GW) (hR : rm.cells = 0 ∧ rm.slots = 0 ∧ rm.frames + 1 ≤ R.frames ∧ 8 + (maxL + 11) + rm.locals ≤ R.locals) (hroom : cells ≤ R.cells ∧ slots ≤ R.slots) (hp : ws.Perm (wc ++ wr)) (hp' : ws'.Perm (wc' ++ wr)) (hf : wc'.map Prod.fst = wc.map Prod.fst) (hn : As.length = n) (hst : st = As.reverse ++ rest) (hW : (rest.map fun v => v.category).sum ≤ 8) (hdg : decode cc pc = .ok (.invokestatic index, 3))
    (kk : ∀ (H1 : Heap) (locs1 : List Loc), va_P D vwCl ws' H1 → va_D A ws' → va_S A H0 H1 locs1 → W p l e R s m args below meth c H1 locs1 cells slots Q (F0 m (pc + 3) ls (.int r :: rest))) : W p l e R s m args below meth c H locs cells slots Q (F0 m pc ls st) := by
  have hPc := va_P_left (va_P_perm hp hP)
  have hDc := va_D_left (va_D_perm hp hD)
  have hpre := preS_ (s := s) (as := As) hK hPc hDc
  have hFc := va_freeQ hD hS hA hp
  refine va_calli (va_runS (As := As) (rest := rest) ⟨hx, hb, hml, hown, hg⟩ (hM H.size) (va_cwS n hg (gdS hl hm) rfl hR.1 hR.2.1 hm.2.2.2 hR.2.2) hpre rfl hn hsz hst (lv_room hW) hdg hroom) hS (fun q _ h => hFc q h) hFc (fun r' u t H1 locs1 ht hvm hw hB hz1 hk1 hS1 => ?_)
  subst hw
  obtain ⟨hP1, hD1⟩ := hB
  rw [ht] at hP1
  obtain ⟨hP2, hD2⟩ := put_backP hP hD hp hp' hf hk1 hP1
  exact kk H1 locs1 hP2 hD2 hS1
/-- a call that reads the script alone -/
def CC (l : Launch) (y : MethodName) (b : ByteArray) (n : Nat) (ret : Option FieldType) (rm : Room) (D : va_G) (cI cS cL : ClassId) (ad L : Nat) (xs : Nat → Int32) (as : List Value) (r : Int32) : Prop :=
  ∀ sz, Met l y (Cond.code y b n ret :: GW) rm (va_Pc as (fun U => pre_ D cI cS cL [] sz U ∧ va_X ad L xs U U.heap ∧ ad < sz)) (va_Qi (fun r' (_ : Unit) => r' = r) (fun _ t => at_ D [] [] sz t) (va_A [] sz)) 0 0 (va_A [] sz)
theorem va_A0 {sz q : Nat} (h : va_A [] sz q) : sz ≤ q := by
  rcases h with ⟨k, e, h⟩ | h
  · simp at h
  · exact h
theorem cC_i {r : Int32} {b L : Nat} {xs : Nat → Int32} (hx : p.tables.exec = Jvm.exec) (hb : c.code = cc) (hml : c.maxLocals = nL) (hown : s.vm.findClass own = some m.cls) (hg : ∀ w ∈ GW, w.before args s = true) (hK : kk_ D cI cS cL s) (hP : va_P D vwCl ws H) (hD : va_D A ws) (hS : va_S A s.heap H locs) (hA : ∀ q, s.heap.size ≤ q → A q) (hXs : va_X b L xs s s.heap) (hbl : b < s.heap.size) (hbA : ¬ A b) (hsz : ls.size = nL)
    (hM : CC l y bts maxL ret rm D cI cS cL b L xs As r) (hm : gs_ y bts maxL ret n) (hl : Cond.methodLink own index y ∈ GW) (hR : rm.cells = 0 ∧ rm.slots = 0 ∧ rm.frames + 1 ≤ R.frames ∧ 8 + (maxL + 11) + rm.locals ≤ R.locals) (hroom : cells ≤ R.cells ∧ slots ≤ R.slots) (hn : As.length = n) (hst : st = As.reverse ++ rest) (hW : (rest.map fun v => v.category).sum ≤ 8) (hdg : decode cc pc = .ok (.invokestatic index, 3))
    (kk : ∀ (H1 : Heap) (locs1 : List Loc), va_P D vwCl ws H1 → va_D A ws → va_S A s.heap H1 locs1 → W p l e R s m args below meth c H1 locs1 cells slots Q (F0 m (pc + 3) ls (.int r :: rest))) : W p l e R s m args below meth c H locs cells slots Q (F0 m pc ls st) := by
  have hFc : ∀ q, va_A [] H.size q → A q := fun q h => hA q (Nat.le_trans hS.1 (va_A0 h))
  have hpre : PreS s H (va_Pc As (fun U => pre_ D cI cS cL [] H.size U ∧ va_X b L xs U U.heap ∧ b < H.size)) As :=
    ⟨fun a U g mk q => by
      obtain ⟨h1, ⟨h2, h3, h4, h5⟩, h6, h7⟩ := q
      exact ⟨h1, ⟨h2, h3, kk_call h4, h5⟩, h6, h7⟩,
     fun U hU hW2 => ⟨rfl, ⟨by rw [hU], (fun k q h => by simp at h), kk_warm hW2 hK, ⟨fun i j p q h => by simp at h, fun k q h => by simp at h⟩⟩, by rw [hU]; exact (hXs.kept (hS.2.1 b hbl hbA)).moved hW2.alike, Nat.lt_of_lt_of_le hbl hS.1⟩⟩
  refine va_calli (va_runS (As := As) (rest := rest) ⟨hx, hb, hml, hown, hg⟩ (hM H.size) (va_cwS n hg (gdS hl hm) rfl hR.1 hR.2.1 hm.2.2.2 hR.2.2) hpre rfl hn hsz hst (lv_room hW) hdg hroom) hS (fun q _ h => hFc q h) hFc (fun r' u t H1 locs1 ht hvm hw hB hz1 hk1 hS1 => ?_)
  subst hw
  have hP1 : va_P D vwCl ws H1 := hP.kept fun k q hq => hk1 q.1 ((hP k q hq).lt) fun h => absurd ((hP _ q hq).lt) (Nat.not_lt.mpr (va_A0 h))
  exact kk H1 locs1 hP1 hD hS1
end LAWK
abbrev rm_L_cell : Room := { frames := 1, cells := 0, slots := 0, locals := 40 }
def f_L_cell (L : Nat) (xs : Nat → Int32) (k : Int32) : Option Int32 :=
  if Int32.ofNat L ≤ k then some (7919 * (k + 3) * (k + 11)) else rd k L (some (xs (Int32.toNatClampNeg k)))
set_option maxRecDepth 100000 in
theorem k_L_cell (l : Launch) (D : va_G) (cI cS cL : ClassId) (ad L : Nat) (xs : Nat → Int32) (k : Int32) {r : Int32} (h : f_L_cell L xs k = some r) : CC l yL_cell cL_cell 2 (some .int) rm_L_cell D cI cS cL ad L xs [.ref ad, .int k] r := by
  intro sz
  refine Met.ofW (cc := cL_cell) (maxL := 2) (ret := some .int) (by decide +kernel) rfl ?_
  intro p e s m args below meth c s₁ B hml hv
  obtain ⟨rfl, ⟨hsz, hP, hK, hD0⟩, hX, hbl⟩ := hv
  subst hsz
  have hD := hD0.self (sz := s.heap.size)
  have hl := lv_entry [.ref ad, .int k] (n := 2) (Nat.le_of_ble_eq_true rfl)
  rw [lg_entry_eq]
  generalize (lg_sl ([.ref ad, .int k]) ++ List.replicate (2 - (lg_sl ([.ref ad, .int k])).length) Slot.unset).toArray = ls at hl ⊢
  have hl : lv_has ls 2 [(0, .ref ad), (1, .int k)] := hl
  have hS : va_S (va_A [] s.heap.size) s.heap s.heap [] := va_S.rf
  have hbA : ¬ va_A [] s.heap.size ad := fun h => absurd hbl (Nat.not_lt.mpr (va_A0 h))
  have hx := B.exec
  have hb := B.bytes
  have hr := B.returns
  have hlocks := B.notSynchronized
  show W p l e rm_L_cell s m _ below meth c s.heap [] 0 0 (FI D below _ s [] r (va_A [] s.heap.size)) (F0 m 0 ls [])
  unfold f_L_cell at h
  refine lv_iload_n hx hb dL_cell_0 rfl (lv_at hl 1 rfl) ?_
  refine lv_aload_n hx hb dL_cell_1 rfl (lv_at hl 0 rfl) ?_
  refine va_slen hx hb hX hbl hbA hS dL_cell_2 ?_
  refine lv_icmp_ge (tgt := 12) hx hb dL_cell_3 (by decide) (fun q1 => ?_) (fun q1 => ?_)
  · replace h := it_some q1 h
    refine lv_sipush (v := 7919) hx hb dL_cell_12 (by decide) ?_
    refine lv_iload_n hx hb dL_cell_15 rfl (lv_at hl 1 rfl) ?_
    refine lv_iconst (v := 3) hx hb dL_cell_16 (by decide) ?_
    refine lv_iadd hx hb dL_cell_17 ?_
    refine lv_imul hx hb dL_cell_18 ?_
    refine lv_iload_n hx hb dL_cell_19 rfl (lv_at hl 1 rfl) ?_
    refine lv_bipush (v := 11) hx hb dL_cell_20 (by decide) ?_
    refine lv_iadd hx hb dL_cell_22 ?_
    refine lv_imul hx hb dL_cell_23 ?_
    cases h
    exact ret_i hx hb hr hlocks hP hD hS dL_cell_24 rfl
  · replace h := if_some q1 h
    obtain ⟨v, h⟩ := rd_some h
    refine lv_aload_n hx hb dL_cell_6 rfl (lv_at hl 0 rfl) ?_
    refine lv_iload_n hx hb dL_cell_7 rfl (lv_at hl 1 rfl) ?_
    refine va_sld hx hb hX hbl hbA hS v dL_cell_8 ?_
    refine lv_goto (tgt := 24) hx hb dL_cell_9 (by decide) ?_
    cases h
    exact ret_i hx hb hr hlocks hP hD hS dL_cell_24 rfl
theorem law_end {p : Program} {l : Launch} {e : Env} {s : State} {m : MethodId} {below : List Frame} {meth : Method} {c : Code} {A : Nat → Prop} {b pc : Nat} {H : Heap} {locs : List Loc} {ls : Array Slot} (hx : p.tables.exec = Jvm.exec) (hb : c.code = code) (hr : meth.sig.returnType = ret) (hlocks : meth.locks = false) (hS : va_S A s.heap H locs) (hAs : ∀ q, A q → s.heap.size ≤ q) (hdg : decode code pc = .ok (.ireturn, 1)) : W p l e room_1 s m #[Value.ref b] below meth c H locs 600172 7300668 (lw_Z below #[Value.ref b] s) (F0 m pc ls [.int 1]) :=
  va_forget (fun q hq => hAs _ (hS.2.2 q hq)) (lw_ret hx hb hr hlocks hdg)
