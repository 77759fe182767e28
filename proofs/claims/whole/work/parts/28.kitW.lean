-- ===== the law's wrappers: they catch =====
def CWI (l : Launch) (y : MethodName) (b : ByteArray) (n : Nat) (rm : Room) (tb : List (Nat × Nat × Nat × Nat)) (D : va_G) (cI cS cL : ClassId) (as : List Value) (w w' : va_W) (r : Int32) : Prop :=
  ∀ sz, Met l y (Cond.codeWith y b n (some .int) tb :: GW) rm (va_Pc as (preX_ D cI cS cL w sz)) (va_Qi (fun r' (_ : Unit) => r' = r) (fun _ t => at_ D w w' sz t) (va_A w sz)) 1 6 (va_A w sz)
def FW (D : va_G) (below : List Frame) (args : Array Value) (s : State) (w' : va_W) (r : Int32) (A : Nat → Prop) : State → Prop := vx_MQ below (va_Qi (fun r' (_ : Unit) => r' = r) (fun _ t => va_P D vwCl w' t.heap ∧ va_D A w') A) (fun _ _ _ => False) args s 1 6 A
theorem met_of_vx {l : Launch} {y : MethodName} {ws : List Cond} {rm : Room} {Pc : Array Value → State → Prop} {Qc : Array Value → State → Outcome → State → Prop} {mc ms : Nat} {free : Addr → Prop} (h : vx_Met l y ws rm Pc Qc (fun _ _ _ => False) mc ms free) : Met l y ws rm Pc Qc mc ms free := by
  refine MetFree.mono h (fun _ _ h => h) (fun _ _ _ _ _ h => h) (fun a s o s' _ hq => ?_)
  rcases hq with h1 | ⟨q, -, E, ce, L, hf, -⟩
  · exact h1
  · exact hf.elim
set_option maxRecDepth 100000 in
theorem ent_w {l : Launch} {y : MethodName} {b : ByteArray} {n : Nat} {rm : Room} {tb : List (Nat × Nat × Nat × Nat)} {D : va_G} {cI cS cL : ClassId} {as : List Value} {w w' : va_W} {r : Int32} (hy : plainName y.cls = true) (hn : (lg_sl as).length ≤ n)
    (body : ∀ (p : Program) (e : Env) (s : State) (m : MethodId) (args : Array Value) (below : List Frame) (meth : Method) (c : Code) (A : Nat → Prop) (ls : Array Slot), p.tables.exec = Jvm.exec → c.code = b → meth.sig.returnType = some .int → c.maxLocals = n → meth.locks = false → (∀ w ∈ GW, w.before args s = true) → s.vm.findClass y.cls = some m.cls → kk_ D cI cS cL s → va_P D vwCl w s.heap → va_D A w → va_S A s.heap s.heap [] → (∀ q, s.heap.size ≤ q → A q) → lv_has ls n (lv_args 0 as) → c.exceptionTable.toList = tableOf tb → zz_ A s s.heap → W p l e rm s m args below meth c s.heap [] 0 0 (FW D below args s w' r A) (F0 m 0 ls [])) : CWI l y b n rm tb D cI cS cL as w w' r := by
  intro sz
  refine met_of_vx (vx_ofWH (cc := b) (maxL := n) (ret := some .int) (hh := tb) hy rfl ?_)
  intro p e s m args below meth c s₁ B hml hv
  obtain ⟨rfl, ⟨hsz, hP, hK, hD0⟩, hZ⟩ := hv
  have hts := atoms_spec (ws := Cond.codeWith y b n (some .int) tb :: GW) B.pre
  have htab := vx_table (x := y) B (hts _ List.mem_cons_self)
  have hown : s.vm.findClass y.cls = some m.cls := findClass_of_methodNamed B.named
  subst hsz
  have hD := hD0.self (sz := s.heap.size)
  have hl := lv_entry as (n := n) hn
  rw [lg_entry_eq]
  exact body p e s m as.toArray below meth c (va_A w s.heap.size) _ B.exec B.bytes B.returns hml B.notSynchronized (fun w hw => hts w (List.mem_cons_of_mem _ hw)) hown hK hP hD va_S.rf (fun q h => Or.inr h) hl htab hZ
section WRAP
variable {p : Program} {l : Launch} {e : Env} {R : Room} {s : State} {m : MethodId} {args : Array Value} {below : List Frame} {meth : Method} {c : Code} {H : Heap} {locs : List Loc} {cells slots : Nat} {Q : State → Prop}
variable {D : va_G} {cI cS cL : ClassId} {A : Nat → Prop} {ws ws' wc wc' wr : va_W} {ls : Array Slot} {rest st : List Value} {pc index nL n maxL mc ms : Nat} {cc bts : ByteArray} {own C host : String} {y : MethodName} {ret : Option FieldType} {rm : Room} {As : List Value} {b ci : Nat} {fs : List Value}
theorem ret_w {v r : Int32} (hx : p.tables.exec = Jvm.exec) (hb : c.code = cc) (hr : meth.sig.returnType = some .int) (hlocks : meth.locks = false) (hP : va_P D vwCl wc' H) (hD : va_D A wc') (hS : va_S A s.heap H locs) (hc : cells ≤ 1) (hs : slots ≤ 6) (hdg : decode cc pc = .ok (.ireturn, 1)) (hv : v = r) : W p l e R s m args below meth c H locs cells slots (FW D below args s wc' r A) (F0 m pc ls [.int v]) :=
  W.widen hc hs (vx_ret (W.iret hx hb hr (fun t ht hW => ⟨⟨v, (), rfl, hv, by rw [ht]; exact hP, hD⟩, hS.F ht⟩) hS.2.2 hdg hlocks))
theorem cX_i {E0 name : String} {q : vw_C} (hx : p.tables.exec = Jvm.exec) (hb : c.code = cc) (hml : c.maxLocals = nL) (hown : s.vm.findClass own = some m.cls) (hg : ∀ w ∈ GW, w.before args s = true) (hK : kk_ D cI cS cL s) (hP : va_P D vwCl ws H) (hD : va_D A ws) (hS : va_S A s.heap H locs) (hA : ∀ q, s.heap.size ≤ q → A q) (hsz : ls.size = nL) (hZ : zz_ A s s.heap)
    (hM : CTj l y bts maxL ret rm D cI cS cL (.ref b :: As) wc wc' E0) (hm : gm_ y bts maxL ret n) (hl : Cond.methodLink own index y ∈ GW) (hR : rm.cells = 1 ∧ rm.slots = 6 ∧ rm.frames + 1 ≤ R.frames ∧ 8 + (maxL + 11) + rm.locals ≤ R.locals) (hroom : cells + 1 ≤ R.cells ∧ slots + 6 ≤ R.slots) (hp : ws.Perm (wc ++ wr)) (hp' : ws'.Perm (wc' ++ wr)) (hf : wc'.map Prod.fst = wc.map Prod.fst) (hci : vwCl[ci]? = some q) (hq : q.1 = y.cls) (hrecv : wc[0]? = some (b, .inr (ci, fs))) (hn : As.length = n) (hst : st = As.reverse ++ .ref b :: rest) (hW : (rest.map fun v => v.category).sum ≤ 8) (hdg : decode cc pc = .ok (.invokevirtual index, 3))
    (pre : List ExceptionTableEntry) (x : ExceptionTableEntry) (suf : List ExceptionTableEntry) (hsplit : c.exceptionTable.toList = pre ++ x :: suf) (hpass : ∀ z ∈ pre, covers z pc = false ∨ (z.catchType ≠ 0 ∧ ∃ nm : String, (Cond.classLink own z.catchType nm).before args s = true ∧ va_Nc E0 nm s)) (hcov : covers x pc = true) (h0 : x.catchType ≠ 0) (hlink : (Cond.classLink own x.catchType name).before args s = true) (hcast : (Cond.castable E0 name).before args s = true)
    (kk : ∀ (q9 : Addr) (H1 : Heap) (locs1 : List Loc), va_P D vwCl ws' H1 → va_D A ws' → va_S A s.heap H1 locs1 → W p l e R s m args below meth c H1 locs1 (cells + 1) (slots + 6) Q (F0 m x.handlerPc ls [.ref q9])) : W p l e R s m args below meth c H locs cells slots Q (F0 m pc ls st) := by
  have hPc := va_P_left (va_P_perm hp hP)
  have hDc := va_D_left (va_D_perm hp hD)
  have hFc := va_freeQ hD hS hA hp
  have hZ1 : zz_ A s H := zz_kept hZ hS.2.1
  have hpre := preXV_ (s := s) (As := As) hK hPc hDc (zz_narrow hZ1 hFc) hci hrecv
  rw [hq] at hpre
  refine vx_calli (vx_runV (As := As) (rest := rest) ⟨hx, hb, hml, hown, hg⟩ (hM H.size) (cwV n hg (gdV hl hm) rfl hR.1 hR.2.1 ⟨rfl, hm.2.2.2.2⟩ hR.2.2) hpre rfl hn hsz hst (lv_room hW) hdg hroom) hS (fun q _ h => hFc q h) hFc (fun q _ h => hFc q h) (fun E ce q9 u t H1 locs1 ht hvm hpx hBX hz1 hk1 hS1 hc1 hv1 hcl1 => ?_) (fun r u t H1 locs1 ht hvm hw => hw.elim)
  obtain ⟨rfl, hP1, -⟩ := hBX
  rw [ht] at hP1
  obtain ⟨hP2, hD2⟩ := put_backP hP hD hp hp' hf hk1 hP1
  exact vx_catch hown pre x suf hsplit hpass hcov h0 hlink hcast hc1 hv1 hcl1 (kk q9 H1 locs1 hP2 hD2 hS1)
end WRAP
theorem pm_o {α : Type} {o : α} {w : List α} : (o :: w).Perm (w ++ [o]) := (List.perm_append_singleton o w).symm
