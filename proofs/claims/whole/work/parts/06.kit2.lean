-- ===== exceptions: what a method that may throw is given, and owes =====
def zz_ (A : Nat → Prop) (U : State) (H : Heap) : Prop := vx_Zq Bundle.tN "UNASSIGNED_STACK" Bundle.steD A U H ∧ vx_Zq Bundle.tN "SUPPRESSED_SENTINEL" Bundle.listD A U H
theorem zz_moved {A : Nat → Prop} {u U : State} {H : Heap} (hvm : u.vm.Alike U.vm) (h : zz_ A u H) : zz_ A U H := ⟨vx_Zq.moved hvm h.1, vx_Zq.moved hvm h.2⟩
theorem zz_kept {A : Nat → Prop} {U : State} {H H1 : Heap} (h : zz_ A U H) (hq : ∀ a : Nat, a < H.size → ¬ A a → H1[a]? = H[a]?) : zz_ A U H1 := ⟨vx_Zq.kept h.1 hq, vx_Zq.kept h.2 hq⟩
theorem zz_narrow {A B : Nat → Prop} {U : State} {H : Heap} (h : zz_ A U H) (hAB : ∀ q, B q → A q) : zz_ B U H := ⟨vx_Zq.narrow h.1 hAB, vx_Zq.narrow h.2 hAB⟩
def preX_ (D : va_G) (cI cS cL : ClassId) (ws : va_W) (sz : Nat) (U : State) : Prop := pre_ D cI cS cL ws sz U ∧ zz_ (va_A ws sz) U U.heap
def XT (D : va_G) (w : va_W) (E0 : String) (A : Nat → Prop) : String → State → State → Prop := vx_X (fun (_ : Unit) => True) (fun E _ t => E = E0 ∧ va_P D vwCl w t.heap ∧ va_D A w) A
/-- it throws E0, and the world is as it was: no answer (int, long: 'CTi'; void: 'CTv') -/
def CTi (l : Launch) (y : MethodName) (b : ByteArray) (n : Nat) (ret : Option FieldType) (rm : Room) (D : va_G) (cI cS cL : ClassId) (as : List Value) (w : va_W) (E0 : String) : Prop :=
  ∀ sz, vx_Met l y (Cond.code y b n ret :: GW) rm (va_Pc as (preX_ D cI cS cL w sz)) (va_Qi (fun _ (_ : Unit) => False) (fun _ _ => False) (va_A w sz)) (XT D w E0 (va_A w sz)) 1 6 (va_A w sz)
def CTv (l : Launch) (y : MethodName) (b : ByteArray) (n : Nat) (ret : Option FieldType) (rm : Room) (D : va_G) (cI cS cL : ClassId) (as : List Value) (w : va_W) (E0 : String) : Prop :=
  ∀ sz, vx_Met l y (Cond.code y b n ret :: GW) rm (va_Pc as (preX_ D cI cS cL w sz)) (va_Qv (fun (_ : Unit) => False) (fun _ _ => False) (va_A w sz)) (XT D w E0 (va_A w sz)) 1 6 (va_A w sz)
abbrev FT (D : va_G) (below : List Frame) (Qc : Array Value → State → Outcome → State → Prop) (args : Array Value) (s : State) (w : va_W) (E0 : String) (A : Nat → Prop) : State → Prop := vx_MQ below Qc (XT D w E0 A) args s 1 6 A
abbrev BDT (l : Launch) (y : MethodName) (b : ByteArray) (n : Nat) (ret : Option FieldType) (rm : Room) (D : va_G) (cI cS cL : ClassId) (as : List Value) (w : va_W) (F : List Frame → Array Value → State → (Nat → Prop) → State → Prop) : Prop :=
  ∀ (p : Program) (e : Env) (s : State) (m : MethodId) (args : Array Value) (below : List Frame) (meth : Method) (c : Code) (A : Nat → Prop) (ls : Array Slot), p.tables.exec = Jvm.exec → c.code = b → meth.sig.returnType = ret → c.maxLocals = n → meth.locks = false → (∀ w ∈ GW, w.before args s = true) → s.vm.findClass y.cls = some m.cls → kk_ D cI cS cL s → va_P D vwCl w s.heap → va_D A w → va_S A s.heap s.heap [] → (∀ q, s.heap.size ≤ q → A q) → lv_has ls n (lv_args 0 as) → (∀ x ∈ c.exceptionTable.toList, False) → zz_ A s s.heap → W p l e rm s m args below meth c s.heap [] 0 0 (F below args s A) (F0 m 0 ls [])
set_option maxRecDepth 100000 in
theorem ent_ti {l : Launch} {y : MethodName} {b : ByteArray} {n : Nat} {ret : Option FieldType} {rm : Room} {D : va_G} {cI cS cL : ClassId} {as : List Value} {w : va_W} {E0 : String} (hy : plainName y.cls = true) (hn : (lg_sl as).length ≤ n)
    (body : BDT l y b n ret rm D cI cS cL as w (fun below args s A => FT D below (va_Qi (fun _ (_ : Unit) => False) (fun _ _ => False) A) args s w E0 A)) : CTi l y b n ret rm D cI cS cL as w E0 := by
  intro sz
  refine vx_ofW (cc := b) (maxL := n) (ret := ret) hy rfl ?_
  intro p e s m args below meth c s₁ B hml htab hv
  obtain ⟨rfl, ⟨hsz, hP, hK, hD0⟩, hZ⟩ := hv
  have hts := atoms_spec (ws := Cond.code y b n ret :: GW) B.pre
  have hown : s.vm.findClass y.cls = some m.cls := findClass_of_methodNamed B.named
  subst hsz
  have hD := hD0.self (sz := s.heap.size)
  have hl := lv_entry as (n := n) hn
  rw [lg_entry_eq]
  exact body p e s m as.toArray below meth c (va_A w s.heap.size) _ B.exec B.bytes B.returns hml B.notSynchronized (fun w hw => hts w (List.mem_cons_of_mem _ hw)) hown hK hP hD va_S.rf (fun q h => Or.inr h) hl htab hZ
set_option maxRecDepth 100000 in
theorem ent_tv {l : Launch} {y : MethodName} {b : ByteArray} {n : Nat} {ret : Option FieldType} {rm : Room} {D : va_G} {cI cS cL : ClassId} {as : List Value} {w : va_W} {E0 : String} (hy : plainName y.cls = true) (hn : (lg_sl as).length ≤ n)
    (body : BDT l y b n ret rm D cI cS cL as w (fun below args s A => FT D below (va_Qv (fun (_ : Unit) => False) (fun _ _ => False) A) args s w E0 A)) : CTv l y b n ret rm D cI cS cL as w E0 := by
  intro sz
  refine vx_ofW (cc := b) (maxL := n) (ret := ret) hy rfl ?_
  intro p e s m args below meth c s₁ B hml htab hv
  obtain ⟨rfl, ⟨hsz, hP, hK, hD0⟩, hZ⟩ := hv
  have hts := atoms_spec (ws := Cond.code y b n ret :: GW) B.pre
  have hown : s.vm.findClass y.cls = some m.cls := findClass_of_methodNamed B.named
  subst hsz
  have hD := hD0.self (sz := s.heap.size)
  have hl := lv_entry as (n := n) hn
  rw [lg_entry_eq]
  exact body p e s m as.toArray below meth c (va_A w s.heap.size) _ B.exec B.bytes B.returns hml B.notSynchronized (fun w hw => hts w (List.mem_cons_of_mem _ hw)) hown hK hP hD va_S.rf (fun q h => Or.inr h) hl htab hZ
section THR
variable {p : Program} {l : Launch} {e : Env} {R : Room} {s : State} {m : MethodId} {args : Array Value} {below : List Frame} {meth : Method} {c : Code} {H H0 : Heap} {locs : List Loc} {cells slots : Nat} {Q : State → Prop}
variable {D : va_G} {cI cS cL : ClassId} {A : Nat → Prop} {ws wc wc' : va_W} {ls : Array Slot} {rest st : List Value} {pc index nL n maxL : Nat} {cc bts : ByteArray} {Ts : List Cond} {own C host : String} {y : MethodName} {ret : Option FieldType} {rm : Room} {As : List Value} {b ci : Nat} {fs : List Value}
theorem blindX_ {as : List Value} {w : va_W} {sz : Nat} : FrameBlind (va_Pc as (preX_ D cI cS cL w sz)) := fun a U g mk q => by
  obtain ⟨h1, ⟨h2, h3, h4, h5⟩, h6⟩ := q
  exact ⟨h1, ⟨h2, h3, kk_call h4, h5⟩, zz_moved (u := U) (U := U.calling g mk a) (Vm.Alike.refl U.vm) h6⟩
theorem preXS_ {as : List Value} (hK : kk_ D cI cS cL s) (hP : va_P D vwCl wc H) (hD : va_D A wc) (hZ : zz_ (va_A wc H.size) s H) : PreS s H (va_Pc as (preX_ D cI cS cL wc H.size)) as :=
  ⟨blindX_, fun U hU hW => ⟨rfl, ⟨by rw [hU], by rw [hU]; exact hP, kk_warm hW hK, hD.weaken (fun _ _ _ _ => trivial)⟩, by rw [hU]; exact zz_moved hW.alike hZ⟩⟩
theorem preXV_ {q : vw_C} (hK : kk_ D cI cS cL s) (hP : va_P D vwCl wc H) (hD : va_D A wc) (hZ : zz_ (va_A wc H.size) s H) (hci : vwCl[ci]? = some q) (hrecv : wc[0]? = some (b, .inr (ci, fs))) : PreV s H q.1 b (va_Pc (.ref b :: As) (preX_ D cI cS cL wc H.size)) As :=
  ⟨blindX_, va_recv hK.1 hP hci hrecv, fun U hU hW => ⟨rfl, ⟨by rw [hU], by rw [hU]; exact hP, kk_warm hW hK, hD.weaken (fun _ _ _ _ => trivial)⟩, by rw [hU]; exact zz_moved hW.alike hZ⟩⟩
/-- a static call that throws, not caught here: the method throws the same -/
theorem cT_out {Qc : Array Value → State → Outcome → State → Prop} {E0 : String} {w : va_W} (hx : p.tables.exec = Jvm.exec) (hb : c.code = cc) (hml : c.maxLocals = nL) (hown : s.vm.findClass own = some m.cls) (hg : ∀ w ∈ GW, w.before args s = true) (hK : kk_ D cI cS cL s) (hP : va_P D vwCl w H) (hD : va_D A w) (hS : va_S A s.heap H locs) (hA : ∀ q, s.heap.size ≤ q → A q) (hsz : ls.size = nL)
    (htab : ∀ x ∈ c.exceptionTable.toList, False) (hZ : zz_ A s s.heap) (hlocks : meth.locks = false) (hM : CTv l y bts maxL ret rm D cI cS cL As [] E0) (hm : gs_ y bts maxL ret n) (hl : Cond.methodLink own index y ∈ GW) (hR : rm.cells = 1 ∧ rm.slots = 6 ∧ rm.frames + 1 ≤ R.frames ∧ 8 + (maxL + 11) + rm.locals ≤ R.locals) (hroom : 0 + 1 ≤ R.cells ∧ 0 + 6 ≤ R.slots) (hn : As.length = n) (hst : st = As.reverse ++ rest) (hW : (rest.map fun v => v.category).sum ≤ 8) (hdg : decode cc pc = .ok (.invokestatic index, 3)) :
    W p l e R s m args below meth c H locs 0 0 (FT D below Qc args s w E0 A) (F0 m pc ls st) := by
  have hF : ∀ q, va_A [] H.size q → A q := fun q h => by
    rcases h with ⟨k, e, h⟩ | h
    · simp at h
    · exact hA q (Nat.le_trans hS.1 h)
  have hZ1 : zz_ A s H := zz_kept hZ hS.2.1
  have hpre := preXS_ (s := s) (as := As) (wc := []) (H := H) hK (fun k q h => by simp at h) (A := fun _ => True) ⟨fun i j p q h => by simp at h, fun k q h => by simp at h⟩ (zz_narrow hZ1 hF)
  refine vx_callv (vx_runS (As := As) (rest := rest) ⟨hx, hb, hml, hown, hg⟩ (hM H.size) (va_cwS n hg (gdS hl hm) rfl hR.1 hR.2.1 hm.2.2.2 hR.2.2) hpre rfl hn hsz hst (lv_room hW) hdg hroom) hS (fun q _ h => hF q h) hF (fun q _ h => hF q h) (fun E ce q9 u t H1 locs1 ht hvm hpx hBX hz1 hk1 hS1 hc1 hv1 hcl1 => ?_) (fun u t H1 locs1 ht hvm hw => hw.elim)
  obtain ⟨rfl, -, -⟩ := hBX
  have hP1 : va_P D vwCl w H1 := hP.kept fun k q hq => hk1 q.1 ((hP k q hq).lt) fun h => by
    rcases h with ⟨k, e, h⟩ | h
    · simp at h
    · exact absurd ((hP _ q hq).lt) (Nat.not_lt.mpr h)
  exact vx_out (fun x hx => (htab x hx).elim) hlocks hc1 hv1 hcl1 (fun t ht _ => ⟨(), trivial, ⟨rfl, by rw [ht]; exact hP1, hD⟩, hS1.F ht⟩) hS1.2.2 (Nat.le_refl _) (Nat.le_refl _)
end THR
theorem map_inl {α β : Type} {x : Option α} {r : α} (h : x.map (Sum.inl (β := β)) = some (.inl r)) : x = some r := by
  cases x with
  | none => cases h
  | some a => cases h; rfl
theorem map_inr {α β : Type} {x : Option α} {r : β} {C : Prop} (h : x.map (Sum.inl (β := β)) = some (.inr r)) : C := by
  cases x with
  | none => cases h
  | some a => cases h
