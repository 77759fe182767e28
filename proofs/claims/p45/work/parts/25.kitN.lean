-- ===== constructors: cells come =====
theorem cA_int {D : va_G} {tys : List (ClassId × FieldType)} {s : State} {cA cI : ClassId} {k j : Nat} (h : va_K D vwCl tys s) (h1 : tys[k]? = some (cA, .int)) (h2 : tys[j]? = some (cI, .int)) : cA = cI := by
  have a : s.vm.findClass ("[" ++ FieldType.int.toString) = some cA := (h.2 k _ h1).2
  have b : s.vm.findClass ("[" ++ FieldType.int.toString) = some cI := (h.2 j _ h2).2
  exact Option.some.inj (a.symm.trans b)
theorem cA_long {D : va_G} {tys : List (ClassId × FieldType)} {s : State} {cA cI : ClassId} {k j : Nat} (h : va_K D vwCl tys s) (h1 : tys[k]? = some (cA, .long)) (h2 : tys[j]? = some (cI, .long)) : cA = cI := by
  have a : s.vm.findClass ("[" ++ FieldType.long.toString) = some cA := (h.2 k _ h1).2
  have b : s.vm.findClass ("[" ++ FieldType.long.toString) = some cI := (h.2 j _ h2).2
  exact Option.some.inj (a.symm.trans b)
theorem cA_obj {D : va_G} {tys : List (ClassId × FieldType)} {s : State} {cA cI : ClassId} {k j : Nat} {C : String} (h : va_K D vwCl tys s) (h1 : tys[k]? = some (cA, .object C)) (h2 : tys[j]? = some (cI, .object C)) : cA = cI := by
  obtain ⟨kA, comp, -, -, -, a⟩ := (h.2 k _ h1).2
  obtain ⟨kB, comp2, -, -, -, b⟩ := (h.2 j _ h2).2
  exact Option.some.inj (a.symm.trans b)
def CN (l : Launch) (y : MethodName) (b : ByteArray) (n : Nat) (rm : Room) (D : va_G) (cI cS cL : ClassId) (as : List Value) (w : va_W) (Wf : (Nat → Nat) → va_W) (mc ms : Nat) : Prop :=
  ∀ sz, Met l y (Cond.code y b n none :: GW) rm (va_Pc as (pre_ D cI cS cL w sz)) (va_Qv (fun (_ : Nat → Nat) => True) (fun hh t => va_P D vwCl (Wf hh) t.heap ∧ va_D (va_A w sz) (Wf hh)) (va_A w sz)) mc ms (va_A w sz)
def FN (D : va_G) (below : List Frame) (args : Array Value) (s : State) (Wf : (Nat → Nat) → va_W) (A : Nat → Prop) (mc ms : Nat) : State → Prop := MQ below (va_Qv (fun (_ : Nat → Nat) => True) (fun hh t => va_P D vwCl (Wf hh) t.heap ∧ va_D A (Wf hh)) A) args s mc ms A
set_option maxRecDepth 100000 in
theorem ent_n {l : Launch} {y : MethodName} {b : ByteArray} {n : Nat} {rm : Room} {D : va_G} {cI cS cL : ClassId} {as : List Value} {w : va_W} {Wf : (Nat → Nat) → va_W} {mc ms : Nat} (hy : plainName y.cls = true) (hyn : y.name = "<init>") (hn : (lg_sl as).length ≤ n)
    (body : ∀ (p : Program) (e : Env) (s : State) (m : MethodId) (args : Array Value) (below : List Frame) (meth : Method) (c : Code) (A : Nat → Prop) (ls : Array Slot), p.tables.exec = Jvm.exec → c.code = b → meth.sig.returnType = none → c.maxLocals = n → meth.locks = false → (∀ w ∈ GW, w.before args s = true) → s.vm.findClass y.cls = some m.cls → kk_ D cI cS cL s → va_P D vwCl w s.heap → va_D A w → va_S A s.heap s.heap [] → (∀ q, s.heap.size ≤ q → A q) → lv_has ls n (lv_args 0 as) → meth.name = "<init>" → W p l e rm s m args below meth c s.heap [] 0 0 (FN D below args s Wf A mc ms) (F0 m 0 ls [])) : CN l y b n rm D cI cS cL as w Wf mc ms := by
  intro sz
  refine Met.ofW (cc := b) (maxL := n) (ret := none) hy rfl ?_
  intro p e s m args below meth c s₁ B hml hv
  obtain ⟨rfl, hsz, hP, hK, hD0⟩ := hv
  have hts := atoms_spec (ws := Cond.code y b n none :: GW) B.pre
  have hown : s.vm.findClass y.cls = some m.cls := findClass_of_methodNamed B.named
  have hin : meth.name = y.name := (name_of_methodNamed B.named B.method).1
  subst hsz
  have hD := hD0.self (sz := s.heap.size)
  have hl := lv_entry as (n := n) hn
  rw [lg_entry_eq]
  exact body p e s m as.toArray below meth c (va_A w s.heap.size) _ B.exec B.bytes B.returns hml B.notSynchronized (fun w hw => hts w (List.mem_cons_of_mem _ hw)) hown hK hP hD va_S.rf (fun q h => Or.inr h) hl (hin.trans hyn)
section NEWS
variable {p : Program} {l : Launch} {e : Env} {R : Room} {s : State} {m : MethodId} {args : Array Value} {below : List Frame} {meth : Method} {c : Code} {H H0 : Heap} {locs : List Loc} {cells slots : Nat} {Q : State → Prop}
variable {D : va_G} {cI cS cL : ClassId} {A : Nat → Prop} {ws ws' wc wc' wr : va_W} {ls : Array Slot} {rest st : List Value} {pc index nL n maxL mc ms : Nat} {cc bts : ByteArray} {own C host : String} {y : MethodName} {rm : Room} {As : List Value} {b ci : Nat} {fs : List Value} {Wf : (Nat → Nat) → va_W}
theorem ret_n (hh : Nat → Nat) (hx : p.tables.exec = Jvm.exec) (hb : c.code = cc) (hr : meth.sig.returnType = none) (hlocks : meth.locks = false) (hP : va_P D vwCl (Wf hh) H) (hD : va_D A (Wf hh)) (hS : va_S A s.heap H locs) (hc : cells ≤ mc) (hs : slots ≤ ms) (hdg : decode cc pc = .ok (.return_, 1)) : W p l e R s m args below meth c H locs cells slots (FN D below args s Wf A mc ms) (F0 m pc ls []) :=
  W.widen hc hs (W.vret hx hb hr (fun t ht hW => ⟨⟨hh, rfl, trivial, by rw [ht]; exact hP, hD⟩, hS.F ht⟩) hS.2.2 hdg hlocks)
theorem cal_n {a : Array Value} (hr : va_Run p l e R s m args below meth c H locs cells slots mc ms (F0 m pc ls st) rest (va_Qv (fun (_ : Nat → Nat) => True) (fun hh t => va_P D vwCl (Wf hh) t.heap ∧ va_D (va_A wc H.size) (Wf hh)) (va_A wc H.size) a) (va_A wc H.size)) (hP : va_P D vwCl ws H) (hD : va_D A ws) (hS : va_S A H0 H locs) (hA : ∀ q, H0.size ≤ q → A q) (hp : ws.Perm (wc ++ wr))
    (kk : ∀ (hh : Nat → Nat) (H1 : Heap) (locs1 : List Loc), va_P D vwCl (wr ++ Wf hh) H1 → va_D A (wr ++ Wf hh) → va_S A H0 H1 locs1 → W p l e R s m args below meth c H1 locs1 (cells + mc) (slots + ms) Q (F0 m (pc + 3) ls rest)) : W p l e R s m args below meth c H locs cells slots Q (F0 m pc ls st) := by
  have hFc := va_freeQ hD hS hA hp
  have hP2 := va_P_perm hp hP
  have hD2 := va_D_perm hp hD
  have hDn := va_D_nd.mp hD2
  rw [List.map_append, List.nodup_append] at hDn
  refine va_callv hr hS (fun q _ h => hFc q h) hFc (fun hh t H1 locs1 ht hvm hw hB hz1 hk1 hS1 => ?_)
  obtain ⟨hP1, hD1⟩ := hB
  rw [ht] at hP1
  have hD1n := va_D_nd.mp hD1
  have keep : ∀ q ∈ wr, q.1 < H.size ∧ ¬ va_A wc H.size q.1 := fun q hq => by
    have hat := va_P_mem.mp hP2 q (List.mem_append_right _ hq)
    refine ⟨hat.lt, fun hA => ?_⟩
    rcases va_A_mem hA with h1 | h1
    · exact hDn.1.2.2 _ h1 _ (List.mem_map.mpr ⟨q, hq, rfl⟩) rfl
    · exact absurd hat.lt (Nat.not_lt.mpr h1)
  refine kk hh H1 locs1 (va_P_mem.mpr fun q hq => ?_) (va_D_nd.mpr ⟨?_, fun q hq => ?_⟩) hS1
  · rcases List.mem_append.mp hq with h | h
    · obtain ⟨k1, k2⟩ := keep q h
      exact (va_P_mem.mp hP2 q (List.mem_append_right _ h)).kept (hk1 q.1 k1 k2)
    · exact va_P_mem.mp hP1 q h
  · rw [List.map_append, List.nodup_append]
    refine ⟨hDn.1.2.1, hD1n.1, fun a ha b hb hab => ?_⟩
    obtain ⟨q, hq, rfl⟩ := List.mem_map.mp ha
    obtain ⟨q2, hq2, rfl⟩ := List.mem_map.mp hb
    exact (keep q hq).2 (by rw [hab]; exact hD1n.2 q2 hq2)
  · rcases List.mem_append.mp hq with h | h
    · exact hDn.2 q (List.mem_append_right _ h)
    · exact hFc _ (hD1n.2 q h)
/-- 'invokespecial <init>', by a plain link, or a nest mate's -/
theorem cI_n (hx : p.tables.exec = Jvm.exec) (hb : c.code = cc) (hml : c.maxLocals = nL) (hown : s.vm.findClass own = some m.cls) (hg : ∀ w ∈ GW, w.before args s = true) (hK : kk_ D cI cS cL s) (hP : va_P D vwCl ws H) (hD : va_D A ws) (hS : va_S A H0 H locs) (hA : ∀ q, H0.size ≤ q → A q) (hsz : ls.size = nL)
    (hM : CN l y bts maxL rm D cI cS cL (.ref b :: As) wc Wf mc ms) (hyn : y.name = "<init>") (hin : Cond.instanceMethod y ∈ GW) (hini : Cond.initialized y.cls ∈ GW) (hco : Cond.code y bts maxL none ∈ GW) (hd : y.cls ≠ "java/lang/invoke/MethodHandle" ∧ y.cls ≠ "java/lang/invoke/VarHandle" ∧ (parseMethodDescriptor y.desc).map (fun d => d.parameters.length) = some n) (hl : Cond.methodLink own index y ∈ GW) (hR : rm.cells = mc ∧ rm.slots = ms ∧ rm.frames + 1 ≤ R.frames ∧ 8 + (maxL + 11) + rm.locals ≤ R.locals) (hroom : cells + mc ≤ R.cells ∧ slots + ms ≤ R.slots) (hp : ws.Perm (wc ++ wr)) (hn : As.length = n) (hst : st = As.reverse ++ .ref b :: rest) (hW : (rest.map fun v => v.category).sum ≤ 8) (hdg : decode cc pc = .ok (.invokespecial index, 3))
    (kk : ∀ (hh : Nat → Nat) (H1 : Heap) (locs1 : List Loc), va_P D vwCl (wr ++ Wf hh) H1 → va_D A (wr ++ Wf hh) → va_S A H0 H1 locs1 → W p l e R s m args below meth c H1 locs1 (cells + mc) (slots + ms) Q (F0 m (pc + 3) ls rest)) : W p l e R s m args below meth c H locs cells slots Q (F0 m pc ls st) := by
  have hpre := preS_ (s := s) (as := .ref b :: As) hK (va_P_left (va_P_perm hp hP)) (va_D_left (va_D_perm hp hD))
  exact cal_n (va_runI (As := As) (rest := rest) ⟨hx, hb, hml, hown, hg⟩ (hM H.size) (cwI n hg (gdC hco) rfl hR.1 hR.2.1 (hg _ hini) (hg _ hl) (hg _ hin) hyn hd hR.2.2) hpre rfl hn hsz hst (lv_room hW) hdg hroom) hP hD hS hA hp kk
theorem cJ_n (hx : p.tables.exec = Jvm.exec) (hb : c.code = cc) (hml : c.maxLocals = nL) (hown : s.vm.findClass own = some m.cls) (hg : ∀ w ∈ GW, w.before args s = true) (hK : kk_ D cI cS cL s) (hP : va_P D vwCl ws H) (hD : va_D A ws) (hS : va_S A H0 H locs) (hA : ∀ q, H0.size ≤ q → A q) (hsz : ls.size = nL)
    (hM : CN l y bts maxL rm D cI cS cL (.ref b :: As) wc Wf mc ms) (hyn : y.name = "<init>") (hin : Cond.instanceMethod y ∈ GW) (hini : Cond.initialized y.cls ∈ GW) (hco : Cond.code y bts maxL none ∈ GW) (hd : y.cls ≠ "java/lang/invoke/MethodHandle" ∧ y.cls ≠ "java/lang/invoke/VarHandle" ∧ (parseMethodDescriptor y.desc).map (fun d => d.parameters.length) = some n) (hl : Cond.methodLinkNest own index y host ∈ NW) (hR : rm.cells = mc ∧ rm.slots = ms ∧ rm.frames + 1 ≤ R.frames ∧ 8 + (maxL + 11) + rm.locals ≤ R.locals) (hroom : cells + mc ≤ R.cells ∧ slots + ms ≤ R.slots) (hp : ws.Perm (wc ++ wr)) (hn : As.length = n) (hst : st = As.reverse ++ .ref b :: rest) (hW : (rest.map fun v => v.category).sum ≤ 8) (hdg : decode cc pc = .ok (.invokespecial index, 3))
    (kk : ∀ (hh : Nat → Nat) (H1 : Heap) (locs1 : List Loc), va_P D vwCl (wr ++ Wf hh) H1 → va_D A (wr ++ Wf hh) → va_S A H0 H1 locs1 → W p l e R s m args below meth c H1 locs1 (cells + mc) (slots + ms) Q (F0 m (pc + 3) ls rest)) : W p l e R s m args below meth c H locs cells slots Q (F0 m pc ls st) := by
  have hpre := preS_ (s := s) (as := .ref b :: As) hK (va_P_left (va_P_perm hp hP)) (va_D_left (va_D_perm hp hD))
  exact cal_n (va_runIN (As := As) (rest := rest) ⟨hx, hb, hml, hown, hg⟩ (hM H.size) ⟨va_cnB n hg (gdC hco) rfl hR.1 hR.2.1 (hK.2.1 _ hl) (hg _ hini) hd hR.2.2, hyn, hg _ hin⟩ hpre rfl hn hsz hst (lv_room hW) hdg hroom) hP hD hS hA hp kk
end NEWS
