-- ===== words =====
def mw_nest : Cond → Bool
  | .fieldLinkNest .. => true
  | .methodLinkNest .. => true
  | .declares .. => true
  | .castable .. => true
  | _ => false
def GW : List Cond := lw_tbl.filter goodWord
def NW : List Cond := lw_tbl.filter mw_nest
theorem gw_good {w : Cond} (h : w ∈ GW) : (w.onTables && w.keeps) = true ∨ ∃ ty, w = .arrayClass ty := good_of_word (List.mem_filter.mp h).2
theorem gw_mem {w : Cond} (k : Nat) (h : lw_tbl[k]? = some w) (hg : goodWord w = true) : w ∈ GW := List.mem_filter.mpr ⟨List.mem_of_getElem? h, hg⟩
theorem nw_mem {w : Cond} (k : Nat) (h : lw_tbl[k]? = some w) (hg : mw_nest w = true) : w ∈ NW := List.mem_filter.mpr ⟨List.mem_of_getElem? h, hg⟩
theorem nw_tab {w : Cond} (h : mw_nest w = true) : w.onTables = true := by
  cases w with
  | fieldLinkNest => rfl
  | methodLinkNest => rfl
  | declares => rfl
  | castable => rfl
  | _ => cases h
-- ===== what every method is given of the machine =====
def nc_ (U : State) : Prop := True ∧ True ∧ True ∧ va_AO "GapBuffer$State" U
theorem nc_moved {u U : State} (hvm : u.vm.Alike U.vm) (h : nc_ u) : nc_ U := ⟨trivial, trivial, trivial, va_AO.moved hvm h.2.2.2⟩
def kk_ (D : va_G) (cI cS cL : ClassId) (U : State) : Prop := va_K D vwCl [(cI, .int), (cS, .object "GapBuffer$State"), (cI, .int)] U ∧ (∀ w ∈ NW, va_Nw w U) ∧ nc_ U
theorem kk_warm {D : va_G} {cI cS cL : ClassId} {s U : State} (hW : s.WarmedH U.vm) (h : kk_ D cI cS cL s) : kk_ D cI cS cL U := by
  refine ⟨va_K.moved hW.alike h.1, fun w hw => ?_, nc_moved hW.alike h.2.2⟩
  have h1 := h.2.1 w hw
  have h2 := (List.mem_filter.mp hw).2
  cases w with
  | fieldLinkNest => exact va_Nw.warmF hW h1
  | methodLinkNest => exact va_Nw.warmM hW h1
  | declares => exact va_Nw.warmD hW h1
  | castable => exact va_Nw.warmC hW h1
  | _ => cases h2
theorem kk_call {D : va_G} {cI cS cL : ClassId} {U : State} {g : JFrame} {mk : MethodId} {a : Array Value} (h : kk_ D cI cS cL U) : kk_ D cI cS cL (U.calling g mk a) :=
  ⟨va_K.moved (u := U) (U := U.calling g mk a) (Vm.Alike.refl U.vm) h.1, fun w hw => va_Nw.same (u := U) (U := U.calling g mk a) (nw_tab (List.mem_filter.mp hw).2) rfl (h.2.1 w hw), nc_moved (u := U) (U := U.calling g mk a) (Vm.Alike.refl U.vm) h.2.2⟩
theorem kk_nest {D : va_G} {cI cS cL : ClassId} {s : State} {args : Array Value} {w : Cond} (h : kk_ D cI cS cL s) (hw : w ∈ NW) : w.before args s = true := va_Nw.use (nw_tab (List.mem_filter.mp hw).2) (h.2.1 w hw)
def pre_ (D : va_G) (cI cS cL : ClassId) (ws : va_W) (sz : Nat) (U : State) : Prop := U.heap.size = sz ∧ va_P D vwCl ws U.heap ∧ kk_ D cI cS cL U ∧ va_D (fun _ => True) ws
def at_ (D : va_G) (ws ws' : va_W) (sz : Nat) (t : State) : Prop := va_P D vwCl ws' t.heap ∧ va_D (va_A ws sz) ws'
-- ===== contracts: int, long, void =====
def CI (l : Launch) (y : MethodName) (b : ByteArray) (n : Nat) (ret : Option FieldType) (rm : Room) (D : va_G) (cI cS cL : ClassId) (as : List Value) (w w' : va_W) (r : Int32) : Prop :=
  ∀ sz, Met l y (Cond.code y b n ret :: GW) rm (va_Pc as (pre_ D cI cS cL w sz)) (va_Qi (fun r' (_ : Unit) => r' = r) (fun _ t => at_ D w w' sz t) (va_A w sz)) 0 0 (va_A w sz)
def CJ (l : Launch) (y : MethodName) (b : ByteArray) (n : Nat) (ret : Option FieldType) (rm : Room) (D : va_G) (cI cS cL : ClassId) (as : List Value) (w w' : va_W) (r : Int64) : Prop :=
  ∀ sz, Met l y (Cond.code y b n ret :: GW) rm (va_Pc as (pre_ D cI cS cL w sz)) (va_Ql (fun r' (_ : Unit) => r' = r) (fun _ t => at_ D w w' sz t) (va_A w sz)) 0 0 (va_A w sz)
def CV (l : Launch) (y : MethodName) (b : ByteArray) (n : Nat) (ret : Option FieldType) (rm : Room) (D : va_G) (cI cS cL : ClassId) (as : List Value) (w w' : va_W) : Prop :=
  ∀ sz, Met l y (Cond.code y b n ret :: GW) rm (va_Pc as (pre_ D cI cS cL w sz)) (va_Qv (fun (_ : Unit) => True) (fun _ t => at_ D w w' sz t) (va_A w sz)) 0 0 (va_A w sz)
-- ===== what a body owes at its end =====
def FI (D : va_G) (below : List Frame) (args : Array Value) (s : State) (w' : va_W) (r : Int32) (A : Nat → Prop) : State → Prop := MQ below (va_Qi (fun r' (_ : Unit) => r' = r) (fun _ t => va_P D vwCl w' t.heap ∧ va_D A w') A) args s 0 0 A
def FJ (D : va_G) (below : List Frame) (args : Array Value) (s : State) (w' : va_W) (r : Int64) (A : Nat → Prop) : State → Prop := MQ below (va_Ql (fun r' (_ : Unit) => r' = r) (fun _ t => va_P D vwCl w' t.heap ∧ va_D A w') A) args s 0 0 A
def FV (D : va_G) (below : List Frame) (args : Array Value) (s : State) (w' : va_W) (A : Nat → Prop) : State → Prop := MQ below (va_Qv (fun (_ : Unit) => True) (fun _ t => va_P D vwCl w' t.heap ∧ va_D A w') A) args s 0 0 A
abbrev BD (l : Launch) (y : MethodName) (b : ByteArray) (n : Nat) (ret : Option FieldType) (rm : Room) (D : va_G) (cI cS cL : ClassId) (as : List Value) (w : va_W) (F : List Frame → Array Value → State → (Nat → Prop) → State → Prop) : Prop :=
  ∀ (p : Program) (e : Env) (s : State) (m : MethodId) (args : Array Value) (below : List Frame) (meth : Method) (c : Code) (A : Nat → Prop) (ls : Array Slot), p.tables.exec = Jvm.exec → c.code = b → meth.sig.returnType = ret → c.maxLocals = n → meth.locks = false → (∀ w ∈ GW, w.before args s = true) → s.vm.findClass y.cls = some m.cls → kk_ D cI cS cL s → va_P D vwCl w s.heap → va_D A w → va_S A s.heap s.heap [] → (∀ q, s.heap.size ≤ q → A q) → lv_has ls n (lv_args 0 as) → W p l e rm s m args below meth c s.heap [] 0 0 (F below args s A) (F0 m 0 ls [])
set_option maxRecDepth 100000 in
theorem ent_i {l : Launch} {y : MethodName} {b : ByteArray} {n : Nat} {ret : Option FieldType} {rm : Room} {D : va_G} {cI cS cL : ClassId} {as : List Value} {w w' : va_W} {r : Int32} (hy : plainName y.cls = true) (hn : (lg_sl as).length ≤ n)
    (body : BD l y b n ret rm D cI cS cL as w (fun below args s A => FI D below args s w' r A)) : CI l y b n ret rm D cI cS cL as w w' r := by
  intro sz
  refine Met.ofW (cc := b) (maxL := n) (ret := ret) hy rfl ?_
  intro p e s m args below meth c s₁ B hml hv
  obtain ⟨rfl, hsz, hP, hK, hD0⟩ := hv
  have hts := atoms_spec (ws := Cond.code y b n ret :: GW) B.pre
  have hown : s.vm.findClass y.cls = some m.cls := findClass_of_methodNamed B.named
  subst hsz
  have hD := hD0.self (sz := s.heap.size)
  have hl := lv_entry as (n := n) hn
  rw [lg_entry_eq]
  exact body p e s m as.toArray below meth c (va_A w s.heap.size) _ B.exec B.bytes B.returns hml B.notSynchronized (fun w hw => hts w (List.mem_cons_of_mem _ hw)) hown hK hP hD va_S.rf (fun q h => Or.inr h) hl
set_option maxRecDepth 100000 in
theorem ent_j {l : Launch} {y : MethodName} {b : ByteArray} {n : Nat} {ret : Option FieldType} {rm : Room} {D : va_G} {cI cS cL : ClassId} {as : List Value} {w w' : va_W} {r : Int64} (hy : plainName y.cls = true) (hn : (lg_sl as).length ≤ n)
    (body : BD l y b n ret rm D cI cS cL as w (fun below args s A => FJ D below args s w' r A)) : CJ l y b n ret rm D cI cS cL as w w' r := by
  intro sz
  refine Met.ofW (cc := b) (maxL := n) (ret := ret) hy rfl ?_
  intro p e s m args below meth c s₁ B hml hv
  obtain ⟨rfl, hsz, hP, hK, hD0⟩ := hv
  have hts := atoms_spec (ws := Cond.code y b n ret :: GW) B.pre
  have hown : s.vm.findClass y.cls = some m.cls := findClass_of_methodNamed B.named
  subst hsz
  have hD := hD0.self (sz := s.heap.size)
  have hl := lv_entry as (n := n) hn
  rw [lg_entry_eq]
  exact body p e s m as.toArray below meth c (va_A w s.heap.size) _ B.exec B.bytes B.returns hml B.notSynchronized (fun w hw => hts w (List.mem_cons_of_mem _ hw)) hown hK hP hD va_S.rf (fun q h => Or.inr h) hl
set_option maxRecDepth 100000 in
theorem ent_v {l : Launch} {y : MethodName} {b : ByteArray} {n : Nat} {ret : Option FieldType} {rm : Room} {D : va_G} {cI cS cL : ClassId} {as : List Value} {w w' : va_W} (hy : plainName y.cls = true) (hn : (lg_sl as).length ≤ n)
    (body : BD l y b n ret rm D cI cS cL as w (fun below args s A => FV D below args s w' A)) : CV l y b n ret rm D cI cS cL as w w' := by
  intro sz
  refine Met.ofW (cc := b) (maxL := n) (ret := ret) hy rfl ?_
  intro p e s m args below meth c s₁ B hml hv
  obtain ⟨rfl, hsz, hP, hK, hD0⟩ := hv
  have hts := atoms_spec (ws := Cond.code y b n ret :: GW) B.pre
  have hown : s.vm.findClass y.cls = some m.cls := findClass_of_methodNamed B.named
  subst hsz
  have hD := hD0.self (sz := s.heap.size)
  have hl := lv_entry as (n := n) hn
  rw [lg_entry_eq]
  exact body p e s m as.toArray below meth c (va_A w s.heap.size) _ B.exec B.bytes B.returns hml B.notSynchronized (fun w hw => hts w (List.mem_cons_of_mem _ hw)) hown hK hP hD va_S.rf (fun q h => Or.inr h) hl
-- ===== cells put back in their places =====
def putAt : List Nat → va_W → va_W → va_W
  | [], _, ws => ws
  | _ :: _, [], ws => ws
  | i :: is, x :: xs, ws => putAt is xs (ws.set i x)
theorem putAt_get : ∀ (is : List Nat) (ws xs : va_W), is.length = xs.length → ∀ (k : Nat) (q : Nat × va_E), (putAt is xs ws)[k]? = some q → (∃ j : Nat, is[j]? = some k ∧ xs[j]? = some q) ∨ (ws[k]? = some q ∧ k ∉ is)
  | [], ws, xs, _, k, q, h => Or.inr ⟨h, List.not_mem_nil⟩
  | i :: is, ws, [], hl, k, q, h => by simp at hl
  | i :: is, ws, x :: xs, hl, k, q, h => by
    rcases putAt_get is (ws.set i x) xs (by simpa using hl) k q h with ⟨j, h1, h2⟩ | ⟨h1, h2⟩
    · exact Or.inl ⟨j + 1, by simpa using h1, by simpa using h2⟩
    · by_cases hk : i = k
      · subst hk
        rw [List.getElem?_set] at h1
        by_cases hlt : i < ws.length
        · simp only [if_true, hlt] at h1
          exact Or.inl ⟨0, rfl, h1⟩
        · simp [hlt] at h1
      · rw [List.getElem?_set_ne hk] at h1
        exact Or.inr ⟨h1, fun hm => by
          rcases List.mem_cons.mp hm with e | e
          · exact hk e.symm
          · exact h2 e⟩
theorem map_at {is : List Nat} {ws w : va_W} (hs : is.map (fun i => ws[i]?) = w.map some) {j : Nat} {i : Nat} (h : is[j]? = some i) : ∃ q, w[j]? = some q ∧ ws[i]? = some q := by
  have h1 : (is.map (fun i => ws[i]?))[j]? = (w.map some)[j]? := by rw [hs]
  rw [List.getElem?_map, List.getElem?_map, h] at h1
  cases hw : w[j]? with
  | none => rw [hw] at h1; cases h1
  | some q => rw [hw] at h1; exact ⟨q, rfl, Option.some.inj h1⟩
theorem map_at' {is : List Nat} {ws w : va_W} (hs : is.map (fun i => ws[i]?) = w.map some) {j : Nat} {q : Nat × va_E} (h : w[j]? = some q) : ∃ i, is[j]? = some i ∧ ws[i]? = some q := by
  have h1 : (is.map (fun i => ws[i]?))[j]? = (w.map some)[j]? := by rw [hs]
  rw [List.getElem?_map, List.getElem?_map, h] at h1
  cases hw : is[j]? with
  | none => rw [hw] at h1; cases h1
  | some i => rw [hw] at h1; exact ⟨i, rfl, Option.some.inj h1⟩
theorem put_back {A0 : Nat → Prop} {D : va_G} {cl : List vw_C} {ws wc wc' : va_W} {H H1 : Heap} (hP : va_P D cl ws H) (hD : va_D A0 ws) (isC : List Nat) (hC : isC.map (fun i => ws[i]?) = wc.map some) (hf : wc'.map Prod.fst = wc.map Prod.fst)
    (hk : ∀ q : Nat, q < H.size → ¬ va_A wc H.size q → H1[q]? = H[q]?) (hP1 : va_P D cl wc' H1) : va_P D cl (putAt isC wc' ws) H1 ∧ va_D A0 (putAt isC wc' ws) := by
  have hlen : isC.length = wc'.length := by
    have h1 := congrArg List.length hC
    have h2 := congrArg List.length hf
    simp only [List.length_map] at h1 h2
    omega
  have fst : ∀ (j : Nat) (q q' : Nat × va_E), wc[j]? = some q → wc'[j]? = some q' → q.1 = q'.1 := by
    intro j q q' h1 h2
    have h3 : (wc'.map Prod.fst)[j]? = (wc.map Prod.fst)[j]? := by rw [hf]
    rw [List.getElem?_map, List.getElem?_map, h1, h2] at h3
    exact (Option.some.inj h3).symm
  have back : ∀ (k : Nat) (q : Nat × va_E), (putAt isC wc' ws)[k]? = some q → ∃ q0, ws[k]? = some q0 ∧ q0.1 = q.1 := by
    intro k q h
    rcases putAt_get isC ws wc' hlen k q h with ⟨j, h1, h2⟩ | ⟨h1, -⟩
    · obtain ⟨q0, h3, h4⟩ := map_at hC h1
      exact ⟨q0, h4, fst j q0 q h3 h2⟩
    · exact ⟨q, h1, rfl⟩
  refine ⟨fun k q h => ?_, fun i j x y hi hj hxy => ?_, fun k q h => ?_⟩
  · rcases putAt_get isC ws wc' hlen k q h with ⟨j, h1, h2⟩ | ⟨h1, h2⟩
    · exact hP1 j q h2
    · have hlt := (hP k q h1).lt
      refine (hP k q h1).kept (hk q.1 hlt fun hA => ?_)
      rcases hA with ⟨j, e, h3⟩ | h3
      · obtain ⟨i, h4, h5⟩ := map_at' hC h3
        have h6 := hD.1 k i q (q.1, e) h1 h5 rfl
        subst h6
        exact h2 (List.mem_of_getElem? h4)
      · omega
  · obtain ⟨x0, h1, h2⟩ := back i x hi
    obtain ⟨y0, h3, h4⟩ := back j y hj
    exact hD.1 i j x0 y0 h1 h3 (h2.trans (hxy.trans h4.symm))
  · obtain ⟨q0, h1, h2⟩ := back k q h
    rw [← h2]
    exact hD.2 k q0 h1
theorem va_subAt {D : va_G} {cl : List vw_C} {ws wc : va_W} {H : Heap} (hP : va_P D cl ws H) (isC : List Nat) (hC : isC.map (fun i => ws[i]?) = wc.map some) : va_P D cl wc H := fun k q h => by
  obtain ⟨i, -, h2⟩ := map_at' hC h
  exact hP i q h2
theorem va_DsubAt {A : Nat → Prop} {ws wc : va_W} (hD : va_D A ws) (isC : List Nat) (hC : isC.map (fun i => ws[i]?) = wc.map some) (hn : va_nd isC = true) : va_D A wc := by
  refine ⟨fun i j x y hi hj hxy => ?_, fun k q h => ?_⟩
  · obtain ⟨i0, h1, h2⟩ := map_at' hC hi
    obtain ⟨j0, h3, h4⟩ := map_at' hC hj
    have := hD.1 i0 j0 x y h2 h4 hxy
    subst this
    exact va_nd_inj isC hn i j i0 h1 h3
  · obtain ⟨i, -, h2⟩ := map_at' hC h
    exact hD.2 i q h2
-- ===== calls =====
section CALLS
variable {p : Program} {l : Launch} {e : Env} {R : Room} {s : State} {m : MethodId} {args : Array Value} {below : List Frame} {meth : Method} {c : Code} {H H0 : Heap} {locs : List Loc} {cells slots : Nat} {Q : State → Prop}
variable {D : va_G} {cI cS cL : ClassId} {A : Nat → Prop} {ws wc wc' : va_W} {ls : Array Slot} {rest st : List Value} {pc index nL n maxL : Nat} {cc bts : ByteArray} {Ts : List Cond} {own C host : String} {y : MethodName} {ret : Option FieldType} {rm : Room} {As : List Value} {b ci : Nat} {fs : List Value}
theorem blind_ {as : List Value} {w : va_W} {sz : Nat} : FrameBlind (va_Pc as (pre_ D cI cS cL w sz)) := fun a U g mk q => by
  obtain ⟨h1, h2, h3, h4, h5⟩ := q
  exact ⟨h1, h2, h3, kk_call h4, h5⟩
theorem preS_ {as : List Value} (hK : kk_ D cI cS cL s) (hP : va_P D vwCl wc H) (hD : va_D A wc) : PreS s H (va_Pc as (pre_ D cI cS cL wc H.size)) as :=
  ⟨blind_, fun U hU hW => ⟨rfl, by rw [hU], by rw [hU]; exact hP, kk_warm hW hK, hD.weaken (fun _ _ _ _ => trivial)⟩⟩
theorem preV_ {q : vw_C} (hK : kk_ D cI cS cL s) (hP : va_P D vwCl wc H) (hD : va_D A wc) (hci : vwCl[ci]? = some q) (hrecv : wc[0]? = some (b, .inr (ci, fs))) : PreV s H q.1 b (va_Pc (.ref b :: As) (pre_ D cI cS cL wc H.size)) As :=
  ⟨blind_, va_recv hK.1 hP hci hrecv, fun U hU hW => ⟨rfl, by rw [hU], by rw [hU]; exact hP, kk_warm hW hK, hD.weaken (fun _ _ _ _ => trivial)⟩⟩
theorem cal_i {r : Int32} {a : Array Value} (hr : va_Run p l e R s m args below meth c H locs cells slots 0 0 (F0 m pc ls st) rest (va_Qi (fun r' (_ : Unit) => r' = r) (fun _ t => at_ D wc wc' H.size t) (va_A wc H.size) a) (va_A wc H.size)) (hP : va_P D vwCl ws H) (hD : va_D A ws) (hS : va_S A H0 H locs) (hA : ∀ q, H0.size ≤ q → A q) (isC : List Nat) (hC : isC.map (fun i => ws[i]?) = wc.map some) (hf : wc'.map Prod.fst = wc.map Prod.fst)
    (kk : ∀ (H1 : Heap) (locs1 : List Loc), va_P D vwCl (putAt isC wc' ws) H1 → va_D A (putAt isC wc' ws) → va_S A H0 H1 locs1 → W p l e R s m args below meth c H1 locs1 cells slots Q (F0 m (pc + 3) ls (.int r :: rest))) : W p l e R s m args below meth c H locs cells slots Q (F0 m pc ls st) := by
  have hFc := va_free (wc := wc) hD hS hA isC hC
  refine va_calli hr hS (fun q _ h => hFc q h) hFc (fun r' u t H1 locs1 ht hvm hw hB hz1 hk1 hS1 => ?_)
  subst hw
  obtain ⟨hP1, hD1⟩ := hB
  rw [ht] at hP1
  obtain ⟨hP2, hD2⟩ := put_back hP hD isC hC hf hk1 hP1
  exact kk H1 locs1 hP2 hD2 hS1
theorem cal_l {r : Int64} {a : Array Value} (hr : va_Run p l e R s m args below meth c H locs cells slots 0 0 (F0 m pc ls st) rest (va_Ql (fun r' (_ : Unit) => r' = r) (fun _ t => at_ D wc wc' H.size t) (va_A wc H.size) a) (va_A wc H.size)) (hP : va_P D vwCl ws H) (hD : va_D A ws) (hS : va_S A H0 H locs) (hA : ∀ q, H0.size ≤ q → A q) (isC : List Nat) (hC : isC.map (fun i => ws[i]?) = wc.map some) (hf : wc'.map Prod.fst = wc.map Prod.fst)
    (kk : ∀ (H1 : Heap) (locs1 : List Loc), va_P D vwCl (putAt isC wc' ws) H1 → va_D A (putAt isC wc' ws) → va_S A H0 H1 locs1 → W p l e R s m args below meth c H1 locs1 cells slots Q (F0 m (pc + 3) ls (.long r :: rest))) : W p l e R s m args below meth c H locs cells slots Q (F0 m pc ls st) := by
  have hFc := va_free (wc := wc) hD hS hA isC hC
  refine va_calll hr hS (fun q _ h => hFc q h) hFc (fun r' u t H1 locs1 ht hvm hw hB hz1 hk1 hS1 => ?_)
  subst hw
  obtain ⟨hP1, hD1⟩ := hB
  rw [ht] at hP1
  obtain ⟨hP2, hD2⟩ := put_back hP hD isC hC hf hk1 hP1
  exact kk H1 locs1 hP2 hD2 hS1
theorem cal_v {a : Array Value} (hr : va_Run p l e R s m args below meth c H locs cells slots 0 0 (F0 m pc ls st) rest (va_Qv (fun (_ : Unit) => True) (fun _ t => at_ D wc wc' H.size t) (va_A wc H.size) a) (va_A wc H.size)) (hP : va_P D vwCl ws H) (hD : va_D A ws) (hS : va_S A H0 H locs) (hA : ∀ q, H0.size ≤ q → A q) (isC : List Nat) (hC : isC.map (fun i => ws[i]?) = wc.map some) (hf : wc'.map Prod.fst = wc.map Prod.fst)
    (kk : ∀ (H1 : Heap) (locs1 : List Loc), va_P D vwCl (putAt isC wc' ws) H1 → va_D A (putAt isC wc' ws) → va_S A H0 H1 locs1 → W p l e R s m args below meth c H1 locs1 cells slots Q (F0 m (pc + 3) ls rest)) : W p l e R s m args below meth c H locs cells slots Q (F0 m pc ls st) := by
  have hFc := va_free (wc := wc) hD hS hA isC hC
  refine va_callv hr hS (fun q _ h => hFc q h) hFc (fun u t H1 locs1 ht hvm hw hB hz1 hk1 hS1 => ?_)
  obtain ⟨hP1, hD1⟩ := hB
  rw [ht] at hP1
  obtain ⟨hP2, hD2⟩ := put_back hP hD isC hC hf hk1 hP1
  exact kk H1 locs1 hP2 hD2 hS1
/-- a callee's own words among GW, and its name -/
def gm_ (y : MethodName) (b : ByteArray) (n : Nat) (ret : Option FieldType) (k : Nat) : Prop := Cond.instanceMethod y ∈ GW ∧ Cond.selects y.cls y y ∈ GW ∧ Cond.initialized y.cls ∈ GW ∧ Cond.code y b n ret ∈ GW ∧ (y.cls ≠ "java/lang/invoke/MethodHandle" ∧ y.cls ≠ "java/lang/invoke/VarHandle" ∧ (parseMethodDescriptor y.desc).map (fun d => d.parameters.length) = some k)
def gs_ (y : MethodName) (b : ByteArray) (n : Nat) (ret : Option FieldType) (k : Nat) : Prop := Cond.static y ∈ GW ∧ Cond.initialized y.cls ∈ GW ∧ Cond.code y b n ret ∈ GW ∧ (y.cls ≠ "java/lang/invoke/MethodHandle" ∧ y.cls ≠ "java/lang/invoke/VarHandle" ∧ (parseMethodDescriptor y.desc).map (fun d => d.parameters.length) = some k)
theorem gdV (hl : Cond.methodLink own index y ∈ GW) (hm : gm_ y bts maxL ret n) : GoodIn GW (wsV own index y.cls y (Cond.code y bts maxL ret :: GW)) := by
  obtain ⟨h1, h2, h3, h4, -⟩ := hm
  intro w hw
  have : w ∈ GW := by
    unfold wsV at hw
    simp only [List.cons_append, List.nil_append, List.mem_cons] at hw
    rcases hw with rfl | rfl | rfl | rfl | rfl | hw
    · exact hl
    · exact h1
    · exact h2
    · exact h3
    · exact h4
    · exact hw
  exact ⟨this, gw_good this⟩
theorem gdC (h4 : Cond.code y bts maxL ret ∈ GW) : GoodIn GW (Cond.code y bts maxL ret :: GW) := by
  intro w hw
  have : w ∈ GW := by
    rcases List.mem_cons.mp hw with rfl | hw
    · exact h4
    · exact hw
  exact ⟨this, gw_good this⟩
theorem gdS (hl : Cond.methodLink own index y ∈ GW) (hm : gs_ y bts maxL ret n) : GoodIn GW (va_wsS own index y (Cond.code y bts maxL ret :: GW)) := by
  obtain ⟨h1, h3, h4, -⟩ := hm
  intro w hw
  have : w ∈ GW := by
    unfold va_wsS at hw
    simp only [List.cons_append, List.nil_append, List.mem_cons] at hw
    rcases hw with rfl | rfl | rfl | rfl | hw
    · exact hl
    · exact h1
    · exact h3
    · exact h4
    · exact hw
  exact ⟨this, gw_good this⟩
theorem cV_i {r : Int32} {q : vw_C} (hx : p.tables.exec = Jvm.exec) (hb : c.code = cc) (hml : c.maxLocals = nL) (hown : s.vm.findClass own = some m.cls) (hg : ∀ w ∈ GW, w.before args s = true) (hK : kk_ D cI cS cL s) (hP : va_P D vwCl ws H) (hD : va_D A ws) (hS : va_S A H0 H locs) (hA : ∀ q, H0.size ≤ q → A q) (hsz : ls.size = nL) (hM : CI l y bts maxL ret rm D cI cS cL (.ref b :: As) wc wc' r) (hm : gm_ y bts maxL ret n) (hl : Cond.methodLink own index y ∈ GW) (hR : rm.cells = 0 ∧ rm.slots = 0 ∧ rm.frames + 1 ≤ R.frames ∧ 8 + (maxL + 11) + rm.locals ≤ R.locals) (hroom : cells ≤ R.cells ∧ slots ≤ R.slots) (isC : List Nat) (hnd : va_nd isC = true) (hC : isC.map (fun i => ws[i]?) = wc.map some) (hf : wc'.map Prod.fst = wc.map Prod.fst) (hci : vwCl[ci]? = some q) (hq : q.1 = y.cls) (hrecv : wc[0]? = some (b, .inr (ci, fs))) (hn : As.length = n) (hst : st = As.reverse ++ .ref b :: rest) (hW : (rest.map fun v => v.category).sum ≤ 8) (hdg : decode cc pc = .ok (.invokevirtual index, 3))
    (kk : ∀ (H1 : Heap) (locs1 : List Loc), va_P D vwCl (putAt isC wc' ws) H1 → va_D A (putAt isC wc' ws) → va_S A H0 H1 locs1 → W p l e R s m args below meth c H1 locs1 cells slots Q (F0 m (pc + 3) ls (.int r :: rest))) : W p l e R s m args below meth c H locs cells slots Q (F0 m pc ls st) := by
  have hPc := va_subAt hP isC hC
  have hDc := va_DsubAt hD isC hC hnd
  have hpre := preV_ (s := s) (As := As) hK hPc hDc hci hrecv
  rw [hq] at hpre
  refine cal_i (va_runV (As := As) (rest := rest) ⟨hx, hb, hml, hown, hg⟩ (hM H.size) (cwV n hg (gdV hl hm) rfl hR.1 hR.2.1 ⟨rfl, hm.2.2.2.2⟩ hR.2.2) hpre rfl hn hsz hst (lv_room hW) hdg hroom) hP hD hS hA isC hC hf kk

theorem cS_i {r : Int32} (hx : p.tables.exec = Jvm.exec) (hb : c.code = cc) (hml : c.maxLocals = nL) (hown : s.vm.findClass own = some m.cls) (hg : ∀ w ∈ GW, w.before args s = true) (hK : kk_ D cI cS cL s) (hP : va_P D vwCl ws H) (hD : va_D A ws) (hS : va_S A H0 H locs) (hA : ∀ q, H0.size ≤ q → A q) (hsz : ls.size = nL) (hM : CI l y bts maxL ret rm D cI cS cL As wc wc' r) (hm : gs_ y bts maxL ret n) (hl : Cond.methodLink own index y ∈ GW) (hR : rm.cells = 0 ∧ rm.slots = 0 ∧ rm.frames + 1 ≤ R.frames ∧ 8 + (maxL + 11) + rm.locals ≤ R.locals) (hroom : cells ≤ R.cells ∧ slots ≤ R.slots) (isC : List Nat) (hnd : va_nd isC = true) (hC : isC.map (fun i => ws[i]?) = wc.map some) (hf : wc'.map Prod.fst = wc.map Prod.fst) (hn : As.length = n) (hst : st = As.reverse ++ rest) (hW : (rest.map fun v => v.category).sum ≤ 8) (hdg : decode cc pc = .ok (.invokestatic index, 3))
    (kk : ∀ (H1 : Heap) (locs1 : List Loc), va_P D vwCl (putAt isC wc' ws) H1 → va_D A (putAt isC wc' ws) → va_S A H0 H1 locs1 → W p l e R s m args below meth c H1 locs1 cells slots Q (F0 m (pc + 3) ls (.int r :: rest))) : W p l e R s m args below meth c H locs cells slots Q (F0 m pc ls st) := by
  have hPc := va_subAt hP isC hC
  have hDc := va_DsubAt hD isC hC hnd
  have hpre := preS_ (s := s) (as := As) hK hPc hDc
  refine cal_i (va_runS (As := As) (rest := rest) ⟨hx, hb, hml, hown, hg⟩ (hM H.size) (va_cwS n hg (gdS hl hm) rfl hR.1 hR.2.1 hm.2.2.2 hR.2.2) hpre rfl hn hsz hst (lv_room hW) hdg hroom) hP hD hS hA isC hC hf kk

theorem cN_i {r : Int32} (hx : p.tables.exec = Jvm.exec) (hb : c.code = cc) (hml : c.maxLocals = nL) (hown : s.vm.findClass own = some m.cls) (hg : ∀ w ∈ GW, w.before args s = true) (hK : kk_ D cI cS cL s) (hP : va_P D vwCl ws H) (hD : va_D A ws) (hS : va_S A H0 H locs) (hA : ∀ q, H0.size ≤ q → A q) (hsz : ls.size = nL) (hM : CI l y bts maxL ret rm D cI cS cL As wc wc' r) (hm : gs_ y bts maxL ret n) (hl : Cond.methodLinkNest own index y host ∈ NW) (hR : rm.cells = 0 ∧ rm.slots = 0 ∧ rm.frames + 1 ≤ R.frames ∧ 8 + (maxL + 11) + rm.locals ≤ R.locals) (hroom : cells ≤ R.cells ∧ slots ≤ R.slots) (isC : List Nat) (hnd : va_nd isC = true) (hC : isC.map (fun i => ws[i]?) = wc.map some) (hf : wc'.map Prod.fst = wc.map Prod.fst) (hn : As.length = n) (hst : st = As.reverse ++ rest) (hW : (rest.map fun v => v.category).sum ≤ 8) (hdg : decode cc pc = .ok (.invokestatic index, 3))
    (kk : ∀ (H1 : Heap) (locs1 : List Loc), va_P D vwCl (putAt isC wc' ws) H1 → va_D A (putAt isC wc' ws) → va_S A H0 H1 locs1 → W p l e R s m args below meth c H1 locs1 cells slots Q (F0 m (pc + 3) ls (.int r :: rest))) : W p l e R s m args below meth c H locs cells slots Q (F0 m pc ls st) := by
  have hPc := va_subAt hP isC hC
  have hDc := va_DsubAt hD isC hC hnd
  have hpre := preS_ (s := s) (as := As) hK hPc hDc
  refine cal_i (va_runSN (As := As) (rest := rest) ⟨hx, hb, hml, hown, hg⟩ (hM H.size) ⟨va_cnB n hg (gdC hm.2.2.1) rfl hR.1 hR.2.1 (hK.2.1 _ hl) (hg _ hm.2.1) hm.2.2.2 hR.2.2, hg _ hm.1, trivial⟩ hpre rfl hn hsz hst (lv_room hW) hdg hroom) hP hD hS hA isC hC hf kk

theorem cV_l {r : Int64} {q : vw_C} (hx : p.tables.exec = Jvm.exec) (hb : c.code = cc) (hml : c.maxLocals = nL) (hown : s.vm.findClass own = some m.cls) (hg : ∀ w ∈ GW, w.before args s = true) (hK : kk_ D cI cS cL s) (hP : va_P D vwCl ws H) (hD : va_D A ws) (hS : va_S A H0 H locs) (hA : ∀ q, H0.size ≤ q → A q) (hsz : ls.size = nL) (hM : CJ l y bts maxL ret rm D cI cS cL (.ref b :: As) wc wc' r) (hm : gm_ y bts maxL ret n) (hl : Cond.methodLink own index y ∈ GW) (hR : rm.cells = 0 ∧ rm.slots = 0 ∧ rm.frames + 1 ≤ R.frames ∧ 8 + (maxL + 11) + rm.locals ≤ R.locals) (hroom : cells ≤ R.cells ∧ slots ≤ R.slots) (isC : List Nat) (hnd : va_nd isC = true) (hC : isC.map (fun i => ws[i]?) = wc.map some) (hf : wc'.map Prod.fst = wc.map Prod.fst) (hci : vwCl[ci]? = some q) (hq : q.1 = y.cls) (hrecv : wc[0]? = some (b, .inr (ci, fs))) (hn : As.length = n) (hst : st = As.reverse ++ .ref b :: rest) (hW : (rest.map fun v => v.category).sum ≤ 8) (hdg : decode cc pc = .ok (.invokevirtual index, 3))
    (kk : ∀ (H1 : Heap) (locs1 : List Loc), va_P D vwCl (putAt isC wc' ws) H1 → va_D A (putAt isC wc' ws) → va_S A H0 H1 locs1 → W p l e R s m args below meth c H1 locs1 cells slots Q (F0 m (pc + 3) ls (.long r :: rest))) : W p l e R s m args below meth c H locs cells slots Q (F0 m pc ls st) := by
  have hPc := va_subAt hP isC hC
  have hDc := va_DsubAt hD isC hC hnd
  have hpre := preV_ (s := s) (As := As) hK hPc hDc hci hrecv
  rw [hq] at hpre
  refine cal_l (va_runV (As := As) (rest := rest) ⟨hx, hb, hml, hown, hg⟩ (hM H.size) (cwV n hg (gdV hl hm) rfl hR.1 hR.2.1 ⟨rfl, hm.2.2.2.2⟩ hR.2.2) hpre rfl hn hsz hst (lv_room hW) hdg hroom) hP hD hS hA isC hC hf kk

theorem cS_l {r : Int64} (hx : p.tables.exec = Jvm.exec) (hb : c.code = cc) (hml : c.maxLocals = nL) (hown : s.vm.findClass own = some m.cls) (hg : ∀ w ∈ GW, w.before args s = true) (hK : kk_ D cI cS cL s) (hP : va_P D vwCl ws H) (hD : va_D A ws) (hS : va_S A H0 H locs) (hA : ∀ q, H0.size ≤ q → A q) (hsz : ls.size = nL) (hM : CJ l y bts maxL ret rm D cI cS cL As wc wc' r) (hm : gs_ y bts maxL ret n) (hl : Cond.methodLink own index y ∈ GW) (hR : rm.cells = 0 ∧ rm.slots = 0 ∧ rm.frames + 1 ≤ R.frames ∧ 8 + (maxL + 11) + rm.locals ≤ R.locals) (hroom : cells ≤ R.cells ∧ slots ≤ R.slots) (isC : List Nat) (hnd : va_nd isC = true) (hC : isC.map (fun i => ws[i]?) = wc.map some) (hf : wc'.map Prod.fst = wc.map Prod.fst) (hn : As.length = n) (hst : st = As.reverse ++ rest) (hW : (rest.map fun v => v.category).sum ≤ 8) (hdg : decode cc pc = .ok (.invokestatic index, 3))
    (kk : ∀ (H1 : Heap) (locs1 : List Loc), va_P D vwCl (putAt isC wc' ws) H1 → va_D A (putAt isC wc' ws) → va_S A H0 H1 locs1 → W p l e R s m args below meth c H1 locs1 cells slots Q (F0 m (pc + 3) ls (.long r :: rest))) : W p l e R s m args below meth c H locs cells slots Q (F0 m pc ls st) := by
  have hPc := va_subAt hP isC hC
  have hDc := va_DsubAt hD isC hC hnd
  have hpre := preS_ (s := s) (as := As) hK hPc hDc
  refine cal_l (va_runS (As := As) (rest := rest) ⟨hx, hb, hml, hown, hg⟩ (hM H.size) (va_cwS n hg (gdS hl hm) rfl hR.1 hR.2.1 hm.2.2.2 hR.2.2) hpre rfl hn hsz hst (lv_room hW) hdg hroom) hP hD hS hA isC hC hf kk

theorem cV_v {q : vw_C} (hx : p.tables.exec = Jvm.exec) (hb : c.code = cc) (hml : c.maxLocals = nL) (hown : s.vm.findClass own = some m.cls) (hg : ∀ w ∈ GW, w.before args s = true) (hK : kk_ D cI cS cL s) (hP : va_P D vwCl ws H) (hD : va_D A ws) (hS : va_S A H0 H locs) (hA : ∀ q, H0.size ≤ q → A q) (hsz : ls.size = nL) (hM : CV l y bts maxL ret rm D cI cS cL (.ref b :: As) wc wc') (hm : gm_ y bts maxL ret n) (hl : Cond.methodLink own index y ∈ GW) (hR : rm.cells = 0 ∧ rm.slots = 0 ∧ rm.frames + 1 ≤ R.frames ∧ 8 + (maxL + 11) + rm.locals ≤ R.locals) (hroom : cells ≤ R.cells ∧ slots ≤ R.slots) (isC : List Nat) (hnd : va_nd isC = true) (hC : isC.map (fun i => ws[i]?) = wc.map some) (hf : wc'.map Prod.fst = wc.map Prod.fst) (hci : vwCl[ci]? = some q) (hq : q.1 = y.cls) (hrecv : wc[0]? = some (b, .inr (ci, fs))) (hn : As.length = n) (hst : st = As.reverse ++ .ref b :: rest) (hW : (rest.map fun v => v.category).sum ≤ 8) (hdg : decode cc pc = .ok (.invokevirtual index, 3))
    (kk : ∀ (H1 : Heap) (locs1 : List Loc), va_P D vwCl (putAt isC wc' ws) H1 → va_D A (putAt isC wc' ws) → va_S A H0 H1 locs1 → W p l e R s m args below meth c H1 locs1 cells slots Q (F0 m (pc + 3) ls (rest))) : W p l e R s m args below meth c H locs cells slots Q (F0 m pc ls st) := by
  have hPc := va_subAt hP isC hC
  have hDc := va_DsubAt hD isC hC hnd
  have hpre := preV_ (s := s) (As := As) hK hPc hDc hci hrecv
  rw [hq] at hpre
  refine cal_v (va_runV (As := As) (rest := rest) ⟨hx, hb, hml, hown, hg⟩ (hM H.size) (cwV n hg (gdV hl hm) rfl hR.1 hR.2.1 ⟨rfl, hm.2.2.2.2⟩ hR.2.2) hpre rfl hn hsz hst (lv_room hW) hdg hroom) hP hD hS hA isC hC hf kk

theorem cS_v (hx : p.tables.exec = Jvm.exec) (hb : c.code = cc) (hml : c.maxLocals = nL) (hown : s.vm.findClass own = some m.cls) (hg : ∀ w ∈ GW, w.before args s = true) (hK : kk_ D cI cS cL s) (hP : va_P D vwCl ws H) (hD : va_D A ws) (hS : va_S A H0 H locs) (hA : ∀ q, H0.size ≤ q → A q) (hsz : ls.size = nL) (hM : CV l y bts maxL ret rm D cI cS cL As wc wc') (hm : gs_ y bts maxL ret n) (hl : Cond.methodLink own index y ∈ GW) (hR : rm.cells = 0 ∧ rm.slots = 0 ∧ rm.frames + 1 ≤ R.frames ∧ 8 + (maxL + 11) + rm.locals ≤ R.locals) (hroom : cells ≤ R.cells ∧ slots ≤ R.slots) (isC : List Nat) (hnd : va_nd isC = true) (hC : isC.map (fun i => ws[i]?) = wc.map some) (hf : wc'.map Prod.fst = wc.map Prod.fst) (hn : As.length = n) (hst : st = As.reverse ++ rest) (hW : (rest.map fun v => v.category).sum ≤ 8) (hdg : decode cc pc = .ok (.invokestatic index, 3))
    (kk : ∀ (H1 : Heap) (locs1 : List Loc), va_P D vwCl (putAt isC wc' ws) H1 → va_D A (putAt isC wc' ws) → va_S A H0 H1 locs1 → W p l e R s m args below meth c H1 locs1 cells slots Q (F0 m (pc + 3) ls (rest))) : W p l e R s m args below meth c H locs cells slots Q (F0 m pc ls st) := by
  have hPc := va_subAt hP isC hC
  have hDc := va_DsubAt hD isC hC hnd
  have hpre := preS_ (s := s) (as := As) hK hPc hDc
  refine cal_v (va_runS (As := As) (rest := rest) ⟨hx, hb, hml, hown, hg⟩ (hM H.size) (va_cwS n hg (gdS hl hm) rfl hR.1 hR.2.1 hm.2.2.2 hR.2.2) hpre rfl hn hsz hst (lv_room hW) hdg hroom) hP hD hS hA isC hC hf kk

theorem ret_i {v r : Int32} (hx : p.tables.exec = Jvm.exec) (hb : c.code = cc) (hr : meth.sig.returnType = some .int) (hlocks : meth.locks = false) (hP : va_P D vwCl wc' H) (hD : va_D A wc') (hS : va_S A s.heap H locs) (hdg : decode cc pc = .ok (.ireturn, 1)) (hv : v = r) : W p l e R s m args below meth c H locs 0 0 (FI D below args s wc' r A) (F0 m pc ls [.int v]) :=
  W.iret hx hb hr (fun t ht hW => ⟨⟨v, (), rfl, hv, by rw [ht]; exact hP, hD⟩, hS.F ht⟩) hS.2.2 hdg hlocks

theorem ret_j {v r : Int64} (hx : p.tables.exec = Jvm.exec) (hb : c.code = cc) (hr : meth.sig.returnType = some .long) (hlocks : meth.locks = false) (hP : va_P D vwCl wc' H) (hD : va_D A wc') (hS : va_S A s.heap H locs) (hdg : decode cc pc = .ok (.lreturn, 1)) (hv : v = r) : W p l e R s m args below meth c H locs 0 0 (FJ D below args s wc' r A) (F0 m pc ls [.long v]) :=
  W.lret hx hb hr (fun t ht hW => ⟨⟨v, (), rfl, hv, by rw [ht]; exact hP, hD⟩, hS.F ht⟩) hS.2.2 hdg hlocks

theorem nar_b {v : Int32} (h : v = 0 ∨ v = 1) : narrow .boolean (.int v) = .int v := by
  rcases h with rfl | rfl <;> rfl
theorem fit_b {v : Int32} (h : v = 0 ∨ v = 1) : fits .boolean (.int v) = true := by
  rcases h with rfl | rfl <;> rfl
theorem ret_z {v r : Int32} (hx : p.tables.exec = Jvm.exec) (hb : c.code = cc) (hr : meth.sig.returnType = some .boolean) (hlocks : meth.locks = false) (hP : va_P D vwCl wc' H) (hD : va_D A wc') (hS : va_S A s.heap H locs) (hdg : decode cc pc = .ok (.ireturn, 1)) (hb01 : v = 0 ∨ v = 1) (hv : v = r) : W p l e R s m args below meth c H locs 0 0 (FI D below args s wc' r A) (F0 m pc ls [.int v]) :=
  W.zret hx hb hr (nar_b hb01) (fun t ht hW => ⟨⟨v, (), rfl, hv, by rw [ht]; exact hP, hD⟩, hS.F ht⟩) hS.2.2 hdg hlocks
theorem ret_v (hx : p.tables.exec = Jvm.exec) (hb : c.code = cc) (hr : meth.sig.returnType = none) (hlocks : meth.locks = false) (hP : va_P D vwCl wc' H) (hD : va_D A wc') (hS : va_S A s.heap H locs) (hdg : decode cc pc = .ok (.return_, 1)) : W p l e R s m args below meth c H locs 0 0 (FV D below args s wc' A) (F0 m pc ls []) :=
  W.vret hx hb hr (fun t ht hW => ⟨⟨(), rfl, trivial, by rw [ht]; exact hP, hD⟩, hS.F ht⟩) hS.2.2 hdg hlocks
theorem nm_i {x y : Int32} (h : y = x) (k : W p l e R s m args below meth c H locs cells slots Q (F0 m pc ls (.int y :: rest))) : W p l e R s m args below meth c H locs cells slots Q (F0 m pc ls (.int x :: rest)) := h ▸ k
theorem nm_l {x y : Int64} (h : y = x) (k : W p l e R s m args below meth c H locs cells slots Q (F0 m pc ls (.long y :: rest))) : W p l e R s m args below meth c H locs cells slots Q (F0 m pc ls (.long x :: rest)) := h ▸ k
end CALLS
-- ===== the functions' own connectives =====
def rd {α : Type} (i : Int32) (n : Nat) (k : Option α) : Option α := if i < 0 ∨ n ≤ i.toNatClampNeg then none else k
theorem rd_some {α : Type} {i : Int32} {n : Nat} {k : Option α} {b : α} (h : rd i n k = some b) : vp_in i n ∧ k = some b := by
  unfold rd at h
  split at h
  · cases h
  · next hn => exact ⟨hn, h⟩
theorem rd_in {α : Type} {i : Int32} {n : Nat} {k : Option α} (h : vp_in i n) : rd i n k = k := if_neg h
def kl {α β : Type} (e : β) (k : β → Option α) : Option α := k e
theorem kl_some {α β : Type} {e : β} {k : β → Option α} {b : α} (h : kl e k = some b) : ∃ y, y = e ∧ k y = some b := ⟨e, rfl, h⟩
theorem bd_some {α β : Type} {x : Option β} {k : β → Option α} {b : α} (h : x.bind k = some b) : ∃ y, x = some y ∧ k y = some b := by
  cases x with
  | none => cases h
  | some y => exact ⟨y, rfl, h⟩
def kb {α : Type} (v : Int32) (k : Option α) : Option α := if v = 0 ∨ v = 1 then k else none
theorem kb_some {α : Type} {v : Int32} {k : Option α} {b : α} (h : kb v k = some b) : (v = 0 ∨ v = 1) ∧ k = some b := by
  unfold kb at h
  split at h
  · next hn => exact ⟨hn, h⟩
  · cases h
def kz {α : Type} (v : Int32) (k : Option α) : Option α := if v = 0 then none else k
theorem kz_some {α : Type} {v : Int32} {k : Option α} {b : α} (h : kz v k = some b) : ¬ v = 0 ∧ k = some b := by
  unfold kz at h
  split at h
  · cases h
  · next hn => exact ⟨hn, h⟩
def kc {α : Type} (sp dp n : Int32) (n0 n1 : Nat) (k : Option α) : Option α := if ¬ sp < 0 ∧ ¬ dp < 0 ∧ ¬ n < 0 ∧ sp.toNatClampNeg + n.toNatClampNeg ≤ n0 ∧ dp.toNatClampNeg + n.toNatClampNeg ≤ n1 then k else none
theorem kc_some {α : Type} {sp dp n : Int32} {n0 n1 : Nat} {k : Option α} {b : α} (h : kc sp dp n n0 n1 k = some b) : (¬ sp < 0 ∧ ¬ dp < 0 ∧ ¬ n < 0 ∧ sp.toNatClampNeg + n.toNatClampNeg ≤ n0 ∧ dp.toNatClampNeg + n.toNatClampNeg ≤ n1) ∧ k = some b := by
  unfold kc at h
  split at h
  · next hn => exact ⟨hn, h⟩
  · cases h
theorem it_some {α : Type} {P : Prop} [Decidable P] {a b : Option α} {r : α} (hp : P) (h : (if P then a else b) = some r) : a = some r := by rwa [if_pos hp] at h
theorem if_some {α : Type} {P : Prop} [Decidable P] {a b : Option α} {r : α} (hp : ¬ P) (h : (if P then a else b) = some r) : b = some r := by rwa [if_neg hp] at h
theorem osw_hit {x k : Int32} {a o d : Int} {r : List (Int × Int)} (h : x = k) (hk : k.toInt = a) : Op.lookupswitch.offset ((a, o) :: r) d x.toInt = o := by
  rw [Op.lookupswitch.offset_cons, if_pos (by rw [h, hk])]
