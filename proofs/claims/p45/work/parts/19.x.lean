section CALLP
variable {p : Program} {l : Launch} {e : Env} {R : Room} {s : State} {m : MethodId} {args : Array Value} {below : List Frame} {meth : Method} {c : Code} {H H0 : Heap} {locs : List Loc} {cells slots : Nat} {Q : State → Prop}
variable {D : va_G} {cI cS cL : ClassId} {A : Nat → Prop} {ws ws' wc wc' wr : va_W} {ls : Array Slot} {rest st : List Value} {pc index nL n maxL : Nat} {cc bts : ByteArray} {Ts : List Cond} {own C host : String} {y : MethodName} {ret : Option FieldType} {rm : Room} {As : List Value} {b ci : Nat} {fs : List Value}
theorem cP_i {r : Int32} {q : vw_C} (hx : p.tables.exec = Jvm.exec) (hb : c.code = cc) (hml : c.maxLocals = nL) (hown : s.vm.findClass own = some m.cls) (hg : ∀ w ∈ GW, w.before args s = true) (hK : kk_ D cI cS cL s) (hP : va_P D vwCl ws H) (hD : va_D A ws) (hS : va_S A H0 H locs) (hA : ∀ q, H0.size ≤ q → A q) (hsz : ls.size = nL)
    (hM : CI l y bts maxL ret rm D cI cS cL (.ref b :: As) wc wc' r) (hm : gm_ y bts maxL ret n) (hl : Cond.methodLink own index y ∈ GW) (hR : rm.cells = 0 ∧ rm.slots = 0 ∧ rm.frames + 1 ≤ R.frames ∧ 8 + (maxL + 11) + rm.locals ≤ R.locals) (hroom : cells ≤ R.cells ∧ slots ≤ R.slots) (hp : ws.Perm (wc ++ wr)) (hp' : ws'.Perm (wc' ++ wr)) (hf : wc'.map Prod.fst = wc.map Prod.fst) (hci : vwCl[ci]? = some q) (hq : q.1 = y.cls) (hrecv : wc[0]? = some (b, .inr (ci, fs))) (hn : As.length = n) (hst : st = As.reverse ++ .ref b :: rest) (hW : (rest.map fun v => v.category).sum ≤ 8) (hdg : decode cc pc = .ok (.invokevirtual index, 3))
    (kk : ∀ (H1 : Heap) (locs1 : List Loc), va_P D vwCl ws' H1 → va_D A ws' → va_S A H0 H1 locs1 → W p l e R s m args below meth c H1 locs1 cells slots Q (F0 m (pc + 3) ls (.int r :: rest))) : W p l e R s m args below meth c H locs cells slots Q (F0 m pc ls st) := by
  have hPc := va_P_left (va_P_perm hp hP)
  have hDc := va_D_left (va_D_perm hp hD)
  have hpre := preV_ (s := s) (As := As) hK hPc hDc hci hrecv
  rw [hq] at hpre
  have hFc := va_freeQ hD hS hA hp
  refine va_calli (va_runV (As := As) (rest := rest) ⟨hx, hb, hml, hown, hg⟩ (hM H.size) (cwV n hg (gdV hl hm) rfl hR.1 hR.2.1 ⟨rfl, hm.2.2.2.2⟩ hR.2.2) hpre rfl hn hsz hst (lv_room hW) hdg hroom) hS (fun q _ h => hFc q h) hFc (fun r' u t H1 locs1 ht hvm hw hB hz1 hk1 hS1 => ?_)
  subst hw
  obtain ⟨hP1, hD1⟩ := hB
  rw [ht] at hP1
  obtain ⟨hP2, hD2⟩ := put_backP hP hD hp hp' hf hk1 hP1
  exact kk H1 locs1 hP2 hD2 hS1
theorem cP_l {r : Int64} {q : vw_C} (hx : p.tables.exec = Jvm.exec) (hb : c.code = cc) (hml : c.maxLocals = nL) (hown : s.vm.findClass own = some m.cls) (hg : ∀ w ∈ GW, w.before args s = true) (hK : kk_ D cI cS cL s) (hP : va_P D vwCl ws H) (hD : va_D A ws) (hS : va_S A H0 H locs) (hA : ∀ q, H0.size ≤ q → A q) (hsz : ls.size = nL)
    (hM : CJ l y bts maxL ret rm D cI cS cL (.ref b :: As) wc wc' r) (hm : gm_ y bts maxL ret n) (hl : Cond.methodLink own index y ∈ GW) (hR : rm.cells = 0 ∧ rm.slots = 0 ∧ rm.frames + 1 ≤ R.frames ∧ 8 + (maxL + 11) + rm.locals ≤ R.locals) (hroom : cells ≤ R.cells ∧ slots ≤ R.slots) (hp : ws.Perm (wc ++ wr)) (hp' : ws'.Perm (wc' ++ wr)) (hf : wc'.map Prod.fst = wc.map Prod.fst) (hci : vwCl[ci]? = some q) (hq : q.1 = y.cls) (hrecv : wc[0]? = some (b, .inr (ci, fs))) (hn : As.length = n) (hst : st = As.reverse ++ .ref b :: rest) (hW : (rest.map fun v => v.category).sum ≤ 8) (hdg : decode cc pc = .ok (.invokevirtual index, 3))
    (kk : ∀ (H1 : Heap) (locs1 : List Loc), va_P D vwCl ws' H1 → va_D A ws' → va_S A H0 H1 locs1 → W p l e R s m args below meth c H1 locs1 cells slots Q (F0 m (pc + 3) ls (.long r :: rest))) : W p l e R s m args below meth c H locs cells slots Q (F0 m pc ls st) := by
  have hPc := va_P_left (va_P_perm hp hP)
  have hDc := va_D_left (va_D_perm hp hD)
  have hpre := preV_ (s := s) (As := As) hK hPc hDc hci hrecv
  rw [hq] at hpre
  have hFc := va_freeQ hD hS hA hp
  refine va_calll (va_runV (As := As) (rest := rest) ⟨hx, hb, hml, hown, hg⟩ (hM H.size) (cwV n hg (gdV hl hm) rfl hR.1 hR.2.1 ⟨rfl, hm.2.2.2.2⟩ hR.2.2) hpre rfl hn hsz hst (lv_room hW) hdg hroom) hS (fun q _ h => hFc q h) hFc (fun r' u t H1 locs1 ht hvm hw hB hz1 hk1 hS1 => ?_)
  subst hw
  obtain ⟨hP1, hD1⟩ := hB
  rw [ht] at hP1
  obtain ⟨hP2, hD2⟩ := put_backP hP hD hp hp' hf hk1 hP1
  exact kk H1 locs1 hP2 hD2 hS1
end CALLP
theorem pm_all {α : Type} {w : List α} : w.Perm (w ++ []) := by rw [List.append_nil]
