-- ===== the law: its calls of the wrappers =====
section LAWK
variable {p : Program} {l : Launch} {e : Env} {R : Room} {s : State} {m : MethodId} {args : Array Value} {below : List Frame} {meth : Method} {c : Code} {H : Heap} {locs : List Loc} {cells slots : Nat} {Q : State → Prop}
variable {D : va_G} {cI cS cL : ClassId} {A : Nat → Prop} {ws ws' wc wc' wr : va_W} {ls : Array Slot} {rest st : List Value} {pc index nL n maxL : Nat} {cc bts : ByteArray} {own : String} {y : MethodName} {rm : Room} {As : List Value} {tb : List (Nat × Nat × Nat × Nat)}
def gw_w (y : MethodName) (b : ByteArray) (n : Nat) (tb : List (Nat × Nat × Nat × Nat)) (k : Nat) : Prop := Cond.static y ∈ GW ∧ Cond.initialized y.cls ∈ GW ∧ Cond.codeWith y b n (some .int) tb ∈ GW ∧ (y.cls ≠ "java/lang/invoke/MethodHandle" ∧ y.cls ≠ "java/lang/invoke/VarHandle" ∧ (parseMethodDescriptor y.desc).map (fun d => d.parameters.length) = some k)
theorem gdW (hl : Cond.methodLink own index y ∈ GW) (hm : gw_w y bts maxL tb n) : GoodIn GW (va_wsS own index y (Cond.codeWith y bts maxL (some .int) tb :: GW)) := by
  obtain ⟨h1, h3, h4, -⟩ := hm
  intro w hw
  have : w ∈ GW := by
    unfold va_wsS at hw
    simp only [List.cons_append, List.nil_append, List.mem_cons] at hw
    rcases hw with rfl | rfl | rfl | rfl | hw
    · exact hl
    · exact h1
    · exact h3
    · exact h4
    · exact hw
  exact ⟨this, gw_good this⟩
theorem cW_i {r : Int32} (hx : p.tables.exec = Jvm.exec) (hb : c.code = cc) (hml : c.maxLocals = nL) (hown : s.vm.findClass own = some m.cls) (hg : ∀ w ∈ GW, w.before args s = true) (hK : kk_ D cI cS cL s) (hP : va_P D vwCl ws H) (hD : va_D A ws) (hS : va_S A s.heap H locs) (hA : ∀ q, s.heap.size ≤ q → A q) (hsz : ls.size = nL) (hZ : zz_ A s s.heap)
    (hM : CWI l y bts maxL rm tb D cI cS cL As wc wc' r) (hm : gw_w y bts maxL tb n) (hl : Cond.methodLink own index y ∈ GW) (hR : rm.cells = 1 ∧ rm.slots = 6 ∧ rm.frames + 1 ≤ R.frames ∧ 8 + (maxL + 11) + rm.locals ≤ R.locals) (hroom : cells + 1 ≤ R.cells ∧ slots + 6 ≤ R.slots) (hp : ws.Perm (wc ++ wr)) (hp' : ws'.Perm (wc' ++ wr)) (hf : wc'.map Prod.fst = wc.map Prod.fst) (hn : As.length = n) (hst : st = As.reverse ++ rest) (hW : (rest.map fun v => v.category).sum ≤ 8) (hdg : decode cc pc = .ok (.invokestatic index, 3))
    (kk : ∀ (H1 : Heap) (locs1 : List Loc), va_P D vwCl ws' H1 → va_D A ws' → va_S A s.heap H1 locs1 → W p l e R s m args below meth c H1 locs1 (cells + 1) (slots + 6) Q (F0 m (pc + 3) ls (.int r :: rest))) : W p l e R s m args below meth c H locs cells slots Q (F0 m pc ls st) := by
  have hPc := va_P_left (va_P_perm hp hP)
  have hDc := va_D_left (va_D_perm hp hD)
  have hFc := va_freeQ hD hS hA hp
  have hZ1 : zz_ A s H := zz_kept hZ hS.2.1
  have hpre := preXS_ (s := s) (as := As) hK hPc hDc (zz_narrow hZ1 hFc)
  refine va_calli (vx_runSW (As := As) (rest := rest) ⟨hx, hb, hml, hown, hg⟩ (hM H.size) (vx_cwSW n hg (gdW hl hm) rfl hR.1 hR.2.1 hm.2.2.2 hR.2.2) hpre rfl hn hsz hst (lv_room hW) hdg hroom) hS (fun q _ h => hFc q h) hFc (fun r' u t H1 locs1 ht hvm hw hB hz1 hk1 hS1 => ?_)
  subst hw
  obtain ⟨hP1, hD1⟩ := hB
  rw [ht] at hP1
  obtain ⟨hP2, hD2⟩ := put_backP hP hD hp hp' hf hk1 hP1
  exact kk H1 locs1 hP2 hD2 hS1
end LAWK
