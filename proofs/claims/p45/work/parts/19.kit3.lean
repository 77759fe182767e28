-- ===== worlds in blocks: a callee's blocks ahead, by a permutation =====
theorem va_P_mem {D : va_G} {cl : List vw_C} {ws : va_W} {H : Heap} : va_P D cl ws H ↔ ∀ q ∈ ws, va_at D cl q H := by
  constructor
  · intro h q hq
    obtain ⟨k, hk⟩ := List.getElem?_of_mem hq
    exact h k q hk
  · intro h k q hk
    exact h q (List.mem_of_getElem? hk)
theorem va_D_nd {A : Nat → Prop} {ws : va_W} : va_D A ws ↔ (ws.map Prod.fst).Nodup ∧ ∀ q ∈ ws, A q.1 := by
  constructor
  · intro h
    refine ⟨?_, fun q hq => ?_⟩
    · unfold List.Nodup
      rw [List.pairwise_iff_getElem]
      intro i j hi hj hij he
      have hi' : i < ws.length := by simpa using hi
      have hj' : j < ws.length := by simpa using hj
      have := h.1 i j ws[i] ws[j] (List.getElem?_eq_getElem hi') (List.getElem?_eq_getElem hj') (by simpa using he)
      omega
    · obtain ⟨k, hk⟩ := List.getElem?_of_mem hq
      exact h.2 k q hk
  · rintro ⟨h1, h2⟩
    unfold List.Nodup at h1
    rw [List.pairwise_iff_getElem] at h1
    refine ⟨fun i j p q hi hj he => ?_, fun k q hk => h2 q (List.mem_of_getElem? hk)⟩
    obtain ⟨hi', ei⟩ := List.getElem?_eq_some_iff.mp hi
    obtain ⟨hj', ej⟩ := List.getElem?_eq_some_iff.mp hj
    rcases Nat.lt_trichotomy i j with h | h | h
    · exact absurd (by rw [List.getElem_map, List.getElem_map, ei, ej, he]) (h1 i j (by simpa using hi') (by simpa using hj') h)
    · exact h
    · exact absurd (by rw [List.getElem_map, List.getElem_map, ei, ej, he]) (h1 j i (by simpa using hj') (by simpa using hi') h)
theorem va_P_perm {D : va_G} {cl : List vw_C} {ws ws' : va_W} {H : Heap} (hp : ws.Perm ws') (h : va_P D cl ws H) : va_P D cl ws' H := va_P_mem.mpr fun q hq => va_P_mem.mp h q (hp.mem_iff.mpr hq)
theorem va_D_perm {A : Nat → Prop} {ws ws' : va_W} (hp : ws.Perm ws') (h : va_D A ws) : va_D A ws' := by
  rw [va_D_nd] at h ⊢
  exact ⟨(hp.map _).nodup_iff.mp h.1, fun q hq => h.2 q (hp.mem_iff.mpr hq)⟩
theorem va_P_left {D : va_G} {cl : List vw_C} {a b : va_W} {H : Heap} (h : va_P D cl (a ++ b) H) : va_P D cl a H := va_P_mem.mpr fun q hq => va_P_mem.mp h q (List.mem_append_left _ hq)
theorem va_P_right {D : va_G} {cl : List vw_C} {a b : va_W} {H : Heap} (h : va_P D cl (a ++ b) H) : va_P D cl b H := va_P_mem.mpr fun q hq => va_P_mem.mp h q (List.mem_append_right _ hq)
theorem va_D_left {A : Nat → Prop} {a b : va_W} (h : va_D A (a ++ b)) : va_D A a := by
  rw [va_D_nd] at h ⊢
  rw [List.map_append, List.nodup_append] at h
  exact ⟨h.1.1, fun q hq => h.2 q (List.mem_append_left _ hq)⟩
theorem va_A_mem {w : va_W} {sz q : Nat} (h : va_A w sz q) : q ∈ w.map Prod.fst ∨ sz ≤ q := by
  rcases h with ⟨k, e, h⟩ | h
  · exact Or.inl (List.mem_map.mpr ⟨(q, e), List.mem_of_getElem? h, rfl⟩)
  · exact Or.inr h
theorem put_backP {A0 : Nat → Prop} {D : va_G} {cl : List vw_C} {ws ws' wc wc' wr : va_W} {H H1 : Heap} (hP : va_P D cl ws H) (hD : va_D A0 ws) (hp : ws.Perm (wc ++ wr)) (hp' : ws'.Perm (wc' ++ wr)) (hf : wc'.map Prod.fst = wc.map Prod.fst)
    (hk : ∀ q : Nat, q < H.size → ¬ va_A wc H.size q → H1[q]? = H[q]?) (hP1 : va_P D cl wc' H1) : va_P D cl ws' H1 ∧ va_D A0 ws' := by
  have hP2 := va_P_perm hp hP
  have hD2 := va_D_perm hp hD
  have hDn := va_D_nd.mp hD2
  rw [List.map_append, List.nodup_append] at hDn
  refine ⟨va_P_perm hp'.symm (va_P_mem.mpr fun q hq => ?_), va_D_perm hp'.symm (va_D_nd.mpr ⟨?_, fun q hq => ?_⟩)⟩
  · rcases List.mem_append.mp hq with h | h
    · exact va_P_mem.mp hP1 q h
    · have hat := va_P_mem.mp hP2 q (List.mem_append_right _ h)
      refine hat.kept (hk q.1 hat.lt fun hA => ?_)
      rcases va_A_mem hA with h1 | h1
      · exact hDn.1.2.2 _ h1 _ (List.mem_map.mpr ⟨q, h, rfl⟩) rfl
      · exact absurd hat.lt (Nat.not_lt.mpr h1)
  · rw [List.map_append, hf, List.nodup_append]
    exact hDn.1
  · rcases List.mem_append.mp hq with h | h
    · have h1 : q.1 ∈ wc.map Prod.fst := by rw [← hf]; exact List.mem_map.mpr ⟨q, h, rfl⟩
      obtain ⟨q0, h2, h3⟩ := List.mem_map.mp h1
      rw [← h3]
      exact hDn.2 q0 (List.mem_append_left _ h2)
    · exact hDn.2 q (List.mem_append_right _ h)
section CALLP
variable {p : Program} {l : Launch} {e : Env} {R : Room} {s : State} {m : MethodId} {args : Array Value} {below : List Frame} {meth : Method} {c : Code} {H H0 : Heap} {locs : List Loc} {cells slots : Nat} {Q : State → Prop}
variable {D : va_G} {cI cS cL : ClassId} {A : Nat → Prop} {ws ws' wc wc' wr : va_W} {ls : Array Slot} {rest st : List Value} {pc index nL n maxL : Nat} {cc bts : ByteArray} {Ts : List Cond} {own C host : String} {y : MethodName} {ret : Option FieldType} {rm : Room} {As : List Value} {b ci : Nat} {fs : List Value}
theorem va_freeQ (hD : va_D A ws) (hS : va_S A H0 H locs) (hA : ∀ q, H0.size ≤ q → A q) (hp : ws.Perm (wc ++ wr)) : ∀ q, va_A wc H.size q → A q := fun q h => by
  rcases va_A_mem h with h1 | h1
  · obtain ⟨q0, h2, h3⟩ := List.mem_map.mp h1
    rw [← h3]
    exact (va_D_nd.mp (va_D_perm hp hD)).2 q0 (List.mem_append_left _ h2)
  · exact hA q (Nat.le_trans hS.1 h1)
theorem cP_v {q : vw_C} (hx : p.tables.exec = Jvm.exec) (hb : c.code = cc) (hml : c.maxLocals = nL) (hown : s.vm.findClass own = some m.cls) (hg : ∀ w ∈ GW, w.before args s = true) (hK : kk_ D cI cS cL s) (hP : va_P D vwCl ws H) (hD : va_D A ws) (hS : va_S A H0 H locs) (hA : ∀ q, H0.size ≤ q → A q) (hsz : ls.size = nL)
    (hM : CV l y bts maxL ret rm D cI cS cL (.ref b :: As) wc wc') (hm : gm_ y bts maxL ret n) (hl : Cond.methodLink own index y ∈ GW) (hR : rm.cells = 0 ∧ rm.slots = 0 ∧ rm.frames + 1 ≤ R.frames ∧ 8 + (maxL + 11) + rm.locals ≤ R.locals) (hroom : cells ≤ R.cells ∧ slots ≤ R.slots) (hp : ws.Perm (wc ++ wr)) (hp' : ws'.Perm (wc' ++ wr)) (hf : wc'.map Prod.fst = wc.map Prod.fst) (hci : vwCl[ci]? = some q) (hq : q.1 = y.cls) (hrecv : wc[0]? = some (b, .inr (ci, fs))) (hn : As.length = n) (hst : st = As.reverse ++ .ref b :: rest) (hW : (rest.map fun v => v.category).sum ≤ 8) (hdg : decode cc pc = .ok (.invokevirtual index, 3))
    (kk : ∀ (H1 : Heap) (locs1 : List Loc), va_P D vwCl ws' H1 → va_D A ws' → va_S A H0 H1 locs1 → W p l e R s m args below meth c H1 locs1 cells slots Q (F0 m (pc + 3) ls rest)) : W p l e R s m args below meth c H locs cells slots Q (F0 m pc ls st) := by
  have hPc := va_P_left (va_P_perm hp hP)
  have hDc := va_D_left (va_D_perm hp hD)
  have hpre := preV_ (s := s) (As := As) hK hPc hDc hci hrecv
  rw [hq] at hpre
  have hFc := va_freeQ hD hS hA hp
  refine va_callv (va_runV (As := As) (rest := rest) ⟨hx, hb, hml, hown, hg⟩ (hM H.size) (cwV n hg (gdV hl hm) rfl hR.1 hR.2.1 ⟨rfl, hm.2.2.2.2⟩ hR.2.2) hpre rfl hn hsz hst (lv_room hW) hdg hroom) hS (fun q _ h => hFc q h) hFc (fun u t H1 locs1 ht hvm hw hB hz1 hk1 hS1 => ?_)
  obtain ⟨hP1, hD1⟩ := hB
  rw [ht] at hP1
  obtain ⟨hP2, hD2⟩ := put_backP hP hD hp hp' hf hk1 hP1
  exact kk H1 locs1 hP2 hD2 hS1
end CALLP
theorem fst_app {a a' b b' : va_W} (h1 : a'.map Prod.fst = a.map Prod.fst) (h2 : b'.map Prod.fst = b.map Prod.fst) : (a' ++ b').map Prod.fst = (a ++ b).map Prod.fst := by rw [List.map_append, List.map_append, h1, h2]
