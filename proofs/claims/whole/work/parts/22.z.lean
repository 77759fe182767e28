def CTj (l : Launch) (y : MethodName) (b : ByteArray) (n : Nat) (ret : Option FieldType) (rm : Room) (D : va_G) (cI cS cL : ClassId) (as : List Value) (w w' : va_W) (E0 : String) : Prop :=
  ∀ sz, vx_Met l y (Cond.code y b n ret :: GW) rm (va_Pc as (preX_ D cI cS cL w sz)) (va_Qi (fun _ (_ : Unit) => False) (fun _ _ => False) (va_A w sz)) (XT D w' E0 (va_A w sz)) 1 6 (va_A w sz)
set_option maxRecDepth 100000 in
theorem ent_tj {l : Launch} {y : MethodName} {b : ByteArray} {n : Nat} {ret : Option FieldType} {rm : Room} {D : va_G} {cI cS cL : ClassId} {as : List Value} {w w' : va_W} {E0 : String} (hy : plainName y.cls = true) (hn : (lg_sl as).length ≤ n)
    (body : BDT l y b n ret rm D cI cS cL as w (fun below args s A => FT D below (va_Qi (fun _ (_ : Unit) => False) (fun _ _ => False) A) args s w' E0 A)) : CTj l y b n ret rm D cI cS cL as w w' E0 := by
  intro sz
  refine vx_ofW (cc := b) (maxL := n) (ret := ret) hy rfl ?_
  intro p e s m args below meth c s₁ B hml htab hv
  obtain ⟨rfl, ⟨hsz, hP, hK, hD0⟩, hZ⟩ := hv
  have hts := atoms_spec (ws := Cond.code y b n ret :: GW) B.pre
  have hown : s.vm.findClass y.cls = some m.cls := findClass_of_methodNamed B.named
  subst hsz
  have hD := hD0.self (sz := s.heap.size)
  have hl := lv_entry as (n := n) hn
  rw [lg_entry_eq]
  exact body p e s m as.toArray below meth c (va_A w s.heap.size) _ B.exec B.bytes B.returns hml B.notSynchronized (fun w hw => hts w (List.mem_cons_of_mem _ hw)) hown hK hP hD va_S.rf (fun q h => Or.inr h) hl htab hZ
