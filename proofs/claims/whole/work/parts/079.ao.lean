def P3 (G : va_G) (cy : Nat → ClassId) (av : List Value) (B : Heap → Prop) : Array Value → State → Prop := fun v U => v = av.toArray ∧ (KK G cy U ∧ va_AO "SturmianWords$State" U) ∧ B U.heap
theorem P3_blind {G : va_G} {cy : Nat → ClassId} {av : List Value} {B : Heap → Prop} : FrameBlind (P3 G cy av B) := fun _ U _ _ h => ⟨h.1, ⟨h.2.1.1.same rfl, va_AO.moved (Vm.Alike.refl U.vm) h.2.1.2⟩, h.2.2⟩
theorem P3_mk {G : va_G} {cy : Nat → ClassId} {av : List Value} {B : Heap → Prop} {s : State} {H : Heap} (hK : KK G cy s) (hE : va_AO "SturmianWords$State" s) (hB : B H) : ∀ U : State, U.heap = H → s.WarmedH U.vm → P3 G cy av B av.toArray U := fun U hU hW => ⟨rfl, ⟨hK.warm hW, va_AO.moved hW.alike hE⟩, by rw [hU]; exact hB⟩
theorem z_head3 {l : Launch} {y : MethodName} {ws ws' : List Cond} {rm : Room} {G : va_G} {cy : Nat → ClassId} {av : List Value} {B : Heap → Prop} {Qc : Array Value → State → Outcome → State → Prop} {mc ms : Nat} {free : Addr → Prop} {cc : ByteArray} {maxL : Nat} {ret : Option FieldType} {lv : List (Nat × Value)} (C : String) (hy : plainName y.cls = true) (hyc : y.cls = C) (hw : ws = Cond.code y cc maxL ret :: ws') (hn : (lg_sl av).length ≤ maxL) (hlv : lv_args 0 av = lv)
    (body : ∀ (p : Program) (e : Env) (s : State) (m : MethodId) (below : List Frame) (meth : Method) (c : Code) (ls : Array Slot), p.tables.exec = Jvm.exec → c.code = cc → meth.sig.returnType = ret → meth.locks = false → c.maxLocals = maxL → s.vm.findClass C = some m.cls → meth.name = y.name → (∀ w ∈ ws, w.before av.toArray s = true) → KK G cy s → va_AO "SturmianWords$State" s → B s.heap → lv_has ls maxL lv → W p l e rm s m av.toArray below meth c s.heap [] 0 0 (MQ below Qc av.toArray s mc ms free) (F0 m 0 ls [])) : Met l y ws rm (P3 G cy av B) Qc mc ms free := by
  refine Met.ofW (cc := cc) (maxL := maxL) (ret := ret) hy hw ?_
  intro p e s m args below meth c s₁ Bo hml hv
  obtain ⟨rfl, ⟨hK, hE⟩, hB⟩ := hv
  have hts := atoms_spec (ws := ws) Bo.pre
  have hown : s.vm.findClass C = some m.cls := hyc ▸ findClass_of_methodNamed Bo.named
  rw [lg_entry_eq]
  exact body p e s m below meth c _ Bo.exec Bo.bytes Bo.returns Bo.notSynchronized hml hown (name_of_methodNamed Bo.named Bo.method).1 hts hK hE hB (hlv ▸ lv_entry av hn)
