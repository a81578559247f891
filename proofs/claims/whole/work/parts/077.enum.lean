/-! the morphisms' constants -/
def enN : List String := ["EXCHANGE", "ZERO_TO_01", "ZERO_TO_10", "ONE_TO_01", "ONE_TO_10"]
def enF : List (String × String × String × List Int32) := [("SturmianWords$Morphism", "bitsOfZero", "I", [1, 1, 2, 0, 0]), ("SturmianWords$Morphism", "sizeOfZero", "I", [1, 2, 2, 1, 1]), ("SturmianWords$Morphism", "bitsOfOne", "I", [0, 0, 0, 1, 2]), ("SturmianWords$Morphism", "sizeOfOne", "I", [1, 1, 1, 2, 2])]
def EN (ad : Nat → Nat) (A : Nat → Prop) (U : State) (H : Heap) : Prop := va_En "SturmianWords$Morphism" "LSturmianWords$Morphism;" enN enF ad A U H
theorem en_v : ∀ i, i < 5 → ([1, 1, 2, 0, 0] : List Int32).getD i 0 = iZ (mB i 0) ∧ ([1, 2, 2, 1, 1] : List Int32).getD i 0 = iZ (mN i 0) ∧ ([0, 0, 0, 1, 2] : List Int32).getD i 0 = iZ (mB i 1) ∧ ([1, 1, 1, 2, 2] : List Int32).getD i 0 = iZ (mN i 1) := by decide +kernel
def P2 (G : va_G) (cy : Nat → ClassId) (ad : Nat → Nat) (A : Nat → Prop) (av : List Value) (B : Heap → Prop) : Array Value → State → Prop := fun v U => v = av.toArray ∧ (KK G cy U ∧ EN ad A U U.heap) ∧ B U.heap
theorem P2_blind {G : va_G} {cy : Nat → ClassId} {ad : Nat → Nat} {A : Nat → Prop} {av : List Value} {B : Heap → Prop} : FrameBlind (P2 G cy ad A av B) := fun _ U _ _ h => ⟨h.1, ⟨h.2.1.1.same rfl, va_En.moved (Vm.Alike.refl U.vm) h.2.1.2⟩, h.2.2⟩
theorem P2_mk {G : va_G} {cy : Nat → ClassId} {ad : Nat → Nat} {A : Nat → Prop} {av : List Value} {B : Heap → Prop} {s : State} {H : Heap} (hK : KK G cy s) (hE : EN ad A s H) (hB : B H) : ∀ U : State, U.heap = H → s.WarmedH U.vm → P2 G cy ad A av B av.toArray U := fun U hU hW => ⟨rfl, ⟨hK.warm hW, by rw [hU]; exact va_En.moved hW.alike hE⟩, by rw [hU]; exact hB⟩
theorem z_head2 {l : Launch} {y : MethodName} {ws ws' : List Cond} {rm : Room} {G : va_G} {cy : Nat → ClassId} {ad : Nat → Nat} {A : Nat → Prop} {av : List Value} {B : Heap → Prop} {Qc : Array Value → State → Outcome → State → Prop} {mc ms : Nat} {free : Addr → Prop} {cc : ByteArray} {maxL : Nat} {ret : Option FieldType} {lv : List (Nat × Value)} (C : String) (hy : plainName y.cls = true) (hyc : y.cls = C) (hw : ws = Cond.code y cc maxL ret :: ws') (hn : (lg_sl av).length ≤ maxL) (hlv : lv_args 0 av = lv)
    (body : ∀ (p : Program) (e : Env) (s : State) (m : MethodId) (below : List Frame) (meth : Method) (c : Code) (ls : Array Slot), p.tables.exec = Jvm.exec → c.code = cc → meth.sig.returnType = ret → meth.locks = false → c.maxLocals = maxL → s.vm.findClass C = some m.cls → meth.name = y.name → (∀ w ∈ ws, w.before av.toArray s = true) → KK G cy s → EN ad A s s.heap → B s.heap → lv_has ls maxL lv → W p l e rm s m av.toArray below meth c s.heap [] 0 0 (MQ below Qc av.toArray s mc ms free) (F0 m 0 ls [])) : Met l y ws rm (P2 G cy ad A av B) Qc mc ms free := by
  refine Met.ofW (cc := cc) (maxL := maxL) (ret := ret) hy hw ?_
  intro p e s m args below meth c s₁ Bo hml hv
  obtain ⟨rfl, ⟨hK, hE⟩, hB⟩ := hv
  have hts := atoms_spec (ws := ws) Bo.pre
  have hown : s.vm.findClass C = some m.cls := hyc ▸ findClass_of_methodNamed Bo.named
  rw [lg_entry_eq]
  exact body p e s m below meth c _ Bo.exec Bo.bytes Bo.returns Bo.notSynchronized hml hown (name_of_methodNamed Bo.named Bo.method).1 hts hK hE hB (hlv ▸ lv_entry av hn)
section ZE
variable {p : Program} {l : Launch} {e : Env} {R : Room} {s : State} {m : MethodId} {args : Array Value} {below : List Frame} {meth : Method} {c : Code} {H : Heap} {locs : List Loc} {cells slots : Nat} {Q : State → Prop}
variable {cc : ByteArray} {pc : Nat} {ls : Array Slot} {rest : List Value} {A : Nat → Prop}
theorem z_getE (hx : p.tables.exec = Jvm.exec) (hb : c.code = cc) {own ref : String} {ad : Nat → Nat} {index i : Nat} {z : Int} (hE : EN ad A s s.heap) (hi : i < 5) (hS : va_S A s.heap H locs) (hown : s.vm.findClass own = some m.cls) (q : String × String × String × List Int32) (hq : q ∈ enF) (hlink : (Cond.fieldLink own index ref q.2.1 q.2.2.1).before args s = true) (hsame : ∀ x, s.fieldFound? q.1 q.2.1 q.2.2.1 = some x → s.fieldFound? ref q.2.1 q.2.2.1 = some x) (hv : q.2.2.2.getD i 0 = iZ z) (d : decode cc pc = .ok (.getfield index, 3))
    (kk : W p l e R s m args below meth c H locs cells slots Q (F0 m (pc + 3) ls (.int (iZ z) :: rest))) : W p l e R s m args below meth c H locs cells slots Q (F0 m pc ls (.ref (ad i) :: rest)) := va_getE hx hb hE hi hS hown hq hlink hsame d (by rw [hv]; exact kk)
end ZE
theorem lgI_v (i : Int) : lgI i = if mN i 1 ≤ mN i 0 then 0 else 1 := by
  unfold lgI
  split <;> split <;> omega
theorem imI_m {mo b n i : Int} (hi : 0 ≤ i) {j : Int} (hj : i ≤ j) : (imI mo b n i).2 ≤ (imI mo b n j).2 := by
  obtain ⟨k, rfl⟩ : ∃ k : Nat, j = i + k := ⟨(j - i).toNat, by omega⟩
  induction k with
  | zero => simp
  | succ k ih =>
    rw [show i + ((k + 1 : Nat) : Int) = i + k + 1 by omega, imI_s (by omega)]
    have := mN_r mo (ltr b n (i + k))
    have := ih (by omega)
    show _ ≤ (imI mo b n (i + k)).2 + _
    omega
theorem lbI_r (mo b n x : Int) : -1 ≤ lbI mo b n x ∧ lbI mo b n x ≤ 1 := by
  have h : lgI mo = 0 ∨ lgI mo = 1 := by unfold lgI; split <;> omega
  unfold lbI
  by_cases z : hasI mo b n x (lgI mo)
  · rw [if_pos z]; omega
  · rw [if_neg z]
    by_cases y : hasI mo b n x (1 - lgI mo)
    · rw [if_pos y]; omega
    · rw [if_neg y]; omega
