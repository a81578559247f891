/-- the frame: what isn't A's stays, and no cell goes -/
def Fh (A : Nat → Prop) (H0 H1 : Heap) : Prop := H0.size ≤ H1.size ∧ ∀ q : Nat, q < H0.size → ¬ A q → H1[q]? = H0[q]?
theorem Fh.rf {A : Nat → Prop} {H : Heap} : Fh A H H := ⟨Nat.le_refl _, fun _ _ _ => rfl⟩
theorem Fh.S {A : Nat → Prop} {H0 H : Heap} {locs : List Loc} (h : Fh A H0 H) (hL : ∀ q ∈ locs, A q.base) : va_S A H0 H locs := ⟨h.1, h.2, hL⟩
theorem Fh.of {A : Nat → Prop} {H0 H : Heap} {locs : List Loc} (h : va_S A H0 H locs) : Fh A H0 H := ⟨h.1, h.2.1⟩
theorem Fh.tr {A B : Nat → Prop} {H0 H H1 : Heap} (h : Fh A H0 H) (h1 : Fh B H H1) (hAB : ∀ q, q < H.size → B q → A q) : Fh A H0 H1 := ⟨Nat.le_trans h.1 h1.1, fun q q1 q2 => by
  have q3 := Nat.lt_of_lt_of_le q1 h.1
  rw [h1.2 q q3 (fun z => q2 (hAB q q3 z)), h.2 q q1 q2]⟩
/-- cells that nobody writes -/
theorem im_keep {G : va_G} {cl : List vw_C} {A : Nat → Prop} {ws : va_W} {H0 H : Heap} (h : va_P G cl ws H0) (hA : ∀ (k : Nat) (q : Nat × va_E), ws[k]? = some q → ¬ A q.1) (hS : Fh A H0 H) : va_P G cl ws H := h.kept (fun k q hk => hS.2 q.1 (h k q hk).lt (hA k q hk))
section ZB
variable {p : Program} {l : Launch} {e : Env} {R : Room} {s : State} {m : MethodId} {args : Array Value} {below : List Frame} {meth : Method} {c : Code} {H : Heap} {locs : List Loc} {cells slots : Nat} {Q : State → Prop}
variable {cc : ByteArray} {pc : Nat} {ls : Array Slot} {rest : List Value} {D : va_G} {cl : List vw_C} {A : Nat → Prop} {a : Nat} {tys : List (ClassId × FieldType)} {ws : va_W} {H0 : Heap}
theorem z_iast (hx : p.tables.exec = Jvm.exec) (hb : c.code = cc) (hK : va_K D cl tys s) (hP : va_P D cl ws H) (hD : va_D A ws) (hS : va_S A H0 H locs) (q0 t0 : Nat) {cA : ClassId} {n : Nat} {f : Int → Int} (ha : ws[q0]? = some (a, .inl (cA, n, .inl (zf f)))) (ht : tys[t0]? = some (cA, .int)) {i v : Int} (h : 0 ≤ i ∧ i < 2147483648 ∧ i < n) (d : decode cc pc = .ok (.iastore, 1))
    (kk : ∀ (H1 : Heap) (locs1 : List Loc), va_P D cl (ws.set q0 (a, .inl (cA, n, .inl (zf (up1 f i v))))) H1 → va_D A (ws.set q0 (a, .inl (cA, n, .inl (zf (up1 f i v))))) → va_S A H0 H1 locs1 → W p l e R s m args below meth c H1 locs1 cells slots Q (F0 m (pc + 1) ls rest)) : W p l e R s m args below meth c H locs cells slots Q (F0 m pc ls (.int (iZ v) :: .int (iZ i) :: .ref a :: rest)) :=
  va_iast hx hb hK hP hD hS q0 t0 ha ht (iZ_in h) d (by rw [zf_up ⟨h.1, h.2.1⟩]; exact kk)
theorem z_zast (hx : p.tables.exec = Jvm.exec) (hb : c.code = cc) (hK : va_K D cl tys s) (hP : va_P D cl ws H) (hD : va_D A ws) (hS : va_S A H0 H locs) (q0 t0 : Nat) {cA : ClassId} {n : Nat} {f : Int → Int} (ha : ws[q0]? = some (a, .inl (cA, n, .inl (zf f)))) (ht : tys[t0]? = some (cA, .boolean)) {i v : Int} (h : 0 ≤ i ∧ i < 2147483648 ∧ i < n) (hv : v = 0 ∨ v = 1) (d : decode cc pc = .ok (.bastore, 1))
    (kk : ∀ (H1 : Heap) (locs1 : List Loc), va_P D cl (ws.set q0 (a, .inl (cA, n, .inl (zf (up1 f i v))))) H1 → va_D A (ws.set q0 (a, .inl (cA, n, .inl (zf (up1 f i v))))) → va_S A H0 H1 locs1 → W p l e R s m args below meth c H1 locs1 cells slots Q (F0 m (pc + 1) ls rest)) : W p l e R s m args below meth c H locs cells slots Q (F0 m pc ls (.int (iZ v) :: .int (iZ i) :: .ref a :: rest)) :=
  va_zast hx hb hK hP hD hS q0 t0 ha ht (iZ_in h) d (by
    have e : vp_nar .boolean (iZ v) = iZ v := by rcases hv with rfl | rfl <;> rfl
    rw [e, zf_up ⟨h.1, h.2.1⟩]; exact kk)
end ZB
/-- the reference's world -/
abbrev MW (cy : Nat → ClassId) (a0 a1 a2 a3 a4 a5 a6 a7 : Nat) (ed tc ol nl : Int) (nw nx ps tm od ne pt : Int → Int) : va_W := [(a0, .inr (6, [.ref a1, .ref a2, .ref a3, .int (iZ ed), .ref a4, .int (iZ tc), .ref a5, .int (iZ ol), .ref a6, .int (iZ nl), .ref a7])), (a1, .inl (cy 0, 64, .inl (zf nw))), (a2, .inl (cy 0, 64, .inl (zf nx))), (a3, .inl (cy 0, 384, .inl (zf ps))), (a4, .inl (cy 0, 20, .inl (zf tm))), (a5, .inl (cy 0, 60, .inl (zf od))), (a6, .inl (cy 0, 60, .inl (zf ne))), (a7, .inl (cy 1, 1000, .inl (zf pt)))]
