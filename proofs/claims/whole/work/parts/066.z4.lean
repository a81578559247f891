/-- none of the listed cells is X's -/
def NA (X : Nat → Prop) (ws : va_W) : Prop := ∀ q ∈ ws, ¬ X q.1
theorem NA.nil {X : Nat → Prop} : NA X [] := fun q h => absurd h List.not_mem_nil
theorem NA.cons {X : Nat → Prop} {q : Nat × va_E} {ws : va_W} (h : ¬ X q.1) (t : NA X ws) : NA X (q :: ws) := fun r hr => by
  rcases List.mem_cons.mp hr with rfl | hr
  · exact h
  · exact t r hr
theorem NA.at {X : Nat → Prop} {ws : va_W} (h : NA X ws) (i : Nat) {q : Nat × va_E} (e : ws[i]? = some q) : ¬ X q.1 := h q (List.mem_of_getElem? e)
theorem im_keep2 {G : va_G} {cl : List vw_C} {A : Nat → Prop} {ws : va_W} {H0 H : Heap} (h : va_P G cl ws H0) (hA : NA A ws) (hS : Fh A H0 H) : va_P G cl ws H := h.kept (fun k q hk => hS.2 q.1 (h k q hk).lt (hA q (List.mem_of_getElem? hk)))
theorem z_nA {A0 : Nat → Prop} {D : va_G} {cl : List vw_C} {ws wc : va_W} {H : Heap} (hP : va_P D cl ws H) (hD : va_D A0 ws) (isC : List Nat) (hC : isC.map (fun i => ws[i]?) = wc.map some) (i : Nat) {q : Nat × va_E} (hq : ws[i]? = some q) (hi : i ∉ isC) : ¬ va_A wc H.size q.1 := by
  rintro (⟨k2, e, h⟩ | h)
  · have h1 : (isC.map (fun i => ws[i]?))[k2]? = some (some (q.1, e)) := by rw [hC, List.getElem?_map, h]; rfl
    rw [List.getElem?_map] at h1
    cases hj : isC[k2]? with
    | none => rw [hj] at h1; cases h1
    | some j =>
      rw [hj] at h1
      have hij := hD.1 i j q (q.1, e) hq (Option.some.inj h1) rfl
      subst hij
      exact hi (List.mem_of_getElem? hj)
  · have := (hP i q hq).lt
    omega
def qf (f : Int → Option Nat) : Nat → Option Nat := fun j => f (j : Int)
def upq (f : Int → Option Nat) (k : Int) (v : Option Nat) : Int → Option Nat := fun j => if j = k then v else f j
theorem qf_at {f : Int → Option Nat} {k : Int} (h : 0 ≤ k ∧ k < 2147483648) : qf f (iZ k).toNatClampNeg = f k := by
  rw [iZ_cl h.1 h.2]
  show f ((k.toNat : Nat) : Int) = _
  rw [Int.toNat_of_nonneg h.1]
theorem qf_up {f : Int → Option Nat} {k : Int} {v : Option Nat} (h : 0 ≤ k ∧ k < 2147483648) : va_up (qf f) (iZ k).toNatClampNeg v = qf (upq f k v) := by
  rw [iZ_cl h.1 h.2]
  funext j
  show (if j = k.toNat then v else f j) = (if (j : Int) = k then v else f j)
  by_cases q : j = k.toNat
  · rw [if_pos q, if_pos (by omega)]
  · rw [if_neg q, if_neg (by omega)]
section ZD
variable {p : Program} {l : Launch} {e : Env} {R : Room} {s : State} {m : MethodId} {args : Array Value} {below : List Frame} {meth : Method} {c : Code} {H : Heap} {locs : List Loc} {cells slots : Nat} {Q : State → Prop}
variable {cc : ByteArray} {pc : Nat} {ls : Array Slot} {rest : List Value} {D : va_G} {cl : List vw_C} {A : Nat → Prop} {a : Nat} {tys : List (ClassId × FieldType)} {ws : va_W} {H0 : Heap}
theorem z_aald (hx : p.tables.exec = Jvm.exec) (hb : c.code = cc) (hK : va_K D cl tys s) (hP : va_P D cl ws H) (q0 t0 : Nat) {cA : ClassId} {C : String} {n : Nat} {f : Int → Option Nat} (ha : ws[q0]? = some (a, .inl (cA, n, .inr (.inr (.inr (.inr (qf f))))))) (ht : tys[t0]? = some (cA, .object C)) {i : Int} (h : 0 ≤ i ∧ i < 2147483648 ∧ i < n) {v : Nat} (hv : f i = some v) (d : decode cc pc = .ok (.aaload, 1))
    (kk : W p l e R s m args below meth c H locs cells slots Q (F0 m (pc + 1) ls (.ref v :: rest))) : W p l e R s m args below meth c H locs cells slots Q (F0 m pc ls (.int (iZ i) :: .ref a :: rest)) := va_aldq hx hb hK hP q0 t0 ha ht (iZ_in h) d (by rw [qf_at ⟨h.1, h.2.1⟩, hv]; exact kk)
theorem z_aast (hx : p.tables.exec = Jvm.exec) (hb : c.code = cc) (hK : va_K D cl tys s) (hP : va_P D cl ws H) (hD : va_D A ws) (hS : va_S A H0 H locs) (q0 t0 qk ci : Nat) {cA : ClassId} {r : vw_C} {n v : Nat} {vs : List Value} {wi : va_W} {f : Int → Option Nat} (hI : va_P D cl wi H) (ha : ws[q0]? = some (a, .inl (cA, n, .inr (.inr (.inr (.inr (qf f))))))) (ht : tys[t0]? = some (cA, .object r.1)) (hv : wi[qk]? = some (v, .inr (ci, vs))) (hc : cl[ci]? = some r) {i : Int} (h : 0 ≤ i ∧ i < 2147483648 ∧ i < n) (hdg : decode cc pc = .ok (.aastore, 1))
    (kk : ∀ (H1 : Heap) (locs1 : List Loc), va_P D cl (ws.set q0 (a, .inl (cA, n, .inr (.inr (.inr (.inr (qf (upq f i (some v))))))))) H1 → va_D A (ws.set q0 (a, .inl (cA, n, .inr (.inr (.inr (.inr (qf (upq f i (some v))))))))) → va_S A H0 H1 locs1 → W p l e R s m args below meth c H1 locs1 cells slots Q (F0 m (pc + 1) ls rest)) : W p l e R s m args below meth c H locs cells slots Q (F0 m pc ls (.ref v :: .int (iZ i) :: .ref a :: rest)) := by
  have hin : vp_in (iZ i) n := iZ_in h
  have hlt : (iZ i).toNatClampNeg < n := Nat.not_le.mp fun q => hin (Or.inr q)
  have h0 : ¬ iZ i < 0 := fun q => hin (Or.inl q)
  rw [← qf_up ⟨h.1, h.2.1⟩] at kk
  obtain ⟨r', hr', cellV, g1, g2, g3, -⟩ := hI qk _ hv
  have hcls := (hK.1 ci r hc).2
  obtain ⟨kA, comp, k1, k2, k3, -⟩ := (hK.2 t0 _ ht).2
  have hcomp : comp = D.1 ci := Option.some.inj (k3.symm.trans hcls.1)
  subst hcomp
  obtain ⟨kC, hkC, -⟩ := hcls.2
  refine W.aast hx hb (hP q0 _ ha) (fun q h => by cases h) (fun h => by cases h) k1 k2 rfl hkC ⟨h0, by show _ < (arrV _ _ _).slots.size; rw [arrV_size]; exact hlt⟩ g1 (fun q h => by rw [g3] at h; cases h) (by rw [g2]; exact hkC) (by rw [g2]; exact va_assign hcls) rfl rfl hdg fun H1 e z oq => ?_
  refine kk H1 _ (hP.set hD ha ?_ oq) (hD.set ha) (hS.put z oq (hD.2 q0 _ ha))
  show H1[a]? = some (vp_cell _ _)
  rw [e]
  rw [vp_cell_q, vp_cell_q, arrV_store]
  congr 2
  funext q
  by_cases hq : q = (iZ i).toNatClampNeg
  · subst hq
    simp [va_up, updV, va_rf]
  · simp [va_up, updV, hq]
theorem z_newai {cy : Nat → ClassId} (hx : p.tables.exec = Jvm.exec) (hb : c.code = cc) (harr : (Cond.arrayClass .int).before args s = true) (hK : va_K D cl (tyS cy) s) (hP : va_P D cl ws H) (hD : va_D A ws) (hS : va_S A H0 H locs) (hA : ∀ q, H0.size ≤ q → A q) {n : Int} (N : Nat) (hn : n = N ∧ N ≤ 100000) (hcells : cells + 1 ≤ R.cells) (hslots : slots + N ≤ R.slots) (d : decode cc pc = .ok (.newarray .int, 2))
    (kk : ∀ (q : Nat) (H1 : Heap), va_P D cl (ws ++ [(q, .inl (cy 0, N, .inl (zf (fun _ => 0))))]) H1 → va_D A (ws ++ [(q, .inl (cy 0, N, .inl (zf (fun _ => 0))))]) → va_S A H0 H1 locs → W p l e R s m args below meth c H1 locs (cells + 1) (slots + N) Q (F0 m (pc + 2) ls (.ref q :: rest))) : W p l e R s m args below meth c H locs cells slots Q (F0 m pc ls (.int (iZ n) :: rest)) := by
  have e0 : zf (fun _ => 0) = fun _ => (0 : Int32) := by funext j; show iZ 0 = 0; decide +kernel
  obtain ⟨rfl, hN⟩ := hn
  refine va_newa (atype := .int) (ty := .int) (N' := N) (a0 := (N, .inl (zf (fun _ => 0)))) hx hb harr rfl hK hP hD hS hA (fun cA => by rw [e0]; rfl) (by rw [iZ_0, iZ_lt (by omega)]; omega) (by rw [iZ_cl (by omega) (by omega)]; rfl) (by show N * 4 ≤ _; omega) hcells hslots d (fun q cA H1 hK1 hP1 hD1 hS1 => ?_)
  have e1 : cA = cy 0 := Option.some.inj ((hK1.2 3 (cA, .int) rfl).2.symm.trans (hK.2 0 (cy 0, .int) rfl).2)
  subst e1
  exact kk q H1 hP1 hD1 hS1
theorem z_newaz {cy : Nat → ClassId} (hx : p.tables.exec = Jvm.exec) (hb : c.code = cc) (harr : (Cond.arrayClass .boolean).before args s = true) (hK : va_K D cl (tyS cy) s) (hP : va_P D cl ws H) (hD : va_D A ws) (hS : va_S A H0 H locs) (hA : ∀ q, H0.size ≤ q → A q) {n : Int} (N : Nat) (hn : n = N ∧ N ≤ 100000) (hcells : cells + 1 ≤ R.cells) (hslots : slots + N ≤ R.slots) (d : decode cc pc = .ok (.newarray .boolean, 2))
    (kk : ∀ (q : Nat) (H1 : Heap), va_P D cl (ws ++ [(q, .inl (cy 1, N, .inl (zf (fun _ => 0))))]) H1 → va_D A (ws ++ [(q, .inl (cy 1, N, .inl (zf (fun _ => 0))))]) → va_S A H0 H1 locs → W p l e R s m args below meth c H1 locs (cells + 1) (slots + N) Q (F0 m (pc + 2) ls (.ref q :: rest))) : W p l e R s m args below meth c H locs cells slots Q (F0 m pc ls (.int (iZ n) :: rest)) := by
  have e0 : zf (fun _ => 0) = fun _ => (0 : Int32) := by funext j; show iZ 0 = 0; decide +kernel
  obtain ⟨rfl, hN⟩ := hn
  refine va_newa (atype := .boolean) (ty := .boolean) (N' := N) (a0 := (N, .inl (zf (fun _ => 0)))) hx hb harr rfl hK hP hD hS hA (fun cA => by rw [e0]; rfl) (by rw [iZ_0, iZ_lt (by omega)]; omega) (by rw [iZ_cl (by omega) (by omega)]; rfl) (by show N * 1 ≤ _; omega) hcells hslots d (fun q cA H1 hK1 hP1 hD1 hS1 => ?_)
  have e1 : cA = cy 1 := Option.some.inj ((hK1.2 3 (cA, .boolean) rfl).2.symm.trans (hK.2 1 (cy 1, .boolean) rfl).2)
  subst e1
  exact kk q H1 hP1 hD1 hS1
theorem z_newaq {cy : Nat → ClassId} {own : String} {index : Nat} (hx : p.tables.exec = Jvm.exec) (hb : c.code = cc) (hown : s.vm.findClass own = some m.cls) (hlink : (Cond.classLink own index "SturmianWords$State").before args s = true) (hov : va_AO "SturmianWords$State" s) (hK : va_K D cl (tyS cy) s) (hP : va_P D cl ws H) (hD : va_D A ws) (hS : va_S A H0 H locs) (hA : ∀ q, H0.size ≤ q → A q) {n : Int} (N : Nat) (hn : n = N ∧ N ≤ 100000) (hcells : cells + 1 ≤ R.cells) (hslots : slots + N ≤ R.slots) (d : decode cc pc = .ok (.anewarray index, 3))
    (kk : ∀ (q : Nat) (H1 : Heap), va_P D cl (ws ++ [(q, .inl (cy 2, N, .inr (.inr (.inr (.inr (qf (fun _ => none)))))))]) H1 → va_D A (ws ++ [(q, .inl (cy 2, N, .inr (.inr (.inr (.inr (qf (fun _ => none)))))))]) → va_S A H0 H1 locs → W p l e R s m args below meth c H1 locs (cells + 1) (slots + N) Q (F0 m (pc + 3) ls (.ref q :: rest))) : W p l e R s m args below meth c H locs cells slots Q (F0 m pc ls (.int (iZ n) :: rest)) := by
  obtain ⟨rfl, hN⟩ := hn
  refine va_newq (N' := N) hx hb hown hlink hov hK hP hD hS hA (by rw [iZ_0, iZ_lt (by omega)]; omega) (by rw [iZ_cl (by omega) (by omega)]; rfl) (by omega) hcells hslots d (fun q cA H1 hK1 hP1 hD1 hS1 => ?_)
  obtain ⟨-, -, -, -, -, f4⟩ := (hK1.2 3 (cA, .object "SturmianWords$State") rfl).2
  obtain ⟨-, -, -, -, -, f5⟩ := (hK.2 2 (cy 2, .object "SturmianWords$State") rfl).2
  have e1 : cA = cy 2 := Option.some.inj (f4.symm.trans f5)
  subst e1
  exact kk q H1 hP1 hD1 hS1
end ZD
