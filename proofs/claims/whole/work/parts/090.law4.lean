def R_law : String := "SturmianWordsLaw"
def lw_P (b : Addr) (xs : List Int32) (args : Array Value) (s : State) : Prop := args = #[.ref b] ∧ s.IntsAt b xs ∧ xs.length ≤ 1536 ∧ (Jvm.Cond.and given_1 narrow_1).before args s = true
def lw_Q (_ : Array Value) (s : State) (o : Outcome) (t : State) : Prop := o = .returned (some (.int 1)) ∧ Framed s o t [] 600000 7302250
def lw_Z (below : List Frame) (a : Array Value) (s : State) : State → Prop := fun t => ∃ o, t.status = .running ∧ Ended t below o ∧ lw_Q a s o t
/-- the law's own end, with 1 on the stack, nothing written that was there before, its room as the claim has it -/
theorem lw_ret {p : Program} {l : Launch} {e : Env} {s : State} {m : MethodId} {below : List Frame} {meth : Method} {c : Code} {b : Nat} (hx : p.tables.exec = Jvm.exec) (hb : c.code = code) (hr : meth.sig.returnType = ret) (hlocks : meth.locks = false) {pc : Nat} {H : Heap} {ls : Array Slot} (hdg : decode code pc = .ok (.ireturn, 1)) : W p l e room_1 s m #[Value.ref b] below meth c H [] 600000 7302250 (lw_Z below #[Value.ref b] s) (F0 m pc ls [.int 1]) := by
  intro T hT X
  obtain ⟨fs, hret, hrun, hended, hW, hframe⟩ := X.leave (v := some (.int 1)) (hlocks := hlocks) (fun h => by rw [hr] at h; cases h)
  have hmeth' : T.vm.method? m = some meth := X.method'
  refine ⟨T.setFrames fs, ?_, .returned (some (.int 1)), hrun, hended, rfl, ⟨_, rfl⟩, hW, hframe⟩
  jvm_step X.here [X.here.top, hx, hb, hdg, hmeth', hr, ret, narrow_b1]
  (try refine ⟨rfl, ?_⟩); (try refine ⟨rfl, ?_⟩)
  first | (intro acts; rw [hret _ acts rfl rfl rfl]) | rw [hret _ _ rfl rfl rfl]
  exact Steps.refl _
/-- what holds at the law's entry: the machine, the code, the tables' words (any of lw_tbl by 'hts w (by decide +kernel)'), the script of L ints xs at the cell b, what the Statement gives of the start (any of its parts by flat_of_before) -/
def lw_At (p : Program) (s : State) (m : MethodId) (meth : Method) (c : Code) (b L : Nat) (xs : Nat → Int32) : Prop :=
  p.tables.exec = Jvm.exec ∧ c.code = code ∧ meth.sig.returnType = ret ∧ c.maxLocals = 4 ∧ s.vm.findClass R_law = some m.cls ∧ (∀ w ∈ lw_tbl, w.before #[Value.ref b] s = true) ∧ va_X b L xs s s.heap ∧ b < s.heap.size ∧ meth.locks = false ∧ (Jvm.Cond.and given_1 narrow_1).before #[Value.ref b] s = true
set_option maxHeartbeats 4000000 in
set_option maxRecDepth 100000 in
theorem law_loop {pr : Program} {ev : Env} {s : State} {mt : MethodId} {below : List Frame} {meth : Method} {cd : Code} {lau : Launch} {G : va_G} {cy : Nat → ClassId} {ad : Nat → Nat} {b9 L9 : Nat} {xs : Nat → Int32} {a0 a1 a2 a3 a4 a5 a6 a7 xa hi ra ci pa ga : Nat} {H : Heap} {locs : List Loc} {ls : Array Slot}
  (hx : pr.tables.exec = Jvm.exec) (hb : cd.code = code) (hr : meth.sig.returnType = ret) (hlocks : meth.locks = false) (hml : cd.maxLocals = 4) (hown : s.vm.findClass RL = some mt.cls) (hts : ∀ w ∈ lw_tbl, w.before #[Value.ref b9] s = true) (hKK : KK G cy s) (hEN : EN ad (fun q : Nat => s.heap.size ≤ q) s s.heap) (hX : va_X b9 L9 xs s s.heap) (hbl : b9 < s.heap.size) (hL : L9 ≤ 1536) (hI0 : LInv G cy (fun q : Nat => s.heap.size ≤ q) a0 a1 a2 a3 a4 a5 a6 a7 xa hi ra ci pa ga H) (hS0 : va_S (fun q : Nat => s.heap.size ≤ q) s.heap H locs) (hl : lv_has ls 4 [(0, .ref b9), (1, .ref xa), (2, .ref a0), (3, .int (iZ 0))]) :
  W pr lau ev room_1 s mt #[Value.ref b9] below meth cd H locs 20 4000 (lw_Z below #[Value.ref b9] s) (F0 mt 18 ls []) := by
  have hA : ∀ q : Nat, s.heap.size ≤ q → (fun q : Nat => s.heap.size ≤ q) q := fun _ h => h
  have hbA : ¬ (fun q : Nat => s.heap.size ≤ q) b9 := Nat.not_le.mpr hbl
  refine W.widen (k := (20 + 10 * (0 : Int)).toNat) (n := (4000 + 40 * (0 : Int)).toNat) (by decide) (by decide) ?_
  refine z_loopH1 (nL := 4) (A := (fun q : Nat => s.heap.size ≤ q)) (fun (i : Int) => [(0, .ref b9), (1, .ref xa), (2, .ref a0), (3, .int (iZ i))]) (fun (i : Int) (H : Heap) => (0 ≤ i ∧ i ≤ (L9 : Int) + 3) ∧ LInv G cy (fun q : Nat => s.heap.size ≤ q) a0 a1 a2 a3 a4 a5 a6 a7 xa hi ra ci pa ga H ∧ Fh (fun q : Nat => s.heap.size ≤ q) s.heap H) (fun (i : Int) => (L9 : Int) + 3 - i) (fun (i : Int) => (20 + 10 * i).toNat) (fun (i : Int) => (4000 + 40 * i).toNat) (a1 := 0) ⟨by omega, hI0, Fh.of hS0⟩ hS0.2.2 hl ?_
  rintro i H locs ⟨hi, hI, hFr⟩ hLc ih ls hl
  have hS : va_S (fun q : Nat => s.heap.size ≤ q) s.heap H locs := Fh.S hFr hLc
  obtain ⟨st, sl, wo, nx, kp, rw9, pt1, gp, p, q, c, b, n, ed, tc, ol, nl, nw, nr, ps, tm, od, ne, pt, hP, hD, ⟨rfl, rfl, rfl, rfl, hw, hq, hn⟩, hHS, hke, he, hnx, hpt⟩ := hI
  refine lv_iload_n hx hb dL_law_18 rfl (lv_at hl 3 rfl) ?_
  refine lv_aload_n hx hb dL_law_19 rfl (lv_at hl 0 rfl) ?_
  refine z_slen hx hb hX hbl hbA hS dL_law_20 ?_
  refine lv_iconst (v := iZ 3) hx hb dL_law_21 rfl ?_
  refine z_isub hx hb dL_law_22 ?_
  refine z_icmp_gt (tgt := 816) hx hb dL_law_23 (by decide) (by omega) (fun c_23 => ?_) (fun c_23 => ?_)
  · refine lv_iconst (v := 1) hx hb dL_law_816 rfl ?_
    refine va_forget (fun q h => hS.2.2 q h) ?_
    refine W.widen (k := 600000) (n := 7302250) (by omega) (by omega) ?_
    exact lw_ret hx hb hr hlocks dL_law_817
  · refine law_op hx hb hml hown hts hKK hEN hA hX hbl hbA hL hP hD hS hw hq ⟨hw.2.1, hn⟩ hHS hke he hnx hpt ⟨hi.1, by omega⟩ (u := xI xs (i + 1)) rfl (v := xI xs (i + 2)) rfl ⟨by omega, by omega⟩ hl ?_ (w9 := xI xs i) rfl
    intro H locs ls hI hS hl
    refine lv_iinc (v := iZ (i + 3)) (lv' := [(3, .int (iZ (i + 3))), (0, .ref b9), (1, .ref xa), (2, .ref a0)]) hx hb dL_law_810 hl (k := 3) rfl (iZ_add _ _) (by decide) rfl (fun ls hl => ?_)
    refine lv_goto (tgt := 18) hx hb dL_law_813 (by decide) ?_
    rw [show (20 + 10 * i).toNat + 30 = (20 + 10 * (i + 3)).toNat by omega, show (4000 + 40 * i).toNat + 120 = (4000 + 40 * (i + 3)).toNat by omega]
    exact ih (i + 3) H locs ⟨by omega, hI, Fh.of hS⟩ hS.2.2 ⟨by omega, by omega⟩ ls (lv_sub hl [1, 2, 3, 0] rfl)
