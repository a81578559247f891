theorem en_1 : ∀ i, i < 5 → Cond.laysStatic "SturmianWords$Morphism" (enN.getD i "") "LSturmianWords$Morphism;" ∈ lw_tbl := by decide +kernel
theorem zNs_in : ∀ w ∈ zNs, w ∈ lw_tbl := by decide +kernel
theorem inX0 : ∀ w ∈ u_ws RX0 TX0 2, w ∈ lw_tbl := by decide +kernel
theorem inX1 : ∀ w ∈ u_ws RX1 TX1 3, w ∈ lw_tbl := by decide +kernel
theorem inX3 : ∀ w ∈ u_ws RX3 TX3 3, w ∈ lw_tbl := by decide +kernel
theorem inX4 : ∀ w ∈ u_ws RX4 TX4 2, w ∈ lw_tbl := by decide +kernel
theorem inX5 : ∀ w ∈ u_ws RX5 TX5 2, w ∈ lw_tbl := by decide +kernel
theorem inX6 : ∀ w ∈ u_ws RX6 TX6 3, w ∈ lw_tbl := by decide +kernel
theorem inX7 : ∀ w ∈ u_ws RX7 TX7 11, w ∈ lw_tbl := by decide +kernel
theorem law_K {s : State} {b : Nat} (hts : ∀ w ∈ lw_tbl, w.before #[Value.ref b] s = true) : ∃ (G : va_G) (cy : Nat → ClassId), KK G cy s := by
  obtain ⟨c0, i0, k0⟩ := u_known (C := RX0) (T := TX0) (N := 2) (n := 2) hts inX0 (hts (.instantiable RX0 2) (by decide +kernel))
  obtain ⟨c1, i1, k1⟩ := u_known (C := RX1) (T := TX1) (N := 3) (n := 3) hts inX1 (hts (.instantiable RX1 3) (by decide +kernel))
  obtain ⟨c2, i2, k2⟩ := u_known (C := RX3) (T := TX3) (N := 3) (n := 3) hts inX3 (hts (.instantiable RX3 3) (by decide +kernel))
  obtain ⟨c3, i3, k3⟩ := u_known (C := RX4) (T := TX4) (N := 2) (n := 2) hts inX4 (hts (.instantiable RX4 2) (by decide +kernel))
  obtain ⟨c4, i4, k4⟩ := u_known (C := RX5) (T := TX5) (N := 2) (n := 2) hts inX5 (hts (.instantiable RX5 2) (by decide +kernel))
  obtain ⟨c5, i5, k5⟩ := u_known (C := RX6) (T := TX6) (N := 3) (n := 3) hts inX6 (hts (.instantiable RX6 3) (by decide +kernel))
  obtain ⟨c6, i6, k6⟩ := u_known (C := RX7) (T := TX7) (N := 11) (n := 11) hts inX7 (hts (.instantiable RX7 11) (by decide +kernel))
  obtain ⟨dC, dI, hKc⟩ : ∃ (dC : Nat → ClassId) (dI : Nat → Nat → Nat), ∀ (k : Nat) (q : vw_C), vwCl[k]? = some q → u_Kn s q.1 q.2.1 q.2.2 (dC k) (dI k) := by
    refine ⟨fun k => if k = 0 then c0 else if k = 1 then c1 else if k = 2 then c2 else if k = 3 then c3 else if k = 4 then c4 else if k = 5 then c5 else c6, fun k => if k = 0 then i0 else if k = 1 then i1 else if k = 2 then i2 else if k = 3 then i3 else if k = 4 then i4 else if k = 5 then i5 else i6, ?_⟩
    intro k q hq
    match k, hq with
    | 0, hq => cases hq; exact k0
    | 1, hq => cases hq; exact k1
    | 2, hq => cases hq; exact k2
    | 3, hq => cases hq; exact k3
    | 4, hq => cases hq; exact k4
    | 5, hq => cases hq; exact k5
    | 6, hq => cases hq; exact k6
    | k + 7, hq => simp [vwCl] at hq
  obtain ⟨y0, ka0, cm0, f1, f2, f3⟩ := Cond.arrayClass_spec (hts (.arrayClass .int) (by decide +kernel))
  obtain ⟨y1, ka1, cm1, g1, g2, g3⟩ := Cond.arrayClass_spec (hts (.arrayClass .boolean) (by decide +kernel))
  obtain ⟨cm2, y2, ka2, e1, e2, e3, e4, e5⟩ := Cond.arrayOver_spec (hts (.arrayOver (.object "SturmianWords$State")) (by decide +kernel))
  refine ⟨(dC, dI), fun k => if k = 0 then y0 else if k = 1 then y1 else y2, ⟨hKc, ?_⟩, fun w hw => va_Nw.of (zNs_tab w hw) (hts w (zNs_in w hw))⟩
  intro k q hq
  match k, hq with
  | 0, hq => cases hq; exact ⟨fun n z => ⟨(fun k h => by cases h), ka0, f2, cm0, f3⟩, f1⟩
  | 1, hq => cases hq; exact ⟨fun n z => ⟨(fun k h => by cases h), ka1, g2, cm1, g3⟩, g1⟩
  | 2, hq => cases hq; exact ⟨fun n z => ⟨(fun k h => by cases h), ka2, e3, cm2, e4⟩, ka2, cm2, e3, e4, e1, e5⟩
  | k + 3, hq => simp [tyS] at hq
theorem en_2 : ∀ i, i < 5 → Cond.exactly (.static "SturmianWords$Morphism" (enN.getD i "") "LSturmianWords$Morphism;") "SturmianWords$Morphism" ∈ (flatC (Jvm.Cond.and given_1 narrow_1)) := by decide +kernel
theorem en_3 : ∀ q ∈ enF, ∀ i, i < 5 → Cond.eq (.field (.static "SturmianWords$Morphism" (enN.getD i "") "LSturmianWords$Morphism;") q.1 q.2.1 q.2.2.1) (.int (q.2.2.2.getD i 0)) ∈ (flatC (Jvm.Cond.and given_1 narrow_1)) := by decide +kernel
theorem en_4 : ∀ i, i < 5 → ∀ j, j < 5 → i ≠ j → Cond.not (.eq (.static "SturmianWords$Morphism" (enN.getD i "") "LSturmianWords$Morphism;") (.static "SturmianWords$Morphism" (enN.getD j "") "LSturmianWords$Morphism;")) ∈ (flatC (Jvm.Cond.and given_1 narrow_1)) ∨ Cond.not (.eq (.static "SturmianWords$Morphism" (enN.getD j "") "LSturmianWords$Morphism;") (.static "SturmianWords$Morphism" (enN.getD i "") "LSturmianWords$Morphism;")) ∈ (flatC (Jvm.Cond.and given_1 narrow_1)) := by decide +kernel
theorem law_EN {s : State} {b : Nat} (hts : ∀ w ∈ lw_tbl, w.before #[Value.ref b] s = true) (hgv : (Jvm.Cond.and given_1 narrow_1).before #[Value.ref b] s = true) : ∃ ad : Nat → Nat, EN ad (fun q : Nat => s.heap.size ≤ q) s s.heap := by
  have hs := flat_of_before _ hgv
  obtain ⟨ad, h, -⟩ := va_Enof2 (E := "SturmianWords$Morphism") (d := "LSturmianWords$Morphism;") (nm := enN) (F := enF) (A := (fun q : Nat => s.heap.size ≤ q)) (args := #[Value.ref b]) (fun i hi => hts _ (en_1 i hi)) (hts (.initialized "SturmianWords$Morphism") (by decide +kernel)) (fun i hi => hs _ (en_2 i hi)) (fun q hq i hi => hs _ (en_3 q hq i hi)) (fun i j hi hj hij => (en_4 i hi j hj hij).imp (fun z => hs _ z) (fun z => hs _ z)) (fun a ha => Nat.not_le.mpr ha)
  exact ⟨ad, h⟩
set_option maxHeartbeats 4000000 in
set_option maxRecDepth 100000 in
theorem law_begin {pr : Program} {ev : Env} {s : State} {mt : MethodId} {below : List Frame} {meth : Method} {cd : Code} {lau : Launch} {G : va_G} {cy : Nat → ClassId} {A : Nat → Prop} {b9 : Nat} {Q9 : State → Prop} {ls : Array Slot} (hx : pr.tables.exec = Jvm.exec) (hb : cd.code = code) (hml : cd.maxLocals = 4) (hown : s.vm.findClass RL = some mt.cls) (hts : ∀ w ∈ lw_tbl, w.before #[Value.ref b9] s = true) (hKK : KK G cy s) (hAO : va_AO "SturmianWords$State" s) (hA : ∀ q : Nat, s.heap.size ≤ q → A q) (hl : lv_has ls 4 [(0, .ref b9)]) (K : ∀ (H : Heap) (locs : List Loc) (ls : Array Slot) (a0 a1 a2 a3 a4 a5 a6 a7 xa hi ra ci pa ga : Nat), LInv G cy A a0 a1 a2 a3 a4 a5 a6 a7 xa hi ra ci pa ga H → va_S A s.heap H locs → lv_has ls 4 [(0, .ref b9), (1, .ref xa), (2, .ref a0), (3, .int (iZ 0))] → W pr lau ev room_1 s mt #[Value.ref b9] below meth cd H locs 20 4000 Q9 (F0 mt 18 ls [])) : W pr lau ev room_1 s mt #[Value.ref b9] below meth cd s.heap [] 0 0 Q9 (F0 mt 0 ls []) := by
  have hK := hKK.1
  have hP : va_P G vwCl [] s.heap := fun k q h => by simp at h
  have hD : va_D A [] := ⟨fun i j p q h => by simp at h, fun k q h => by simp at h⟩
  have hS : va_S A s.heap s.heap [] := va_S.rf
  refine va_new (D := G) (ci := 5) (fs := [.null, .null, .null]) (C := RX6) (T := TX6) (N := 3) hx hb hts (by decide +kernel) tyX6 tyX6_ok hown (hts (.classLink RL 7 RX6) (by decide +kernel)) (hts (.instantiable RX6 3) (by decide +kernel)) (hts (.initialized RX6) (by decide +kernel)) hK hP hD hS hA rfl (fun j hj => by rcases (show j = 0 ∨ j = 1 ∨ j = 2 by omega) with rfl | rfl | rfl <;> rfl) (show 0 + 1 ≤ 600000 by omega) (show 0 + 3 ≤ 7302250 by omega) dL_law_0 (fun n0_1 H hP hD hS => ?_)
  have hP : va_P G vwCl [(n0_1, .inr (5, [.null, .null, .null]))] H := hP
  have hD : va_D A [(n0_1, .inr (5, [.null, .null, .null]))] := hD
  refine lv_dup hx hb dL_law_3 rfl ?_
  have hPc := hP.sub (ws' := [(n0_1, .inr (5, [.null, .null, .null]))]) [0] rfl
  have hDc := (hD.sub (ws' := [(n0_1, .inr (5, [.null, .null, .null]))]) [0] (by decide) rfl).weaken (B := fun _ => True) (fun _ _ _ _ => trivial)
  have hFc := va_free (wc := [(n0_1, .inr (5, [.null, .null, .null]))]) hD hS hA [0] rfl
  refine z_callE (A := A) (va_runI (As := []) (rest := [.ref n0_1]) ⟨hx, hb, hml, hown, hts⟩ (c_X6_init lau G cy n0_1 H.size) (cwI 0 hts gL_law_X6_init rfl rfl rfl (hts (.initialized RX6) (by decide +kernel)) (hts (.methodLink RL 9 yX6_init) (by decide +kernel)) (hts (.instanceMethod yX6_init) (by decide +kernel)) rfl (by decide +kernel) ⟨Nat.le_of_ble_eq_true rfl, Nat.le_of_ble_eq_true rfl⟩) ⟨P3_blind, P3_mk hKK hAO (⟨rfl, hPc, hDc⟩)⟩ rfl rfl hl.1 rfl (lv_room (Nat.le_of_ble_eq_true rfl)) dL_law_4 ⟨(show 1 + 10 ≤ 600000 by omega), (show 3 + 2030 ≤ 7302250 by omega)⟩) hS.2.2 hFc (fun v H1 locs1 hR hL1 => ?_)
  obtain ⟨hi_4, ci_4, st_4, ra_4, pa_4, ga_4, sl_4, wo_4, rfl, hq4, hP1, hD1, hF1⟩ := hR
  obtain ⟨hP, hD⟩ := va_join (wr := []) (w1 := [(n0_1, .inr (5, [.ref hi_4, .ref ci_4, .ref st_4])), (hi_4, .inr (1, [.ref ra_4, .int (iZ 0), .int (iZ 0)])), (ra_4, .inl (cy 2, 6, .inr (.inr (.inr (.inr (qf (fun _ => none))))))), (ci_4, .inr (0, [.ref pa_4, .ref ga_4])), (pa_4, .inl (cy 1, 1000, .inl (zf (fun _ => 0)))), (ga_4, .inl (cy 0, 1001, .inl (zf (fun _ => 0)))), (st_4, .inr (3, [.ref sl_4, .ref wo_4])), (sl_4, .inr (2, [.int (iZ 5), .int (iZ 13), .int (iZ 0)])), (wo_4, .inr (4, [.long (lZ 0), .int (iZ 0)]))]) hP hD [0] [] rfl rfl (by decide) (by decide) hF1.2 hFc hP1 hD1
  have hS : va_S A s.heap H1 locs1 := Fh.S ((Fh.of hS).tr hF1 (fun q _ h => hFc q h)) hL1
  clear hPc hDc hFc hP1 hD1 hF1 hL1
  generalize H1 = H at hP hS ⊢
  have hP : va_P G vwCl [(n0_1, .inr (5, [.ref hi_4, .ref ci_4, .ref st_4])), (hi_4, .inr (1, [.ref ra_4, .int (iZ 0), .int (iZ 0)])), (ra_4, .inl (cy 2, 6, .inr (.inr (.inr (.inr (qf (fun _ => none))))))), (ci_4, .inr (0, [.ref pa_4, .ref ga_4])), (pa_4, .inl (cy 1, 1000, .inl (zf (fun _ => 0)))), (ga_4, .inl (cy 0, 1001, .inl (zf (fun _ => 0)))), (st_4, .inr (3, [.ref sl_4, .ref wo_4])), (sl_4, .inr (2, [.int (iZ 5), .int (iZ 13), .int (iZ 0)])), (wo_4, .inr (4, [.long (lZ 0), .int (iZ 0)]))] H := hP
  have hD : va_D A [(n0_1, .inr (5, [.ref hi_4, .ref ci_4, .ref st_4])), (hi_4, .inr (1, [.ref ra_4, .int (iZ 0), .int (iZ 0)])), (ra_4, .inl (cy 2, 6, .inr (.inr (.inr (.inr (qf (fun _ => none))))))), (ci_4, .inr (0, [.ref pa_4, .ref ga_4])), (pa_4, .inl (cy 1, 1000, .inl (zf (fun _ => 0)))), (ga_4, .inl (cy 0, 1001, .inl (zf (fun _ => 0)))), (st_4, .inr (3, [.ref sl_4, .ref wo_4])), (sl_4, .inr (2, [.int (iZ 5), .int (iZ 13), .int (iZ 0)])), (wo_4, .inr (4, [.long (lZ 0), .int (iZ 0)]))] := hD
  refine W.eq (g2 := F0 mt 7 ls [.ref n0_1]) rfl ?_
  refine lv_astore_n (lv' := [(1, .ref n0_1), (0, .ref b9)]) hx hb dL_law_7 rfl hl (by decide) rfl (fun ls hl => ?_)
  refine va_new (D := G) (ci := 6) (fs := [.null, .null, .null, .int (iZ 0), .null, .int (iZ 0), .null, .int (iZ 0), .null, .int (iZ 0), .null]) (C := RX7) (T := TX7) (N := 11) hx hb hts (by decide +kernel) tyX7 tyX7_ok hown (hts (.classLink RL 10 RX7) (by decide +kernel)) (hts (.instantiable RX7 11) (by decide +kernel)) (hts (.initialized RX7) (by decide +kernel)) hK hP hD hS hA rfl (fun j hj => by rcases (show j = 0 ∨ j = 1 ∨ j = 2 ∨ j = 3 ∨ j = 4 ∨ j = 5 ∨ j = 6 ∨ j = 7 ∨ j = 8 ∨ j = 9 ∨ j = 10 by omega) with rfl | rfl | rfl | rfl | rfl | rfl | rfl | rfl | rfl | rfl | rfl <;> rfl) (show 11 + 1 ≤ 600000 by omega) (show 2033 + 11 ≤ 7302250 by omega) dL_law_8 (fun n8_2 H hP hD hS => ?_)
  have hP : va_P G vwCl [(n0_1, .inr (5, [.ref hi_4, .ref ci_4, .ref st_4])), (hi_4, .inr (1, [.ref ra_4, .int (iZ 0), .int (iZ 0)])), (ra_4, .inl (cy 2, 6, .inr (.inr (.inr (.inr (qf (fun _ => none))))))), (ci_4, .inr (0, [.ref pa_4, .ref ga_4])), (pa_4, .inl (cy 1, 1000, .inl (zf (fun _ => 0)))), (ga_4, .inl (cy 0, 1001, .inl (zf (fun _ => 0)))), (st_4, .inr (3, [.ref sl_4, .ref wo_4])), (sl_4, .inr (2, [.int (iZ 5), .int (iZ 13), .int (iZ 0)])), (wo_4, .inr (4, [.long (lZ 0), .int (iZ 0)])), (n8_2, .inr (6, [.null, .null, .null, .int (iZ 0), .null, .int (iZ 0), .null, .int (iZ 0), .null, .int (iZ 0), .null]))] H := hP
  have hD : va_D A [(n0_1, .inr (5, [.ref hi_4, .ref ci_4, .ref st_4])), (hi_4, .inr (1, [.ref ra_4, .int (iZ 0), .int (iZ 0)])), (ra_4, .inl (cy 2, 6, .inr (.inr (.inr (.inr (qf (fun _ => none))))))), (ci_4, .inr (0, [.ref pa_4, .ref ga_4])), (pa_4, .inl (cy 1, 1000, .inl (zf (fun _ => 0)))), (ga_4, .inl (cy 0, 1001, .inl (zf (fun _ => 0)))), (st_4, .inr (3, [.ref sl_4, .ref wo_4])), (sl_4, .inr (2, [.int (iZ 5), .int (iZ 13), .int (iZ 0)])), (wo_4, .inr (4, [.long (lZ 0), .int (iZ 0)])), (n8_2, .inr (6, [.null, .null, .null, .int (iZ 0), .null, .int (iZ 0), .null, .int (iZ 0), .null, .int (iZ 0), .null]))] := hD
  refine lv_dup hx hb dL_law_11 rfl ?_
  have hPc := hP.sub (ws' := [(n8_2, .inr (6, [.null, .null, .null, .int (iZ 0), .null, .int (iZ 0), .null, .int (iZ 0), .null, .int (iZ 0), .null]))]) [9] rfl
  have hDc := (hD.sub (ws' := [(n8_2, .inr (6, [.null, .null, .null, .int (iZ 0), .null, .int (iZ 0), .null, .int (iZ 0), .null, .int (iZ 0), .null]))]) [9] (by decide) rfl).weaken (B := fun _ => True) (fun _ _ _ _ => trivial)
  have hFc := va_free (wc := [(n8_2, .inr (6, [.null, .null, .null, .int (iZ 0), .null, .int (iZ 0), .null, .int (iZ 0), .null, .int (iZ 0), .null]))]) hD hS hA [9] rfl
  refine z_callE (A := A) (va_runI (As := []) (rest := [.ref n8_2]) ⟨hx, hb, hml, hown, hts⟩ (c_X7_init lau G cy n8_2 H.size) (cwI 0 hts gL_law_X7_init rfl rfl rfl (hts (.initialized RX7) (by decide +kernel)) (hts (.methodLink RL 12 yX7_init) (by decide +kernel)) (hts (.instanceMethod yX7_init) (by decide +kernel)) rfl (by decide +kernel) ⟨Nat.le_of_ble_eq_true rfl, Nat.le_of_ble_eq_true rfl⟩) ⟨P1_blind, P1_mk hKK (⟨rfl, hPc, hDc⟩)⟩ rfl rfl hl.1 rfl (lv_room (Nat.le_of_ble_eq_true rfl)) dL_law_12 ⟨(show 12 + 7 ≤ 600000 by omega), (show 2044 + 1652 ≤ 7302250 by omega)⟩) hS.2.2 hFc (fun v H1 locs1 hR hL1 => ?_)
  obtain ⟨a1_12, a2_12, a3_12, a4_12, a5_12, a6_12, a7_12, rfl, hq12, hP1, hD1, hF1⟩ := hR
  obtain ⟨hP, hD⟩ := va_join (wr := [(n0_1, .inr (5, [.ref hi_4, .ref ci_4, .ref st_4])), (hi_4, .inr (1, [.ref ra_4, .int (iZ 0), .int (iZ 0)])), (ra_4, .inl (cy 2, 6, .inr (.inr (.inr (.inr (qf (fun _ => none))))))), (ci_4, .inr (0, [.ref pa_4, .ref ga_4])), (pa_4, .inl (cy 1, 1000, .inl (zf (fun _ => 0)))), (ga_4, .inl (cy 0, 1001, .inl (zf (fun _ => 0)))), (st_4, .inr (3, [.ref sl_4, .ref wo_4])), (sl_4, .inr (2, [.int (iZ 5), .int (iZ 13), .int (iZ 0)])), (wo_4, .inr (4, [.long (lZ 0), .int (iZ 0)]))]) (w1 := (MW cy n8_2 a1_12 a2_12 a3_12 a4_12 a5_12 a6_12 a7_12 0 0 0 0 (up1 (up1 (fun _ => 0) 0 5) 1 13) (fun _ => 0) (fun _ => 0) (fun _ => 0) (fun _ => 0) (fun _ => 0) (fun _ => 0))) hP hD [9] [0, 1, 2, 3, 4, 5, 6, 7, 8] rfl rfl (by decide) (by decide) hF1.2 hFc hP1 hD1
  have hS : va_S A s.heap H1 locs1 := Fh.S ((Fh.of hS).tr hF1 (fun q _ h => hFc q h)) hL1
  clear hPc hDc hFc hP1 hD1 hF1 hL1
  generalize H1 = H at hP hS ⊢
  have hP : va_P G vwCl [(n0_1, .inr (5, [.ref hi_4, .ref ci_4, .ref st_4])), (hi_4, .inr (1, [.ref ra_4, .int (iZ 0), .int (iZ 0)])), (ra_4, .inl (cy 2, 6, .inr (.inr (.inr (.inr (qf (fun _ => none))))))), (ci_4, .inr (0, [.ref pa_4, .ref ga_4])), (pa_4, .inl (cy 1, 1000, .inl (zf (fun _ => 0)))), (ga_4, .inl (cy 0, 1001, .inl (zf (fun _ => 0)))), (st_4, .inr (3, [.ref sl_4, .ref wo_4])), (sl_4, .inr (2, [.int (iZ 5), .int (iZ 13), .int (iZ 0)])), (wo_4, .inr (4, [.long (lZ 0), .int (iZ 0)])), (n8_2, .inr (6, [.ref a1_12, .ref a2_12, .ref a3_12, .int (iZ 0), .ref a4_12, .int (iZ 0), .ref a5_12, .int (iZ 0), .ref a6_12, .int (iZ 0), .ref a7_12])), (a1_12, .inl (cy 0, 64, .inl (zf (up1 (up1 (fun _ => 0) 0 5) 1 13)))), (a2_12, .inl (cy 0, 64, .inl (zf (fun _ => 0)))), (a3_12, .inl (cy 0, 384, .inl (zf (fun _ => 0)))), (a4_12, .inl (cy 0, 20, .inl (zf (fun _ => 0)))), (a5_12, .inl (cy 0, 60, .inl (zf (fun _ => 0)))), (a6_12, .inl (cy 0, 60, .inl (zf (fun _ => 0)))), (a7_12, .inl (cy 1, 1000, .inl (zf (fun _ => 0))))] H := hP
  have hD : va_D A [(n0_1, .inr (5, [.ref hi_4, .ref ci_4, .ref st_4])), (hi_4, .inr (1, [.ref ra_4, .int (iZ 0), .int (iZ 0)])), (ra_4, .inl (cy 2, 6, .inr (.inr (.inr (.inr (qf (fun _ => none))))))), (ci_4, .inr (0, [.ref pa_4, .ref ga_4])), (pa_4, .inl (cy 1, 1000, .inl (zf (fun _ => 0)))), (ga_4, .inl (cy 0, 1001, .inl (zf (fun _ => 0)))), (st_4, .inr (3, [.ref sl_4, .ref wo_4])), (sl_4, .inr (2, [.int (iZ 5), .int (iZ 13), .int (iZ 0)])), (wo_4, .inr (4, [.long (lZ 0), .int (iZ 0)])), (n8_2, .inr (6, [.ref a1_12, .ref a2_12, .ref a3_12, .int (iZ 0), .ref a4_12, .int (iZ 0), .ref a5_12, .int (iZ 0), .ref a6_12, .int (iZ 0), .ref a7_12])), (a1_12, .inl (cy 0, 64, .inl (zf (up1 (up1 (fun _ => 0) 0 5) 1 13)))), (a2_12, .inl (cy 0, 64, .inl (zf (fun _ => 0)))), (a3_12, .inl (cy 0, 384, .inl (zf (fun _ => 0)))), (a4_12, .inl (cy 0, 20, .inl (zf (fun _ => 0)))), (a5_12, .inl (cy 0, 60, .inl (zf (fun _ => 0)))), (a6_12, .inl (cy 0, 60, .inl (zf (fun _ => 0)))), (a7_12, .inl (cy 1, 1000, .inl (zf (fun _ => 0))))] := hD
  refine W.eq (g2 := F0 mt 15 ls [.ref n8_2]) rfl ?_
  refine lv_astore_n (lv' := [(2, .ref n8_2), (1, .ref n0_1), (0, .ref b9)]) hx hb dL_law_15 rfl hl (by decide) rfl (fun ls hl => ?_)
  refine lv_iconst (v := iZ 0) hx hb dL_law_16 rfl ?_
  refine lv_istore_n (lv' := [(3, .int (iZ 0)), (2, .ref n8_2), (1, .ref n0_1), (0, .ref b9)]) hx hb dL_law_17 rfl hl (by decide) rfl (fun ls hl => ?_)
  have hP9 := hP.sub (ws' := (MW cy n8_2 a1_12 a2_12 a3_12 a4_12 a5_12 a6_12 a7_12 0 0 0 0 (up1 (up1 (fun _ => 0) 0 5) 1 13) (fun _ => 0) (fun _ => 0) (fun _ => 0) (fun _ => 0) (fun _ => 0) (fun _ => 0) ++ CW cy n0_1 hi_4 ra_4 ci_4 pa_4 ga_4 st_4 0 0 (fun _ => none) (fun _ => 0) (fun _ => 0) ++ S3 st_4 sl_4 wo_4 5 13 0 0 0)) [9, 10, 11, 12, 13, 14, 15, 16, 0, 1, 2, 3, 4, 5, 6, 7, 8] rfl
  have hD9 := hD.sub (ws' := (MW cy n8_2 a1_12 a2_12 a3_12 a4_12 a5_12 a6_12 a7_12 0 0 0 0 (up1 (up1 (fun _ => 0) 0 5) 1 13) (fun _ => 0) (fun _ => 0) (fun _ => 0) (fun _ => 0) (fun _ => 0) (fun _ => 0) ++ CW cy n0_1 hi_4 ra_4 ci_4 pa_4 ga_4 st_4 0 0 (fun _ => none) (fun _ => 0) (fun _ => 0) ++ S3 st_4 sl_4 wo_4 5 13 0 0 0)) [9, 10, 11, 12, 13, 14, 15, 16, 0, 1, 2, 3, 4, 5, 6, 7, 8] (by decide) rfl
  refine W.widen (k := 20) (n := 4000) (by omega) (by omega) ?_
  exact K _ _ _ n8_2 a1_12 a2_12 a3_12 a4_12 a5_12 a6_12 a7_12 n0_1 hi_4 ra_4 ci_4 pa_4 ga_4 (LInv.mk hP9 hD9 ⟨rfl, rfl, rfl, rfl, ⟨rfl, by decide, ⟨by decide, by decide⟩, fun j h1 h2 => absurd h2 (by omega)⟩, by decide, by decide⟩ (fun i h1 h2 => absurd h2 (by omega)) rfl (by decide) (by decide) (fun x _ _ => Or.inl rfl)) hS (lv_sub hl [3, 2, 1, 0] rfl)
