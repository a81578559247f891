section LC
variable {pr : Program} {ev : Env} {s : State} {mt : MethodId} {below : List Frame} {meth : Method} {cd : Code} {lau : Launch} {G : va_G} {cy : Nat → ClassId} {ad : Nat → Nat} {A : Nat → Prop} {b9 L9 : Nat} {xs : Nat → Int32} {Q9 : State → Prop}
variable {a0 a1 a2 a3 a4 a5 a6 a7 xa hi ra ci pa ga st sl wo : Nat} {nx kp : Int} {rw9 : Int → Option Nat} {pt1 gp : Int → Int} {b ed tc ol nl : Int} {nw nr ps tm od ne pt : Int → Int} {H : Heap} {locs : List Loc} {C9 D9 : Nat} {i u v : Int} {ls : Array Slot}
set_option maxHeartbeats 4000000 in
set_option maxRecDepth 100000 in
theorem lc_731_no (hx : pr.tables.exec = Jvm.exec) (hb : cd.code = code) (hml : cd.maxLocals = 4) (hown : s.vm.findClass RL = some mt.cls) (hts : ∀ w ∈ lw_tbl, w.before #[Value.ref b9] s = true) (hKK : KK G cy s) (hEN : EN ad A s s.heap) (hA : ∀ q : Nat, s.heap.size ≤ q → A q) (hX : va_X b9 L9 xs s s.heap) (hbl : b9 < s.heap.size) (hbA : ¬ A b9) (hL : L9 ≤ 1536) (hP : va_P G vwCl (MW cy a0 a1 a2 a3 a4 a5 a6 a7 ed tc ol nl nw nr ps tm od ne pt ++ CW cy xa hi ra ci pa ga st nx kp rw9 pt1 gp ++ S3 st sl wo (nw 0) (nw 1) (nw 2) b (nw 3)) H) (hD : va_D A (MW cy a0 a1 a2 a3 a4 a5 a6 a7 ed tc ol nl nw nr ps tm od ne pt ++ CW cy xa hi ra ci pa ga st nx kp rw9 pt1 gp ++ S3 st sl wo (nw 0) (nw 1) (nw 2) b (nw 3))) (hS : va_S A s.heap H locs) (hw : RowIs nw b (nw 3)) (hq : 0 ≤ nw 0 ∧ nw 0 ≤ nw 1 ∧ 1 ≤ nw 1 ∧ nw 1 ≤ 1000 ∧ 0 ≤ nw 2 ∧ nw 2 < nw 1) (hn : 0 ≤ nw 3 ∧ nw 3 ≤ 60) (hHS : HS G A [a0, a1, a2, a3, a4, a5, a6, a7, xa, hi, ra, ci, pa, ga] nx ed rw9 ps H) (hke : kp = ed) (he : 0 ≤ ed ∧ ed ≤ 6) (hnx : 0 ≤ nx ∧ nx < 6) (hpt : ∀ x, 0 ≤ x → x < 1000 → pt x = 0 ∨ pt x = 1) (hi9 : 0 ≤ i ∧ i + 3 ≤ (L9 : Int)) (hu : xI xs (i + 1) = u) (hv : xI xs (i + 2) = v) (hC : C9 + 30 ≤ 600000 ∧ D9 + 120 ≤ 7302250) (hl : lv_has ls 4 [(0, .ref b9), (1, .ref xa), (2, .ref a0), (3, .int (iZ i))]) (K : ∀ (H : Heap) (locs : List Loc) (ls : Array Slot), LInv G cy A a0 a1 a2 a3 a4 a5 a6 a7 xa hi ra ci pa ga H → va_S A s.heap H locs → lv_has ls 4 [(0, .ref b9), (1, .ref xa), (2, .ref a0), (3, .int (iZ i))] → W pr lau ev room_1 s mt #[Value.ref b9] below meth cd H locs (C9 + 30) (D9 + 120) Q9 (F0 mt 810 ls [])) (h2 : ¬ ((1 ≤ u ∧ u ≤ 1000) ∧ 0 ≤ v)) : W pr lau ev room_1 s mt #[Value.ref b9] below meth cd H locs C9 D9 Q9 (F0 mt 731 ls []) := by
  have hK := hKK.1
  have hB := hw.2.2.1
  have hB61 := pw_61 hn.2
  have hL8 := hw.L hn.2
  have hub := xI_r hu
  have hvb := xI_r hv
  refine lv_aload_n hx hb dL_law_731 rfl (lv_at hl 1 rfl) ?_
  refine lv_aload_n hx hb dL_law_732 rfl (lv_at hl 0 rfl) ?_
  refine lv_iload_n hx hb dL_law_733 rfl (lv_at hl 3 rfl) ?_
  refine lv_iconst (v := iZ 1) hx hb dL_law_734 rfl ?_
  refine z_iadd hx hb dL_law_735 ?_
  refine z_sld hx hb hX hbl hbA hS (by omega) hu dL_law_736 ?_
  refine lv_aload_n hx hb dL_law_737 rfl (lv_at hl 0 rfl) ?_
  refine lv_iload_n hx hb dL_law_738 rfl (lv_at hl 3 rfl) ?_
  refine lv_iconst (v := iZ 2) hx hb dL_law_739 rfl ?_
  refine z_iadd hx hb dL_law_740 ?_
  refine z_sld hx hb hX hbl hbA hS (by omega) hv dL_law_741 ?_
  have hPc := hP.sub (ws' := [(ci, .inr (0, [.ref pa, .ref ga])), (pa, .inl (cy 1, 1000, .inl (zf pt1))), (ga, .inl (cy 0, 1001, .inl (zf gp)))]) [11, 12, 13] rfl
  have hDc := (hD.sub (ws' := [(ci, .inr (0, [.ref pa, .ref ga])), (pa, .inl (cy 1, 1000, .inl (zf pt1))), (ga, .inl (cy 0, 1001, .inl (zf gp)))]) [11, 12, 13] (by decide) rfl).weaken (B := fun _ => True) (fun _ _ _ _ => trivial)
  have hFc := va_free (wc := [(ci, .inr (0, [.ref pa, .ref ga])), (pa, .inl (cy 1, 1000, .inl (zf pt1))), (ga, .inl (cy 0, 1001, .inl (zf gp)))]) hD hS hA [11, 12, 13] rfl
  have hIc : va_P G vwCl [(xa, .inr (5, [.ref hi, .ref ci, .ref st])), (st, .inr (3, [.ref sl, .ref wo])), (sl, .inr (2, [.int (iZ (nw 0)), .int (iZ (nw 1)), .int (iZ (nw 2))]))] H := (((hP.sub (ws' := [(xa, .inr (5, [.ref hi, .ref ci, .ref st]))]) [8] rfl).app (hP.sub (ws' := [(st, .inr (3, [.ref sl, .ref wo]))]) [14] rfl)).app (hP.sub (ws' := [(sl, .inr (2, [.int (iZ (nw 0)), .int (iZ (nw 1)), .int (iZ (nw 2))]))]) [15] rfl))
  have hIAc : NA (va_A [(ci, .inr (0, [.ref pa, .ref ga])), (pa, .inl (cy 1, 1000, .inl (zf pt1))), (ga, .inl (cy 0, 1001, .inl (zf gp)))] H.size) [(xa, .inr (5, [.ref hi, .ref ci, .ref st])), (st, .inr (3, [.ref sl, .ref wo])), (sl, .inr (2, [.int (iZ (nw 0)), .int (iZ (nw 1)), .int (iZ (nw 2))]))] := NA.cons (z_nA hP hD [11, 12, 13] rfl 8 rfl (by decide)) (NA.cons (z_nA hP hD [11, 12, 13] rfl 14 rfl (by decide)) (NA.cons (z_nA hP hD [11, 12, 13] rfl 15 rfl (by decide)) (NA.nil)))
  refine z_callE (A := A) (va_runV (As := [.int (iZ u), .int (iZ v)]) (rest := []) ⟨hx, hb, hml, hown, hts⟩ (c_X6_gapSize_no lau G cy xa hi ci st sl wo pa ga H.size (nw 0) (nw 1) (nw 2) pt1 gp u v (by first | omega | assumption) (by first | omega | assumption) (by first | omega | assumption) (by first | omega | assumption)) (cwV 2 hts gL_law_X6_gapSize rfl rfl rfl (by decide +kernel) ⟨Nat.le_of_ble_eq_true rfl, Nat.le_of_ble_eq_true rfl⟩) ⟨P1_blind, va_recv hK hP (ci := 5) (q0 := 8) rfl rfl, P1_mk hKK (⟨rfl, hPc, hDc, hIc, hIAc⟩)⟩ rfl rfl hl.1 rfl (lv_room (Nat.le_of_ble_eq_true rfl)) dL_law_742 ⟨(show C9 + 0 ≤ 600000 by omega), (show D9 + 0 ≤ 7302250 by omega)⟩) hS.2.2 hFc (fun v H1 locs1 hR hL1 => ?_)
  obtain ⟨rfl, hq742, hP1, hD1, hF1⟩ := hR
  obtain ⟨hP, hD⟩ := va_join (wr := (MW cy a0 a1 a2 a3 a4 a5 a6 a7 ed tc ol nl nw nr ps tm od ne pt ++ [(xa, .inr (5, [.ref hi, .ref ci, .ref st])), (hi, .inr (1, [.ref ra, .int (iZ nx), .int (iZ kp)])), (ra, .inl (cy 2, 6, .inr (.inr (.inr (.inr (qf rw9)))))), (st, .inr (3, [.ref sl, .ref wo])), (sl, .inr (2, [.int (iZ (nw 0)), .int (iZ (nw 1)), .int (iZ (nw 2))])), (wo, .inr (4, [.long (lZ b), .int (iZ (nw 3))]))])) (w1 := [(ci, .inr (0, [.ref pa, .ref ga])), (pa, .inl (cy 1, 1000, .inl (zf pt1))), (ga, .inl (cy 0, 1001, .inl (zf gp)))]) hP hD [11, 12, 13] [0, 1, 2, 3, 4, 5, 6, 7, 8, 9, 10, 14, 15, 16] rfl rfl (by decide) (by decide) hF1.2 hFc hP1 hD1
  have hS : va_S A s.heap H1 locs1 := Fh.S ((Fh.of hS).tr hF1 (fun q _ h => hFc q h)) hL1
  have hHS := hHS.fx hF1 [11, 12, 13] rfl
  clear hPc hDc hFc hP1 hD1 hF1 hL1 hIc hIAc
  generalize H1 = H at hP hS hHS ⊢
  have hP : va_P G vwCl (MW cy a0 a1 a2 a3 a4 a5 a6 a7 ed tc ol nl nw nr ps tm od ne pt ++ [(xa, .inr (5, [.ref hi, .ref ci, .ref st])), (hi, .inr (1, [.ref ra, .int (iZ nx), .int (iZ kp)])), (ra, .inl (cy 2, 6, .inr (.inr (.inr (.inr (qf rw9)))))), (st, .inr (3, [.ref sl, .ref wo])), (sl, .inr (2, [.int (iZ (nw 0)), .int (iZ (nw 1)), .int (iZ (nw 2))])), (wo, .inr (4, [.long (lZ b), .int (iZ (nw 3))])), (ci, .inr (0, [.ref pa, .ref ga])), (pa, .inl (cy 1, 1000, .inl (zf pt1))), (ga, .inl (cy 0, 1001, .inl (zf gp)))]) H := hP
  have hD : va_D A (MW cy a0 a1 a2 a3 a4 a5 a6 a7 ed tc ol nl nw nr ps tm od ne pt ++ [(xa, .inr (5, [.ref hi, .ref ci, .ref st])), (hi, .inr (1, [.ref ra, .int (iZ nx), .int (iZ kp)])), (ra, .inl (cy 2, 6, .inr (.inr (.inr (.inr (qf rw9)))))), (st, .inr (3, [.ref sl, .ref wo])), (sl, .inr (2, [.int (iZ (nw 0)), .int (iZ (nw 1)), .int (iZ (nw 2))])), (wo, .inr (4, [.long (lZ b), .int (iZ (nw 3))])), (ci, .inr (0, [.ref pa, .ref ga])), (pa, .inl (cy 1, 1000, .inl (zf pt1))), (ga, .inl (cy 0, 1001, .inl (zf gp)))]) := hD
  have hP := hP.sub (ws' := (MW cy a0 a1 a2 a3 a4 a5 a6 a7 ed tc ol nl nw nr ps tm od ne pt ++ CW cy xa hi ra ci pa ga st nx kp rw9 pt1 gp ++ S3 st sl wo (nw 0) (nw 1) (nw 2) b (nw 3))) [0, 1, 2, 3, 4, 5, 6, 7, 8, 9, 10, 14, 15, 16, 11, 12, 13] rfl
  have hD := hD.sub (ws' := (MW cy a0 a1 a2 a3 a4 a5 a6 a7 ed tc ol nl nw nr ps tm od ne pt ++ CW cy xa hi ra ci pa ga st nx kp rw9 pt1 gp ++ S3 st sl wo (nw 0) (nw 1) (nw 2) b (nw 3))) [0, 1, 2, 3, 4, 5, 6, 7, 8, 9, 10, 14, 15, 16, 11, 12, 13] (by decide) rfl
  refine W.eq (g2 := F0 mt 745 ls [.int (iZ (-1))]) rfl ?_
  refine lv_aload_n hx hb dL_law_745 rfl (lv_at hl 2 rfl) ?_
  refine lv_aload_n hx hb dL_law_746 rfl (lv_at hl 0 rfl) ?_
  refine lv_iload_n hx hb dL_law_747 rfl (lv_at hl 3 rfl) ?_
  refine lv_iconst (v := iZ 1) hx hb dL_law_748 rfl ?_
  refine z_iadd hx hb dL_law_749 ?_
  refine z_sld hx hb hX hbl hbA hS (by omega) hu dL_law_750 ?_
  refine lv_aload_n hx hb dL_law_751 rfl (lv_at hl 0 rfl) ?_
  refine lv_iload_n hx hb dL_law_752 rfl (lv_at hl 3 rfl) ?_
  refine lv_iconst (v := iZ 2) hx hb dL_law_753 rfl ?_
  refine z_iadd hx hb dL_law_754 ?_
  refine z_sld hx hb hX hbl hbA hS (by omega) hv dL_law_755 ?_
  have hPc := hP.sub (ws' := (MW cy a0 a1 a2 a3 a4 a5 a6 a7 ed tc ol nl nw nr ps tm od ne pt)) [0, 1, 2, 3, 4, 5, 6, 7] rfl
  have hDc := (hD.sub (ws' := (MW cy a0 a1 a2 a3 a4 a5 a6 a7 ed tc ol nl nw nr ps tm od ne pt)) [0, 1, 2, 3, 4, 5, 6, 7] (by decide) rfl).weaken (B := fun _ => True) (fun _ _ _ _ => trivial)
  have hFc := va_free (wc := (MW cy a0 a1 a2 a3 a4 a5 a6 a7 ed tc ol nl nw nr ps tm od ne pt)) hD hS hA [0, 1, 2, 3, 4, 5, 6, 7] rfl
  refine z_callE (A := A) (va_runV (As := [.int (iZ u), .int (iZ v)]) (rest := [.int (iZ (-1))]) ⟨hx, hb, hml, hown, hts⟩ (c_X7_gapSize_no lau G cy a0 a1 a2 a3 a4 a5 a6 a7 H.size ed tc ol nl nw nr ps tm od ne pt u v (by first | omega | assumption) (by first | omega | assumption)) (cwV 2 hts gL_law_X7_gapSize rfl rfl rfl (by decide +kernel) ⟨Nat.le_of_ble_eq_true rfl, Nat.le_of_ble_eq_true rfl⟩) ⟨P1_blind, va_recv hK hP (ci := 6) (q0 := 0) rfl rfl, P1_mk hKK (⟨rfl, hPc, hDc⟩)⟩ rfl rfl hl.1 rfl (lv_room (Nat.le_of_ble_eq_true rfl)) dL_law_756 ⟨(show (C9 + 0) + 0 ≤ 600000 by omega), (show (D9 + 0) + 0 ≤ 7302250 by omega)⟩) hS.2.2 hFc (fun v H1 locs1 hR hL1 => ?_)
  obtain ⟨rfl, hq756, hP1, hD1, hF1⟩ := hR
  obtain ⟨hP, hD⟩ := va_join (wr := [(xa, .inr (5, [.ref hi, .ref ci, .ref st])), (hi, .inr (1, [.ref ra, .int (iZ nx), .int (iZ kp)])), (ra, .inl (cy 2, 6, .inr (.inr (.inr (.inr (qf rw9)))))), (ci, .inr (0, [.ref pa, .ref ga])), (pa, .inl (cy 1, 1000, .inl (zf pt1))), (ga, .inl (cy 0, 1001, .inl (zf gp))), (st, .inr (3, [.ref sl, .ref wo])), (sl, .inr (2, [.int (iZ (nw 0)), .int (iZ (nw 1)), .int (iZ (nw 2))])), (wo, .inr (4, [.long (lZ b), .int (iZ (nw 3))]))]) (w1 := (MW cy a0 a1 a2 a3 a4 a5 a6 a7 ed tc ol nl nw nr ps tm od ne pt)) hP hD [0, 1, 2, 3, 4, 5, 6, 7] [8, 9, 10, 11, 12, 13, 14, 15, 16] rfl rfl (by decide) (by decide) hF1.2 hFc hP1 hD1
  have hS : va_S A s.heap H1 locs1 := Fh.S ((Fh.of hS).tr hF1 (fun q _ h => hFc q h)) hL1
  have hHS := hHS.fx hF1 [0, 1, 2, 3, 4, 5, 6, 7] rfl
  clear hPc hDc hFc hP1 hD1 hF1 hL1
  generalize H1 = H at hP hS hHS ⊢
  have hP : va_P G vwCl [(xa, .inr (5, [.ref hi, .ref ci, .ref st])), (hi, .inr (1, [.ref ra, .int (iZ nx), .int (iZ kp)])), (ra, .inl (cy 2, 6, .inr (.inr (.inr (.inr (qf rw9)))))), (ci, .inr (0, [.ref pa, .ref ga])), (pa, .inl (cy 1, 1000, .inl (zf pt1))), (ga, .inl (cy 0, 1001, .inl (zf gp))), (st, .inr (3, [.ref sl, .ref wo])), (sl, .inr (2, [.int (iZ (nw 0)), .int (iZ (nw 1)), .int (iZ (nw 2))])), (wo, .inr (4, [.long (lZ b), .int (iZ (nw 3))])), (a0, .inr (6, [.ref a1, .ref a2, .ref a3, .int (iZ ed), .ref a4, .int (iZ tc), .ref a5, .int (iZ ol), .ref a6, .int (iZ nl), .ref a7])), (a1, .inl (cy 0, 64, .inl (zf nw))), (a2, .inl (cy 0, 64, .inl (zf nr))), (a3, .inl (cy 0, 384, .inl (zf ps))), (a4, .inl (cy 0, 20, .inl (zf tm))), (a5, .inl (cy 0, 60, .inl (zf od))), (a6, .inl (cy 0, 60, .inl (zf ne))), (a7, .inl (cy 1, 1000, .inl (zf pt)))] H := hP
  have hD : va_D A [(xa, .inr (5, [.ref hi, .ref ci, .ref st])), (hi, .inr (1, [.ref ra, .int (iZ nx), .int (iZ kp)])), (ra, .inl (cy 2, 6, .inr (.inr (.inr (.inr (qf rw9)))))), (ci, .inr (0, [.ref pa, .ref ga])), (pa, .inl (cy 1, 1000, .inl (zf pt1))), (ga, .inl (cy 0, 1001, .inl (zf gp))), (st, .inr (3, [.ref sl, .ref wo])), (sl, .inr (2, [.int (iZ (nw 0)), .int (iZ (nw 1)), .int (iZ (nw 2))])), (wo, .inr (4, [.long (lZ b), .int (iZ (nw 3))])), (a0, .inr (6, [.ref a1, .ref a2, .ref a3, .int (iZ ed), .ref a4, .int (iZ tc), .ref a5, .int (iZ ol), .ref a6, .int (iZ nl), .ref a7])), (a1, .inl (cy 0, 64, .inl (zf nw))), (a2, .inl (cy 0, 64, .inl (zf nr))), (a3, .inl (cy 0, 384, .inl (zf ps))), (a4, .inl (cy 0, 20, .inl (zf tm))), (a5, .inl (cy 0, 60, .inl (zf od))), (a6, .inl (cy 0, 60, .inl (zf ne))), (a7, .inl (cy 1, 1000, .inl (zf pt)))] := hD
  have hP := hP.sub (ws' := (MW cy a0 a1 a2 a3 a4 a5 a6 a7 ed tc ol nl nw nr ps tm od ne pt ++ CW cy xa hi ra ci pa ga st nx kp rw9 pt1 gp ++ S3 st sl wo (nw 0) (nw 1) (nw 2) b (nw 3))) [9, 10, 11, 12, 13, 14, 15, 16, 0, 1, 2, 3, 4, 5, 6, 7, 8] rfl
  have hD := hD.sub (ws' := (MW cy a0 a1 a2 a3 a4 a5 a6 a7 ed tc ol nl nw nr ps tm od ne pt ++ CW cy xa hi ra ci pa ga st nx kp rw9 pt1 gp ++ S3 st sl wo (nw 0) (nw 1) (nw 2) b (nw 3))) [9, 10, 11, 12, 13, 14, 15, 16, 0, 1, 2, 3, 4, 5, 6, 7, 8] (by decide) rfl
  refine W.eq (g2 := F0 mt 759 ls [.int (iZ (-1)), .int (iZ (-1))]) rfl ?_
  refine z_same (tgt := 810) hx hb dL_law_759 (by decide) (rfl) ?_
  refine W.widen (k := C9 + 30) (n := D9 + 120) (by omega) (by omega) ?_
  exact K _ _ _ (LInv.mk hP hD ⟨rfl, rfl, rfl, rfl, hw, hq, hn.2⟩ hHS hke he hnx hpt) hS hl
set_option maxHeartbeats 4000000 in
set_option maxRecDepth 100000 in
theorem lc_731 (hx : pr.tables.exec = Jvm.exec) (hb : cd.code = code) (hml : cd.maxLocals = 4) (hown : s.vm.findClass RL = some mt.cls) (hts : ∀ w ∈ lw_tbl, w.before #[Value.ref b9] s = true) (hKK : KK G cy s) (hEN : EN ad A s s.heap) (hA : ∀ q : Nat, s.heap.size ≤ q → A q) (hX : va_X b9 L9 xs s s.heap) (hbl : b9 < s.heap.size) (hbA : ¬ A b9) (hL : L9 ≤ 1536) (hP : va_P G vwCl (MW cy a0 a1 a2 a3 a4 a5 a6 a7 ed tc ol nl nw nr ps tm od ne pt ++ CW cy xa hi ra ci pa ga st nx kp rw9 pt1 gp ++ S3 st sl wo (nw 0) (nw 1) (nw 2) b (nw 3)) H) (hD : va_D A (MW cy a0 a1 a2 a3 a4 a5 a6 a7 ed tc ol nl nw nr ps tm od ne pt ++ CW cy xa hi ra ci pa ga st nx kp rw9 pt1 gp ++ S3 st sl wo (nw 0) (nw 1) (nw 2) b (nw 3))) (hS : va_S A s.heap H locs) (hw : RowIs nw b (nw 3)) (hq : 0 ≤ nw 0 ∧ nw 0 ≤ nw 1 ∧ 1 ≤ nw 1 ∧ nw 1 ≤ 1000 ∧ 0 ≤ nw 2 ∧ nw 2 < nw 1) (hn : 0 ≤ nw 3 ∧ nw 3 ≤ 60) (hHS : HS G A [a0, a1, a2, a3, a4, a5, a6, a7, xa, hi, ra, ci, pa, ga] nx ed rw9 ps H) (hke : kp = ed) (he : 0 ≤ ed ∧ ed ≤ 6) (hnx : 0 ≤ nx ∧ nx < 6) (hpt : ∀ x, 0 ≤ x → x < 1000 → pt x = 0 ∨ pt x = 1) (hi9 : 0 ≤ i ∧ i + 3 ≤ (L9 : Int)) (hu : xI xs (i + 1) = u) (hv : xI xs (i + 2) = v) (hC : C9 + 30 ≤ 600000 ∧ D9 + 120 ≤ 7302250) (hl : lv_has ls 4 [(0, .ref b9), (1, .ref xa), (2, .ref a0), (3, .int (iZ i))]) (K : ∀ (H : Heap) (locs : List Loc) (ls : Array Slot), LInv G cy A a0 a1 a2 a3 a4 a5 a6 a7 xa hi ra ci pa ga H → va_S A s.heap H locs → lv_has ls 4 [(0, .ref b9), (1, .ref xa), (2, .ref a0), (3, .int (iZ i))] → W pr lau ev room_1 s mt #[Value.ref b9] below meth cd H locs (C9 + 30) (D9 + 120) Q9 (F0 mt 810 ls [])) (h2 : (1 ≤ u ∧ u ≤ 1000) ∧ 0 ≤ v) : W pr lau ev room_1 s mt #[Value.ref b9] below meth cd H locs C9 D9 Q9 (F0 mt 731 ls []) := by
  have hK := hKK.1
  have hB := hw.2.2.1
  have hB61 := pw_61 hn.2
  have hL8 := hw.L hn.2
  have hub := xI_r hu
  have hvb := xI_r hv
  refine lv_aload_n hx hb dL_law_731 rfl (lv_at hl 1 rfl) ?_
  refine lv_aload_n hx hb dL_law_732 rfl (lv_at hl 0 rfl) ?_
  refine lv_iload_n hx hb dL_law_733 rfl (lv_at hl 3 rfl) ?_
  refine lv_iconst (v := iZ 1) hx hb dL_law_734 rfl ?_
  refine z_iadd hx hb dL_law_735 ?_
  refine z_sld hx hb hX hbl hbA hS (by omega) hu dL_law_736 ?_
  refine lv_aload_n hx hb dL_law_737 rfl (lv_at hl 0 rfl) ?_
  refine lv_iload_n hx hb dL_law_738 rfl (lv_at hl 3 rfl) ?_
  refine lv_iconst (v := iZ 2) hx hb dL_law_739 rfl ?_
  refine z_iadd hx hb dL_law_740 ?_
  refine z_sld hx hb hX hbl hbA hS (by omega) hv dL_law_741 ?_
  have hPc := hP.sub (ws' := [(ci, .inr (0, [.ref pa, .ref ga])), (pa, .inl (cy 1, 1000, .inl (zf pt1))), (ga, .inl (cy 0, 1001, .inl (zf gp)))]) [11, 12, 13] rfl
  have hDc := (hD.sub (ws' := [(ci, .inr (0, [.ref pa, .ref ga])), (pa, .inl (cy 1, 1000, .inl (zf pt1))), (ga, .inl (cy 0, 1001, .inl (zf gp)))]) [11, 12, 13] (by decide) rfl).weaken (B := fun _ => True) (fun _ _ _ _ => trivial)
  have hFc := va_free (wc := [(ci, .inr (0, [.ref pa, .ref ga])), (pa, .inl (cy 1, 1000, .inl (zf pt1))), (ga, .inl (cy 0, 1001, .inl (zf gp)))]) hD hS hA [11, 12, 13] rfl
  have hIc : va_P G vwCl [(xa, .inr (5, [.ref hi, .ref ci, .ref st])), (st, .inr (3, [.ref sl, .ref wo])), (sl, .inr (2, [.int (iZ (nw 0)), .int (iZ (nw 1)), .int (iZ (nw 2))]))] H := (((hP.sub (ws' := [(xa, .inr (5, [.ref hi, .ref ci, .ref st]))]) [8] rfl).app (hP.sub (ws' := [(st, .inr (3, [.ref sl, .ref wo]))]) [14] rfl)).app (hP.sub (ws' := [(sl, .inr (2, [.int (iZ (nw 0)), .int (iZ (nw 1)), .int (iZ (nw 2))]))]) [15] rfl))
  have hIAc : NA (va_A [(ci, .inr (0, [.ref pa, .ref ga])), (pa, .inl (cy 1, 1000, .inl (zf pt1))), (ga, .inl (cy 0, 1001, .inl (zf gp)))] H.size) [(xa, .inr (5, [.ref hi, .ref ci, .ref st])), (st, .inr (3, [.ref sl, .ref wo])), (sl, .inr (2, [.int (iZ (nw 0)), .int (iZ (nw 1)), .int (iZ (nw 2))]))] := NA.cons (z_nA hP hD [11, 12, 13] rfl 8 rfl (by decide)) (NA.cons (z_nA hP hD [11, 12, 13] rfl 14 rfl (by decide)) (NA.cons (z_nA hP hD [11, 12, 13] rfl 15 rfl (by decide)) (NA.nil)))
  refine z_callE (A := A) (va_runV (As := [.int (iZ u), .int (iZ v)]) (rest := []) ⟨hx, hb, hml, hown, hts⟩ (c_X6_gapSize lau G cy xa hi ci st sl wo pa ga H.size (nw 0) (nw 1) (nw 2) pt1 gp u v (by first | omega | assumption) (by first | omega | assumption) (by first | omega | assumption) (by first | omega | assumption)) (cwV 2 hts gL_law_X6_gapSize rfl rfl rfl (by decide +kernel) ⟨Nat.le_of_ble_eq_true rfl, Nat.le_of_ble_eq_true rfl⟩) ⟨P1_blind, va_recv hK hP (ci := 5) (q0 := 8) rfl rfl, P1_mk hKK (⟨rfl, hPc, hDc, hIc, hIAc⟩)⟩ rfl rfl hl.1 rfl (lv_room (Nat.le_of_ble_eq_true rfl)) dL_law_742 ⟨(show C9 + 0 ≤ 600000 by omega), (show D9 + 0 ≤ 7302250 by omega)⟩) hS.2.2 hFc (fun v H1 locs1 hR hL1 => ?_)
  obtain ⟨rfl, hq742, hP1, hD1, hF1⟩ := hR
  obtain ⟨hP, hD⟩ := va_join (wr := (MW cy a0 a1 a2 a3 a4 a5 a6 a7 ed tc ol nl nw nr ps tm od ne pt ++ [(xa, .inr (5, [.ref hi, .ref ci, .ref st])), (hi, .inr (1, [.ref ra, .int (iZ nx), .int (iZ kp)])), (ra, .inl (cy 2, 6, .inr (.inr (.inr (.inr (qf rw9)))))), (st, .inr (3, [.ref sl, .ref wo])), (sl, .inr (2, [.int (iZ (nw 0)), .int (iZ (nw 1)), .int (iZ (nw 2))])), (wo, .inr (4, [.long (lZ b), .int (iZ (nw 3))]))])) (w1 := [(ci, .inr (0, [.ref pa, .ref ga])), (pa, .inl (cy 1, 1000, .inl (zf (lyC pt1 (nw 0) (nw 1) u)))), (ga, .inl (cy 0, 1001, .inl (zf (ms (nw 0) (nw 1) u (flF gp 0 1001) (nw 1)).2)))]) hP hD [11, 12, 13] [0, 1, 2, 3, 4, 5, 6, 7, 8, 9, 10, 14, 15, 16] rfl rfl (by decide) (by decide) hF1.2 hFc hP1 hD1
  have hS : va_S A s.heap H1 locs1 := Fh.S ((Fh.of hS).tr hF1 (fun q _ h => hFc q h)) hL1
  have hHS := hHS.fx hF1 [11, 12, 13] rfl
  clear hPc hDc hFc hP1 hD1 hF1 hL1 hIc hIAc
  generalize H1 = H at hP hS hHS ⊢
  have hP : va_P G vwCl (MW cy a0 a1 a2 a3 a4 a5 a6 a7 ed tc ol nl nw nr ps tm od ne pt ++ [(xa, .inr (5, [.ref hi, .ref ci, .ref st])), (hi, .inr (1, [.ref ra, .int (iZ nx), .int (iZ kp)])), (ra, .inl (cy 2, 6, .inr (.inr (.inr (.inr (qf rw9)))))), (st, .inr (3, [.ref sl, .ref wo])), (sl, .inr (2, [.int (iZ (nw 0)), .int (iZ (nw 1)), .int (iZ (nw 2))])), (wo, .inr (4, [.long (lZ b), .int (iZ (nw 3))])), (ci, .inr (0, [.ref pa, .ref ga])), (pa, .inl (cy 1, 1000, .inl (zf (lyC pt1 (nw 0) (nw 1) u)))), (ga, .inl (cy 0, 1001, .inl (zf (ms (nw 0) (nw 1) u (flF gp 0 1001) (nw 1)).2)))]) H := hP
  have hD : va_D A (MW cy a0 a1 a2 a3 a4 a5 a6 a7 ed tc ol nl nw nr ps tm od ne pt ++ [(xa, .inr (5, [.ref hi, .ref ci, .ref st])), (hi, .inr (1, [.ref ra, .int (iZ nx), .int (iZ kp)])), (ra, .inl (cy 2, 6, .inr (.inr (.inr (.inr (qf rw9)))))), (st, .inr (3, [.ref sl, .ref wo])), (sl, .inr (2, [.int (iZ (nw 0)), .int (iZ (nw 1)), .int (iZ (nw 2))])), (wo, .inr (4, [.long (lZ b), .int (iZ (nw 3))])), (ci, .inr (0, [.ref pa, .ref ga])), (pa, .inl (cy 1, 1000, .inl (zf (lyC pt1 (nw 0) (nw 1) u)))), (ga, .inl (cy 0, 1001, .inl (zf (ms (nw 0) (nw 1) u (flF gp 0 1001) (nw 1)).2)))]) := hD
  have hP := hP.sub (ws' := (MW cy a0 a1 a2 a3 a4 a5 a6 a7 ed tc ol nl nw nr ps tm od ne pt ++ CW cy xa hi ra ci pa ga st nx kp rw9 (lyC pt1 (nw 0) (nw 1) u) ((ms (nw 0) (nw 1) u (flF gp 0 1001) (nw 1)).2) ++ S3 st sl wo (nw 0) (nw 1) (nw 2) b (nw 3))) [0, 1, 2, 3, 4, 5, 6, 7, 8, 9, 10, 14, 15, 16, 11, 12, 13] rfl
  have hD := hD.sub (ws' := (MW cy a0 a1 a2 a3 a4 a5 a6 a7 ed tc ol nl nw nr ps tm od ne pt ++ CW cy xa hi ra ci pa ga st nx kp rw9 (lyC pt1 (nw 0) (nw 1) u) ((ms (nw 0) (nw 1) u (flF gp 0 1001) (nw 1)).2) ++ S3 st sl wo (nw 0) (nw 1) (nw 2) b (nw 3))) [0, 1, 2, 3, 4, 5, 6, 7, 8, 9, 10, 14, 15, 16, 11, 12, 13] (by decide) rfl
  refine W.eq (g2 := F0 mt 745 ls [.int (iZ (if fnd (fun s => (1 ≤ s ∧ 0 < (ms (nw 0) (nw 1) u (flF gp 0 1001) (nw 1)).2 s) ∧ cnt (fun z => 1 ≤ z ∧ 0 < (ms (nw 0) (nw 1) u (flF gp 0 1001) (nw 1)).2 z) s = v) 1001 = -1 then -3 else fnd (fun s => (1 ≤ s ∧ 0 < (ms (nw 0) (nw 1) u (flF gp 0 1001) (nw 1)).2 s) ∧ cnt (fun z => 1 ≤ z ∧ 0 < (ms (nw 0) (nw 1) u (flF gp 0 1001) (nw 1)).2 z) s = v) 1001))]) rfl ?_
  refine lv_aload_n hx hb dL_law_745 rfl (lv_at hl 2 rfl) ?_
  refine lv_aload_n hx hb dL_law_746 rfl (lv_at hl 0 rfl) ?_
  refine lv_iload_n hx hb dL_law_747 rfl (lv_at hl 3 rfl) ?_
  refine lv_iconst (v := iZ 1) hx hb dL_law_748 rfl ?_
  refine z_iadd hx hb dL_law_749 ?_
  refine z_sld hx hb hX hbl hbA hS (by omega) hu dL_law_750 ?_
  refine lv_aload_n hx hb dL_law_751 rfl (lv_at hl 0 rfl) ?_
  refine lv_iload_n hx hb dL_law_752 rfl (lv_at hl 3 rfl) ?_
  refine lv_iconst (v := iZ 2) hx hb dL_law_753 rfl ?_
  refine z_iadd hx hb dL_law_754 ?_
  refine z_sld hx hb hX hbl hbA hS (by omega) hv dL_law_755 ?_
  have hPc := hP.sub (ws' := (MW cy a0 a1 a2 a3 a4 a5 a6 a7 ed tc ol nl nw nr ps tm od ne pt)) [0, 1, 2, 3, 4, 5, 6, 7] rfl
  have hDc := (hD.sub (ws' := (MW cy a0 a1 a2 a3 a4 a5 a6 a7 ed tc ol nl nw nr ps tm od ne pt)) [0, 1, 2, 3, 4, 5, 6, 7] (by decide) rfl).weaken (B := fun _ => True) (fun _ _ _ _ => trivial)
  have hFc := va_free (wc := (MW cy a0 a1 a2 a3 a4 a5 a6 a7 ed tc ol nl nw nr ps tm od ne pt)) hD hS hA [0, 1, 2, 3, 4, 5, 6, 7] rfl
  refine z_callE (A := A) (va_runV (As := [.int (iZ u), .int (iZ v)]) (rest := [.int (iZ (if fnd (fun s => (1 ≤ s ∧ 0 < (ms (nw 0) (nw 1) u (flF gp 0 1001) (nw 1)).2 s) ∧ cnt (fun z => 1 ≤ z ∧ 0 < (ms (nw 0) (nw 1) u (flF gp 0 1001) (nw 1)).2 z) s = v) 1001 = -1 then -3 else fnd (fun s => (1 ≤ s ∧ 0 < (ms (nw 0) (nw 1) u (flF gp 0 1001) (nw 1)).2 s) ∧ cnt (fun z => 1 ≤ z ∧ 0 < (ms (nw 0) (nw 1) u (flF gp 0 1001) (nw 1)).2 z) s = v) 1001))]) ⟨hx, hb, hml, hown, hts⟩ (c_X7_gapSize lau G cy a0 a1 a2 a3 a4 a5 a6 a7 H.size ed tc ol nl nw nr ps tm od ne pt u v (by first | omega | assumption) (by first | omega | assumption) (by first | omega | assumption) (by first | omega | assumption)) (cwV 2 hts gL_law_X7_gapSize rfl rfl rfl (by decide +kernel) ⟨Nat.le_of_ble_eq_true rfl, Nat.le_of_ble_eq_true rfl⟩) ⟨P1_blind, va_recv hK hP (ci := 6) (q0 := 0) rfl rfl, P1_mk hKK (⟨rfl, hPc, hDc⟩)⟩ rfl rfl hl.1 rfl (lv_room (Nat.le_of_ble_eq_true rfl)) dL_law_756 ⟨(show (C9 + 0) + 0 ≤ 600000 by omega), (show (D9 + 0) + 0 ≤ 7302250 by omega)⟩) hS.2.2 hFc (fun v H1 locs1 hR hL1 => ?_)
  obtain ⟨rfl, hq756, hP1, hD1, hF1⟩ := hR
  obtain ⟨hP, hD⟩ := va_join (wr := [(xa, .inr (5, [.ref hi, .ref ci, .ref st])), (hi, .inr (1, [.ref ra, .int (iZ nx), .int (iZ kp)])), (ra, .inl (cy 2, 6, .inr (.inr (.inr (.inr (qf rw9)))))), (ci, .inr (0, [.ref pa, .ref ga])), (pa, .inl (cy 1, 1000, .inl (zf (lyC pt1 (nw 0) (nw 1) u)))), (ga, .inl (cy 0, 1001, .inl (zf (ms (nw 0) (nw 1) u (flF gp 0 1001) (nw 1)).2))), (st, .inr (3, [.ref sl, .ref wo])), (sl, .inr (2, [.int (iZ (nw 0)), .int (iZ (nw 1)), .int (iZ (nw 2))])), (wo, .inr (4, [.long (lZ b), .int (iZ (nw 3))]))]) (w1 := (MW cy a0 a1 a2 a3 a4 a5 a6 a7 ed tc ol nl nw nr ps tm od ne (lyP pt (nw 0) (nw 1) u))) hP hD [0, 1, 2, 3, 4, 5, 6, 7] [8, 9, 10, 11, 12, 13, 14, 15, 16] rfl rfl (by decide) (by decide) hF1.2 hFc hP1 hD1
  have hS : va_S A s.heap H1 locs1 := Fh.S ((Fh.of hS).tr hF1 (fun q _ h => hFc q h)) hL1
  have hHS := hHS.fx hF1 [0, 1, 2, 3, 4, 5, 6, 7] rfl
  clear hPc hDc hFc hP1 hD1 hF1 hL1
  generalize H1 = H at hP hS hHS ⊢
  have hP : va_P G vwCl [(xa, .inr (5, [.ref hi, .ref ci, .ref st])), (hi, .inr (1, [.ref ra, .int (iZ nx), .int (iZ kp)])), (ra, .inl (cy 2, 6, .inr (.inr (.inr (.inr (qf rw9)))))), (ci, .inr (0, [.ref pa, .ref ga])), (pa, .inl (cy 1, 1000, .inl (zf (lyC pt1 (nw 0) (nw 1) u)))), (ga, .inl (cy 0, 1001, .inl (zf (ms (nw 0) (nw 1) u (flF gp 0 1001) (nw 1)).2))), (st, .inr (3, [.ref sl, .ref wo])), (sl, .inr (2, [.int (iZ (nw 0)), .int (iZ (nw 1)), .int (iZ (nw 2))])), (wo, .inr (4, [.long (lZ b), .int (iZ (nw 3))])), (a0, .inr (6, [.ref a1, .ref a2, .ref a3, .int (iZ ed), .ref a4, .int (iZ tc), .ref a5, .int (iZ ol), .ref a6, .int (iZ nl), .ref a7])), (a1, .inl (cy 0, 64, .inl (zf nw))), (a2, .inl (cy 0, 64, .inl (zf nr))), (a3, .inl (cy 0, 384, .inl (zf ps))), (a4, .inl (cy 0, 20, .inl (zf tm))), (a5, .inl (cy 0, 60, .inl (zf od))), (a6, .inl (cy 0, 60, .inl (zf ne))), (a7, .inl (cy 1, 1000, .inl (zf (lyP pt (nw 0) (nw 1) u))))] H := hP
  have hD : va_D A [(xa, .inr (5, [.ref hi, .ref ci, .ref st])), (hi, .inr (1, [.ref ra, .int (iZ nx), .int (iZ kp)])), (ra, .inl (cy 2, 6, .inr (.inr (.inr (.inr (qf rw9)))))), (ci, .inr (0, [.ref pa, .ref ga])), (pa, .inl (cy 1, 1000, .inl (zf (lyC pt1 (nw 0) (nw 1) u)))), (ga, .inl (cy 0, 1001, .inl (zf (ms (nw 0) (nw 1) u (flF gp 0 1001) (nw 1)).2))), (st, .inr (3, [.ref sl, .ref wo])), (sl, .inr (2, [.int (iZ (nw 0)), .int (iZ (nw 1)), .int (iZ (nw 2))])), (wo, .inr (4, [.long (lZ b), .int (iZ (nw 3))])), (a0, .inr (6, [.ref a1, .ref a2, .ref a3, .int (iZ ed), .ref a4, .int (iZ tc), .ref a5, .int (iZ ol), .ref a6, .int (iZ nl), .ref a7])), (a1, .inl (cy 0, 64, .inl (zf nw))), (a2, .inl (cy 0, 64, .inl (zf nr))), (a3, .inl (cy 0, 384, .inl (zf ps))), (a4, .inl (cy 0, 20, .inl (zf tm))), (a5, .inl (cy 0, 60, .inl (zf od))), (a6, .inl (cy 0, 60, .inl (zf ne))), (a7, .inl (cy 1, 1000, .inl (zf (lyP pt (nw 0) (nw 1) u))))] := hD
  have hP := hP.sub (ws' := (MW cy a0 a1 a2 a3 a4 a5 a6 a7 ed tc ol nl nw nr ps tm od ne (lyP pt (nw 0) (nw 1) u) ++ CW cy xa hi ra ci pa ga st nx kp rw9 (lyC pt1 (nw 0) (nw 1) u) ((ms (nw 0) (nw 1) u (flF gp 0 1001) (nw 1)).2) ++ S3 st sl wo (nw 0) (nw 1) (nw 2) b (nw 3))) [9, 10, 11, 12, 13, 14, 15, 16, 0, 1, 2, 3, 4, 5, 6, 7, 8] rfl
  have hD := hD.sub (ws' := (MW cy a0 a1 a2 a3 a4 a5 a6 a7 ed tc ol nl nw nr ps tm od ne (lyP pt (nw 0) (nw 1) u) ++ CW cy xa hi ra ci pa ga st nx kp rw9 (lyC pt1 (nw 0) (nw 1) u) ((ms (nw 0) (nw 1) u (flF gp 0 1001) (nw 1)).2) ++ S3 st sl wo (nw 0) (nw 1) (nw 2) b (nw 3))) [9, 10, 11, 12, 13, 14, 15, 16, 0, 1, 2, 3, 4, 5, 6, 7, 8] (by decide) rfl
  refine W.eq (g2 := F0 mt 759 ls [.int (iZ (gpR (nw 0) (nw 1) u v)), .int (iZ (if fnd (fun s => (1 ≤ s ∧ 0 < (ms (nw 0) (nw 1) u (flF gp 0 1001) (nw 1)).2 s) ∧ cnt (fun z => 1 ≤ z ∧ 0 < (ms (nw 0) (nw 1) u (flF gp 0 1001) (nw 1)).2 z) s = v) 1001 = -1 then -3 else fnd (fun s => (1 ≤ s ∧ 0 < (ms (nw 0) (nw 1) u (flF gp 0 1001) (nw 1)).2 s) ∧ cnt (fun z => 1 ≤ z ∧ 0 < (ms (nw 0) (nw 1) u (flF gp 0 1001) (nw 1)).2 z) s = v) 1001))]) rfl ?_
  refine z_same (tgt := 810) hx hb dL_law_759 (by decide) (j_gsize (by omega) (by omega) (by omega)) ?_
  refine W.widen (k := C9 + 30) (n := D9 + 120) (by omega) (by omega) ?_
  exact K _ _ _ (LInv.mk hP hD ⟨rfl, rfl, rfl, rfl, hw, hq, hn.2⟩ hHS hke he hnx (lyP_b hpt)) hS hl
set_option maxHeartbeats 4000000 in
set_option maxRecDepth 100000 in
theorem lc_764_no (hx : pr.tables.exec = Jvm.exec) (hb : cd.code = code) (hml : cd.maxLocals = 4) (hown : s.vm.findClass RL = some mt.cls) (hts : ∀ w ∈ lw_tbl, w.before #[Value.ref b9] s = true) (hKK : KK G cy s) (hEN : EN ad A s s.heap) (hA : ∀ q : Nat, s.heap.size ≤ q → A q) (hX : va_X b9 L9 xs s s.heap) (hbl : b9 < s.heap.size) (hbA : ¬ A b9) (hL : L9 ≤ 1536) (hP : va_P G vwCl (MW cy a0 a1 a2 a3 a4 a5 a6 a7 ed tc ol nl nw nr ps tm od ne pt ++ CW cy xa hi ra ci pa ga st nx kp rw9 pt1 gp ++ S3 st sl wo (nw 0) (nw 1) (nw 2) b (nw 3)) H) (hD : va_D A (MW cy a0 a1 a2 a3 a4 a5 a6 a7 ed tc ol nl nw nr ps tm od ne pt ++ CW cy xa hi ra ci pa ga st nx kp rw9 pt1 gp ++ S3 st sl wo (nw 0) (nw 1) (nw 2) b (nw 3))) (hS : va_S A s.heap H locs) (hw : RowIs nw b (nw 3)) (hq : 0 ≤ nw 0 ∧ nw 0 ≤ nw 1 ∧ 1 ≤ nw 1 ∧ nw 1 ≤ 1000 ∧ 0 ≤ nw 2 ∧ nw 2 < nw 1) (hn : 0 ≤ nw 3 ∧ nw 3 ≤ 60) (hHS : HS G A [a0, a1, a2, a3, a4, a5, a6, a7, xa, hi, ra, ci, pa, ga] nx ed rw9 ps H) (hke : kp = ed) (he : 0 ≤ ed ∧ ed ≤ 6) (hnx : 0 ≤ nx ∧ nx < 6) (hpt : ∀ x, 0 ≤ x → x < 1000 → pt x = 0 ∨ pt x = 1) (hi9 : 0 ≤ i ∧ i + 3 ≤ (L9 : Int)) (hu : xI xs (i + 1) = u) (hv : xI xs (i + 2) = v) (hC : C9 + 30 ≤ 600000 ∧ D9 + 120 ≤ 7302250) (hl : lv_has ls 4 [(0, .ref b9), (1, .ref xa), (2, .ref a0), (3, .int (iZ i))]) (K : ∀ (H : Heap) (locs : List Loc) (ls : Array Slot), LInv G cy A a0 a1 a2 a3 a4 a5 a6 a7 xa hi ra ci pa ga H → va_S A s.heap H locs → lv_has ls 4 [(0, .ref b9), (1, .ref xa), (2, .ref a0), (3, .int (iZ i))] → W pr lau ev room_1 s mt #[Value.ref b9] below meth cd H locs (C9 + 30) (D9 + 120) Q9 (F0 mt 810 ls [])) (h2 : ¬ ((1 ≤ u ∧ u ≤ 1000) ∧ 1 ≤ v)) : W pr lau ev room_1 s mt #[Value.ref b9] below meth cd H locs C9 D9 Q9 (F0 mt 764 ls []) := by
  have hK := hKK.1
  have hB := hw.2.2.1
  have hB61 := pw_61 hn.2
  have hL8 := hw.L hn.2
  have hub := xI_r hu
  have hvb := xI_r hv
  refine lv_aload_n hx hb dL_law_764 rfl (lv_at hl 1 rfl) ?_
  refine lv_aload_n hx hb dL_law_765 rfl (lv_at hl 0 rfl) ?_
  refine lv_iload_n hx hb dL_law_766 rfl (lv_at hl 3 rfl) ?_
  refine lv_iconst (v := iZ 1) hx hb dL_law_767 rfl ?_
  refine z_iadd hx hb dL_law_768 ?_
  refine z_sld hx hb hX hbl hbA hS (by omega) hu dL_law_769 ?_
  refine lv_aload_n hx hb dL_law_770 rfl (lv_at hl 0 rfl) ?_
  refine lv_iload_n hx hb dL_law_771 rfl (lv_at hl 3 rfl) ?_
  refine lv_iconst (v := iZ 2) hx hb dL_law_772 rfl ?_
  refine z_iadd hx hb dL_law_773 ?_
  refine z_sld hx hb hX hbl hbA hS (by omega) hv dL_law_774 ?_
  have hPc := hP.sub (ws' := [(ci, .inr (0, [.ref pa, .ref ga])), (pa, .inl (cy 1, 1000, .inl (zf pt1))), (ga, .inl (cy 0, 1001, .inl (zf gp)))]) [11, 12, 13] rfl
  have hDc := (hD.sub (ws' := [(ci, .inr (0, [.ref pa, .ref ga])), (pa, .inl (cy 1, 1000, .inl (zf pt1))), (ga, .inl (cy 0, 1001, .inl (zf gp)))]) [11, 12, 13] (by decide) rfl).weaken (B := fun _ => True) (fun _ _ _ _ => trivial)
  have hFc := va_free (wc := [(ci, .inr (0, [.ref pa, .ref ga])), (pa, .inl (cy 1, 1000, .inl (zf pt1))), (ga, .inl (cy 0, 1001, .inl (zf gp)))]) hD hS hA [11, 12, 13] rfl
  have hIc : va_P G vwCl [(xa, .inr (5, [.ref hi, .ref ci, .ref st])), (st, .inr (3, [.ref sl, .ref wo])), (sl, .inr (2, [.int (iZ (nw 0)), .int (iZ (nw 1)), .int (iZ (nw 2))]))] H := (((hP.sub (ws' := [(xa, .inr (5, [.ref hi, .ref ci, .ref st]))]) [8] rfl).app (hP.sub (ws' := [(st, .inr (3, [.ref sl, .ref wo]))]) [14] rfl)).app (hP.sub (ws' := [(sl, .inr (2, [.int (iZ (nw 0)), .int (iZ (nw 1)), .int (iZ (nw 2))]))]) [15] rfl))
  have hIAc : NA (va_A [(ci, .inr (0, [.ref pa, .ref ga])), (pa, .inl (cy 1, 1000, .inl (zf pt1))), (ga, .inl (cy 0, 1001, .inl (zf gp)))] H.size) [(xa, .inr (5, [.ref hi, .ref ci, .ref st])), (st, .inr (3, [.ref sl, .ref wo])), (sl, .inr (2, [.int (iZ (nw 0)), .int (iZ (nw 1)), .int (iZ (nw 2))]))] := NA.cons (z_nA hP hD [11, 12, 13] rfl 8 rfl (by decide)) (NA.cons (z_nA hP hD [11, 12, 13] rfl 14 rfl (by decide)) (NA.cons (z_nA hP hD [11, 12, 13] rfl 15 rfl (by decide)) (NA.nil)))
  refine z_callE (A := A) (va_runV (As := [.int (iZ u), .int (iZ v)]) (rest := []) ⟨hx, hb, hml, hown, hts⟩ (c_X6_gapsOfSize_no lau G cy xa hi ci st sl wo pa ga H.size (nw 0) (nw 1) (nw 2) pt1 gp u v (by first | omega | assumption) (by first | omega | assumption) (by first | omega | assumption) (by first | omega | assumption)) (cwV 2 hts gL_law_X6_gapsOfSize rfl rfl rfl (by decide +kernel) ⟨Nat.le_of_ble_eq_true rfl, Nat.le_of_ble_eq_true rfl⟩) ⟨P1_blind, va_recv hK hP (ci := 5) (q0 := 8) rfl rfl, P1_mk hKK (⟨rfl, hPc, hDc, hIc, hIAc⟩)⟩ rfl rfl hl.1 rfl (lv_room (Nat.le_of_ble_eq_true rfl)) dL_law_775 ⟨(show C9 + 0 ≤ 600000 by omega), (show D9 + 0 ≤ 7302250 by omega)⟩) hS.2.2 hFc (fun v H1 locs1 hR hL1 => ?_)
  obtain ⟨rfl, hq775, hP1, hD1, hF1⟩ := hR
  obtain ⟨hP, hD⟩ := va_join (wr := (MW cy a0 a1 a2 a3 a4 a5 a6 a7 ed tc ol nl nw nr ps tm od ne pt ++ [(xa, .inr (5, [.ref hi, .ref ci, .ref st])), (hi, .inr (1, [.ref ra, .int (iZ nx), .int (iZ kp)])), (ra, .inl (cy 2, 6, .inr (.inr (.inr (.inr (qf rw9)))))), (st, .inr (3, [.ref sl, .ref wo])), (sl, .inr (2, [.int (iZ (nw 0)), .int (iZ (nw 1)), .int (iZ (nw 2))])), (wo, .inr (4, [.long (lZ b), .int (iZ (nw 3))]))])) (w1 := [(ci, .inr (0, [.ref pa, .ref ga])), (pa, .inl (cy 1, 1000, .inl (zf pt1))), (ga, .inl (cy 0, 1001, .inl (zf gp)))]) hP hD [11, 12, 13] [0, 1, 2, 3, 4, 5, 6, 7, 8, 9, 10, 14, 15, 16] rfl rfl (by decide) (by decide) hF1.2 hFc hP1 hD1
  have hS : va_S A s.heap H1 locs1 := Fh.S ((Fh.of hS).tr hF1 (fun q _ h => hFc q h)) hL1
  have hHS := hHS.fx hF1 [11, 12, 13] rfl
  clear hPc hDc hFc hP1 hD1 hF1 hL1 hIc hIAc
  generalize H1 = H at hP hS hHS ⊢
  have hP : va_P G vwCl (MW cy a0 a1 a2 a3 a4 a5 a6 a7 ed tc ol nl nw nr ps tm od ne pt ++ [(xa, .inr (5, [.ref hi, .ref ci, .ref st])), (hi, .inr (1, [.ref ra, .int (iZ nx), .int (iZ kp)])), (ra, .inl (cy 2, 6, .inr (.inr (.inr (.inr (qf rw9)))))), (st, .inr (3, [.ref sl, .ref wo])), (sl, .inr (2, [.int (iZ (nw 0)), .int (iZ (nw 1)), .int (iZ (nw 2))])), (wo, .inr (4, [.long (lZ b), .int (iZ (nw 3))])), (ci, .inr (0, [.ref pa, .ref ga])), (pa, .inl (cy 1, 1000, .inl (zf pt1))), (ga, .inl (cy 0, 1001, .inl (zf gp)))]) H := hP
  have hD : va_D A (MW cy a0 a1 a2 a3 a4 a5 a6 a7 ed tc ol nl nw nr ps tm od ne pt ++ [(xa, .inr (5, [.ref hi, .ref ci, .ref st])), (hi, .inr (1, [.ref ra, .int (iZ nx), .int (iZ kp)])), (ra, .inl (cy 2, 6, .inr (.inr (.inr (.inr (qf rw9)))))), (st, .inr (3, [.ref sl, .ref wo])), (sl, .inr (2, [.int (iZ (nw 0)), .int (iZ (nw 1)), .int (iZ (nw 2))])), (wo, .inr (4, [.long (lZ b), .int (iZ (nw 3))])), (ci, .inr (0, [.ref pa, .ref ga])), (pa, .inl (cy 1, 1000, .inl (zf pt1))), (ga, .inl (cy 0, 1001, .inl (zf gp)))]) := hD
  have hP := hP.sub (ws' := (MW cy a0 a1 a2 a3 a4 a5 a6 a7 ed tc ol nl nw nr ps tm od ne pt ++ CW cy xa hi ra ci pa ga st nx kp rw9 pt1 gp ++ S3 st sl wo (nw 0) (nw 1) (nw 2) b (nw 3))) [0, 1, 2, 3, 4, 5, 6, 7, 8, 9, 10, 14, 15, 16, 11, 12, 13] rfl
  have hD := hD.sub (ws' := (MW cy a0 a1 a2 a3 a4 a5 a6 a7 ed tc ol nl nw nr ps tm od ne pt ++ CW cy xa hi ra ci pa ga st nx kp rw9 pt1 gp ++ S3 st sl wo (nw 0) (nw 1) (nw 2) b (nw 3))) [0, 1, 2, 3, 4, 5, 6, 7, 8, 9, 10, 14, 15, 16, 11, 12, 13] (by decide) rfl
  refine W.eq (g2 := F0 mt 778 ls [.int (iZ (-1))]) rfl ?_
  refine lv_aload_n hx hb dL_law_778 rfl (lv_at hl 2 rfl) ?_
  refine lv_aload_n hx hb dL_law_779 rfl (lv_at hl 0 rfl) ?_
  refine lv_iload_n hx hb dL_law_780 rfl (lv_at hl 3 rfl) ?_
  refine lv_iconst (v := iZ 1) hx hb dL_law_781 rfl ?_
  refine z_iadd hx hb dL_law_782 ?_
  refine z_sld hx hb hX hbl hbA hS (by omega) hu dL_law_783 ?_
  refine lv_aload_n hx hb dL_law_784 rfl (lv_at hl 0 rfl) ?_
  refine lv_iload_n hx hb dL_law_785 rfl (lv_at hl 3 rfl) ?_
  refine lv_iconst (v := iZ 2) hx hb dL_law_786 rfl ?_
  refine z_iadd hx hb dL_law_787 ?_
  refine z_sld hx hb hX hbl hbA hS (by omega) hv dL_law_788 ?_
  have hPc := hP.sub (ws' := (MW cy a0 a1 a2 a3 a4 a5 a6 a7 ed tc ol nl nw nr ps tm od ne pt)) [0, 1, 2, 3, 4, 5, 6, 7] rfl
  have hDc := (hD.sub (ws' := (MW cy a0 a1 a2 a3 a4 a5 a6 a7 ed tc ol nl nw nr ps tm od ne pt)) [0, 1, 2, 3, 4, 5, 6, 7] (by decide) rfl).weaken (B := fun _ => True) (fun _ _ _ _ => trivial)
  have hFc := va_free (wc := (MW cy a0 a1 a2 a3 a4 a5 a6 a7 ed tc ol nl nw nr ps tm od ne pt)) hD hS hA [0, 1, 2, 3, 4, 5, 6, 7] rfl
  refine z_callE (A := A) (va_runV (As := [.int (iZ u), .int (iZ v)]) (rest := [.int (iZ (-1))]) ⟨hx, hb, hml, hown, hts⟩ (c_X7_gapsOfSize_no lau G cy a0 a1 a2 a3 a4 a5 a6 a7 H.size ed tc ol nl nw nr ps tm od ne pt u v (by first | omega | assumption) (by first | omega | assumption)) (cwV 2 hts gL_law_X7_gapsOfSize rfl rfl rfl (by decide +kernel) ⟨Nat.le_of_ble_eq_true rfl, Nat.le_of_ble_eq_true rfl⟩) ⟨P1_blind, va_recv hK hP (ci := 6) (q0 := 0) rfl rfl, P1_mk hKK (⟨rfl, hPc, hDc⟩)⟩ rfl rfl hl.1 rfl (lv_room (Nat.le_of_ble_eq_true rfl)) dL_law_789 ⟨(show (C9 + 0) + 0 ≤ 600000 by omega), (show (D9 + 0) + 0 ≤ 7302250 by omega)⟩) hS.2.2 hFc (fun v H1 locs1 hR hL1 => ?_)
  obtain ⟨rfl, hq789, hP1, hD1, hF1⟩ := hR
  obtain ⟨hP, hD⟩ := va_join (wr := [(xa, .inr (5, [.ref hi, .ref ci, .ref st])), (hi, .inr (1, [.ref ra, .int (iZ nx), .int (iZ kp)])), (ra, .inl (cy 2, 6, .inr (.inr (.inr (.inr (qf rw9)))))), (ci, .inr (0, [.ref pa, .ref ga])), (pa, .inl (cy 1, 1000, .inl (zf pt1))), (ga, .inl (cy 0, 1001, .inl (zf gp))), (st, .inr (3, [.ref sl, .ref wo])), (sl, .inr (2, [.int (iZ (nw 0)), .int (iZ (nw 1)), .int (iZ (nw 2))])), (wo, .inr (4, [.long (lZ b), .int (iZ (nw 3))]))]) (w1 := (MW cy a0 a1 a2 a3 a4 a5 a6 a7 ed tc ol nl nw nr ps tm od ne pt)) hP hD [0, 1, 2, 3, 4, 5, 6, 7] [8, 9, 10, 11, 12, 13, 14, 15, 16] rfl rfl (by decide) (by decide) hF1.2 hFc hP1 hD1
  have hS : va_S A s.heap H1 locs1 := Fh.S ((Fh.of hS).tr hF1 (fun q _ h => hFc q h)) hL1
  have hHS := hHS.fx hF1 [0, 1, 2, 3, 4, 5, 6, 7] rfl
  clear hPc hDc hFc hP1 hD1 hF1 hL1
  generalize H1 = H at hP hS hHS ⊢
  have hP : va_P G vwCl [(xa, .inr (5, [.ref hi, .ref ci, .ref st])), (hi, .inr (1, [.ref ra, .int (iZ nx), .int (iZ kp)])), (ra, .inl (cy 2, 6, .inr (.inr (.inr (.inr (qf rw9)))))), (ci, .inr (0, [.ref pa, .ref ga])), (pa, .inl (cy 1, 1000, .inl (zf pt1))), (ga, .inl (cy 0, 1001, .inl (zf gp))), (st, .inr (3, [.ref sl, .ref wo])), (sl, .inr (2, [.int (iZ (nw 0)), .int (iZ (nw 1)), .int (iZ (nw 2))])), (wo, .inr (4, [.long (lZ b), .int (iZ (nw 3))])), (a0, .inr (6, [.ref a1, .ref a2, .ref a3, .int (iZ ed), .ref a4, .int (iZ tc), .ref a5, .int (iZ ol), .ref a6, .int (iZ nl), .ref a7])), (a1, .inl (cy 0, 64, .inl (zf nw))), (a2, .inl (cy 0, 64, .inl (zf nr))), (a3, .inl (cy 0, 384, .inl (zf ps))), (a4, .inl (cy 0, 20, .inl (zf tm))), (a5, .inl (cy 0, 60, .inl (zf od))), (a6, .inl (cy 0, 60, .inl (zf ne))), (a7, .inl (cy 1, 1000, .inl (zf pt)))] H := hP
  have hD : va_D A [(xa, .inr (5, [.ref hi, .ref ci, .ref st])), (hi, .inr (1, [.ref ra, .int (iZ nx), .int (iZ kp)])), (ra, .inl (cy 2, 6, .inr (.inr (.inr (.inr (qf rw9)))))), (ci, .inr (0, [.ref pa, .ref ga])), (pa, .inl (cy 1, 1000, .inl (zf pt1))), (ga, .inl (cy 0, 1001, .inl (zf gp))), (st, .inr (3, [.ref sl, .ref wo])), (sl, .inr (2, [.int (iZ (nw 0)), .int (iZ (nw 1)), .int (iZ (nw 2))])), (wo, .inr (4, [.long (lZ b), .int (iZ (nw 3))])), (a0, .inr (6, [.ref a1, .ref a2, .ref a3, .int (iZ ed), .ref a4, .int (iZ tc), .ref a5, .int (iZ ol), .ref a6, .int (iZ nl), .ref a7])), (a1, .inl (cy 0, 64, .inl (zf nw))), (a2, .inl (cy 0, 64, .inl (zf nr))), (a3, .inl (cy 0, 384, .inl (zf ps))), (a4, .inl (cy 0, 20, .inl (zf tm))), (a5, .inl (cy 0, 60, .inl (zf od))), (a6, .inl (cy 0, 60, .inl (zf ne))), (a7, .inl (cy 1, 1000, .inl (zf pt)))] := hD
  have hP := hP.sub (ws' := (MW cy a0 a1 a2 a3 a4 a5 a6 a7 ed tc ol nl nw nr ps tm od ne pt ++ CW cy xa hi ra ci pa ga st nx kp rw9 pt1 gp ++ S3 st sl wo (nw 0) (nw 1) (nw 2) b (nw 3))) [9, 10, 11, 12, 13, 14, 15, 16, 0, 1, 2, 3, 4, 5, 6, 7, 8] rfl
  have hD := hD.sub (ws' := (MW cy a0 a1 a2 a3 a4 a5 a6 a7 ed tc ol nl nw nr ps tm od ne pt ++ CW cy xa hi ra ci pa ga st nx kp rw9 pt1 gp ++ S3 st sl wo (nw 0) (nw 1) (nw 2) b (nw 3))) [9, 10, 11, 12, 13, 14, 15, 16, 0, 1, 2, 3, 4, 5, 6, 7, 8] (by decide) rfl
  refine W.eq (g2 := F0 mt 792 ls [.int (iZ (-1)), .int (iZ (-1))]) rfl ?_
  refine z_same (tgt := 810) hx hb dL_law_792 (by decide) (rfl) ?_
  refine W.widen (k := C9 + 30) (n := D9 + 120) (by omega) (by omega) ?_
  exact K _ _ _ (LInv.mk hP hD ⟨rfl, rfl, rfl, rfl, hw, hq, hn.2⟩ hHS hke he hnx hpt) hS hl
set_option maxHeartbeats 4000000 in
set_option maxRecDepth 100000 in
theorem lc_764 (hx : pr.tables.exec = Jvm.exec) (hb : cd.code = code) (hml : cd.maxLocals = 4) (hown : s.vm.findClass RL = some mt.cls) (hts : ∀ w ∈ lw_tbl, w.before #[Value.ref b9] s = true) (hKK : KK G cy s) (hEN : EN ad A s s.heap) (hA : ∀ q : Nat, s.heap.size ≤ q → A q) (hX : va_X b9 L9 xs s s.heap) (hbl : b9 < s.heap.size) (hbA : ¬ A b9) (hL : L9 ≤ 1536) (hP : va_P G vwCl (MW cy a0 a1 a2 a3 a4 a5 a6 a7 ed tc ol nl nw nr ps tm od ne pt ++ CW cy xa hi ra ci pa ga st nx kp rw9 pt1 gp ++ S3 st sl wo (nw 0) (nw 1) (nw 2) b (nw 3)) H) (hD : va_D A (MW cy a0 a1 a2 a3 a4 a5 a6 a7 ed tc ol nl nw nr ps tm od ne pt ++ CW cy xa hi ra ci pa ga st nx kp rw9 pt1 gp ++ S3 st sl wo (nw 0) (nw 1) (nw 2) b (nw 3))) (hS : va_S A s.heap H locs) (hw : RowIs nw b (nw 3)) (hq : 0 ≤ nw 0 ∧ nw 0 ≤ nw 1 ∧ 1 ≤ nw 1 ∧ nw 1 ≤ 1000 ∧ 0 ≤ nw 2 ∧ nw 2 < nw 1) (hn : 0 ≤ nw 3 ∧ nw 3 ≤ 60) (hHS : HS G A [a0, a1, a2, a3, a4, a5, a6, a7, xa, hi, ra, ci, pa, ga] nx ed rw9 ps H) (hke : kp = ed) (he : 0 ≤ ed ∧ ed ≤ 6) (hnx : 0 ≤ nx ∧ nx < 6) (hpt : ∀ x, 0 ≤ x → x < 1000 → pt x = 0 ∨ pt x = 1) (hi9 : 0 ≤ i ∧ i + 3 ≤ (L9 : Int)) (hu : xI xs (i + 1) = u) (hv : xI xs (i + 2) = v) (hC : C9 + 30 ≤ 600000 ∧ D9 + 120 ≤ 7302250) (hl : lv_has ls 4 [(0, .ref b9), (1, .ref xa), (2, .ref a0), (3, .int (iZ i))]) (K : ∀ (H : Heap) (locs : List Loc) (ls : Array Slot), LInv G cy A a0 a1 a2 a3 a4 a5 a6 a7 xa hi ra ci pa ga H → va_S A s.heap H locs → lv_has ls 4 [(0, .ref b9), (1, .ref xa), (2, .ref a0), (3, .int (iZ i))] → W pr lau ev room_1 s mt #[Value.ref b9] below meth cd H locs (C9 + 30) (D9 + 120) Q9 (F0 mt 810 ls [])) (h2 : (1 ≤ u ∧ u ≤ 1000) ∧ 1 ≤ v) : W pr lau ev room_1 s mt #[Value.ref b9] below meth cd H locs C9 D9 Q9 (F0 mt 764 ls []) := by
  have hK := hKK.1
  have hB := hw.2.2.1
  have hB61 := pw_61 hn.2
  have hL8 := hw.L hn.2
  have hub := xI_r hu
  have hvb := xI_r hv
  refine lv_aload_n hx hb dL_law_764 rfl (lv_at hl 1 rfl) ?_
  refine lv_aload_n hx hb dL_law_765 rfl (lv_at hl 0 rfl) ?_
  refine lv_iload_n hx hb dL_law_766 rfl (lv_at hl 3 rfl) ?_
  refine lv_iconst (v := iZ 1) hx hb dL_law_767 rfl ?_
  refine z_iadd hx hb dL_law_768 ?_
  refine z_sld hx hb hX hbl hbA hS (by omega) hu dL_law_769 ?_
  refine lv_aload_n hx hb dL_law_770 rfl (lv_at hl 0 rfl) ?_
  refine lv_iload_n hx hb dL_law_771 rfl (lv_at hl 3 rfl) ?_
  refine lv_iconst (v := iZ 2) hx hb dL_law_772 rfl ?_
  refine z_iadd hx hb dL_law_773 ?_
  refine z_sld hx hb hX hbl hbA hS (by omega) hv dL_law_774 ?_
  have hPc := hP.sub (ws' := [(ci, .inr (0, [.ref pa, .ref ga])), (pa, .inl (cy 1, 1000, .inl (zf pt1))), (ga, .inl (cy 0, 1001, .inl (zf gp)))]) [11, 12, 13] rfl
  have hDc := (hD.sub (ws' := [(ci, .inr (0, [.ref pa, .ref ga])), (pa, .inl (cy 1, 1000, .inl (zf pt1))), (ga, .inl (cy 0, 1001, .inl (zf gp)))]) [11, 12, 13] (by decide) rfl).weaken (B := fun _ => True) (fun _ _ _ _ => trivial)
  have hFc := va_free (wc := [(ci, .inr (0, [.ref pa, .ref ga])), (pa, .inl (cy 1, 1000, .inl (zf pt1))), (ga, .inl (cy 0, 1001, .inl (zf gp)))]) hD hS hA [11, 12, 13] rfl
  have hIc : va_P G vwCl [(xa, .inr (5, [.ref hi, .ref ci, .ref st])), (st, .inr (3, [.ref sl, .ref wo])), (sl, .inr (2, [.int (iZ (nw 0)), .int (iZ (nw 1)), .int (iZ (nw 2))]))] H := (((hP.sub (ws' := [(xa, .inr (5, [.ref hi, .ref ci, .ref st]))]) [8] rfl).app (hP.sub (ws' := [(st, .inr (3, [.ref sl, .ref wo]))]) [14] rfl)).app (hP.sub (ws' := [(sl, .inr (2, [.int (iZ (nw 0)), .int (iZ (nw 1)), .int (iZ (nw 2))]))]) [15] rfl))
  have hIAc : NA (va_A [(ci, .inr (0, [.ref pa, .ref ga])), (pa, .inl (cy 1, 1000, .inl (zf pt1))), (ga, .inl (cy 0, 1001, .inl (zf gp)))] H.size) [(xa, .inr (5, [.ref hi, .ref ci, .ref st])), (st, .inr (3, [.ref sl, .ref wo])), (sl, .inr (2, [.int (iZ (nw 0)), .int (iZ (nw 1)), .int (iZ (nw 2))]))] := NA.cons (z_nA hP hD [11, 12, 13] rfl 8 rfl (by decide)) (NA.cons (z_nA hP hD [11, 12, 13] rfl 14 rfl (by decide)) (NA.cons (z_nA hP hD [11, 12, 13] rfl 15 rfl (by decide)) (NA.nil)))
  refine z_callE (A := A) (va_runV (As := [.int (iZ u), .int (iZ v)]) (rest := []) ⟨hx, hb, hml, hown, hts⟩ (c_X6_gapsOfSize lau G cy xa hi ci st sl wo pa ga H.size (nw 0) (nw 1) (nw 2) pt1 gp u v (by first | omega | assumption) (by first | omega | assumption) (by first | omega | assumption) (by first | omega | assumption)) (cwV 2 hts gL_law_X6_gapsOfSize rfl rfl rfl (by decide +kernel) ⟨Nat.le_of_ble_eq_true rfl, Nat.le_of_ble_eq_true rfl⟩) ⟨P1_blind, va_recv hK hP (ci := 5) (q0 := 8) rfl rfl, P1_mk hKK (⟨rfl, hPc, hDc, hIc, hIAc⟩)⟩ rfl rfl hl.1 rfl (lv_room (Nat.le_of_ble_eq_true rfl)) dL_law_775 ⟨(show C9 + 0 ≤ 600000 by omega), (show D9 + 0 ≤ 7302250 by omega)⟩) hS.2.2 hFc (fun v H1 locs1 hR hL1 => ?_)
  obtain ⟨rfl, hq775, hP1, hD1, hF1⟩ := hR
  obtain ⟨hP, hD⟩ := va_join (wr := (MW cy a0 a1 a2 a3 a4 a5 a6 a7 ed tc ol nl nw nr ps tm od ne pt ++ [(xa, .inr (5, [.ref hi, .ref ci, .ref st])), (hi, .inr (1, [.ref ra, .int (iZ nx), .int (iZ kp)])), (ra, .inl (cy 2, 6, .inr (.inr (.inr (.inr (qf rw9)))))), (st, .inr (3, [.ref sl, .ref wo])), (sl, .inr (2, [.int (iZ (nw 0)), .int (iZ (nw 1)), .int (iZ (nw 2))])), (wo, .inr (4, [.long (lZ b), .int (iZ (nw 3))]))])) (w1 := [(ci, .inr (0, [.ref pa, .ref ga])), (pa, .inl (cy 1, 1000, .inl (zf (lyC pt1 (nw 0) (nw 1) u)))), (ga, .inl (cy 0, 1001, .inl (zf (ms (nw 0) (nw 1) u (flF gp 0 1001) (nw 1)).2)))]) hP hD [11, 12, 13] [0, 1, 2, 3, 4, 5, 6, 7, 8, 9, 10, 14, 15, 16] rfl rfl (by decide) (by decide) hF1.2 hFc hP1 hD1
  have hS : va_S A s.heap H1 locs1 := Fh.S ((Fh.of hS).tr hF1 (fun q _ h => hFc q h)) hL1
  have hHS := hHS.fx hF1 [11, 12, 13] rfl
  clear hPc hDc hFc hP1 hD1 hF1 hL1 hIc hIAc
  generalize H1 = H at hP hS hHS ⊢
  have hP : va_P G vwCl (MW cy a0 a1 a2 a3 a4 a5 a6 a7 ed tc ol nl nw nr ps tm od ne pt ++ [(xa, .inr (5, [.ref hi, .ref ci, .ref st])), (hi, .inr (1, [.ref ra, .int (iZ nx), .int (iZ kp)])), (ra, .inl (cy 2, 6, .inr (.inr (.inr (.inr (qf rw9)))))), (st, .inr (3, [.ref sl, .ref wo])), (sl, .inr (2, [.int (iZ (nw 0)), .int (iZ (nw 1)), .int (iZ (nw 2))])), (wo, .inr (4, [.long (lZ b), .int (iZ (nw 3))])), (ci, .inr (0, [.ref pa, .ref ga])), (pa, .inl (cy 1, 1000, .inl (zf (lyC pt1 (nw 0) (nw 1) u)))), (ga, .inl (cy 0, 1001, .inl (zf (ms (nw 0) (nw 1) u (flF gp 0 1001) (nw 1)).2)))]) H := hP
  have hD : va_D A (MW cy a0 a1 a2 a3 a4 a5 a6 a7 ed tc ol nl nw nr ps tm od ne pt ++ [(xa, .inr (5, [.ref hi, .ref ci, .ref st])), (hi, .inr (1, [.ref ra, .int (iZ nx), .int (iZ kp)])), (ra, .inl (cy 2, 6, .inr (.inr (.inr (.inr (qf rw9)))))), (st, .inr (3, [.ref sl, .ref wo])), (sl, .inr (2, [.int (iZ (nw 0)), .int (iZ (nw 1)), .int (iZ (nw 2))])), (wo, .inr (4, [.long (lZ b), .int (iZ (nw 3))])), (ci, .inr (0, [.ref pa, .ref ga])), (pa, .inl (cy 1, 1000, .inl (zf (lyC pt1 (nw 0) (nw 1) u)))), (ga, .inl (cy 0, 1001, .inl (zf (ms (nw 0) (nw 1) u (flF gp 0 1001) (nw 1)).2)))]) := hD
  have hP := hP.sub (ws' := (MW cy a0 a1 a2 a3 a4 a5 a6 a7 ed tc ol nl nw nr ps tm od ne pt ++ CW cy xa hi ra ci pa ga st nx kp rw9 (lyC pt1 (nw 0) (nw 1) u) ((ms (nw 0) (nw 1) u (flF gp 0 1001) (nw 1)).2) ++ S3 st sl wo (nw 0) (nw 1) (nw 2) b (nw 3))) [0, 1, 2, 3, 4, 5, 6, 7, 8, 9, 10, 14, 15, 16, 11, 12, 13] rfl
  have hD := hD.sub (ws' := (MW cy a0 a1 a2 a3 a4 a5 a6 a7 ed tc ol nl nw nr ps tm od ne pt ++ CW cy xa hi ra ci pa ga st nx kp rw9 (lyC pt1 (nw 0) (nw 1) u) ((ms (nw 0) (nw 1) u (flF gp 0 1001) (nw 1)).2) ++ S3 st sl wo (nw 0) (nw 1) (nw 2) b (nw 3))) [0, 1, 2, 3, 4, 5, 6, 7, 8, 9, 10, 14, 15, 16, 11, 12, 13] (by decide) rfl
  refine W.eq (g2 := F0 mt 778 ls [.int (iZ (if 0 ≤ v ∧ v < 1001 then (ms (nw 0) (nw 1) u (flF gp 0 1001) (nw 1)).2 v else 0))]) rfl ?_
  refine lv_aload_n hx hb dL_law_778 rfl (lv_at hl 2 rfl) ?_
  refine lv_aload_n hx hb dL_law_779 rfl (lv_at hl 0 rfl) ?_
  refine lv_iload_n hx hb dL_law_780 rfl (lv_at hl 3 rfl) ?_
  refine lv_iconst (v := iZ 1) hx hb dL_law_781 rfl ?_
  refine z_iadd hx hb dL_law_782 ?_
  refine z_sld hx hb hX hbl hbA hS (by omega) hu dL_law_783 ?_
  refine lv_aload_n hx hb dL_law_784 rfl (lv_at hl 0 rfl) ?_
  refine lv_iload_n hx hb dL_law_785 rfl (lv_at hl 3 rfl) ?_
  refine lv_iconst (v := iZ 2) hx hb dL_law_786 rfl ?_
  refine z_iadd hx hb dL_law_787 ?_
  refine z_sld hx hb hX hbl hbA hS (by omega) hv dL_law_788 ?_
  have hPc := hP.sub (ws' := (MW cy a0 a1 a2 a3 a4 a5 a6 a7 ed tc ol nl nw nr ps tm od ne pt)) [0, 1, 2, 3, 4, 5, 6, 7] rfl
  have hDc := (hD.sub (ws' := (MW cy a0 a1 a2 a3 a4 a5 a6 a7 ed tc ol nl nw nr ps tm od ne pt)) [0, 1, 2, 3, 4, 5, 6, 7] (by decide) rfl).weaken (B := fun _ => True) (fun _ _ _ _ => trivial)
  have hFc := va_free (wc := (MW cy a0 a1 a2 a3 a4 a5 a6 a7 ed tc ol nl nw nr ps tm od ne pt)) hD hS hA [0, 1, 2, 3, 4, 5, 6, 7] rfl
  refine z_callE (A := A) (va_runV (As := [.int (iZ u), .int (iZ v)]) (rest := [.int (iZ (if 0 ≤ v ∧ v < 1001 then (ms (nw 0) (nw 1) u (flF gp 0 1001) (nw 1)).2 v else 0))]) ⟨hx, hb, hml, hown, hts⟩ (c_X7_gapsOfSize lau G cy a0 a1 a2 a3 a4 a5 a6 a7 H.size ed tc ol nl nw nr ps tm od ne pt u v (by first | omega | assumption) (by first | omega | assumption) (by first | omega | assumption) (by first | omega | assumption)) (cwV 2 hts gL_law_X7_gapsOfSize rfl rfl rfl (by decide +kernel) ⟨Nat.le_of_ble_eq_true rfl, Nat.le_of_ble_eq_true rfl⟩) ⟨P1_blind, va_recv hK hP (ci := 6) (q0 := 0) rfl rfl, P1_mk hKK (⟨rfl, hPc, hDc⟩)⟩ rfl rfl hl.1 rfl (lv_room (Nat.le_of_ble_eq_true rfl)) dL_law_789 ⟨(show (C9 + 0) + 0 ≤ 600000 by omega), (show (D9 + 0) + 0 ≤ 7302250 by omega)⟩) hS.2.2 hFc (fun v H1 locs1 hR hL1 => ?_)
  obtain ⟨rfl, hq789, hP1, hD1, hF1⟩ := hR
  obtain ⟨hP, hD⟩ := va_join (wr := [(xa, .inr (5, [.ref hi, .ref ci, .ref st])), (hi, .inr (1, [.ref ra, .int (iZ nx), .int (iZ kp)])), (ra, .inl (cy 2, 6, .inr (.inr (.inr (.inr (qf rw9)))))), (ci, .inr (0, [.ref pa, .ref ga])), (pa, .inl (cy 1, 1000, .inl (zf (lyC pt1 (nw 0) (nw 1) u)))), (ga, .inl (cy 0, 1001, .inl (zf (ms (nw 0) (nw 1) u (flF gp 0 1001) (nw 1)).2))), (st, .inr (3, [.ref sl, .ref wo])), (sl, .inr (2, [.int (iZ (nw 0)), .int (iZ (nw 1)), .int (iZ (nw 2))])), (wo, .inr (4, [.long (lZ b), .int (iZ (nw 3))]))]) (w1 := (MW cy a0 a1 a2 a3 a4 a5 a6 a7 ed tc ol nl nw nr ps tm od ne (lyP pt (nw 0) (nw 1) u))) hP hD [0, 1, 2, 3, 4, 5, 6, 7] [8, 9, 10, 11, 12, 13, 14, 15, 16] rfl rfl (by decide) (by decide) hF1.2 hFc hP1 hD1
  have hS : va_S A s.heap H1 locs1 := Fh.S ((Fh.of hS).tr hF1 (fun q _ h => hFc q h)) hL1
  have hHS := hHS.fx hF1 [0, 1, 2, 3, 4, 5, 6, 7] rfl
  clear hPc hDc hFc hP1 hD1 hF1 hL1
  generalize H1 = H at hP hS hHS ⊢
  have hP : va_P G vwCl [(xa, .inr (5, [.ref hi, .ref ci, .ref st])), (hi, .inr (1, [.ref ra, .int (iZ nx), .int (iZ kp)])), (ra, .inl (cy 2, 6, .inr (.inr (.inr (.inr (qf rw9)))))), (ci, .inr (0, [.ref pa, .ref ga])), (pa, .inl (cy 1, 1000, .inl (zf (lyC pt1 (nw 0) (nw 1) u)))), (ga, .inl (cy 0, 1001, .inl (zf (ms (nw 0) (nw 1) u (flF gp 0 1001) (nw 1)).2))), (st, .inr (3, [.ref sl, .ref wo])), (sl, .inr (2, [.int (iZ (nw 0)), .int (iZ (nw 1)), .int (iZ (nw 2))])), (wo, .inr (4, [.long (lZ b), .int (iZ (nw 3))])), (a0, .inr (6, [.ref a1, .ref a2, .ref a3, .int (iZ ed), .ref a4, .int (iZ tc), .ref a5, .int (iZ ol), .ref a6, .int (iZ nl), .ref a7])), (a1, .inl (cy 0, 64, .inl (zf nw))), (a2, .inl (cy 0, 64, .inl (zf nr))), (a3, .inl (cy 0, 384, .inl (zf ps))), (a4, .inl (cy 0, 20, .inl (zf tm))), (a5, .inl (cy 0, 60, .inl (zf od))), (a6, .inl (cy 0, 60, .inl (zf ne))), (a7, .inl (cy 1, 1000, .inl (zf (lyP pt (nw 0) (nw 1) u))))] H := hP
  have hD : va_D A [(xa, .inr (5, [.ref hi, .ref ci, .ref st])), (hi, .inr (1, [.ref ra, .int (iZ nx), .int (iZ kp)])), (ra, .inl (cy 2, 6, .inr (.inr (.inr (.inr (qf rw9)))))), (ci, .inr (0, [.ref pa, .ref ga])), (pa, .inl (cy 1, 1000, .inl (zf (lyC pt1 (nw 0) (nw 1) u)))), (ga, .inl (cy 0, 1001, .inl (zf (ms (nw 0) (nw 1) u (flF gp 0 1001) (nw 1)).2))), (st, .inr (3, [.ref sl, .ref wo])), (sl, .inr (2, [.int (iZ (nw 0)), .int (iZ (nw 1)), .int (iZ (nw 2))])), (wo, .inr (4, [.long (lZ b), .int (iZ (nw 3))])), (a0, .inr (6, [.ref a1, .ref a2, .ref a3, .int (iZ ed), .ref a4, .int (iZ tc), .ref a5, .int (iZ ol), .ref a6, .int (iZ nl), .ref a7])), (a1, .inl (cy 0, 64, .inl (zf nw))), (a2, .inl (cy 0, 64, .inl (zf nr))), (a3, .inl (cy 0, 384, .inl (zf ps))), (a4, .inl (cy 0, 20, .inl (zf tm))), (a5, .inl (cy 0, 60, .inl (zf od))), (a6, .inl (cy 0, 60, .inl (zf ne))), (a7, .inl (cy 1, 1000, .inl (zf (lyP pt (nw 0) (nw 1) u))))] := hD
  have hP := hP.sub (ws' := (MW cy a0 a1 a2 a3 a4 a5 a6 a7 ed tc ol nl nw nr ps tm od ne (lyP pt (nw 0) (nw 1) u) ++ CW cy xa hi ra ci pa ga st nx kp rw9 (lyC pt1 (nw 0) (nw 1) u) ((ms (nw 0) (nw 1) u (flF gp 0 1001) (nw 1)).2) ++ S3 st sl wo (nw 0) (nw 1) (nw 2) b (nw 3))) [9, 10, 11, 12, 13, 14, 15, 16, 0, 1, 2, 3, 4, 5, 6, 7, 8] rfl
  have hD := hD.sub (ws' := (MW cy a0 a1 a2 a3 a4 a5 a6 a7 ed tc ol nl nw nr ps tm od ne (lyP pt (nw 0) (nw 1) u) ++ CW cy xa hi ra ci pa ga st nx kp rw9 (lyC pt1 (nw 0) (nw 1) u) ((ms (nw 0) (nw 1) u (flF gp 0 1001) (nw 1)).2) ++ S3 st sl wo (nw 0) (nw 1) (nw 2) b (nw 3))) [9, 10, 11, 12, 13, 14, 15, 16, 0, 1, 2, 3, 4, 5, 6, 7, 8] (by decide) rfl
  refine W.eq (g2 := F0 mt 792 ls [.int (iZ (gpN (nw 0) (nw 1) u v)), .int (iZ (if 0 ≤ v ∧ v < 1001 then (ms (nw 0) (nw 1) u (flF gp 0 1001) (nw 1)).2 v else 0))]) rfl ?_
  refine z_same (tgt := 810) hx hb dL_law_792 (by decide) (j_gof (by omega) (by omega) (by omega)) ?_
  refine W.widen (k := C9 + 30) (n := D9 + 120) (by omega) (by omega) ?_
  exact K _ _ _ (LInv.mk hP hD ⟨rfl, rfl, rfl, rfl, hw, hq, hn.2⟩ hHS hke he hnx (lyP_b hpt)) hS hl
set_option maxHeartbeats 4000000 in
set_option maxRecDepth 100000 in
theorem lc_797 (hx : pr.tables.exec = Jvm.exec) (hb : cd.code = code) (hml : cd.maxLocals = 4) (hown : s.vm.findClass RL = some mt.cls) (hts : ∀ w ∈ lw_tbl, w.before #[Value.ref b9] s = true) (hKK : KK G cy s) (hEN : EN ad A s s.heap) (hA : ∀ q : Nat, s.heap.size ≤ q → A q) (hX : va_X b9 L9 xs s s.heap) (hbl : b9 < s.heap.size) (hbA : ¬ A b9) (hL : L9 ≤ 1536) (hP : va_P G vwCl (MW cy a0 a1 a2 a3 a4 a5 a6 a7 ed tc ol nl nw nr ps tm od ne pt ++ CW cy xa hi ra ci pa ga st nx kp rw9 pt1 gp ++ S3 st sl wo (nw 0) (nw 1) (nw 2) b (nw 3)) H) (hD : va_D A (MW cy a0 a1 a2 a3 a4 a5 a6 a7 ed tc ol nl nw nr ps tm od ne pt ++ CW cy xa hi ra ci pa ga st nx kp rw9 pt1 gp ++ S3 st sl wo (nw 0) (nw 1) (nw 2) b (nw 3))) (hS : va_S A s.heap H locs) (hw : RowIs nw b (nw 3)) (hq : 0 ≤ nw 0 ∧ nw 0 ≤ nw 1 ∧ 1 ≤ nw 1 ∧ nw 1 ≤ 1000 ∧ 0 ≤ nw 2 ∧ nw 2 < nw 1) (hn : 0 ≤ nw 3 ∧ nw 3 ≤ 60) (hHS : HS G A [a0, a1, a2, a3, a4, a5, a6, a7, xa, hi, ra, ci, pa, ga] nx ed rw9 ps H) (hke : kp = ed) (he : 0 ≤ ed ∧ ed ≤ 6) (hnx : 0 ≤ nx ∧ nx < 6) (hpt : ∀ x, 0 ≤ x → x < 1000 → pt x = 0 ∨ pt x = 1) (hi9 : 0 ≤ i ∧ i + 3 ≤ (L9 : Int)) (hu : xI xs (i + 1) = u) (hv : xI xs (i + 2) = v) (hC : C9 + 30 ≤ 600000 ∧ D9 + 120 ≤ 7302250) (hl : lv_has ls 4 [(0, .ref b9), (1, .ref xa), (2, .ref a0), (3, .int (iZ i))]) (K : ∀ (H : Heap) (locs : List Loc) (ls : Array Slot), LInv G cy A a0 a1 a2 a3 a4 a5 a6 a7 xa hi ra ci pa ga H → va_S A s.heap H locs → lv_has ls 4 [(0, .ref b9), (1, .ref xa), (2, .ref a0), (3, .int (iZ i))] → W pr lau ev room_1 s mt #[Value.ref b9] below meth cd H locs (C9 + 30) (D9 + 120) Q9 (F0 mt 810 ls []))  : W pr lau ev room_1 s mt #[Value.ref b9] below meth cd H locs C9 D9 Q9 (F0 mt 797 ls []) := by
  have hK := hKK.1
  have hB := hw.2.2.1
  have hB61 := pw_61 hn.2
  have hL8 := hw.L hn.2
  have hub := xI_r hu
  have hvb := xI_r hv
  refine lv_aload_n hx hb dL_law_797 rfl (lv_at hl 1 rfl) ?_
  refine z_calli (va_runV (As := []) (rest := []) ⟨hx, hb, hml, hown, hts⟩ (c_X6_historySize lau G cy xa hi ci st ra nx kp) (cwV 0 hts gL_law_X6_historySize rfl rfl rfl (by decide +kernel) ⟨Nat.le_of_ble_eq_true rfl, Nat.le_of_ble_eq_true rfl⟩) ⟨P1_blind, va_recv hK hP (ci := 5) (q0 := 8) rfl rfl, P1_mk hKK (hP.sub [8, 9] rfl)⟩ rfl rfl hl.1 rfl (lv_room (Nat.le_of_ble_eq_true rfl)) dL_law_798 ⟨(show C9 + 0 ≤ 600000 by omega), (show D9 + 0 ≤ 7302250 by omega)⟩) ?_
  refine lv_aload_n hx hb dL_law_801 rfl (lv_at hl 2 rfl) ?_
  refine z_calli (va_runV (As := []) (rest := [.int (iZ kp)]) ⟨hx, hb, hml, hown, hts⟩ (c_X7_historySize lau G cy a0 a1 a2 a3 a4 a5 a6 a7 ed tc ol nl nw) (cwV 0 hts gL_law_X7_historySize rfl rfl rfl (by decide +kernel) ⟨Nat.le_of_ble_eq_true rfl, Nat.le_of_ble_eq_true rfl⟩) ⟨P1_blind, va_recv hK hP (ci := 6) (q0 := 0) rfl rfl, P1_mk hKK (hP.sub [0, 1] rfl)⟩ rfl rfl hl.1 rfl (lv_room (Nat.le_of_ble_eq_true rfl)) dL_law_802 ⟨(show C9 + 0 ≤ 600000 by omega), (show D9 + 0 ≤ 7302250 by omega)⟩) ?_
  refine z_same (tgt := 810) hx hb dL_law_805 (by decide) (hke) ?_
  refine W.widen (k := C9 + 30) (n := D9 + 120) (by omega) (by omega) ?_
  exact K _ _ _ (LInv.mk hP hD ⟨rfl, rfl, rfl, rfl, hw, hq, hn.2⟩ hHS hke he hnx hpt) hS hl
end LC
