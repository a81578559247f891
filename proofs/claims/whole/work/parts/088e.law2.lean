section LC
variable {pr : Program} {ev : Env} {s : State} {mt : MethodId} {below : List Frame} {meth : Method} {cd : Code} {lau : Launch} {G : va_G} {cy : Nat → ClassId} {ad : Nat → Nat} {A : Nat → Prop} {b9 L9 : Nat} {xs : Nat → Int32} {Q9 : State → Prop}
variable {a0 a1 a2 a3 a4 a5 a6 a7 xa hi ra ci pa ga st sl wo : Nat} {nx kp : Int} {rw9 : Int → Option Nat} {pt1 gp : Int → Int} {b ed tc ol nl : Int} {nw nr ps tm od ne pt : Int → Int} {H : Heap} {locs : List Loc} {C9 D9 : Nat} {i u v : Int} {ls : Array Slot}
set_option maxHeartbeats 4000000 in
set_option maxRecDepth 100000 in
theorem lc_620 (hx : pr.tables.exec = Jvm.exec) (hb : cd.code = code) (hml : cd.maxLocals = 4) (hown : s.vm.findClass RL = some mt.cls) (hts : ∀ w ∈ lw_tbl, w.before #[Value.ref b9] s = true) (hKK : KK G cy s) (hEN : EN ad A s s.heap) (hA : ∀ q : Nat, s.heap.size ≤ q → A q) (hX : va_X b9 L9 xs s s.heap) (hbl : b9 < s.heap.size) (hbA : ¬ A b9) (hL : L9 ≤ 1536) (hP : va_P G vwCl (MW cy a0 a1 a2 a3 a4 a5 a6 a7 ed tc ol nl nw nr ps tm od ne pt ++ CW cy xa hi ra ci pa ga st nx kp rw9 pt1 gp ++ S3 st sl wo (nw 0) (nw 1) (nw 2) b (nw 3)) H) (hD : va_D A (MW cy a0 a1 a2 a3 a4 a5 a6 a7 ed tc ol nl nw nr ps tm od ne pt ++ CW cy xa hi ra ci pa ga st nx kp rw9 pt1 gp ++ S3 st sl wo (nw 0) (nw 1) (nw 2) b (nw 3))) (hS : va_S A s.heap H locs) (hw : RowIs nw b (nw 3)) (hq : 0 ≤ nw 0 ∧ nw 0 ≤ nw 1 ∧ 1 ≤ nw 1 ∧ nw 1 ≤ 1000 ∧ 0 ≤ nw 2 ∧ nw 2 < nw 1) (hn : 0 ≤ nw 3 ∧ nw 3 ≤ 60) (hHS : HS G A [a0, a1, a2, a3, a4, a5, a6, a7, xa, hi, ra, ci, pa, ga] nx ed rw9 ps H) (hke : kp = ed) (he : 0 ≤ ed ∧ ed ≤ 6) (hnx : 0 ≤ nx ∧ nx < 6) (hpt : ∀ x, 0 ≤ x → x < 1000 → pt x = 0 ∨ pt x = 1) (hi9 : 0 ≤ i ∧ i + 3 ≤ (L9 : Int)) (hu : xI xs (i + 1) = u) (hv : xI xs (i + 2) = v) (hC : C9 + 30 ≤ 600000 ∧ D9 + 120 ≤ 7302250) (hl : lv_has ls 4 [(0, .ref b9), (1, .ref xa), (2, .ref a0), (3, .int (iZ i))]) (K : ∀ (H : Heap) (locs : List Loc) (ls : Array Slot), LInv G cy A a0 a1 a2 a3 a4 a5 a6 a7 xa hi ra ci pa ga H → va_S A s.heap H locs → lv_has ls 4 [(0, .ref b9), (1, .ref xa), (2, .ref a0), (3, .int (iZ i))] → W pr lau ev room_1 s mt #[Value.ref b9] below meth cd H locs (C9 + 30) (D9 + 120) Q9 (F0 mt 810 ls []))  : W pr lau ev room_1 s mt #[Value.ref b9] below meth cd H locs C9 D9 Q9 (F0 mt 620 ls []) := by
  have hK := hKK.1
  have hB := hw.2.2.1
  have hB61 := pw_61 hn.2
  have hL8 := hw.L hn.2
  have hub := xI_r hu
  have hvb := xI_r hv
  refine lv_aload_n hx hb dL_law_620 rfl (lv_at hl 1 rfl) ?_
  refine z_calli (va_runV (As := []) (rest := []) ⟨hx, hb, hml, hown, hts⟩ (c_X6_unbalancedLength lau G cy xa hi ci st sl wo (nw 0) (nw 1) (nw 2) b (nw 3) (by first | omega | assumption) (by first | omega | assumption)) (cwV 0 hts gL_law_X6_unbalancedLength rfl rfl rfl (by decide +kernel) ⟨Nat.le_of_ble_eq_true rfl, Nat.le_of_ble_eq_true rfl⟩) ⟨P1_blind, va_recv hK hP (ci := 5) (q0 := 8) rfl rfl, P1_mk hKK (hP.sub [8, 14, 15, 16] rfl)⟩ rfl rfl hl.1 rfl (lv_room (Nat.le_of_ble_eq_true rfl)) dL_law_621 ⟨(show C9 + 0 ≤ 600000 by omega), (show D9 + 0 ≤ 7302250 by omega)⟩) ?_
  refine lv_aload_n hx hb dL_law_624 rfl (lv_at hl 2 rfl) ?_
  refine z_calli (va_runV (As := []) (rest := [.int (iZ (if fnd (fun f => 1 ≤ f ∧ 2 ≤ mxC (fun a => ons (fct b (nw 3) a f)) ((nw 3) - f + 1) - mnC (fun a => ons (fct b (nw 3) a f)) f ((nw 3) - f + 1)) ((nw 3) + 1) = -1 then -3 else fnd (fun f => 1 ≤ f ∧ 2 ≤ mxC (fun a => ons (fct b (nw 3) a f)) ((nw 3) - f + 1) - mnC (fun a => ons (fct b (nw 3) a f)) f ((nw 3) - f + 1)) ((nw 3) + 1)))]) ⟨hx, hb, hml, hown, hts⟩ (c_X7_unbalancedLength lau G cy a0 a1 a2 a3 a4 a5 a6 a7 ed tc ol nl nw (by first | omega | assumption) (by first | omega | assumption)) (cwV 0 hts gL_law_X7_unbalancedLength rfl rfl rfl (by decide +kernel) ⟨Nat.le_of_ble_eq_true rfl, Nat.le_of_ble_eq_true rfl⟩) ⟨P1_blind, va_recv hK hP (ci := 6) (q0 := 0) rfl rfl, P1_mk hKK (hP.sub [0, 1] rfl)⟩ rfl rfl hl.1 rfl (lv_room (Nat.le_of_ble_eq_true rfl)) dL_law_625 ⟨(show C9 + 0 ≤ 600000 by omega), (show D9 + 0 ≤ 7302250 by omega)⟩) ?_
  refine z_same (tgt := 810) hx hb dL_law_628 (by decide) (by rw [j_unb hw hn.2]) ?_
  refine W.widen (k := C9 + 30) (n := D9 + 120) (by omega) (by omega) ?_
  exact K _ _ _ (LInv.mk hP hD ⟨rfl, rfl, rfl, rfl, hw, hq, hn.2⟩ hHS hke he hnx hpt) hS hl
set_option maxHeartbeats 4000000 in
set_option maxRecDepth 100000 in
theorem lc_633 (hx : pr.tables.exec = Jvm.exec) (hb : cd.code = code) (hml : cd.maxLocals = 4) (hown : s.vm.findClass RL = some mt.cls) (hts : ∀ w ∈ lw_tbl, w.before #[Value.ref b9] s = true) (hKK : KK G cy s) (hEN : EN ad A s s.heap) (hA : ∀ q : Nat, s.heap.size ≤ q → A q) (hX : va_X b9 L9 xs s s.heap) (hbl : b9 < s.heap.size) (hbA : ¬ A b9) (hL : L9 ≤ 1536) (hP : va_P G vwCl (MW cy a0 a1 a2 a3 a4 a5 a6 a7 ed tc ol nl nw nr ps tm od ne pt ++ CW cy xa hi ra ci pa ga st nx kp rw9 pt1 gp ++ S3 st sl wo (nw 0) (nw 1) (nw 2) b (nw 3)) H) (hD : va_D A (MW cy a0 a1 a2 a3 a4 a5 a6 a7 ed tc ol nl nw nr ps tm od ne pt ++ CW cy xa hi ra ci pa ga st nx kp rw9 pt1 gp ++ S3 st sl wo (nw 0) (nw 1) (nw 2) b (nw 3))) (hS : va_S A s.heap H locs) (hw : RowIs nw b (nw 3)) (hq : 0 ≤ nw 0 ∧ nw 0 ≤ nw 1 ∧ 1 ≤ nw 1 ∧ nw 1 ≤ 1000 ∧ 0 ≤ nw 2 ∧ nw 2 < nw 1) (hn : 0 ≤ nw 3 ∧ nw 3 ≤ 60) (hHS : HS G A [a0, a1, a2, a3, a4, a5, a6, a7, xa, hi, ra, ci, pa, ga] nx ed rw9 ps H) (hke : kp = ed) (he : 0 ≤ ed ∧ ed ≤ 6) (hnx : 0 ≤ nx ∧ nx < 6) (hpt : ∀ x, 0 ≤ x → x < 1000 → pt x = 0 ∨ pt x = 1) (hi9 : 0 ≤ i ∧ i + 3 ≤ (L9 : Int)) (hu : xI xs (i + 1) = u) (hv : xI xs (i + 2) = v) (hC : C9 + 30 ≤ 600000 ∧ D9 + 120 ≤ 7302250) (hl : lv_has ls 4 [(0, .ref b9), (1, .ref xa), (2, .ref a0), (3, .int (iZ i))]) (K : ∀ (H : Heap) (locs : List Loc) (ls : Array Slot), LInv G cy A a0 a1 a2 a3 a4 a5 a6 a7 xa hi ra ci pa ga H → va_S A s.heap H locs → lv_has ls 4 [(0, .ref b9), (1, .ref xa), (2, .ref a0), (3, .int (iZ i))] → W pr lau ev room_1 s mt #[Value.ref b9] below meth cd H locs (C9 + 30) (D9 + 120) Q9 (F0 mt 810 ls []))  : W pr lau ev room_1 s mt #[Value.ref b9] below meth cd H locs C9 D9 Q9 (F0 mt 633 ls []) := by
  have hK := hKK.1
  have hB := hw.2.2.1
  have hB61 := pw_61 hn.2
  have hL8 := hw.L hn.2
  have hub := xI_r hu
  have hvb := xI_r hv
  refine lv_aload_n hx hb dL_law_633 rfl (lv_at hl 1 rfl) ?_
  have hPc := hP.sub (ws' := []) [] rfl
  have hDc := (hD.sub (ws' := []) [] (by decide) rfl).weaken (B := fun _ => True) (fun _ _ _ _ => trivial)
  have hFc := va_free (wc := []) hD hS hA [] rfl
  have hIc : va_P G vwCl [(xa, .inr (5, [.ref hi, .ref ci, .ref st])), (st, .inr (3, [.ref sl, .ref wo])), (sl, .inr (2, [.int (iZ (nw 0)), .int (iZ (nw 1)), .int (iZ (nw 2))])), (wo, .inr (4, [.long (lZ b), .int (iZ (nw 3))]))] H := ((((hP.sub (ws' := [(xa, .inr (5, [.ref hi, .ref ci, .ref st]))]) [8] rfl).app (hP.sub (ws' := [(st, .inr (3, [.ref sl, .ref wo]))]) [14] rfl)).app (hP.sub (ws' := [(sl, .inr (2, [.int (iZ (nw 0)), .int (iZ (nw 1)), .int (iZ (nw 2))]))]) [15] rfl)).app (hP.sub (ws' := [(wo, .inr (4, [.long (lZ b), .int (iZ (nw 3))]))]) [16] rfl))
  have hIAc : NA (va_A [] H.size) [(xa, .inr (5, [.ref hi, .ref ci, .ref st])), (st, .inr (3, [.ref sl, .ref wo])), (sl, .inr (2, [.int (iZ (nw 0)), .int (iZ (nw 1)), .int (iZ (nw 2))])), (wo, .inr (4, [.long (lZ b), .int (iZ (nw 3))]))] := NA.cons (z_nA hP hD [] rfl 8 rfl (by decide)) (NA.cons (z_nA hP hD [] rfl 14 rfl (by decide)) (NA.cons (z_nA hP hD [] rfl 15 rfl (by decide)) (NA.cons (z_nA hP hD [] rfl 16 rfl (by decide)) (NA.nil))))
  refine z_callE (A := A) (va_runV (As := []) (rest := []) ⟨hx, hb, hml, hown, hts⟩ (c_X6_palindromeCount lau G cy xa hi ci st sl wo H.size (nw 0) (nw 1) (nw 2) b (nw 3) (by first | omega | assumption) (by first | omega | assumption)) (cwV 0 hts gL_law_X6_palindromeCount rfl rfl rfl (by decide +kernel) ⟨Nat.le_of_ble_eq_true rfl, Nat.le_of_ble_eq_true rfl⟩) ⟨P1_blind, va_recv hK hP (ci := 5) (q0 := 8) rfl rfl, P1_mk hKK (⟨rfl, hPc, hDc, hIc, hIAc⟩)⟩ rfl rfl hl.1 rfl (lv_room (Nat.le_of_ble_eq_true rfl)) dL_law_634 ⟨(show C9 + 1 ≤ 600000 by omega), (show D9 + 3 ≤ 7302250 by omega)⟩) hS.2.2 hFc (fun v H1 locs1 hR hL1 => ?_)
  obtain ⟨rfl, hq634, hP1, hD1, hF1⟩ := hR
  obtain ⟨hP, hD⟩ := va_join (wr := (MW cy a0 a1 a2 a3 a4 a5 a6 a7 ed tc ol nl nw nr ps tm od ne pt ++ CW cy xa hi ra ci pa ga st nx kp rw9 pt1 gp ++ S3 st sl wo (nw 0) (nw 1) (nw 2) b (nw 3))) (w1 := []) hP hD [] [0, 1, 2, 3, 4, 5, 6, 7, 8, 9, 10, 11, 12, 13, 14, 15, 16] rfl rfl (by decide) (by decide) hF1.2 hFc hP1 hD1
  have hS : va_S A s.heap H1 locs1 := Fh.S ((Fh.of hS).tr hF1 (fun q _ h => hFc q h)) hL1
  have hHS := hHS.fx hF1 [] rfl
  clear hPc hDc hFc hP1 hD1 hF1 hL1 hIc hIAc
  generalize H1 = H at hP hS hHS ⊢
  have hP : va_P G vwCl (MW cy a0 a1 a2 a3 a4 a5 a6 a7 ed tc ol nl nw nr ps tm od ne pt ++ CW cy xa hi ra ci pa ga st nx kp rw9 pt1 gp ++ S3 st sl wo (nw 0) (nw 1) (nw 2) b (nw 3)) H := hP
  have hD : va_D A (MW cy a0 a1 a2 a3 a4 a5 a6 a7 ed tc ol nl nw nr ps tm od ne pt ++ CW cy xa hi ra ci pa ga st nx kp rw9 pt1 gp ++ S3 st sl wo (nw 0) (nw 1) (nw 2) b (nw 3)) := hD
  have hP := hP.sub (ws' := (MW cy a0 a1 a2 a3 a4 a5 a6 a7 ed tc ol nl nw nr ps tm od ne pt ++ CW cy xa hi ra ci pa ga st nx kp rw9 pt1 gp ++ S3 st sl wo (nw 0) (nw 1) (nw 2) b (nw 3))) [0, 1, 2, 3, 4, 5, 6, 7, 8, 9, 10, 11, 12, 13, 14, 15, 16] rfl
  have hD := hD.sub (ws' := (MW cy a0 a1 a2 a3 a4 a5 a6 a7 ed tc ol nl nw nr ps tm od ne pt ++ CW cy xa hi ra ci pa ga st nx kp rw9 pt1 gp ++ S3 st sl wo (nw 0) (nw 1) (nw 2) b (nw 3))) [0, 1, 2, 3, 4, 5, 6, 7, 8, 9, 10, 11, 12, 13, 14, 15, 16] (by decide) rfl
  refine W.eq (g2 := F0 mt 637 ls [.int (iZ (1 + sm (fun f => cnt (fun k => palC b (nw 3) k (f + 1) ∧ newP b (nw 3) k (f + 1)) ((nw 3) - f)) (nw 3)))]) rfl ?_
  refine lv_aload_n hx hb dL_law_637 rfl (lv_at hl 2 rfl) ?_
  refine z_calli (va_runV (As := []) (rest := [.int (iZ (1 + sm (fun f => cnt (fun k => palC b (nw 3) k (f + 1) ∧ newP b (nw 3) k (f + 1)) ((nw 3) - f)) (nw 3)))]) ⟨hx, hb, hml, hown, hts⟩ (c_X7_palindromeCount lau G cy a0 a1 a2 a3 a4 a5 a6 a7 ed tc ol nl nw (by first | omega | assumption) (by first | omega | assumption)) (cwV 0 hts gL_law_X7_palindromeCount rfl rfl rfl (by decide +kernel) ⟨Nat.le_of_ble_eq_true rfl, Nat.le_of_ble_eq_true rfl⟩) ⟨P1_blind, va_recv hK hP (ci := 6) (q0 := 0) rfl rfl, P1_mk hKK (hP.sub [0, 1] rfl)⟩ rfl rfl hl.1 rfl (lv_room (Nat.le_of_ble_eq_true rfl)) dL_law_638 ⟨(show (C9 + 1) + 0 ≤ 600000 by omega), (show (D9 + 3) + 0 ≤ 7302250 by omega)⟩) ?_
  refine z_same (tgt := 810) hx hb dL_law_641 (by decide) (by rw [j_pcount hw hn.2]) ?_
  refine W.widen (k := C9 + 30) (n := D9 + 120) (by omega) (by omega) ?_
  exact K _ _ _ (LInv.mk hP hD ⟨rfl, rfl, rfl, rfl, hw, hq, hn.2⟩ hHS hke he hnx hpt) hS hl
set_option maxHeartbeats 4000000 in
set_option maxRecDepth 100000 in
theorem lc_646 (hx : pr.tables.exec = Jvm.exec) (hb : cd.code = code) (hml : cd.maxLocals = 4) (hown : s.vm.findClass RL = some mt.cls) (hts : ∀ w ∈ lw_tbl, w.before #[Value.ref b9] s = true) (hKK : KK G cy s) (hEN : EN ad A s s.heap) (hA : ∀ q : Nat, s.heap.size ≤ q → A q) (hX : va_X b9 L9 xs s s.heap) (hbl : b9 < s.heap.size) (hbA : ¬ A b9) (hL : L9 ≤ 1536) (hP : va_P G vwCl (MW cy a0 a1 a2 a3 a4 a5 a6 a7 ed tc ol nl nw nr ps tm od ne pt ++ CW cy xa hi ra ci pa ga st nx kp rw9 pt1 gp ++ S3 st sl wo (nw 0) (nw 1) (nw 2) b (nw 3)) H) (hD : va_D A (MW cy a0 a1 a2 a3 a4 a5 a6 a7 ed tc ol nl nw nr ps tm od ne pt ++ CW cy xa hi ra ci pa ga st nx kp rw9 pt1 gp ++ S3 st sl wo (nw 0) (nw 1) (nw 2) b (nw 3))) (hS : va_S A s.heap H locs) (hw : RowIs nw b (nw 3)) (hq : 0 ≤ nw 0 ∧ nw 0 ≤ nw 1 ∧ 1 ≤ nw 1 ∧ nw 1 ≤ 1000 ∧ 0 ≤ nw 2 ∧ nw 2 < nw 1) (hn : 0 ≤ nw 3 ∧ nw 3 ≤ 60) (hHS : HS G A [a0, a1, a2, a3, a4, a5, a6, a7, xa, hi, ra, ci, pa, ga] nx ed rw9 ps H) (hke : kp = ed) (he : 0 ≤ ed ∧ ed ≤ 6) (hnx : 0 ≤ nx ∧ nx < 6) (hpt : ∀ x, 0 ≤ x → x < 1000 → pt x = 0 ∨ pt x = 1) (hi9 : 0 ≤ i ∧ i + 3 ≤ (L9 : Int)) (hu : xI xs (i + 1) = u) (hv : xI xs (i + 2) = v) (hC : C9 + 30 ≤ 600000 ∧ D9 + 120 ≤ 7302250) (hl : lv_has ls 4 [(0, .ref b9), (1, .ref xa), (2, .ref a0), (3, .int (iZ i))]) (K : ∀ (H : Heap) (locs : List Loc) (ls : Array Slot), LInv G cy A a0 a1 a2 a3 a4 a5 a6 a7 xa hi ra ci pa ga H → va_S A s.heap H locs → lv_has ls 4 [(0, .ref b9), (1, .ref xa), (2, .ref a0), (3, .int (iZ i))] → W pr lau ev room_1 s mt #[Value.ref b9] below meth cd H locs (C9 + 30) (D9 + 120) Q9 (F0 mt 810 ls []))  : W pr lau ev room_1 s mt #[Value.ref b9] below meth cd H locs C9 D9 Q9 (F0 mt 646 ls []) := by
  have hK := hKK.1
  have hB := hw.2.2.1
  have hB61 := pw_61 hn.2
  have hL8 := hw.L hn.2
  have hub := xI_r hu
  have hvb := xI_r hv
  refine lv_aload_n hx hb dL_law_646 rfl (lv_at hl 1 rfl) ?_
  have hPc := hP.sub (ws' := []) [] rfl
  have hDc := (hD.sub (ws' := []) [] (by decide) rfl).weaken (B := fun _ => True) (fun _ _ _ _ => trivial)
  have hFc := va_free (wc := []) hD hS hA [] rfl
  have hIc : va_P G vwCl [(xa, .inr (5, [.ref hi, .ref ci, .ref st])), (st, .inr (3, [.ref sl, .ref wo])), (sl, .inr (2, [.int (iZ (nw 0)), .int (iZ (nw 1)), .int (iZ (nw 2))])), (wo, .inr (4, [.long (lZ b), .int (iZ (nw 3))]))] H := ((((hP.sub (ws' := [(xa, .inr (5, [.ref hi, .ref ci, .ref st]))]) [8] rfl).app (hP.sub (ws' := [(st, .inr (3, [.ref sl, .ref wo]))]) [14] rfl)).app (hP.sub (ws' := [(sl, .inr (2, [.int (iZ (nw 0)), .int (iZ (nw 1)), .int (iZ (nw 2))]))]) [15] rfl)).app (hP.sub (ws' := [(wo, .inr (4, [.long (lZ b), .int (iZ (nw 3))]))]) [16] rfl))
  have hIAc : NA (va_A [] H.size) [(xa, .inr (5, [.ref hi, .ref ci, .ref st])), (st, .inr (3, [.ref sl, .ref wo])), (sl, .inr (2, [.int (iZ (nw 0)), .int (iZ (nw 1)), .int (iZ (nw 2))])), (wo, .inr (4, [.long (lZ b), .int (iZ (nw 3))]))] := NA.cons (z_nA hP hD [] rfl 8 rfl (by decide)) (NA.cons (z_nA hP hD [] rfl 14 rfl (by decide)) (NA.cons (z_nA hP hD [] rfl 15 rfl (by decide)) (NA.cons (z_nA hP hD [] rfl 16 rfl (by decide)) (NA.nil))))
  refine z_callE (A := A) (va_runV (As := []) (rest := []) ⟨hx, hb, hml, hown, hts⟩ (c_X6_longestPalindromicPrefix lau G cy xa hi ci st sl wo H.size (nw 0) (nw 1) (nw 2) b (nw 3) (by first | omega | assumption) (by first | omega | assumption)) (cwV 0 hts gL_law_X6_longestPalindromicPrefix rfl rfl rfl (by decide +kernel) ⟨Nat.le_of_ble_eq_true rfl, Nat.le_of_ble_eq_true rfl⟩) ⟨P1_blind, va_recv hK hP (ci := 5) (q0 := 8) rfl rfl, P1_mk hKK (⟨rfl, hPc, hDc, hIc, hIAc⟩)⟩ rfl rfl hl.1 rfl (lv_room (Nat.le_of_ble_eq_true rfl)) dL_law_647 ⟨(show C9 + 1 ≤ 600000 by omega), (show D9 + 3 ≤ 7302250 by omega)⟩) hS.2.2 hFc (fun v H1 locs1 hR hL1 => ?_)
  obtain ⟨rfl, hq647, hP1, hD1, hF1⟩ := hR
  obtain ⟨hP, hD⟩ := va_join (wr := (MW cy a0 a1 a2 a3 a4 a5 a6 a7 ed tc ol nl nw nr ps tm od ne pt ++ CW cy xa hi ra ci pa ga st nx kp rw9 pt1 gp ++ S3 st sl wo (nw 0) (nw 1) (nw 2) b (nw 3))) (w1 := []) hP hD [] [0, 1, 2, 3, 4, 5, 6, 7, 8, 9, 10, 11, 12, 13, 14, 15, 16] rfl rfl (by decide) (by decide) hF1.2 hFc hP1 hD1
  have hS : va_S A s.heap H1 locs1 := Fh.S ((Fh.of hS).tr hF1 (fun q _ h => hFc q h)) hL1
  have hHS := hHS.fx hF1 [] rfl
  clear hPc hDc hFc hP1 hD1 hF1 hL1 hIc hIAc
  generalize H1 = H at hP hS hHS ⊢
  have hP : va_P G vwCl (MW cy a0 a1 a2 a3 a4 a5 a6 a7 ed tc ol nl nw nr ps tm od ne pt ++ CW cy xa hi ra ci pa ga st nx kp rw9 pt1 gp ++ S3 st sl wo (nw 0) (nw 1) (nw 2) b (nw 3)) H := hP
  have hD : va_D A (MW cy a0 a1 a2 a3 a4 a5 a6 a7 ed tc ol nl nw nr ps tm od ne pt ++ CW cy xa hi ra ci pa ga st nx kp rw9 pt1 gp ++ S3 st sl wo (nw 0) (nw 1) (nw 2) b (nw 3)) := hD
  have hP := hP.sub (ws' := (MW cy a0 a1 a2 a3 a4 a5 a6 a7 ed tc ol nl nw nr ps tm od ne pt ++ CW cy xa hi ra ci pa ga st nx kp rw9 pt1 gp ++ S3 st sl wo (nw 0) (nw 1) (nw 2) b (nw 3))) [0, 1, 2, 3, 4, 5, 6, 7, 8, 9, 10, 11, 12, 13, 14, 15, 16] rfl
  have hD := hD.sub (ws' := (MW cy a0 a1 a2 a3 a4 a5 a6 a7 ed tc ol nl nw nr ps tm od ne pt ++ CW cy xa hi ra ci pa ga st nx kp rw9 pt1 gp ++ S3 st sl wo (nw 0) (nw 1) (nw 2) b (nw 3))) [0, 1, 2, 3, 4, 5, 6, 7, 8, 9, 10, 11, 12, 13, 14, 15, 16] (by decide) rfl
  refine W.eq (g2 := F0 mt 650 ls [.int (iZ ((nw 3) - fnd (fun k => palC b (nw 3) 0 ((nw 3) - k)) ((nw 3) + 1)))]) rfl ?_
  refine lv_aload_n hx hb dL_law_650 rfl (lv_at hl 2 rfl) ?_
  refine z_calli (va_runV (As := []) (rest := [.int (iZ ((nw 3) - fnd (fun k => palC b (nw 3) 0 ((nw 3) - k)) ((nw 3) + 1)))]) ⟨hx, hb, hml, hown, hts⟩ (c_X7_longestPalindromicPrefix lau G cy a0 a1 a2 a3 a4 a5 a6 a7 ed tc ol nl nw (by first | omega | assumption) (by first | omega | assumption)) (cwV 0 hts gL_law_X7_longestPalindromicPrefix rfl rfl rfl (by decide +kernel) ⟨Nat.le_of_ble_eq_true rfl, Nat.le_of_ble_eq_true rfl⟩) ⟨P1_blind, va_recv hK hP (ci := 6) (q0 := 0) rfl rfl, P1_mk hKK (hP.sub [0, 1] rfl)⟩ rfl rfl hl.1 rfl (lv_room (Nat.le_of_ble_eq_true rfl)) dL_law_651 ⟨(show (C9 + 1) + 0 ≤ 600000 by omega), (show (D9 + 3) + 0 ≤ 7302250 by omega)⟩) ?_
  refine z_same (tgt := 810) hx hb dL_law_654 (by decide) (by rw [j_lpal hw hn.2]) ?_
  refine W.widen (k := C9 + 30) (n := D9 + 120) (by omega) (by omega) ?_
  exact K _ _ _ (LInv.mk hP hD ⟨rfl, rfl, rfl, rfl, hw, hq, hn.2⟩ hHS hke he hnx hpt) hS hl
set_option maxHeartbeats 4000000 in
set_option maxRecDepth 100000 in
theorem lc_659 (hx : pr.tables.exec = Jvm.exec) (hb : cd.code = code) (hml : cd.maxLocals = 4) (hown : s.vm.findClass RL = some mt.cls) (hts : ∀ w ∈ lw_tbl, w.before #[Value.ref b9] s = true) (hKK : KK G cy s) (hEN : EN ad A s s.heap) (hA : ∀ q : Nat, s.heap.size ≤ q → A q) (hX : va_X b9 L9 xs s s.heap) (hbl : b9 < s.heap.size) (hbA : ¬ A b9) (hL : L9 ≤ 1536) (hP : va_P G vwCl (MW cy a0 a1 a2 a3 a4 a5 a6 a7 ed tc ol nl nw nr ps tm od ne pt ++ CW cy xa hi ra ci pa ga st nx kp rw9 pt1 gp ++ S3 st sl wo (nw 0) (nw 1) (nw 2) b (nw 3)) H) (hD : va_D A (MW cy a0 a1 a2 a3 a4 a5 a6 a7 ed tc ol nl nw nr ps tm od ne pt ++ CW cy xa hi ra ci pa ga st nx kp rw9 pt1 gp ++ S3 st sl wo (nw 0) (nw 1) (nw 2) b (nw 3))) (hS : va_S A s.heap H locs) (hw : RowIs nw b (nw 3)) (hq : 0 ≤ nw 0 ∧ nw 0 ≤ nw 1 ∧ 1 ≤ nw 1 ∧ nw 1 ≤ 1000 ∧ 0 ≤ nw 2 ∧ nw 2 < nw 1) (hn : 0 ≤ nw 3 ∧ nw 3 ≤ 60) (hHS : HS G A [a0, a1, a2, a3, a4, a5, a6, a7, xa, hi, ra, ci, pa, ga] nx ed rw9 ps H) (hke : kp = ed) (he : 0 ≤ ed ∧ ed ≤ 6) (hnx : 0 ≤ nx ∧ nx < 6) (hpt : ∀ x, 0 ≤ x → x < 1000 → pt x = 0 ∨ pt x = 1) (hi9 : 0 ≤ i ∧ i + 3 ≤ (L9 : Int)) (hu : xI xs (i + 1) = u) (hv : xI xs (i + 2) = v) (hC : C9 + 30 ≤ 600000 ∧ D9 + 120 ≤ 7302250) (hl : lv_has ls 4 [(0, .ref b9), (1, .ref xa), (2, .ref a0), (3, .int (iZ i))]) (K : ∀ (H : Heap) (locs : List Loc) (ls : Array Slot), LInv G cy A a0 a1 a2 a3 a4 a5 a6 a7 xa hi ra ci pa ga H → va_S A s.heap H locs → lv_has ls 4 [(0, .ref b9), (1, .ref xa), (2, .ref a0), (3, .int (iZ i))] → W pr lau ev room_1 s mt #[Value.ref b9] below meth cd H locs (C9 + 30) (D9 + 120) Q9 (F0 mt 810 ls []))  : W pr lau ev room_1 s mt #[Value.ref b9] below meth cd H locs C9 D9 Q9 (F0 mt 659 ls []) := by
  have hK := hKK.1
  have hB := hw.2.2.1
  have hB61 := pw_61 hn.2
  have hL8 := hw.L hn.2
  have hub := xI_r hu
  have hvb := xI_r hv
  refine lv_aload_n hx hb dL_law_659 rfl (lv_at hl 1 rfl) ?_
  refine z_calli (va_runV (As := []) (rest := []) ⟨hx, hb, hml, hown, hts⟩ (c_X6_leastPeriod lau G cy xa hi ci st sl wo (nw 0) (nw 1) (nw 2) b (nw 3) (by first | omega | assumption) (by first | omega | assumption)) (cwV 0 hts gL_law_X6_leastPeriod rfl rfl rfl (by decide +kernel) ⟨Nat.le_of_ble_eq_true rfl, Nat.le_of_ble_eq_true rfl⟩) ⟨P1_blind, va_recv hK hP (ci := 5) (q0 := 8) rfl rfl, P1_mk hKK (hP.sub [8, 14, 15, 16] rfl)⟩ rfl rfl hl.1 rfl (lv_room (Nat.le_of_ble_eq_true rfl)) dL_law_660 ⟨(show C9 + 0 ≤ 600000 by omega), (show D9 + 0 ≤ 7302250 by omega)⟩) ?_
  refine lv_aload_n hx hb dL_law_663 rfl (lv_at hl 2 rfl) ?_
  refine z_calli (va_runV (As := []) (rest := [.int (iZ (if fnd (fun t => 1 ≤ t ∧ ((nw 3) < t ∨ fct b (nw 3) 0 ((nw 3) - t) = fct b (nw 3) t ((nw 3) - t))) ((nw 3) + 1) = -1 then -3 else fnd (fun t => 1 ≤ t ∧ ((nw 3) < t ∨ fct b (nw 3) 0 ((nw 3) - t) = fct b (nw 3) t ((nw 3) - t))) ((nw 3) + 1)))]) ⟨hx, hb, hml, hown, hts⟩ (c_X7_leastPeriod lau G cy a0 a1 a2 a3 a4 a5 a6 a7 ed tc ol nl nw (by first | omega | assumption) (by first | omega | assumption)) (cwV 0 hts gL_law_X7_leastPeriod rfl rfl rfl (by decide +kernel) ⟨Nat.le_of_ble_eq_true rfl, Nat.le_of_ble_eq_true rfl⟩) ⟨P1_blind, va_recv hK hP (ci := 6) (q0 := 0) rfl rfl, P1_mk hKK (hP.sub [0, 1] rfl)⟩ rfl rfl hl.1 rfl (lv_room (Nat.le_of_ble_eq_true rfl)) dL_law_664 ⟨(show C9 + 0 ≤ 600000 by omega), (show D9 + 0 ≤ 7302250 by omega)⟩) ?_
  refine z_same (tgt := 810) hx hb dL_law_667 (by decide) (by rw [j_least hw hn.2]) ?_
  refine W.widen (k := C9 + 30) (n := D9 + 120) (by omega) (by omega) ?_
  exact K _ _ _ (LInv.mk hP hD ⟨rfl, rfl, rfl, rfl, hw, hq, hn.2⟩ hHS hke he hnx hpt) hS hl
set_option maxHeartbeats 4000000 in
set_option maxRecDepth 100000 in
theorem lc_672 (hx : pr.tables.exec = Jvm.exec) (hb : cd.code = code) (hml : cd.maxLocals = 4) (hown : s.vm.findClass RL = some mt.cls) (hts : ∀ w ∈ lw_tbl, w.before #[Value.ref b9] s = true) (hKK : KK G cy s) (hEN : EN ad A s s.heap) (hA : ∀ q : Nat, s.heap.size ≤ q → A q) (hX : va_X b9 L9 xs s s.heap) (hbl : b9 < s.heap.size) (hbA : ¬ A b9) (hL : L9 ≤ 1536) (hP : va_P G vwCl (MW cy a0 a1 a2 a3 a4 a5 a6 a7 ed tc ol nl nw nr ps tm od ne pt ++ CW cy xa hi ra ci pa ga st nx kp rw9 pt1 gp ++ S3 st sl wo (nw 0) (nw 1) (nw 2) b (nw 3)) H) (hD : va_D A (MW cy a0 a1 a2 a3 a4 a5 a6 a7 ed tc ol nl nw nr ps tm od ne pt ++ CW cy xa hi ra ci pa ga st nx kp rw9 pt1 gp ++ S3 st sl wo (nw 0) (nw 1) (nw 2) b (nw 3))) (hS : va_S A s.heap H locs) (hw : RowIs nw b (nw 3)) (hq : 0 ≤ nw 0 ∧ nw 0 ≤ nw 1 ∧ 1 ≤ nw 1 ∧ nw 1 ≤ 1000 ∧ 0 ≤ nw 2 ∧ nw 2 < nw 1) (hn : 0 ≤ nw 3 ∧ nw 3 ≤ 60) (hHS : HS G A [a0, a1, a2, a3, a4, a5, a6, a7, xa, hi, ra, ci, pa, ga] nx ed rw9 ps H) (hke : kp = ed) (he : 0 ≤ ed ∧ ed ≤ 6) (hnx : 0 ≤ nx ∧ nx < 6) (hpt : ∀ x, 0 ≤ x → x < 1000 → pt x = 0 ∨ pt x = 1) (hi9 : 0 ≤ i ∧ i + 3 ≤ (L9 : Int)) (hu : xI xs (i + 1) = u) (hv : xI xs (i + 2) = v) (hC : C9 + 30 ≤ 600000 ∧ D9 + 120 ≤ 7302250) (hl : lv_has ls 4 [(0, .ref b9), (1, .ref xa), (2, .ref a0), (3, .int (iZ i))]) (K : ∀ (H : Heap) (locs : List Loc) (ls : Array Slot), LInv G cy A a0 a1 a2 a3 a4 a5 a6 a7 xa hi ra ci pa ga H → va_S A s.heap H locs → lv_has ls 4 [(0, .ref b9), (1, .ref xa), (2, .ref a0), (3, .int (iZ i))] → W pr lau ev room_1 s mt #[Value.ref b9] below meth cd H locs (C9 + 30) (D9 + 120) Q9 (F0 mt 810 ls []))  : W pr lau ev room_1 s mt #[Value.ref b9] below meth cd H locs C9 D9 Q9 (F0 mt 672 ls []) := by
  have hK := hKK.1
  have hB := hw.2.2.1
  have hB61 := pw_61 hn.2
  have hL8 := hw.L hn.2
  have hub := xI_r hu
  have hvb := xI_r hv
  refine lv_aload_n hx hb dL_law_672 rfl (lv_at hl 1 rfl) ?_
  refine z_calli (va_runV (As := []) (rest := []) ⟨hx, hb, hml, hown, hts⟩ (c_X6_isCentral lau G cy xa hi ci st sl wo (nw 0) (nw 1) (nw 2) b (nw 3) (by first | omega | assumption) (by first | omega | assumption)) (cwV 0 hts gL_law_X6_isCentral rfl rfl rfl (by decide +kernel) ⟨Nat.le_of_ble_eq_true rfl, Nat.le_of_ble_eq_true rfl⟩) ⟨P1_blind, va_recv hK hP (ci := 5) (q0 := 8) rfl rfl, P1_mk hKK (hP.sub [8, 14, 15, 16] rfl)⟩ rfl rfl hl.1 rfl (lv_room (Nat.le_of_ble_eq_true rfl)) dL_law_673 ⟨(show C9 + 0 ≤ 600000 by omega), (show D9 + 0 ≤ 7302250 by omega)⟩) ?_
  refine lv_aload_n hx hb dL_law_676 rfl (lv_at hl 2 rfl) ?_
  refine z_calli (va_runV (As := []) (rest := [.int (iZ (bv (∃ t : Int, t < (nw 3) + 2 ∧ (1 ≤ t ∧ (Int.gcd t ((nw 3) + 2 - t) : Int) = 1 ∧ ((nw 3) < t ∨ fct b (nw 3) 0 ((nw 3) - t) = fct b (nw 3) t ((nw 3) - t)) ∧ ((nw 3) < ((nw 3) + 2 - t) ∨ fct b (nw 3) 0 ((nw 3) - ((nw 3) + 2 - t)) = fct b (nw 3) ((nw 3) + 2 - t) ((nw 3) - ((nw 3) + 2 - t)))))))]) ⟨hx, hb, hml, hown, hts⟩ (c_X7_isCentral lau G cy a0 a1 a2 a3 a4 a5 a6 a7 ed tc ol nl nw (by first | omega | assumption) (by first | omega | assumption)) (cwV 0 hts gL_law_X7_isCentral rfl rfl rfl (by decide +kernel) ⟨Nat.le_of_ble_eq_true rfl, Nat.le_of_ble_eq_true rfl⟩) ⟨P1_blind, va_recv hK hP (ci := 6) (q0 := 0) rfl rfl, P1_mk hKK (hP.sub [0, 1] rfl)⟩ rfl rfl hl.1 rfl (lv_room (Nat.le_of_ble_eq_true rfl)) dL_law_677 ⟨(show C9 + 0 ≤ 600000 by omega), (show D9 + 0 ≤ 7302250 by omega)⟩) ?_
  refine z_same (tgt := 810) hx hb dL_law_680 (by decide) ((j_central hw hn.2).symm) ?_
  refine W.widen (k := C9 + 30) (n := D9 + 120) (by omega) (by omega) ?_
  exact K _ _ _ (LInv.mk hP hD ⟨rfl, rfl, rfl, rfl, hw, hq, hn.2⟩ hHS hke he hnx hpt) hS hl
set_option maxHeartbeats 4000000 in
set_option maxRecDepth 100000 in
theorem lc_685_no (hx : pr.tables.exec = Jvm.exec) (hb : cd.code = code) (hml : cd.maxLocals = 4) (hown : s.vm.findClass RL = some mt.cls) (hts : ∀ w ∈ lw_tbl, w.before #[Value.ref b9] s = true) (hKK : KK G cy s) (hEN : EN ad A s s.heap) (hA : ∀ q : Nat, s.heap.size ≤ q → A q) (hX : va_X b9 L9 xs s s.heap) (hbl : b9 < s.heap.size) (hbA : ¬ A b9) (hL : L9 ≤ 1536) (hP : va_P G vwCl (MW cy a0 a1 a2 a3 a4 a5 a6 a7 ed tc ol nl nw nr ps tm od ne pt ++ CW cy xa hi ra ci pa ga st nx kp rw9 pt1 gp ++ S3 st sl wo (nw 0) (nw 1) (nw 2) b (nw 3)) H) (hD : va_D A (MW cy a0 a1 a2 a3 a4 a5 a6 a7 ed tc ol nl nw nr ps tm od ne pt ++ CW cy xa hi ra ci pa ga st nx kp rw9 pt1 gp ++ S3 st sl wo (nw 0) (nw 1) (nw 2) b (nw 3))) (hS : va_S A s.heap H locs) (hw : RowIs nw b (nw 3)) (hq : 0 ≤ nw 0 ∧ nw 0 ≤ nw 1 ∧ 1 ≤ nw 1 ∧ nw 1 ≤ 1000 ∧ 0 ≤ nw 2 ∧ nw 2 < nw 1) (hn : 0 ≤ nw 3 ∧ nw 3 ≤ 60) (hHS : HS G A [a0, a1, a2, a3, a4, a5, a6, a7, xa, hi, ra, ci, pa, ga] nx ed rw9 ps H) (hke : kp = ed) (he : 0 ≤ ed ∧ ed ≤ 6) (hnx : 0 ≤ nx ∧ nx < 6) (hpt : ∀ x, 0 ≤ x → x < 1000 → pt x = 0 ∨ pt x = 1) (hi9 : 0 ≤ i ∧ i + 3 ≤ (L9 : Int)) (hu : xI xs (i + 1) = u) (hv : xI xs (i + 2) = v) (hC : C9 + 30 ≤ 600000 ∧ D9 + 120 ≤ 7302250) (hl : lv_has ls 4 [(0, .ref b9), (1, .ref xa), (2, .ref a0), (3, .int (iZ i))]) (K : ∀ (H : Heap) (locs : List Loc) (ls : Array Slot), LInv G cy A a0 a1 a2 a3 a4 a5 a6 a7 xa hi ra ci pa ga H → va_S A s.heap H locs → lv_has ls 4 [(0, .ref b9), (1, .ref xa), (2, .ref a0), (3, .int (iZ i))] → W pr lau ev room_1 s mt #[Value.ref b9] below meth cd H locs (C9 + 30) (D9 + 120) Q9 (F0 mt 810 ls [])) (h2 : ¬ (0 ≤ u ∧ u ≤ 2)) : W pr lau ev room_1 s mt #[Value.ref b9] below meth cd H locs C9 D9 Q9 (F0 mt 685 ls []) := by
  have hK := hKK.1
  have hB := hw.2.2.1
  have hB61 := pw_61 hn.2
  have hL8 := hw.L hn.2
  have hub := xI_r hu
  have hvb := xI_r hv
  refine lv_aload_n hx hb dL_law_685 rfl (lv_at hl 1 rfl) ?_
  refine lv_aload_n hx hb dL_law_686 rfl (lv_at hl 0 rfl) ?_
  refine lv_iload_n hx hb dL_law_687 rfl (lv_at hl 3 rfl) ?_
  refine lv_iconst (v := iZ 1) hx hb dL_law_688 rfl ?_
  refine z_iadd hx hb dL_law_689 ?_
  refine z_sld hx hb hX hbl hbA hS (by omega) hu dL_law_690 ?_
  have hPc := hP.sub (ws' := []) [] rfl
  have hDc := (hD.sub (ws' := []) [] (by decide) rfl).weaken (B := fun _ => True) (fun _ _ _ _ => trivial)
  have hFc := va_free (wc := []) hD hS hA [] rfl
  have hIc : va_P G vwCl [(xa, .inr (5, [.ref hi, .ref ci, .ref st])), (st, .inr (3, [.ref sl, .ref wo])), (sl, .inr (2, [.int (iZ (nw 0)), .int (iZ (nw 1)), .int (iZ (nw 2))])), (wo, .inr (4, [.long (lZ b), .int (iZ (nw 3))]))] H := ((((hP.sub (ws' := [(xa, .inr (5, [.ref hi, .ref ci, .ref st]))]) [8] rfl).app (hP.sub (ws' := [(st, .inr (3, [.ref sl, .ref wo]))]) [14] rfl)).app (hP.sub (ws' := [(sl, .inr (2, [.int (iZ (nw 0)), .int (iZ (nw 1)), .int (iZ (nw 2))]))]) [15] rfl)).app (hP.sub (ws' := [(wo, .inr (4, [.long (lZ b), .int (iZ (nw 3))]))]) [16] rfl))
  have hIAc : NA (va_A [] H.size) [(xa, .inr (5, [.ref hi, .ref ci, .ref st])), (st, .inr (3, [.ref sl, .ref wo])), (sl, .inr (2, [.int (iZ (nw 0)), .int (iZ (nw 1)), .int (iZ (nw 2))])), (wo, .inr (4, [.long (lZ b), .int (iZ (nw 3))]))] := NA.cons (z_nA hP hD [] rfl 8 rfl (by decide)) (NA.cons (z_nA hP hD [] rfl 14 rfl (by decide)) (NA.cons (z_nA hP hD [] rfl 15 rfl (by decide)) (NA.cons (z_nA hP hD [] rfl 16 rfl (by decide)) (NA.nil))))
  refine z_callE (A := A) (va_runV (As := [.int (iZ u)]) (rest := []) ⟨hx, hb, hml, hown, hts⟩ (c_X6_simplestSlope_no lau G cy xa hi ci st sl wo H.size (nw 0) (nw 1) (nw 2) b (nw 3) u (by first | omega | assumption) (by first | omega | assumption)) (cwV 1 hts gL_law_X6_simplestSlope rfl rfl rfl (by decide +kernel) ⟨Nat.le_of_ble_eq_true rfl, Nat.le_of_ble_eq_true rfl⟩) ⟨P1_blind, va_recv hK hP (ci := 5) (q0 := 8) rfl rfl, P1_mk hKK (⟨rfl, hPc, hDc, hIc, hIAc⟩)⟩ rfl rfl hl.1 rfl (lv_room (Nat.le_of_ble_eq_true rfl)) dL_law_691 ⟨(show C9 + 1 ≤ 600000 by omega), (show D9 + 3 ≤ 7302250 by omega)⟩) hS.2.2 hFc (fun v H1 locs1 hR hL1 => ?_)
  obtain ⟨rfl, hq691, hP1, hD1, hF1⟩ := hR
  obtain ⟨hP, hD⟩ := va_join (wr := (MW cy a0 a1 a2 a3 a4 a5 a6 a7 ed tc ol nl nw nr ps tm od ne pt ++ CW cy xa hi ra ci pa ga st nx kp rw9 pt1 gp ++ S3 st sl wo (nw 0) (nw 1) (nw 2) b (nw 3))) (w1 := []) hP hD [] [0, 1, 2, 3, 4, 5, 6, 7, 8, 9, 10, 11, 12, 13, 14, 15, 16] rfl rfl (by decide) (by decide) hF1.2 hFc hP1 hD1
  have hS : va_S A s.heap H1 locs1 := Fh.S ((Fh.of hS).tr hF1 (fun q _ h => hFc q h)) hL1
  have hHS := hHS.fx hF1 [] rfl
  clear hPc hDc hFc hP1 hD1 hF1 hL1 hIc hIAc
  generalize H1 = H at hP hS hHS ⊢
  have hP : va_P G vwCl (MW cy a0 a1 a2 a3 a4 a5 a6 a7 ed tc ol nl nw nr ps tm od ne pt ++ CW cy xa hi ra ci pa ga st nx kp rw9 pt1 gp ++ S3 st sl wo (nw 0) (nw 1) (nw 2) b (nw 3)) H := hP
  have hD : va_D A (MW cy a0 a1 a2 a3 a4 a5 a6 a7 ed tc ol nl nw nr ps tm od ne pt ++ CW cy xa hi ra ci pa ga st nx kp rw9 pt1 gp ++ S3 st sl wo (nw 0) (nw 1) (nw 2) b (nw 3)) := hD
  have hP := hP.sub (ws' := (MW cy a0 a1 a2 a3 a4 a5 a6 a7 ed tc ol nl nw nr ps tm od ne pt ++ CW cy xa hi ra ci pa ga st nx kp rw9 pt1 gp ++ S3 st sl wo (nw 0) (nw 1) (nw 2) b (nw 3))) [0, 1, 2, 3, 4, 5, 6, 7, 8, 9, 10, 11, 12, 13, 14, 15, 16] rfl
  have hD := hD.sub (ws' := (MW cy a0 a1 a2 a3 a4 a5 a6 a7 ed tc ol nl nw nr ps tm od ne pt ++ CW cy xa hi ra ci pa ga st nx kp rw9 pt1 gp ++ S3 st sl wo (nw 0) (nw 1) (nw 2) b (nw 3))) [0, 1, 2, 3, 4, 5, 6, 7, 8, 9, 10, 11, 12, 13, 14, 15, 16] (by decide) rfl
  refine W.eq (g2 := F0 mt 694 ls [.int (iZ (-1))]) rfl ?_
  refine lv_aload_n hx hb dL_law_694 rfl (lv_at hl 2 rfl) ?_
  refine lv_aload_n hx hb dL_law_695 rfl (lv_at hl 0 rfl) ?_
  refine lv_iload_n hx hb dL_law_696 rfl (lv_at hl 3 rfl) ?_
  refine lv_iconst (v := iZ 1) hx hb dL_law_697 rfl ?_
  refine z_iadd hx hb dL_law_698 ?_
  refine z_sld hx hb hX hbl hbA hS (by omega) hu dL_law_699 ?_
  refine z_calli (va_runV (As := [.int (iZ u)]) (rest := [.int (iZ (-1))]) ⟨hx, hb, hml, hown, hts⟩ (c_X7_simplestSlope lau G cy a0 a1 a2 a3 a4 a5 a6 a7 ed tc ol nl nw u (by first | omega | assumption) (by first | omega | assumption) (by first | omega | assumption)) (cwV 1 hts gL_law_X7_simplestSlope rfl rfl rfl (by decide +kernel) ⟨Nat.le_of_ble_eq_true rfl, Nat.le_of_ble_eq_true rfl⟩) ⟨P1_blind, va_recv hK hP (ci := 6) (q0 := 0) rfl rfl, P1_mk hKK (hP.sub [0, 1] rfl)⟩ rfl rfl hl.1 rfl (lv_room (Nat.le_of_ble_eq_true rfl)) dL_law_700 ⟨(show (C9 + 1) + 0 ≤ 600000 by omega), (show (D9 + 3) + 0 ≤ 7302250 by omega)⟩) ?_
  refine z_same (tgt := 810) hx hb dL_law_703 (by decide) ((if_neg h2).symm) ?_
  refine W.widen (k := C9 + 30) (n := D9 + 120) (by omega) (by omega) ?_
  exact K _ _ _ (LInv.mk hP hD ⟨rfl, rfl, rfl, rfl, hw, hq, hn.2⟩ hHS hke he hnx hpt) hS hl
set_option maxHeartbeats 4000000 in
set_option maxRecDepth 100000 in
theorem lc_685_no3 (hx : pr.tables.exec = Jvm.exec) (hb : cd.code = code) (hml : cd.maxLocals = 4) (hown : s.vm.findClass RL = some mt.cls) (hts : ∀ w ∈ lw_tbl, w.before #[Value.ref b9] s = true) (hKK : KK G cy s) (hEN : EN ad A s s.heap) (hA : ∀ q : Nat, s.heap.size ≤ q → A q) (hX : va_X b9 L9 xs s s.heap) (hbl : b9 < s.heap.size) (hbA : ¬ A b9) (hL : L9 ≤ 1536) (hP : va_P G vwCl (MW cy a0 a1 a2 a3 a4 a5 a6 a7 ed tc ol nl nw nr ps tm od ne pt ++ CW cy xa hi ra ci pa ga st nx kp rw9 pt1 gp ++ S3 st sl wo (nw 0) (nw 1) (nw 2) b (nw 3)) H) (hD : va_D A (MW cy a0 a1 a2 a3 a4 a5 a6 a7 ed tc ol nl nw nr ps tm od ne pt ++ CW cy xa hi ra ci pa ga st nx kp rw9 pt1 gp ++ S3 st sl wo (nw 0) (nw 1) (nw 2) b (nw 3))) (hS : va_S A s.heap H locs) (hw : RowIs nw b (nw 3)) (hq : 0 ≤ nw 0 ∧ nw 0 ≤ nw 1 ∧ 1 ≤ nw 1 ∧ nw 1 ≤ 1000 ∧ 0 ≤ nw 2 ∧ nw 2 < nw 1) (hn : 0 ≤ nw 3 ∧ nw 3 ≤ 60) (hHS : HS G A [a0, a1, a2, a3, a4, a5, a6, a7, xa, hi, ra, ci, pa, ga] nx ed rw9 ps H) (hke : kp = ed) (he : 0 ≤ ed ∧ ed ≤ 6) (hnx : 0 ≤ nx ∧ nx < 6) (hpt : ∀ x, 0 ≤ x → x < 1000 → pt x = 0 ∨ pt x = 1) (hi9 : 0 ≤ i ∧ i + 3 ≤ (L9 : Int)) (hu : xI xs (i + 1) = u) (hv : xI xs (i + 2) = v) (hC : C9 + 30 ≤ 600000 ∧ D9 + 120 ≤ 7302250) (hl : lv_has ls 4 [(0, .ref b9), (1, .ref xa), (2, .ref a0), (3, .int (iZ i))]) (K : ∀ (H : Heap) (locs : List Loc) (ls : Array Slot), LInv G cy A a0 a1 a2 a3 a4 a5 a6 a7 xa hi ra ci pa ga H → va_S A s.heap H locs → lv_has ls 4 [(0, .ref b9), (1, .ref xa), (2, .ref a0), (3, .int (iZ i))] → W pr lau ev room_1 s mt #[Value.ref b9] below meth cd H locs (C9 + 30) (D9 + 120) Q9 (F0 mt 810 ls [])) (h2 : 0 ≤ u ∧ u ≤ 2) (h3 : ciB b (nw 3) = -1) : W pr lau ev room_1 s mt #[Value.ref b9] below meth cd H locs C9 D9 Q9 (F0 mt 685 ls []) := by
  have hK := hKK.1
  have hB := hw.2.2.1
  have hB61 := pw_61 hn.2
  have hL8 := hw.L hn.2
  have hub := xI_r hu
  have hvb := xI_r hv
  refine lv_aload_n hx hb dL_law_685 rfl (lv_at hl 1 rfl) ?_
  refine lv_aload_n hx hb dL_law_686 rfl (lv_at hl 0 rfl) ?_
  refine lv_iload_n hx hb dL_law_687 rfl (lv_at hl 3 rfl) ?_
  refine lv_iconst (v := iZ 1) hx hb dL_law_688 rfl ?_
  refine z_iadd hx hb dL_law_689 ?_
  refine z_sld hx hb hX hbl hbA hS (by omega) hu dL_law_690 ?_
  have hPc := hP.sub (ws' := []) [] rfl
  have hDc := (hD.sub (ws' := []) [] (by decide) rfl).weaken (B := fun _ => True) (fun _ _ _ _ => trivial)
  have hFc := va_free (wc := []) hD hS hA [] rfl
  have hIc : va_P G vwCl [(xa, .inr (5, [.ref hi, .ref ci, .ref st])), (st, .inr (3, [.ref sl, .ref wo])), (sl, .inr (2, [.int (iZ (nw 0)), .int (iZ (nw 1)), .int (iZ (nw 2))])), (wo, .inr (4, [.long (lZ b), .int (iZ (nw 3))]))] H := ((((hP.sub (ws' := [(xa, .inr (5, [.ref hi, .ref ci, .ref st]))]) [8] rfl).app (hP.sub (ws' := [(st, .inr (3, [.ref sl, .ref wo]))]) [14] rfl)).app (hP.sub (ws' := [(sl, .inr (2, [.int (iZ (nw 0)), .int (iZ (nw 1)), .int (iZ (nw 2))]))]) [15] rfl)).app (hP.sub (ws' := [(wo, .inr (4, [.long (lZ b), .int (iZ (nw 3))]))]) [16] rfl))
  have hIAc : NA (va_A [] H.size) [(xa, .inr (5, [.ref hi, .ref ci, .ref st])), (st, .inr (3, [.ref sl, .ref wo])), (sl, .inr (2, [.int (iZ (nw 0)), .int (iZ (nw 1)), .int (iZ (nw 2))])), (wo, .inr (4, [.long (lZ b), .int (iZ (nw 3))]))] := NA.cons (z_nA hP hD [] rfl 8 rfl (by decide)) (NA.cons (z_nA hP hD [] rfl 14 rfl (by decide)) (NA.cons (z_nA hP hD [] rfl 15 rfl (by decide)) (NA.cons (z_nA hP hD [] rfl 16 rfl (by decide)) (NA.nil))))
  refine z_callE (A := A) (va_runV (As := [.int (iZ u)]) (rest := []) ⟨hx, hb, hml, hown, hts⟩ (c_X6_simplestSlope_no3 lau G cy xa hi ci st sl wo H.size (nw 0) (nw 1) (nw 2) b (nw 3) u (by first | omega | assumption) (by first | omega | assumption) (by first | omega | assumption) (by first | omega | assumption)) (cwV 1 hts gL_law_X6_simplestSlope rfl rfl rfl (by decide +kernel) ⟨Nat.le_of_ble_eq_true rfl, Nat.le_of_ble_eq_true rfl⟩) ⟨P1_blind, va_recv hK hP (ci := 5) (q0 := 8) rfl rfl, P1_mk hKK (⟨rfl, hPc, hDc, hIc, hIAc⟩)⟩ rfl rfl hl.1 rfl (lv_room (Nat.le_of_ble_eq_true rfl)) dL_law_691 ⟨(show C9 + 1 ≤ 600000 by omega), (show D9 + 3 ≤ 7302250 by omega)⟩) hS.2.2 hFc (fun v H1 locs1 hR hL1 => ?_)
  obtain ⟨rfl, hq691, hP1, hD1, hF1⟩ := hR
  obtain ⟨hP, hD⟩ := va_join (wr := (MW cy a0 a1 a2 a3 a4 a5 a6 a7 ed tc ol nl nw nr ps tm od ne pt ++ CW cy xa hi ra ci pa ga st nx kp rw9 pt1 gp ++ S3 st sl wo (nw 0) (nw 1) (nw 2) b (nw 3))) (w1 := []) hP hD [] [0, 1, 2, 3, 4, 5, 6, 7, 8, 9, 10, 11, 12, 13, 14, 15, 16] rfl rfl (by decide) (by decide) hF1.2 hFc hP1 hD1
  have hS : va_S A s.heap H1 locs1 := Fh.S ((Fh.of hS).tr hF1 (fun q _ h => hFc q h)) hL1
  have hHS := hHS.fx hF1 [] rfl
  clear hPc hDc hFc hP1 hD1 hF1 hL1 hIc hIAc
  generalize H1 = H at hP hS hHS ⊢
  have hP : va_P G vwCl (MW cy a0 a1 a2 a3 a4 a5 a6 a7 ed tc ol nl nw nr ps tm od ne pt ++ CW cy xa hi ra ci pa ga st nx kp rw9 pt1 gp ++ S3 st sl wo (nw 0) (nw 1) (nw 2) b (nw 3)) H := hP
  have hD : va_D A (MW cy a0 a1 a2 a3 a4 a5 a6 a7 ed tc ol nl nw nr ps tm od ne pt ++ CW cy xa hi ra ci pa ga st nx kp rw9 pt1 gp ++ S3 st sl wo (nw 0) (nw 1) (nw 2) b (nw 3)) := hD
  have hP := hP.sub (ws' := (MW cy a0 a1 a2 a3 a4 a5 a6 a7 ed tc ol nl nw nr ps tm od ne pt ++ CW cy xa hi ra ci pa ga st nx kp rw9 pt1 gp ++ S3 st sl wo (nw 0) (nw 1) (nw 2) b (nw 3))) [0, 1, 2, 3, 4, 5, 6, 7, 8, 9, 10, 11, 12, 13, 14, 15, 16] rfl
  have hD := hD.sub (ws' := (MW cy a0 a1 a2 a3 a4 a5 a6 a7 ed tc ol nl nw nr ps tm od ne pt ++ CW cy xa hi ra ci pa ga st nx kp rw9 pt1 gp ++ S3 st sl wo (nw 0) (nw 1) (nw 2) b (nw 3))) [0, 1, 2, 3, 4, 5, 6, 7, 8, 9, 10, 11, 12, 13, 14, 15, 16] (by decide) rfl
  refine W.eq (g2 := F0 mt 694 ls [.int (iZ (-3))]) rfl ?_
  refine lv_aload_n hx hb dL_law_694 rfl (lv_at hl 2 rfl) ?_
  refine lv_aload_n hx hb dL_law_695 rfl (lv_at hl 0 rfl) ?_
  refine lv_iload_n hx hb dL_law_696 rfl (lv_at hl 3 rfl) ?_
  refine lv_iconst (v := iZ 1) hx hb dL_law_697 rfl ?_
  refine z_iadd hx hb dL_law_698 ?_
  refine z_sld hx hb hX hbl hbA hS (by omega) hu dL_law_699 ?_
  refine z_calli (va_runV (As := [.int (iZ u)]) (rest := [.int (iZ (-3))]) ⟨hx, hb, hml, hown, hts⟩ (c_X7_simplestSlope lau G cy a0 a1 a2 a3 a4 a5 a6 a7 ed tc ol nl nw u (by first | omega | assumption) (by first | omega | assumption) (by first | omega | assumption)) (cwV 1 hts gL_law_X7_simplestSlope rfl rfl rfl (by decide +kernel) ⟨Nat.le_of_ble_eq_true rfl, Nat.le_of_ble_eq_true rfl⟩) ⟨P1_blind, va_recv hK hP (ci := 6) (q0 := 0) rfl rfl, P1_mk hKK (hP.sub [0, 1] rfl)⟩ rfl rfl hl.1 rfl (lv_room (Nat.le_of_ble_eq_true rfl)) dL_law_700 ⟨(show (C9 + 1) + 0 ≤ 600000 by omega), (show (D9 + 3) + 0 ≤ 7302250 by omega)⟩) ?_
  refine z_same (tgt := 810) hx hb dL_law_703 (by decide) (by rw [if_pos h2, j_si_no hw hn.2 h3]) ?_
  refine W.widen (k := C9 + 30) (n := D9 + 120) (by omega) (by omega) ?_
  exact K _ _ _ (LInv.mk hP hD ⟨rfl, rfl, rfl, rfl, hw, hq, hn.2⟩ hHS hke he hnx hpt) hS hl
set_option maxHeartbeats 4000000 in
set_option maxRecDepth 100000 in
theorem lc_685 (hx : pr.tables.exec = Jvm.exec) (hb : cd.code = code) (hml : cd.maxLocals = 4) (hown : s.vm.findClass RL = some mt.cls) (hts : ∀ w ∈ lw_tbl, w.before #[Value.ref b9] s = true) (hKK : KK G cy s) (hEN : EN ad A s s.heap) (hA : ∀ q : Nat, s.heap.size ≤ q → A q) (hX : va_X b9 L9 xs s s.heap) (hbl : b9 < s.heap.size) (hbA : ¬ A b9) (hL : L9 ≤ 1536) (hP : va_P G vwCl (MW cy a0 a1 a2 a3 a4 a5 a6 a7 ed tc ol nl nw nr ps tm od ne pt ++ CW cy xa hi ra ci pa ga st nx kp rw9 pt1 gp ++ S3 st sl wo (nw 0) (nw 1) (nw 2) b (nw 3)) H) (hD : va_D A (MW cy a0 a1 a2 a3 a4 a5 a6 a7 ed tc ol nl nw nr ps tm od ne pt ++ CW cy xa hi ra ci pa ga st nx kp rw9 pt1 gp ++ S3 st sl wo (nw 0) (nw 1) (nw 2) b (nw 3))) (hS : va_S A s.heap H locs) (hw : RowIs nw b (nw 3)) (hq : 0 ≤ nw 0 ∧ nw 0 ≤ nw 1 ∧ 1 ≤ nw 1 ∧ nw 1 ≤ 1000 ∧ 0 ≤ nw 2 ∧ nw 2 < nw 1) (hn : 0 ≤ nw 3 ∧ nw 3 ≤ 60) (hHS : HS G A [a0, a1, a2, a3, a4, a5, a6, a7, xa, hi, ra, ci, pa, ga] nx ed rw9 ps H) (hke : kp = ed) (he : 0 ≤ ed ∧ ed ≤ 6) (hnx : 0 ≤ nx ∧ nx < 6) (hpt : ∀ x, 0 ≤ x → x < 1000 → pt x = 0 ∨ pt x = 1) (hi9 : 0 ≤ i ∧ i + 3 ≤ (L9 : Int)) (hu : xI xs (i + 1) = u) (hv : xI xs (i + 2) = v) (hC : C9 + 30 ≤ 600000 ∧ D9 + 120 ≤ 7302250) (hl : lv_has ls 4 [(0, .ref b9), (1, .ref xa), (2, .ref a0), (3, .int (iZ i))]) (K : ∀ (H : Heap) (locs : List Loc) (ls : Array Slot), LInv G cy A a0 a1 a2 a3 a4 a5 a6 a7 xa hi ra ci pa ga H → va_S A s.heap H locs → lv_has ls 4 [(0, .ref b9), (1, .ref xa), (2, .ref a0), (3, .int (iZ i))] → W pr lau ev room_1 s mt #[Value.ref b9] below meth cd H locs (C9 + 30) (D9 + 120) Q9 (F0 mt 810 ls [])) (h2 : 0 ≤ u ∧ u ≤ 2) (h3 : ¬ ciB b (nw 3) = -1) : W pr lau ev room_1 s mt #[Value.ref b9] below meth cd H locs C9 D9 Q9 (F0 mt 685 ls []) := by
  have hK := hKK.1
  have hB := hw.2.2.1
  have hB61 := pw_61 hn.2
  have hL8 := hw.L hn.2
  have hub := xI_r hu
  have hvb := xI_r hv
  refine lv_aload_n hx hb dL_law_685 rfl (lv_at hl 1 rfl) ?_
  refine lv_aload_n hx hb dL_law_686 rfl (lv_at hl 0 rfl) ?_
  refine lv_iload_n hx hb dL_law_687 rfl (lv_at hl 3 rfl) ?_
  refine lv_iconst (v := iZ 1) hx hb dL_law_688 rfl ?_
  refine z_iadd hx hb dL_law_689 ?_
  refine z_sld hx hb hX hbl hbA hS (by omega) hu dL_law_690 ?_
  have hPc := hP.sub (ws' := []) [] rfl
  have hDc := (hD.sub (ws' := []) [] (by decide) rfl).weaken (B := fun _ => True) (fun _ _ _ _ => trivial)
  have hFc := va_free (wc := []) hD hS hA [] rfl
  have hIc : va_P G vwCl [(xa, .inr (5, [.ref hi, .ref ci, .ref st])), (st, .inr (3, [.ref sl, .ref wo])), (sl, .inr (2, [.int (iZ (nw 0)), .int (iZ (nw 1)), .int (iZ (nw 2))])), (wo, .inr (4, [.long (lZ b), .int (iZ (nw 3))]))] H := ((((hP.sub (ws' := [(xa, .inr (5, [.ref hi, .ref ci, .ref st]))]) [8] rfl).app (hP.sub (ws' := [(st, .inr (3, [.ref sl, .ref wo]))]) [14] rfl)).app (hP.sub (ws' := [(sl, .inr (2, [.int (iZ (nw 0)), .int (iZ (nw 1)), .int (iZ (nw 2))]))]) [15] rfl)).app (hP.sub (ws' := [(wo, .inr (4, [.long (lZ b), .int (iZ (nw 3))]))]) [16] rfl))
  have hIAc : NA (va_A [] H.size) [(xa, .inr (5, [.ref hi, .ref ci, .ref st])), (st, .inr (3, [.ref sl, .ref wo])), (sl, .inr (2, [.int (iZ (nw 0)), .int (iZ (nw 1)), .int (iZ (nw 2))])), (wo, .inr (4, [.long (lZ b), .int (iZ (nw 3))]))] := NA.cons (z_nA hP hD [] rfl 8 rfl (by decide)) (NA.cons (z_nA hP hD [] rfl 14 rfl (by decide)) (NA.cons (z_nA hP hD [] rfl 15 rfl (by decide)) (NA.cons (z_nA hP hD [] rfl 16 rfl (by decide)) (NA.nil))))
  refine z_callE (A := A) (va_runV (As := [.int (iZ u)]) (rest := []) ⟨hx, hb, hml, hown, hts⟩ (c_X6_simplestSlope lau G cy xa hi ci st sl wo H.size (nw 0) (nw 1) (nw 2) b (nw 3) u (by first | omega | assumption) (by first | omega | assumption) (by first | omega | assumption) (by first | omega | assumption)) (cwV 1 hts gL_law_X6_simplestSlope rfl rfl rfl (by decide +kernel) ⟨Nat.le_of_ble_eq_true rfl, Nat.le_of_ble_eq_true rfl⟩) ⟨P1_blind, va_recv hK hP (ci := 5) (q0 := 8) rfl rfl, P1_mk hKK (⟨rfl, hPc, hDc, hIc, hIAc⟩)⟩ rfl rfl hl.1 rfl (lv_room (Nat.le_of_ble_eq_true rfl)) dL_law_691 ⟨(show C9 + 1 ≤ 600000 by omega), (show D9 + 3 ≤ 7302250 by omega)⟩) hS.2.2 hFc (fun v H1 locs1 hR hL1 => ?_)
  obtain ⟨rfl, hq691, hP1, hD1, hF1⟩ := hR
  obtain ⟨hP, hD⟩ := va_join (wr := (MW cy a0 a1 a2 a3 a4 a5 a6 a7 ed tc ol nl nw nr ps tm od ne pt ++ CW cy xa hi ra ci pa ga st nx kp rw9 pt1 gp ++ S3 st sl wo (nw 0) (nw 1) (nw 2) b (nw 3))) (w1 := []) hP hD [] [0, 1, 2, 3, 4, 5, 6, 7, 8, 9, 10, 11, 12, 13, 14, 15, 16] rfl rfl (by decide) (by decide) hF1.2 hFc hP1 hD1
  have hS : va_S A s.heap H1 locs1 := Fh.S ((Fh.of hS).tr hF1 (fun q _ h => hFc q h)) hL1
  have hHS := hHS.fx hF1 [] rfl
  clear hPc hDc hFc hP1 hD1 hF1 hL1 hIc hIAc
  generalize H1 = H at hP hS hHS ⊢
  have hP : va_P G vwCl (MW cy a0 a1 a2 a3 a4 a5 a6 a7 ed tc ol nl nw nr ps tm od ne pt ++ CW cy xa hi ra ci pa ga st nx kp rw9 pt1 gp ++ S3 st sl wo (nw 0) (nw 1) (nw 2) b (nw 3)) H := hP
  have hD : va_D A (MW cy a0 a1 a2 a3 a4 a5 a6 a7 ed tc ol nl nw nr ps tm od ne pt ++ CW cy xa hi ra ci pa ga st nx kp rw9 pt1 gp ++ S3 st sl wo (nw 0) (nw 1) (nw 2) b (nw 3)) := hD
  have hP := hP.sub (ws' := (MW cy a0 a1 a2 a3 a4 a5 a6 a7 ed tc ol nl nw nr ps tm od ne pt ++ CW cy xa hi ra ci pa ga st nx kp rw9 pt1 gp ++ S3 st sl wo (nw 0) (nw 1) (nw 2) b (nw 3))) [0, 1, 2, 3, 4, 5, 6, 7, 8, 9, 10, 11, 12, 13, 14, 15, 16] rfl
  have hD := hD.sub (ws' := (MW cy a0 a1 a2 a3 a4 a5 a6 a7 ed tc ol nl nw nr ps tm od ne pt ++ CW cy xa hi ra ci pa ga st nx kp rw9 pt1 gp ++ S3 st sl wo (nw 0) (nw 1) (nw 2) b (nw 3))) [0, 1, 2, 3, 4, 5, 6, 7, 8, 9, 10, 11, 12, 13, 14, 15, 16] (by decide) rfl
  refine W.eq (g2 := F0 mt 694 ls [.int (iZ (if u = 0 then ciA b (nw 3) (ciB b (nw 3)) else if u = 1 then ciB b (nw 3) else liR b (nw 3) (ciA b (nw 3) (ciB b (nw 3))) (ciB b (nw 3))))]) rfl ?_
  refine lv_aload_n hx hb dL_law_694 rfl (lv_at hl 2 rfl) ?_
  refine lv_aload_n hx hb dL_law_695 rfl (lv_at hl 0 rfl) ?_
  refine lv_iload_n hx hb dL_law_696 rfl (lv_at hl 3 rfl) ?_
  refine lv_iconst (v := iZ 1) hx hb dL_law_697 rfl ?_
  refine z_iadd hx hb dL_law_698 ?_
  refine z_sld hx hb hX hbl hbA hS (by omega) hu dL_law_699 ?_
  refine z_calli (va_runV (As := [.int (iZ u)]) (rest := [.int (iZ (if u = 0 then ciA b (nw 3) (ciB b (nw 3)) else if u = 1 then ciB b (nw 3) else liR b (nw 3) (ciA b (nw 3) (ciB b (nw 3))) (ciB b (nw 3))))]) ⟨hx, hb, hml, hown, hts⟩ (c_X7_simplestSlope lau G cy a0 a1 a2 a3 a4 a5 a6 a7 ed tc ol nl nw u (by first | omega | assumption) (by first | omega | assumption) (by first | omega | assumption)) (cwV 1 hts gL_law_X7_simplestSlope rfl rfl rfl (by decide +kernel) ⟨Nat.le_of_ble_eq_true rfl, Nat.le_of_ble_eq_true rfl⟩) ⟨P1_blind, va_recv hK hP (ci := 6) (q0 := 0) rfl rfl, P1_mk hKK (hP.sub [0, 1] rfl)⟩ rfl rfl hl.1 rfl (lv_room (Nat.le_of_ble_eq_true rfl)) dL_law_700 ⟨(show (C9 + 1) + 0 ≤ 600000 by omega), (show (D9 + 3) + 0 ≤ 7302250 by omega)⟩) ?_
  refine z_same (tgt := 810) hx hb dL_law_703 (by decide) (by rw [if_pos h2, j_si hw hn.2 h3]) ?_
  refine W.widen (k := C9 + 30) (n := D9 + 120) (by omega) (by omega) ?_
  exact K _ _ _ (LInv.mk hP hD ⟨rfl, rfl, rfl, rfl, hw, hq, hn.2⟩ hHS hke he hnx hpt) hS hl
set_option maxHeartbeats 4000000 in
set_option maxRecDepth 100000 in
theorem lc_708_no (hx : pr.tables.exec = Jvm.exec) (hb : cd.code = code) (hml : cd.maxLocals = 4) (hown : s.vm.findClass RL = some mt.cls) (hts : ∀ w ∈ lw_tbl, w.before #[Value.ref b9] s = true) (hKK : KK G cy s) (hEN : EN ad A s s.heap) (hA : ∀ q : Nat, s.heap.size ≤ q → A q) (hX : va_X b9 L9 xs s s.heap) (hbl : b9 < s.heap.size) (hbA : ¬ A b9) (hL : L9 ≤ 1536) (hP : va_P G vwCl (MW cy a0 a1 a2 a3 a4 a5 a6 a7 ed tc ol nl nw nr ps tm od ne pt ++ CW cy xa hi ra ci pa ga st nx kp rw9 pt1 gp ++ S3 st sl wo (nw 0) (nw 1) (nw 2) b (nw 3)) H) (hD : va_D A (MW cy a0 a1 a2 a3 a4 a5 a6 a7 ed tc ol nl nw nr ps tm od ne pt ++ CW cy xa hi ra ci pa ga st nx kp rw9 pt1 gp ++ S3 st sl wo (nw 0) (nw 1) (nw 2) b (nw 3))) (hS : va_S A s.heap H locs) (hw : RowIs nw b (nw 3)) (hq : 0 ≤ nw 0 ∧ nw 0 ≤ nw 1 ∧ 1 ≤ nw 1 ∧ nw 1 ≤ 1000 ∧ 0 ≤ nw 2 ∧ nw 2 < nw 1) (hn : 0 ≤ nw 3 ∧ nw 3 ≤ 60) (hHS : HS G A [a0, a1, a2, a3, a4, a5, a6, a7, xa, hi, ra, ci, pa, ga] nx ed rw9 ps H) (hke : kp = ed) (he : 0 ≤ ed ∧ ed ≤ 6) (hnx : 0 ≤ nx ∧ nx < 6) (hpt : ∀ x, 0 ≤ x → x < 1000 → pt x = 0 ∨ pt x = 1) (hi9 : 0 ≤ i ∧ i + 3 ≤ (L9 : Int)) (hu : xI xs (i + 1) = u) (hv : xI xs (i + 2) = v) (hC : C9 + 30 ≤ 600000 ∧ D9 + 120 ≤ 7302250) (hl : lv_has ls 4 [(0, .ref b9), (1, .ref xa), (2, .ref a0), (3, .int (iZ i))]) (K : ∀ (H : Heap) (locs : List Loc) (ls : Array Slot), LInv G cy A a0 a1 a2 a3 a4 a5 a6 a7 xa hi ra ci pa ga H → va_S A s.heap H locs → lv_has ls 4 [(0, .ref b9), (1, .ref xa), (2, .ref a0), (3, .int (iZ i))] → W pr lau ev room_1 s mt #[Value.ref b9] below meth cd H locs (C9 + 30) (D9 + 120) Q9 (F0 mt 810 ls [])) (h2 : ¬ (1 ≤ u ∧ u ≤ 1000)) : W pr lau ev room_1 s mt #[Value.ref b9] below meth cd H locs C9 D9 Q9 (F0 mt 708 ls []) := by
  have hK := hKK.1
  have hB := hw.2.2.1
  have hB61 := pw_61 hn.2
  have hL8 := hw.L hn.2
  have hub := xI_r hu
  have hvb := xI_r hv
  refine lv_aload_n hx hb dL_law_708 rfl (lv_at hl 1 rfl) ?_
  refine lv_aload_n hx hb dL_law_709 rfl (lv_at hl 0 rfl) ?_
  refine lv_iload_n hx hb dL_law_710 rfl (lv_at hl 3 rfl) ?_
  refine lv_iconst (v := iZ 1) hx hb dL_law_711 rfl ?_
  refine z_iadd hx hb dL_law_712 ?_
  refine z_sld hx hb hX hbl hbA hS (by omega) hu dL_law_713 ?_
  have hPc := hP.sub (ws' := [(ci, .inr (0, [.ref pa, .ref ga])), (pa, .inl (cy 1, 1000, .inl (zf pt1))), (ga, .inl (cy 0, 1001, .inl (zf gp)))]) [11, 12, 13] rfl
  have hDc := (hD.sub (ws' := [(ci, .inr (0, [.ref pa, .ref ga])), (pa, .inl (cy 1, 1000, .inl (zf pt1))), (ga, .inl (cy 0, 1001, .inl (zf gp)))]) [11, 12, 13] (by decide) rfl).weaken (B := fun _ => True) (fun _ _ _ _ => trivial)
  have hFc := va_free (wc := [(ci, .inr (0, [.ref pa, .ref ga])), (pa, .inl (cy 1, 1000, .inl (zf pt1))), (ga, .inl (cy 0, 1001, .inl (zf gp)))]) hD hS hA [11, 12, 13] rfl
  have hIc : va_P G vwCl [(xa, .inr (5, [.ref hi, .ref ci, .ref st])), (st, .inr (3, [.ref sl, .ref wo])), (sl, .inr (2, [.int (iZ (nw 0)), .int (iZ (nw 1)), .int (iZ (nw 2))]))] H := (((hP.sub (ws' := [(xa, .inr (5, [.ref hi, .ref ci, .ref st]))]) [8] rfl).app (hP.sub (ws' := [(st, .inr (3, [.ref sl, .ref wo]))]) [14] rfl)).app (hP.sub (ws' := [(sl, .inr (2, [.int (iZ (nw 0)), .int (iZ (nw 1)), .int (iZ (nw 2))]))]) [15] rfl))
  have hIAc : NA (va_A [(ci, .inr (0, [.ref pa, .ref ga])), (pa, .inl (cy 1, 1000, .inl (zf pt1))), (ga, .inl (cy 0, 1001, .inl (zf gp)))] H.size) [(xa, .inr (5, [.ref hi, .ref ci, .ref st])), (st, .inr (3, [.ref sl, .ref wo])), (sl, .inr (2, [.int (iZ (nw 0)), .int (iZ (nw 1)), .int (iZ (nw 2))]))] := NA.cons (z_nA hP hD [11, 12, 13] rfl 8 rfl (by decide)) (NA.cons (z_nA hP hD [11, 12, 13] rfl 14 rfl (by decide)) (NA.cons (z_nA hP hD [11, 12, 13] rfl 15 rfl (by decide)) (NA.nil)))
  refine z_callE (A := A) (va_runV (As := [.int (iZ u)]) (rest := []) ⟨hx, hb, hml, hown, hts⟩ (c_X6_gapSizeCount_no lau G cy xa hi ci st sl wo pa ga H.size (nw 0) (nw 1) (nw 2) pt1 gp u (by first | omega | assumption) (by first | omega | assumption) (by first | omega | assumption) (by first | omega | assumption)) (cwV 1 hts gL_law_X6_gapSizeCount rfl rfl rfl (by decide +kernel) ⟨Nat.le_of_ble_eq_true rfl, Nat.le_of_ble_eq_true rfl⟩) ⟨P1_blind, va_recv hK hP (ci := 5) (q0 := 8) rfl rfl, P1_mk hKK (⟨rfl, hPc, hDc, hIc, hIAc⟩)⟩ rfl rfl hl.1 rfl (lv_room (Nat.le_of_ble_eq_true rfl)) dL_law_714 ⟨(show C9 + 0 ≤ 600000 by omega), (show D9 + 0 ≤ 7302250 by omega)⟩) hS.2.2 hFc (fun v H1 locs1 hR hL1 => ?_)
  obtain ⟨rfl, hq714, hP1, hD1, hF1⟩ := hR
  obtain ⟨hP, hD⟩ := va_join (wr := (MW cy a0 a1 a2 a3 a4 a5 a6 a7 ed tc ol nl nw nr ps tm od ne pt ++ [(xa, .inr (5, [.ref hi, .ref ci, .ref st])), (hi, .inr (1, [.ref ra, .int (iZ nx), .int (iZ kp)])), (ra, .inl (cy 2, 6, .inr (.inr (.inr (.inr (qf rw9)))))), (st, .inr (3, [.ref sl, .ref wo])), (sl, .inr (2, [.int (iZ (nw 0)), .int (iZ (nw 1)), .int (iZ (nw 2))])), (wo, .inr (4, [.long (lZ b), .int (iZ (nw 3))]))])) (w1 := [(ci, .inr (0, [.ref pa, .ref ga])), (pa, .inl (cy 1, 1000, .inl (zf pt1))), (ga, .inl (cy 0, 1001, .inl (zf gp)))]) hP hD [11, 12, 13] [0, 1, 2, 3, 4, 5, 6, 7, 8, 9, 10, 14, 15, 16] rfl rfl (by decide) (by decide) hF1.2 hFc hP1 hD1
  have hS : va_S A s.heap H1 locs1 := Fh.S ((Fh.of hS).tr hF1 (fun q _ h => hFc q h)) hL1
  have hHS := hHS.fx hF1 [11, 12, 13] rfl
  clear hPc hDc hFc hP1 hD1 hF1 hL1 hIc hIAc
  generalize H1 = H at hP hS hHS ⊢
  have hP : va_P G vwCl (MW cy a0 a1 a2 a3 a4 a5 a6 a7 ed tc ol nl nw nr ps tm od ne pt ++ [(xa, .inr (5, [.ref hi, .ref ci, .ref st])), (hi, .inr (1, [.ref ra, .int (iZ nx), .int (iZ kp)])), (ra, .inl (cy 2, 6, .inr (.inr (.inr (.inr (qf rw9)))))), (st, .inr (3, [.ref sl, .ref wo])), (sl, .inr (2, [.int (iZ (nw 0)), .int (iZ (nw 1)), .int (iZ (nw 2))])), (wo, .inr (4, [.long (lZ b), .int (iZ (nw 3))])), (ci, .inr (0, [.ref pa, .ref ga])), (pa, .inl (cy 1, 1000, .inl (zf pt1))), (ga, .inl (cy 0, 1001, .inl (zf gp)))]) H := hP
  have hD : va_D A (MW cy a0 a1 a2 a3 a4 a5 a6 a7 ed tc ol nl nw nr ps tm od ne pt ++ [(xa, .inr (5, [.ref hi, .ref ci, .ref st])), (hi, .inr (1, [.ref ra, .int (iZ nx), .int (iZ kp)])), (ra, .inl (cy 2, 6, .inr (.inr (.inr (.inr (qf rw9)))))), (st, .inr (3, [.ref sl, .ref wo])), (sl, .inr (2, [.int (iZ (nw 0)), .int (iZ (nw 1)), .int (iZ (nw 2))])), (wo, .inr (4, [.long (lZ b), .int (iZ (nw 3))])), (ci, .inr (0, [.ref pa, .ref ga])), (pa, .inl (cy 1, 1000, .inl (zf pt1))), (ga, .inl (cy 0, 1001, .inl (zf gp)))]) := hD
  have hP := hP.sub (ws' := (MW cy a0 a1 a2 a3 a4 a5 a6 a7 ed tc ol nl nw nr ps tm od ne pt ++ CW cy xa hi ra ci pa ga st nx kp rw9 pt1 gp ++ S3 st sl wo (nw 0) (nw 1) (nw 2) b (nw 3))) [0, 1, 2, 3, 4, 5, 6, 7, 8, 9, 10, 14, 15, 16, 11, 12, 13] rfl
  have hD := hD.sub (ws' := (MW cy a0 a1 a2 a3 a4 a5 a6 a7 ed tc ol nl nw nr ps tm od ne pt ++ CW cy xa hi ra ci pa ga st nx kp rw9 pt1 gp ++ S3 st sl wo (nw 0) (nw 1) (nw 2) b (nw 3))) [0, 1, 2, 3, 4, 5, 6, 7, 8, 9, 10, 14, 15, 16, 11, 12, 13] (by decide) rfl
  refine W.eq (g2 := F0 mt 717 ls [.int (iZ (-1))]) rfl ?_
  refine lv_aload_n hx hb dL_law_717 rfl (lv_at hl 2 rfl) ?_
  refine lv_aload_n hx hb dL_law_718 rfl (lv_at hl 0 rfl) ?_
  refine lv_iload_n hx hb dL_law_719 rfl (lv_at hl 3 rfl) ?_
  refine lv_iconst (v := iZ 1) hx hb dL_law_720 rfl ?_
  refine z_iadd hx hb dL_law_721 ?_
  refine z_sld hx hb hX hbl hbA hS (by omega) hu dL_law_722 ?_
  have hPc := hP.sub (ws' := (MW cy a0 a1 a2 a3 a4 a5 a6 a7 ed tc ol nl nw nr ps tm od ne pt)) [0, 1, 2, 3, 4, 5, 6, 7] rfl
  have hDc := (hD.sub (ws' := (MW cy a0 a1 a2 a3 a4 a5 a6 a7 ed tc ol nl nw nr ps tm od ne pt)) [0, 1, 2, 3, 4, 5, 6, 7] (by decide) rfl).weaken (B := fun _ => True) (fun _ _ _ _ => trivial)
  have hFc := va_free (wc := (MW cy a0 a1 a2 a3 a4 a5 a6 a7 ed tc ol nl nw nr ps tm od ne pt)) hD hS hA [0, 1, 2, 3, 4, 5, 6, 7] rfl
  refine z_callE (A := A) (va_runV (As := [.int (iZ u)]) (rest := [.int (iZ (-1))]) ⟨hx, hb, hml, hown, hts⟩ (c_X7_gapSizeCount_no lau G cy a0 a1 a2 a3 a4 a5 a6 a7 H.size ed tc ol nl nw nr ps tm od ne pt u (by first | omega | assumption) (by first | omega | assumption)) (cwV 1 hts gL_law_X7_gapSizeCount rfl rfl rfl (by decide +kernel) ⟨Nat.le_of_ble_eq_true rfl, Nat.le_of_ble_eq_true rfl⟩) ⟨P1_blind, va_recv hK hP (ci := 6) (q0 := 0) rfl rfl, P1_mk hKK (⟨rfl, hPc, hDc⟩)⟩ rfl rfl hl.1 rfl (lv_room (Nat.le_of_ble_eq_true rfl)) dL_law_723 ⟨(show (C9 + 0) + 0 ≤ 600000 by omega), (show (D9 + 0) + 0 ≤ 7302250 by omega)⟩) hS.2.2 hFc (fun v H1 locs1 hR hL1 => ?_)
  obtain ⟨rfl, hq723, hP1, hD1, hF1⟩ := hR
  obtain ⟨hP, hD⟩ := va_join (wr := [(xa, .inr (5, [.ref hi, .ref ci, .ref st])), (hi, .inr (1, [.ref ra, .int (iZ nx), .int (iZ kp)])), (ra, .inl (cy 2, 6, .inr (.inr (.inr (.inr (qf rw9)))))), (ci, .inr (0, [.ref pa, .ref ga])), (pa, .inl (cy 1, 1000, .inl (zf pt1))), (ga, .inl (cy 0, 1001, .inl (zf gp))), (st, .inr (3, [.ref sl, .ref wo])), (sl, .inr (2, [.int (iZ (nw 0)), .int (iZ (nw 1)), .int (iZ (nw 2))])), (wo, .inr (4, [.long (lZ b), .int (iZ (nw 3))]))]) (w1 := (MW cy a0 a1 a2 a3 a4 a5 a6 a7 ed tc ol nl nw nr ps tm od ne pt)) hP hD [0, 1, 2, 3, 4, 5, 6, 7] [8, 9, 10, 11, 12, 13, 14, 15, 16] rfl rfl (by decide) (by decide) hF1.2 hFc hP1 hD1
  have hS : va_S A s.heap H1 locs1 := Fh.S ((Fh.of hS).tr hF1 (fun q _ h => hFc q h)) hL1
  have hHS := hHS.fx hF1 [0, 1, 2, 3, 4, 5, 6, 7] rfl
  clear hPc hDc hFc hP1 hD1 hF1 hL1
  generalize H1 = H at hP hS hHS ⊢
  have hP : va_P G vwCl [(xa, .inr (5, [.ref hi, .ref ci, .ref st])), (hi, .inr (1, [.ref ra, .int (iZ nx), .int (iZ kp)])), (ra, .inl (cy 2, 6, .inr (.inr (.inr (.inr (qf rw9)))))), (ci, .inr (0, [.ref pa, .ref ga])), (pa, .inl (cy 1, 1000, .inl (zf pt1))), (ga, .inl (cy 0, 1001, .inl (zf gp))), (st, .inr (3, [.ref sl, .ref wo])), (sl, .inr (2, [.int (iZ (nw 0)), .int (iZ (nw 1)), .int (iZ (nw 2))])), (wo, .inr (4, [.long (lZ b), .int (iZ (nw 3))])), (a0, .inr (6, [.ref a1, .ref a2, .ref a3, .int (iZ ed), .ref a4, .int (iZ tc), .ref a5, .int (iZ ol), .ref a6, .int (iZ nl), .ref a7])), (a1, .inl (cy 0, 64, .inl (zf nw))), (a2, .inl (cy 0, 64, .inl (zf nr))), (a3, .inl (cy 0, 384, .inl (zf ps))), (a4, .inl (cy 0, 20, .inl (zf tm))), (a5, .inl (cy 0, 60, .inl (zf od))), (a6, .inl (cy 0, 60, .inl (zf ne))), (a7, .inl (cy 1, 1000, .inl (zf pt)))] H := hP
  have hD : va_D A [(xa, .inr (5, [.ref hi, .ref ci, .ref st])), (hi, .inr (1, [.ref ra, .int (iZ nx), .int (iZ kp)])), (ra, .inl (cy 2, 6, .inr (.inr (.inr (.inr (qf rw9)))))), (ci, .inr (0, [.ref pa, .ref ga])), (pa, .inl (cy 1, 1000, .inl (zf pt1))), (ga, .inl (cy 0, 1001, .inl (zf gp))), (st, .inr (3, [.ref sl, .ref wo])), (sl, .inr (2, [.int (iZ (nw 0)), .int (iZ (nw 1)), .int (iZ (nw 2))])), (wo, .inr (4, [.long (lZ b), .int (iZ (nw 3))])), (a0, .inr (6, [.ref a1, .ref a2, .ref a3, .int (iZ ed), .ref a4, .int (iZ tc), .ref a5, .int (iZ ol), .ref a6, .int (iZ nl), .ref a7])), (a1, .inl (cy 0, 64, .inl (zf nw))), (a2, .inl (cy 0, 64, .inl (zf nr))), (a3, .inl (cy 0, 384, .inl (zf ps))), (a4, .inl (cy 0, 20, .inl (zf tm))), (a5, .inl (cy 0, 60, .inl (zf od))), (a6, .inl (cy 0, 60, .inl (zf ne))), (a7, .inl (cy 1, 1000, .inl (zf pt)))] := hD
  have hP := hP.sub (ws' := (MW cy a0 a1 a2 a3 a4 a5 a6 a7 ed tc ol nl nw nr ps tm od ne pt ++ CW cy xa hi ra ci pa ga st nx kp rw9 pt1 gp ++ S3 st sl wo (nw 0) (nw 1) (nw 2) b (nw 3))) [9, 10, 11, 12, 13, 14, 15, 16, 0, 1, 2, 3, 4, 5, 6, 7, 8] rfl
  have hD := hD.sub (ws' := (MW cy a0 a1 a2 a3 a4 a5 a6 a7 ed tc ol nl nw nr ps tm od ne pt ++ CW cy xa hi ra ci pa ga st nx kp rw9 pt1 gp ++ S3 st sl wo (nw 0) (nw 1) (nw 2) b (nw 3))) [9, 10, 11, 12, 13, 14, 15, 16, 0, 1, 2, 3, 4, 5, 6, 7, 8] (by decide) rfl
  refine W.eq (g2 := F0 mt 726 ls [.int (iZ (-1)), .int (iZ (-1))]) rfl ?_
  refine z_same (tgt := 810) hx hb dL_law_726 (by decide) (rfl) ?_
  refine W.widen (k := C9 + 30) (n := D9 + 120) (by omega) (by omega) ?_
  exact K _ _ _ (LInv.mk hP hD ⟨rfl, rfl, rfl, rfl, hw, hq, hn.2⟩ hHS hke he hnx hpt) hS hl
set_option maxHeartbeats 4000000 in
set_option maxRecDepth 100000 in
theorem lc_708 (hx : pr.tables.exec = Jvm.exec) (hb : cd.code = code) (hml : cd.maxLocals = 4) (hown : s.vm.findClass RL = some mt.cls) (hts : ∀ w ∈ lw_tbl, w.before #[Value.ref b9] s = true) (hKK : KK G cy s) (hEN : EN ad A s s.heap) (hA : ∀ q : Nat, s.heap.size ≤ q → A q) (hX : va_X b9 L9 xs s s.heap) (hbl : b9 < s.heap.size) (hbA : ¬ A b9) (hL : L9 ≤ 1536) (hP : va_P G vwCl (MW cy a0 a1 a2 a3 a4 a5 a6 a7 ed tc ol nl nw nr ps tm od ne pt ++ CW cy xa hi ra ci pa ga st nx kp rw9 pt1 gp ++ S3 st sl wo (nw 0) (nw 1) (nw 2) b (nw 3)) H) (hD : va_D A (MW cy a0 a1 a2 a3 a4 a5 a6 a7 ed tc ol nl nw nr ps tm od ne pt ++ CW cy xa hi ra ci pa ga st nx kp rw9 pt1 gp ++ S3 st sl wo (nw 0) (nw 1) (nw 2) b (nw 3))) (hS : va_S A s.heap H locs) (hw : RowIs nw b (nw 3)) (hq : 0 ≤ nw 0 ∧ nw 0 ≤ nw 1 ∧ 1 ≤ nw 1 ∧ nw 1 ≤ 1000 ∧ 0 ≤ nw 2 ∧ nw 2 < nw 1) (hn : 0 ≤ nw 3 ∧ nw 3 ≤ 60) (hHS : HS G A [a0, a1, a2, a3, a4, a5, a6, a7, xa, hi, ra, ci, pa, ga] nx ed rw9 ps H) (hke : kp = ed) (he : 0 ≤ ed ∧ ed ≤ 6) (hnx : 0 ≤ nx ∧ nx < 6) (hpt : ∀ x, 0 ≤ x → x < 1000 → pt x = 0 ∨ pt x = 1) (hi9 : 0 ≤ i ∧ i + 3 ≤ (L9 : Int)) (hu : xI xs (i + 1) = u) (hv : xI xs (i + 2) = v) (hC : C9 + 30 ≤ 600000 ∧ D9 + 120 ≤ 7302250) (hl : lv_has ls 4 [(0, .ref b9), (1, .ref xa), (2, .ref a0), (3, .int (iZ i))]) (K : ∀ (H : Heap) (locs : List Loc) (ls : Array Slot), LInv G cy A a0 a1 a2 a3 a4 a5 a6 a7 xa hi ra ci pa ga H → va_S A s.heap H locs → lv_has ls 4 [(0, .ref b9), (1, .ref xa), (2, .ref a0), (3, .int (iZ i))] → W pr lau ev room_1 s mt #[Value.ref b9] below meth cd H locs (C9 + 30) (D9 + 120) Q9 (F0 mt 810 ls [])) (h2 : 1 ≤ u ∧ u ≤ 1000) : W pr lau ev room_1 s mt #[Value.ref b9] below meth cd H locs C9 D9 Q9 (F0 mt 708 ls []) := by
  have hK := hKK.1
  have hB := hw.2.2.1
  have hB61 := pw_61 hn.2
  have hL8 := hw.L hn.2
  have hub := xI_r hu
  have hvb := xI_r hv
  refine lv_aload_n hx hb dL_law_708 rfl (lv_at hl 1 rfl) ?_
  refine lv_aload_n hx hb dL_law_709 rfl (lv_at hl 0 rfl) ?_
  refine lv_iload_n hx hb dL_law_710 rfl (lv_at hl 3 rfl) ?_
  refine lv_iconst (v := iZ 1) hx hb dL_law_711 rfl ?_
  refine z_iadd hx hb dL_law_712 ?_
  refine z_sld hx hb hX hbl hbA hS (by omega) hu dL_law_713 ?_
  have hPc := hP.sub (ws' := [(ci, .inr (0, [.ref pa, .ref ga])), (pa, .inl (cy 1, 1000, .inl (zf pt1))), (ga, .inl (cy 0, 1001, .inl (zf gp)))]) [11, 12, 13] rfl
  have hDc := (hD.sub (ws' := [(ci, .inr (0, [.ref pa, .ref ga])), (pa, .inl (cy 1, 1000, .inl (zf pt1))), (ga, .inl (cy 0, 1001, .inl (zf gp)))]) [11, 12, 13] (by decide) rfl).weaken (B := fun _ => True) (fun _ _ _ _ => trivial)
  have hFc := va_free (wc := [(ci, .inr (0, [.ref pa, .ref ga])), (pa, .inl (cy 1, 1000, .inl (zf pt1))), (ga, .inl (cy 0, 1001, .inl (zf gp)))]) hD hS hA [11, 12, 13] rfl
  have hIc : va_P G vwCl [(xa, .inr (5, [.ref hi, .ref ci, .ref st])), (st, .inr (3, [.ref sl, .ref wo])), (sl, .inr (2, [.int (iZ (nw 0)), .int (iZ (nw 1)), .int (iZ (nw 2))]))] H := (((hP.sub (ws' := [(xa, .inr (5, [.ref hi, .ref ci, .ref st]))]) [8] rfl).app (hP.sub (ws' := [(st, .inr (3, [.ref sl, .ref wo]))]) [14] rfl)).app (hP.sub (ws' := [(sl, .inr (2, [.int (iZ (nw 0)), .int (iZ (nw 1)), .int (iZ (nw 2))]))]) [15] rfl))
  have hIAc : NA (va_A [(ci, .inr (0, [.ref pa, .ref ga])), (pa, .inl (cy 1, 1000, .inl (zf pt1))), (ga, .inl (cy 0, 1001, .inl (zf gp)))] H.size) [(xa, .inr (5, [.ref hi, .ref ci, .ref st])), (st, .inr (3, [.ref sl, .ref wo])), (sl, .inr (2, [.int (iZ (nw 0)), .int (iZ (nw 1)), .int (iZ (nw 2))]))] := NA.cons (z_nA hP hD [11, 12, 13] rfl 8 rfl (by decide)) (NA.cons (z_nA hP hD [11, 12, 13] rfl 14 rfl (by decide)) (NA.cons (z_nA hP hD [11, 12, 13] rfl 15 rfl (by decide)) (NA.nil)))
  refine z_callE (A := A) (va_runV (As := [.int (iZ u)]) (rest := []) ⟨hx, hb, hml, hown, hts⟩ (c_X6_gapSizeCount lau G cy xa hi ci st sl wo pa ga H.size (nw 0) (nw 1) (nw 2) pt1 gp u (by first | omega | assumption) (by first | omega | assumption) (by first | omega | assumption) (by first | omega | assumption)) (cwV 1 hts gL_law_X6_gapSizeCount rfl rfl rfl (by decide +kernel) ⟨Nat.le_of_ble_eq_true rfl, Nat.le_of_ble_eq_true rfl⟩) ⟨P1_blind, va_recv hK hP (ci := 5) (q0 := 8) rfl rfl, P1_mk hKK (⟨rfl, hPc, hDc, hIc, hIAc⟩)⟩ rfl rfl hl.1 rfl (lv_room (Nat.le_of_ble_eq_true rfl)) dL_law_714 ⟨(show C9 + 0 ≤ 600000 by omega), (show D9 + 0 ≤ 7302250 by omega)⟩) hS.2.2 hFc (fun v H1 locs1 hR hL1 => ?_)
  obtain ⟨rfl, hq714, hP1, hD1, hF1⟩ := hR
  obtain ⟨hP, hD⟩ := va_join (wr := (MW cy a0 a1 a2 a3 a4 a5 a6 a7 ed tc ol nl nw nr ps tm od ne pt ++ [(xa, .inr (5, [.ref hi, .ref ci, .ref st])), (hi, .inr (1, [.ref ra, .int (iZ nx), .int (iZ kp)])), (ra, .inl (cy 2, 6, .inr (.inr (.inr (.inr (qf rw9)))))), (st, .inr (3, [.ref sl, .ref wo])), (sl, .inr (2, [.int (iZ (nw 0)), .int (iZ (nw 1)), .int (iZ (nw 2))])), (wo, .inr (4, [.long (lZ b), .int (iZ (nw 3))]))])) (w1 := [(ci, .inr (0, [.ref pa, .ref ga])), (pa, .inl (cy 1, 1000, .inl (zf (lyC pt1 (nw 0) (nw 1) u)))), (ga, .inl (cy 0, 1001, .inl (zf (ms (nw 0) (nw 1) u (flF gp 0 1001) (nw 1)).2)))]) hP hD [11, 12, 13] [0, 1, 2, 3, 4, 5, 6, 7, 8, 9, 10, 14, 15, 16] rfl rfl (by decide) (by decide) hF1.2 hFc hP1 hD1
  have hS : va_S A s.heap H1 locs1 := Fh.S ((Fh.of hS).tr hF1 (fun q _ h => hFc q h)) hL1
  have hHS := hHS.fx hF1 [11, 12, 13] rfl
  clear hPc hDc hFc hP1 hD1 hF1 hL1 hIc hIAc
  generalize H1 = H at hP hS hHS ⊢
  have hP : va_P G vwCl (MW cy a0 a1 a2 a3 a4 a5 a6 a7 ed tc ol nl nw nr ps tm od ne pt ++ [(xa, .inr (5, [.ref hi, .ref ci, .ref st])), (hi, .inr (1, [.ref ra, .int (iZ nx), .int (iZ kp)])), (ra, .inl (cy 2, 6, .inr (.inr (.inr (.inr (qf rw9)))))), (st, .inr (3, [.ref sl, .ref wo])), (sl, .inr (2, [.int (iZ (nw 0)), .int (iZ (nw 1)), .int (iZ (nw 2))])), (wo, .inr (4, [.long (lZ b), .int (iZ (nw 3))])), (ci, .inr (0, [.ref pa, .ref ga])), (pa, .inl (cy 1, 1000, .inl (zf (lyC pt1 (nw 0) (nw 1) u)))), (ga, .inl (cy 0, 1001, .inl (zf (ms (nw 0) (nw 1) u (flF gp 0 1001) (nw 1)).2)))]) H := hP
  have hD : va_D A (MW cy a0 a1 a2 a3 a4 a5 a6 a7 ed tc ol nl nw nr ps tm od ne pt ++ [(xa, .inr (5, [.ref hi, .ref ci, .ref st])), (hi, .inr (1, [.ref ra, .int (iZ nx), .int (iZ kp)])), (ra, .inl (cy 2, 6, .inr (.inr (.inr (.inr (qf rw9)))))), (st, .inr (3, [.ref sl, .ref wo])), (sl, .inr (2, [.int (iZ (nw 0)), .int (iZ (nw 1)), .int (iZ (nw 2))])), (wo, .inr (4, [.long (lZ b), .int (iZ (nw 3))])), (ci, .inr (0, [.ref pa, .ref ga])), (pa, .inl (cy 1, 1000, .inl (zf (lyC pt1 (nw 0) (nw 1) u)))), (ga, .inl (cy 0, 1001, .inl (zf (ms (nw 0) (nw 1) u (flF gp 0 1001) (nw 1)).2)))]) := hD
  have hP := hP.sub (ws' := (MW cy a0 a1 a2 a3 a4 a5 a6 a7 ed tc ol nl nw nr ps tm od ne pt ++ CW cy xa hi ra ci pa ga st nx kp rw9 (lyC pt1 (nw 0) (nw 1) u) ((ms (nw 0) (nw 1) u (flF gp 0 1001) (nw 1)).2) ++ S3 st sl wo (nw 0) (nw 1) (nw 2) b (nw 3))) [0, 1, 2, 3, 4, 5, 6, 7, 8, 9, 10, 14, 15, 16, 11, 12, 13] rfl
  have hD := hD.sub (ws' := (MW cy a0 a1 a2 a3 a4 a5 a6 a7 ed tc ol nl nw nr ps tm od ne pt ++ CW cy xa hi ra ci pa ga st nx kp rw9 (lyC pt1 (nw 0) (nw 1) u) ((ms (nw 0) (nw 1) u (flF gp 0 1001) (nw 1)).2) ++ S3 st sl wo (nw 0) (nw 1) (nw 2) b (nw 3))) [0, 1, 2, 3, 4, 5, 6, 7, 8, 9, 10, 14, 15, 16, 11, 12, 13] (by decide) rfl
  refine W.eq (g2 := F0 mt 717 ls [.int (iZ (cnt (fun z => 1 ≤ z ∧ 0 < (ms (nw 0) (nw 1) u (flF gp 0 1001) (nw 1)).2 z) 1001))]) rfl ?_
  refine lv_aload_n hx hb dL_law_717 rfl (lv_at hl 2 rfl) ?_
  refine lv_aload_n hx hb dL_law_718 rfl (lv_at hl 0 rfl) ?_
  refine lv_iload_n hx hb dL_law_719 rfl (lv_at hl 3 rfl) ?_
  refine lv_iconst (v := iZ 1) hx hb dL_law_720 rfl ?_
  refine z_iadd hx hb dL_law_721 ?_
  refine z_sld hx hb hX hbl hbA hS (by omega) hu dL_law_722 ?_
  have hPc := hP.sub (ws' := (MW cy a0 a1 a2 a3 a4 a5 a6 a7 ed tc ol nl nw nr ps tm od ne pt)) [0, 1, 2, 3, 4, 5, 6, 7] rfl
  have hDc := (hD.sub (ws' := (MW cy a0 a1 a2 a3 a4 a5 a6 a7 ed tc ol nl nw nr ps tm od ne pt)) [0, 1, 2, 3, 4, 5, 6, 7] (by decide) rfl).weaken (B := fun _ => True) (fun _ _ _ _ => trivial)
  have hFc := va_free (wc := (MW cy a0 a1 a2 a3 a4 a5 a6 a7 ed tc ol nl nw nr ps tm od ne pt)) hD hS hA [0, 1, 2, 3, 4, 5, 6, 7] rfl
  refine z_callE (A := A) (va_runV (As := [.int (iZ u)]) (rest := [.int (iZ (cnt (fun z => 1 ≤ z ∧ 0 < (ms (nw 0) (nw 1) u (flF gp 0 1001) (nw 1)).2 z) 1001))]) ⟨hx, hb, hml, hown, hts⟩ (c_X7_gapSizeCount lau G cy a0 a1 a2 a3 a4 a5 a6 a7 H.size ed tc ol nl nw nr ps tm od ne pt u (by first | omega | assumption) (by first | omega | assumption) (by first | omega | assumption) (by first | omega | assumption)) (cwV 1 hts gL_law_X7_gapSizeCount rfl rfl rfl (by decide +kernel) ⟨Nat.le_of_ble_eq_true rfl, Nat.le_of_ble_eq_true rfl⟩) ⟨P1_blind, va_recv hK hP (ci := 6) (q0 := 0) rfl rfl, P1_mk hKK (⟨rfl, hPc, hDc⟩)⟩ rfl rfl hl.1 rfl (lv_room (Nat.le_of_ble_eq_true rfl)) dL_law_723 ⟨(show (C9 + 0) + 0 ≤ 600000 by omega), (show (D9 + 0) + 0 ≤ 7302250 by omega)⟩) hS.2.2 hFc (fun v H1 locs1 hR hL1 => ?_)
  obtain ⟨rfl, hq723, hP1, hD1, hF1⟩ := hR
  obtain ⟨hP, hD⟩ := va_join (wr := [(xa, .inr (5, [.ref hi, .ref ci, .ref st])), (hi, .inr (1, [.ref ra, .int (iZ nx), .int (iZ kp)])), (ra, .inl (cy 2, 6, .inr (.inr (.inr (.inr (qf rw9)))))), (ci, .inr (0, [.ref pa, .ref ga])), (pa, .inl (cy 1, 1000, .inl (zf (lyC pt1 (nw 0) (nw 1) u)))), (ga, .inl (cy 0, 1001, .inl (zf (ms (nw 0) (nw 1) u (flF gp 0 1001) (nw 1)).2))), (st, .inr (3, [.ref sl, .ref wo])), (sl, .inr (2, [.int (iZ (nw 0)), .int (iZ (nw 1)), .int (iZ (nw 2))])), (wo, .inr (4, [.long (lZ b), .int (iZ (nw 3))]))]) (w1 := (MW cy a0 a1 a2 a3 a4 a5 a6 a7 ed tc ol nl nw nr ps tm od ne (lyP pt (nw 0) (nw 1) u))) hP hD [0, 1, 2, 3, 4, 5, 6, 7] [8, 9, 10, 11, 12, 13, 14, 15, 16] rfl rfl (by decide) (by decide) hF1.2 hFc hP1 hD1
  have hS : va_S A s.heap H1 locs1 := Fh.S ((Fh.of hS).tr hF1 (fun q _ h => hFc q h)) hL1
  have hHS := hHS.fx hF1 [0, 1, 2, 3, 4, 5, 6, 7] rfl
  clear hPc hDc hFc hP1 hD1 hF1 hL1
  generalize H1 = H at hP hS hHS ⊢
  have hP : va_P G vwCl [(xa, .inr (5, [.ref hi, .ref ci, .ref st])), (hi, .inr (1, [.ref ra, .int (iZ nx), .int (iZ kp)])), (ra, .inl (cy 2, 6, .inr (.inr (.inr (.inr (qf rw9)))))), (ci, .inr (0, [.ref pa, .ref ga])), (pa, .inl (cy 1, 1000, .inl (zf (lyC pt1 (nw 0) (nw 1) u)))), (ga, .inl (cy 0, 1001, .inl (zf (ms (nw 0) (nw 1) u (flF gp 0 1001) (nw 1)).2))), (st, .inr (3, [.ref sl, .ref wo])), (sl, .inr (2, [.int (iZ (nw 0)), .int (iZ (nw 1)), .int (iZ (nw 2))])), (wo, .inr (4, [.long (lZ b), .int (iZ (nw 3))])), (a0, .inr (6, [.ref a1, .ref a2, .ref a3, .int (iZ ed), .ref a4, .int (iZ tc), .ref a5, .int (iZ ol), .ref a6, .int (iZ nl), .ref a7])), (a1, .inl (cy 0, 64, .inl (zf nw))), (a2, .inl (cy 0, 64, .inl (zf nr))), (a3, .inl (cy 0, 384, .inl (zf ps))), (a4, .inl (cy 0, 20, .inl (zf tm))), (a5, .inl (cy 0, 60, .inl (zf od))), (a6, .inl (cy 0, 60, .inl (zf ne))), (a7, .inl (cy 1, 1000, .inl (zf (lyP pt (nw 0) (nw 1) u))))] H := hP
  have hD : va_D A [(xa, .inr (5, [.ref hi, .ref ci, .ref st])), (hi, .inr (1, [.ref ra, .int (iZ nx), .int (iZ kp)])), (ra, .inl (cy 2, 6, .inr (.inr (.inr (.inr (qf rw9)))))), (ci, .inr (0, [.ref pa, .ref ga])), (pa, .inl (cy 1, 1000, .inl (zf (lyC pt1 (nw 0) (nw 1) u)))), (ga, .inl (cy 0, 1001, .inl (zf (ms (nw 0) (nw 1) u (flF gp 0 1001) (nw 1)).2))), (st, .inr (3, [.ref sl, .ref wo])), (sl, .inr (2, [.int (iZ (nw 0)), .int (iZ (nw 1)), .int (iZ (nw 2))])), (wo, .inr (4, [.long (lZ b), .int (iZ (nw 3))])), (a0, .inr (6, [.ref a1, .ref a2, .ref a3, .int (iZ ed), .ref a4, .int (iZ tc), .ref a5, .int (iZ ol), .ref a6, .int (iZ nl), .ref a7])), (a1, .inl (cy 0, 64, .inl (zf nw))), (a2, .inl (cy 0, 64, .inl (zf nr))), (a3, .inl (cy 0, 384, .inl (zf ps))), (a4, .inl (cy 0, 20, .inl (zf tm))), (a5, .inl (cy 0, 60, .inl (zf od))), (a6, .inl (cy 0, 60, .inl (zf ne))), (a7, .inl (cy 1, 1000, .inl (zf (lyP pt (nw 0) (nw 1) u))))] := hD
  have hP := hP.sub (ws' := (MW cy a0 a1 a2 a3 a4 a5 a6 a7 ed tc ol nl nw nr ps tm od ne (lyP pt (nw 0) (nw 1) u) ++ CW cy xa hi ra ci pa ga st nx kp rw9 (lyC pt1 (nw 0) (nw 1) u) ((ms (nw 0) (nw 1) u (flF gp 0 1001) (nw 1)).2) ++ S3 st sl wo (nw 0) (nw 1) (nw 2) b (nw 3))) [9, 10, 11, 12, 13, 14, 15, 16, 0, 1, 2, 3, 4, 5, 6, 7, 8] rfl
  have hD := hD.sub (ws' := (MW cy a0 a1 a2 a3 a4 a5 a6 a7 ed tc ol nl nw nr ps tm od ne (lyP pt (nw 0) (nw 1) u) ++ CW cy xa hi ra ci pa ga st nx kp rw9 (lyC pt1 (nw 0) (nw 1) u) ((ms (nw 0) (nw 1) u (flF gp 0 1001) (nw 1)).2) ++ S3 st sl wo (nw 0) (nw 1) (nw 2) b (nw 3))) [9, 10, 11, 12, 13, 14, 15, 16, 0, 1, 2, 3, 4, 5, 6, 7, 8] (by decide) rfl
  refine W.eq (g2 := F0 mt 726 ls [.int (iZ (gpR (nw 0) (nw 1) u (-1))), .int (iZ (cnt (fun z => 1 ≤ z ∧ 0 < (ms (nw 0) (nw 1) u (flF gp 0 1001) (nw 1)).2 z) 1001))]) rfl ?_
  refine z_same (tgt := 810) hx hb dL_law_726 (by decide) (j_gcount (by omega) (by omega)) ?_
  refine W.widen (k := C9 + 30) (n := D9 + 120) (by omega) (by omega) ?_
  exact K _ _ _ (LInv.mk hP hD ⟨rfl, rfl, rfl, rfl, hw, hq, hn.2⟩ hHS hke he hnx (lyP_b hpt)) hS hl
end LC
