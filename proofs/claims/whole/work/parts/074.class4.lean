set_option maxHeartbeats 4000000 in
set_option maxRecDepth 100000 in
theorem c_X6_changeSlope (lau : Launch) (G : va_G) (cy : Nat → ClassId) (xa hi ci st ra sl wo s2 : Nat) (sz : Nat) (nx kp : Int) (rw9 : Int → Option Nat) (hnx : 0 ≤ nx ∧ nx < 6) (hkp : 0 ≤ kp ∧ kp ≤ 6) : Met lau yX6_changeSlope wsX6_changeSlope ({ frames := 2, cells := 1, slots := 2, locals := 42 }) (P1 G cy [.ref xa, .ref s2] (fun H => H.size = sz ∧ va_P G vwCl [(xa, .inr (5, [.ref hi, .ref ci, .ref st])), (hi, .inr (1, [.ref ra, .int (iZ nx), .int (iZ kp)])), (ra, .inl (cy 2, 6, .inr (.inr (.inr (.inr (qf rw9))))))] H ∧ va_D (fun _ => True) [(xa, .inr (5, [.ref hi, .ref ci, .ref st])), (hi, .inr (1, [.ref ra, .int (iZ nx), .int (iZ kp)])), (ra, .inl (cy 2, 6, .inr (.inr (.inr (.inr (qf rw9))))))] ∧ va_P G vwCl [(st, .inr (3, [.ref sl, .ref wo]))] H ∧ NA (va_A [(xa, .inr (5, [.ref hi, .ref ci, .ref st])), (hi, .inr (1, [.ref ra, .int (iZ nx), .int (iZ kp)])), (ra, .inl (cy 2, 6, .inr (.inr (.inr (.inr (qf rw9))))))] sz) [(st, .inr (3, [.ref sl, .ref wo]))])) (Q1 (fun rv H0 H1 => ∃ (ns : Nat), rv = none ∧ (True) ∧ va_P G vwCl [(xa, .inr (5, [.ref hi, .ref ci, .ref ns])), (hi, .inr (1, [.ref ra, .int (iZ (nxF nx)), .int (iZ (kpF kp))])), (ra, .inl (cy 2, 6, .inr (.inr (.inr (.inr (qf (upq rw9 nx (some st)))))))), (ns, .inr (3, [.ref s2, .ref wo]))] H1 ∧ va_D (va_A [(xa, .inr (5, [.ref hi, .ref ci, .ref st])), (hi, .inr (1, [.ref ra, .int (iZ nx), .int (iZ kp)])), (ra, .inl (cy 2, 6, .inr (.inr (.inr (.inr (qf rw9))))))] sz) [(xa, .inr (5, [.ref hi, .ref ci, .ref ns])), (hi, .inr (1, [.ref ra, .int (iZ (nxF nx)), .int (iZ (kpF kp))])), (ra, .inl (cy 2, 6, .inr (.inr (.inr (.inr (qf (upq rw9 nx (some st)))))))), (ns, .inr (3, [.ref s2, .ref wo]))] ∧ Fh (va_A [(xa, .inr (5, [.ref hi, .ref ci, .ref st])), (hi, .inr (1, [.ref ra, .int (iZ nx), .int (iZ kp)])), (ra, .inl (cy 2, 6, .inr (.inr (.inr (.inr (qf rw9))))))] sz) H0 H1)) 1 2 (va_A [(xa, .inr (5, [.ref hi, .ref ci, .ref st])), (hi, .inr (1, [.ref ra, .int (iZ nx), .int (iZ kp)])), (ra, .inl (cy 2, 6, .inr (.inr (.inr (.inr (qf rw9))))))] sz) := by
  refine z_head (lv := [(0, .ref xa), (1, .ref s2)]) RX6 (by decide) rfl rfl (Nat.le_of_ble_eq_true rfl) rfl ?_
  intro pr ev s mt below meth cd ls hx hb hr hlocks hml hown hname hts hKK hP hl
  have hK := hKK.1
  obtain ⟨hsz, hP, hD0, hI0, hIA⟩ := hP
  subst hsz
  have hD := hD0.self (sz := s.heap.size)
  generalize hAe : va_A [(xa, .inr (5, [.ref hi, .ref ci, .ref st])), (hi, .inr (1, [.ref ra, .int (iZ nx), .int (iZ kp)])), (ra, .inl (cy 2, 6, .inr (.inr (.inr (.inr (qf rw9))))))] s.heap.size = A at hD hIA ⊢
  have hA : ∀ q : Nat, s.heap.size ≤ q → A q := fun q h => by rw [← hAe]; exact Or.inr h
  have hS : va_S A s.heap s.heap [] := va_S.rf
  have hP : va_P G vwCl [(xa, .inr (5, [.ref hi, .ref ci, .ref st])), (hi, .inr (1, [.ref ra, .int (iZ nx), .int (iZ kp)])), (ra, .inl (cy 2, 6, .inr (.inr (.inr (.inr (qf rw9))))))] s.heap := hP
  have hI : va_P G vwCl [(st, .inr (3, [.ref sl, .ref wo]))] s.heap := hI0
  refine lv_aload_n hx hb dX6_changeSlope_0 rfl (lv_at hl 0 rfl) ?_
  refine va_get (D := G) (ci := 5) (v := .ref hi) (C := RX6) (T := TX6) (N := 3) hx hb hts (by decide +kernel) hown hK hP 0 rfl rfl 0 (by decide) (hts (.fieldLink RX6 10 "SturmianWords" "history" "LSturmianWords$History;") (by decide +kernel)) (fun _ h9 => h9) rfl dX6_changeSlope_1 ?_
  refine lv_aload_n hx hb dX6_changeSlope_4 rfl (lv_at hl 0 rfl) ?_
  refine va_get (D := G) (ci := 5) (v := .ref st) (C := RX6) (T := TX6) (N := 3) hx hb hts (by decide +kernel) hown hK hP 0 rfl rfl 2 (by decide) (hts (.fieldLink RX6 38 "SturmianWords" "state" "LSturmianWords$State;") (by decide +kernel)) (fun _ h9 => h9) rfl dX6_changeSlope_5 ?_
  have hPc := hP.sub (ws' := [(hi, .inr (1, [.ref ra, .int (iZ nx), .int (iZ kp)])), (ra, .inl (cy 2, 6, .inr (.inr (.inr (.inr (qf rw9))))))]) [1, 2] rfl
  have hDc := (hD.sub (ws' := [(hi, .inr (1, [.ref ra, .int (iZ nx), .int (iZ kp)])), (ra, .inl (cy 2, 6, .inr (.inr (.inr (.inr (qf rw9))))))]) [1, 2] (by decide) rfl).weaken (B := fun _ => True) (fun _ _ _ _ => trivial)
  have hFc := va_free (wc := [(hi, .inr (1, [.ref ra, .int (iZ nx), .int (iZ kp)])), (ra, .inl (cy 2, 6, .inr (.inr (.inr (.inr (qf rw9))))))]) hD hS hA [1, 2] rfl
  have hIc : va_P G vwCl [(st, .inr (3, [.ref sl, .ref wo]))] s.heap := (hI.sub (ws' := [(st, .inr (3, [.ref sl, .ref wo]))]) [0] rfl)
  have hIAc : NA (va_A [(hi, .inr (1, [.ref ra, .int (iZ nx), .int (iZ kp)])), (ra, .inl (cy 2, 6, .inr (.inr (.inr (.inr (qf rw9))))))] s.heap.size) [(st, .inr (3, [.ref sl, .ref wo]))] := NA.cons (fun z => hIA.at 0 rfl (hFc _ z)) (NA.nil)
  refine z_callE (A := A) (va_runV (As := [.ref st]) (rest := []) ⟨hx, hb, hml, hown, hts⟩ (c_X1_keep lau G cy hi ra st sl wo s.heap.size nx kp rw9 (by first | omega | assumption) (by first | omega | assumption)) (cwV 1 hts gX6_changeSlope_X1_keep rfl rfl rfl (by decide +kernel) ⟨Nat.le_of_ble_eq_true rfl, Nat.le_of_ble_eq_true rfl⟩) ⟨P1_blind, va_recv hK hP (ci := 1) (q0 := 1) rfl rfl, P1_mk hKK (⟨rfl, hPc, hDc, hIc, hIAc⟩)⟩ rfl rfl hl.1 rfl (lv_room (Nat.le_of_ble_eq_true rfl)) dX6_changeSlope_8 ⟨(show 0 + 0 ≤ 1 by omega), (show 0 + 0 ≤ 2 by omega)⟩) hS.2.2 hFc (fun v H1 locs1 hR hL1 => ?_)
  obtain ⟨rfl, hq8, hP1, hD1, hF1⟩ := hR
  obtain ⟨hP, hD⟩ := va_join (wr := [(xa, .inr (5, [.ref hi, .ref ci, .ref st]))]) (w1 := [(hi, .inr (1, [.ref ra, .int (iZ (nxF nx)), .int (iZ (kpF kp))])), (ra, .inl (cy 2, 6, .inr (.inr (.inr (.inr (qf (upq rw9 nx (some st))))))))]) hP hD [1, 2] [0] rfl rfl (by decide) (by decide) hF1.2 hFc hP1 hD1
  have hS : va_S A s.heap H1 locs1 := Fh.S ((Fh.of hS).tr hF1 (fun q _ h => hFc q h)) hL1
  clear hPc hDc hFc hP1 hD1 hF1 hL1 hIc hIAc
  generalize H1 = H at hP hS ⊢
  have hP : va_P G vwCl [(xa, .inr (5, [.ref hi, .ref ci, .ref st])), (hi, .inr (1, [.ref ra, .int (iZ (nxF nx)), .int (iZ (kpF kp))])), (ra, .inl (cy 2, 6, .inr (.inr (.inr (.inr (qf (upq rw9 nx (some st))))))))] H := hP
  have hD : va_D A [(xa, .inr (5, [.ref hi, .ref ci, .ref st])), (hi, .inr (1, [.ref ra, .int (iZ (nxF nx)), .int (iZ (kpF kp))])), (ra, .inl (cy 2, 6, .inr (.inr (.inr (.inr (qf (upq rw9 nx (some st))))))))] := hD
  have hP := hP.sub (ws' := [(xa, .inr (5, [.ref hi, .ref ci, .ref st])), (hi, .inr (1, [.ref ra, .int (iZ (nxF nx)), .int (iZ (kpF kp))])), (ra, .inl (cy 2, 6, .inr (.inr (.inr (.inr (qf (upq rw9 nx (some st))))))))]) [0, 1, 2] rfl
  have hD := hD.sub (ws' := [(xa, .inr (5, [.ref hi, .ref ci, .ref st])), (hi, .inr (1, [.ref ra, .int (iZ (nxF nx)), .int (iZ (kpF kp))])), (ra, .inl (cy 2, 6, .inr (.inr (.inr (.inr (qf (upq rw9 nx (some st))))))))]) [0, 1, 2] (by decide) rfl
  refine W.eq (g2 := F0 mt 11 ls []) rfl ?_
  have hI : va_P G vwCl [(st, .inr (3, [.ref sl, .ref wo]))] H := im_keep2 hI0 hIA (Fh.of hS)
  refine lv_aload_n hx hb dX6_changeSlope_11 rfl (lv_at hl 0 rfl) ?_
  refine va_new (D := G) (ci := 3) (fs := [.null, .null]) (C := RX4) (T := TX4) (N := 2) hx hb hts (by decide +kernel) tyX4 tyX4_ok hown (hts (.classLink RX6 23 RX4) (by decide +kernel)) (hts (.instantiable RX4 2) (by decide +kernel)) (hts (.initialized RX4) (by decide +kernel)) hK hP hD hS hA rfl (fun j hj => by rcases (show j = 0 ∨ j = 1 by omega) with rfl | rfl <;> rfl) (show 0 + 1 ≤ 1 by omega) (show 0 + 2 ≤ 2 by omega) dX6_changeSlope_12 (fun n12_1 H hP hD hS => ?_)
  have hP : va_P G vwCl [(xa, .inr (5, [.ref hi, .ref ci, .ref st])), (hi, .inr (1, [.ref ra, .int (iZ (nxF nx)), .int (iZ (kpF kp))])), (ra, .inl (cy 2, 6, .inr (.inr (.inr (.inr (qf (upq rw9 nx (some st)))))))), (n12_1, .inr (3, [.null, .null]))] H := hP
  have hD : va_D A [(xa, .inr (5, [.ref hi, .ref ci, .ref st])), (hi, .inr (1, [.ref ra, .int (iZ (nxF nx)), .int (iZ (kpF kp))])), (ra, .inl (cy 2, 6, .inr (.inr (.inr (.inr (qf (upq rw9 nx (some st)))))))), (n12_1, .inr (3, [.null, .null]))] := hD
  have hI : va_P G vwCl [(st, .inr (3, [.ref sl, .ref wo]))] H := im_keep2 hI0 hIA (Fh.of hS)
  refine lv_dup hx hb dX6_changeSlope_15 rfl ?_
  refine lv_aload_n hx hb dX6_changeSlope_16 rfl (lv_at hl 1 rfl) ?_
  refine lv_aload_n hx hb dX6_changeSlope_17 rfl (lv_at hl 0 rfl) ?_
  refine va_get (D := G) (ci := 5) (v := .ref st) (C := RX6) (T := TX6) (N := 3) hx hb hts (by decide +kernel) hown hK hP 0 rfl rfl 2 (by decide) (hts (.fieldLink RX6 38 "SturmianWords" "state" "LSturmianWords$State;") (by decide +kernel)) (fun _ h9 => h9) rfl dX6_changeSlope_18 ?_
  refine va_getN (D := G) (ci := 3) (v := .ref wo) (C := RX4) (T := TX4) (N := 2) hx hb hts (by decide +kernel) hown hK hI 0 rfl rfl 1 (by decide) (va_Nw.use rfl (hKK.2 (.fieldLinkNest RX6 96 "SturmianWords$State" "word" "LSturmianWords$Word;" "SturmianWords") (by decide +kernel))) (fun _ h9 => h9) rfl dX6_changeSlope_21 ?_
  have hPc := hP.sub (ws' := [(n12_1, .inr (3, [.null, .null]))]) [3] rfl
  have hDc := (hD.sub (ws' := [(n12_1, .inr (3, [.null, .null]))]) [3] (by decide) rfl).weaken (B := fun _ => True) (fun _ _ _ _ => trivial)
  have hFc := va_free (wc := [(n12_1, .inr (3, [.null, .null]))]) hD hS hA [3] rfl
  refine z_callE (A := A) (va_runI (As := [.ref s2, .ref wo]) (rest := [.ref n12_1, .ref xa]) ⟨hx, hb, hml, hown, hts⟩ (c_X4_init lau G cy n12_1 s2 wo H.size) (cwI 2 hts gX6_changeSlope_X4_init rfl rfl rfl (hts (.initialized RX4) (by decide +kernel)) (hts (.methodLink RX6 35 yX4_init) (by decide +kernel)) (hts (.instanceMethod yX4_init) (by decide +kernel)) rfl (by decide +kernel) ⟨Nat.le_of_ble_eq_true rfl, Nat.le_of_ble_eq_true rfl⟩) ⟨P1_blind, P1_mk hKK (⟨rfl, hPc, hDc⟩)⟩ rfl rfl hl.1 rfl (lv_room (Nat.le_of_ble_eq_true rfl)) dX6_changeSlope_24 ⟨(show 1 + 0 ≤ 1 by omega), (show 2 + 0 ≤ 2 by omega)⟩) hS.2.2 hFc (fun v H1 locs1 hR hL1 => ?_)
  obtain ⟨rfl, hq24, hP1, hD1, hF1⟩ := hR
  obtain ⟨hP, hD⟩ := va_join (wr := [(xa, .inr (5, [.ref hi, .ref ci, .ref st])), (hi, .inr (1, [.ref ra, .int (iZ (nxF nx)), .int (iZ (kpF kp))])), (ra, .inl (cy 2, 6, .inr (.inr (.inr (.inr (qf (upq rw9 nx (some st))))))))]) (w1 := [(n12_1, .inr (3, [.ref s2, .ref wo]))]) hP hD [3] [0, 1, 2] rfl rfl (by decide) (by decide) hF1.2 hFc hP1 hD1
  have hS : va_S A s.heap H1 locs1 := Fh.S ((Fh.of hS).tr hF1 (fun q _ h => hFc q h)) hL1
  clear hPc hDc hFc hP1 hD1 hF1 hL1
  generalize H1 = H at hP hS ⊢
  have hP : va_P G vwCl [(xa, .inr (5, [.ref hi, .ref ci, .ref st])), (hi, .inr (1, [.ref ra, .int (iZ (nxF nx)), .int (iZ (kpF kp))])), (ra, .inl (cy 2, 6, .inr (.inr (.inr (.inr (qf (upq rw9 nx (some st)))))))), (n12_1, .inr (3, [.ref s2, .ref wo]))] H := hP
  have hD : va_D A [(xa, .inr (5, [.ref hi, .ref ci, .ref st])), (hi, .inr (1, [.ref ra, .int (iZ (nxF nx)), .int (iZ (kpF kp))])), (ra, .inl (cy 2, 6, .inr (.inr (.inr (.inr (qf (upq rw9 nx (some st)))))))), (n12_1, .inr (3, [.ref s2, .ref wo]))] := hD
  have hP := hP.sub (ws' := [(xa, .inr (5, [.ref hi, .ref ci, .ref st])), (hi, .inr (1, [.ref ra, .int (iZ (nxF nx)), .int (iZ (kpF kp))])), (ra, .inl (cy 2, 6, .inr (.inr (.inr (.inr (qf (upq rw9 nx (some st)))))))), (n12_1, .inr (3, [.ref s2, .ref wo]))]) [0, 1, 2, 3] rfl
  have hD := hD.sub (ws' := [(xa, .inr (5, [.ref hi, .ref ci, .ref st])), (hi, .inr (1, [.ref ra, .int (iZ (nxF nx)), .int (iZ (kpF kp))])), (ra, .inl (cy 2, 6, .inr (.inr (.inr (.inr (qf (upq rw9 nx (some st)))))))), (n12_1, .inr (3, [.ref s2, .ref wo]))]) [0, 1, 2, 3] (by decide) rfl
  refine W.eq (g2 := F0 mt 27 ls [.ref n12_1, .ref xa]) rfl ?_
  have hI : va_P G vwCl [(st, .inr (3, [.ref sl, .ref wo]))] H := im_keep2 hI0 hIA (Fh.of hS)
  refine va_put (D := G) (ci := 5) (v := .ref n12_1) (ty := .object "SturmianWords$State") (C := RX6) (T := TX6) (N := 3) hx hb hts (by decide +kernel) tyX6 tyX6_ok nmX6 hown hK hP hD hS 0 rfl rfl 2 (by decide) (hts (.fieldLink RX6 38 "SturmianWords" "state" "LSturmianWords$State;") (by decide +kernel)) (fun _ h9 => h9) rfl (by decide +kernel) rfl rfl (Nat.le_of_ble_eq_true rfl) dX6_changeSlope_27 (fun H locs hP hD hS => ?_)
  have hP : va_P G vwCl [(xa, .inr (5, [.ref hi, .ref ci, .ref n12_1])), (hi, .inr (1, [.ref ra, .int (iZ (nxF nx)), .int (iZ (kpF kp))])), (ra, .inl (cy 2, 6, .inr (.inr (.inr (.inr (qf (upq rw9 nx (some st)))))))), (n12_1, .inr (3, [.ref s2, .ref wo]))] H := hP
  have hD : va_D A [(xa, .inr (5, [.ref hi, .ref ci, .ref n12_1])), (hi, .inr (1, [.ref ra, .int (iZ (nxF nx)), .int (iZ (kpF kp))])), (ra, .inl (cy 2, 6, .inr (.inr (.inr (.inr (qf (upq rw9 nx (some st)))))))), (n12_1, .inr (3, [.ref s2, .ref wo]))] := hD
  have hI : va_P G vwCl [(st, .inr (3, [.ref sl, .ref wo]))] H := im_keep2 hI0 hIA (Fh.of hS)
  exact z_vretE hx hb hr hlocks dX6_changeSlope_30 hS.2.2 ⟨(show 1 ≤ 1 by omega), (show 2 ≤ 2 by omega)⟩ ⟨n12_1, (rfl), (trivial), (hP), (hD), Fh.of hS⟩
set_option maxHeartbeats 4000000 in
set_option maxRecDepth 100000 in
theorem c_X6_changeWord (lau : Launch) (G : va_G) (cy : Nat → ClassId) (xa hi ci st ra sl wo s2 : Nat) (sz : Nat) (nx kp : Int) (rw9 : Int → Option Nat) (hnx : 0 ≤ nx ∧ nx < 6) (hkp : 0 ≤ kp ∧ kp ≤ 6) : Met lau yX6_changeWord wsX6_changeWord ({ frames := 2, cells := 1, slots := 2, locals := 42 }) (P1 G cy [.ref xa, .ref s2] (fun H => H.size = sz ∧ va_P G vwCl [(xa, .inr (5, [.ref hi, .ref ci, .ref st])), (hi, .inr (1, [.ref ra, .int (iZ nx), .int (iZ kp)])), (ra, .inl (cy 2, 6, .inr (.inr (.inr (.inr (qf rw9))))))] H ∧ va_D (fun _ => True) [(xa, .inr (5, [.ref hi, .ref ci, .ref st])), (hi, .inr (1, [.ref ra, .int (iZ nx), .int (iZ kp)])), (ra, .inl (cy 2, 6, .inr (.inr (.inr (.inr (qf rw9))))))] ∧ va_P G vwCl [(st, .inr (3, [.ref sl, .ref wo]))] H ∧ NA (va_A [(xa, .inr (5, [.ref hi, .ref ci, .ref st])), (hi, .inr (1, [.ref ra, .int (iZ nx), .int (iZ kp)])), (ra, .inl (cy 2, 6, .inr (.inr (.inr (.inr (qf rw9))))))] sz) [(st, .inr (3, [.ref sl, .ref wo]))])) (Q1 (fun rv H0 H1 => ∃ (ns : Nat), rv = none ∧ (True) ∧ va_P G vwCl [(xa, .inr (5, [.ref hi, .ref ci, .ref ns])), (hi, .inr (1, [.ref ra, .int (iZ (nxF nx)), .int (iZ (kpF kp))])), (ra, .inl (cy 2, 6, .inr (.inr (.inr (.inr (qf (upq rw9 nx (some st)))))))), (ns, .inr (3, [.ref sl, .ref s2]))] H1 ∧ va_D (va_A [(xa, .inr (5, [.ref hi, .ref ci, .ref st])), (hi, .inr (1, [.ref ra, .int (iZ nx), .int (iZ kp)])), (ra, .inl (cy 2, 6, .inr (.inr (.inr (.inr (qf rw9))))))] sz) [(xa, .inr (5, [.ref hi, .ref ci, .ref ns])), (hi, .inr (1, [.ref ra, .int (iZ (nxF nx)), .int (iZ (kpF kp))])), (ra, .inl (cy 2, 6, .inr (.inr (.inr (.inr (qf (upq rw9 nx (some st)))))))), (ns, .inr (3, [.ref sl, .ref s2]))] ∧ Fh (va_A [(xa, .inr (5, [.ref hi, .ref ci, .ref st])), (hi, .inr (1, [.ref ra, .int (iZ nx), .int (iZ kp)])), (ra, .inl (cy 2, 6, .inr (.inr (.inr (.inr (qf rw9))))))] sz) H0 H1)) 1 2 (va_A [(xa, .inr (5, [.ref hi, .ref ci, .ref st])), (hi, .inr (1, [.ref ra, .int (iZ nx), .int (iZ kp)])), (ra, .inl (cy 2, 6, .inr (.inr (.inr (.inr (qf rw9))))))] sz) := by
  refine z_head (lv := [(0, .ref xa), (1, .ref s2)]) RX6 (by decide) rfl rfl (Nat.le_of_ble_eq_true rfl) rfl ?_
  intro pr ev s mt below meth cd ls hx hb hr hlocks hml hown hname hts hKK hP hl
  have hK := hKK.1
  obtain ⟨hsz, hP, hD0, hI0, hIA⟩ := hP
  subst hsz
  have hD := hD0.self (sz := s.heap.size)
  generalize hAe : va_A [(xa, .inr (5, [.ref hi, .ref ci, .ref st])), (hi, .inr (1, [.ref ra, .int (iZ nx), .int (iZ kp)])), (ra, .inl (cy 2, 6, .inr (.inr (.inr (.inr (qf rw9))))))] s.heap.size = A at hD hIA ⊢
  have hA : ∀ q : Nat, s.heap.size ≤ q → A q := fun q h => by rw [← hAe]; exact Or.inr h
  have hS : va_S A s.heap s.heap [] := va_S.rf
  have hP : va_P G vwCl [(xa, .inr (5, [.ref hi, .ref ci, .ref st])), (hi, .inr (1, [.ref ra, .int (iZ nx), .int (iZ kp)])), (ra, .inl (cy 2, 6, .inr (.inr (.inr (.inr (qf rw9))))))] s.heap := hP
  have hI : va_P G vwCl [(st, .inr (3, [.ref sl, .ref wo]))] s.heap := hI0
  refine lv_aload_n hx hb dX6_changeWord_0 rfl (lv_at hl 0 rfl) ?_
  refine va_get (D := G) (ci := 5) (v := .ref hi) (C := RX6) (T := TX6) (N := 3) hx hb hts (by decide +kernel) hown hK hP 0 rfl rfl 0 (by decide) (hts (.fieldLink RX6 10 "SturmianWords" "history" "LSturmianWords$History;") (by decide +kernel)) (fun _ h9 => h9) rfl dX6_changeWord_1 ?_
  refine lv_aload_n hx hb dX6_changeWord_4 rfl (lv_at hl 0 rfl) ?_
  refine va_get (D := G) (ci := 5) (v := .ref st) (C := RX6) (T := TX6) (N := 3) hx hb hts (by decide +kernel) hown hK hP 0 rfl rfl 2 (by decide) (hts (.fieldLink RX6 38 "SturmianWords" "state" "LSturmianWords$State;") (by decide +kernel)) (fun _ h9 => h9) rfl dX6_changeWord_5 ?_
  have hPc := hP.sub (ws' := [(hi, .inr (1, [.ref ra, .int (iZ nx), .int (iZ kp)])), (ra, .inl (cy 2, 6, .inr (.inr (.inr (.inr (qf rw9))))))]) [1, 2] rfl
  have hDc := (hD.sub (ws' := [(hi, .inr (1, [.ref ra, .int (iZ nx), .int (iZ kp)])), (ra, .inl (cy 2, 6, .inr (.inr (.inr (.inr (qf rw9))))))]) [1, 2] (by decide) rfl).weaken (B := fun _ => True) (fun _ _ _ _ => trivial)
  have hFc := va_free (wc := [(hi, .inr (1, [.ref ra, .int (iZ nx), .int (iZ kp)])), (ra, .inl (cy 2, 6, .inr (.inr (.inr (.inr (qf rw9))))))]) hD hS hA [1, 2] rfl
  have hIc : va_P G vwCl [(st, .inr (3, [.ref sl, .ref wo]))] s.heap := (hI.sub (ws' := [(st, .inr (3, [.ref sl, .ref wo]))]) [0] rfl)
  have hIAc : NA (va_A [(hi, .inr (1, [.ref ra, .int (iZ nx), .int (iZ kp)])), (ra, .inl (cy 2, 6, .inr (.inr (.inr (.inr (qf rw9))))))] s.heap.size) [(st, .inr (3, [.ref sl, .ref wo]))] := NA.cons (fun z => hIA.at 0 rfl (hFc _ z)) (NA.nil)
  refine z_callE (A := A) (va_runV (As := [.ref st]) (rest := []) ⟨hx, hb, hml, hown, hts⟩ (c_X1_keep lau G cy hi ra st sl wo s.heap.size nx kp rw9 (by first | omega | assumption) (by first | omega | assumption)) (cwV 1 hts gX6_changeWord_X1_keep rfl rfl rfl (by decide +kernel) ⟨Nat.le_of_ble_eq_true rfl, Nat.le_of_ble_eq_true rfl⟩) ⟨P1_blind, va_recv hK hP (ci := 1) (q0 := 1) rfl rfl, P1_mk hKK (⟨rfl, hPc, hDc, hIc, hIAc⟩)⟩ rfl rfl hl.1 rfl (lv_room (Nat.le_of_ble_eq_true rfl)) dX6_changeWord_8 ⟨(show 0 + 0 ≤ 1 by omega), (show 0 + 0 ≤ 2 by omega)⟩) hS.2.2 hFc (fun v H1 locs1 hR hL1 => ?_)
  obtain ⟨rfl, hq8, hP1, hD1, hF1⟩ := hR
  obtain ⟨hP, hD⟩ := va_join (wr := [(xa, .inr (5, [.ref hi, .ref ci, .ref st]))]) (w1 := [(hi, .inr (1, [.ref ra, .int (iZ (nxF nx)), .int (iZ (kpF kp))])), (ra, .inl (cy 2, 6, .inr (.inr (.inr (.inr (qf (upq rw9 nx (some st))))))))]) hP hD [1, 2] [0] rfl rfl (by decide) (by decide) hF1.2 hFc hP1 hD1
  have hS : va_S A s.heap H1 locs1 := Fh.S ((Fh.of hS).tr hF1 (fun q _ h => hFc q h)) hL1
  clear hPc hDc hFc hP1 hD1 hF1 hL1 hIc hIAc
  generalize H1 = H at hP hS ⊢
  have hP : va_P G vwCl [(xa, .inr (5, [.ref hi, .ref ci, .ref st])), (hi, .inr (1, [.ref ra, .int (iZ (nxF nx)), .int (iZ (kpF kp))])), (ra, .inl (cy 2, 6, .inr (.inr (.inr (.inr (qf (upq rw9 nx (some st))))))))] H := hP
  have hD : va_D A [(xa, .inr (5, [.ref hi, .ref ci, .ref st])), (hi, .inr (1, [.ref ra, .int (iZ (nxF nx)), .int (iZ (kpF kp))])), (ra, .inl (cy 2, 6, .inr (.inr (.inr (.inr (qf (upq rw9 nx (some st))))))))] := hD
  have hP := hP.sub (ws' := [(xa, .inr (5, [.ref hi, .ref ci, .ref st])), (hi, .inr (1, [.ref ra, .int (iZ (nxF nx)), .int (iZ (kpF kp))])), (ra, .inl (cy 2, 6, .inr (.inr (.inr (.inr (qf (upq rw9 nx (some st))))))))]) [0, 1, 2] rfl
  have hD := hD.sub (ws' := [(xa, .inr (5, [.ref hi, .ref ci, .ref st])), (hi, .inr (1, [.ref ra, .int (iZ (nxF nx)), .int (iZ (kpF kp))])), (ra, .inl (cy 2, 6, .inr (.inr (.inr (.inr (qf (upq rw9 nx (some st))))))))]) [0, 1, 2] (by decide) rfl
  refine W.eq (g2 := F0 mt 11 ls []) rfl ?_
  have hI : va_P G vwCl [(st, .inr (3, [.ref sl, .ref wo]))] H := im_keep2 hI0 hIA (Fh.of hS)
  refine lv_aload_n hx hb dX6_changeWord_11 rfl (lv_at hl 0 rfl) ?_
  refine va_new (D := G) (ci := 3) (fs := [.null, .null]) (C := RX4) (T := TX4) (N := 2) hx hb hts (by decide +kernel) tyX4 tyX4_ok hown (hts (.classLink RX6 23 RX4) (by decide +kernel)) (hts (.instantiable RX4 2) (by decide +kernel)) (hts (.initialized RX4) (by decide +kernel)) hK hP hD hS hA rfl (fun j hj => by rcases (show j = 0 ∨ j = 1 by omega) with rfl | rfl <;> rfl) (show 0 + 1 ≤ 1 by omega) (show 0 + 2 ≤ 2 by omega) dX6_changeWord_12 (fun n12_1 H hP hD hS => ?_)
  have hP : va_P G vwCl [(xa, .inr (5, [.ref hi, .ref ci, .ref st])), (hi, .inr (1, [.ref ra, .int (iZ (nxF nx)), .int (iZ (kpF kp))])), (ra, .inl (cy 2, 6, .inr (.inr (.inr (.inr (qf (upq rw9 nx (some st)))))))), (n12_1, .inr (3, [.null, .null]))] H := hP
  have hD : va_D A [(xa, .inr (5, [.ref hi, .ref ci, .ref st])), (hi, .inr (1, [.ref ra, .int (iZ (nxF nx)), .int (iZ (kpF kp))])), (ra, .inl (cy 2, 6, .inr (.inr (.inr (.inr (qf (upq rw9 nx (some st)))))))), (n12_1, .inr (3, [.null, .null]))] := hD
  have hI : va_P G vwCl [(st, .inr (3, [.ref sl, .ref wo]))] H := im_keep2 hI0 hIA (Fh.of hS)
  refine lv_dup hx hb dX6_changeWord_15 rfl ?_
  refine lv_aload_n hx hb dX6_changeWord_16 rfl (lv_at hl 0 rfl) ?_
  refine va_get (D := G) (ci := 5) (v := .ref st) (C := RX6) (T := TX6) (N := 3) hx hb hts (by decide +kernel) hown hK hP 0 rfl rfl 2 (by decide) (hts (.fieldLink RX6 38 "SturmianWords" "state" "LSturmianWords$State;") (by decide +kernel)) (fun _ h9 => h9) rfl dX6_changeWord_17 ?_
  refine va_getN (D := G) (ci := 3) (v := .ref sl) (C := RX4) (T := TX4) (N := 2) hx hb hts (by decide +kernel) hown hK hI 0 rfl rfl 0 (by decide) (va_Nw.use rfl (hKK.2 (.fieldLinkNest RX6 54 "SturmianWords$State" "slope" "LSturmianWords$Slope;" "SturmianWords") (by decide +kernel))) (fun _ h9 => h9) rfl dX6_changeWord_20 ?_
  refine lv_aload_n hx hb dX6_changeWord_23 rfl (lv_at hl 1 rfl) ?_
  have hPc := hP.sub (ws' := [(n12_1, .inr (3, [.null, .null]))]) [3] rfl
  have hDc := (hD.sub (ws' := [(n12_1, .inr (3, [.null, .null]))]) [3] (by decide) rfl).weaken (B := fun _ => True) (fun _ _ _ _ => trivial)
  have hFc := va_free (wc := [(n12_1, .inr (3, [.null, .null]))]) hD hS hA [3] rfl
  refine z_callE (A := A) (va_runI (As := [.ref sl, .ref s2]) (rest := [.ref n12_1, .ref xa]) ⟨hx, hb, hml, hown, hts⟩ (c_X4_init lau G cy n12_1 sl s2 H.size) (cwI 2 hts gX6_changeWord_X4_init rfl rfl rfl (hts (.initialized RX4) (by decide +kernel)) (hts (.methodLink RX6 35 yX4_init) (by decide +kernel)) (hts (.instanceMethod yX4_init) (by decide +kernel)) rfl (by decide +kernel) ⟨Nat.le_of_ble_eq_true rfl, Nat.le_of_ble_eq_true rfl⟩) ⟨P1_blind, P1_mk hKK (⟨rfl, hPc, hDc⟩)⟩ rfl rfl hl.1 rfl (lv_room (Nat.le_of_ble_eq_true rfl)) dX6_changeWord_24 ⟨(show 1 + 0 ≤ 1 by omega), (show 2 + 0 ≤ 2 by omega)⟩) hS.2.2 hFc (fun v H1 locs1 hR hL1 => ?_)
  obtain ⟨rfl, hq24, hP1, hD1, hF1⟩ := hR
  obtain ⟨hP, hD⟩ := va_join (wr := [(xa, .inr (5, [.ref hi, .ref ci, .ref st])), (hi, .inr (1, [.ref ra, .int (iZ (nxF nx)), .int (iZ (kpF kp))])), (ra, .inl (cy 2, 6, .inr (.inr (.inr (.inr (qf (upq rw9 nx (some st))))))))]) (w1 := [(n12_1, .inr (3, [.ref sl, .ref s2]))]) hP hD [3] [0, 1, 2] rfl rfl (by decide) (by decide) hF1.2 hFc hP1 hD1
  have hS : va_S A s.heap H1 locs1 := Fh.S ((Fh.of hS).tr hF1 (fun q _ h => hFc q h)) hL1
  clear hPc hDc hFc hP1 hD1 hF1 hL1
  generalize H1 = H at hP hS ⊢
  have hP : va_P G vwCl [(xa, .inr (5, [.ref hi, .ref ci, .ref st])), (hi, .inr (1, [.ref ra, .int (iZ (nxF nx)), .int (iZ (kpF kp))])), (ra, .inl (cy 2, 6, .inr (.inr (.inr (.inr (qf (upq rw9 nx (some st)))))))), (n12_1, .inr (3, [.ref sl, .ref s2]))] H := hP
  have hD : va_D A [(xa, .inr (5, [.ref hi, .ref ci, .ref st])), (hi, .inr (1, [.ref ra, .int (iZ (nxF nx)), .int (iZ (kpF kp))])), (ra, .inl (cy 2, 6, .inr (.inr (.inr (.inr (qf (upq rw9 nx (some st)))))))), (n12_1, .inr (3, [.ref sl, .ref s2]))] := hD
  have hP := hP.sub (ws' := [(xa, .inr (5, [.ref hi, .ref ci, .ref st])), (hi, .inr (1, [.ref ra, .int (iZ (nxF nx)), .int (iZ (kpF kp))])), (ra, .inl (cy 2, 6, .inr (.inr (.inr (.inr (qf (upq rw9 nx (some st)))))))), (n12_1, .inr (3, [.ref sl, .ref s2]))]) [0, 1, 2, 3] rfl
  have hD := hD.sub (ws' := [(xa, .inr (5, [.ref hi, .ref ci, .ref st])), (hi, .inr (1, [.ref ra, .int (iZ (nxF nx)), .int (iZ (kpF kp))])), (ra, .inl (cy 2, 6, .inr (.inr (.inr (.inr (qf (upq rw9 nx (some st)))))))), (n12_1, .inr (3, [.ref sl, .ref s2]))]) [0, 1, 2, 3] (by decide) rfl
  refine W.eq (g2 := F0 mt 27 ls [.ref n12_1, .ref xa]) rfl ?_
  have hI : va_P G vwCl [(st, .inr (3, [.ref sl, .ref wo]))] H := im_keep2 hI0 hIA (Fh.of hS)
  refine va_put (D := G) (ci := 5) (v := .ref n12_1) (ty := .object "SturmianWords$State") (C := RX6) (T := TX6) (N := 3) hx hb hts (by decide +kernel) tyX6 tyX6_ok nmX6 hown hK hP hD hS 0 rfl rfl 2 (by decide) (hts (.fieldLink RX6 38 "SturmianWords" "state" "LSturmianWords$State;") (by decide +kernel)) (fun _ h9 => h9) rfl (by decide +kernel) rfl rfl (Nat.le_of_ble_eq_true rfl) dX6_changeWord_27 (fun H locs hP hD hS => ?_)
  have hP : va_P G vwCl [(xa, .inr (5, [.ref hi, .ref ci, .ref n12_1])), (hi, .inr (1, [.ref ra, .int (iZ (nxF nx)), .int (iZ (kpF kp))])), (ra, .inl (cy 2, 6, .inr (.inr (.inr (.inr (qf (upq rw9 nx (some st)))))))), (n12_1, .inr (3, [.ref sl, .ref s2]))] H := hP
  have hD : va_D A [(xa, .inr (5, [.ref hi, .ref ci, .ref n12_1])), (hi, .inr (1, [.ref ra, .int (iZ (nxF nx)), .int (iZ (kpF kp))])), (ra, .inl (cy 2, 6, .inr (.inr (.inr (.inr (qf (upq rw9 nx (some st)))))))), (n12_1, .inr (3, [.ref sl, .ref s2]))] := hD
  have hI : va_P G vwCl [(st, .inr (3, [.ref sl, .ref wo]))] H := im_keep2 hI0 hIA (Fh.of hS)
  exact z_vretE hx hb hr hlocks dX6_changeWord_30 hS.2.2 ⟨(show 1 ≤ 1 by omega), (show 2 ≤ 2 by omega)⟩ ⟨n12_1, (rfl), (trivial), (hP), (hD), Fh.of hS⟩
set_option maxHeartbeats 4000000 in
set_option maxRecDepth 100000 in
theorem c_X6_setSlope_no (lau : Launch) (G : va_G) (cy : Nat → ClassId) (xa hi ci st ra sl wo : Nat) (sz : Nat) (nx kp : Int) (rw9 : Int → Option Nat) (p q c b n : Int) (p9 q9 : Int) (h1 : -2147483648 ≤ p9 ∧ p9 < 2147483648 ∧ -2147483648 ≤ q9 ∧ q9 < 2147483648) (h2 : ¬ ((1 ≤ q9 ∧ q9 ≤ 1000) ∧ 0 ≤ p9 ∧ p9 ≤ q9)) : Met lau yX6_setSlope wsX6_setSlope ({ frames := 3, cells := 0, slots := 0, locals := 63 }) (P1 G cy [.ref xa, .int (iZ p9), .int (iZ q9)] (fun H => H.size = sz ∧ va_P G vwCl [(xa, .inr (5, [.ref hi, .ref ci, .ref st])), (hi, .inr (1, [.ref ra, .int (iZ nx), .int (iZ kp)])), (ra, .inl (cy 2, 6, .inr (.inr (.inr (.inr (qf rw9))))))] H ∧ va_D (fun _ => True) [(xa, .inr (5, [.ref hi, .ref ci, .ref st])), (hi, .inr (1, [.ref ra, .int (iZ nx), .int (iZ kp)])), (ra, .inl (cy 2, 6, .inr (.inr (.inr (.inr (qf rw9))))))] ∧ va_P G vwCl [(st, .inr (3, [.ref sl, .ref wo])), (sl, .inr (2, [.int (iZ p), .int (iZ q), .int (iZ c)])), (wo, .inr (4, [.long (lZ b), .int (iZ n)]))] H ∧ NA (va_A [(xa, .inr (5, [.ref hi, .ref ci, .ref st])), (hi, .inr (1, [.ref ra, .int (iZ nx), .int (iZ kp)])), (ra, .inl (cy 2, 6, .inr (.inr (.inr (.inr (qf rw9))))))] sz) [(st, .inr (3, [.ref sl, .ref wo])), (sl, .inr (2, [.int (iZ p), .int (iZ q), .int (iZ c)])), (wo, .inr (4, [.long (lZ b), .int (iZ n)]))])) (Q1 (fun rv H0 H1 => rv = some (.int (iZ (-1))) ∧ (True) ∧ va_P G vwCl [(xa, .inr (5, [.ref hi, .ref ci, .ref st])), (hi, .inr (1, [.ref ra, .int (iZ nx), .int (iZ kp)])), (ra, .inl (cy 2, 6, .inr (.inr (.inr (.inr (qf rw9))))))] H1 ∧ va_D (va_A [(xa, .inr (5, [.ref hi, .ref ci, .ref st])), (hi, .inr (1, [.ref ra, .int (iZ nx), .int (iZ kp)])), (ra, .inl (cy 2, 6, .inr (.inr (.inr (.inr (qf rw9))))))] sz) [(xa, .inr (5, [.ref hi, .ref ci, .ref st])), (hi, .inr (1, [.ref ra, .int (iZ nx), .int (iZ kp)])), (ra, .inl (cy 2, 6, .inr (.inr (.inr (.inr (qf rw9))))))] ∧ Fh (va_A [(xa, .inr (5, [.ref hi, .ref ci, .ref st])), (hi, .inr (1, [.ref ra, .int (iZ nx), .int (iZ kp)])), (ra, .inl (cy 2, 6, .inr (.inr (.inr (.inr (qf rw9))))))] sz) H0 H1)) 0 0 (va_A [(xa, .inr (5, [.ref hi, .ref ci, .ref st])), (hi, .inr (1, [.ref ra, .int (iZ nx), .int (iZ kp)])), (ra, .inl (cy 2, 6, .inr (.inr (.inr (.inr (qf rw9))))))] sz) := by
  refine z_head (lv := [(0, .ref xa), (1, .int (iZ p9)), (2, .int (iZ q9))]) RX6 (by decide) rfl rfl (Nat.le_of_ble_eq_true rfl) rfl ?_
  intro pr ev s mt below meth cd ls hx hb hr hlocks hml hown hname hts hKK hP hl
  have hK := hKK.1
  obtain ⟨hsz, hP, hD0, hI0, hIA⟩ := hP
  subst hsz
  have hD := hD0.self (sz := s.heap.size)
  generalize hAe : va_A [(xa, .inr (5, [.ref hi, .ref ci, .ref st])), (hi, .inr (1, [.ref ra, .int (iZ nx), .int (iZ kp)])), (ra, .inl (cy 2, 6, .inr (.inr (.inr (.inr (qf rw9))))))] s.heap.size = A at hD hIA ⊢
  have hA : ∀ q : Nat, s.heap.size ≤ q → A q := fun q h => by rw [← hAe]; exact Or.inr h
  have hS : va_S A s.heap s.heap [] := va_S.rf
  have hP : va_P G vwCl [(xa, .inr (5, [.ref hi, .ref ci, .ref st])), (hi, .inr (1, [.ref ra, .int (iZ nx), .int (iZ kp)])), (ra, .inl (cy 2, 6, .inr (.inr (.inr (.inr (qf rw9))))))] s.heap := hP
  have hI : va_P G vwCl [(st, .inr (3, [.ref sl, .ref wo])), (sl, .inr (2, [.int (iZ p), .int (iZ q), .int (iZ c)])), (wo, .inr (4, [.long (lZ b), .int (iZ n)]))] s.heap := hI0
  refine lv_iload_n hx hb dX6_setSlope_0 rfl (lv_at hl 2 rfl) ?_
  refine lv_iconst (v := iZ 1) hx hb dX6_setSlope_1 rfl ?_
  refine z_icmp_lt (tgt := 21) hx hb dX6_setSlope_2 (by decide) (by omega) (fun c_2 => ?_) (fun c_2 => ?_)
  · refine lv_iconst (v := iZ (-1)) hx hb dX6_setSlope_21 rfl ?_
    exact z_iretE hx hb hr hlocks dX6_setSlope_22 hS.2.2 ⟨(show 0 ≤ 0 by omega), (show 0 ≤ 0 by omega)⟩ ⟨(rfl), (trivial), (hP), (hD), Fh.of hS⟩
  · refine lv_iload_n hx hb dX6_setSlope_5 rfl (lv_at hl 2 rfl) ?_
    refine lv_sipush (v := iZ 1000) hx hb dX6_setSlope_6 (by decide +kernel) ?_
    refine z_icmp_gt (tgt := 21) hx hb dX6_setSlope_9 (by decide) (by omega) (fun c_9 => ?_) (fun c_9 => ?_)
    · refine lv_iconst (v := iZ (-1)) hx hb dX6_setSlope_21 rfl ?_
      exact z_iretE hx hb hr hlocks dX6_setSlope_22 hS.2.2 ⟨(show 0 ≤ 0 by omega), (show 0 ≤ 0 by omega)⟩ ⟨(rfl), (trivial), (hP), (hD), Fh.of hS⟩
    · refine lv_iload_n hx hb dX6_setSlope_12 rfl (lv_at hl 1 rfl) ?_
      refine z_if_lt (tgt := 21) hx hb dX6_setSlope_13 (by decide) (by omega) (fun c_13 => ?_) (fun c_13 => ?_)
      · refine lv_iconst (v := iZ (-1)) hx hb dX6_setSlope_21 rfl ?_
        exact z_iretE hx hb hr hlocks dX6_setSlope_22 hS.2.2 ⟨(show 0 ≤ 0 by omega), (show 0 ≤ 0 by omega)⟩ ⟨(rfl), (trivial), (hP), (hD), Fh.of hS⟩
      · refine lv_iload_n hx hb dX6_setSlope_16 rfl (lv_at hl 1 rfl) ?_
        refine lv_iload_n hx hb dX6_setSlope_17 rfl (lv_at hl 2 rfl) ?_
        refine z_icmp_le (tgt := 23) hx hb dX6_setSlope_18 (by decide) (by omega) (fun c_18 => ?_) (fun c_18 => ?_)
        · exfalso; omega
        · refine lv_iconst (v := iZ (-1)) hx hb dX6_setSlope_21 rfl ?_
          exact z_iretE hx hb hr hlocks dX6_setSlope_22 hS.2.2 ⟨(show 0 ≤ 0 by omega), (show 0 ≤ 0 by omega)⟩ ⟨(rfl), (trivial), (hP), (hD), Fh.of hS⟩
set_option maxHeartbeats 4000000 in
set_option maxRecDepth 100000 in
theorem c_X6_setSlope (lau : Launch) (G : va_G) (cy : Nat → ClassId) (xa hi ci st ra sl wo : Nat) (sz : Nat) (nx kp : Int) (rw9 : Int → Option Nat) (p q c b n : Int) (p9 q9 : Int) (hnx : 0 ≤ nx ∧ nx < 6) (hkp : 0 ≤ kp ∧ kp ≤ 6) (h2 : (1 ≤ q9 ∧ q9 ≤ 1000) ∧ 0 ≤ p9 ∧ p9 ≤ q9) : Met lau yX6_setSlope wsX6_setSlope ({ frames := 3, cells := 2, slots := 5, locals := 63 }) (P1 G cy [.ref xa, .int (iZ p9), .int (iZ q9)] (fun H => H.size = sz ∧ va_P G vwCl [(xa, .inr (5, [.ref hi, .ref ci, .ref st])), (hi, .inr (1, [.ref ra, .int (iZ nx), .int (iZ kp)])), (ra, .inl (cy 2, 6, .inr (.inr (.inr (.inr (qf rw9))))))] H ∧ va_D (fun _ => True) [(xa, .inr (5, [.ref hi, .ref ci, .ref st])), (hi, .inr (1, [.ref ra, .int (iZ nx), .int (iZ kp)])), (ra, .inl (cy 2, 6, .inr (.inr (.inr (.inr (qf rw9))))))] ∧ va_P G vwCl [(st, .inr (3, [.ref sl, .ref wo])), (sl, .inr (2, [.int (iZ p), .int (iZ q), .int (iZ c)])), (wo, .inr (4, [.long (lZ b), .int (iZ n)]))] H ∧ NA (va_A [(xa, .inr (5, [.ref hi, .ref ci, .ref st])), (hi, .inr (1, [.ref ra, .int (iZ nx), .int (iZ kp)])), (ra, .inl (cy 2, 6, .inr (.inr (.inr (.inr (qf rw9))))))] sz) [(st, .inr (3, [.ref sl, .ref wo])), (sl, .inr (2, [.int (iZ p), .int (iZ q), .int (iZ c)])), (wo, .inr (4, [.long (lZ b), .int (iZ n)]))])) (Q1 (fun rv H0 H1 => ∃ (ns nq : Nat), rv = some (.int (iZ (q9 / (Int.gcd p9 q9 : Int)))) ∧ (True) ∧ va_P G vwCl [(xa, .inr (5, [.ref hi, .ref ci, .ref ns])), (hi, .inr (1, [.ref ra, .int (iZ (nxF nx)), .int (iZ (kpF kp))])), (ra, .inl (cy 2, 6, .inr (.inr (.inr (.inr (qf (upq rw9 nx (some st)))))))), (ns, .inr (3, [.ref nq, .ref wo])), (nq, .inr (2, [.int (iZ (p9 / (Int.gcd p9 q9 : Int))), .int (iZ (q9 / (Int.gcd p9 q9 : Int))), .int (iZ 0)]))] H1 ∧ va_D (va_A [(xa, .inr (5, [.ref hi, .ref ci, .ref st])), (hi, .inr (1, [.ref ra, .int (iZ nx), .int (iZ kp)])), (ra, .inl (cy 2, 6, .inr (.inr (.inr (.inr (qf rw9))))))] sz) [(xa, .inr (5, [.ref hi, .ref ci, .ref ns])), (hi, .inr (1, [.ref ra, .int (iZ (nxF nx)), .int (iZ (kpF kp))])), (ra, .inl (cy 2, 6, .inr (.inr (.inr (.inr (qf (upq rw9 nx (some st)))))))), (ns, .inr (3, [.ref nq, .ref wo])), (nq, .inr (2, [.int (iZ (p9 / (Int.gcd p9 q9 : Int))), .int (iZ (q9 / (Int.gcd p9 q9 : Int))), .int (iZ 0)]))] ∧ Fh (va_A [(xa, .inr (5, [.ref hi, .ref ci, .ref st])), (hi, .inr (1, [.ref ra, .int (iZ nx), .int (iZ kp)])), (ra, .inl (cy 2, 6, .inr (.inr (.inr (.inr (qf rw9))))))] sz) H0 H1)) 2 5 (va_A [(xa, .inr (5, [.ref hi, .ref ci, .ref st])), (hi, .inr (1, [.ref ra, .int (iZ nx), .int (iZ kp)])), (ra, .inl (cy 2, 6, .inr (.inr (.inr (.inr (qf rw9))))))] sz) := by
  refine z_head (lv := [(0, .ref xa), (1, .int (iZ p9)), (2, .int (iZ q9))]) RX6 (by decide) rfl rfl (Nat.le_of_ble_eq_true rfl) rfl ?_
  intro pr ev s mt below meth cd ls hx hb hr hlocks hml hown hname hts hKK hP hl
  have hK := hKK.1
  obtain ⟨hsz, hP, hD0, hI0, hIA⟩ := hP
  subst hsz
  have hD := hD0.self (sz := s.heap.size)
  generalize hAe : va_A [(xa, .inr (5, [.ref hi, .ref ci, .ref st])), (hi, .inr (1, [.ref ra, .int (iZ nx), .int (iZ kp)])), (ra, .inl (cy 2, 6, .inr (.inr (.inr (.inr (qf rw9))))))] s.heap.size = A at hD hIA ⊢
  have hA : ∀ q : Nat, s.heap.size ≤ q → A q := fun q h => by rw [← hAe]; exact Or.inr h
  have hS : va_S A s.heap s.heap [] := va_S.rf
  have hP : va_P G vwCl [(xa, .inr (5, [.ref hi, .ref ci, .ref st])), (hi, .inr (1, [.ref ra, .int (iZ nx), .int (iZ kp)])), (ra, .inl (cy 2, 6, .inr (.inr (.inr (.inr (qf rw9))))))] s.heap := hP
  have hI : va_P G vwCl [(st, .inr (3, [.ref sl, .ref wo])), (sl, .inr (2, [.int (iZ p), .int (iZ q), .int (iZ c)])), (wo, .inr (4, [.long (lZ b), .int (iZ n)]))] s.heap := hI0
  refine lv_iload_n hx hb dX6_setSlope_0 rfl (lv_at hl 2 rfl) ?_
  refine lv_iconst (v := iZ 1) hx hb dX6_setSlope_1 rfl ?_
  refine z_icmp_lt (tgt := 21) hx hb dX6_setSlope_2 (by decide) (by omega) (fun c_2 => ?_) (fun c_2 => ?_)
  · exfalso; omega
  · refine lv_iload_n hx hb dX6_setSlope_5 rfl (lv_at hl 2 rfl) ?_
    refine lv_sipush (v := iZ 1000) hx hb dX6_setSlope_6 (by decide +kernel) ?_
    refine z_icmp_gt (tgt := 21) hx hb dX6_setSlope_9 (by decide) (by omega) (fun c_9 => ?_) (fun c_9 => ?_)
    · exfalso; omega
    · refine lv_iload_n hx hb dX6_setSlope_12 rfl (lv_at hl 1 rfl) ?_
      refine z_if_lt (tgt := 21) hx hb dX6_setSlope_13 (by decide) (by omega) (fun c_13 => ?_) (fun c_13 => ?_)
      · exfalso; omega
      · refine lv_iload_n hx hb dX6_setSlope_16 rfl (lv_at hl 1 rfl) ?_
        refine lv_iload_n hx hb dX6_setSlope_17 rfl (lv_at hl 2 rfl) ?_
        refine z_icmp_le (tgt := 23) hx hb dX6_setSlope_18 (by decide) (by omega) (fun c_18 => ?_) (fun c_18 => ?_)
        · refine lv_iload_n hx hb dX6_setSlope_23 rfl (lv_at hl 1 rfl) ?_
          refine lv_iload_n hx hb dX6_setSlope_24 rfl (lv_at hl 2 rfl) ?_
          refine z_calli (va_runS (As := [.int (iZ p9), .int (iZ q9)]) (rest := []) ⟨hx, hb, hml, hown, hts⟩ (c_X6_commonDivisor lau G cy p9 q9 (by first | omega | assumption) (by first | omega | assumption)) (va_cwS 2 hts gX6_setSlope_X6_commonDivisor rfl rfl rfl (by decide +kernel) ⟨Nat.le_of_ble_eq_true rfl, Nat.le_of_ble_eq_true rfl⟩) ⟨P1_blind, P1_mk hKK (trivial)⟩ rfl rfl hl.1 rfl (lv_room (Nat.le_of_ble_eq_true rfl)) dX6_setSlope_25 ⟨(show 0 + 0 ≤ 2 by omega), (show 0 + 0 ≤ 5 by omega)⟩) ?_
          refine lv_istore_n (lv' := [(3, .int (iZ (Int.gcd p9 q9 : Int))), (0, .ref xa), (1, .int (iZ p9)), (2, .int (iZ q9))]) hx hb dX6_setSlope_28 rfl hl (by decide) rfl (fun ls hl => ?_)
          have hgr := cd_r (a := p9) (d := q9) (by omega)
          refine lv_iload_n hx hb dX6_setSlope_29 rfl (lv_at hl 3 rfl) ?_
          refine z_i2l hx hb dX6_setSlope_30 (by omega) ?_
          refine lv_iload_n hx hb dX6_setSlope_31 rfl (lv_at hl 0 rfl) ?_
          refine z_i2l hx hb dX6_setSlope_32 (by omega) ?_
          refine z_calll (va_runS (As := [.long (lZ q9), .long (lZ (Int.gcd p9 q9 : Int))]) (rest := []) ⟨hx, hb, hml, hown, hts⟩ (c_X6_quotient lau G cy q9 (Int.gcd p9 q9 : Int) (by first | omega | assumption) (by first | omega | assumption)) (va_cwS 2 hts gX6_setSlope_X6_quotient rfl rfl rfl (by decide +kernel) ⟨Nat.le_of_ble_eq_true rfl, Nat.le_of_ble_eq_true rfl⟩) ⟨P1_blind, P1_mk hKK (trivial)⟩ rfl rfl hl.1 rfl (lv_room (Nat.le_of_ble_eq_true rfl)) dX6_setSlope_33 ⟨(show 0 + 0 ≤ 2 by omega), (show 0 + 0 ≤ 5 by omega)⟩) ?_
          refine z_l2i hx hb dX6_setSlope_36 ?_
          refine lv_istore (lv' := [(4, .int (iZ (q9 / (Int.gcd p9 q9 : Int)))), (3, .int (iZ (Int.gcd p9 q9 : Int))), (0, .ref xa), (1, .int (iZ p9)), (2, .int (iZ q9))]) hx hb dX6_setSlope_37 hl (by decide) rfl (fun ls hl => ?_)
          refine lv_aload_n hx hb dX6_setSlope_39 rfl (lv_at hl 2 rfl) ?_
          refine va_new (D := G) (ci := 2) (fs := [.int (iZ 0), .int (iZ 0), .int (iZ 0)]) (C := RX3) (T := TX3) (N := 3) hx hb hts (by decide +kernel) tyX3 tyX3_ok hown (hts (.classLink RX6 25 RX3) (by decide +kernel)) (hts (.instantiable RX3 3) (by decide +kernel)) (hts (.initialized RX3) (by decide +kernel)) hK hP hD hS hA rfl (fun j hj => by rcases (show j = 0 ∨ j = 1 ∨ j = 2 by omega) with rfl | rfl | rfl <;> rfl) (show 0 + 1 ≤ 2 by omega) (show 0 + 3 ≤ 5 by omega) dX6_setSlope_40 (fun n40_1 H hP hD hS => ?_)
          have hP : va_P G vwCl [(xa, .inr (5, [.ref hi, .ref ci, .ref st])), (hi, .inr (1, [.ref ra, .int (iZ nx), .int (iZ kp)])), (ra, .inl (cy 2, 6, .inr (.inr (.inr (.inr (qf rw9)))))), (n40_1, .inr (2, [.int (iZ 0), .int (iZ 0), .int (iZ 0)]))] H := hP
          have hD : va_D A [(xa, .inr (5, [.ref hi, .ref ci, .ref st])), (hi, .inr (1, [.ref ra, .int (iZ nx), .int (iZ kp)])), (ra, .inl (cy 2, 6, .inr (.inr (.inr (.inr (qf rw9)))))), (n40_1, .inr (2, [.int (iZ 0), .int (iZ 0), .int (iZ 0)]))] := hD
          have hI : va_P G vwCl [(st, .inr (3, [.ref sl, .ref wo])), (sl, .inr (2, [.int (iZ p), .int (iZ q), .int (iZ c)])), (wo, .inr (4, [.long (lZ b), .int (iZ n)]))] H := im_keep2 hI0 hIA (Fh.of hS)
          refine lv_dup hx hb dX6_setSlope_43 rfl ?_
          refine lv_iload_n hx hb dX6_setSlope_44 rfl (lv_at hl 3 rfl) ?_
          refine z_i2l hx hb dX6_setSlope_45 (by omega) ?_
          refine lv_iload_n hx hb dX6_setSlope_46 rfl (lv_at hl 1 rfl) ?_
          refine z_i2l hx hb dX6_setSlope_47 (by omega) ?_
          refine z_calll (va_runS (As := [.long (lZ p9), .long (lZ (Int.gcd p9 q9 : Int))]) (rest := [.ref n40_1, .ref n40_1, .ref xa]) ⟨hx, hb, hml, hown, hts⟩ (c_X6_quotient lau G cy p9 (Int.gcd p9 q9 : Int) (by first | omega | assumption) (by first | omega | assumption)) (va_cwS 2 hts gX6_setSlope_X6_quotient rfl rfl rfl (by decide +kernel) ⟨Nat.le_of_ble_eq_true rfl, Nat.le_of_ble_eq_true rfl⟩) ⟨P1_blind, P1_mk hKK (trivial)⟩ rfl rfl hl.1 rfl (lv_room (Nat.le_of_ble_eq_true rfl)) dX6_setSlope_48 ⟨(show 1 + 0 ≤ 2 by omega), (show 3 + 0 ≤ 5 by omega)⟩) ?_
          refine z_l2i hx hb dX6_setSlope_51 ?_
          refine lv_iload hx hb dX6_setSlope_52 (lv_at hl 0 rfl) ?_
          refine lv_iconst (v := iZ 0) hx hb dX6_setSlope_54 rfl ?_
          have hPc := hP.sub (ws' := [(n40_1, .inr (2, [.int (iZ 0), .int (iZ 0), .int (iZ 0)]))]) [3] rfl
          have hDc := (hD.sub (ws' := [(n40_1, .inr (2, [.int (iZ 0), .int (iZ 0), .int (iZ 0)]))]) [3] (by decide) rfl).weaken (B := fun _ => True) (fun _ _ _ _ => trivial)
          have hFc := va_free (wc := [(n40_1, .inr (2, [.int (iZ 0), .int (iZ 0), .int (iZ 0)]))]) hD hS hA [3] rfl
          refine z_callE (A := A) (va_runI (As := [.int (iZ (p9 / (Int.gcd p9 q9 : Int))), .int (iZ (q9 / (Int.gcd p9 q9 : Int))), .int (iZ 0)]) (rest := [.ref n40_1, .ref xa]) ⟨hx, hb, hml, hown, hts⟩ (c_X3_init lau G cy n40_1 H.size (p9 / (Int.gcd p9 q9 : Int)) (q9 / (Int.gcd p9 q9 : Int)) 0) (cwI 3 hts gX6_setSlope_X3_init rfl rfl rfl (hts (.initialized RX3) (by decide +kernel)) (hts (.methodLink RX6 27 yX3_init) (by decide +kernel)) (hts (.instanceMethod yX3_init) (by decide +kernel)) rfl (by decide +kernel) ⟨Nat.le_of_ble_eq_true rfl, Nat.le_of_ble_eq_true rfl⟩) ⟨P1_blind, P1_mk hKK (⟨rfl, hPc, hDc⟩)⟩ rfl rfl hl.1 rfl (lv_room (Nat.le_of_ble_eq_true rfl)) dX6_setSlope_55 ⟨(show 1 + 0 ≤ 2 by omega), (show 3 + 0 ≤ 5 by omega)⟩) hS.2.2 hFc (fun v H1 locs1 hR hL1 => ?_)
          obtain ⟨rfl, hq55, hP1, hD1, hF1⟩ := hR
          obtain ⟨hP, hD⟩ := va_join (wr := [(xa, .inr (5, [.ref hi, .ref ci, .ref st])), (hi, .inr (1, [.ref ra, .int (iZ nx), .int (iZ kp)])), (ra, .inl (cy 2, 6, .inr (.inr (.inr (.inr (qf rw9))))))]) (w1 := [(n40_1, .inr (2, [.int (iZ (p9 / (Int.gcd p9 q9 : Int))), .int (iZ (q9 / (Int.gcd p9 q9 : Int))), .int (iZ 0)]))]) hP hD [3] [0, 1, 2] rfl rfl (by decide) (by decide) hF1.2 hFc hP1 hD1
          have hS : va_S A s.heap H1 locs1 := Fh.S ((Fh.of hS).tr hF1 (fun q _ h => hFc q h)) hL1
          clear hPc hDc hFc hP1 hD1 hF1 hL1
          generalize H1 = H at hP hS ⊢
          have hP : va_P G vwCl [(xa, .inr (5, [.ref hi, .ref ci, .ref st])), (hi, .inr (1, [.ref ra, .int (iZ nx), .int (iZ kp)])), (ra, .inl (cy 2, 6, .inr (.inr (.inr (.inr (qf rw9)))))), (n40_1, .inr (2, [.int (iZ (p9 / (Int.gcd p9 q9 : Int))), .int (iZ (q9 / (Int.gcd p9 q9 : Int))), .int (iZ 0)]))] H := hP
          have hD : va_D A [(xa, .inr (5, [.ref hi, .ref ci, .ref st])), (hi, .inr (1, [.ref ra, .int (iZ nx), .int (iZ kp)])), (ra, .inl (cy 2, 6, .inr (.inr (.inr (.inr (qf rw9)))))), (n40_1, .inr (2, [.int (iZ (p9 / (Int.gcd p9 q9 : Int))), .int (iZ (q9 / (Int.gcd p9 q9 : Int))), .int (iZ 0)]))] := hD
          have hP := hP.sub (ws' := [(xa, .inr (5, [.ref hi, .ref ci, .ref st])), (hi, .inr (1, [.ref ra, .int (iZ nx), .int (iZ kp)])), (ra, .inl (cy 2, 6, .inr (.inr (.inr (.inr (qf rw9)))))), (n40_1, .inr (2, [.int (iZ (p9 / (Int.gcd p9 q9 : Int))), .int (iZ (q9 / (Int.gcd p9 q9 : Int))), .int (iZ 0)]))]) [0, 1, 2, 3] rfl
          have hD := hD.sub (ws' := [(xa, .inr (5, [.ref hi, .ref ci, .ref st])), (hi, .inr (1, [.ref ra, .int (iZ nx), .int (iZ kp)])), (ra, .inl (cy 2, 6, .inr (.inr (.inr (.inr (qf rw9)))))), (n40_1, .inr (2, [.int (iZ (p9 / (Int.gcd p9 q9 : Int))), .int (iZ (q9 / (Int.gcd p9 q9 : Int))), .int (iZ 0)]))]) [0, 1, 2, 3] (by decide) rfl
          refine W.eq (g2 := F0 mt 58 ls [.ref n40_1, .ref xa]) rfl ?_
          have hI : va_P G vwCl [(st, .inr (3, [.ref sl, .ref wo])), (sl, .inr (2, [.int (iZ p), .int (iZ q), .int (iZ c)])), (wo, .inr (4, [.long (lZ b), .int (iZ n)]))] H := im_keep2 hI0 hIA (Fh.of hS)
          have hPc := hP.sub (ws' := [(xa, .inr (5, [.ref hi, .ref ci, .ref st])), (hi, .inr (1, [.ref ra, .int (iZ nx), .int (iZ kp)])), (ra, .inl (cy 2, 6, .inr (.inr (.inr (.inr (qf rw9))))))]) [0, 1, 2] rfl
          have hDc := (hD.sub (ws' := [(xa, .inr (5, [.ref hi, .ref ci, .ref st])), (hi, .inr (1, [.ref ra, .int (iZ nx), .int (iZ kp)])), (ra, .inl (cy 2, 6, .inr (.inr (.inr (.inr (qf rw9))))))]) [0, 1, 2] (by decide) rfl).weaken (B := fun _ => True) (fun _ _ _ _ => trivial)
          have hFc := va_free (wc := [(xa, .inr (5, [.ref hi, .ref ci, .ref st])), (hi, .inr (1, [.ref ra, .int (iZ nx), .int (iZ kp)])), (ra, .inl (cy 2, 6, .inr (.inr (.inr (.inr (qf rw9))))))]) hD hS hA [0, 1, 2] rfl
          have hIc : va_P G vwCl [(st, .inr (3, [.ref sl, .ref wo]))] H := (hI.sub (ws' := [(st, .inr (3, [.ref sl, .ref wo]))]) [0] rfl)
          have hIAc : NA (va_A [(xa, .inr (5, [.ref hi, .ref ci, .ref st])), (hi, .inr (1, [.ref ra, .int (iZ nx), .int (iZ kp)])), (ra, .inl (cy 2, 6, .inr (.inr (.inr (.inr (qf rw9))))))] H.size) [(st, .inr (3, [.ref sl, .ref wo]))] := NA.cons (fun z => hIA.at 0 rfl (hFc _ z)) (NA.nil)
          refine z_callE (A := A) (va_runV (As := [.ref n40_1]) (rest := []) ⟨hx, hb, hml, hown, hts⟩ (c_X6_changeSlope lau G cy xa hi ci st ra sl wo n40_1 H.size nx kp rw9 (by first | omega | assumption) (by first | omega | assumption)) (cwV 1 hts gX6_setSlope_X6_changeSlope rfl rfl rfl (by decide +kernel) ⟨Nat.le_of_ble_eq_true rfl, Nat.le_of_ble_eq_true rfl⟩) ⟨P1_blind, va_recv hK hP (ci := 5) (q0 := 0) rfl rfl, P1_mk hKK (⟨rfl, hPc, hDc, hIc, hIAc⟩)⟩ rfl rfl hl.1 rfl (lv_room (Nat.le_of_ble_eq_true rfl)) dX6_setSlope_58 ⟨(show 1 + 1 ≤ 2 by omega), (show 3 + 2 ≤ 5 by omega)⟩) hS.2.2 hFc (fun v H1 locs1 hR hL1 => ?_)
          obtain ⟨ns_58, rfl, hq58, hP1, hD1, hF1⟩ := hR
          obtain ⟨hP, hD⟩ := va_join (wr := [(n40_1, .inr (2, [.int (iZ (p9 / (Int.gcd p9 q9 : Int))), .int (iZ (q9 / (Int.gcd p9 q9 : Int))), .int (iZ 0)]))]) (w1 := [(xa, .inr (5, [.ref hi, .ref ci, .ref ns_58])), (hi, .inr (1, [.ref ra, .int (iZ (nxF nx)), .int (iZ (kpF kp))])), (ra, .inl (cy 2, 6, .inr (.inr (.inr (.inr (qf (upq rw9 nx (some st)))))))), (ns_58, .inr (3, [.ref n40_1, .ref wo]))]) hP hD [0, 1, 2] [3] rfl rfl (by decide) (by decide) hF1.2 hFc hP1 hD1
          have hS : va_S A s.heap H1 locs1 := Fh.S ((Fh.of hS).tr hF1 (fun q _ h => hFc q h)) hL1
          clear hPc hDc hFc hP1 hD1 hF1 hL1 hIc hIAc
          generalize H1 = H at hP hS ⊢
          have hP : va_P G vwCl [(n40_1, .inr (2, [.int (iZ (p9 / (Int.gcd p9 q9 : Int))), .int (iZ (q9 / (Int.gcd p9 q9 : Int))), .int (iZ 0)])), (xa, .inr (5, [.ref hi, .ref ci, .ref ns_58])), (hi, .inr (1, [.ref ra, .int (iZ (nxF nx)), .int (iZ (kpF kp))])), (ra, .inl (cy 2, 6, .inr (.inr (.inr (.inr (qf (upq rw9 nx (some st)))))))), (ns_58, .inr (3, [.ref n40_1, .ref wo]))] H := hP
          have hD : va_D A [(n40_1, .inr (2, [.int (iZ (p9 / (Int.gcd p9 q9 : Int))), .int (iZ (q9 / (Int.gcd p9 q9 : Int))), .int (iZ 0)])), (xa, .inr (5, [.ref hi, .ref ci, .ref ns_58])), (hi, .inr (1, [.ref ra, .int (iZ (nxF nx)), .int (iZ (kpF kp))])), (ra, .inl (cy 2, 6, .inr (.inr (.inr (.inr (qf (upq rw9 nx (some st)))))))), (ns_58, .inr (3, [.ref n40_1, .ref wo]))] := hD
          refine W.eq (g2 := F0 mt 61 ls []) rfl ?_
          have hI : va_P G vwCl [(st, .inr (3, [.ref sl, .ref wo])), (sl, .inr (2, [.int (iZ p), .int (iZ q), .int (iZ c)])), (wo, .inr (4, [.long (lZ b), .int (iZ n)]))] H := im_keep2 hI0 hIA (Fh.of hS)
          refine lv_iload hx hb dX6_setSlope_61 (lv_at hl 0 rfl) ?_
          have hP := hP.sub (ws' := [(xa, .inr (5, [.ref hi, .ref ci, .ref ns_58])), (hi, .inr (1, [.ref ra, .int (iZ (nxF nx)), .int (iZ (kpF kp))])), (ra, .inl (cy 2, 6, .inr (.inr (.inr (.inr (qf (upq rw9 nx (some st)))))))), (ns_58, .inr (3, [.ref n40_1, .ref wo])), (n40_1, .inr (2, [.int (iZ (p9 / (Int.gcd p9 q9 : Int))), .int (iZ (q9 / (Int.gcd p9 q9 : Int))), .int (iZ 0)]))]) [1, 2, 3, 4, 0] rfl
          have hD := hD.sub (ws' := [(xa, .inr (5, [.ref hi, .ref ci, .ref ns_58])), (hi, .inr (1, [.ref ra, .int (iZ (nxF nx)), .int (iZ (kpF kp))])), (ra, .inl (cy 2, 6, .inr (.inr (.inr (.inr (qf (upq rw9 nx (some st)))))))), (ns_58, .inr (3, [.ref n40_1, .ref wo])), (n40_1, .inr (2, [.int (iZ (p9 / (Int.gcd p9 q9 : Int))), .int (iZ (q9 / (Int.gcd p9 q9 : Int))), .int (iZ 0)]))]) [1, 2, 3, 4, 0] (by decide) rfl
          exact z_iretE hx hb hr hlocks dX6_setSlope_63 hS.2.2 ⟨(show 2 ≤ 2 by omega), (show 5 ≤ 5 by omega)⟩ ⟨ns_58, n40_1, (rfl), (trivial), (hP), (hD), Fh.of hS⟩
        · exfalso; omega
set_option maxHeartbeats 4000000 in
set_option maxRecDepth 100000 in
theorem c_X6_setIntercept_no (lau : Launch) (G : va_G) (cy : Nat → ClassId) (xa hi ci st ra sl wo : Nat) (sz : Nat) (nx kp : Int) (rw9 : Int → Option Nat) (p q c b n : Int) (c9 : Int) (h1 : -2147483648 ≤ c9 ∧ c9 < 2147483648) (hq : 1 ≤ q ∧ q ≤ 1000) (h2 : ¬ (0 ≤ c9 ∧ c9 ≤ q - 1)) : Met lau yX6_setIntercept wsX6_setIntercept ({ frames := 3, cells := 0, slots := 0, locals := 63 }) (P1 G cy [.ref xa, .int (iZ c9)] (fun H => H.size = sz ∧ va_P G vwCl [(xa, .inr (5, [.ref hi, .ref ci, .ref st])), (hi, .inr (1, [.ref ra, .int (iZ nx), .int (iZ kp)])), (ra, .inl (cy 2, 6, .inr (.inr (.inr (.inr (qf rw9))))))] H ∧ va_D (fun _ => True) [(xa, .inr (5, [.ref hi, .ref ci, .ref st])), (hi, .inr (1, [.ref ra, .int (iZ nx), .int (iZ kp)])), (ra, .inl (cy 2, 6, .inr (.inr (.inr (.inr (qf rw9))))))] ∧ va_P G vwCl [(st, .inr (3, [.ref sl, .ref wo])), (sl, .inr (2, [.int (iZ p), .int (iZ q), .int (iZ c)])), (wo, .inr (4, [.long (lZ b), .int (iZ n)]))] H ∧ NA (va_A [(xa, .inr (5, [.ref hi, .ref ci, .ref st])), (hi, .inr (1, [.ref ra, .int (iZ nx), .int (iZ kp)])), (ra, .inl (cy 2, 6, .inr (.inr (.inr (.inr (qf rw9))))))] sz) [(st, .inr (3, [.ref sl, .ref wo])), (sl, .inr (2, [.int (iZ p), .int (iZ q), .int (iZ c)])), (wo, .inr (4, [.long (lZ b), .int (iZ n)]))])) (Q1 (fun rv H0 H1 => rv = some (.int (iZ (-1))) ∧ (True) ∧ va_P G vwCl [(xa, .inr (5, [.ref hi, .ref ci, .ref st])), (hi, .inr (1, [.ref ra, .int (iZ nx), .int (iZ kp)])), (ra, .inl (cy 2, 6, .inr (.inr (.inr (.inr (qf rw9))))))] H1 ∧ va_D (va_A [(xa, .inr (5, [.ref hi, .ref ci, .ref st])), (hi, .inr (1, [.ref ra, .int (iZ nx), .int (iZ kp)])), (ra, .inl (cy 2, 6, .inr (.inr (.inr (.inr (qf rw9))))))] sz) [(xa, .inr (5, [.ref hi, .ref ci, .ref st])), (hi, .inr (1, [.ref ra, .int (iZ nx), .int (iZ kp)])), (ra, .inl (cy 2, 6, .inr (.inr (.inr (.inr (qf rw9))))))] ∧ Fh (va_A [(xa, .inr (5, [.ref hi, .ref ci, .ref st])), (hi, .inr (1, [.ref ra, .int (iZ nx), .int (iZ kp)])), (ra, .inl (cy 2, 6, .inr (.inr (.inr (.inr (qf rw9))))))] sz) H0 H1)) 0 0 (va_A [(xa, .inr (5, [.ref hi, .ref ci, .ref st])), (hi, .inr (1, [.ref ra, .int (iZ nx), .int (iZ kp)])), (ra, .inl (cy 2, 6, .inr (.inr (.inr (.inr (qf rw9))))))] sz) := by
  refine z_head (lv := [(0, .ref xa), (1, .int (iZ c9))]) RX6 (by decide) rfl rfl (Nat.le_of_ble_eq_true rfl) rfl ?_
  intro pr ev s mt below meth cd ls hx hb hr hlocks hml hown hname hts hKK hP hl
  have hK := hKK.1
  obtain ⟨hsz, hP, hD0, hI0, hIA⟩ := hP
  subst hsz
  have hD := hD0.self (sz := s.heap.size)
  generalize hAe : va_A [(xa, .inr (5, [.ref hi, .ref ci, .ref st])), (hi, .inr (1, [.ref ra, .int (iZ nx), .int (iZ kp)])), (ra, .inl (cy 2, 6, .inr (.inr (.inr (.inr (qf rw9))))))] s.heap.size = A at hD hIA ⊢
  have hA : ∀ q : Nat, s.heap.size ≤ q → A q := fun q h => by rw [← hAe]; exact Or.inr h
  have hS : va_S A s.heap s.heap [] := va_S.rf
  have hP : va_P G vwCl [(xa, .inr (5, [.ref hi, .ref ci, .ref st])), (hi, .inr (1, [.ref ra, .int (iZ nx), .int (iZ kp)])), (ra, .inl (cy 2, 6, .inr (.inr (.inr (.inr (qf rw9))))))] s.heap := hP
  have hI : va_P G vwCl [(st, .inr (3, [.ref sl, .ref wo])), (sl, .inr (2, [.int (iZ p), .int (iZ q), .int (iZ c)])), (wo, .inr (4, [.long (lZ b), .int (iZ n)]))] s.heap := hI0
  refine lv_aload_n hx hb dX6_setIntercept_0 rfl (lv_at hl 0 rfl) ?_
  refine va_get (D := G) (ci := 5) (v := .ref st) (C := RX6) (T := TX6) (N := 3) hx hb hts (by decide +kernel) hown hK hP 0 rfl rfl 2 (by decide) (hts (.fieldLink RX6 38 "SturmianWords" "state" "LSturmianWords$State;") (by decide +kernel)) (fun _ h9 => h9) rfl dX6_setIntercept_1 ?_
  refine va_getN (D := G) (ci := 3) (v := .ref sl) (C := RX4) (T := TX4) (N := 2) hx hb hts (by decide +kernel) hown hK hI 0 rfl rfl 0 (by decide) (va_Nw.use rfl (hKK.2 (.fieldLinkNest RX6 54 "SturmianWords$State" "slope" "LSturmianWords$Slope;" "SturmianWords") (by decide +kernel))) (fun _ h9 => h9) rfl dX6_setIntercept_4 ?_
  refine lv_astore_n (lv' := [(2, .ref sl), (0, .ref xa), (1, .int (iZ c9))]) hx hb dX6_setIntercept_7 rfl hl (by decide) rfl (fun ls hl => ?_)
  refine lv_iload_n hx hb dX6_setIntercept_8 rfl (lv_at hl 2 rfl) ?_
  refine z_if_lt (tgt := 20) hx hb dX6_setIntercept_9 (by decide) (by omega) (fun c_9 => ?_) (fun c_9 => ?_)
  · refine lv_iconst (v := iZ (-1)) hx hb dX6_setIntercept_20 rfl ?_
    exact z_iretE hx hb hr hlocks dX6_setIntercept_21 hS.2.2 ⟨(show 0 ≤ 0 by omega), (show 0 ≤ 0 by omega)⟩ ⟨(rfl), (trivial), (hP), (hD), Fh.of hS⟩
  · refine lv_iload_n hx hb dX6_setIntercept_12 rfl (lv_at hl 2 rfl) ?_
    refine lv_aload_n hx hb dX6_setIntercept_13 rfl (lv_at hl 0 rfl) ?_
    refine va_getN (D := G) (ci := 2) (v := .int (iZ q)) (C := RX3) (T := TX3) (N := 3) hx hb hts (by decide +kernel) hown hK hI 1 rfl rfl 1 (by decide) (va_Nw.use rfl (hKK.2 (.fieldLinkNest RX6 58 "SturmianWords$Slope" "denominator" "I" "SturmianWords") (by decide +kernel))) (fun _ h9 => h9) rfl dX6_setIntercept_14 ?_
    refine z_icmp_lt (tgt := 22) hx hb dX6_setIntercept_17 (by decide) (by omega) (fun c_17 => ?_) (fun c_17 => ?_)
    · exfalso; omega
    · refine lv_iconst (v := iZ (-1)) hx hb dX6_setIntercept_20 rfl ?_
      exact z_iretE hx hb hr hlocks dX6_setIntercept_21 hS.2.2 ⟨(show 0 ≤ 0 by omega), (show 0 ≤ 0 by omega)⟩ ⟨(rfl), (trivial), (hP), (hD), Fh.of hS⟩
set_option maxHeartbeats 4000000 in
set_option maxRecDepth 100000 in
theorem c_X6_setIntercept (lau : Launch) (G : va_G) (cy : Nat → ClassId) (xa hi ci st ra sl wo : Nat) (sz : Nat) (nx kp : Int) (rw9 : Int → Option Nat) (p q c b n : Int) (c9 : Int) (hnx : 0 ≤ nx ∧ nx < 6) (hkp : 0 ≤ kp ∧ kp ≤ 6) (hq : 1 ≤ q ∧ q ≤ 1000) (h2 : 0 ≤ c9 ∧ c9 ≤ q - 1) : Met lau yX6_setIntercept wsX6_setIntercept ({ frames := 3, cells := 2, slots := 5, locals := 63 }) (P1 G cy [.ref xa, .int (iZ c9)] (fun H => H.size = sz ∧ va_P G vwCl [(xa, .inr (5, [.ref hi, .ref ci, .ref st])), (hi, .inr (1, [.ref ra, .int (iZ nx), .int (iZ kp)])), (ra, .inl (cy 2, 6, .inr (.inr (.inr (.inr (qf rw9))))))] H ∧ va_D (fun _ => True) [(xa, .inr (5, [.ref hi, .ref ci, .ref st])), (hi, .inr (1, [.ref ra, .int (iZ nx), .int (iZ kp)])), (ra, .inl (cy 2, 6, .inr (.inr (.inr (.inr (qf rw9))))))] ∧ va_P G vwCl [(st, .inr (3, [.ref sl, .ref wo])), (sl, .inr (2, [.int (iZ p), .int (iZ q), .int (iZ c)])), (wo, .inr (4, [.long (lZ b), .int (iZ n)]))] H ∧ NA (va_A [(xa, .inr (5, [.ref hi, .ref ci, .ref st])), (hi, .inr (1, [.ref ra, .int (iZ nx), .int (iZ kp)])), (ra, .inl (cy 2, 6, .inr (.inr (.inr (.inr (qf rw9))))))] sz) [(st, .inr (3, [.ref sl, .ref wo])), (sl, .inr (2, [.int (iZ p), .int (iZ q), .int (iZ c)])), (wo, .inr (4, [.long (lZ b), .int (iZ n)]))])) (Q1 (fun rv H0 H1 => ∃ (ns nq : Nat), rv = some (.int (iZ (c))) ∧ (True) ∧ va_P G vwCl [(xa, .inr (5, [.ref hi, .ref ci, .ref ns])), (hi, .inr (1, [.ref ra, .int (iZ (nxF nx)), .int (iZ (kpF kp))])), (ra, .inl (cy 2, 6, .inr (.inr (.inr (.inr (qf (upq rw9 nx (some st)))))))), (ns, .inr (3, [.ref nq, .ref wo])), (nq, .inr (2, [.int (iZ p), .int (iZ q), .int (iZ c9)]))] H1 ∧ va_D (va_A [(xa, .inr (5, [.ref hi, .ref ci, .ref st])), (hi, .inr (1, [.ref ra, .int (iZ nx), .int (iZ kp)])), (ra, .inl (cy 2, 6, .inr (.inr (.inr (.inr (qf rw9))))))] sz) [(xa, .inr (5, [.ref hi, .ref ci, .ref ns])), (hi, .inr (1, [.ref ra, .int (iZ (nxF nx)), .int (iZ (kpF kp))])), (ra, .inl (cy 2, 6, .inr (.inr (.inr (.inr (qf (upq rw9 nx (some st)))))))), (ns, .inr (3, [.ref nq, .ref wo])), (nq, .inr (2, [.int (iZ p), .int (iZ q), .int (iZ c9)]))] ∧ Fh (va_A [(xa, .inr (5, [.ref hi, .ref ci, .ref st])), (hi, .inr (1, [.ref ra, .int (iZ nx), .int (iZ kp)])), (ra, .inl (cy 2, 6, .inr (.inr (.inr (.inr (qf rw9))))))] sz) H0 H1)) 2 5 (va_A [(xa, .inr (5, [.ref hi, .ref ci, .ref st])), (hi, .inr (1, [.ref ra, .int (iZ nx), .int (iZ kp)])), (ra, .inl (cy 2, 6, .inr (.inr (.inr (.inr (qf rw9))))))] sz) := by
  refine z_head (lv := [(0, .ref xa), (1, .int (iZ c9))]) RX6 (by decide) rfl rfl (Nat.le_of_ble_eq_true rfl) rfl ?_
  intro pr ev s mt below meth cd ls hx hb hr hlocks hml hown hname hts hKK hP hl
  have hK := hKK.1
  obtain ⟨hsz, hP, hD0, hI0, hIA⟩ := hP
  subst hsz
  have hD := hD0.self (sz := s.heap.size)
  generalize hAe : va_A [(xa, .inr (5, [.ref hi, .ref ci, .ref st])), (hi, .inr (1, [.ref ra, .int (iZ nx), .int (iZ kp)])), (ra, .inl (cy 2, 6, .inr (.inr (.inr (.inr (qf rw9))))))] s.heap.size = A at hD hIA ⊢
  have hA : ∀ q : Nat, s.heap.size ≤ q → A q := fun q h => by rw [← hAe]; exact Or.inr h
  have hS : va_S A s.heap s.heap [] := va_S.rf
  have hP : va_P G vwCl [(xa, .inr (5, [.ref hi, .ref ci, .ref st])), (hi, .inr (1, [.ref ra, .int (iZ nx), .int (iZ kp)])), (ra, .inl (cy 2, 6, .inr (.inr (.inr (.inr (qf rw9))))))] s.heap := hP
  have hI : va_P G vwCl [(st, .inr (3, [.ref sl, .ref wo])), (sl, .inr (2, [.int (iZ p), .int (iZ q), .int (iZ c)])), (wo, .inr (4, [.long (lZ b), .int (iZ n)]))] s.heap := hI0
  refine lv_aload_n hx hb dX6_setIntercept_0 rfl (lv_at hl 0 rfl) ?_
  refine va_get (D := G) (ci := 5) (v := .ref st) (C := RX6) (T := TX6) (N := 3) hx hb hts (by decide +kernel) hown hK hP 0 rfl rfl 2 (by decide) (hts (.fieldLink RX6 38 "SturmianWords" "state" "LSturmianWords$State;") (by decide +kernel)) (fun _ h9 => h9) rfl dX6_setIntercept_1 ?_
  refine va_getN (D := G) (ci := 3) (v := .ref sl) (C := RX4) (T := TX4) (N := 2) hx hb hts (by decide +kernel) hown hK hI 0 rfl rfl 0 (by decide) (va_Nw.use rfl (hKK.2 (.fieldLinkNest RX6 54 "SturmianWords$State" "slope" "LSturmianWords$Slope;" "SturmianWords") (by decide +kernel))) (fun _ h9 => h9) rfl dX6_setIntercept_4 ?_
  refine lv_astore_n (lv' := [(2, .ref sl), (0, .ref xa), (1, .int (iZ c9))]) hx hb dX6_setIntercept_7 rfl hl (by decide) rfl (fun ls hl => ?_)
  refine lv_iload_n hx hb dX6_setIntercept_8 rfl (lv_at hl 2 rfl) ?_
  refine z_if_lt (tgt := 20) hx hb dX6_setIntercept_9 (by decide) (by omega) (fun c_9 => ?_) (fun c_9 => ?_)
  · exfalso; omega
  · refine lv_iload_n hx hb dX6_setIntercept_12 rfl (lv_at hl 2 rfl) ?_
    refine lv_aload_n hx hb dX6_setIntercept_13 rfl (lv_at hl 0 rfl) ?_
    refine va_getN (D := G) (ci := 2) (v := .int (iZ q)) (C := RX3) (T := TX3) (N := 3) hx hb hts (by decide +kernel) hown hK hI 1 rfl rfl 1 (by decide) (va_Nw.use rfl (hKK.2 (.fieldLinkNest RX6 58 "SturmianWords$Slope" "denominator" "I" "SturmianWords") (by decide +kernel))) (fun _ h9 => h9) rfl dX6_setIntercept_14 ?_
    refine z_icmp_lt (tgt := 22) hx hb dX6_setIntercept_17 (by decide) (by omega) (fun c_17 => ?_) (fun c_17 => ?_)
    · refine lv_aload_n hx hb dX6_setIntercept_22 rfl (lv_at hl 1 rfl) ?_
      refine va_new (D := G) (ci := 2) (fs := [.int (iZ 0), .int (iZ 0), .int (iZ 0)]) (C := RX3) (T := TX3) (N := 3) hx hb hts (by decide +kernel) tyX3 tyX3_ok hown (hts (.classLink RX6 25 RX3) (by decide +kernel)) (hts (.instantiable RX3 3) (by decide +kernel)) (hts (.initialized RX3) (by decide +kernel)) hK hP hD hS hA rfl (fun j hj => by rcases (show j = 0 ∨ j = 1 ∨ j = 2 by omega) with rfl | rfl | rfl <;> rfl) (show 0 + 1 ≤ 2 by omega) (show 0 + 3 ≤ 5 by omega) dX6_setIntercept_23 (fun n23_1 H hP hD hS => ?_)
      have hP : va_P G vwCl [(xa, .inr (5, [.ref hi, .ref ci, .ref st])), (hi, .inr (1, [.ref ra, .int (iZ nx), .int (iZ kp)])), (ra, .inl (cy 2, 6, .inr (.inr (.inr (.inr (qf rw9)))))), (n23_1, .inr (2, [.int (iZ 0), .int (iZ 0), .int (iZ 0)]))] H := hP
      have hD : va_D A [(xa, .inr (5, [.ref hi, .ref ci, .ref st])), (hi, .inr (1, [.ref ra, .int (iZ nx), .int (iZ kp)])), (ra, .inl (cy 2, 6, .inr (.inr (.inr (.inr (qf rw9)))))), (n23_1, .inr (2, [.int (iZ 0), .int (iZ 0), .int (iZ 0)]))] := hD
      have hI : va_P G vwCl [(st, .inr (3, [.ref sl, .ref wo])), (sl, .inr (2, [.int (iZ p), .int (iZ q), .int (iZ c)])), (wo, .inr (4, [.long (lZ b), .int (iZ n)]))] H := im_keep2 hI0 hIA (Fh.of hS)
      refine lv_dup hx hb dX6_setIntercept_26 rfl ?_
      refine lv_aload_n hx hb dX6_setIntercept_27 rfl (lv_at hl 0 rfl) ?_
      refine va_getN (D := G) (ci := 2) (v := .int (iZ p)) (C := RX3) (T := TX3) (N := 3) hx hb hts (by decide +kernel) hown hK hI 1 rfl rfl 0 (by decide) (va_Nw.use rfl (hKK.2 (.fieldLinkNest RX6 62 "SturmianWords$Slope" "numerator" "I" "SturmianWords") (by decide +kernel))) (fun _ h9 => h9) rfl dX6_setIntercept_28 ?_
      refine lv_aload_n hx hb dX6_setIntercept_31 rfl (lv_at hl 0 rfl) ?_
      refine va_getN (D := G) (ci := 2) (v := .int (iZ q)) (C := RX3) (T := TX3) (N := 3) hx hb hts (by decide +kernel) hown hK hI 1 rfl rfl 1 (by decide) (va_Nw.use rfl (hKK.2 (.fieldLinkNest RX6 58 "SturmianWords$Slope" "denominator" "I" "SturmianWords") (by decide +kernel))) (fun _ h9 => h9) rfl dX6_setIntercept_32 ?_
      refine lv_iload_n hx hb dX6_setIntercept_35 rfl (lv_at hl 2 rfl) ?_
      have hPc := hP.sub (ws' := [(n23_1, .inr (2, [.int (iZ 0), .int (iZ 0), .int (iZ 0)]))]) [3] rfl
      have hDc := (hD.sub (ws' := [(n23_1, .inr (2, [.int (iZ 0), .int (iZ 0), .int (iZ 0)]))]) [3] (by decide) rfl).weaken (B := fun _ => True) (fun _ _ _ _ => trivial)
      have hFc := va_free (wc := [(n23_1, .inr (2, [.int (iZ 0), .int (iZ 0), .int (iZ 0)]))]) hD hS hA [3] rfl
      refine z_callE (A := A) (va_runI (As := [.int (iZ p), .int (iZ q), .int (iZ c9)]) (rest := [.ref n23_1, .ref xa]) ⟨hx, hb, hml, hown, hts⟩ (c_X3_init lau G cy n23_1 H.size p q c9) (cwI 3 hts gX6_setIntercept_X3_init rfl rfl rfl (hts (.initialized RX3) (by decide +kernel)) (hts (.methodLink RX6 27 yX3_init) (by decide +kernel)) (hts (.instanceMethod yX3_init) (by decide +kernel)) rfl (by decide +kernel) ⟨Nat.le_of_ble_eq_true rfl, Nat.le_of_ble_eq_true rfl⟩) ⟨P1_blind, P1_mk hKK (⟨rfl, hPc, hDc⟩)⟩ rfl rfl hl.1 rfl (lv_room (Nat.le_of_ble_eq_true rfl)) dX6_setIntercept_36 ⟨(show 1 + 0 ≤ 2 by omega), (show 3 + 0 ≤ 5 by omega)⟩) hS.2.2 hFc (fun v H1 locs1 hR hL1 => ?_)
      obtain ⟨rfl, hq36, hP1, hD1, hF1⟩ := hR
      obtain ⟨hP, hD⟩ := va_join (wr := [(xa, .inr (5, [.ref hi, .ref ci, .ref st])), (hi, .inr (1, [.ref ra, .int (iZ nx), .int (iZ kp)])), (ra, .inl (cy 2, 6, .inr (.inr (.inr (.inr (qf rw9))))))]) (w1 := [(n23_1, .inr (2, [.int (iZ p), .int (iZ q), .int (iZ c9)]))]) hP hD [3] [0, 1, 2] rfl rfl (by decide) (by decide) hF1.2 hFc hP1 hD1
      have hS : va_S A s.heap H1 locs1 := Fh.S ((Fh.of hS).tr hF1 (fun q _ h => hFc q h)) hL1
      clear hPc hDc hFc hP1 hD1 hF1 hL1
      generalize H1 = H at hP hS ⊢
      have hP : va_P G vwCl [(xa, .inr (5, [.ref hi, .ref ci, .ref st])), (hi, .inr (1, [.ref ra, .int (iZ nx), .int (iZ kp)])), (ra, .inl (cy 2, 6, .inr (.inr (.inr (.inr (qf rw9)))))), (n23_1, .inr (2, [.int (iZ p), .int (iZ q), .int (iZ c9)]))] H := hP
      have hD : va_D A [(xa, .inr (5, [.ref hi, .ref ci, .ref st])), (hi, .inr (1, [.ref ra, .int (iZ nx), .int (iZ kp)])), (ra, .inl (cy 2, 6, .inr (.inr (.inr (.inr (qf rw9)))))), (n23_1, .inr (2, [.int (iZ p), .int (iZ q), .int (iZ c9)]))] := hD
      have hP := hP.sub (ws' := [(xa, .inr (5, [.ref hi, .ref ci, .ref st])), (hi, .inr (1, [.ref ra, .int (iZ nx), .int (iZ kp)])), (ra, .inl (cy 2, 6, .inr (.inr (.inr (.inr (qf rw9)))))), (n23_1, .inr (2, [.int (iZ p), .int (iZ q), .int (iZ c9)]))]) [0, 1, 2, 3] rfl
      have hD := hD.sub (ws' := [(xa, .inr (5, [.ref hi, .ref ci, .ref st])), (hi, .inr (1, [.ref ra, .int (iZ nx), .int (iZ kp)])), (ra, .inl (cy 2, 6, .inr (.inr (.inr (.inr (qf rw9)))))), (n23_1, .inr (2, [.int (iZ p), .int (iZ q), .int (iZ c9)]))]) [0, 1, 2, 3] (by decide) rfl
      refine W.eq (g2 := F0 mt 39 ls [.ref n23_1, .ref xa]) rfl ?_
      have hI : va_P G vwCl [(st, .inr (3, [.ref sl, .ref wo])), (sl, .inr (2, [.int (iZ p), .int (iZ q), .int (iZ c)])), (wo, .inr (4, [.long (lZ b), .int (iZ n)]))] H := im_keep2 hI0 hIA (Fh.of hS)
      have hPc := hP.sub (ws' := [(xa, .inr (5, [.ref hi, .ref ci, .ref st])), (hi, .inr (1, [.ref ra, .int (iZ nx), .int (iZ kp)])), (ra, .inl (cy 2, 6, .inr (.inr (.inr (.inr (qf rw9))))))]) [0, 1, 2] rfl
      have hDc := (hD.sub (ws' := [(xa, .inr (5, [.ref hi, .ref ci, .ref st])), (hi, .inr (1, [.ref ra, .int (iZ nx), .int (iZ kp)])), (ra, .inl (cy 2, 6, .inr (.inr (.inr (.inr (qf rw9))))))]) [0, 1, 2] (by decide) rfl).weaken (B := fun _ => True) (fun _ _ _ _ => trivial)
      have hFc := va_free (wc := [(xa, .inr (5, [.ref hi, .ref ci, .ref st])), (hi, .inr (1, [.ref ra, .int (iZ nx), .int (iZ kp)])), (ra, .inl (cy 2, 6, .inr (.inr (.inr (.inr (qf rw9))))))]) hD hS hA [0, 1, 2] rfl
      have hIc : va_P G vwCl [(st, .inr (3, [.ref sl, .ref wo]))] H := (hI.sub (ws' := [(st, .inr (3, [.ref sl, .ref wo]))]) [0] rfl)
      have hIAc : NA (va_A [(xa, .inr (5, [.ref hi, .ref ci, .ref st])), (hi, .inr (1, [.ref ra, .int (iZ nx), .int (iZ kp)])), (ra, .inl (cy 2, 6, .inr (.inr (.inr (.inr (qf rw9))))))] H.size) [(st, .inr (3, [.ref sl, .ref wo]))] := NA.cons (fun z => hIA.at 0 rfl (hFc _ z)) (NA.nil)
      refine z_callE (A := A) (va_runV (As := [.ref n23_1]) (rest := []) ⟨hx, hb, hml, hown, hts⟩ (c_X6_changeSlope lau G cy xa hi ci st ra sl wo n23_1 H.size nx kp rw9 (by first | omega | assumption) (by first | omega | assumption)) (cwV 1 hts gX6_setIntercept_X6_changeSlope rfl rfl rfl (by decide +kernel) ⟨Nat.le_of_ble_eq_true rfl, Nat.le_of_ble_eq_true rfl⟩) ⟨P1_blind, va_recv hK hP (ci := 5) (q0 := 0) rfl rfl, P1_mk hKK (⟨rfl, hPc, hDc, hIc, hIAc⟩)⟩ rfl rfl hl.1 rfl (lv_room (Nat.le_of_ble_eq_true rfl)) dX6_setIntercept_39 ⟨(show 1 + 1 ≤ 2 by omega), (show 3 + 2 ≤ 5 by omega)⟩) hS.2.2 hFc (fun v H1 locs1 hR hL1 => ?_)
      obtain ⟨ns_39, rfl, hq39, hP1, hD1, hF1⟩ := hR
      obtain ⟨hP, hD⟩ := va_join (wr := [(n23_1, .inr (2, [.int (iZ p), .int (iZ q), .int (iZ c9)]))]) (w1 := [(xa, .inr (5, [.ref hi, .ref ci, .ref ns_39])), (hi, .inr (1, [.ref ra, .int (iZ (nxF nx)), .int (iZ (kpF kp))])), (ra, .inl (cy 2, 6, .inr (.inr (.inr (.inr (qf (upq rw9 nx (some st)))))))), (ns_39, .inr (3, [.ref n23_1, .ref wo]))]) hP hD [0, 1, 2] [3] rfl rfl (by decide) (by decide) hF1.2 hFc hP1 hD1
      have hS : va_S A s.heap H1 locs1 := Fh.S ((Fh.of hS).tr hF1 (fun q _ h => hFc q h)) hL1
      clear hPc hDc hFc hP1 hD1 hF1 hL1 hIc hIAc
      generalize H1 = H at hP hS ⊢
      have hP : va_P G vwCl [(n23_1, .inr (2, [.int (iZ p), .int (iZ q), .int (iZ c9)])), (xa, .inr (5, [.ref hi, .ref ci, .ref ns_39])), (hi, .inr (1, [.ref ra, .int (iZ (nxF nx)), .int (iZ (kpF kp))])), (ra, .inl (cy 2, 6, .inr (.inr (.inr (.inr (qf (upq rw9 nx (some st)))))))), (ns_39, .inr (3, [.ref n23_1, .ref wo]))] H := hP
      have hD : va_D A [(n23_1, .inr (2, [.int (iZ p), .int (iZ q), .int (iZ c9)])), (xa, .inr (5, [.ref hi, .ref ci, .ref ns_39])), (hi, .inr (1, [.ref ra, .int (iZ (nxF nx)), .int (iZ (kpF kp))])), (ra, .inl (cy 2, 6, .inr (.inr (.inr (.inr (qf (upq rw9 nx (some st)))))))), (ns_39, .inr (3, [.ref n23_1, .ref wo]))] := hD
      refine W.eq (g2 := F0 mt 42 ls []) rfl ?_
      have hI : va_P G vwCl [(st, .inr (3, [.ref sl, .ref wo])), (sl, .inr (2, [.int (iZ p), .int (iZ q), .int (iZ c)])), (wo, .inr (4, [.long (lZ b), .int (iZ n)]))] H := im_keep2 hI0 hIA (Fh.of hS)
      refine lv_aload_n hx hb dX6_setIntercept_42 rfl (lv_at hl 0 rfl) ?_
      refine va_getN (D := G) (ci := 2) (v := .int (iZ c)) (C := RX3) (T := TX3) (N := 3) hx hb hts (by decide +kernel) hown hK hI 1 rfl rfl 2 (by decide) (va_Nw.use rfl (hKK.2 (.fieldLinkNest RX6 65 "SturmianWords$Slope" "intercept" "I" "SturmianWords") (by decide +kernel))) (fun _ h9 => h9) rfl dX6_setIntercept_43 ?_
      have hP := hP.sub (ws' := [(xa, .inr (5, [.ref hi, .ref ci, .ref ns_39])), (hi, .inr (1, [.ref ra, .int (iZ (nxF nx)), .int (iZ (kpF kp))])), (ra, .inl (cy 2, 6, .inr (.inr (.inr (.inr (qf (upq rw9 nx (some st)))))))), (ns_39, .inr (3, [.ref n23_1, .ref wo])), (n23_1, .inr (2, [.int (iZ p), .int (iZ q), .int (iZ c9)]))]) [1, 2, 3, 4, 0] rfl
      have hD := hD.sub (ws' := [(xa, .inr (5, [.ref hi, .ref ci, .ref ns_39])), (hi, .inr (1, [.ref ra, .int (iZ (nxF nx)), .int (iZ (kpF kp))])), (ra, .inl (cy 2, 6, .inr (.inr (.inr (.inr (qf (upq rw9 nx (some st)))))))), (ns_39, .inr (3, [.ref n23_1, .ref wo])), (n23_1, .inr (2, [.int (iZ p), .int (iZ q), .int (iZ c9)]))]) [1, 2, 3, 4, 0] (by decide) rfl
      exact z_iretE hx hb hr hlocks dX6_setIntercept_46 hS.2.2 ⟨(show 2 ≤ 2 by omega), (show 5 ≤ 5 by omega)⟩ ⟨ns_39, n23_1, (rfl), (trivial), (hP), (hD), Fh.of hS⟩
    · exfalso; omega
set_option maxHeartbeats 4000000 in
set_option maxRecDepth 100000 in
theorem c_X6_loadMechanical_no (lau : Launch) (G : va_G) (cy : Nat → ClassId) (xa hi ci st ra sl wo : Nat) (sz : Nat) (nx kp : Int) (rw9 : Int → Option Nat) (p q c b n : Int) (ln up : Int) (h1 : -2147483648 ≤ ln ∧ ln < 2147483648) (h2 : ln < 0) : Met lau yX6_loadMechanical wsX6_loadMechanical ({ frames := 3, cells := 0, slots := 0, locals := 74 }) (P1 G cy [.ref xa, .int (iZ ln), .int (iZ up)] (fun H => H.size = sz ∧ va_P G vwCl [(xa, .inr (5, [.ref hi, .ref ci, .ref st])), (hi, .inr (1, [.ref ra, .int (iZ nx), .int (iZ kp)])), (ra, .inl (cy 2, 6, .inr (.inr (.inr (.inr (qf rw9))))))] H ∧ va_D (fun _ => True) [(xa, .inr (5, [.ref hi, .ref ci, .ref st])), (hi, .inr (1, [.ref ra, .int (iZ nx), .int (iZ kp)])), (ra, .inl (cy 2, 6, .inr (.inr (.inr (.inr (qf rw9))))))] ∧ va_P G vwCl [(st, .inr (3, [.ref sl, .ref wo])), (sl, .inr (2, [.int (iZ p), .int (iZ q), .int (iZ c)])), (wo, .inr (4, [.long (lZ b), .int (iZ n)]))] H ∧ NA (va_A [(xa, .inr (5, [.ref hi, .ref ci, .ref st])), (hi, .inr (1, [.ref ra, .int (iZ nx), .int (iZ kp)])), (ra, .inl (cy 2, 6, .inr (.inr (.inr (.inr (qf rw9))))))] sz) [(st, .inr (3, [.ref sl, .ref wo])), (sl, .inr (2, [.int (iZ p), .int (iZ q), .int (iZ c)])), (wo, .inr (4, [.long (lZ b), .int (iZ n)]))])) (Q1 (fun rv H0 H1 => rv = some (.int (iZ (-1))) ∧ (True) ∧ va_P G vwCl [(xa, .inr (5, [.ref hi, .ref ci, .ref st])), (hi, .inr (1, [.ref ra, .int (iZ nx), .int (iZ kp)])), (ra, .inl (cy 2, 6, .inr (.inr (.inr (.inr (qf rw9))))))] H1 ∧ va_D (va_A [(xa, .inr (5, [.ref hi, .ref ci, .ref st])), (hi, .inr (1, [.ref ra, .int (iZ nx), .int (iZ kp)])), (ra, .inl (cy 2, 6, .inr (.inr (.inr (.inr (qf rw9))))))] sz) [(xa, .inr (5, [.ref hi, .ref ci, .ref st])), (hi, .inr (1, [.ref ra, .int (iZ nx), .int (iZ kp)])), (ra, .inl (cy 2, 6, .inr (.inr (.inr (.inr (qf rw9))))))] ∧ Fh (va_A [(xa, .inr (5, [.ref hi, .ref ci, .ref st])), (hi, .inr (1, [.ref ra, .int (iZ nx), .int (iZ kp)])), (ra, .inl (cy 2, 6, .inr (.inr (.inr (.inr (qf rw9))))))] sz) H0 H1)) 0 0 (va_A [(xa, .inr (5, [.ref hi, .ref ci, .ref st])), (hi, .inr (1, [.ref ra, .int (iZ nx), .int (iZ kp)])), (ra, .inl (cy 2, 6, .inr (.inr (.inr (.inr (qf rw9))))))] sz) := by
  refine z_head (lv := [(0, .ref xa), (1, .int (iZ ln)), (2, .int (iZ up))]) RX6 (by decide) rfl rfl (Nat.le_of_ble_eq_true rfl) rfl ?_
  intro pr ev s mt below meth cd ls hx hb hr hlocks hml hown hname hts hKK hP hl
  have hK := hKK.1
  obtain ⟨hsz, hP, hD0, hI0, hIA⟩ := hP
  subst hsz
  have hD := hD0.self (sz := s.heap.size)
  generalize hAe : va_A [(xa, .inr (5, [.ref hi, .ref ci, .ref st])), (hi, .inr (1, [.ref ra, .int (iZ nx), .int (iZ kp)])), (ra, .inl (cy 2, 6, .inr (.inr (.inr (.inr (qf rw9))))))] s.heap.size = A at hD hIA ⊢
  have hA : ∀ q : Nat, s.heap.size ≤ q → A q := fun q h => by rw [← hAe]; exact Or.inr h
  have hS : va_S A s.heap s.heap [] := va_S.rf
  have hP : va_P G vwCl [(xa, .inr (5, [.ref hi, .ref ci, .ref st])), (hi, .inr (1, [.ref ra, .int (iZ nx), .int (iZ kp)])), (ra, .inl (cy 2, 6, .inr (.inr (.inr (.inr (qf rw9))))))] s.heap := hP
  have hI : va_P G vwCl [(st, .inr (3, [.ref sl, .ref wo])), (sl, .inr (2, [.int (iZ p), .int (iZ q), .int (iZ c)])), (wo, .inr (4, [.long (lZ b), .int (iZ n)]))] s.heap := hI0
  refine lv_iload_n hx hb dX6_loadMechanical_0 rfl (lv_at hl 1 rfl) ?_
  refine z_if_ge (tgt := 6) hx hb dX6_loadMechanical_1 (by decide) (by omega) (fun c_1 => ?_) (fun c_1 => ?_)
  · exfalso; omega
  · refine lv_iconst (v := iZ (-1)) hx hb dX6_loadMechanical_4 rfl ?_
    exact z_iretE hx hb hr hlocks dX6_loadMechanical_5 hS.2.2 ⟨(show 0 ≤ 0 by omega), (show 0 ≤ 0 by omega)⟩ ⟨(rfl), (trivial), (hP), (hD), Fh.of hS⟩
set_option maxHeartbeats 4000000 in
set_option maxRecDepth 100000 in
theorem c_X6_loadMechanical_no2 (lau : Launch) (G : va_G) (cy : Nat → ClassId) (xa hi ci st ra sl wo : Nat) (sz : Nat) (nx kp : Int) (rw9 : Int → Option Nat) (p q c b n : Int) (ln up : Int) (h1 : -2147483648 ≤ ln ∧ ln < 2147483648) (h2 : 60 < ln) : Met lau yX6_loadMechanical wsX6_loadMechanical ({ frames := 3, cells := 0, slots := 0, locals := 74 }) (P1 G cy [.ref xa, .int (iZ ln), .int (iZ up)] (fun H => H.size = sz ∧ va_P G vwCl [(xa, .inr (5, [.ref hi, .ref ci, .ref st])), (hi, .inr (1, [.ref ra, .int (iZ nx), .int (iZ kp)])), (ra, .inl (cy 2, 6, .inr (.inr (.inr (.inr (qf rw9))))))] H ∧ va_D (fun _ => True) [(xa, .inr (5, [.ref hi, .ref ci, .ref st])), (hi, .inr (1, [.ref ra, .int (iZ nx), .int (iZ kp)])), (ra, .inl (cy 2, 6, .inr (.inr (.inr (.inr (qf rw9))))))] ∧ va_P G vwCl [(st, .inr (3, [.ref sl, .ref wo])), (sl, .inr (2, [.int (iZ p), .int (iZ q), .int (iZ c)])), (wo, .inr (4, [.long (lZ b), .int (iZ n)]))] H ∧ NA (va_A [(xa, .inr (5, [.ref hi, .ref ci, .ref st])), (hi, .inr (1, [.ref ra, .int (iZ nx), .int (iZ kp)])), (ra, .inl (cy 2, 6, .inr (.inr (.inr (.inr (qf rw9))))))] sz) [(st, .inr (3, [.ref sl, .ref wo])), (sl, .inr (2, [.int (iZ p), .int (iZ q), .int (iZ c)])), (wo, .inr (4, [.long (lZ b), .int (iZ n)]))])) (Q1 (fun rv H0 H1 => rv = some (.int (iZ (-2))) ∧ (True) ∧ va_P G vwCl [(xa, .inr (5, [.ref hi, .ref ci, .ref st])), (hi, .inr (1, [.ref ra, .int (iZ nx), .int (iZ kp)])), (ra, .inl (cy 2, 6, .inr (.inr (.inr (.inr (qf rw9))))))] H1 ∧ va_D (va_A [(xa, .inr (5, [.ref hi, .ref ci, .ref st])), (hi, .inr (1, [.ref ra, .int (iZ nx), .int (iZ kp)])), (ra, .inl (cy 2, 6, .inr (.inr (.inr (.inr (qf rw9))))))] sz) [(xa, .inr (5, [.ref hi, .ref ci, .ref st])), (hi, .inr (1, [.ref ra, .int (iZ nx), .int (iZ kp)])), (ra, .inl (cy 2, 6, .inr (.inr (.inr (.inr (qf rw9))))))] ∧ Fh (va_A [(xa, .inr (5, [.ref hi, .ref ci, .ref st])), (hi, .inr (1, [.ref ra, .int (iZ nx), .int (iZ kp)])), (ra, .inl (cy 2, 6, .inr (.inr (.inr (.inr (qf rw9))))))] sz) H0 H1)) 0 0 (va_A [(xa, .inr (5, [.ref hi, .ref ci, .ref st])), (hi, .inr (1, [.ref ra, .int (iZ nx), .int (iZ kp)])), (ra, .inl (cy 2, 6, .inr (.inr (.inr (.inr (qf rw9))))))] sz) := by
  refine z_head (lv := [(0, .ref xa), (1, .int (iZ ln)), (2, .int (iZ up))]) RX6 (by decide) rfl rfl (Nat.le_of_ble_eq_true rfl) rfl ?_
  intro pr ev s mt below meth cd ls hx hb hr hlocks hml hown hname hts hKK hP hl
  have hK := hKK.1
  obtain ⟨hsz, hP, hD0, hI0, hIA⟩ := hP
  subst hsz
  have hD := hD0.self (sz := s.heap.size)
  generalize hAe : va_A [(xa, .inr (5, [.ref hi, .ref ci, .ref st])), (hi, .inr (1, [.ref ra, .int (iZ nx), .int (iZ kp)])), (ra, .inl (cy 2, 6, .inr (.inr (.inr (.inr (qf rw9))))))] s.heap.size = A at hD hIA ⊢
  have hA : ∀ q : Nat, s.heap.size ≤ q → A q := fun q h => by rw [← hAe]; exact Or.inr h
  have hS : va_S A s.heap s.heap [] := va_S.rf
  have hP : va_P G vwCl [(xa, .inr (5, [.ref hi, .ref ci, .ref st])), (hi, .inr (1, [.ref ra, .int (iZ nx), .int (iZ kp)])), (ra, .inl (cy 2, 6, .inr (.inr (.inr (.inr (qf rw9))))))] s.heap := hP
  have hI : va_P G vwCl [(st, .inr (3, [.ref sl, .ref wo])), (sl, .inr (2, [.int (iZ p), .int (iZ q), .int (iZ c)])), (wo, .inr (4, [.long (lZ b), .int (iZ n)]))] s.heap := hI0
  refine lv_iload_n hx hb dX6_loadMechanical_0 rfl (lv_at hl 1 rfl) ?_
  refine z_if_ge (tgt := 6) hx hb dX6_loadMechanical_1 (by decide) (by omega) (fun c_1 => ?_) (fun c_1 => ?_)
  · refine lv_iload_n hx hb dX6_loadMechanical_6 rfl (lv_at hl 1 rfl) ?_
    refine lv_bipush (v := iZ 60) hx hb dX6_loadMechanical_7 (by decide +kernel) ?_
    refine z_icmp_le (tgt := 15) hx hb dX6_loadMechanical_9 (by decide) (by omega) (fun c_9 => ?_) (fun c_9 => ?_)
    · exfalso; omega
    · refine lv_bipush (v := iZ (-2)) hx hb dX6_loadMechanical_12 (by decide +kernel) ?_
      exact z_iretE hx hb hr hlocks dX6_loadMechanical_14 hS.2.2 ⟨(show 0 ≤ 0 by omega), (show 0 ≤ 0 by omega)⟩ ⟨(rfl), (trivial), (hP), (hD), Fh.of hS⟩
  · exfalso; omega
set_option maxHeartbeats 4000000 in
set_option maxRecDepth 100000 in
theorem c_X6_loadMechanical (lau : Launch) (G : va_G) (cy : Nat → ClassId) (xa hi ci st ra sl wo : Nat) (sz : Nat) (nx kp : Int) (rw9 : Int → Option Nat) (p q c b n : Int) (ln up : Int) (hnx : 0 ≤ nx ∧ nx < 6) (hkp : 0 ≤ kp ∧ kp ≤ 6) (hp : 0 ≤ p ∧ p ≤ q) (hq : 0 < q ∧ q ≤ 1000) (hc : 0 ≤ c ∧ c < q) (h2 : 0 ≤ ln ∧ ln ≤ 60) (hu : 0 ≤ up ∧ up ≤ 1) : Met lau yX6_loadMechanical wsX6_loadMechanical ({ frames := 3, cells := 2, slots := 5, locals := 74 }) (P1 G cy [.ref xa, .int (iZ ln), .int (iZ up)] (fun H => H.size = sz ∧ va_P G vwCl [(xa, .inr (5, [.ref hi, .ref ci, .ref st])), (hi, .inr (1, [.ref ra, .int (iZ nx), .int (iZ kp)])), (ra, .inl (cy 2, 6, .inr (.inr (.inr (.inr (qf rw9))))))] H ∧ va_D (fun _ => True) [(xa, .inr (5, [.ref hi, .ref ci, .ref st])), (hi, .inr (1, [.ref ra, .int (iZ nx), .int (iZ kp)])), (ra, .inl (cy 2, 6, .inr (.inr (.inr (.inr (qf rw9))))))] ∧ va_P G vwCl [(st, .inr (3, [.ref sl, .ref wo])), (sl, .inr (2, [.int (iZ p), .int (iZ q), .int (iZ c)])), (wo, .inr (4, [.long (lZ b), .int (iZ n)]))] H ∧ NA (va_A [(xa, .inr (5, [.ref hi, .ref ci, .ref st])), (hi, .inr (1, [.ref ra, .int (iZ nx), .int (iZ kp)])), (ra, .inl (cy 2, 6, .inr (.inr (.inr (.inr (qf rw9))))))] sz) [(st, .inr (3, [.ref sl, .ref wo])), (sl, .inr (2, [.int (iZ p), .int (iZ q), .int (iZ c)])), (wo, .inr (4, [.long (lZ b), .int (iZ n)]))])) (Q1 (fun rv H0 H1 => ∃ (ns nq : Nat), rv = some (.int (iZ (ons (mlB p q c up ln)))) ∧ (True) ∧ va_P G vwCl [(xa, .inr (5, [.ref hi, .ref ci, .ref ns])), (hi, .inr (1, [.ref ra, .int (iZ (nxF nx)), .int (iZ (kpF kp))])), (ra, .inl (cy 2, 6, .inr (.inr (.inr (.inr (qf (upq rw9 nx (some st)))))))), (ns, .inr (3, [.ref sl, .ref nq])), (nq, .inr (4, [.long (lZ (mlB p q c up ln)), .int (iZ ln)]))] H1 ∧ va_D (va_A [(xa, .inr (5, [.ref hi, .ref ci, .ref st])), (hi, .inr (1, [.ref ra, .int (iZ nx), .int (iZ kp)])), (ra, .inl (cy 2, 6, .inr (.inr (.inr (.inr (qf rw9))))))] sz) [(xa, .inr (5, [.ref hi, .ref ci, .ref ns])), (hi, .inr (1, [.ref ra, .int (iZ (nxF nx)), .int (iZ (kpF kp))])), (ra, .inl (cy 2, 6, .inr (.inr (.inr (.inr (qf (upq rw9 nx (some st)))))))), (ns, .inr (3, [.ref sl, .ref nq])), (nq, .inr (4, [.long (lZ (mlB p q c up ln)), .int (iZ ln)]))] ∧ Fh (va_A [(xa, .inr (5, [.ref hi, .ref ci, .ref st])), (hi, .inr (1, [.ref ra, .int (iZ nx), .int (iZ kp)])), (ra, .inl (cy 2, 6, .inr (.inr (.inr (.inr (qf rw9))))))] sz) H0 H1)) 2 5 (va_A [(xa, .inr (5, [.ref hi, .ref ci, .ref st])), (hi, .inr (1, [.ref ra, .int (iZ nx), .int (iZ kp)])), (ra, .inl (cy 2, 6, .inr (.inr (.inr (.inr (qf rw9))))))] sz) := by
  refine z_head (lv := [(0, .ref xa), (1, .int (iZ ln)), (2, .int (iZ up))]) RX6 (by decide) rfl rfl (Nat.le_of_ble_eq_true rfl) rfl ?_
  intro pr ev s mt below meth cd ls hx hb hr hlocks hml hown hname hts hKK hP hl
  have hK := hKK.1
  obtain ⟨hsz, hP, hD0, hI0, hIA⟩ := hP
  subst hsz
  have hD := hD0.self (sz := s.heap.size)
  generalize hAe : va_A [(xa, .inr (5, [.ref hi, .ref ci, .ref st])), (hi, .inr (1, [.ref ra, .int (iZ nx), .int (iZ kp)])), (ra, .inl (cy 2, 6, .inr (.inr (.inr (.inr (qf rw9))))))] s.heap.size = A at hD hIA ⊢
  have hA : ∀ q : Nat, s.heap.size ≤ q → A q := fun q h => by rw [← hAe]; exact Or.inr h
  have hS : va_S A s.heap s.heap [] := va_S.rf
  have hP : va_P G vwCl [(xa, .inr (5, [.ref hi, .ref ci, .ref st])), (hi, .inr (1, [.ref ra, .int (iZ nx), .int (iZ kp)])), (ra, .inl (cy 2, 6, .inr (.inr (.inr (.inr (qf rw9))))))] s.heap := hP
  have hI : va_P G vwCl [(st, .inr (3, [.ref sl, .ref wo])), (sl, .inr (2, [.int (iZ p), .int (iZ q), .int (iZ c)])), (wo, .inr (4, [.long (lZ b), .int (iZ n)]))] s.heap := hI0
  refine lv_iload_n hx hb dX6_loadMechanical_0 rfl (lv_at hl 1 rfl) ?_
  refine z_if_ge (tgt := 6) hx hb dX6_loadMechanical_1 (by decide) (by omega) (fun c_1 => ?_) (fun c_1 => ?_)
  · refine lv_iload_n hx hb dX6_loadMechanical_6 rfl (lv_at hl 1 rfl) ?_
    refine lv_bipush (v := iZ 60) hx hb dX6_loadMechanical_7 (by decide +kernel) ?_
    refine z_icmp_le (tgt := 15) hx hb dX6_loadMechanical_9 (by decide) (by omega) (fun c_9 => ?_) (fun c_9 => ?_)
    · refine lv_aload_n hx hb dX6_loadMechanical_15 rfl (lv_at hl 0 rfl) ?_
      refine va_get (D := G) (ci := 5) (v := .ref st) (C := RX6) (T := TX6) (N := 3) hx hb hts (by decide +kernel) hown hK hP 0 rfl rfl 2 (by decide) (hts (.fieldLink RX6 38 "SturmianWords" "state" "LSturmianWords$State;") (by decide +kernel)) (fun _ h9 => h9) rfl dX6_loadMechanical_16 ?_
      refine va_getN (D := G) (ci := 3) (v := .ref sl) (C := RX4) (T := TX4) (N := 2) hx hb hts (by decide +kernel) hown hK hI 0 rfl rfl 0 (by decide) (va_Nw.use rfl (hKK.2 (.fieldLinkNest RX6 54 "SturmianWords$State" "slope" "LSturmianWords$Slope;" "SturmianWords") (by decide +kernel))) (fun _ h9 => h9) rfl dX6_loadMechanical_19 ?_
      refine lv_iload_n hx hb dX6_loadMechanical_22 rfl (lv_at hl 1 rfl) ?_
      refine lv_iload_n hx hb dX6_loadMechanical_23 rfl (lv_at hl 2 rfl) ?_
      have hPc := hP.sub (ws' := []) [] rfl
      have hDc := (hD.sub (ws' := []) [] (by decide) rfl).weaken (B := fun _ => True) (fun _ _ _ _ => trivial)
      have hFc := va_free (wc := []) hD hS hA [] rfl
      have hIc : va_P G vwCl [(sl, .inr (2, [.int (iZ p), .int (iZ q), .int (iZ c)]))] s.heap := (hI.sub (ws' := [(sl, .inr (2, [.int (iZ p), .int (iZ q), .int (iZ c)]))]) [1] rfl)
      have hIAc : NA (va_A [] s.heap.size) [(sl, .inr (2, [.int (iZ p), .int (iZ q), .int (iZ c)]))] := NA.cons (fun z => hIA.at 1 rfl (hFc _ z)) (NA.nil)
      refine z_callE (A := A) (va_runV (As := [.int (iZ ln), .int (iZ up)]) (rest := []) ⟨hx, hb, hml, hown, hts⟩ (c_X3_firstLetters lau G cy sl s.heap.size p q c ln up (by first | omega | assumption) (by first | omega | assumption) (by first | omega | assumption) (by first | omega | assumption) (by first | omega | assumption)) (cwV 2 hts gX6_loadMechanical_X3_firstLetters rfl rfl rfl (by decide +kernel) ⟨Nat.le_of_ble_eq_true rfl, Nat.le_of_ble_eq_true rfl⟩) ⟨P1_blind, va_recv hK hI (ci := 2) (q0 := 1) rfl rfl, P1_mk hKK (⟨rfl, hPc, hDc, hIc, hIAc⟩)⟩ rfl rfl hl.1 rfl (lv_room (Nat.le_of_ble_eq_true rfl)) dX6_loadMechanical_24 ⟨(show 0 + 1 ≤ 2 by omega), (show 0 + 2 ≤ 5 by omega)⟩) hS.2.2 hFc (fun v H1 locs1 hR hL1 => ?_)
      obtain ⟨qo_24, rfl, hq24, hP1, hD1, hF1⟩ := hR
      obtain ⟨hP, hD⟩ := va_join (wr := [(xa, .inr (5, [.ref hi, .ref ci, .ref st])), (hi, .inr (1, [.ref ra, .int (iZ nx), .int (iZ kp)])), (ra, .inl (cy 2, 6, .inr (.inr (.inr (.inr (qf rw9))))))]) (w1 := [(qo_24, .inr (4, [.long (lZ (mlB p q c up ln)), .int (iZ ln)]))]) hP hD [] [0, 1, 2] rfl rfl (by decide) (by decide) hF1.2 hFc hP1 hD1
      have hS : va_S A s.heap H1 locs1 := Fh.S ((Fh.of hS).tr hF1 (fun q _ h => hFc q h)) hL1
      clear hPc hDc hFc hP1 hD1 hF1 hL1 hIc hIAc
      generalize H1 = H at hP hS ⊢
      have hP : va_P G vwCl [(xa, .inr (5, [.ref hi, .ref ci, .ref st])), (hi, .inr (1, [.ref ra, .int (iZ nx), .int (iZ kp)])), (ra, .inl (cy 2, 6, .inr (.inr (.inr (.inr (qf rw9)))))), (qo_24, .inr (4, [.long (lZ (mlB p q c up ln)), .int (iZ ln)]))] H := hP
      have hD : va_D A [(xa, .inr (5, [.ref hi, .ref ci, .ref st])), (hi, .inr (1, [.ref ra, .int (iZ nx), .int (iZ kp)])), (ra, .inl (cy 2, 6, .inr (.inr (.inr (.inr (qf rw9)))))), (qo_24, .inr (4, [.long (lZ (mlB p q c up ln)), .int (iZ ln)]))] := hD
      refine W.eq (g2 := F0 mt 27 ls [.ref qo_24]) rfl ?_
      have hI : va_P G vwCl [(st, .inr (3, [.ref sl, .ref wo])), (sl, .inr (2, [.int (iZ p), .int (iZ q), .int (iZ c)])), (wo, .inr (4, [.long (lZ b), .int (iZ n)]))] H := im_keep2 hI0 hIA (Fh.of hS)
      refine lv_astore_n (lv' := [(3, .ref qo_24), (0, .ref xa), (1, .int (iZ ln)), (2, .int (iZ up))]) hx hb dX6_loadMechanical_27 rfl hl (by decide) rfl (fun ls hl => ?_)
      refine lv_aload_n hx hb dX6_loadMechanical_28 rfl (lv_at hl 1 rfl) ?_
      refine lv_aload_n hx hb dX6_loadMechanical_29 rfl (lv_at hl 0 rfl) ?_
      have hPc := hP.sub (ws' := [(xa, .inr (5, [.ref hi, .ref ci, .ref st])), (hi, .inr (1, [.ref ra, .int (iZ nx), .int (iZ kp)])), (ra, .inl (cy 2, 6, .inr (.inr (.inr (.inr (qf rw9))))))]) [0, 1, 2] rfl
      have hDc := (hD.sub (ws' := [(xa, .inr (5, [.ref hi, .ref ci, .ref st])), (hi, .inr (1, [.ref ra, .int (iZ nx), .int (iZ kp)])), (ra, .inl (cy 2, 6, .inr (.inr (.inr (.inr (qf rw9))))))]) [0, 1, 2] (by decide) rfl).weaken (B := fun _ => True) (fun _ _ _ _ => trivial)
      have hFc := va_free (wc := [(xa, .inr (5, [.ref hi, .ref ci, .ref st])), (hi, .inr (1, [.ref ra, .int (iZ nx), .int (iZ kp)])), (ra, .inl (cy 2, 6, .inr (.inr (.inr (.inr (qf rw9))))))]) hD hS hA [0, 1, 2] rfl
      have hIc : va_P G vwCl [(st, .inr (3, [.ref sl, .ref wo]))] H := (hI.sub (ws' := [(st, .inr (3, [.ref sl, .ref wo]))]) [0] rfl)
      have hIAc : NA (va_A [(xa, .inr (5, [.ref hi, .ref ci, .ref st])), (hi, .inr (1, [.ref ra, .int (iZ nx), .int (iZ kp)])), (ra, .inl (cy 2, 6, .inr (.inr (.inr (.inr (qf rw9))))))] H.size) [(st, .inr (3, [.ref sl, .ref wo]))] := NA.cons (fun z => hIA.at 0 rfl (hFc _ z)) (NA.nil)
      refine z_callE (A := A) (va_runV (As := [.ref qo_24]) (rest := []) ⟨hx, hb, hml, hown, hts⟩ (c_X6_changeWord lau G cy xa hi ci st ra sl wo qo_24 H.size nx kp rw9 (by first | omega | assumption) (by first | omega | assumption)) (cwV 1 hts gX6_loadMechanical_X6_changeWord rfl rfl rfl (by decide +kernel) ⟨Nat.le_of_ble_eq_true rfl, Nat.le_of_ble_eq_true rfl⟩) ⟨P1_blind, va_recv hK hP (ci := 5) (q0 := 0) rfl rfl, P1_mk hKK (⟨rfl, hPc, hDc, hIc, hIAc⟩)⟩ rfl rfl hl.1 rfl (lv_room (Nat.le_of_ble_eq_true rfl)) dX6_loadMechanical_30 ⟨(show 1 + 1 ≤ 2 by omega), (show 2 + 2 ≤ 5 by omega)⟩) hS.2.2 hFc (fun v H1 locs1 hR hL1 => ?_)
      obtain ⟨ns_30, rfl, hq30, hP1, hD1, hF1⟩ := hR
      obtain ⟨hP, hD⟩ := va_join (wr := [(qo_24, .inr (4, [.long (lZ (mlB p q c up ln)), .int (iZ ln)]))]) (w1 := [(xa, .inr (5, [.ref hi, .ref ci, .ref ns_30])), (hi, .inr (1, [.ref ra, .int (iZ (nxF nx)), .int (iZ (kpF kp))])), (ra, .inl (cy 2, 6, .inr (.inr (.inr (.inr (qf (upq rw9 nx (some st)))))))), (ns_30, .inr (3, [.ref sl, .ref qo_24]))]) hP hD [0, 1, 2] [3] rfl rfl (by decide) (by decide) hF1.2 hFc hP1 hD1
      have hS : va_S A s.heap H1 locs1 := Fh.S ((Fh.of hS).tr hF1 (fun q _ h => hFc q h)) hL1
      clear hPc hDc hFc hP1 hD1 hF1 hL1 hIc hIAc
      generalize H1 = H at hP hS ⊢
      have hP : va_P G vwCl [(qo_24, .inr (4, [.long (lZ (mlB p q c up ln)), .int (iZ ln)])), (xa, .inr (5, [.ref hi, .ref ci, .ref ns_30])), (hi, .inr (1, [.ref ra, .int (iZ (nxF nx)), .int (iZ (kpF kp))])), (ra, .inl (cy 2, 6, .inr (.inr (.inr (.inr (qf (upq rw9 nx (some st)))))))), (ns_30, .inr (3, [.ref sl, .ref qo_24]))] H := hP
      have hD : va_D A [(qo_24, .inr (4, [.long (lZ (mlB p q c up ln)), .int (iZ ln)])), (xa, .inr (5, [.ref hi, .ref ci, .ref ns_30])), (hi, .inr (1, [.ref ra, .int (iZ (nxF nx)), .int (iZ (kpF kp))])), (ra, .inl (cy 2, 6, .inr (.inr (.inr (.inr (qf (upq rw9 nx (some st)))))))), (ns_30, .inr (3, [.ref sl, .ref qo_24]))] := hD
      refine W.eq (g2 := F0 mt 33 ls []) rfl ?_
      have hI : va_P G vwCl [(st, .inr (3, [.ref sl, .ref wo])), (sl, .inr (2, [.int (iZ p), .int (iZ q), .int (iZ c)])), (wo, .inr (4, [.long (lZ b), .int (iZ n)]))] H := im_keep2 hI0 hIA (Fh.of hS)
      refine lv_aload_n hx hb dX6_loadMechanical_33 rfl (lv_at hl 0 rfl) ?_
      have hmb : 0 ≤ mlB p q c up ln ∧ mlB p q c up ln < pw ln := nat_r (P := fun k => 0 ≤ mlB p q c up k ∧ mlB p q c up k < pw k) (mlB_r hp hq.1) h2.1
      have hpl := pw_61 h2.2
      refine z_calli (va_runV (As := []) (rest := []) ⟨hx, hb, hml, hown, hts⟩ (c_X5_ones lau G cy qo_24 (mlB p q c up ln) ln (by first | omega | assumption) (by first | omega | assumption)) (cwV 0 hts gX6_loadMechanical_X5_ones rfl rfl rfl (by decide +kernel) ⟨Nat.le_of_ble_eq_true rfl, Nat.le_of_ble_eq_true rfl⟩) ⟨P1_blind, va_recv hK hP (ci := 4) (q0 := 0) rfl rfl, P1_mk hKK (hP.sub [0] rfl)⟩ rfl rfl hl.1 rfl (lv_room (Nat.le_of_ble_eq_true rfl)) dX6_loadMechanical_34 ⟨(show 2 + 0 ≤ 2 by omega), (show 4 + 0 ≤ 5 by omega)⟩) ?_
      have hP := hP.sub (ws' := [(xa, .inr (5, [.ref hi, .ref ci, .ref ns_30])), (hi, .inr (1, [.ref ra, .int (iZ (nxF nx)), .int (iZ (kpF kp))])), (ra, .inl (cy 2, 6, .inr (.inr (.inr (.inr (qf (upq rw9 nx (some st)))))))), (ns_30, .inr (3, [.ref sl, .ref qo_24])), (qo_24, .inr (4, [.long (lZ (mlB p q c up ln)), .int (iZ ln)]))]) [1, 2, 3, 4, 0] rfl
      have hD := hD.sub (ws' := [(xa, .inr (5, [.ref hi, .ref ci, .ref ns_30])), (hi, .inr (1, [.ref ra, .int (iZ (nxF nx)), .int (iZ (kpF kp))])), (ra, .inl (cy 2, 6, .inr (.inr (.inr (.inr (qf (upq rw9 nx (some st)))))))), (ns_30, .inr (3, [.ref sl, .ref qo_24])), (qo_24, .inr (4, [.long (lZ (mlB p q c up ln)), .int (iZ ln)]))]) [1, 2, 3, 4, 0] (by decide) rfl
      exact z_iretE hx hb hr hlocks dX6_loadMechanical_37 hS.2.2 ⟨(show 2 ≤ 2 by omega), (show 4 ≤ 5 by omega)⟩ ⟨ns_30, qo_24, (rfl), (trivial), (hP), (hD), Fh.of hS⟩
    · exfalso; omega
  · exfalso; omega
set_option maxHeartbeats 4000000 in
set_option maxRecDepth 100000 in
theorem c_X6_loadStandard_no (lau : Launch) (G : va_G) (cy : Nat → ClassId) (xa hi ci st ra sl wo : Nat) (sz : Nat) (nx kp : Int) (rw9 : Int → Option Nat) (p q c b n : Int) (kk : Int) (h1 : -2147483648 ≤ kk ∧ kk < 2147483648) (h2 : kk < -1) : Met lau yX6_loadStandard wsX6_loadStandard ({ frames := 4, cells := 0, slots := 0, locals := 91 }) (P1 G cy [.ref xa, .int (iZ kk)] (fun H => H.size = sz ∧ va_P G vwCl [(xa, .inr (5, [.ref hi, .ref ci, .ref st])), (hi, .inr (1, [.ref ra, .int (iZ nx), .int (iZ kp)])), (ra, .inl (cy 2, 6, .inr (.inr (.inr (.inr (qf rw9))))))] H ∧ va_D (fun _ => True) [(xa, .inr (5, [.ref hi, .ref ci, .ref st])), (hi, .inr (1, [.ref ra, .int (iZ nx), .int (iZ kp)])), (ra, .inl (cy 2, 6, .inr (.inr (.inr (.inr (qf rw9))))))] ∧ va_P G vwCl [(st, .inr (3, [.ref sl, .ref wo])), (sl, .inr (2, [.int (iZ p), .int (iZ q), .int (iZ c)])), (wo, .inr (4, [.long (lZ b), .int (iZ n)]))] H ∧ NA (va_A [(xa, .inr (5, [.ref hi, .ref ci, .ref st])), (hi, .inr (1, [.ref ra, .int (iZ nx), .int (iZ kp)])), (ra, .inl (cy 2, 6, .inr (.inr (.inr (.inr (qf rw9))))))] sz) [(st, .inr (3, [.ref sl, .ref wo])), (sl, .inr (2, [.int (iZ p), .int (iZ q), .int (iZ c)])), (wo, .inr (4, [.long (lZ b), .int (iZ n)]))])) (Q1 (fun rv H0 H1 => rv = some (.int (iZ (-1))) ∧ (True) ∧ va_P G vwCl [(xa, .inr (5, [.ref hi, .ref ci, .ref st])), (hi, .inr (1, [.ref ra, .int (iZ nx), .int (iZ kp)])), (ra, .inl (cy 2, 6, .inr (.inr (.inr (.inr (qf rw9))))))] H1 ∧ va_D (va_A [(xa, .inr (5, [.ref hi, .ref ci, .ref st])), (hi, .inr (1, [.ref ra, .int (iZ nx), .int (iZ kp)])), (ra, .inl (cy 2, 6, .inr (.inr (.inr (.inr (qf rw9))))))] sz) [(xa, .inr (5, [.ref hi, .ref ci, .ref st])), (hi, .inr (1, [.ref ra, .int (iZ nx), .int (iZ kp)])), (ra, .inl (cy 2, 6, .inr (.inr (.inr (.inr (qf rw9))))))] ∧ Fh (va_A [(xa, .inr (5, [.ref hi, .ref ci, .ref st])), (hi, .inr (1, [.ref ra, .int (iZ nx), .int (iZ kp)])), (ra, .inl (cy 2, 6, .inr (.inr (.inr (.inr (qf rw9))))))] sz) H0 H1)) 0 0 (va_A [(xa, .inr (5, [.ref hi, .ref ci, .ref st])), (hi, .inr (1, [.ref ra, .int (iZ nx), .int (iZ kp)])), (ra, .inl (cy 2, 6, .inr (.inr (.inr (.inr (qf rw9))))))] sz) := by
  refine z_head (lv := [(0, .ref xa), (1, .int (iZ kk))]) RX6 (by decide) rfl rfl (Nat.le_of_ble_eq_true rfl) rfl ?_
  intro pr ev s mt below meth cd ls hx hb hr hlocks hml hown hname hts hKK hP hl
  have hK := hKK.1
  obtain ⟨hsz, hP, hD0, hI0, hIA⟩ := hP
  subst hsz
  have hD := hD0.self (sz := s.heap.size)
  generalize hAe : va_A [(xa, .inr (5, [.ref hi, .ref ci, .ref st])), (hi, .inr (1, [.ref ra, .int (iZ nx), .int (iZ kp)])), (ra, .inl (cy 2, 6, .inr (.inr (.inr (.inr (qf rw9))))))] s.heap.size = A at hD hIA ⊢
  have hA : ∀ q : Nat, s.heap.size ≤ q → A q := fun q h => by rw [← hAe]; exact Or.inr h
  have hS : va_S A s.heap s.heap [] := va_S.rf
  have hP : va_P G vwCl [(xa, .inr (5, [.ref hi, .ref ci, .ref st])), (hi, .inr (1, [.ref ra, .int (iZ nx), .int (iZ kp)])), (ra, .inl (cy 2, 6, .inr (.inr (.inr (.inr (qf rw9))))))] s.heap := hP
  have hI : va_P G vwCl [(st, .inr (3, [.ref sl, .ref wo])), (sl, .inr (2, [.int (iZ p), .int (iZ q), .int (iZ c)])), (wo, .inr (4, [.long (lZ b), .int (iZ n)]))] s.heap := hI0
  refine lv_iload_n hx hb dX6_loadStandard_0 rfl (lv_at hl 1 rfl) ?_
  refine lv_iconst (v := iZ (-1)) hx hb dX6_loadStandard_1 rfl ?_
  refine z_icmp_ge (tgt := 7) hx hb dX6_loadStandard_2 (by decide) (by omega) (fun c_2 => ?_) (fun c_2 => ?_)
  · exfalso; omega
  · refine lv_iconst (v := iZ (-1)) hx hb dX6_loadStandard_5 rfl ?_
    exact z_iretE hx hb hr hlocks dX6_loadStandard_6 hS.2.2 ⟨(show 0 ≤ 0 by omega), (show 0 ≤ 0 by omega)⟩ ⟨(rfl), (trivial), (hP), (hD), Fh.of hS⟩
set_option maxHeartbeats 4000000 in
set_option maxRecDepth 100000 in
theorem c_X6_loadStandard_no3 (lau : Launch) (G : va_G) (cy : Nat → ClassId) (xa hi ci st ra sl wo : Nat) (sz : Nat) (nx kp : Int) (rw9 : Int → Option Nat) (p q c b n : Int) (kk : Int) (hp : 0 ≤ p ∧ p ≤ q) (hq : 0 < q ∧ q ≤ 1000) (h0 : 0 ≤ ntm p q) (h1 : -2147483648 ≤ kk ∧ kk < 2147483648) (h2 : ntm p q < kk) : Met lau yX6_loadStandard wsX6_loadStandard ({ frames := 4, cells := 0, slots := 0, locals := 91 }) (P1 G cy [.ref xa, .int (iZ kk)] (fun H => H.size = sz ∧ va_P G vwCl [(xa, .inr (5, [.ref hi, .ref ci, .ref st])), (hi, .inr (1, [.ref ra, .int (iZ nx), .int (iZ kp)])), (ra, .inl (cy 2, 6, .inr (.inr (.inr (.inr (qf rw9))))))] H ∧ va_D (fun _ => True) [(xa, .inr (5, [.ref hi, .ref ci, .ref st])), (hi, .inr (1, [.ref ra, .int (iZ nx), .int (iZ kp)])), (ra, .inl (cy 2, 6, .inr (.inr (.inr (.inr (qf rw9))))))] ∧ va_P G vwCl [(st, .inr (3, [.ref sl, .ref wo])), (sl, .inr (2, [.int (iZ p), .int (iZ q), .int (iZ c)])), (wo, .inr (4, [.long (lZ b), .int (iZ n)]))] H ∧ NA (va_A [(xa, .inr (5, [.ref hi, .ref ci, .ref st])), (hi, .inr (1, [.ref ra, .int (iZ nx), .int (iZ kp)])), (ra, .inl (cy 2, 6, .inr (.inr (.inr (.inr (qf rw9))))))] sz) [(st, .inr (3, [.ref sl, .ref wo])), (sl, .inr (2, [.int (iZ p), .int (iZ q), .int (iZ c)])), (wo, .inr (4, [.long (lZ b), .int (iZ n)]))])) (Q1 (fun rv H0 H1 => rv = some (.int (iZ (-3))) ∧ (True) ∧ va_P G vwCl [(xa, .inr (5, [.ref hi, .ref ci, .ref st])), (hi, .inr (1, [.ref ra, .int (iZ nx), .int (iZ kp)])), (ra, .inl (cy 2, 6, .inr (.inr (.inr (.inr (qf rw9))))))] H1 ∧ va_D (va_A [(xa, .inr (5, [.ref hi, .ref ci, .ref st])), (hi, .inr (1, [.ref ra, .int (iZ nx), .int (iZ kp)])), (ra, .inl (cy 2, 6, .inr (.inr (.inr (.inr (qf rw9))))))] sz) [(xa, .inr (5, [.ref hi, .ref ci, .ref st])), (hi, .inr (1, [.ref ra, .int (iZ nx), .int (iZ kp)])), (ra, .inl (cy 2, 6, .inr (.inr (.inr (.inr (qf rw9))))))] ∧ Fh (va_A [(xa, .inr (5, [.ref hi, .ref ci, .ref st])), (hi, .inr (1, [.ref ra, .int (iZ nx), .int (iZ kp)])), (ra, .inl (cy 2, 6, .inr (.inr (.inr (.inr (qf rw9))))))] sz) H0 H1)) 0 0 (va_A [(xa, .inr (5, [.ref hi, .ref ci, .ref st])), (hi, .inr (1, [.ref ra, .int (iZ nx), .int (iZ kp)])), (ra, .inl (cy 2, 6, .inr (.inr (.inr (.inr (qf rw9))))))] sz) := by
  refine z_head (lv := [(0, .ref xa), (1, .int (iZ kk))]) RX6 (by decide) rfl rfl (Nat.le_of_ble_eq_true rfl) rfl ?_
  intro pr ev s mt below meth cd ls hx hb hr hlocks hml hown hname hts hKK hP hl
  have hK := hKK.1
  obtain ⟨hsz, hP, hD0, hI0, hIA⟩ := hP
  subst hsz
  have hD := hD0.self (sz := s.heap.size)
  generalize hAe : va_A [(xa, .inr (5, [.ref hi, .ref ci, .ref st])), (hi, .inr (1, [.ref ra, .int (iZ nx), .int (iZ kp)])), (ra, .inl (cy 2, 6, .inr (.inr (.inr (.inr (qf rw9))))))] s.heap.size = A at hD hIA ⊢
  have hA : ∀ q : Nat, s.heap.size ≤ q → A q := fun q h => by rw [← hAe]; exact Or.inr h
  have hS : va_S A s.heap s.heap [] := va_S.rf
  have hP : va_P G vwCl [(xa, .inr (5, [.ref hi, .ref ci, .ref st])), (hi, .inr (1, [.ref ra, .int (iZ nx), .int (iZ kp)])), (ra, .inl (cy 2, 6, .inr (.inr (.inr (.inr (qf rw9))))))] s.heap := hP
  have hI : va_P G vwCl [(st, .inr (3, [.ref sl, .ref wo])), (sl, .inr (2, [.int (iZ p), .int (iZ q), .int (iZ c)])), (wo, .inr (4, [.long (lZ b), .int (iZ n)]))] s.heap := hI0
  refine lv_iload_n hx hb dX6_loadStandard_0 rfl (lv_at hl 1 rfl) ?_
  refine lv_iconst (v := iZ (-1)) hx hb dX6_loadStandard_1 rfl ?_
  refine z_icmp_ge (tgt := 7) hx hb dX6_loadStandard_2 (by decide) (by omega) (fun c_2 => ?_) (fun c_2 => ?_)
  · refine lv_iload_n hx hb dX6_loadStandard_7 rfl (lv_at hl 1 rfl) ?_
    refine z_if_le (tgt := 29) hx hb dX6_loadStandard_8 (by decide) (by omega) (fun c_8 => ?_) (fun c_8 => ?_)
    · exfalso; omega
    · refine lv_aload_n hx hb dX6_loadStandard_11 rfl (lv_at hl 0 rfl) ?_
      refine va_get (D := G) (ci := 5) (v := .ref st) (C := RX6) (T := TX6) (N := 3) hx hb hts (by decide +kernel) hown hK hP 0 rfl rfl 2 (by decide) (hts (.fieldLink RX6 38 "SturmianWords" "state" "LSturmianWords$State;") (by decide +kernel)) (fun _ h9 => h9) rfl dX6_loadStandard_12 ?_
      refine va_getN (D := G) (ci := 3) (v := .ref sl) (C := RX4) (T := TX4) (N := 2) hx hb hts (by decide +kernel) hown hK hI 0 rfl rfl 0 (by decide) (va_Nw.use rfl (hKK.2 (.fieldLinkNest RX6 54 "SturmianWords$State" "slope" "LSturmianWords$Slope;" "SturmianWords") (by decide +kernel))) (fun _ h9 => h9) rfl dX6_loadStandard_15 ?_
      refine lv_iload_n hx hb dX6_loadStandard_18 rfl (lv_at hl 1 rfl) ?_
      refine z_calli (va_runV (As := [.int (iZ kk)]) (rest := []) ⟨hx, hb, hml, hown, hts⟩ (c_X3_term lau G cy sl p q c kk (by first | omega | assumption) (by first | omega | assumption) (by first | omega | assumption)) (cwV 1 hts gX6_loadStandard_X3_term rfl rfl rfl (by decide +kernel) ⟨Nat.le_of_ble_eq_true rfl, Nat.le_of_ble_eq_true rfl⟩) ⟨P1_blind, va_recv hK hI (ci := 2) (q0 := 1) rfl rfl, P1_mk hKK (hI.sub [1] rfl)⟩ rfl rfl hl.1 rfl (lv_room (Nat.le_of_ble_eq_true rfl)) dX6_loadStandard_19 ⟨(show 0 + 0 ≤ 0 by omega), (show 0 + 0 ≤ 0 by omega)⟩) ?_
      refine lv_iconst (v := iZ (-1)) hx hb dX6_loadStandard_22 rfl ?_
      have hcr := cft_r (p := p) (q := q) (ix := kk) hp hq.1 (by omega)
      refine z_icmp_ne (tgt := 29) hx hb dX6_loadStandard_23 (by decide) (by omega) (fun c_23 => ?_) (fun c_23 => ?_)
      · have hcn := cft_none h0 h2; omega
      · refine lv_bipush (v := iZ (-3)) hx hb dX6_loadStandard_26 (by decide +kernel) ?_
        exact z_iretE hx hb hr hlocks dX6_loadStandard_28 hS.2.2 ⟨(show 0 ≤ 0 by omega), (show 0 ≤ 0 by omega)⟩ ⟨(rfl), (trivial), (hP), (hD), Fh.of hS⟩
  · exfalso; omega
set_option maxHeartbeats 4000000 in
set_option maxRecDepth 100000 in
theorem c_X6_loadStandard_no2 (lau : Launch) (G : va_G) (cy : Nat → ClassId) (xa hi ci st ra sl wo : Nat) (sz : Nat) (nx kp : Int) (rw9 : Int → Option Nat) (p q c b n : Int) (kk : Int) (hp : 0 ≤ p ∧ p ≤ q) (hq : 0 < q ∧ q ≤ 1000) (h1 : -1 ≤ kk ∧ kk ≤ ntm p q ∧ kk ≤ 19) (h4 : ¬ ∀ j, 0 ≤ j → j ≤ kk → (stS p q j).1.2 ≤ 60) : Met lau yX6_loadStandard wsX6_loadStandard ({ frames := 4, cells := 22, slots := 44, locals := 91 }) (P1 G cy [.ref xa, .int (iZ kk)] (fun H => H.size = sz ∧ va_P G vwCl [(xa, .inr (5, [.ref hi, .ref ci, .ref st])), (hi, .inr (1, [.ref ra, .int (iZ nx), .int (iZ kp)])), (ra, .inl (cy 2, 6, .inr (.inr (.inr (.inr (qf rw9))))))] H ∧ va_D (fun _ => True) [(xa, .inr (5, [.ref hi, .ref ci, .ref st])), (hi, .inr (1, [.ref ra, .int (iZ nx), .int (iZ kp)])), (ra, .inl (cy 2, 6, .inr (.inr (.inr (.inr (qf rw9))))))] ∧ va_P G vwCl [(st, .inr (3, [.ref sl, .ref wo])), (sl, .inr (2, [.int (iZ p), .int (iZ q), .int (iZ c)])), (wo, .inr (4, [.long (lZ b), .int (iZ n)]))] H ∧ NA (va_A [(xa, .inr (5, [.ref hi, .ref ci, .ref st])), (hi, .inr (1, [.ref ra, .int (iZ nx), .int (iZ kp)])), (ra, .inl (cy 2, 6, .inr (.inr (.inr (.inr (qf rw9))))))] sz) [(st, .inr (3, [.ref sl, .ref wo])), (sl, .inr (2, [.int (iZ p), .int (iZ q), .int (iZ c)])), (wo, .inr (4, [.long (lZ b), .int (iZ n)]))])) (Q1 (fun rv H0 H1 => rv = some (.int (iZ (-2))) ∧ (True) ∧ va_P G vwCl [(xa, .inr (5, [.ref hi, .ref ci, .ref st])), (hi, .inr (1, [.ref ra, .int (iZ nx), .int (iZ kp)])), (ra, .inl (cy 2, 6, .inr (.inr (.inr (.inr (qf rw9))))))] H1 ∧ va_D (va_A [(xa, .inr (5, [.ref hi, .ref ci, .ref st])), (hi, .inr (1, [.ref ra, .int (iZ nx), .int (iZ kp)])), (ra, .inl (cy 2, 6, .inr (.inr (.inr (.inr (qf rw9))))))] sz) [(xa, .inr (5, [.ref hi, .ref ci, .ref st])), (hi, .inr (1, [.ref ra, .int (iZ nx), .int (iZ kp)])), (ra, .inl (cy 2, 6, .inr (.inr (.inr (.inr (qf rw9))))))] ∧ Fh (va_A [(xa, .inr (5, [.ref hi, .ref ci, .ref st])), (hi, .inr (1, [.ref ra, .int (iZ nx), .int (iZ kp)])), (ra, .inl (cy 2, 6, .inr (.inr (.inr (.inr (qf rw9))))))] sz) H0 H1)) 22 44 (va_A [(xa, .inr (5, [.ref hi, .ref ci, .ref st])), (hi, .inr (1, [.ref ra, .int (iZ nx), .int (iZ kp)])), (ra, .inl (cy 2, 6, .inr (.inr (.inr (.inr (qf rw9))))))] sz) := by
  refine z_head (lv := [(0, .ref xa), (1, .int (iZ kk))]) RX6 (by decide) rfl rfl (Nat.le_of_ble_eq_true rfl) rfl ?_
  intro pr ev s mt below meth cd ls hx hb hr hlocks hml hown hname hts hKK hP hl
  have hK := hKK.1
  obtain ⟨hsz, hP, hD0, hI0, hIA⟩ := hP
  subst hsz
  have hD := hD0.self (sz := s.heap.size)
  generalize hAe : va_A [(xa, .inr (5, [.ref hi, .ref ci, .ref st])), (hi, .inr (1, [.ref ra, .int (iZ nx), .int (iZ kp)])), (ra, .inl (cy 2, 6, .inr (.inr (.inr (.inr (qf rw9))))))] s.heap.size = A at hD hIA ⊢
  have hA : ∀ q : Nat, s.heap.size ≤ q → A q := fun q h => by rw [← hAe]; exact Or.inr h
  have hS : va_S A s.heap s.heap [] := va_S.rf
  have hP : va_P G vwCl [(xa, .inr (5, [.ref hi, .ref ci, .ref st])), (hi, .inr (1, [.ref ra, .int (iZ nx), .int (iZ kp)])), (ra, .inl (cy 2, 6, .inr (.inr (.inr (.inr (qf rw9))))))] s.heap := hP
  have hI : va_P G vwCl [(st, .inr (3, [.ref sl, .ref wo])), (sl, .inr (2, [.int (iZ p), .int (iZ q), .int (iZ c)])), (wo, .inr (4, [.long (lZ b), .int (iZ n)]))] s.heap := hI0
  refine lv_iload_n hx hb dX6_loadStandard_0 rfl (lv_at hl 1 rfl) ?_
  refine lv_iconst (v := iZ (-1)) hx hb dX6_loadStandard_1 rfl ?_
  refine z_icmp_ge (tgt := 7) hx hb dX6_loadStandard_2 (by decide) (by omega) (fun c_2 => ?_) (fun c_2 => ?_)
  · refine lv_iload_n hx hb dX6_loadStandard_7 rfl (lv_at hl 1 rfl) ?_
    refine z_if_le (tgt := 29) hx hb dX6_loadStandard_8 (by decide) (by omega) (fun c_8 => ?_) (fun c_8 => ?_)
    · refine lv_aload_n hx hb dX6_loadStandard_29 rfl (lv_at hl 0 rfl) ?_
      refine va_get (D := G) (ci := 5) (v := .ref st) (C := RX6) (T := TX6) (N := 3) hx hb hts (by decide +kernel) hown hK hP 0 rfl rfl 2 (by decide) (hts (.fieldLink RX6 38 "SturmianWords" "state" "LSturmianWords$State;") (by decide +kernel)) (fun _ h9 => h9) rfl dX6_loadStandard_30 ?_
      refine va_getN (D := G) (ci := 3) (v := .ref sl) (C := RX4) (T := TX4) (N := 2) hx hb hts (by decide +kernel) hown hK hI 0 rfl rfl 0 (by decide) (va_Nw.use rfl (hKK.2 (.fieldLinkNest RX6 54 "SturmianWords$State" "slope" "LSturmianWords$Slope;" "SturmianWords") (by decide +kernel))) (fun _ h9 => h9) rfl dX6_loadStandard_33 ?_
      refine lv_iload_n hx hb dX6_loadStandard_36 rfl (lv_at hl 1 rfl) ?_
      have hPc := hP.sub (ws' := []) [] rfl
      have hDc := (hD.sub (ws' := []) [] (by decide) rfl).weaken (B := fun _ => True) (fun _ _ _ _ => trivial)
      have hFc := va_free (wc := []) hD hS hA [] rfl
      have hIc : va_P G vwCl [(sl, .inr (2, [.int (iZ p), .int (iZ q), .int (iZ c)]))] s.heap := (hI.sub (ws' := [(sl, .inr (2, [.int (iZ p), .int (iZ q), .int (iZ c)]))]) [1] rfl)
      have hIAc : NA (va_A [] s.heap.size) [(sl, .inr (2, [.int (iZ p), .int (iZ q), .int (iZ c)]))] := NA.cons (fun z => hIA.at 1 rfl (hFc _ z)) (NA.nil)
      refine z_callE (A := A) (va_runV (As := [.int (iZ kk)]) (rest := []) ⟨hx, hb, hml, hown, hts⟩ (c_X3_standardWord_no lau G cy sl s.heap.size p q c kk (by first | omega | assumption) (by first | omega | assumption) (by first | omega | assumption) (by first | omega | assumption)) (cwV 1 hts gX6_loadStandard_X3_standardWord rfl rfl rfl (by decide +kernel) ⟨Nat.le_of_ble_eq_true rfl, Nat.le_of_ble_eq_true rfl⟩) ⟨P1_blind, va_recv hK hI (ci := 2) (q0 := 1) rfl rfl, P1_mk hKK (⟨rfl, hPc, hDc, hIc, hIAc⟩)⟩ rfl rfl hl.1 rfl (lv_room (Nat.le_of_ble_eq_true rfl)) dX6_loadStandard_37 ⟨(show 0 + 22 ≤ 22 by omega), (show 0 + 44 ≤ 44 by omega)⟩) hS.2.2 hFc (fun v H1 locs1 hR hL1 => ?_)
      obtain ⟨rfl, hq37, hP1, hD1, hF1⟩ := hR
      obtain ⟨hP, hD⟩ := va_join (wr := [(xa, .inr (5, [.ref hi, .ref ci, .ref st])), (hi, .inr (1, [.ref ra, .int (iZ nx), .int (iZ kp)])), (ra, .inl (cy 2, 6, .inr (.inr (.inr (.inr (qf rw9))))))]) (w1 := []) hP hD [] [0, 1, 2] rfl rfl (by decide) (by decide) hF1.2 hFc hP1 hD1
      have hS : va_S A s.heap H1 locs1 := Fh.S ((Fh.of hS).tr hF1 (fun q _ h => hFc q h)) hL1
      clear hPc hDc hFc hP1 hD1 hF1 hL1 hIc hIAc
      generalize H1 = H at hP hS ⊢
      have hP : va_P G vwCl [(xa, .inr (5, [.ref hi, .ref ci, .ref st])), (hi, .inr (1, [.ref ra, .int (iZ nx), .int (iZ kp)])), (ra, .inl (cy 2, 6, .inr (.inr (.inr (.inr (qf rw9))))))] H := hP
      have hD : va_D A [(xa, .inr (5, [.ref hi, .ref ci, .ref st])), (hi, .inr (1, [.ref ra, .int (iZ nx), .int (iZ kp)])), (ra, .inl (cy 2, 6, .inr (.inr (.inr (.inr (qf rw9))))))] := hD
      have hP := hP.sub (ws' := [(xa, .inr (5, [.ref hi, .ref ci, .ref st])), (hi, .inr (1, [.ref ra, .int (iZ nx), .int (iZ kp)])), (ra, .inl (cy 2, 6, .inr (.inr (.inr (.inr (qf rw9))))))]) [0, 1, 2] rfl
      have hD := hD.sub (ws' := [(xa, .inr (5, [.ref hi, .ref ci, .ref st])), (hi, .inr (1, [.ref ra, .int (iZ nx), .int (iZ kp)])), (ra, .inl (cy 2, 6, .inr (.inr (.inr (.inr (qf rw9))))))]) [0, 1, 2] (by decide) rfl
      refine W.eq (g2 := F0 mt 40 ls [.null]) rfl ?_
      have hI : va_P G vwCl [(st, .inr (3, [.ref sl, .ref wo])), (sl, .inr (2, [.int (iZ p), .int (iZ q), .int (iZ c)])), (wo, .inr (4, [.long (lZ b), .int (iZ n)]))] H := im_keep2 hI0 hIA (Fh.of hS)
      refine lv_astore_nN (lv' := [(2, .null), (0, .ref xa), (1, .int (iZ kk))]) hx hb dX6_loadStandard_40 rfl hl (by decide) rfl (fun ls hl => ?_)
      refine lv_aload_nN hx hb dX6_loadStandard_41 rfl (lv_at hl 0 rfl) ?_
      refine lv_ifnonnullN hx hb dX6_loadStandard_42 ?_
      refine lv_bipush (v := iZ (-2)) hx hb dX6_loadStandard_45 (by decide +kernel) ?_
      exact z_iretE hx hb hr hlocks dX6_loadStandard_47 hS.2.2 ⟨(show 22 ≤ 22 by omega), (show 44 ≤ 44 by omega)⟩ ⟨(rfl), (trivial), (hP), (hD), Fh.of hS⟩
    · refine lv_aload_n hx hb dX6_loadStandard_11 rfl (lv_at hl 0 rfl) ?_
      refine va_get (D := G) (ci := 5) (v := .ref st) (C := RX6) (T := TX6) (N := 3) hx hb hts (by decide +kernel) hown hK hP 0 rfl rfl 2 (by decide) (hts (.fieldLink RX6 38 "SturmianWords" "state" "LSturmianWords$State;") (by decide +kernel)) (fun _ h9 => h9) rfl dX6_loadStandard_12 ?_
      refine va_getN (D := G) (ci := 3) (v := .ref sl) (C := RX4) (T := TX4) (N := 2) hx hb hts (by decide +kernel) hown hK hI 0 rfl rfl 0 (by decide) (va_Nw.use rfl (hKK.2 (.fieldLinkNest RX6 54 "SturmianWords$State" "slope" "LSturmianWords$Slope;" "SturmianWords") (by decide +kernel))) (fun _ h9 => h9) rfl dX6_loadStandard_15 ?_
      refine lv_iload_n hx hb dX6_loadStandard_18 rfl (lv_at hl 1 rfl) ?_
      refine z_calli (va_runV (As := [.int (iZ kk)]) (rest := []) ⟨hx, hb, hml, hown, hts⟩ (c_X3_term lau G cy sl p q c kk (by first | omega | assumption) (by first | omega | assumption) (by first | omega | assumption)) (cwV 1 hts gX6_loadStandard_X3_term rfl rfl rfl (by decide +kernel) ⟨Nat.le_of_ble_eq_true rfl, Nat.le_of_ble_eq_true rfl⟩) ⟨P1_blind, va_recv hK hI (ci := 2) (q0 := 1) rfl rfl, P1_mk hKK (hI.sub [1] rfl)⟩ rfl rfl hl.1 rfl (lv_room (Nat.le_of_ble_eq_true rfl)) dX6_loadStandard_19 ⟨(show 0 + 0 ≤ 22 by omega), (show 0 + 0 ≤ 44 by omega)⟩) ?_
      refine lv_iconst (v := iZ (-1)) hx hb dX6_loadStandard_22 rfl ?_
      have hcp := cft_pos (p := p) (q := q) (k := kk - 1) hp hq.1 (by omega) (ntm_pos (by omega) (by omega))
      rw [show kk - 1 + 1 = kk by omega] at hcp
      refine z_icmp_ne (tgt := 29) hx hb dX6_loadStandard_23 (by decide) (by omega) (fun c_23 => ?_) (fun c_23 => ?_)
      · refine lv_aload_n hx hb dX6_loadStandard_29 rfl (lv_at hl 0 rfl) ?_
        refine va_get (D := G) (ci := 5) (v := .ref st) (C := RX6) (T := TX6) (N := 3) hx hb hts (by decide +kernel) hown hK hP 0 rfl rfl 2 (by decide) (hts (.fieldLink RX6 38 "SturmianWords" "state" "LSturmianWords$State;") (by decide +kernel)) (fun _ h9 => h9) rfl dX6_loadStandard_30 ?_
        refine va_getN (D := G) (ci := 3) (v := .ref sl) (C := RX4) (T := TX4) (N := 2) hx hb hts (by decide +kernel) hown hK hI 0 rfl rfl 0 (by decide) (va_Nw.use rfl (hKK.2 (.fieldLinkNest RX6 54 "SturmianWords$State" "slope" "LSturmianWords$Slope;" "SturmianWords") (by decide +kernel))) (fun _ h9 => h9) rfl dX6_loadStandard_33 ?_
        refine lv_iload_n hx hb dX6_loadStandard_36 rfl (lv_at hl 1 rfl) ?_
        have hPc := hP.sub (ws' := []) [] rfl
        have hDc := (hD.sub (ws' := []) [] (by decide) rfl).weaken (B := fun _ => True) (fun _ _ _ _ => trivial)
        have hFc := va_free (wc := []) hD hS hA [] rfl
        have hIc : va_P G vwCl [(sl, .inr (2, [.int (iZ p), .int (iZ q), .int (iZ c)]))] s.heap := (hI.sub (ws' := [(sl, .inr (2, [.int (iZ p), .int (iZ q), .int (iZ c)]))]) [1] rfl)
        have hIAc : NA (va_A [] s.heap.size) [(sl, .inr (2, [.int (iZ p), .int (iZ q), .int (iZ c)]))] := NA.cons (fun z => hIA.at 1 rfl (hFc _ z)) (NA.nil)
        refine z_callE (A := A) (va_runV (As := [.int (iZ kk)]) (rest := []) ⟨hx, hb, hml, hown, hts⟩ (c_X3_standardWord_no lau G cy sl s.heap.size p q c kk (by first | omega | assumption) (by first | omega | assumption) (by first | omega | assumption) (by first | omega | assumption)) (cwV 1 hts gX6_loadStandard_X3_standardWord rfl rfl rfl (by decide +kernel) ⟨Nat.le_of_ble_eq_true rfl, Nat.le_of_ble_eq_true rfl⟩) ⟨P1_blind, va_recv hK hI (ci := 2) (q0 := 1) rfl rfl, P1_mk hKK (⟨rfl, hPc, hDc, hIc, hIAc⟩)⟩ rfl rfl hl.1 rfl (lv_room (Nat.le_of_ble_eq_true rfl)) dX6_loadStandard_37 ⟨(show 0 + 22 ≤ 22 by omega), (show 0 + 44 ≤ 44 by omega)⟩) hS.2.2 hFc (fun v H1 locs1 hR hL1 => ?_)
        obtain ⟨rfl, hq37, hP1, hD1, hF1⟩ := hR
        obtain ⟨hP, hD⟩ := va_join (wr := [(xa, .inr (5, [.ref hi, .ref ci, .ref st])), (hi, .inr (1, [.ref ra, .int (iZ nx), .int (iZ kp)])), (ra, .inl (cy 2, 6, .inr (.inr (.inr (.inr (qf rw9))))))]) (w1 := []) hP hD [] [0, 1, 2] rfl rfl (by decide) (by decide) hF1.2 hFc hP1 hD1
        have hS : va_S A s.heap H1 locs1 := Fh.S ((Fh.of hS).tr hF1 (fun q _ h => hFc q h)) hL1
        clear hPc hDc hFc hP1 hD1 hF1 hL1 hIc hIAc
        generalize H1 = H at hP hS ⊢
        have hP : va_P G vwCl [(xa, .inr (5, [.ref hi, .ref ci, .ref st])), (hi, .inr (1, [.ref ra, .int (iZ nx), .int (iZ kp)])), (ra, .inl (cy 2, 6, .inr (.inr (.inr (.inr (qf rw9))))))] H := hP
        have hD : va_D A [(xa, .inr (5, [.ref hi, .ref ci, .ref st])), (hi, .inr (1, [.ref ra, .int (iZ nx), .int (iZ kp)])), (ra, .inl (cy 2, 6, .inr (.inr (.inr (.inr (qf rw9))))))] := hD
        have hP := hP.sub (ws' := [(xa, .inr (5, [.ref hi, .ref ci, .ref st])), (hi, .inr (1, [.ref ra, .int (iZ nx), .int (iZ kp)])), (ra, .inl (cy 2, 6, .inr (.inr (.inr (.inr (qf rw9))))))]) [0, 1, 2] rfl
        have hD := hD.sub (ws' := [(xa, .inr (5, [.ref hi, .ref ci, .ref st])), (hi, .inr (1, [.ref ra, .int (iZ nx), .int (iZ kp)])), (ra, .inl (cy 2, 6, .inr (.inr (.inr (.inr (qf rw9))))))]) [0, 1, 2] (by decide) rfl
        refine W.eq (g2 := F0 mt 40 ls [.null]) rfl ?_
        have hI : va_P G vwCl [(st, .inr (3, [.ref sl, .ref wo])), (sl, .inr (2, [.int (iZ p), .int (iZ q), .int (iZ c)])), (wo, .inr (4, [.long (lZ b), .int (iZ n)]))] H := im_keep2 hI0 hIA (Fh.of hS)
        refine lv_astore_nN (lv' := [(2, .null), (0, .ref xa), (1, .int (iZ kk))]) hx hb dX6_loadStandard_40 rfl hl (by decide) rfl (fun ls hl => ?_)
        refine lv_aload_nN hx hb dX6_loadStandard_41 rfl (lv_at hl 0 rfl) ?_
        refine lv_ifnonnullN hx hb dX6_loadStandard_42 ?_
        refine lv_bipush (v := iZ (-2)) hx hb dX6_loadStandard_45 (by decide +kernel) ?_
        exact z_iretE hx hb hr hlocks dX6_loadStandard_47 hS.2.2 ⟨(show 22 ≤ 22 by omega), (show 44 ≤ 44 by omega)⟩ ⟨(rfl), (trivial), (hP), (hD), Fh.of hS⟩
      · exfalso; omega
  · exfalso; omega
set_option maxHeartbeats 4000000 in
set_option maxRecDepth 100000 in
theorem c_X6_loadStandard (lau : Launch) (G : va_G) (cy : Nat → ClassId) (xa hi ci st ra sl wo : Nat) (sz : Nat) (nx kp : Int) (rw9 : Int → Option Nat) (p q c b n : Int) (kk : Int) (hnx : 0 ≤ nx ∧ nx < 6) (hkp : 0 ≤ kp ∧ kp ≤ 6) (hp : 0 ≤ p ∧ p ≤ q) (hq : 0 < q ∧ q ≤ 1000) (h1 : -1 ≤ kk ∧ kk ≤ ntm p q ∧ kk ≤ 19) (h4 : ∀ j, 0 ≤ j → j ≤ kk → (stS p q j).1.2 ≤ 60) : Met lau yX6_loadStandard wsX6_loadStandard ({ frames := 4, cells := 23, slots := 46, locals := 91 }) (P1 G cy [.ref xa, .int (iZ kk)] (fun H => H.size = sz ∧ va_P G vwCl [(xa, .inr (5, [.ref hi, .ref ci, .ref st])), (hi, .inr (1, [.ref ra, .int (iZ nx), .int (iZ kp)])), (ra, .inl (cy 2, 6, .inr (.inr (.inr (.inr (qf rw9))))))] H ∧ va_D (fun _ => True) [(xa, .inr (5, [.ref hi, .ref ci, .ref st])), (hi, .inr (1, [.ref ra, .int (iZ nx), .int (iZ kp)])), (ra, .inl (cy 2, 6, .inr (.inr (.inr (.inr (qf rw9))))))] ∧ va_P G vwCl [(st, .inr (3, [.ref sl, .ref wo])), (sl, .inr (2, [.int (iZ p), .int (iZ q), .int (iZ c)])), (wo, .inr (4, [.long (lZ b), .int (iZ n)]))] H ∧ NA (va_A [(xa, .inr (5, [.ref hi, .ref ci, .ref st])), (hi, .inr (1, [.ref ra, .int (iZ nx), .int (iZ kp)])), (ra, .inl (cy 2, 6, .inr (.inr (.inr (.inr (qf rw9))))))] sz) [(st, .inr (3, [.ref sl, .ref wo])), (sl, .inr (2, [.int (iZ p), .int (iZ q), .int (iZ c)])), (wo, .inr (4, [.long (lZ b), .int (iZ n)]))])) (Q1 (fun rv H0 H1 => ∃ (ns nq : Nat), rv = some (.int (iZ ((stW p q kk).2))) ∧ (True) ∧ va_P G vwCl [(xa, .inr (5, [.ref hi, .ref ci, .ref ns])), (hi, .inr (1, [.ref ra, .int (iZ (nxF nx)), .int (iZ (kpF kp))])), (ra, .inl (cy 2, 6, .inr (.inr (.inr (.inr (qf (upq rw9 nx (some st)))))))), (ns, .inr (3, [.ref sl, .ref nq])), (nq, .inr (4, [.long (lZ (stW p q kk).1), .int (iZ (stW p q kk).2)]))] H1 ∧ va_D (va_A [(xa, .inr (5, [.ref hi, .ref ci, .ref st])), (hi, .inr (1, [.ref ra, .int (iZ nx), .int (iZ kp)])), (ra, .inl (cy 2, 6, .inr (.inr (.inr (.inr (qf rw9))))))] sz) [(xa, .inr (5, [.ref hi, .ref ci, .ref ns])), (hi, .inr (1, [.ref ra, .int (iZ (nxF nx)), .int (iZ (kpF kp))])), (ra, .inl (cy 2, 6, .inr (.inr (.inr (.inr (qf (upq rw9 nx (some st)))))))), (ns, .inr (3, [.ref sl, .ref nq])), (nq, .inr (4, [.long (lZ (stW p q kk).1), .int (iZ (stW p q kk).2)]))] ∧ Fh (va_A [(xa, .inr (5, [.ref hi, .ref ci, .ref st])), (hi, .inr (1, [.ref ra, .int (iZ nx), .int (iZ kp)])), (ra, .inl (cy 2, 6, .inr (.inr (.inr (.inr (qf rw9))))))] sz) H0 H1)) 23 46 (va_A [(xa, .inr (5, [.ref hi, .ref ci, .ref st])), (hi, .inr (1, [.ref ra, .int (iZ nx), .int (iZ kp)])), (ra, .inl (cy 2, 6, .inr (.inr (.inr (.inr (qf rw9))))))] sz) := by
  refine z_head (lv := [(0, .ref xa), (1, .int (iZ kk))]) RX6 (by decide) rfl rfl (Nat.le_of_ble_eq_true rfl) rfl ?_
  intro pr ev s mt below meth cd ls hx hb hr hlocks hml hown hname hts hKK hP hl
  have hK := hKK.1
  obtain ⟨hsz, hP, hD0, hI0, hIA⟩ := hP
  subst hsz
  have hD := hD0.self (sz := s.heap.size)
  generalize hAe : va_A [(xa, .inr (5, [.ref hi, .ref ci, .ref st])), (hi, .inr (1, [.ref ra, .int (iZ nx), .int (iZ kp)])), (ra, .inl (cy 2, 6, .inr (.inr (.inr (.inr (qf rw9))))))] s.heap.size = A at hD hIA ⊢
  have hA : ∀ q : Nat, s.heap.size ≤ q → A q := fun q h => by rw [← hAe]; exact Or.inr h
  have hS : va_S A s.heap s.heap [] := va_S.rf
  have hP : va_P G vwCl [(xa, .inr (5, [.ref hi, .ref ci, .ref st])), (hi, .inr (1, [.ref ra, .int (iZ nx), .int (iZ kp)])), (ra, .inl (cy 2, 6, .inr (.inr (.inr (.inr (qf rw9))))))] s.heap := hP
  have hI : va_P G vwCl [(st, .inr (3, [.ref sl, .ref wo])), (sl, .inr (2, [.int (iZ p), .int (iZ q), .int (iZ c)])), (wo, .inr (4, [.long (lZ b), .int (iZ n)]))] s.heap := hI0
  refine lv_iload_n hx hb dX6_loadStandard_0 rfl (lv_at hl 1 rfl) ?_
  refine lv_iconst (v := iZ (-1)) hx hb dX6_loadStandard_1 rfl ?_
  refine z_icmp_ge (tgt := 7) hx hb dX6_loadStandard_2 (by decide) (by omega) (fun c_2 => ?_) (fun c_2 => ?_)
  · refine lv_iload_n hx hb dX6_loadStandard_7 rfl (lv_at hl 1 rfl) ?_
    refine z_if_le (tgt := 29) hx hb dX6_loadStandard_8 (by decide) (by omega) (fun c_8 => ?_) (fun c_8 => ?_)
    · refine lv_aload_n hx hb dX6_loadStandard_29 rfl (lv_at hl 0 rfl) ?_
      refine va_get (D := G) (ci := 5) (v := .ref st) (C := RX6) (T := TX6) (N := 3) hx hb hts (by decide +kernel) hown hK hP 0 rfl rfl 2 (by decide) (hts (.fieldLink RX6 38 "SturmianWords" "state" "LSturmianWords$State;") (by decide +kernel)) (fun _ h9 => h9) rfl dX6_loadStandard_30 ?_
      refine va_getN (D := G) (ci := 3) (v := .ref sl) (C := RX4) (T := TX4) (N := 2) hx hb hts (by decide +kernel) hown hK hI 0 rfl rfl 0 (by decide) (va_Nw.use rfl (hKK.2 (.fieldLinkNest RX6 54 "SturmianWords$State" "slope" "LSturmianWords$Slope;" "SturmianWords") (by decide +kernel))) (fun _ h9 => h9) rfl dX6_loadStandard_33 ?_
      refine lv_iload_n hx hb dX6_loadStandard_36 rfl (lv_at hl 1 rfl) ?_
      have hPc := hP.sub (ws' := []) [] rfl
      have hDc := (hD.sub (ws' := []) [] (by decide) rfl).weaken (B := fun _ => True) (fun _ _ _ _ => trivial)
      have hFc := va_free (wc := []) hD hS hA [] rfl
      have hIc : va_P G vwCl [(sl, .inr (2, [.int (iZ p), .int (iZ q), .int (iZ c)]))] s.heap := (hI.sub (ws' := [(sl, .inr (2, [.int (iZ p), .int (iZ q), .int (iZ c)]))]) [1] rfl)
      have hIAc : NA (va_A [] s.heap.size) [(sl, .inr (2, [.int (iZ p), .int (iZ q), .int (iZ c)]))] := NA.cons (fun z => hIA.at 1 rfl (hFc _ z)) (NA.nil)
      refine z_callE (A := A) (va_runV (As := [.int (iZ kk)]) (rest := []) ⟨hx, hb, hml, hown, hts⟩ (c_X3_standardWord lau G cy sl s.heap.size p q c kk (by first | omega | assumption) (by first | omega | assumption) (by first | omega | assumption) (by first | omega | assumption)) (cwV 1 hts gX6_loadStandard_X3_standardWord rfl rfl rfl (by decide +kernel) ⟨Nat.le_of_ble_eq_true rfl, Nat.le_of_ble_eq_true rfl⟩) ⟨P1_blind, va_recv hK hI (ci := 2) (q0 := 1) rfl rfl, P1_mk hKK (⟨rfl, hPc, hDc, hIc, hIAc⟩)⟩ rfl rfl hl.1 rfl (lv_room (Nat.le_of_ble_eq_true rfl)) dX6_loadStandard_37 ⟨(show 0 + 22 ≤ 23 by omega), (show 0 + 44 ≤ 46 by omega)⟩) hS.2.2 hFc (fun v H1 locs1 hR hL1 => ?_)
      obtain ⟨qo_37, rfl, hq37, hP1, hD1, hF1⟩ := hR
      obtain ⟨hP, hD⟩ := va_join (wr := [(xa, .inr (5, [.ref hi, .ref ci, .ref st])), (hi, .inr (1, [.ref ra, .int (iZ nx), .int (iZ kp)])), (ra, .inl (cy 2, 6, .inr (.inr (.inr (.inr (qf rw9))))))]) (w1 := [(qo_37, .inr (4, [.long (lZ (stW p q kk).1), .int (iZ (stW p q kk).2)]))]) hP hD [] [0, 1, 2] rfl rfl (by decide) (by decide) hF1.2 hFc hP1 hD1
      have hS : va_S A s.heap H1 locs1 := Fh.S ((Fh.of hS).tr hF1 (fun q _ h => hFc q h)) hL1
      clear hPc hDc hFc hP1 hD1 hF1 hL1 hIc hIAc
      generalize H1 = H at hP hS ⊢
      have hP : va_P G vwCl [(xa, .inr (5, [.ref hi, .ref ci, .ref st])), (hi, .inr (1, [.ref ra, .int (iZ nx), .int (iZ kp)])), (ra, .inl (cy 2, 6, .inr (.inr (.inr (.inr (qf rw9)))))), (qo_37, .inr (4, [.long (lZ (stW p q kk).1), .int (iZ (stW p q kk).2)]))] H := hP
      have hD : va_D A [(xa, .inr (5, [.ref hi, .ref ci, .ref st])), (hi, .inr (1, [.ref ra, .int (iZ nx), .int (iZ kp)])), (ra, .inl (cy 2, 6, .inr (.inr (.inr (.inr (qf rw9)))))), (qo_37, .inr (4, [.long (lZ (stW p q kk).1), .int (iZ (stW p q kk).2)]))] := hD
      refine W.eq (g2 := F0 mt 40 ls [.ref qo_37]) rfl ?_
      have hI : va_P G vwCl [(st, .inr (3, [.ref sl, .ref wo])), (sl, .inr (2, [.int (iZ p), .int (iZ q), .int (iZ c)])), (wo, .inr (4, [.long (lZ b), .int (iZ n)]))] H := im_keep2 hI0 hIA (Fh.of hS)
      refine lv_astore_n (lv' := [(2, .ref qo_37), (0, .ref xa), (1, .int (iZ kk))]) hx hb dX6_loadStandard_40 rfl hl (by decide) rfl (fun ls hl => ?_)
      refine lv_aload_n hx hb dX6_loadStandard_41 rfl (lv_at hl 0 rfl) ?_
      refine lv_ifnonnull (tgt := 48) hx hb dX6_loadStandard_42 (by decide) ?_
      refine lv_aload_n hx hb dX6_loadStandard_48 rfl (lv_at hl 1 rfl) ?_
      refine lv_aload_n hx hb dX6_loadStandard_49 rfl (lv_at hl 0 rfl) ?_
      have hPc := hP.sub (ws' := [(xa, .inr (5, [.ref hi, .ref ci, .ref st])), (hi, .inr (1, [.ref ra, .int (iZ nx), .int (iZ kp)])), (ra, .inl (cy 2, 6, .inr (.inr (.inr (.inr (qf rw9))))))]) [0, 1, 2] rfl
      have hDc := (hD.sub (ws' := [(xa, .inr (5, [.ref hi, .ref ci, .ref st])), (hi, .inr (1, [.ref ra, .int (iZ nx), .int (iZ kp)])), (ra, .inl (cy 2, 6, .inr (.inr (.inr (.inr (qf rw9))))))]) [0, 1, 2] (by decide) rfl).weaken (B := fun _ => True) (fun _ _ _ _ => trivial)
      have hFc := va_free (wc := [(xa, .inr (5, [.ref hi, .ref ci, .ref st])), (hi, .inr (1, [.ref ra, .int (iZ nx), .int (iZ kp)])), (ra, .inl (cy 2, 6, .inr (.inr (.inr (.inr (qf rw9))))))]) hD hS hA [0, 1, 2] rfl
      have hIc : va_P G vwCl [(st, .inr (3, [.ref sl, .ref wo]))] H := (hI.sub (ws' := [(st, .inr (3, [.ref sl, .ref wo]))]) [0] rfl)
      have hIAc : NA (va_A [(xa, .inr (5, [.ref hi, .ref ci, .ref st])), (hi, .inr (1, [.ref ra, .int (iZ nx), .int (iZ kp)])), (ra, .inl (cy 2, 6, .inr (.inr (.inr (.inr (qf rw9))))))] H.size) [(st, .inr (3, [.ref sl, .ref wo]))] := NA.cons (fun z => hIA.at 0 rfl (hFc _ z)) (NA.nil)
      refine z_callE (A := A) (va_runV (As := [.ref qo_37]) (rest := []) ⟨hx, hb, hml, hown, hts⟩ (c_X6_changeWord lau G cy xa hi ci st ra sl wo qo_37 H.size nx kp rw9 (by first | omega | assumption) (by first | omega | assumption)) (cwV 1 hts gX6_loadStandard_X6_changeWord rfl rfl rfl (by decide +kernel) ⟨Nat.le_of_ble_eq_true rfl, Nat.le_of_ble_eq_true rfl⟩) ⟨P1_blind, va_recv hK hP (ci := 5) (q0 := 0) rfl rfl, P1_mk hKK (⟨rfl, hPc, hDc, hIc, hIAc⟩)⟩ rfl rfl hl.1 rfl (lv_room (Nat.le_of_ble_eq_true rfl)) dX6_loadStandard_50 ⟨(show 22 + 1 ≤ 23 by omega), (show 44 + 2 ≤ 46 by omega)⟩) hS.2.2 hFc (fun v H1 locs1 hR hL1 => ?_)
      obtain ⟨ns_50, rfl, hq50, hP1, hD1, hF1⟩ := hR
      obtain ⟨hP, hD⟩ := va_join (wr := [(qo_37, .inr (4, [.long (lZ (stW p q kk).1), .int (iZ (stW p q kk).2)]))]) (w1 := [(xa, .inr (5, [.ref hi, .ref ci, .ref ns_50])), (hi, .inr (1, [.ref ra, .int (iZ (nxF nx)), .int (iZ (kpF kp))])), (ra, .inl (cy 2, 6, .inr (.inr (.inr (.inr (qf (upq rw9 nx (some st)))))))), (ns_50, .inr (3, [.ref sl, .ref qo_37]))]) hP hD [0, 1, 2] [3] rfl rfl (by decide) (by decide) hF1.2 hFc hP1 hD1
      have hS : va_S A s.heap H1 locs1 := Fh.S ((Fh.of hS).tr hF1 (fun q _ h => hFc q h)) hL1
      clear hPc hDc hFc hP1 hD1 hF1 hL1 hIc hIAc
      generalize H1 = H at hP hS ⊢
      have hP : va_P G vwCl [(qo_37, .inr (4, [.long (lZ (stW p q kk).1), .int (iZ (stW p q kk).2)])), (xa, .inr (5, [.ref hi, .ref ci, .ref ns_50])), (hi, .inr (1, [.ref ra, .int (iZ (nxF nx)), .int (iZ (kpF kp))])), (ra, .inl (cy 2, 6, .inr (.inr (.inr (.inr (qf (upq rw9 nx (some st)))))))), (ns_50, .inr (3, [.ref sl, .ref qo_37]))] H := hP
      have hD : va_D A [(qo_37, .inr (4, [.long (lZ (stW p q kk).1), .int (iZ (stW p q kk).2)])), (xa, .inr (5, [.ref hi, .ref ci, .ref ns_50])), (hi, .inr (1, [.ref ra, .int (iZ (nxF nx)), .int (iZ (kpF kp))])), (ra, .inl (cy 2, 6, .inr (.inr (.inr (.inr (qf (upq rw9 nx (some st)))))))), (ns_50, .inr (3, [.ref sl, .ref qo_37]))] := hD
      refine W.eq (g2 := F0 mt 53 ls []) rfl ?_
      have hI : va_P G vwCl [(st, .inr (3, [.ref sl, .ref wo])), (sl, .inr (2, [.int (iZ p), .int (iZ q), .int (iZ c)])), (wo, .inr (4, [.long (lZ b), .int (iZ n)]))] H := im_keep2 hI0 hIA (Fh.of hS)
      refine lv_aload_n hx hb dX6_loadStandard_53 rfl (lv_at hl 0 rfl) ?_
      refine va_getN (D := G) (ci := 4) (v := .int (iZ (stW p q kk).2)) (C := RX5) (T := TX5) (N := 2) hx hb hts (by decide +kernel) hown hK hP 0 rfl rfl 1 (by decide) (va_Nw.use rfl (hKK.2 (.fieldLinkNest RX6 93 "SturmianWords$Word" "size" "I" "SturmianWords") (by decide +kernel))) (fun _ h9 => h9) rfl dX6_loadStandard_54 ?_
      have hP := hP.sub (ws' := [(xa, .inr (5, [.ref hi, .ref ci, .ref ns_50])), (hi, .inr (1, [.ref ra, .int (iZ (nxF nx)), .int (iZ (kpF kp))])), (ra, .inl (cy 2, 6, .inr (.inr (.inr (.inr (qf (upq rw9 nx (some st)))))))), (ns_50, .inr (3, [.ref sl, .ref qo_37])), (qo_37, .inr (4, [.long (lZ (stW p q kk).1), .int (iZ (stW p q kk).2)]))]) [1, 2, 3, 4, 0] rfl
      have hD := hD.sub (ws' := [(xa, .inr (5, [.ref hi, .ref ci, .ref ns_50])), (hi, .inr (1, [.ref ra, .int (iZ (nxF nx)), .int (iZ (kpF kp))])), (ra, .inl (cy 2, 6, .inr (.inr (.inr (.inr (qf (upq rw9 nx (some st)))))))), (ns_50, .inr (3, [.ref sl, .ref qo_37])), (qo_37, .inr (4, [.long (lZ (stW p q kk).1), .int (iZ (stW p q kk).2)]))]) [1, 2, 3, 4, 0] (by decide) rfl
      exact z_iretE hx hb hr hlocks dX6_loadStandard_57 hS.2.2 ⟨(show 23 ≤ 23 by omega), (show 46 ≤ 46 by omega)⟩ ⟨ns_50, qo_37, (rfl), (trivial), (hP), (hD), Fh.of hS⟩
    · refine lv_aload_n hx hb dX6_loadStandard_11 rfl (lv_at hl 0 rfl) ?_
      refine va_get (D := G) (ci := 5) (v := .ref st) (C := RX6) (T := TX6) (N := 3) hx hb hts (by decide +kernel) hown hK hP 0 rfl rfl 2 (by decide) (hts (.fieldLink RX6 38 "SturmianWords" "state" "LSturmianWords$State;") (by decide +kernel)) (fun _ h9 => h9) rfl dX6_loadStandard_12 ?_
      refine va_getN (D := G) (ci := 3) (v := .ref sl) (C := RX4) (T := TX4) (N := 2) hx hb hts (by decide +kernel) hown hK hI 0 rfl rfl 0 (by decide) (va_Nw.use rfl (hKK.2 (.fieldLinkNest RX6 54 "SturmianWords$State" "slope" "LSturmianWords$Slope;" "SturmianWords") (by decide +kernel))) (fun _ h9 => h9) rfl dX6_loadStandard_15 ?_
      refine lv_iload_n hx hb dX6_loadStandard_18 rfl (lv_at hl 1 rfl) ?_
      refine z_calli (va_runV (As := [.int (iZ kk)]) (rest := []) ⟨hx, hb, hml, hown, hts⟩ (c_X3_term lau G cy sl p q c kk (by first | omega | assumption) (by first | omega | assumption) (by first | omega | assumption)) (cwV 1 hts gX6_loadStandard_X3_term rfl rfl rfl (by decide +kernel) ⟨Nat.le_of_ble_eq_true rfl, Nat.le_of_ble_eq_true rfl⟩) ⟨P1_blind, va_recv hK hI (ci := 2) (q0 := 1) rfl rfl, P1_mk hKK (hI.sub [1] rfl)⟩ rfl rfl hl.1 rfl (lv_room (Nat.le_of_ble_eq_true rfl)) dX6_loadStandard_19 ⟨(show 0 + 0 ≤ 23 by omega), (show 0 + 0 ≤ 46 by omega)⟩) ?_
      refine lv_iconst (v := iZ (-1)) hx hb dX6_loadStandard_22 rfl ?_
      have hcp := cft_pos (p := p) (q := q) (k := kk - 1) hp hq.1 (by omega) (ntm_pos (by omega) (by omega))
      rw [show kk - 1 + 1 = kk by omega] at hcp
      refine z_icmp_ne (tgt := 29) hx hb dX6_loadStandard_23 (by decide) (by omega) (fun c_23 => ?_) (fun c_23 => ?_)
      · refine lv_aload_n hx hb dX6_loadStandard_29 rfl (lv_at hl 0 rfl) ?_
        refine va_get (D := G) (ci := 5) (v := .ref st) (C := RX6) (T := TX6) (N := 3) hx hb hts (by decide +kernel) hown hK hP 0 rfl rfl 2 (by decide) (hts (.fieldLink RX6 38 "SturmianWords" "state" "LSturmianWords$State;") (by decide +kernel)) (fun _ h9 => h9) rfl dX6_loadStandard_30 ?_
        refine va_getN (D := G) (ci := 3) (v := .ref sl) (C := RX4) (T := TX4) (N := 2) hx hb hts (by decide +kernel) hown hK hI 0 rfl rfl 0 (by decide) (va_Nw.use rfl (hKK.2 (.fieldLinkNest RX6 54 "SturmianWords$State" "slope" "LSturmianWords$Slope;" "SturmianWords") (by decide +kernel))) (fun _ h9 => h9) rfl dX6_loadStandard_33 ?_
        refine lv_iload_n hx hb dX6_loadStandard_36 rfl (lv_at hl 1 rfl) ?_
        have hPc := hP.sub (ws' := []) [] rfl
        have hDc := (hD.sub (ws' := []) [] (by decide) rfl).weaken (B := fun _ => True) (fun _ _ _ _ => trivial)
        have hFc := va_free (wc := []) hD hS hA [] rfl
        have hIc : va_P G vwCl [(sl, .inr (2, [.int (iZ p), .int (iZ q), .int (iZ c)]))] s.heap := (hI.sub (ws' := [(sl, .inr (2, [.int (iZ p), .int (iZ q), .int (iZ c)]))]) [1] rfl)
        have hIAc : NA (va_A [] s.heap.size) [(sl, .inr (2, [.int (iZ p), .int (iZ q), .int (iZ c)]))] := NA.cons (fun z => hIA.at 1 rfl (hFc _ z)) (NA.nil)
        refine z_callE (A := A) (va_runV (As := [.int (iZ kk)]) (rest := []) ⟨hx, hb, hml, hown, hts⟩ (c_X3_standardWord lau G cy sl s.heap.size p q c kk (by first | omega | assumption) (by first | omega | assumption) (by first | omega | assumption) (by first | omega | assumption)) (cwV 1 hts gX6_loadStandard_X3_standardWord rfl rfl rfl (by decide +kernel) ⟨Nat.le_of_ble_eq_true rfl, Nat.le_of_ble_eq_true rfl⟩) ⟨P1_blind, va_recv hK hI (ci := 2) (q0 := 1) rfl rfl, P1_mk hKK (⟨rfl, hPc, hDc, hIc, hIAc⟩)⟩ rfl rfl hl.1 rfl (lv_room (Nat.le_of_ble_eq_true rfl)) dX6_loadStandard_37 ⟨(show 0 + 22 ≤ 23 by omega), (show 0 + 44 ≤ 46 by omega)⟩) hS.2.2 hFc (fun v H1 locs1 hR hL1 => ?_)
        obtain ⟨qo_37, rfl, hq37, hP1, hD1, hF1⟩ := hR
        obtain ⟨hP, hD⟩ := va_join (wr := [(xa, .inr (5, [.ref hi, .ref ci, .ref st])), (hi, .inr (1, [.ref ra, .int (iZ nx), .int (iZ kp)])), (ra, .inl (cy 2, 6, .inr (.inr (.inr (.inr (qf rw9))))))]) (w1 := [(qo_37, .inr (4, [.long (lZ (stW p q kk).1), .int (iZ (stW p q kk).2)]))]) hP hD [] [0, 1, 2] rfl rfl (by decide) (by decide) hF1.2 hFc hP1 hD1
        have hS : va_S A s.heap H1 locs1 := Fh.S ((Fh.of hS).tr hF1 (fun q _ h => hFc q h)) hL1
        clear hPc hDc hFc hP1 hD1 hF1 hL1 hIc hIAc
        generalize H1 = H at hP hS ⊢
        have hP : va_P G vwCl [(xa, .inr (5, [.ref hi, .ref ci, .ref st])), (hi, .inr (1, [.ref ra, .int (iZ nx), .int (iZ kp)])), (ra, .inl (cy 2, 6, .inr (.inr (.inr (.inr (qf rw9)))))), (qo_37, .inr (4, [.long (lZ (stW p q kk).1), .int (iZ (stW p q kk).2)]))] H := hP
        have hD : va_D A [(xa, .inr (5, [.ref hi, .ref ci, .ref st])), (hi, .inr (1, [.ref ra, .int (iZ nx), .int (iZ kp)])), (ra, .inl (cy 2, 6, .inr (.inr (.inr (.inr (qf rw9)))))), (qo_37, .inr (4, [.long (lZ (stW p q kk).1), .int (iZ (stW p q kk).2)]))] := hD
        refine W.eq (g2 := F0 mt 40 ls [.ref qo_37]) rfl ?_
        have hI : va_P G vwCl [(st, .inr (3, [.ref sl, .ref wo])), (sl, .inr (2, [.int (iZ p), .int (iZ q), .int (iZ c)])), (wo, .inr (4, [.long (lZ b), .int (iZ n)]))] H := im_keep2 hI0 hIA (Fh.of hS)
        refine lv_astore_n (lv' := [(2, .ref qo_37), (0, .ref xa), (1, .int (iZ kk))]) hx hb dX6_loadStandard_40 rfl hl (by decide) rfl (fun ls hl => ?_)
        refine lv_aload_n hx hb dX6_loadStandard_41 rfl (lv_at hl 0 rfl) ?_
        refine lv_ifnonnull (tgt := 48) hx hb dX6_loadStandard_42 (by decide) ?_
        refine lv_aload_n hx hb dX6_loadStandard_48 rfl (lv_at hl 1 rfl) ?_
        refine lv_aload_n hx hb dX6_loadStandard_49 rfl (lv_at hl 0 rfl) ?_
        have hPc := hP.sub (ws' := [(xa, .inr (5, [.ref hi, .ref ci, .ref st])), (hi, .inr (1, [.ref ra, .int (iZ nx), .int (iZ kp)])), (ra, .inl (cy 2, 6, .inr (.inr (.inr (.inr (qf rw9))))))]) [0, 1, 2] rfl
        have hDc := (hD.sub (ws' := [(xa, .inr (5, [.ref hi, .ref ci, .ref st])), (hi, .inr (1, [.ref ra, .int (iZ nx), .int (iZ kp)])), (ra, .inl (cy 2, 6, .inr (.inr (.inr (.inr (qf rw9))))))]) [0, 1, 2] (by decide) rfl).weaken (B := fun _ => True) (fun _ _ _ _ => trivial)
        have hFc := va_free (wc := [(xa, .inr (5, [.ref hi, .ref ci, .ref st])), (hi, .inr (1, [.ref ra, .int (iZ nx), .int (iZ kp)])), (ra, .inl (cy 2, 6, .inr (.inr (.inr (.inr (qf rw9))))))]) hD hS hA [0, 1, 2] rfl
        have hIc : va_P G vwCl [(st, .inr (3, [.ref sl, .ref wo]))] H := (hI.sub (ws' := [(st, .inr (3, [.ref sl, .ref wo]))]) [0] rfl)
        have hIAc : NA (va_A [(xa, .inr (5, [.ref hi, .ref ci, .ref st])), (hi, .inr (1, [.ref ra, .int (iZ nx), .int (iZ kp)])), (ra, .inl (cy 2, 6, .inr (.inr (.inr (.inr (qf rw9))))))] H.size) [(st, .inr (3, [.ref sl, .ref wo]))] := NA.cons (fun z => hIA.at 0 rfl (hFc _ z)) (NA.nil)
        refine z_callE (A := A) (va_runV (As := [.ref qo_37]) (rest := []) ⟨hx, hb, hml, hown, hts⟩ (c_X6_changeWord lau G cy xa hi ci st ra sl wo qo_37 H.size nx kp rw9 (by first | omega | assumption) (by first | omega | assumption)) (cwV 1 hts gX6_loadStandard_X6_changeWord rfl rfl rfl (by decide +kernel) ⟨Nat.le_of_ble_eq_true rfl, Nat.le_of_ble_eq_true rfl⟩) ⟨P1_blind, va_recv hK hP (ci := 5) (q0 := 0) rfl rfl, P1_mk hKK (⟨rfl, hPc, hDc, hIc, hIAc⟩)⟩ rfl rfl hl.1 rfl (lv_room (Nat.le_of_ble_eq_true rfl)) dX6_loadStandard_50 ⟨(show 22 + 1 ≤ 23 by omega), (show 44 + 2 ≤ 46 by omega)⟩) hS.2.2 hFc (fun v H1 locs1 hR hL1 => ?_)
        obtain ⟨ns_50, rfl, hq50, hP1, hD1, hF1⟩ := hR
        obtain ⟨hP, hD⟩ := va_join (wr := [(qo_37, .inr (4, [.long (lZ (stW p q kk).1), .int (iZ (stW p q kk).2)]))]) (w1 := [(xa, .inr (5, [.ref hi, .ref ci, .ref ns_50])), (hi, .inr (1, [.ref ra, .int (iZ (nxF nx)), .int (iZ (kpF kp))])), (ra, .inl (cy 2, 6, .inr (.inr (.inr (.inr (qf (upq rw9 nx (some st)))))))), (ns_50, .inr (3, [.ref sl, .ref qo_37]))]) hP hD [0, 1, 2] [3] rfl rfl (by decide) (by decide) hF1.2 hFc hP1 hD1
        have hS : va_S A s.heap H1 locs1 := Fh.S ((Fh.of hS).tr hF1 (fun q _ h => hFc q h)) hL1
        clear hPc hDc hFc hP1 hD1 hF1 hL1 hIc hIAc
        generalize H1 = H at hP hS ⊢
        have hP : va_P G vwCl [(qo_37, .inr (4, [.long (lZ (stW p q kk).1), .int (iZ (stW p q kk).2)])), (xa, .inr (5, [.ref hi, .ref ci, .ref ns_50])), (hi, .inr (1, [.ref ra, .int (iZ (nxF nx)), .int (iZ (kpF kp))])), (ra, .inl (cy 2, 6, .inr (.inr (.inr (.inr (qf (upq rw9 nx (some st)))))))), (ns_50, .inr (3, [.ref sl, .ref qo_37]))] H := hP
        have hD : va_D A [(qo_37, .inr (4, [.long (lZ (stW p q kk).1), .int (iZ (stW p q kk).2)])), (xa, .inr (5, [.ref hi, .ref ci, .ref ns_50])), (hi, .inr (1, [.ref ra, .int (iZ (nxF nx)), .int (iZ (kpF kp))])), (ra, .inl (cy 2, 6, .inr (.inr (.inr (.inr (qf (upq rw9 nx (some st)))))))), (ns_50, .inr (3, [.ref sl, .ref qo_37]))] := hD
        refine W.eq (g2 := F0 mt 53 ls []) rfl ?_
        have hI : va_P G vwCl [(st, .inr (3, [.ref sl, .ref wo])), (sl, .inr (2, [.int (iZ p), .int (iZ q), .int (iZ c)])), (wo, .inr (4, [.long (lZ b), .int (iZ n)]))] H := im_keep2 hI0 hIA (Fh.of hS)
        refine lv_aload_n hx hb dX6_loadStandard_53 rfl (lv_at hl 0 rfl) ?_
        refine va_getN (D := G) (ci := 4) (v := .int (iZ (stW p q kk).2)) (C := RX5) (T := TX5) (N := 2) hx hb hts (by decide +kernel) hown hK hP 0 rfl rfl 1 (by decide) (va_Nw.use rfl (hKK.2 (.fieldLinkNest RX6 93 "SturmianWords$Word" "size" "I" "SturmianWords") (by decide +kernel))) (fun _ h9 => h9) rfl dX6_loadStandard_54 ?_
        have hP := hP.sub (ws' := [(xa, .inr (5, [.ref hi, .ref ci, .ref ns_50])), (hi, .inr (1, [.ref ra, .int (iZ (nxF nx)), .int (iZ (kpF kp))])), (ra, .inl (cy 2, 6, .inr (.inr (.inr (.inr (qf (upq rw9 nx (some st)))))))), (ns_50, .inr (3, [.ref sl, .ref qo_37])), (qo_37, .inr (4, [.long (lZ (stW p q kk).1), .int (iZ (stW p q kk).2)]))]) [1, 2, 3, 4, 0] rfl
        have hD := hD.sub (ws' := [(xa, .inr (5, [.ref hi, .ref ci, .ref ns_50])), (hi, .inr (1, [.ref ra, .int (iZ (nxF nx)), .int (iZ (kpF kp))])), (ra, .inl (cy 2, 6, .inr (.inr (.inr (.inr (qf (upq rw9 nx (some st)))))))), (ns_50, .inr (3, [.ref sl, .ref qo_37])), (qo_37, .inr (4, [.long (lZ (stW p q kk).1), .int (iZ (stW p q kk).2)]))]) [1, 2, 3, 4, 0] (by decide) rfl
        exact z_iretE hx hb hr hlocks dX6_loadStandard_57 hS.2.2 ⟨(show 23 ≤ 23 by omega), (show 46 ≤ 46 by omega)⟩ ⟨ns_50, qo_37, (rfl), (trivial), (hP), (hD), Fh.of hS⟩
      · exfalso; omega
  · exfalso; omega
set_option maxHeartbeats 4000000 in
set_option maxRecDepth 100000 in
theorem c_X6_append_no (lau : Launch) (G : va_G) (cy : Nat → ClassId) (xa hi ci st ra sl wo : Nat) (sz : Nat) (nx kp : Int) (rw9 : Int → Option Nat) (p q c b n : Int) (v9 : Int) (h1 : -2147483648 ≤ v9 ∧ v9 < 2147483648) (h2 : ¬ (0 ≤ v9 ∧ v9 ≤ 1)) : Met lau yX6_append wsX6_append ({ frames := 3, cells := 0, slots := 0, locals := 63 }) (P1 G cy [.ref xa, .int (iZ v9)] (fun H => H.size = sz ∧ va_P G vwCl [(xa, .inr (5, [.ref hi, .ref ci, .ref st])), (hi, .inr (1, [.ref ra, .int (iZ nx), .int (iZ kp)])), (ra, .inl (cy 2, 6, .inr (.inr (.inr (.inr (qf rw9))))))] H ∧ va_D (fun _ => True) [(xa, .inr (5, [.ref hi, .ref ci, .ref st])), (hi, .inr (1, [.ref ra, .int (iZ nx), .int (iZ kp)])), (ra, .inl (cy 2, 6, .inr (.inr (.inr (.inr (qf rw9))))))] ∧ va_P G vwCl [(st, .inr (3, [.ref sl, .ref wo])), (sl, .inr (2, [.int (iZ p), .int (iZ q), .int (iZ c)])), (wo, .inr (4, [.long (lZ b), .int (iZ n)]))] H ∧ NA (va_A [(xa, .inr (5, [.ref hi, .ref ci, .ref st])), (hi, .inr (1, [.ref ra, .int (iZ nx), .int (iZ kp)])), (ra, .inl (cy 2, 6, .inr (.inr (.inr (.inr (qf rw9))))))] sz) [(st, .inr (3, [.ref sl, .ref wo])), (sl, .inr (2, [.int (iZ p), .int (iZ q), .int (iZ c)])), (wo, .inr (4, [.long (lZ b), .int (iZ n)]))])) (Q1 (fun rv H0 H1 => rv = some (.int (iZ (-1))) ∧ (True) ∧ va_P G vwCl [(xa, .inr (5, [.ref hi, .ref ci, .ref st])), (hi, .inr (1, [.ref ra, .int (iZ nx), .int (iZ kp)])), (ra, .inl (cy 2, 6, .inr (.inr (.inr (.inr (qf rw9))))))] H1 ∧ va_D (va_A [(xa, .inr (5, [.ref hi, .ref ci, .ref st])), (hi, .inr (1, [.ref ra, .int (iZ nx), .int (iZ kp)])), (ra, .inl (cy 2, 6, .inr (.inr (.inr (.inr (qf rw9))))))] sz) [(xa, .inr (5, [.ref hi, .ref ci, .ref st])), (hi, .inr (1, [.ref ra, .int (iZ nx), .int (iZ kp)])), (ra, .inl (cy 2, 6, .inr (.inr (.inr (.inr (qf rw9))))))] ∧ Fh (va_A [(xa, .inr (5, [.ref hi, .ref ci, .ref st])), (hi, .inr (1, [.ref ra, .int (iZ nx), .int (iZ kp)])), (ra, .inl (cy 2, 6, .inr (.inr (.inr (.inr (qf rw9))))))] sz) H0 H1)) 0 0 (va_A [(xa, .inr (5, [.ref hi, .ref ci, .ref st])), (hi, .inr (1, [.ref ra, .int (iZ nx), .int (iZ kp)])), (ra, .inl (cy 2, 6, .inr (.inr (.inr (.inr (qf rw9))))))] sz) := by
  refine z_head (lv := [(0, .ref xa), (1, .int (iZ v9))]) RX6 (by decide) rfl rfl (Nat.le_of_ble_eq_true rfl) rfl ?_
  intro pr ev s mt below meth cd ls hx hb hr hlocks hml hown hname hts hKK hP hl
  have hK := hKK.1
  obtain ⟨hsz, hP, hD0, hI0, hIA⟩ := hP
  subst hsz
  have hD := hD0.self (sz := s.heap.size)
  generalize hAe : va_A [(xa, .inr (5, [.ref hi, .ref ci, .ref st])), (hi, .inr (1, [.ref ra, .int (iZ nx), .int (iZ kp)])), (ra, .inl (cy 2, 6, .inr (.inr (.inr (.inr (qf rw9))))))] s.heap.size = A at hD hIA ⊢
  have hA : ∀ q : Nat, s.heap.size ≤ q → A q := fun q h => by rw [← hAe]; exact Or.inr h
  have hS : va_S A s.heap s.heap [] := va_S.rf
  have hP : va_P G vwCl [(xa, .inr (5, [.ref hi, .ref ci, .ref st])), (hi, .inr (1, [.ref ra, .int (iZ nx), .int (iZ kp)])), (ra, .inl (cy 2, 6, .inr (.inr (.inr (.inr (qf rw9))))))] s.heap := hP
  have hI : va_P G vwCl [(st, .inr (3, [.ref sl, .ref wo])), (sl, .inr (2, [.int (iZ p), .int (iZ q), .int (iZ c)])), (wo, .inr (4, [.long (lZ b), .int (iZ n)]))] s.heap := hI0
  refine lv_iload_n hx hb dX6_append_0 rfl (lv_at hl 1 rfl) ?_
  refine z_if_eq (tgt := 11) hx hb dX6_append_1 (by decide) (by omega) (fun c_1 => ?_) (fun c_1 => ?_)
  · exfalso; omega
  · refine lv_iload_n hx hb dX6_append_4 rfl (lv_at hl 1 rfl) ?_
    refine lv_iconst (v := iZ 1) hx hb dX6_append_5 rfl ?_
    refine z_icmp_eq (tgt := 11) hx hb dX6_append_6 (by decide) (by omega) (fun c_6 => ?_) (fun c_6 => ?_)
    · exfalso; omega
    · refine lv_iconst (v := iZ (-1)) hx hb dX6_append_9 rfl ?_
      exact z_iretE hx hb hr hlocks dX6_append_10 hS.2.2 ⟨(show 0 ≤ 0 by omega), (show 0 ≤ 0 by omega)⟩ ⟨(rfl), (trivial), (hP), (hD), Fh.of hS⟩
set_option maxHeartbeats 4000000 in
set_option maxRecDepth 100000 in
theorem c_X6_append_no2 (lau : Launch) (G : va_G) (cy : Nat → ClassId) (xa hi ci st ra sl wo : Nat) (sz : Nat) (nx kp : Int) (rw9 : Int → Option Nat) (p q c b n : Int) (v9 : Int) (h2 : 0 ≤ v9 ∧ v9 ≤ 1) (h3 : n = 60) : Met lau yX6_append wsX6_append ({ frames := 3, cells := 0, slots := 0, locals := 63 }) (P1 G cy [.ref xa, .int (iZ v9)] (fun H => H.size = sz ∧ va_P G vwCl [(xa, .inr (5, [.ref hi, .ref ci, .ref st])), (hi, .inr (1, [.ref ra, .int (iZ nx), .int (iZ kp)])), (ra, .inl (cy 2, 6, .inr (.inr (.inr (.inr (qf rw9))))))] H ∧ va_D (fun _ => True) [(xa, .inr (5, [.ref hi, .ref ci, .ref st])), (hi, .inr (1, [.ref ra, .int (iZ nx), .int (iZ kp)])), (ra, .inl (cy 2, 6, .inr (.inr (.inr (.inr (qf rw9))))))] ∧ va_P G vwCl [(st, .inr (3, [.ref sl, .ref wo])), (sl, .inr (2, [.int (iZ p), .int (iZ q), .int (iZ c)])), (wo, .inr (4, [.long (lZ b), .int (iZ n)]))] H ∧ NA (va_A [(xa, .inr (5, [.ref hi, .ref ci, .ref st])), (hi, .inr (1, [.ref ra, .int (iZ nx), .int (iZ kp)])), (ra, .inl (cy 2, 6, .inr (.inr (.inr (.inr (qf rw9))))))] sz) [(st, .inr (3, [.ref sl, .ref wo])), (sl, .inr (2, [.int (iZ p), .int (iZ q), .int (iZ c)])), (wo, .inr (4, [.long (lZ b), .int (iZ n)]))])) (Q1 (fun rv H0 H1 => rv = some (.int (iZ (-2))) ∧ (True) ∧ va_P G vwCl [(xa, .inr (5, [.ref hi, .ref ci, .ref st])), (hi, .inr (1, [.ref ra, .int (iZ nx), .int (iZ kp)])), (ra, .inl (cy 2, 6, .inr (.inr (.inr (.inr (qf rw9))))))] H1 ∧ va_D (va_A [(xa, .inr (5, [.ref hi, .ref ci, .ref st])), (hi, .inr (1, [.ref ra, .int (iZ nx), .int (iZ kp)])), (ra, .inl (cy 2, 6, .inr (.inr (.inr (.inr (qf rw9))))))] sz) [(xa, .inr (5, [.ref hi, .ref ci, .ref st])), (hi, .inr (1, [.ref ra, .int (iZ nx), .int (iZ kp)])), (ra, .inl (cy 2, 6, .inr (.inr (.inr (.inr (qf rw9))))))] ∧ Fh (va_A [(xa, .inr (5, [.ref hi, .ref ci, .ref st])), (hi, .inr (1, [.ref ra, .int (iZ nx), .int (iZ kp)])), (ra, .inl (cy 2, 6, .inr (.inr (.inr (.inr (qf rw9))))))] sz) H0 H1)) 0 0 (va_A [(xa, .inr (5, [.ref hi, .ref ci, .ref st])), (hi, .inr (1, [.ref ra, .int (iZ nx), .int (iZ kp)])), (ra, .inl (cy 2, 6, .inr (.inr (.inr (.inr (qf rw9))))))] sz) := by
  refine z_head (lv := [(0, .ref xa), (1, .int (iZ v9))]) RX6 (by decide) rfl rfl (Nat.le_of_ble_eq_true rfl) rfl ?_
  intro pr ev s mt below meth cd ls hx hb hr hlocks hml hown hname hts hKK hP hl
  have hK := hKK.1
  obtain ⟨hsz, hP, hD0, hI0, hIA⟩ := hP
  subst hsz
  have hD := hD0.self (sz := s.heap.size)
  generalize hAe : va_A [(xa, .inr (5, [.ref hi, .ref ci, .ref st])), (hi, .inr (1, [.ref ra, .int (iZ nx), .int (iZ kp)])), (ra, .inl (cy 2, 6, .inr (.inr (.inr (.inr (qf rw9))))))] s.heap.size = A at hD hIA ⊢
  have hA : ∀ q : Nat, s.heap.size ≤ q → A q := fun q h => by rw [← hAe]; exact Or.inr h
  have hS : va_S A s.heap s.heap [] := va_S.rf
  have hP : va_P G vwCl [(xa, .inr (5, [.ref hi, .ref ci, .ref st])), (hi, .inr (1, [.ref ra, .int (iZ nx), .int (iZ kp)])), (ra, .inl (cy 2, 6, .inr (.inr (.inr (.inr (qf rw9))))))] s.heap := hP
  have hI : va_P G vwCl [(st, .inr (3, [.ref sl, .ref wo])), (sl, .inr (2, [.int (iZ p), .int (iZ q), .int (iZ c)])), (wo, .inr (4, [.long (lZ b), .int (iZ n)]))] s.heap := hI0
  refine lv_iload_n hx hb dX6_append_0 rfl (lv_at hl 1 rfl) ?_
  refine z_if_eq (tgt := 11) hx hb dX6_append_1 (by decide) (by omega) (fun c_1 => ?_) (fun c_1 => ?_)
  · refine lv_aload_n hx hb dX6_append_11 rfl (lv_at hl 0 rfl) ?_
    refine va_get (D := G) (ci := 5) (v := .ref st) (C := RX6) (T := TX6) (N := 3) hx hb hts (by decide +kernel) hown hK hP 0 rfl rfl 2 (by decide) (hts (.fieldLink RX6 38 "SturmianWords" "state" "LSturmianWords$State;") (by decide +kernel)) (fun _ h9 => h9) rfl dX6_append_12 ?_
    refine va_getN (D := G) (ci := 3) (v := .ref wo) (C := RX4) (T := TX4) (N := 2) hx hb hts (by decide +kernel) hown hK hI 0 rfl rfl 1 (by decide) (va_Nw.use rfl (hKK.2 (.fieldLinkNest RX6 96 "SturmianWords$State" "word" "LSturmianWords$Word;" "SturmianWords") (by decide +kernel))) (fun _ h9 => h9) rfl dX6_append_15 ?_
    refine lv_astore_n (lv' := [(2, .ref wo), (0, .ref xa), (1, .int (iZ v9))]) hx hb dX6_append_18 rfl hl (by decide) rfl (fun ls hl => ?_)
    refine lv_aload_n hx hb dX6_append_19 rfl (lv_at hl 0 rfl) ?_
    refine va_getN (D := G) (ci := 4) (v := .int (iZ n)) (C := RX5) (T := TX5) (N := 2) hx hb hts (by decide +kernel) hown hK hI 2 rfl rfl 1 (by decide) (va_Nw.use rfl (hKK.2 (.fieldLinkNest RX6 93 "SturmianWords$Word" "size" "I" "SturmianWords") (by decide +kernel))) (fun _ h9 => h9) rfl dX6_append_20 ?_
    refine lv_bipush (v := iZ 60) hx hb dX6_append_23 (by decide +kernel) ?_
    refine z_icmp_lt (tgt := 31) hx hb dX6_append_25 (by decide) (by omega) (fun c_25 => ?_) (fun c_25 => ?_)
    · exfalso; omega
    · refine lv_bipush (v := iZ (-2)) hx hb dX6_append_28 (by decide +kernel) ?_
      exact z_iretE hx hb hr hlocks dX6_append_30 hS.2.2 ⟨(show 0 ≤ 0 by omega), (show 0 ≤ 0 by omega)⟩ ⟨(rfl), (trivial), (hP), (hD), Fh.of hS⟩
  · refine lv_iload_n hx hb dX6_append_4 rfl (lv_at hl 1 rfl) ?_
    refine lv_iconst (v := iZ 1) hx hb dX6_append_5 rfl ?_
    refine z_icmp_eq (tgt := 11) hx hb dX6_append_6 (by decide) (by omega) (fun c_6 => ?_) (fun c_6 => ?_)
    · refine lv_aload_n hx hb dX6_append_11 rfl (lv_at hl 0 rfl) ?_
      refine va_get (D := G) (ci := 5) (v := .ref st) (C := RX6) (T := TX6) (N := 3) hx hb hts (by decide +kernel) hown hK hP 0 rfl rfl 2 (by decide) (hts (.fieldLink RX6 38 "SturmianWords" "state" "LSturmianWords$State;") (by decide +kernel)) (fun _ h9 => h9) rfl dX6_append_12 ?_
      refine va_getN (D := G) (ci := 3) (v := .ref wo) (C := RX4) (T := TX4) (N := 2) hx hb hts (by decide +kernel) hown hK hI 0 rfl rfl 1 (by decide) (va_Nw.use rfl (hKK.2 (.fieldLinkNest RX6 96 "SturmianWords$State" "word" "LSturmianWords$Word;" "SturmianWords") (by decide +kernel))) (fun _ h9 => h9) rfl dX6_append_15 ?_
      refine lv_astore_n (lv' := [(2, .ref wo), (0, .ref xa), (1, .int (iZ v9))]) hx hb dX6_append_18 rfl hl (by decide) rfl (fun ls hl => ?_)
      refine lv_aload_n hx hb dX6_append_19 rfl (lv_at hl 0 rfl) ?_
      refine va_getN (D := G) (ci := 4) (v := .int (iZ n)) (C := RX5) (T := TX5) (N := 2) hx hb hts (by decide +kernel) hown hK hI 2 rfl rfl 1 (by decide) (va_Nw.use rfl (hKK.2 (.fieldLinkNest RX6 93 "SturmianWords$Word" "size" "I" "SturmianWords") (by decide +kernel))) (fun _ h9 => h9) rfl dX6_append_20 ?_
      refine lv_bipush (v := iZ 60) hx hb dX6_append_23 (by decide +kernel) ?_
      refine z_icmp_lt (tgt := 31) hx hb dX6_append_25 (by decide) (by omega) (fun c_25 => ?_) (fun c_25 => ?_)
      · exfalso; omega
      · refine lv_bipush (v := iZ (-2)) hx hb dX6_append_28 (by decide +kernel) ?_
        exact z_iretE hx hb hr hlocks dX6_append_30 hS.2.2 ⟨(show 0 ≤ 0 by omega), (show 0 ≤ 0 by omega)⟩ ⟨(rfl), (trivial), (hP), (hD), Fh.of hS⟩
    · exfalso; omega
set_option maxHeartbeats 4000000 in
set_option maxRecDepth 100000 in
theorem c_X6_append (lau : Launch) (G : va_G) (cy : Nat → ClassId) (xa hi ci st ra sl wo : Nat) (sz : Nat) (nx kp : Int) (rw9 : Int → Option Nat) (p q c b n : Int) (v9 : Int) (hnx : 0 ≤ nx ∧ nx < 6) (hkp : 0 ≤ kp ∧ kp ≤ 6) (h2 : 0 ≤ v9 ∧ v9 ≤ 1) (hn : 0 ≤ n ∧ n < 60) (hb2 : 0 ≤ b ∧ b < 1152921504606846977) : Met lau yX6_append wsX6_append ({ frames := 3, cells := 2, slots := 5, locals := 63 }) (P1 G cy [.ref xa, .int (iZ v9)] (fun H => H.size = sz ∧ va_P G vwCl [(xa, .inr (5, [.ref hi, .ref ci, .ref st])), (hi, .inr (1, [.ref ra, .int (iZ nx), .int (iZ kp)])), (ra, .inl (cy 2, 6, .inr (.inr (.inr (.inr (qf rw9))))))] H ∧ va_D (fun _ => True) [(xa, .inr (5, [.ref hi, .ref ci, .ref st])), (hi, .inr (1, [.ref ra, .int (iZ nx), .int (iZ kp)])), (ra, .inl (cy 2, 6, .inr (.inr (.inr (.inr (qf rw9))))))] ∧ va_P G vwCl [(st, .inr (3, [.ref sl, .ref wo])), (sl, .inr (2, [.int (iZ p), .int (iZ q), .int (iZ c)])), (wo, .inr (4, [.long (lZ b), .int (iZ n)]))] H ∧ NA (va_A [(xa, .inr (5, [.ref hi, .ref ci, .ref st])), (hi, .inr (1, [.ref ra, .int (iZ nx), .int (iZ kp)])), (ra, .inl (cy 2, 6, .inr (.inr (.inr (.inr (qf rw9))))))] sz) [(st, .inr (3, [.ref sl, .ref wo])), (sl, .inr (2, [.int (iZ p), .int (iZ q), .int (iZ c)])), (wo, .inr (4, [.long (lZ b), .int (iZ n)]))])) (Q1 (fun rv H0 H1 => ∃ (ns nq : Nat), rv = some (.int (iZ (n + 1))) ∧ (True) ∧ va_P G vwCl [(xa, .inr (5, [.ref hi, .ref ci, .ref ns])), (hi, .inr (1, [.ref ra, .int (iZ (nxF nx)), .int (iZ (kpF kp))])), (ra, .inl (cy 2, 6, .inr (.inr (.inr (.inr (qf (upq rw9 nx (some st)))))))), (ns, .inr (3, [.ref sl, .ref nq])), (nq, .inr (4, [.long (lZ (2 * b + v9)), .int (iZ (n + 1))]))] H1 ∧ va_D (va_A [(xa, .inr (5, [.ref hi, .ref ci, .ref st])), (hi, .inr (1, [.ref ra, .int (iZ nx), .int (iZ kp)])), (ra, .inl (cy 2, 6, .inr (.inr (.inr (.inr (qf rw9))))))] sz) [(xa, .inr (5, [.ref hi, .ref ci, .ref ns])), (hi, .inr (1, [.ref ra, .int (iZ (nxF nx)), .int (iZ (kpF kp))])), (ra, .inl (cy 2, 6, .inr (.inr (.inr (.inr (qf (upq rw9 nx (some st)))))))), (ns, .inr (3, [.ref sl, .ref nq])), (nq, .inr (4, [.long (lZ (2 * b + v9)), .int (iZ (n + 1))]))] ∧ Fh (va_A [(xa, .inr (5, [.ref hi, .ref ci, .ref st])), (hi, .inr (1, [.ref ra, .int (iZ nx), .int (iZ kp)])), (ra, .inl (cy 2, 6, .inr (.inr (.inr (.inr (qf rw9))))))] sz) H0 H1)) 2 5 (va_A [(xa, .inr (5, [.ref hi, .ref ci, .ref st])), (hi, .inr (1, [.ref ra, .int (iZ nx), .int (iZ kp)])), (ra, .inl (cy 2, 6, .inr (.inr (.inr (.inr (qf rw9))))))] sz) := by
  refine z_head (lv := [(0, .ref xa), (1, .int (iZ v9))]) RX6 (by decide) rfl rfl (Nat.le_of_ble_eq_true rfl) rfl ?_
  intro pr ev s mt below meth cd ls hx hb hr hlocks hml hown hname hts hKK hP hl
  have hK := hKK.1
  obtain ⟨hsz, hP, hD0, hI0, hIA⟩ := hP
  subst hsz
  have hD := hD0.self (sz := s.heap.size)
  generalize hAe : va_A [(xa, .inr (5, [.ref hi, .ref ci, .ref st])), (hi, .inr (1, [.ref ra, .int (iZ nx), .int (iZ kp)])), (ra, .inl (cy 2, 6, .inr (.inr (.inr (.inr (qf rw9))))))] s.heap.size = A at hD hIA ⊢
  have hA : ∀ q : Nat, s.heap.size ≤ q → A q := fun q h => by rw [← hAe]; exact Or.inr h
  have hS : va_S A s.heap s.heap [] := va_S.rf
  have hP : va_P G vwCl [(xa, .inr (5, [.ref hi, .ref ci, .ref st])), (hi, .inr (1, [.ref ra, .int (iZ nx), .int (iZ kp)])), (ra, .inl (cy 2, 6, .inr (.inr (.inr (.inr (qf rw9))))))] s.heap := hP
  have hI : va_P G vwCl [(st, .inr (3, [.ref sl, .ref wo])), (sl, .inr (2, [.int (iZ p), .int (iZ q), .int (iZ c)])), (wo, .inr (4, [.long (lZ b), .int (iZ n)]))] s.heap := hI0
  refine lv_iload_n hx hb dX6_append_0 rfl (lv_at hl 1 rfl) ?_
  refine z_if_eq (tgt := 11) hx hb dX6_append_1 (by decide) (by omega) (fun c_1 => ?_) (fun c_1 => ?_)
  · refine lv_aload_n hx hb dX6_append_11 rfl (lv_at hl 0 rfl) ?_
    refine va_get (D := G) (ci := 5) (v := .ref st) (C := RX6) (T := TX6) (N := 3) hx hb hts (by decide +kernel) hown hK hP 0 rfl rfl 2 (by decide) (hts (.fieldLink RX6 38 "SturmianWords" "state" "LSturmianWords$State;") (by decide +kernel)) (fun _ h9 => h9) rfl dX6_append_12 ?_
    refine va_getN (D := G) (ci := 3) (v := .ref wo) (C := RX4) (T := TX4) (N := 2) hx hb hts (by decide +kernel) hown hK hI 0 rfl rfl 1 (by decide) (va_Nw.use rfl (hKK.2 (.fieldLinkNest RX6 96 "SturmianWords$State" "word" "LSturmianWords$Word;" "SturmianWords") (by decide +kernel))) (fun _ h9 => h9) rfl dX6_append_15 ?_
    refine lv_astore_n (lv' := [(2, .ref wo), (0, .ref xa), (1, .int (iZ v9))]) hx hb dX6_append_18 rfl hl (by decide) rfl (fun ls hl => ?_)
    refine lv_aload_n hx hb dX6_append_19 rfl (lv_at hl 0 rfl) ?_
    refine va_getN (D := G) (ci := 4) (v := .int (iZ n)) (C := RX5) (T := TX5) (N := 2) hx hb hts (by decide +kernel) hown hK hI 2 rfl rfl 1 (by decide) (va_Nw.use rfl (hKK.2 (.fieldLinkNest RX6 93 "SturmianWords$Word" "size" "I" "SturmianWords") (by decide +kernel))) (fun _ h9 => h9) rfl dX6_append_20 ?_
    refine lv_bipush (v := iZ 60) hx hb dX6_append_23 (by decide +kernel) ?_
    refine z_icmp_lt (tgt := 31) hx hb dX6_append_25 (by decide) (by omega) (fun c_25 => ?_) (fun c_25 => ?_)
    · refine lv_aload_n hx hb dX6_append_31 rfl (lv_at hl 1 rfl) ?_
      refine va_new (D := G) (ci := 4) (fs := [.long (lZ 0), .int (iZ 0)]) (C := RX5) (T := TX5) (N := 2) hx hb hts (by decide +kernel) tyX5 tyX5_ok hown (hts (.classLink RX6 30 RX5) (by decide +kernel)) (hts (.instantiable RX5 2) (by decide +kernel)) (hts (.initialized RX5) (by decide +kernel)) hK hP hD hS hA rfl (fun j hj => by rcases (show j = 0 ∨ j = 1 by omega) with rfl | rfl <;> rfl) (show 0 + 1 ≤ 2 by omega) (show 0 + 2 ≤ 5 by omega) dX6_append_32 (fun n32_1 H hP hD hS => ?_)
      have hP : va_P G vwCl [(xa, .inr (5, [.ref hi, .ref ci, .ref st])), (hi, .inr (1, [.ref ra, .int (iZ nx), .int (iZ kp)])), (ra, .inl (cy 2, 6, .inr (.inr (.inr (.inr (qf rw9)))))), (n32_1, .inr (4, [.long (lZ 0), .int (iZ 0)]))] H := hP
      have hD : va_D A [(xa, .inr (5, [.ref hi, .ref ci, .ref st])), (hi, .inr (1, [.ref ra, .int (iZ nx), .int (iZ kp)])), (ra, .inl (cy 2, 6, .inr (.inr (.inr (.inr (qf rw9)))))), (n32_1, .inr (4, [.long (lZ 0), .int (iZ 0)]))] := hD
      have hI : va_P G vwCl [(st, .inr (3, [.ref sl, .ref wo])), (sl, .inr (2, [.int (iZ p), .int (iZ q), .int (iZ c)])), (wo, .inr (4, [.long (lZ b), .int (iZ n)]))] H := im_keep2 hI0 hIA (Fh.of hS)
      refine lv_dup hx hb dX6_append_35 rfl ?_
      refine lv_aload_n hx hb dX6_append_36 rfl (lv_at hl 0 rfl) ?_
      refine va_getN (D := G) (ci := 4) (v := .long (lZ b)) (C := RX5) (T := TX5) (N := 2) hx hb hts (by decide +kernel) hown hK hI 2 rfl rfl 0 (by decide) (va_Nw.use rfl (hKK.2 (.fieldLinkNest RX6 100 "SturmianWords$Word" "bits" "J" "SturmianWords") (by decide +kernel))) (fun _ h9 => h9) rfl dX6_append_37 ?_
      refine lv_iconst (v := iZ 1) hx hb dX6_append_40 rfl ?_
      refine z_lshl hx hb dX6_append_41 (by omega) ?_
      refine lv_iload_n hx hb dX6_append_42 rfl (lv_at hl 2 rfl) ?_
      refine z_i2l hx hb dX6_append_43 (by omega) ?_
      have hlo : b * pw 1 = b * 2 := by rw [pw_1]
      have hp1 : pw 1 = 2 := rfl
      refine z_lor (k := 1) hx hb dX6_append_44 (by omega) ?_
      refine z_topl (b := (2 * b + v9)) (by rw [pw_1]; omega) ?_
      refine lv_aload_n hx hb dX6_append_45 rfl (lv_at hl 0 rfl) ?_
      refine va_getN (D := G) (ci := 4) (v := .int (iZ n)) (C := RX5) (T := TX5) (N := 2) hx hb hts (by decide +kernel) hown hK hI 2 rfl rfl 1 (by decide) (va_Nw.use rfl (hKK.2 (.fieldLinkNest RX6 93 "SturmianWords$Word" "size" "I" "SturmianWords") (by decide +kernel))) (fun _ h9 => h9) rfl dX6_append_46 ?_
      refine lv_iconst (v := iZ 1) hx hb dX6_append_49 rfl ?_
      refine z_iadd hx hb dX6_append_50 ?_
      have hPc := hP.sub (ws' := [(n32_1, .inr (4, [.long (lZ 0), .int (iZ 0)]))]) [3] rfl
      have hDc := (hD.sub (ws' := [(n32_1, .inr (4, [.long (lZ 0), .int (iZ 0)]))]) [3] (by decide) rfl).weaken (B := fun _ => True) (fun _ _ _ _ => trivial)
      have hFc := va_free (wc := [(n32_1, .inr (4, [.long (lZ 0), .int (iZ 0)]))]) hD hS hA [3] rfl
      refine z_callE (A := A) (va_runI (As := [.long (lZ (2 * b + v9)), .int (iZ (n + 1))]) (rest := [.ref n32_1, .ref xa]) ⟨hx, hb, hml, hown, hts⟩ (c_X5_init lau G cy n32_1 H.size (2 * b + v9) (n + 1)) (cwI 2 hts gX6_append_X5_init rfl rfl rfl (hts (.initialized RX5) (by decide +kernel)) (hts (.methodLink RX6 32 yX5_init) (by decide +kernel)) (hts (.instanceMethod yX5_init) (by decide +kernel)) rfl (by decide +kernel) ⟨Nat.le_of_ble_eq_true rfl, Nat.le_of_ble_eq_true rfl⟩) ⟨P1_blind, P1_mk hKK (⟨rfl, hPc, hDc⟩)⟩ rfl rfl hl.1 rfl (lv_room (Nat.le_of_ble_eq_true rfl)) dX6_append_51 ⟨(show 1 + 0 ≤ 2 by omega), (show 2 + 0 ≤ 5 by omega)⟩) hS.2.2 hFc (fun v H1 locs1 hR hL1 => ?_)
      obtain ⟨rfl, hq51, hP1, hD1, hF1⟩ := hR
      obtain ⟨hP, hD⟩ := va_join (wr := [(xa, .inr (5, [.ref hi, .ref ci, .ref st])), (hi, .inr (1, [.ref ra, .int (iZ nx), .int (iZ kp)])), (ra, .inl (cy 2, 6, .inr (.inr (.inr (.inr (qf rw9))))))]) (w1 := [(n32_1, .inr (4, [.long (lZ (2 * b + v9)), .int (iZ (n + 1))]))]) hP hD [3] [0, 1, 2] rfl rfl (by decide) (by decide) hF1.2 hFc hP1 hD1
      have hS : va_S A s.heap H1 locs1 := Fh.S ((Fh.of hS).tr hF1 (fun q _ h => hFc q h)) hL1
      clear hPc hDc hFc hP1 hD1 hF1 hL1
      generalize H1 = H at hP hS ⊢
      have hP : va_P G vwCl [(xa, .inr (5, [.ref hi, .ref ci, .ref st])), (hi, .inr (1, [.ref ra, .int (iZ nx), .int (iZ kp)])), (ra, .inl (cy 2, 6, .inr (.inr (.inr (.inr (qf rw9)))))), (n32_1, .inr (4, [.long (lZ (2 * b + v9)), .int (iZ (n + 1))]))] H := hP
      have hD : va_D A [(xa, .inr (5, [.ref hi, .ref ci, .ref st])), (hi, .inr (1, [.ref ra, .int (iZ nx), .int (iZ kp)])), (ra, .inl (cy 2, 6, .inr (.inr (.inr (.inr (qf rw9)))))), (n32_1, .inr (4, [.long (lZ (2 * b + v9)), .int (iZ (n + 1))]))] := hD
      have hP := hP.sub (ws' := [(xa, .inr (5, [.ref hi, .ref ci, .ref st])), (hi, .inr (1, [.ref ra, .int (iZ nx), .int (iZ kp)])), (ra, .inl (cy 2, 6, .inr (.inr (.inr (.inr (qf rw9)))))), (n32_1, .inr (4, [.long (lZ (2 * b + v9)), .int (iZ (n + 1))]))]) [0, 1, 2, 3] rfl
      have hD := hD.sub (ws' := [(xa, .inr (5, [.ref hi, .ref ci, .ref st])), (hi, .inr (1, [.ref ra, .int (iZ nx), .int (iZ kp)])), (ra, .inl (cy 2, 6, .inr (.inr (.inr (.inr (qf rw9)))))), (n32_1, .inr (4, [.long (lZ (2 * b + v9)), .int (iZ (n + 1))]))]) [0, 1, 2, 3] (by decide) rfl
      refine W.eq (g2 := F0 mt 54 ls [.ref n32_1, .ref xa]) rfl ?_
      have hI : va_P G vwCl [(st, .inr (3, [.ref sl, .ref wo])), (sl, .inr (2, [.int (iZ p), .int (iZ q), .int (iZ c)])), (wo, .inr (4, [.long (lZ b), .int (iZ n)]))] H := im_keep2 hI0 hIA (Fh.of hS)
      have hPc := hP.sub (ws' := [(xa, .inr (5, [.ref hi, .ref ci, .ref st])), (hi, .inr (1, [.ref ra, .int (iZ nx), .int (iZ kp)])), (ra, .inl (cy 2, 6, .inr (.inr (.inr (.inr (qf rw9))))))]) [0, 1, 2] rfl
      have hDc := (hD.sub (ws' := [(xa, .inr (5, [.ref hi, .ref ci, .ref st])), (hi, .inr (1, [.ref ra, .int (iZ nx), .int (iZ kp)])), (ra, .inl (cy 2, 6, .inr (.inr (.inr (.inr (qf rw9))))))]) [0, 1, 2] (by decide) rfl).weaken (B := fun _ => True) (fun _ _ _ _ => trivial)
      have hFc := va_free (wc := [(xa, .inr (5, [.ref hi, .ref ci, .ref st])), (hi, .inr (1, [.ref ra, .int (iZ nx), .int (iZ kp)])), (ra, .inl (cy 2, 6, .inr (.inr (.inr (.inr (qf rw9))))))]) hD hS hA [0, 1, 2] rfl
      have hIc : va_P G vwCl [(st, .inr (3, [.ref sl, .ref wo]))] H := (hI.sub (ws' := [(st, .inr (3, [.ref sl, .ref wo]))]) [0] rfl)
      have hIAc : NA (va_A [(xa, .inr (5, [.ref hi, .ref ci, .ref st])), (hi, .inr (1, [.ref ra, .int (iZ nx), .int (iZ kp)])), (ra, .inl (cy 2, 6, .inr (.inr (.inr (.inr (qf rw9))))))] H.size) [(st, .inr (3, [.ref sl, .ref wo]))] := NA.cons (fun z => hIA.at 0 rfl (hFc _ z)) (NA.nil)
      refine z_callE (A := A) (va_runV (As := [.ref n32_1]) (rest := []) ⟨hx, hb, hml, hown, hts⟩ (c_X6_changeWord lau G cy xa hi ci st ra sl wo n32_1 H.size nx kp rw9 (by first | omega | assumption) (by first | omega | assumption)) (cwV 1 hts gX6_append_X6_changeWord rfl rfl rfl (by decide +kernel) ⟨Nat.le_of_ble_eq_true rfl, Nat.le_of_ble_eq_true rfl⟩) ⟨P1_blind, va_recv hK hP (ci := 5) (q0 := 0) rfl rfl, P1_mk hKK (⟨rfl, hPc, hDc, hIc, hIAc⟩)⟩ rfl rfl hl.1 rfl (lv_room (Nat.le_of_ble_eq_true rfl)) dX6_append_54 ⟨(show 1 + 1 ≤ 2 by omega), (show 2 + 2 ≤ 5 by omega)⟩) hS.2.2 hFc (fun v H1 locs1 hR hL1 => ?_)
      obtain ⟨ns_54, rfl, hq54, hP1, hD1, hF1⟩ := hR
      obtain ⟨hP, hD⟩ := va_join (wr := [(n32_1, .inr (4, [.long (lZ (2 * b + v9)), .int (iZ (n + 1))]))]) (w1 := [(xa, .inr (5, [.ref hi, .ref ci, .ref ns_54])), (hi, .inr (1, [.ref ra, .int (iZ (nxF nx)), .int (iZ (kpF kp))])), (ra, .inl (cy 2, 6, .inr (.inr (.inr (.inr (qf (upq rw9 nx (some st)))))))), (ns_54, .inr (3, [.ref sl, .ref n32_1]))]) hP hD [0, 1, 2] [3] rfl rfl (by decide) (by decide) hF1.2 hFc hP1 hD1
      have hS : va_S A s.heap H1 locs1 := Fh.S ((Fh.of hS).tr hF1 (fun q _ h => hFc q h)) hL1
      clear hPc hDc hFc hP1 hD1 hF1 hL1 hIc hIAc
      generalize H1 = H at hP hS ⊢
      have hP : va_P G vwCl [(n32_1, .inr (4, [.long (lZ (2 * b + v9)), .int (iZ (n + 1))])), (xa, .inr (5, [.ref hi, .ref ci, .ref ns_54])), (hi, .inr (1, [.ref ra, .int (iZ (nxF nx)), .int (iZ (kpF kp))])), (ra, .inl (cy 2, 6, .inr (.inr (.inr (.inr (qf (upq rw9 nx (some st)))))))), (ns_54, .inr (3, [.ref sl, .ref n32_1]))] H := hP
      have hD : va_D A [(n32_1, .inr (4, [.long (lZ (2 * b + v9)), .int (iZ (n + 1))])), (xa, .inr (5, [.ref hi, .ref ci, .ref ns_54])), (hi, .inr (1, [.ref ra, .int (iZ (nxF nx)), .int (iZ (kpF kp))])), (ra, .inl (cy 2, 6, .inr (.inr (.inr (.inr (qf (upq rw9 nx (some st)))))))), (ns_54, .inr (3, [.ref sl, .ref n32_1]))] := hD
      refine W.eq (g2 := F0 mt 57 ls []) rfl ?_
      have hI : va_P G vwCl [(st, .inr (3, [.ref sl, .ref wo])), (sl, .inr (2, [.int (iZ p), .int (iZ q), .int (iZ c)])), (wo, .inr (4, [.long (lZ b), .int (iZ n)]))] H := im_keep2 hI0 hIA (Fh.of hS)
      refine lv_aload_n hx hb dX6_append_57 rfl (lv_at hl 0 rfl) ?_
      refine va_getN (D := G) (ci := 4) (v := .int (iZ n)) (C := RX5) (T := TX5) (N := 2) hx hb hts (by decide +kernel) hown hK hI 2 rfl rfl 1 (by decide) (va_Nw.use rfl (hKK.2 (.fieldLinkNest RX6 93 "SturmianWords$Word" "size" "I" "SturmianWords") (by decide +kernel))) (fun _ h9 => h9) rfl dX6_append_58 ?_
      refine lv_iconst (v := iZ 1) hx hb dX6_append_61 rfl ?_
      refine z_iadd hx hb dX6_append_62 ?_
      have hP := hP.sub (ws' := [(xa, .inr (5, [.ref hi, .ref ci, .ref ns_54])), (hi, .inr (1, [.ref ra, .int (iZ (nxF nx)), .int (iZ (kpF kp))])), (ra, .inl (cy 2, 6, .inr (.inr (.inr (.inr (qf (upq rw9 nx (some st)))))))), (ns_54, .inr (3, [.ref sl, .ref n32_1])), (n32_1, .inr (4, [.long (lZ (2 * b + v9)), .int (iZ (n + 1))]))]) [1, 2, 3, 4, 0] rfl
      have hD := hD.sub (ws' := [(xa, .inr (5, [.ref hi, .ref ci, .ref ns_54])), (hi, .inr (1, [.ref ra, .int (iZ (nxF nx)), .int (iZ (kpF kp))])), (ra, .inl (cy 2, 6, .inr (.inr (.inr (.inr (qf (upq rw9 nx (some st)))))))), (ns_54, .inr (3, [.ref sl, .ref n32_1])), (n32_1, .inr (4, [.long (lZ (2 * b + v9)), .int (iZ (n + 1))]))]) [1, 2, 3, 4, 0] (by decide) rfl
      exact z_iretE hx hb hr hlocks dX6_append_63 hS.2.2 ⟨(show 2 ≤ 2 by omega), (show 4 ≤ 5 by omega)⟩ ⟨ns_54, n32_1, (rfl), (trivial), (hP), (hD), Fh.of hS⟩
    · exfalso; omega
  · refine lv_iload_n hx hb dX6_append_4 rfl (lv_at hl 1 rfl) ?_
    refine lv_iconst (v := iZ 1) hx hb dX6_append_5 rfl ?_
    refine z_icmp_eq (tgt := 11) hx hb dX6_append_6 (by decide) (by omega) (fun c_6 => ?_) (fun c_6 => ?_)
    · refine lv_aload_n hx hb dX6_append_11 rfl (lv_at hl 0 rfl) ?_
      refine va_get (D := G) (ci := 5) (v := .ref st) (C := RX6) (T := TX6) (N := 3) hx hb hts (by decide +kernel) hown hK hP 0 rfl rfl 2 (by decide) (hts (.fieldLink RX6 38 "SturmianWords" "state" "LSturmianWords$State;") (by decide +kernel)) (fun _ h9 => h9) rfl dX6_append_12 ?_
      refine va_getN (D := G) (ci := 3) (v := .ref wo) (C := RX4) (T := TX4) (N := 2) hx hb hts (by decide +kernel) hown hK hI 0 rfl rfl 1 (by decide) (va_Nw.use rfl (hKK.2 (.fieldLinkNest RX6 96 "SturmianWords$State" "word" "LSturmianWords$Word;" "SturmianWords") (by decide +kernel))) (fun _ h9 => h9) rfl dX6_append_15 ?_
      refine lv_astore_n (lv' := [(2, .ref wo), (0, .ref xa), (1, .int (iZ v9))]) hx hb dX6_append_18 rfl hl (by decide) rfl (fun ls hl => ?_)
      refine lv_aload_n hx hb dX6_append_19 rfl (lv_at hl 0 rfl) ?_
      refine va_getN (D := G) (ci := 4) (v := .int (iZ n)) (C := RX5) (T := TX5) (N := 2) hx hb hts (by decide +kernel) hown hK hI 2 rfl rfl 1 (by decide) (va_Nw.use rfl (hKK.2 (.fieldLinkNest RX6 93 "SturmianWords$Word" "size" "I" "SturmianWords") (by decide +kernel))) (fun _ h9 => h9) rfl dX6_append_20 ?_
      refine lv_bipush (v := iZ 60) hx hb dX6_append_23 (by decide +kernel) ?_
      refine z_icmp_lt (tgt := 31) hx hb dX6_append_25 (by decide) (by omega) (fun c_25 => ?_) (fun c_25 => ?_)
      · refine lv_aload_n hx hb dX6_append_31 rfl (lv_at hl 1 rfl) ?_
        refine va_new (D := G) (ci := 4) (fs := [.long (lZ 0), .int (iZ 0)]) (C := RX5) (T := TX5) (N := 2) hx hb hts (by decide +kernel) tyX5 tyX5_ok hown (hts (.classLink RX6 30 RX5) (by decide +kernel)) (hts (.instantiable RX5 2) (by decide +kernel)) (hts (.initialized RX5) (by decide +kernel)) hK hP hD hS hA rfl (fun j hj => by rcases (show j = 0 ∨ j = 1 by omega) with rfl | rfl <;> rfl) (show 0 + 1 ≤ 2 by omega) (show 0 + 2 ≤ 5 by omega) dX6_append_32 (fun n32_2 H hP hD hS => ?_)
        have hP : va_P G vwCl [(xa, .inr (5, [.ref hi, .ref ci, .ref st])), (hi, .inr (1, [.ref ra, .int (iZ nx), .int (iZ kp)])), (ra, .inl (cy 2, 6, .inr (.inr (.inr (.inr (qf rw9)))))), (n32_2, .inr (4, [.long (lZ 0), .int (iZ 0)]))] H := hP
        have hD : va_D A [(xa, .inr (5, [.ref hi, .ref ci, .ref st])), (hi, .inr (1, [.ref ra, .int (iZ nx), .int (iZ kp)])), (ra, .inl (cy 2, 6, .inr (.inr (.inr (.inr (qf rw9)))))), (n32_2, .inr (4, [.long (lZ 0), .int (iZ 0)]))] := hD
        have hI : va_P G vwCl [(st, .inr (3, [.ref sl, .ref wo])), (sl, .inr (2, [.int (iZ p), .int (iZ q), .int (iZ c)])), (wo, .inr (4, [.long (lZ b), .int (iZ n)]))] H := im_keep2 hI0 hIA (Fh.of hS)
        refine lv_dup hx hb dX6_append_35 rfl ?_
        refine lv_aload_n hx hb dX6_append_36 rfl (lv_at hl 0 rfl) ?_
        refine va_getN (D := G) (ci := 4) (v := .long (lZ b)) (C := RX5) (T := TX5) (N := 2) hx hb hts (by decide +kernel) hown hK hI 2 rfl rfl 0 (by decide) (va_Nw.use rfl (hKK.2 (.fieldLinkNest RX6 100 "SturmianWords$Word" "bits" "J" "SturmianWords") (by decide +kernel))) (fun _ h9 => h9) rfl dX6_append_37 ?_
        refine lv_iconst (v := iZ 1) hx hb dX6_append_40 rfl ?_
        refine z_lshl hx hb dX6_append_41 (by omega) ?_
        refine lv_iload_n hx hb dX6_append_42 rfl (lv_at hl 2 rfl) ?_
        refine z_i2l hx hb dX6_append_43 (by omega) ?_
        have hlo : b * pw 1 = b * 2 := by rw [pw_1]
        have hp1 : pw 1 = 2 := rfl
        refine z_lor (k := 1) hx hb dX6_append_44 (by omega) ?_
        refine z_topl (b := (2 * b + v9)) (by rw [pw_1]; omega) ?_
        refine lv_aload_n hx hb dX6_append_45 rfl (lv_at hl 0 rfl) ?_
        refine va_getN (D := G) (ci := 4) (v := .int (iZ n)) (C := RX5) (T := TX5) (N := 2) hx hb hts (by decide +kernel) hown hK hI 2 rfl rfl 1 (by decide) (va_Nw.use rfl (hKK.2 (.fieldLinkNest RX6 93 "SturmianWords$Word" "size" "I" "SturmianWords") (by decide +kernel))) (fun _ h9 => h9) rfl dX6_append_46 ?_
        refine lv_iconst (v := iZ 1) hx hb dX6_append_49 rfl ?_
        refine z_iadd hx hb dX6_append_50 ?_
        have hPc := hP.sub (ws' := [(n32_2, .inr (4, [.long (lZ 0), .int (iZ 0)]))]) [3] rfl
        have hDc := (hD.sub (ws' := [(n32_2, .inr (4, [.long (lZ 0), .int (iZ 0)]))]) [3] (by decide) rfl).weaken (B := fun _ => True) (fun _ _ _ _ => trivial)
        have hFc := va_free (wc := [(n32_2, .inr (4, [.long (lZ 0), .int (iZ 0)]))]) hD hS hA [3] rfl
        refine z_callE (A := A) (va_runI (As := [.long (lZ (2 * b + v9)), .int (iZ (n + 1))]) (rest := [.ref n32_2, .ref xa]) ⟨hx, hb, hml, hown, hts⟩ (c_X5_init lau G cy n32_2 H.size (2 * b + v9) (n + 1)) (cwI 2 hts gX6_append_X5_init rfl rfl rfl (hts (.initialized RX5) (by decide +kernel)) (hts (.methodLink RX6 32 yX5_init) (by decide +kernel)) (hts (.instanceMethod yX5_init) (by decide +kernel)) rfl (by decide +kernel) ⟨Nat.le_of_ble_eq_true rfl, Nat.le_of_ble_eq_true rfl⟩) ⟨P1_blind, P1_mk hKK (⟨rfl, hPc, hDc⟩)⟩ rfl rfl hl.1 rfl (lv_room (Nat.le_of_ble_eq_true rfl)) dX6_append_51 ⟨(show 1 + 0 ≤ 2 by omega), (show 2 + 0 ≤ 5 by omega)⟩) hS.2.2 hFc (fun v H1 locs1 hR hL1 => ?_)
        obtain ⟨rfl, hq51, hP1, hD1, hF1⟩ := hR
        obtain ⟨hP, hD⟩ := va_join (wr := [(xa, .inr (5, [.ref hi, .ref ci, .ref st])), (hi, .inr (1, [.ref ra, .int (iZ nx), .int (iZ kp)])), (ra, .inl (cy 2, 6, .inr (.inr (.inr (.inr (qf rw9))))))]) (w1 := [(n32_2, .inr (4, [.long (lZ (2 * b + v9)), .int (iZ (n + 1))]))]) hP hD [3] [0, 1, 2] rfl rfl (by decide) (by decide) hF1.2 hFc hP1 hD1
        have hS : va_S A s.heap H1 locs1 := Fh.S ((Fh.of hS).tr hF1 (fun q _ h => hFc q h)) hL1
        clear hPc hDc hFc hP1 hD1 hF1 hL1
        generalize H1 = H at hP hS ⊢
        have hP : va_P G vwCl [(xa, .inr (5, [.ref hi, .ref ci, .ref st])), (hi, .inr (1, [.ref ra, .int (iZ nx), .int (iZ kp)])), (ra, .inl (cy 2, 6, .inr (.inr (.inr (.inr (qf rw9)))))), (n32_2, .inr (4, [.long (lZ (2 * b + v9)), .int (iZ (n + 1))]))] H := hP
        have hD : va_D A [(xa, .inr (5, [.ref hi, .ref ci, .ref st])), (hi, .inr (1, [.ref ra, .int (iZ nx), .int (iZ kp)])), (ra, .inl (cy 2, 6, .inr (.inr (.inr (.inr (qf rw9)))))), (n32_2, .inr (4, [.long (lZ (2 * b + v9)), .int (iZ (n + 1))]))] := hD
        have hP := hP.sub (ws' := [(xa, .inr (5, [.ref hi, .ref ci, .ref st])), (hi, .inr (1, [.ref ra, .int (iZ nx), .int (iZ kp)])), (ra, .inl (cy 2, 6, .inr (.inr (.inr (.inr (qf rw9)))))), (n32_2, .inr (4, [.long (lZ (2 * b + v9)), .int (iZ (n + 1))]))]) [0, 1, 2, 3] rfl
        have hD := hD.sub (ws' := [(xa, .inr (5, [.ref hi, .ref ci, .ref st])), (hi, .inr (1, [.ref ra, .int (iZ nx), .int (iZ kp)])), (ra, .inl (cy 2, 6, .inr (.inr (.inr (.inr (qf rw9)))))), (n32_2, .inr (4, [.long (lZ (2 * b + v9)), .int (iZ (n + 1))]))]) [0, 1, 2, 3] (by decide) rfl
        refine W.eq (g2 := F0 mt 54 ls [.ref n32_2, .ref xa]) rfl ?_
        have hI : va_P G vwCl [(st, .inr (3, [.ref sl, .ref wo])), (sl, .inr (2, [.int (iZ p), .int (iZ q), .int (iZ c)])), (wo, .inr (4, [.long (lZ b), .int (iZ n)]))] H := im_keep2 hI0 hIA (Fh.of hS)
        have hPc := hP.sub (ws' := [(xa, .inr (5, [.ref hi, .ref ci, .ref st])), (hi, .inr (1, [.ref ra, .int (iZ nx), .int (iZ kp)])), (ra, .inl (cy 2, 6, .inr (.inr (.inr (.inr (qf rw9))))))]) [0, 1, 2] rfl
        have hDc := (hD.sub (ws' := [(xa, .inr (5, [.ref hi, .ref ci, .ref st])), (hi, .inr (1, [.ref ra, .int (iZ nx), .int (iZ kp)])), (ra, .inl (cy 2, 6, .inr (.inr (.inr (.inr (qf rw9))))))]) [0, 1, 2] (by decide) rfl).weaken (B := fun _ => True) (fun _ _ _ _ => trivial)
        have hFc := va_free (wc := [(xa, .inr (5, [.ref hi, .ref ci, .ref st])), (hi, .inr (1, [.ref ra, .int (iZ nx), .int (iZ kp)])), (ra, .inl (cy 2, 6, .inr (.inr (.inr (.inr (qf rw9))))))]) hD hS hA [0, 1, 2] rfl
        have hIc : va_P G vwCl [(st, .inr (3, [.ref sl, .ref wo]))] H := (hI.sub (ws' := [(st, .inr (3, [.ref sl, .ref wo]))]) [0] rfl)
        have hIAc : NA (va_A [(xa, .inr (5, [.ref hi, .ref ci, .ref st])), (hi, .inr (1, [.ref ra, .int (iZ nx), .int (iZ kp)])), (ra, .inl (cy 2, 6, .inr (.inr (.inr (.inr (qf rw9))))))] H.size) [(st, .inr (3, [.ref sl, .ref wo]))] := NA.cons (fun z => hIA.at 0 rfl (hFc _ z)) (NA.nil)
        refine z_callE (A := A) (va_runV (As := [.ref n32_2]) (rest := []) ⟨hx, hb, hml, hown, hts⟩ (c_X6_changeWord lau G cy xa hi ci st ra sl wo n32_2 H.size nx kp rw9 (by first | omega | assumption) (by first | omega | assumption)) (cwV 1 hts gX6_append_X6_changeWord rfl rfl rfl (by decide +kernel) ⟨Nat.le_of_ble_eq_true rfl, Nat.le_of_ble_eq_true rfl⟩) ⟨P1_blind, va_recv hK hP (ci := 5) (q0 := 0) rfl rfl, P1_mk hKK (⟨rfl, hPc, hDc, hIc, hIAc⟩)⟩ rfl rfl hl.1 rfl (lv_room (Nat.le_of_ble_eq_true rfl)) dX6_append_54 ⟨(show 1 + 1 ≤ 2 by omega), (show 2 + 2 ≤ 5 by omega)⟩) hS.2.2 hFc (fun v H1 locs1 hR hL1 => ?_)
        obtain ⟨ns_54, rfl, hq54, hP1, hD1, hF1⟩ := hR
        obtain ⟨hP, hD⟩ := va_join (wr := [(n32_2, .inr (4, [.long (lZ (2 * b + v9)), .int (iZ (n + 1))]))]) (w1 := [(xa, .inr (5, [.ref hi, .ref ci, .ref ns_54])), (hi, .inr (1, [.ref ra, .int (iZ (nxF nx)), .int (iZ (kpF kp))])), (ra, .inl (cy 2, 6, .inr (.inr (.inr (.inr (qf (upq rw9 nx (some st)))))))), (ns_54, .inr (3, [.ref sl, .ref n32_2]))]) hP hD [0, 1, 2] [3] rfl rfl (by decide) (by decide) hF1.2 hFc hP1 hD1
        have hS : va_S A s.heap H1 locs1 := Fh.S ((Fh.of hS).tr hF1 (fun q _ h => hFc q h)) hL1
        clear hPc hDc hFc hP1 hD1 hF1 hL1 hIc hIAc
        generalize H1 = H at hP hS ⊢
        have hP : va_P G vwCl [(n32_2, .inr (4, [.long (lZ (2 * b + v9)), .int (iZ (n + 1))])), (xa, .inr (5, [.ref hi, .ref ci, .ref ns_54])), (hi, .inr (1, [.ref ra, .int (iZ (nxF nx)), .int (iZ (kpF kp))])), (ra, .inl (cy 2, 6, .inr (.inr (.inr (.inr (qf (upq rw9 nx (some st)))))))), (ns_54, .inr (3, [.ref sl, .ref n32_2]))] H := hP
        have hD : va_D A [(n32_2, .inr (4, [.long (lZ (2 * b + v9)), .int (iZ (n + 1))])), (xa, .inr (5, [.ref hi, .ref ci, .ref ns_54])), (hi, .inr (1, [.ref ra, .int (iZ (nxF nx)), .int (iZ (kpF kp))])), (ra, .inl (cy 2, 6, .inr (.inr (.inr (.inr (qf (upq rw9 nx (some st)))))))), (ns_54, .inr (3, [.ref sl, .ref n32_2]))] := hD
        refine W.eq (g2 := F0 mt 57 ls []) rfl ?_
        have hI : va_P G vwCl [(st, .inr (3, [.ref sl, .ref wo])), (sl, .inr (2, [.int (iZ p), .int (iZ q), .int (iZ c)])), (wo, .inr (4, [.long (lZ b), .int (iZ n)]))] H := im_keep2 hI0 hIA (Fh.of hS)
        refine lv_aload_n hx hb dX6_append_57 rfl (lv_at hl 0 rfl) ?_
        refine va_getN (D := G) (ci := 4) (v := .int (iZ n)) (C := RX5) (T := TX5) (N := 2) hx hb hts (by decide +kernel) hown hK hI 2 rfl rfl 1 (by decide) (va_Nw.use rfl (hKK.2 (.fieldLinkNest RX6 93 "SturmianWords$Word" "size" "I" "SturmianWords") (by decide +kernel))) (fun _ h9 => h9) rfl dX6_append_58 ?_
        refine lv_iconst (v := iZ 1) hx hb dX6_append_61 rfl ?_
        refine z_iadd hx hb dX6_append_62 ?_
        have hP := hP.sub (ws' := [(xa, .inr (5, [.ref hi, .ref ci, .ref ns_54])), (hi, .inr (1, [.ref ra, .int (iZ (nxF nx)), .int (iZ (kpF kp))])), (ra, .inl (cy 2, 6, .inr (.inr (.inr (.inr (qf (upq rw9 nx (some st)))))))), (ns_54, .inr (3, [.ref sl, .ref n32_2])), (n32_2, .inr (4, [.long (lZ (2 * b + v9)), .int (iZ (n + 1))]))]) [1, 2, 3, 4, 0] rfl
        have hD := hD.sub (ws' := [(xa, .inr (5, [.ref hi, .ref ci, .ref ns_54])), (hi, .inr (1, [.ref ra, .int (iZ (nxF nx)), .int (iZ (kpF kp))])), (ra, .inl (cy 2, 6, .inr (.inr (.inr (.inr (qf (upq rw9 nx (some st)))))))), (ns_54, .inr (3, [.ref sl, .ref n32_2])), (n32_2, .inr (4, [.long (lZ (2 * b + v9)), .int (iZ (n + 1))]))]) [1, 2, 3, 4, 0] (by decide) rfl
        exact z_iretE hx hb hr hlocks dX6_append_63 hS.2.2 ⟨(show 2 ≤ 2 by omega), (show 4 ≤ 5 by omega)⟩ ⟨ns_54, n32_2, (rfl), (trivial), (hP), (hD), Fh.of hS⟩
      · exfalso; omega
    · exfalso; omega
set_option maxHeartbeats 4000000 in
set_option maxRecDepth 100000 in
theorem c_X6_removeLast_no (lau : Launch) (G : va_G) (cy : Nat → ClassId) (xa hi ci st ra sl wo : Nat) (sz : Nat) (nx kp : Int) (rw9 : Int → Option Nat) (p q c b n : Int) (h3 : n = 0) : Met lau yX6_removeLast wsX6_removeLast ({ frames := 3, cells := 0, slots := 0, locals := 63 }) (P1 G cy [.ref xa] (fun H => H.size = sz ∧ va_P G vwCl [(xa, .inr (5, [.ref hi, .ref ci, .ref st])), (hi, .inr (1, [.ref ra, .int (iZ nx), .int (iZ kp)])), (ra, .inl (cy 2, 6, .inr (.inr (.inr (.inr (qf rw9))))))] H ∧ va_D (fun _ => True) [(xa, .inr (5, [.ref hi, .ref ci, .ref st])), (hi, .inr (1, [.ref ra, .int (iZ nx), .int (iZ kp)])), (ra, .inl (cy 2, 6, .inr (.inr (.inr (.inr (qf rw9))))))] ∧ va_P G vwCl [(st, .inr (3, [.ref sl, .ref wo])), (sl, .inr (2, [.int (iZ p), .int (iZ q), .int (iZ c)])), (wo, .inr (4, [.long (lZ b), .int (iZ n)]))] H ∧ NA (va_A [(xa, .inr (5, [.ref hi, .ref ci, .ref st])), (hi, .inr (1, [.ref ra, .int (iZ nx), .int (iZ kp)])), (ra, .inl (cy 2, 6, .inr (.inr (.inr (.inr (qf rw9))))))] sz) [(st, .inr (3, [.ref sl, .ref wo])), (sl, .inr (2, [.int (iZ p), .int (iZ q), .int (iZ c)])), (wo, .inr (4, [.long (lZ b), .int (iZ n)]))])) (Q1 (fun rv H0 H1 => rv = some (.int (iZ (-3))) ∧ (True) ∧ va_P G vwCl [(xa, .inr (5, [.ref hi, .ref ci, .ref st])), (hi, .inr (1, [.ref ra, .int (iZ nx), .int (iZ kp)])), (ra, .inl (cy 2, 6, .inr (.inr (.inr (.inr (qf rw9))))))] H1 ∧ va_D (va_A [(xa, .inr (5, [.ref hi, .ref ci, .ref st])), (hi, .inr (1, [.ref ra, .int (iZ nx), .int (iZ kp)])), (ra, .inl (cy 2, 6, .inr (.inr (.inr (.inr (qf rw9))))))] sz) [(xa, .inr (5, [.ref hi, .ref ci, .ref st])), (hi, .inr (1, [.ref ra, .int (iZ nx), .int (iZ kp)])), (ra, .inl (cy 2, 6, .inr (.inr (.inr (.inr (qf rw9))))))] ∧ Fh (va_A [(xa, .inr (5, [.ref hi, .ref ci, .ref st])), (hi, .inr (1, [.ref ra, .int (iZ nx), .int (iZ kp)])), (ra, .inl (cy 2, 6, .inr (.inr (.inr (.inr (qf rw9))))))] sz) H0 H1)) 0 0 (va_A [(xa, .inr (5, [.ref hi, .ref ci, .ref st])), (hi, .inr (1, [.ref ra, .int (iZ nx), .int (iZ kp)])), (ra, .inl (cy 2, 6, .inr (.inr (.inr (.inr (qf rw9))))))] sz) := by
  refine z_head (lv := [(0, .ref xa)]) RX6 (by decide) rfl rfl (Nat.le_of_ble_eq_true rfl) rfl ?_
  intro pr ev s mt below meth cd ls hx hb hr hlocks hml hown hname hts hKK hP hl
  have hK := hKK.1
  obtain ⟨hsz, hP, hD0, hI0, hIA⟩ := hP
  subst hsz
  have hD := hD0.self (sz := s.heap.size)
  generalize hAe : va_A [(xa, .inr (5, [.ref hi, .ref ci, .ref st])), (hi, .inr (1, [.ref ra, .int (iZ nx), .int (iZ kp)])), (ra, .inl (cy 2, 6, .inr (.inr (.inr (.inr (qf rw9))))))] s.heap.size = A at hD hIA ⊢
  have hA : ∀ q : Nat, s.heap.size ≤ q → A q := fun q h => by rw [← hAe]; exact Or.inr h
  have hS : va_S A s.heap s.heap [] := va_S.rf
  have hP : va_P G vwCl [(xa, .inr (5, [.ref hi, .ref ci, .ref st])), (hi, .inr (1, [.ref ra, .int (iZ nx), .int (iZ kp)])), (ra, .inl (cy 2, 6, .inr (.inr (.inr (.inr (qf rw9))))))] s.heap := hP
  have hI : va_P G vwCl [(st, .inr (3, [.ref sl, .ref wo])), (sl, .inr (2, [.int (iZ p), .int (iZ q), .int (iZ c)])), (wo, .inr (4, [.long (lZ b), .int (iZ n)]))] s.heap := hI0
  refine lv_aload_n hx hb dX6_removeLast_0 rfl (lv_at hl 0 rfl) ?_
  refine va_get (D := G) (ci := 5) (v := .ref st) (C := RX6) (T := TX6) (N := 3) hx hb hts (by decide +kernel) hown hK hP 0 rfl rfl 2 (by decide) (hts (.fieldLink RX6 38 "SturmianWords" "state" "LSturmianWords$State;") (by decide +kernel)) (fun _ h9 => h9) rfl dX6_removeLast_1 ?_
  refine va_getN (D := G) (ci := 3) (v := .ref wo) (C := RX4) (T := TX4) (N := 2) hx hb hts (by decide +kernel) hown hK hI 0 rfl rfl 1 (by decide) (va_Nw.use rfl (hKK.2 (.fieldLinkNest RX6 96 "SturmianWords$State" "word" "LSturmianWords$Word;" "SturmianWords") (by decide +kernel))) (fun _ h9 => h9) rfl dX6_removeLast_4 ?_
  refine lv_astore_n (lv' := [(1, .ref wo), (0, .ref xa)]) hx hb dX6_removeLast_7 rfl hl (by decide) rfl (fun ls hl => ?_)
  refine lv_aload_n hx hb dX6_removeLast_8 rfl (lv_at hl 0 rfl) ?_
  refine va_getN (D := G) (ci := 4) (v := .int (iZ n)) (C := RX5) (T := TX5) (N := 2) hx hb hts (by decide +kernel) hown hK hI 2 rfl rfl 1 (by decide) (va_Nw.use rfl (hKK.2 (.fieldLinkNest RX6 93 "SturmianWords$Word" "size" "I" "SturmianWords") (by decide +kernel))) (fun _ h9 => h9) rfl dX6_removeLast_9 ?_
  refine lv_iconst (v := iZ 1) hx hb dX6_removeLast_12 rfl ?_
  refine z_icmp_ge (tgt := 19) hx hb dX6_removeLast_13 (by decide) (by omega) (fun c_13 => ?_) (fun c_13 => ?_)
  · exfalso; omega
  · refine lv_bipush (v := iZ (-3)) hx hb dX6_removeLast_16 (by decide +kernel) ?_
    exact z_iretE hx hb hr hlocks dX6_removeLast_18 hS.2.2 ⟨(show 0 ≤ 0 by omega), (show 0 ≤ 0 by omega)⟩ ⟨(rfl), (trivial), (hP), (hD), Fh.of hS⟩
set_option maxHeartbeats 4000000 in
set_option maxRecDepth 100000 in
theorem c_X6_removeLast (lau : Launch) (G : va_G) (cy : Nat → ClassId) (xa hi ci st ra sl wo : Nat) (sz : Nat) (nx kp : Int) (rw9 : Int → Option Nat) (p q c b n : Int) (hnx : 0 ≤ nx ∧ nx < 6) (hkp : 0 ≤ kp ∧ kp ≤ 6) (hn : 0 ≤ n ∧ n ≤ 60) (hb2 : 0 ≤ b ∧ b < 2305843009213693952) (h3 : 0 < n) : Met lau yX6_removeLast wsX6_removeLast ({ frames := 3, cells := 2, slots := 5, locals := 63 }) (P1 G cy [.ref xa] (fun H => H.size = sz ∧ va_P G vwCl [(xa, .inr (5, [.ref hi, .ref ci, .ref st])), (hi, .inr (1, [.ref ra, .int (iZ nx), .int (iZ kp)])), (ra, .inl (cy 2, 6, .inr (.inr (.inr (.inr (qf rw9))))))] H ∧ va_D (fun _ => True) [(xa, .inr (5, [.ref hi, .ref ci, .ref st])), (hi, .inr (1, [.ref ra, .int (iZ nx), .int (iZ kp)])), (ra, .inl (cy 2, 6, .inr (.inr (.inr (.inr (qf rw9))))))] ∧ va_P G vwCl [(st, .inr (3, [.ref sl, .ref wo])), (sl, .inr (2, [.int (iZ p), .int (iZ q), .int (iZ c)])), (wo, .inr (4, [.long (lZ b), .int (iZ n)]))] H ∧ NA (va_A [(xa, .inr (5, [.ref hi, .ref ci, .ref st])), (hi, .inr (1, [.ref ra, .int (iZ nx), .int (iZ kp)])), (ra, .inl (cy 2, 6, .inr (.inr (.inr (.inr (qf rw9))))))] sz) [(st, .inr (3, [.ref sl, .ref wo])), (sl, .inr (2, [.int (iZ p), .int (iZ q), .int (iZ c)])), (wo, .inr (4, [.long (lZ b), .int (iZ n)]))])) (Q1 (fun rv H0 H1 => ∃ (ns nq : Nat), rv = some (.int (iZ (ltr b n (n - 1)))) ∧ (True) ∧ va_P G vwCl [(xa, .inr (5, [.ref hi, .ref ci, .ref ns])), (hi, .inr (1, [.ref ra, .int (iZ (nxF nx)), .int (iZ (kpF kp))])), (ra, .inl (cy 2, 6, .inr (.inr (.inr (.inr (qf (upq rw9 nx (some st)))))))), (ns, .inr (3, [.ref sl, .ref nq])), (nq, .inr (4, [.long (lZ (b / 2)), .int (iZ (n - 1))]))] H1 ∧ va_D (va_A [(xa, .inr (5, [.ref hi, .ref ci, .ref st])), (hi, .inr (1, [.ref ra, .int (iZ nx), .int (iZ kp)])), (ra, .inl (cy 2, 6, .inr (.inr (.inr (.inr (qf rw9))))))] sz) [(xa, .inr (5, [.ref hi, .ref ci, .ref ns])), (hi, .inr (1, [.ref ra, .int (iZ (nxF nx)), .int (iZ (kpF kp))])), (ra, .inl (cy 2, 6, .inr (.inr (.inr (.inr (qf (upq rw9 nx (some st)))))))), (ns, .inr (3, [.ref sl, .ref nq])), (nq, .inr (4, [.long (lZ (b / 2)), .int (iZ (n - 1))]))] ∧ Fh (va_A [(xa, .inr (5, [.ref hi, .ref ci, .ref st])), (hi, .inr (1, [.ref ra, .int (iZ nx), .int (iZ kp)])), (ra, .inl (cy 2, 6, .inr (.inr (.inr (.inr (qf rw9))))))] sz) H0 H1)) 2 5 (va_A [(xa, .inr (5, [.ref hi, .ref ci, .ref st])), (hi, .inr (1, [.ref ra, .int (iZ nx), .int (iZ kp)])), (ra, .inl (cy 2, 6, .inr (.inr (.inr (.inr (qf rw9))))))] sz) := by
  refine z_head (lv := [(0, .ref xa)]) RX6 (by decide) rfl rfl (Nat.le_of_ble_eq_true rfl) rfl ?_
  intro pr ev s mt below meth cd ls hx hb hr hlocks hml hown hname hts hKK hP hl
  have hK := hKK.1
  obtain ⟨hsz, hP, hD0, hI0, hIA⟩ := hP
  subst hsz
  have hD := hD0.self (sz := s.heap.size)
  generalize hAe : va_A [(xa, .inr (5, [.ref hi, .ref ci, .ref st])), (hi, .inr (1, [.ref ra, .int (iZ nx), .int (iZ kp)])), (ra, .inl (cy 2, 6, .inr (.inr (.inr (.inr (qf rw9))))))] s.heap.size = A at hD hIA ⊢
  have hA : ∀ q : Nat, s.heap.size ≤ q → A q := fun q h => by rw [← hAe]; exact Or.inr h
  have hS : va_S A s.heap s.heap [] := va_S.rf
  have hP : va_P G vwCl [(xa, .inr (5, [.ref hi, .ref ci, .ref st])), (hi, .inr (1, [.ref ra, .int (iZ nx), .int (iZ kp)])), (ra, .inl (cy 2, 6, .inr (.inr (.inr (.inr (qf rw9))))))] s.heap := hP
  have hI : va_P G vwCl [(st, .inr (3, [.ref sl, .ref wo])), (sl, .inr (2, [.int (iZ p), .int (iZ q), .int (iZ c)])), (wo, .inr (4, [.long (lZ b), .int (iZ n)]))] s.heap := hI0
  refine lv_aload_n hx hb dX6_removeLast_0 rfl (lv_at hl 0 rfl) ?_
  refine va_get (D := G) (ci := 5) (v := .ref st) (C := RX6) (T := TX6) (N := 3) hx hb hts (by decide +kernel) hown hK hP 0 rfl rfl 2 (by decide) (hts (.fieldLink RX6 38 "SturmianWords" "state" "LSturmianWords$State;") (by decide +kernel)) (fun _ h9 => h9) rfl dX6_removeLast_1 ?_
  refine va_getN (D := G) (ci := 3) (v := .ref wo) (C := RX4) (T := TX4) (N := 2) hx hb hts (by decide +kernel) hown hK hI 0 rfl rfl 1 (by decide) (va_Nw.use rfl (hKK.2 (.fieldLinkNest RX6 96 "SturmianWords$State" "word" "LSturmianWords$Word;" "SturmianWords") (by decide +kernel))) (fun _ h9 => h9) rfl dX6_removeLast_4 ?_
  refine lv_astore_n (lv' := [(1, .ref wo), (0, .ref xa)]) hx hb dX6_removeLast_7 rfl hl (by decide) rfl (fun ls hl => ?_)
  refine lv_aload_n hx hb dX6_removeLast_8 rfl (lv_at hl 0 rfl) ?_
  refine va_getN (D := G) (ci := 4) (v := .int (iZ n)) (C := RX5) (T := TX5) (N := 2) hx hb hts (by decide +kernel) hown hK hI 2 rfl rfl 1 (by decide) (va_Nw.use rfl (hKK.2 (.fieldLinkNest RX6 93 "SturmianWords$Word" "size" "I" "SturmianWords") (by decide +kernel))) (fun _ h9 => h9) rfl dX6_removeLast_9 ?_
  refine lv_iconst (v := iZ 1) hx hb dX6_removeLast_12 rfl ?_
  refine z_icmp_ge (tgt := 19) hx hb dX6_removeLast_13 (by decide) (by omega) (fun c_13 => ?_) (fun c_13 => ?_)
  · refine lv_aload_n hx hb dX6_removeLast_19 rfl (lv_at hl 1 rfl) ?_
    refine va_new (D := G) (ci := 4) (fs := [.long (lZ 0), .int (iZ 0)]) (C := RX5) (T := TX5) (N := 2) hx hb hts (by decide +kernel) tyX5 tyX5_ok hown (hts (.classLink RX6 30 RX5) (by decide +kernel)) (hts (.instantiable RX5 2) (by decide +kernel)) (hts (.initialized RX5) (by decide +kernel)) hK hP hD hS hA rfl (fun j hj => by rcases (show j = 0 ∨ j = 1 by omega) with rfl | rfl <;> rfl) (show 0 + 1 ≤ 2 by omega) (show 0 + 2 ≤ 5 by omega) dX6_removeLast_20 (fun n20_1 H hP hD hS => ?_)
    have hP : va_P G vwCl [(xa, .inr (5, [.ref hi, .ref ci, .ref st])), (hi, .inr (1, [.ref ra, .int (iZ nx), .int (iZ kp)])), (ra, .inl (cy 2, 6, .inr (.inr (.inr (.inr (qf rw9)))))), (n20_1, .inr (4, [.long (lZ 0), .int (iZ 0)]))] H := hP
    have hD : va_D A [(xa, .inr (5, [.ref hi, .ref ci, .ref st])), (hi, .inr (1, [.ref ra, .int (iZ nx), .int (iZ kp)])), (ra, .inl (cy 2, 6, .inr (.inr (.inr (.inr (qf rw9)))))), (n20_1, .inr (4, [.long (lZ 0), .int (iZ 0)]))] := hD
    have hI : va_P G vwCl [(st, .inr (3, [.ref sl, .ref wo])), (sl, .inr (2, [.int (iZ p), .int (iZ q), .int (iZ c)])), (wo, .inr (4, [.long (lZ b), .int (iZ n)]))] H := im_keep2 hI0 hIA (Fh.of hS)
    refine lv_dup hx hb dX6_removeLast_23 rfl ?_
    refine lv_aload_n hx hb dX6_removeLast_24 rfl (lv_at hl 0 rfl) ?_
    refine va_getN (D := G) (ci := 4) (v := .long (lZ b)) (C := RX5) (T := TX5) (N := 2) hx hb hts (by decide +kernel) hown hK hI 2 rfl rfl 0 (by decide) (va_Nw.use rfl (hKK.2 (.fieldLinkNest RX6 100 "SturmianWords$Word" "bits" "J" "SturmianWords") (by decide +kernel))) (fun _ h9 => h9) rfl dX6_removeLast_25 ?_
    refine lv_iconst (v := iZ 1) hx hb dX6_removeLast_28 rfl ?_
    refine z_lushr hx hb dX6_removeLast_29 (by omega) ?_
    refine z_topl (b := (b / 2)) (by rw [pw_1]) ?_
    refine lv_aload_n hx hb dX6_removeLast_30 rfl (lv_at hl 0 rfl) ?_
    refine va_getN (D := G) (ci := 4) (v := .int (iZ n)) (C := RX5) (T := TX5) (N := 2) hx hb hts (by decide +kernel) hown hK hI 2 rfl rfl 1 (by decide) (va_Nw.use rfl (hKK.2 (.fieldLinkNest RX6 93 "SturmianWords$Word" "size" "I" "SturmianWords") (by decide +kernel))) (fun _ h9 => h9) rfl dX6_removeLast_31 ?_
    refine lv_iconst (v := iZ 1) hx hb dX6_removeLast_34 rfl ?_
    refine z_isub hx hb dX6_removeLast_35 ?_
    have hPc := hP.sub (ws' := [(n20_1, .inr (4, [.long (lZ 0), .int (iZ 0)]))]) [3] rfl
    have hDc := (hD.sub (ws' := [(n20_1, .inr (4, [.long (lZ 0), .int (iZ 0)]))]) [3] (by decide) rfl).weaken (B := fun _ => True) (fun _ _ _ _ => trivial)
    have hFc := va_free (wc := [(n20_1, .inr (4, [.long (lZ 0), .int (iZ 0)]))]) hD hS hA [3] rfl
    refine z_callE (A := A) (va_runI (As := [.long (lZ (b / 2)), .int (iZ (n - 1))]) (rest := [.ref n20_1, .ref xa]) ⟨hx, hb, hml, hown, hts⟩ (c_X5_init lau G cy n20_1 H.size (b / 2) (n - 1)) (cwI 2 hts gX6_removeLast_X5_init rfl rfl rfl (hts (.initialized RX5) (by decide +kernel)) (hts (.methodLink RX6 32 yX5_init) (by decide +kernel)) (hts (.instanceMethod yX5_init) (by decide +kernel)) rfl (by decide +kernel) ⟨Nat.le_of_ble_eq_true rfl, Nat.le_of_ble_eq_true rfl⟩) ⟨P1_blind, P1_mk hKK (⟨rfl, hPc, hDc⟩)⟩ rfl rfl hl.1 rfl (lv_room (Nat.le_of_ble_eq_true rfl)) dX6_removeLast_36 ⟨(show 1 + 0 ≤ 2 by omega), (show 2 + 0 ≤ 5 by omega)⟩) hS.2.2 hFc (fun v H1 locs1 hR hL1 => ?_)
    obtain ⟨rfl, hq36, hP1, hD1, hF1⟩ := hR
    obtain ⟨hP, hD⟩ := va_join (wr := [(xa, .inr (5, [.ref hi, .ref ci, .ref st])), (hi, .inr (1, [.ref ra, .int (iZ nx), .int (iZ kp)])), (ra, .inl (cy 2, 6, .inr (.inr (.inr (.inr (qf rw9))))))]) (w1 := [(n20_1, .inr (4, [.long (lZ (b / 2)), .int (iZ (n - 1))]))]) hP hD [3] [0, 1, 2] rfl rfl (by decide) (by decide) hF1.2 hFc hP1 hD1
    have hS : va_S A s.heap H1 locs1 := Fh.S ((Fh.of hS).tr hF1 (fun q _ h => hFc q h)) hL1
    clear hPc hDc hFc hP1 hD1 hF1 hL1
    generalize H1 = H at hP hS ⊢
    have hP : va_P G vwCl [(xa, .inr (5, [.ref hi, .ref ci, .ref st])), (hi, .inr (1, [.ref ra, .int (iZ nx), .int (iZ kp)])), (ra, .inl (cy 2, 6, .inr (.inr (.inr (.inr (qf rw9)))))), (n20_1, .inr (4, [.long (lZ (b / 2)), .int (iZ (n - 1))]))] H := hP
    have hD : va_D A [(xa, .inr (5, [.ref hi, .ref ci, .ref st])), (hi, .inr (1, [.ref ra, .int (iZ nx), .int (iZ kp)])), (ra, .inl (cy 2, 6, .inr (.inr (.inr (.inr (qf rw9)))))), (n20_1, .inr (4, [.long (lZ (b / 2)), .int (iZ (n - 1))]))] := hD
    have hP := hP.sub (ws' := [(xa, .inr (5, [.ref hi, .ref ci, .ref st])), (hi, .inr (1, [.ref ra, .int (iZ nx), .int (iZ kp)])), (ra, .inl (cy 2, 6, .inr (.inr (.inr (.inr (qf rw9)))))), (n20_1, .inr (4, [.long (lZ (b / 2)), .int (iZ (n - 1))]))]) [0, 1, 2, 3] rfl
    have hD := hD.sub (ws' := [(xa, .inr (5, [.ref hi, .ref ci, .ref st])), (hi, .inr (1, [.ref ra, .int (iZ nx), .int (iZ kp)])), (ra, .inl (cy 2, 6, .inr (.inr (.inr (.inr (qf rw9)))))), (n20_1, .inr (4, [.long (lZ (b / 2)), .int (iZ (n - 1))]))]) [0, 1, 2, 3] (by decide) rfl
    refine W.eq (g2 := F0 mt 39 ls [.ref n20_1, .ref xa]) rfl ?_
    have hI : va_P G vwCl [(st, .inr (3, [.ref sl, .ref wo])), (sl, .inr (2, [.int (iZ p), .int (iZ q), .int (iZ c)])), (wo, .inr (4, [.long (lZ b), .int (iZ n)]))] H := im_keep2 hI0 hIA (Fh.of hS)
    have hPc := hP.sub (ws' := [(xa, .inr (5, [.ref hi, .ref ci, .ref st])), (hi, .inr (1, [.ref ra, .int (iZ nx), .int (iZ kp)])), (ra, .inl (cy 2, 6, .inr (.inr (.inr (.inr (qf rw9))))))]) [0, 1, 2] rfl
    have hDc := (hD.sub (ws' := [(xa, .inr (5, [.ref hi, .ref ci, .ref st])), (hi, .inr (1, [.ref ra, .int (iZ nx), .int (iZ kp)])), (ra, .inl (cy 2, 6, .inr (.inr (.inr (.inr (qf rw9))))))]) [0, 1, 2] (by decide) rfl).weaken (B := fun _ => True) (fun _ _ _ _ => trivial)
    have hFc := va_free (wc := [(xa, .inr (5, [.ref hi, .ref ci, .ref st])), (hi, .inr (1, [.ref ra, .int (iZ nx), .int (iZ kp)])), (ra, .inl (cy 2, 6, .inr (.inr (.inr (.inr (qf rw9))))))]) hD hS hA [0, 1, 2] rfl
    have hIc : va_P G vwCl [(st, .inr (3, [.ref sl, .ref wo]))] H := (hI.sub (ws' := [(st, .inr (3, [.ref sl, .ref wo]))]) [0] rfl)
    have hIAc : NA (va_A [(xa, .inr (5, [.ref hi, .ref ci, .ref st])), (hi, .inr (1, [.ref ra, .int (iZ nx), .int (iZ kp)])), (ra, .inl (cy 2, 6, .inr (.inr (.inr (.inr (qf rw9))))))] H.size) [(st, .inr (3, [.ref sl, .ref wo]))] := NA.cons (fun z => hIA.at 0 rfl (hFc _ z)) (NA.nil)
    refine z_callE (A := A) (va_runV (As := [.ref n20_1]) (rest := []) ⟨hx, hb, hml, hown, hts⟩ (c_X6_changeWord lau G cy xa hi ci st ra sl wo n20_1 H.size nx kp rw9 (by first | omega | assumption) (by first | omega | assumption)) (cwV 1 hts gX6_removeLast_X6_changeWord rfl rfl rfl (by decide +kernel) ⟨Nat.le_of_ble_eq_true rfl, Nat.le_of_ble_eq_true rfl⟩) ⟨P1_blind, va_recv hK hP (ci := 5) (q0 := 0) rfl rfl, P1_mk hKK (⟨rfl, hPc, hDc, hIc, hIAc⟩)⟩ rfl rfl hl.1 rfl (lv_room (Nat.le_of_ble_eq_true rfl)) dX6_removeLast_39 ⟨(show 1 + 1 ≤ 2 by omega), (show 2 + 2 ≤ 5 by omega)⟩) hS.2.2 hFc (fun v H1 locs1 hR hL1 => ?_)
    obtain ⟨ns_39, rfl, hq39, hP1, hD1, hF1⟩ := hR
    obtain ⟨hP, hD⟩ := va_join (wr := [(n20_1, .inr (4, [.long (lZ (b / 2)), .int (iZ (n - 1))]))]) (w1 := [(xa, .inr (5, [.ref hi, .ref ci, .ref ns_39])), (hi, .inr (1, [.ref ra, .int (iZ (nxF nx)), .int (iZ (kpF kp))])), (ra, .inl (cy 2, 6, .inr (.inr (.inr (.inr (qf (upq rw9 nx (some st)))))))), (ns_39, .inr (3, [.ref sl, .ref n20_1]))]) hP hD [0, 1, 2] [3] rfl rfl (by decide) (by decide) hF1.2 hFc hP1 hD1
    have hS : va_S A s.heap H1 locs1 := Fh.S ((Fh.of hS).tr hF1 (fun q _ h => hFc q h)) hL1
    clear hPc hDc hFc hP1 hD1 hF1 hL1 hIc hIAc
    generalize H1 = H at hP hS ⊢
    have hP : va_P G vwCl [(n20_1, .inr (4, [.long (lZ (b / 2)), .int (iZ (n - 1))])), (xa, .inr (5, [.ref hi, .ref ci, .ref ns_39])), (hi, .inr (1, [.ref ra, .int (iZ (nxF nx)), .int (iZ (kpF kp))])), (ra, .inl (cy 2, 6, .inr (.inr (.inr (.inr (qf (upq rw9 nx (some st)))))))), (ns_39, .inr (3, [.ref sl, .ref n20_1]))] H := hP
    have hD : va_D A [(n20_1, .inr (4, [.long (lZ (b / 2)), .int (iZ (n - 1))])), (xa, .inr (5, [.ref hi, .ref ci, .ref ns_39])), (hi, .inr (1, [.ref ra, .int (iZ (nxF nx)), .int (iZ (kpF kp))])), (ra, .inl (cy 2, 6, .inr (.inr (.inr (.inr (qf (upq rw9 nx (some st)))))))), (ns_39, .inr (3, [.ref sl, .ref n20_1]))] := hD
    refine W.eq (g2 := F0 mt 42 ls []) rfl ?_
    have hI : va_P G vwCl [(st, .inr (3, [.ref sl, .ref wo])), (sl, .inr (2, [.int (iZ p), .int (iZ q), .int (iZ c)])), (wo, .inr (4, [.long (lZ b), .int (iZ n)]))] H := im_keep2 hI0 hIA (Fh.of hS)
    refine lv_aload_n hx hb dX6_removeLast_42 rfl (lv_at hl 0 rfl) ?_
    refine lv_aload_n hx hb dX6_removeLast_43 rfl (lv_at hl 0 rfl) ?_
    refine va_getN (D := G) (ci := 4) (v := .int (iZ n)) (C := RX5) (T := TX5) (N := 2) hx hb hts (by decide +kernel) hown hK hI 2 rfl rfl 1 (by decide) (va_Nw.use rfl (hKK.2 (.fieldLinkNest RX6 93 "SturmianWords$Word" "size" "I" "SturmianWords") (by decide +kernel))) (fun _ h9 => h9) rfl dX6_removeLast_44 ?_
    refine lv_iconst (v := iZ 1) hx hb dX6_removeLast_47 rfl ?_
    refine z_isub hx hb dX6_removeLast_48 ?_
    refine z_calli (va_runV (As := [.int (iZ (n - 1))]) (rest := []) ⟨hx, hb, hml, hown, hts⟩ (c_X5_letter lau G cy wo b n (n - 1) (by first | omega | assumption) (by first | omega | assumption) (by first | omega | assumption)) (cwV 1 hts gX6_removeLast_X5_letter rfl rfl rfl (by decide +kernel) ⟨Nat.le_of_ble_eq_true rfl, Nat.le_of_ble_eq_true rfl⟩) ⟨P1_blind, va_recv hK hI (ci := 4) (q0 := 2) rfl rfl, P1_mk hKK (hI.sub [2] rfl)⟩ rfl rfl hl.1 rfl (lv_room (Nat.le_of_ble_eq_true rfl)) dX6_removeLast_49 ⟨(show 2 + 0 ≤ 2 by omega), (show 4 + 0 ≤ 5 by omega)⟩) ?_
    have hP := hP.sub (ws' := [(xa, .inr (5, [.ref hi, .ref ci, .ref ns_39])), (hi, .inr (1, [.ref ra, .int (iZ (nxF nx)), .int (iZ (kpF kp))])), (ra, .inl (cy 2, 6, .inr (.inr (.inr (.inr (qf (upq rw9 nx (some st)))))))), (ns_39, .inr (3, [.ref sl, .ref n20_1])), (n20_1, .inr (4, [.long (lZ (b / 2)), .int (iZ (n - 1))]))]) [1, 2, 3, 4, 0] rfl
    have hD := hD.sub (ws' := [(xa, .inr (5, [.ref hi, .ref ci, .ref ns_39])), (hi, .inr (1, [.ref ra, .int (iZ (nxF nx)), .int (iZ (kpF kp))])), (ra, .inl (cy 2, 6, .inr (.inr (.inr (.inr (qf (upq rw9 nx (some st)))))))), (ns_39, .inr (3, [.ref sl, .ref n20_1])), (n20_1, .inr (4, [.long (lZ (b / 2)), .int (iZ (n - 1))]))]) [1, 2, 3, 4, 0] (by decide) rfl
    exact z_iretE hx hb hr hlocks dX6_removeLast_52 hS.2.2 ⟨(show 2 ≤ 2 by omega), (show 4 ≤ 5 by omega)⟩ ⟨ns_39, n20_1, (rfl), (trivial), (hP), (hD), Fh.of hS⟩
  · exfalso; omega
set_option maxHeartbeats 4000000 in
set_option maxRecDepth 100000 in
theorem c_X6_clear (lau : Launch) (G : va_G) (cy : Nat → ClassId) (xa hi ci st ra sl wo : Nat) (sz : Nat) (nx kp : Int) (rw9 : Int → Option Nat) (p q c b n : Int) (hnx : 0 ≤ nx ∧ nx < 6) (hkp : 0 ≤ kp ∧ kp ≤ 6) (hn : 0 ≤ n ∧ n ≤ 60) : Met lau yX6_clear wsX6_clear ({ frames := 3, cells := 2, slots := 5, locals := 63 }) (P1 G cy [.ref xa] (fun H => H.size = sz ∧ va_P G vwCl [(xa, .inr (5, [.ref hi, .ref ci, .ref st])), (hi, .inr (1, [.ref ra, .int (iZ nx), .int (iZ kp)])), (ra, .inl (cy 2, 6, .inr (.inr (.inr (.inr (qf rw9))))))] H ∧ va_D (fun _ => True) [(xa, .inr (5, [.ref hi, .ref ci, .ref st])), (hi, .inr (1, [.ref ra, .int (iZ nx), .int (iZ kp)])), (ra, .inl (cy 2, 6, .inr (.inr (.inr (.inr (qf rw9))))))] ∧ va_P G vwCl [(st, .inr (3, [.ref sl, .ref wo])), (sl, .inr (2, [.int (iZ p), .int (iZ q), .int (iZ c)])), (wo, .inr (4, [.long (lZ b), .int (iZ n)]))] H ∧ NA (va_A [(xa, .inr (5, [.ref hi, .ref ci, .ref st])), (hi, .inr (1, [.ref ra, .int (iZ nx), .int (iZ kp)])), (ra, .inl (cy 2, 6, .inr (.inr (.inr (.inr (qf rw9))))))] sz) [(st, .inr (3, [.ref sl, .ref wo])), (sl, .inr (2, [.int (iZ p), .int (iZ q), .int (iZ c)])), (wo, .inr (4, [.long (lZ b), .int (iZ n)]))])) (Q1 (fun rv H0 H1 => ∃ (ns nq : Nat), rv = some (.int (iZ (n))) ∧ (True) ∧ va_P G vwCl [(xa, .inr (5, [.ref hi, .ref ci, .ref ns])), (hi, .inr (1, [.ref ra, .int (iZ (nxF nx)), .int (iZ (kpF kp))])), (ra, .inl (cy 2, 6, .inr (.inr (.inr (.inr (qf (upq rw9 nx (some st)))))))), (ns, .inr (3, [.ref sl, .ref nq])), (nq, .inr (4, [.long (lZ 0), .int (iZ 0)]))] H1 ∧ va_D (va_A [(xa, .inr (5, [.ref hi, .ref ci, .ref st])), (hi, .inr (1, [.ref ra, .int (iZ nx), .int (iZ kp)])), (ra, .inl (cy 2, 6, .inr (.inr (.inr (.inr (qf rw9))))))] sz) [(xa, .inr (5, [.ref hi, .ref ci, .ref ns])), (hi, .inr (1, [.ref ra, .int (iZ (nxF nx)), .int (iZ (kpF kp))])), (ra, .inl (cy 2, 6, .inr (.inr (.inr (.inr (qf (upq rw9 nx (some st)))))))), (ns, .inr (3, [.ref sl, .ref nq])), (nq, .inr (4, [.long (lZ 0), .int (iZ 0)]))] ∧ Fh (va_A [(xa, .inr (5, [.ref hi, .ref ci, .ref st])), (hi, .inr (1, [.ref ra, .int (iZ nx), .int (iZ kp)])), (ra, .inl (cy 2, 6, .inr (.inr (.inr (.inr (qf rw9))))))] sz) H0 H1)) 2 5 (va_A [(xa, .inr (5, [.ref hi, .ref ci, .ref st])), (hi, .inr (1, [.ref ra, .int (iZ nx), .int (iZ kp)])), (ra, .inl (cy 2, 6, .inr (.inr (.inr (.inr (qf rw9))))))] sz) := by
  refine z_head (lv := [(0, .ref xa)]) RX6 (by decide) rfl rfl (Nat.le_of_ble_eq_true rfl) rfl ?_
  intro pr ev s mt below meth cd ls hx hb hr hlocks hml hown hname hts hKK hP hl
  have hK := hKK.1
  obtain ⟨hsz, hP, hD0, hI0, hIA⟩ := hP
  subst hsz
  have hD := hD0.self (sz := s.heap.size)
  generalize hAe : va_A [(xa, .inr (5, [.ref hi, .ref ci, .ref st])), (hi, .inr (1, [.ref ra, .int (iZ nx), .int (iZ kp)])), (ra, .inl (cy 2, 6, .inr (.inr (.inr (.inr (qf rw9))))))] s.heap.size = A at hD hIA ⊢
  have hA : ∀ q : Nat, s.heap.size ≤ q → A q := fun q h => by rw [← hAe]; exact Or.inr h
  have hS : va_S A s.heap s.heap [] := va_S.rf
  have hP : va_P G vwCl [(xa, .inr (5, [.ref hi, .ref ci, .ref st])), (hi, .inr (1, [.ref ra, .int (iZ nx), .int (iZ kp)])), (ra, .inl (cy 2, 6, .inr (.inr (.inr (.inr (qf rw9))))))] s.heap := hP
  have hI : va_P G vwCl [(st, .inr (3, [.ref sl, .ref wo])), (sl, .inr (2, [.int (iZ p), .int (iZ q), .int (iZ c)])), (wo, .inr (4, [.long (lZ b), .int (iZ n)]))] s.heap := hI0
  refine lv_aload_n hx hb dX6_clear_0 rfl (lv_at hl 0 rfl) ?_
  refine va_get (D := G) (ci := 5) (v := .ref st) (C := RX6) (T := TX6) (N := 3) hx hb hts (by decide +kernel) hown hK hP 0 rfl rfl 2 (by decide) (hts (.fieldLink RX6 38 "SturmianWords" "state" "LSturmianWords$State;") (by decide +kernel)) (fun _ h9 => h9) rfl dX6_clear_1 ?_
  refine va_getN (D := G) (ci := 3) (v := .ref wo) (C := RX4) (T := TX4) (N := 2) hx hb hts (by decide +kernel) hown hK hI 0 rfl rfl 1 (by decide) (va_Nw.use rfl (hKK.2 (.fieldLinkNest RX6 96 "SturmianWords$State" "word" "LSturmianWords$Word;" "SturmianWords") (by decide +kernel))) (fun _ h9 => h9) rfl dX6_clear_4 ?_
  refine va_getN (D := G) (ci := 4) (v := .int (iZ n)) (C := RX5) (T := TX5) (N := 2) hx hb hts (by decide +kernel) hown hK hI 2 rfl rfl 1 (by decide) (va_Nw.use rfl (hKK.2 (.fieldLinkNest RX6 93 "SturmianWords$Word" "size" "I" "SturmianWords") (by decide +kernel))) (fun _ h9 => h9) rfl dX6_clear_7 ?_
  refine lv_istore_n (lv' := [(1, .int (iZ n)), (0, .ref xa)]) hx hb dX6_clear_10 rfl hl (by decide) rfl (fun ls hl => ?_)
  refine lv_aload_n hx hb dX6_clear_11 rfl (lv_at hl 1 rfl) ?_
  refine va_new (D := G) (ci := 4) (fs := [.long (lZ 0), .int (iZ 0)]) (C := RX5) (T := TX5) (N := 2) hx hb hts (by decide +kernel) tyX5 tyX5_ok hown (hts (.classLink RX6 30 RX5) (by decide +kernel)) (hts (.instantiable RX5 2) (by decide +kernel)) (hts (.initialized RX5) (by decide +kernel)) hK hP hD hS hA rfl (fun j hj => by rcases (show j = 0 ∨ j = 1 by omega) with rfl | rfl <;> rfl) (show 0 + 1 ≤ 2 by omega) (show 0 + 2 ≤ 5 by omega) dX6_clear_12 (fun n12_1 H hP hD hS => ?_)
  have hP : va_P G vwCl [(xa, .inr (5, [.ref hi, .ref ci, .ref st])), (hi, .inr (1, [.ref ra, .int (iZ nx), .int (iZ kp)])), (ra, .inl (cy 2, 6, .inr (.inr (.inr (.inr (qf rw9)))))), (n12_1, .inr (4, [.long (lZ 0), .int (iZ 0)]))] H := hP
  have hD : va_D A [(xa, .inr (5, [.ref hi, .ref ci, .ref st])), (hi, .inr (1, [.ref ra, .int (iZ nx), .int (iZ kp)])), (ra, .inl (cy 2, 6, .inr (.inr (.inr (.inr (qf rw9)))))), (n12_1, .inr (4, [.long (lZ 0), .int (iZ 0)]))] := hD
  have hI : va_P G vwCl [(st, .inr (3, [.ref sl, .ref wo])), (sl, .inr (2, [.int (iZ p), .int (iZ q), .int (iZ c)])), (wo, .inr (4, [.long (lZ b), .int (iZ n)]))] H := im_keep2 hI0 hIA (Fh.of hS)
  refine lv_dup hx hb dX6_clear_15 rfl ?_
  refine lv_lconst (v := lZ 0) hx hb dX6_clear_16 rfl ?_
  refine lv_iconst (v := iZ 0) hx hb dX6_clear_17 rfl ?_
  have hPc := hP.sub (ws' := [(n12_1, .inr (4, [.long (lZ 0), .int (iZ 0)]))]) [3] rfl
  have hDc := (hD.sub (ws' := [(n12_1, .inr (4, [.long (lZ 0), .int (iZ 0)]))]) [3] (by decide) rfl).weaken (B := fun _ => True) (fun _ _ _ _ => trivial)
  have hFc := va_free (wc := [(n12_1, .inr (4, [.long (lZ 0), .int (iZ 0)]))]) hD hS hA [3] rfl
  refine z_callE (A := A) (va_runI (As := [.long (lZ 0), .int (iZ 0)]) (rest := [.ref n12_1, .ref xa]) ⟨hx, hb, hml, hown, hts⟩ (c_X5_init lau G cy n12_1 H.size 0 0) (cwI 2 hts gX6_clear_X5_init rfl rfl rfl (hts (.initialized RX5) (by decide +kernel)) (hts (.methodLink RX6 32 yX5_init) (by decide +kernel)) (hts (.instanceMethod yX5_init) (by decide +kernel)) rfl (by decide +kernel) ⟨Nat.le_of_ble_eq_true rfl, Nat.le_of_ble_eq_true rfl⟩) ⟨P1_blind, P1_mk hKK (⟨rfl, hPc, hDc⟩)⟩ rfl rfl hl.1 rfl (lv_room (Nat.le_of_ble_eq_true rfl)) dX6_clear_18 ⟨(show 1 + 0 ≤ 2 by omega), (show 2 + 0 ≤ 5 by omega)⟩) hS.2.2 hFc (fun v H1 locs1 hR hL1 => ?_)
  obtain ⟨rfl, hq18, hP1, hD1, hF1⟩ := hR
  obtain ⟨hP, hD⟩ := va_join (wr := [(xa, .inr (5, [.ref hi, .ref ci, .ref st])), (hi, .inr (1, [.ref ra, .int (iZ nx), .int (iZ kp)])), (ra, .inl (cy 2, 6, .inr (.inr (.inr (.inr (qf rw9))))))]) (w1 := [(n12_1, .inr (4, [.long (lZ 0), .int (iZ 0)]))]) hP hD [3] [0, 1, 2] rfl rfl (by decide) (by decide) hF1.2 hFc hP1 hD1
  have hS : va_S A s.heap H1 locs1 := Fh.S ((Fh.of hS).tr hF1 (fun q _ h => hFc q h)) hL1
  clear hPc hDc hFc hP1 hD1 hF1 hL1
  generalize H1 = H at hP hS ⊢
  have hP : va_P G vwCl [(xa, .inr (5, [.ref hi, .ref ci, .ref st])), (hi, .inr (1, [.ref ra, .int (iZ nx), .int (iZ kp)])), (ra, .inl (cy 2, 6, .inr (.inr (.inr (.inr (qf rw9)))))), (n12_1, .inr (4, [.long (lZ 0), .int (iZ 0)]))] H := hP
  have hD : va_D A [(xa, .inr (5, [.ref hi, .ref ci, .ref st])), (hi, .inr (1, [.ref ra, .int (iZ nx), .int (iZ kp)])), (ra, .inl (cy 2, 6, .inr (.inr (.inr (.inr (qf rw9)))))), (n12_1, .inr (4, [.long (lZ 0), .int (iZ 0)]))] := hD
  have hP := hP.sub (ws' := [(xa, .inr (5, [.ref hi, .ref ci, .ref st])), (hi, .inr (1, [.ref ra, .int (iZ nx), .int (iZ kp)])), (ra, .inl (cy 2, 6, .inr (.inr (.inr (.inr (qf rw9)))))), (n12_1, .inr (4, [.long (lZ 0), .int (iZ 0)]))]) [0, 1, 2, 3] rfl
  have hD := hD.sub (ws' := [(xa, .inr (5, [.ref hi, .ref ci, .ref st])), (hi, .inr (1, [.ref ra, .int (iZ nx), .int (iZ kp)])), (ra, .inl (cy 2, 6, .inr (.inr (.inr (.inr (qf rw9)))))), (n12_1, .inr (4, [.long (lZ 0), .int (iZ 0)]))]) [0, 1, 2, 3] (by decide) rfl
  refine W.eq (g2 := F0 mt 21 ls [.ref n12_1, .ref xa]) rfl ?_
  have hI : va_P G vwCl [(st, .inr (3, [.ref sl, .ref wo])), (sl, .inr (2, [.int (iZ p), .int (iZ q), .int (iZ c)])), (wo, .inr (4, [.long (lZ b), .int (iZ n)]))] H := im_keep2 hI0 hIA (Fh.of hS)
  have hPc := hP.sub (ws' := [(xa, .inr (5, [.ref hi, .ref ci, .ref st])), (hi, .inr (1, [.ref ra, .int (iZ nx), .int (iZ kp)])), (ra, .inl (cy 2, 6, .inr (.inr (.inr (.inr (qf rw9))))))]) [0, 1, 2] rfl
  have hDc := (hD.sub (ws' := [(xa, .inr (5, [.ref hi, .ref ci, .ref st])), (hi, .inr (1, [.ref ra, .int (iZ nx), .int (iZ kp)])), (ra, .inl (cy 2, 6, .inr (.inr (.inr (.inr (qf rw9))))))]) [0, 1, 2] (by decide) rfl).weaken (B := fun _ => True) (fun _ _ _ _ => trivial)
  have hFc := va_free (wc := [(xa, .inr (5, [.ref hi, .ref ci, .ref st])), (hi, .inr (1, [.ref ra, .int (iZ nx), .int (iZ kp)])), (ra, .inl (cy 2, 6, .inr (.inr (.inr (.inr (qf rw9))))))]) hD hS hA [0, 1, 2] rfl
  have hIc : va_P G vwCl [(st, .inr (3, [.ref sl, .ref wo]))] H := (hI.sub (ws' := [(st, .inr (3, [.ref sl, .ref wo]))]) [0] rfl)
  have hIAc : NA (va_A [(xa, .inr (5, [.ref hi, .ref ci, .ref st])), (hi, .inr (1, [.ref ra, .int (iZ nx), .int (iZ kp)])), (ra, .inl (cy 2, 6, .inr (.inr (.inr (.inr (qf rw9))))))] H.size) [(st, .inr (3, [.ref sl, .ref wo]))] := NA.cons (fun z => hIA.at 0 rfl (hFc _ z)) (NA.nil)
  refine z_callE (A := A) (va_runV (As := [.ref n12_1]) (rest := []) ⟨hx, hb, hml, hown, hts⟩ (c_X6_changeWord lau G cy xa hi ci st ra sl wo n12_1 H.size nx kp rw9 (by first | omega | assumption) (by first | omega | assumption)) (cwV 1 hts gX6_clear_X6_changeWord rfl rfl rfl (by decide +kernel) ⟨Nat.le_of_ble_eq_true rfl, Nat.le_of_ble_eq_true rfl⟩) ⟨P1_blind, va_recv hK hP (ci := 5) (q0 := 0) rfl rfl, P1_mk hKK (⟨rfl, hPc, hDc, hIc, hIAc⟩)⟩ rfl rfl hl.1 rfl (lv_room (Nat.le_of_ble_eq_true rfl)) dX6_clear_21 ⟨(show 1 + 1 ≤ 2 by omega), (show 2 + 2 ≤ 5 by omega)⟩) hS.2.2 hFc (fun v H1 locs1 hR hL1 => ?_)
  obtain ⟨ns_21, rfl, hq21, hP1, hD1, hF1⟩ := hR
  obtain ⟨hP, hD⟩ := va_join (wr := [(n12_1, .inr (4, [.long (lZ 0), .int (iZ 0)]))]) (w1 := [(xa, .inr (5, [.ref hi, .ref ci, .ref ns_21])), (hi, .inr (1, [.ref ra, .int (iZ (nxF nx)), .int (iZ (kpF kp))])), (ra, .inl (cy 2, 6, .inr (.inr (.inr (.inr (qf (upq rw9 nx (some st)))))))), (ns_21, .inr (3, [.ref sl, .ref n12_1]))]) hP hD [0, 1, 2] [3] rfl rfl (by decide) (by decide) hF1.2 hFc hP1 hD1
  have hS : va_S A s.heap H1 locs1 := Fh.S ((Fh.of hS).tr hF1 (fun q _ h => hFc q h)) hL1
  clear hPc hDc hFc hP1 hD1 hF1 hL1 hIc hIAc
  generalize H1 = H at hP hS ⊢
  have hP : va_P G vwCl [(n12_1, .inr (4, [.long (lZ 0), .int (iZ 0)])), (xa, .inr (5, [.ref hi, .ref ci, .ref ns_21])), (hi, .inr (1, [.ref ra, .int (iZ (nxF nx)), .int (iZ (kpF kp))])), (ra, .inl (cy 2, 6, .inr (.inr (.inr (.inr (qf (upq rw9 nx (some st)))))))), (ns_21, .inr (3, [.ref sl, .ref n12_1]))] H := hP
  have hD : va_D A [(n12_1, .inr (4, [.long (lZ 0), .int (iZ 0)])), (xa, .inr (5, [.ref hi, .ref ci, .ref ns_21])), (hi, .inr (1, [.ref ra, .int (iZ (nxF nx)), .int (iZ (kpF kp))])), (ra, .inl (cy 2, 6, .inr (.inr (.inr (.inr (qf (upq rw9 nx (some st)))))))), (ns_21, .inr (3, [.ref sl, .ref n12_1]))] := hD
  refine W.eq (g2 := F0 mt 24 ls []) rfl ?_
  have hI : va_P G vwCl [(st, .inr (3, [.ref sl, .ref wo])), (sl, .inr (2, [.int (iZ p), .int (iZ q), .int (iZ c)])), (wo, .inr (4, [.long (lZ b), .int (iZ n)]))] H := im_keep2 hI0 hIA (Fh.of hS)
  refine lv_iload_n hx hb dX6_clear_24 rfl (lv_at hl 0 rfl) ?_
  have hP := hP.sub (ws' := [(xa, .inr (5, [.ref hi, .ref ci, .ref ns_21])), (hi, .inr (1, [.ref ra, .int (iZ (nxF nx)), .int (iZ (kpF kp))])), (ra, .inl (cy 2, 6, .inr (.inr (.inr (.inr (qf (upq rw9 nx (some st)))))))), (ns_21, .inr (3, [.ref sl, .ref n12_1])), (n12_1, .inr (4, [.long (lZ 0), .int (iZ 0)]))]) [1, 2, 3, 4, 0] rfl
  have hD := hD.sub (ws' := [(xa, .inr (5, [.ref hi, .ref ci, .ref ns_21])), (hi, .inr (1, [.ref ra, .int (iZ (nxF nx)), .int (iZ (kpF kp))])), (ra, .inl (cy 2, 6, .inr (.inr (.inr (.inr (qf (upq rw9 nx (some st)))))))), (ns_21, .inr (3, [.ref sl, .ref n12_1])), (n12_1, .inr (4, [.long (lZ 0), .int (iZ 0)]))]) [1, 2, 3, 4, 0] (by decide) rfl
  exact z_iretE hx hb hr hlocks dX6_clear_25 hS.2.2 ⟨(show 2 ≤ 2 by omega), (show 4 ≤ 5 by omega)⟩ ⟨ns_21, n12_1, (rfl), (trivial), (hP), (hD), Fh.of hS⟩
set_option maxHeartbeats 4000000 in
set_option maxRecDepth 100000 in
theorem c_X6_reverse (lau : Launch) (G : va_G) (cy : Nat → ClassId) (xa hi ci st ra sl wo : Nat) (sz : Nat) (nx kp : Int) (rw9 : Int → Option Nat) (p q c b n : Int) (hnx : 0 ≤ nx ∧ nx < 6) (hkp : 0 ≤ kp ∧ kp ≤ 6) (hn : 0 ≤ n ∧ n ≤ 60) (hw : 0 ≤ b ∧ b < pw n) : Met lau yX6_reverse wsX6_reverse ({ frames := 3, cells := 2, slots := 5, locals := 63 }) (P1 G cy [.ref xa] (fun H => H.size = sz ∧ va_P G vwCl [(xa, .inr (5, [.ref hi, .ref ci, .ref st])), (hi, .inr (1, [.ref ra, .int (iZ nx), .int (iZ kp)])), (ra, .inl (cy 2, 6, .inr (.inr (.inr (.inr (qf rw9))))))] H ∧ va_D (fun _ => True) [(xa, .inr (5, [.ref hi, .ref ci, .ref st])), (hi, .inr (1, [.ref ra, .int (iZ nx), .int (iZ kp)])), (ra, .inl (cy 2, 6, .inr (.inr (.inr (.inr (qf rw9))))))] ∧ va_P G vwCl [(st, .inr (3, [.ref sl, .ref wo])), (sl, .inr (2, [.int (iZ p), .int (iZ q), .int (iZ c)])), (wo, .inr (4, [.long (lZ b), .int (iZ n)]))] H ∧ NA (va_A [(xa, .inr (5, [.ref hi, .ref ci, .ref st])), (hi, .inr (1, [.ref ra, .int (iZ nx), .int (iZ kp)])), (ra, .inl (cy 2, 6, .inr (.inr (.inr (.inr (qf rw9))))))] sz) [(st, .inr (3, [.ref sl, .ref wo])), (sl, .inr (2, [.int (iZ p), .int (iZ q), .int (iZ c)])), (wo, .inr (4, [.long (lZ b), .int (iZ n)]))])) (Q1 (fun rv H0 H1 => ∃ (ns nq : Nat), rv = some (.int (iZ (if rvB b n = b then 0 else 1))) ∧ (True) ∧ va_P G vwCl [(xa, .inr (5, [.ref hi, .ref ci, .ref ns])), (hi, .inr (1, [.ref ra, .int (iZ (nxF nx)), .int (iZ (kpF kp))])), (ra, .inl (cy 2, 6, .inr (.inr (.inr (.inr (qf (upq rw9 nx (some st)))))))), (ns, .inr (3, [.ref sl, .ref nq])), (nq, .inr (4, [.long (lZ (rvB b n)), .int (iZ n)]))] H1 ∧ va_D (va_A [(xa, .inr (5, [.ref hi, .ref ci, .ref st])), (hi, .inr (1, [.ref ra, .int (iZ nx), .int (iZ kp)])), (ra, .inl (cy 2, 6, .inr (.inr (.inr (.inr (qf rw9))))))] sz) [(xa, .inr (5, [.ref hi, .ref ci, .ref ns])), (hi, .inr (1, [.ref ra, .int (iZ (nxF nx)), .int (iZ (kpF kp))])), (ra, .inl (cy 2, 6, .inr (.inr (.inr (.inr (qf (upq rw9 nx (some st)))))))), (ns, .inr (3, [.ref sl, .ref nq])), (nq, .inr (4, [.long (lZ (rvB b n)), .int (iZ n)]))] ∧ Fh (va_A [(xa, .inr (5, [.ref hi, .ref ci, .ref st])), (hi, .inr (1, [.ref ra, .int (iZ nx), .int (iZ kp)])), (ra, .inl (cy 2, 6, .inr (.inr (.inr (.inr (qf rw9))))))] sz) H0 H1)) 2 5 (va_A [(xa, .inr (5, [.ref hi, .ref ci, .ref st])), (hi, .inr (1, [.ref ra, .int (iZ nx), .int (iZ kp)])), (ra, .inl (cy 2, 6, .inr (.inr (.inr (.inr (qf rw9))))))] sz) := by
  refine z_head (lv := [(0, .ref xa)]) RX6 (by decide) rfl rfl (Nat.le_of_ble_eq_true rfl) rfl ?_
  intro pr ev s mt below meth cd ls hx hb hr hlocks hml hown hname hts hKK hP hl
  have hK := hKK.1
  obtain ⟨hsz, hP, hD0, hI0, hIA⟩ := hP
  subst hsz
  have hD := hD0.self (sz := s.heap.size)
  generalize hAe : va_A [(xa, .inr (5, [.ref hi, .ref ci, .ref st])), (hi, .inr (1, [.ref ra, .int (iZ nx), .int (iZ kp)])), (ra, .inl (cy 2, 6, .inr (.inr (.inr (.inr (qf rw9))))))] s.heap.size = A at hD hIA ⊢
  have hA : ∀ q : Nat, s.heap.size ≤ q → A q := fun q h => by rw [← hAe]; exact Or.inr h
  have hS : va_S A s.heap s.heap [] := va_S.rf
  have hP : va_P G vwCl [(xa, .inr (5, [.ref hi, .ref ci, .ref st])), (hi, .inr (1, [.ref ra, .int (iZ nx), .int (iZ kp)])), (ra, .inl (cy 2, 6, .inr (.inr (.inr (.inr (qf rw9))))))] s.heap := hP
  have hI : va_P G vwCl [(st, .inr (3, [.ref sl, .ref wo])), (sl, .inr (2, [.int (iZ p), .int (iZ q), .int (iZ c)])), (wo, .inr (4, [.long (lZ b), .int (iZ n)]))] s.heap := hI0
  refine lv_aload_n hx hb dX6_reverse_0 rfl (lv_at hl 0 rfl) ?_
  refine va_get (D := G) (ci := 5) (v := .ref st) (C := RX6) (T := TX6) (N := 3) hx hb hts (by decide +kernel) hown hK hP 0 rfl rfl 2 (by decide) (hts (.fieldLink RX6 38 "SturmianWords" "state" "LSturmianWords$State;") (by decide +kernel)) (fun _ h9 => h9) rfl dX6_reverse_1 ?_
  refine va_getN (D := G) (ci := 3) (v := .ref wo) (C := RX4) (T := TX4) (N := 2) hx hb hts (by decide +kernel) hown hK hI 0 rfl rfl 1 (by decide) (va_Nw.use rfl (hKK.2 (.fieldLinkNest RX6 96 "SturmianWords$State" "word" "LSturmianWords$Word;" "SturmianWords") (by decide +kernel))) (fun _ h9 => h9) rfl dX6_reverse_4 ?_
  refine lv_astore_n (lv' := [(1, .ref wo), (0, .ref xa)]) hx hb dX6_reverse_7 rfl hl (by decide) rfl (fun ls hl => ?_)
  refine lv_aload_n hx hb dX6_reverse_8 rfl (lv_at hl 0 rfl) ?_
  have hPc := hP.sub (ws' := []) [] rfl
  have hDc := (hD.sub (ws' := []) [] (by decide) rfl).weaken (B := fun _ => True) (fun _ _ _ _ => trivial)
  have hFc := va_free (wc := []) hD hS hA [] rfl
  have hIc : va_P G vwCl [(wo, .inr (4, [.long (lZ b), .int (iZ n)]))] s.heap := (hI.sub (ws' := [(wo, .inr (4, [.long (lZ b), .int (iZ n)]))]) [2] rfl)
  have hIAc : NA (va_A [] s.heap.size) [(wo, .inr (4, [.long (lZ b), .int (iZ n)]))] := NA.cons (fun z => hIA.at 2 rfl (hFc _ z)) (NA.nil)
  refine z_callE (A := A) (va_runV (As := []) (rest := []) ⟨hx, hb, hml, hown, hts⟩ (c_X5_reversed lau G cy wo s.heap.size b n (by first | omega | assumption) (by first | omega | assumption)) (cwV 0 hts gX6_reverse_X5_reversed rfl rfl rfl (by decide +kernel) ⟨Nat.le_of_ble_eq_true rfl, Nat.le_of_ble_eq_true rfl⟩) ⟨P1_blind, va_recv hK hI (ci := 4) (q0 := 2) rfl rfl, P1_mk hKK (⟨rfl, hPc, hDc, hIc, hIAc⟩)⟩ rfl rfl hl.1 rfl (lv_room (Nat.le_of_ble_eq_true rfl)) dX6_reverse_9 ⟨(show 0 + 1 ≤ 2 by omega), (show 0 + 2 ≤ 5 by omega)⟩) hS.2.2 hFc (fun v H1 locs1 hR hL1 => ?_)
  obtain ⟨qo_9, rfl, hq9, hP1, hD1, hF1⟩ := hR
  obtain ⟨hP, hD⟩ := va_join (wr := [(xa, .inr (5, [.ref hi, .ref ci, .ref st])), (hi, .inr (1, [.ref ra, .int (iZ nx), .int (iZ kp)])), (ra, .inl (cy 2, 6, .inr (.inr (.inr (.inr (qf rw9))))))]) (w1 := [(qo_9, .inr (4, [.long (lZ (rvB b n)), .int (iZ n)]))]) hP hD [] [0, 1, 2] rfl rfl (by decide) (by decide) hF1.2 hFc hP1 hD1
  have hS : va_S A s.heap H1 locs1 := Fh.S ((Fh.of hS).tr hF1 (fun q _ h => hFc q h)) hL1
  clear hPc hDc hFc hP1 hD1 hF1 hL1 hIc hIAc
  generalize H1 = H at hP hS ⊢
  have hP : va_P G vwCl [(xa, .inr (5, [.ref hi, .ref ci, .ref st])), (hi, .inr (1, [.ref ra, .int (iZ nx), .int (iZ kp)])), (ra, .inl (cy 2, 6, .inr (.inr (.inr (.inr (qf rw9)))))), (qo_9, .inr (4, [.long (lZ (rvB b n)), .int (iZ n)]))] H := hP
  have hD : va_D A [(xa, .inr (5, [.ref hi, .ref ci, .ref st])), (hi, .inr (1, [.ref ra, .int (iZ nx), .int (iZ kp)])), (ra, .inl (cy 2, 6, .inr (.inr (.inr (.inr (qf rw9)))))), (qo_9, .inr (4, [.long (lZ (rvB b n)), .int (iZ n)]))] := hD
  refine W.eq (g2 := F0 mt 12 ls [.ref qo_9]) rfl ?_
  have hI : va_P G vwCl [(st, .inr (3, [.ref sl, .ref wo])), (sl, .inr (2, [.int (iZ p), .int (iZ q), .int (iZ c)])), (wo, .inr (4, [.long (lZ b), .int (iZ n)]))] H := im_keep2 hI0 hIA (Fh.of hS)
  refine lv_astore_n (lv' := [(2, .ref qo_9), (1, .ref wo), (0, .ref xa)]) hx hb dX6_reverse_12 rfl hl (by decide) rfl (fun ls hl => ?_)
  refine lv_aload_n hx hb dX6_reverse_13 rfl (lv_at hl 2 rfl) ?_
  refine lv_aload_n hx hb dX6_reverse_14 rfl (lv_at hl 0 rfl) ?_
  have hPc := hP.sub (ws' := [(xa, .inr (5, [.ref hi, .ref ci, .ref st])), (hi, .inr (1, [.ref ra, .int (iZ nx), .int (iZ kp)])), (ra, .inl (cy 2, 6, .inr (.inr (.inr (.inr (qf rw9))))))]) [0, 1, 2] rfl
  have hDc := (hD.sub (ws' := [(xa, .inr (5, [.ref hi, .ref ci, .ref st])), (hi, .inr (1, [.ref ra, .int (iZ nx), .int (iZ kp)])), (ra, .inl (cy 2, 6, .inr (.inr (.inr (.inr (qf rw9))))))]) [0, 1, 2] (by decide) rfl).weaken (B := fun _ => True) (fun _ _ _ _ => trivial)
  have hFc := va_free (wc := [(xa, .inr (5, [.ref hi, .ref ci, .ref st])), (hi, .inr (1, [.ref ra, .int (iZ nx), .int (iZ kp)])), (ra, .inl (cy 2, 6, .inr (.inr (.inr (.inr (qf rw9))))))]) hD hS hA [0, 1, 2] rfl
  have hIc : va_P G vwCl [(st, .inr (3, [.ref sl, .ref wo]))] H := (hI.sub (ws' := [(st, .inr (3, [.ref sl, .ref wo]))]) [0] rfl)
  have hIAc : NA (va_A [(xa, .inr (5, [.ref hi, .ref ci, .ref st])), (hi, .inr (1, [.ref ra, .int (iZ nx), .int (iZ kp)])), (ra, .inl (cy 2, 6, .inr (.inr (.inr (.inr (qf rw9))))))] H.size) [(st, .inr (3, [.ref sl, .ref wo]))] := NA.cons (fun z => hIA.at 0 rfl (hFc _ z)) (NA.nil)
  refine z_callE (A := A) (va_runV (As := [.ref qo_9]) (rest := []) ⟨hx, hb, hml, hown, hts⟩ (c_X6_changeWord lau G cy xa hi ci st ra sl wo qo_9 H.size nx kp rw9 (by first | omega | assumption) (by first | omega | assumption)) (cwV 1 hts gX6_reverse_X6_changeWord rfl rfl rfl (by decide +kernel) ⟨Nat.le_of_ble_eq_true rfl, Nat.le_of_ble_eq_true rfl⟩) ⟨P1_blind, va_recv hK hP (ci := 5) (q0 := 0) rfl rfl, P1_mk hKK (⟨rfl, hPc, hDc, hIc, hIAc⟩)⟩ rfl rfl hl.1 rfl (lv_room (Nat.le_of_ble_eq_true rfl)) dX6_reverse_15 ⟨(show 1 + 1 ≤ 2 by omega), (show 2 + 2 ≤ 5 by omega)⟩) hS.2.2 hFc (fun v H1 locs1 hR hL1 => ?_)
  obtain ⟨ns_15, rfl, hq15, hP1, hD1, hF1⟩ := hR
  obtain ⟨hP, hD⟩ := va_join (wr := [(qo_9, .inr (4, [.long (lZ (rvB b n)), .int (iZ n)]))]) (w1 := [(xa, .inr (5, [.ref hi, .ref ci, .ref ns_15])), (hi, .inr (1, [.ref ra, .int (iZ (nxF nx)), .int (iZ (kpF kp))])), (ra, .inl (cy 2, 6, .inr (.inr (.inr (.inr (qf (upq rw9 nx (some st)))))))), (ns_15, .inr (3, [.ref sl, .ref qo_9]))]) hP hD [0, 1, 2] [3] rfl rfl (by decide) (by decide) hF1.2 hFc hP1 hD1
  have hS : va_S A s.heap H1 locs1 := Fh.S ((Fh.of hS).tr hF1 (fun q _ h => hFc q h)) hL1
  clear hPc hDc hFc hP1 hD1 hF1 hL1 hIc hIAc
  generalize H1 = H at hP hS ⊢
  have hP : va_P G vwCl [(qo_9, .inr (4, [.long (lZ (rvB b n)), .int (iZ n)])), (xa, .inr (5, [.ref hi, .ref ci, .ref ns_15])), (hi, .inr (1, [.ref ra, .int (iZ (nxF nx)), .int (iZ (kpF kp))])), (ra, .inl (cy 2, 6, .inr (.inr (.inr (.inr (qf (upq rw9 nx (some st)))))))), (ns_15, .inr (3, [.ref sl, .ref qo_9]))] H := hP
  have hD : va_D A [(qo_9, .inr (4, [.long (lZ (rvB b n)), .int (iZ n)])), (xa, .inr (5, [.ref hi, .ref ci, .ref ns_15])), (hi, .inr (1, [.ref ra, .int (iZ (nxF nx)), .int (iZ (kpF kp))])), (ra, .inl (cy 2, 6, .inr (.inr (.inr (.inr (qf (upq rw9 nx (some st)))))))), (ns_15, .inr (3, [.ref sl, .ref qo_9]))] := hD
  refine W.eq (g2 := F0 mt 18 ls []) rfl ?_
  have hI : va_P G vwCl [(st, .inr (3, [.ref sl, .ref wo])), (sl, .inr (2, [.int (iZ p), .int (iZ q), .int (iZ c)])), (wo, .inr (4, [.long (lZ b), .int (iZ n)]))] H := im_keep2 hI0 hIA (Fh.of hS)
  refine lv_aload_n hx hb dX6_reverse_18 rfl (lv_at hl 0 rfl) ?_
  refine va_getN (D := G) (ci := 4) (v := .long (lZ (rvB b n))) (C := RX5) (T := TX5) (N := 2) hx hb hts (by decide +kernel) hown hK hP 0 rfl rfl 0 (by decide) (va_Nw.use rfl (hKK.2 (.fieldLinkNest RX6 100 "SturmianWords$Word" "bits" "J" "SturmianWords") (by decide +kernel))) (fun _ h9 => h9) rfl dX6_reverse_19 ?_
  refine lv_aload_n hx hb dX6_reverse_22 rfl (lv_at hl 1 rfl) ?_
  refine va_getN (D := G) (ci := 4) (v := .long (lZ b)) (C := RX5) (T := TX5) (N := 2) hx hb hts (by decide +kernel) hown hK hI 2 rfl rfl 0 (by decide) (va_Nw.use rfl (hKK.2 (.fieldLinkNest RX6 100 "SturmianWords$Word" "bits" "J" "SturmianWords") (by decide +kernel))) (fun _ h9 => h9) rfl dX6_reverse_23 ?_
  have hp61 := pw_61 hn.2
  have hrv : 0 ≤ rvB b n ∧ rvB b n < pw n := nat_r (P := fun k => 0 ≤ rvB b k ∧ rvB b k < pw k) (rvB_r (b := b)) hn.1
  refine z_lcmp hx hb dX6_reverse_26 (by omega) (fun cm26 hcm26 => ?_)
  refine z_if_ne (tgt := 34) hx hb dX6_reverse_27 (by decide) (by omega) (fun c_27 => ?_) (fun c_27 => ?_)
  · refine lv_iconst (v := iZ 1) hx hb dX6_reverse_34 rfl ?_
    have hP := hP.sub (ws' := [(xa, .inr (5, [.ref hi, .ref ci, .ref ns_15])), (hi, .inr (1, [.ref ra, .int (iZ (nxF nx)), .int (iZ (kpF kp))])), (ra, .inl (cy 2, 6, .inr (.inr (.inr (.inr (qf (upq rw9 nx (some st)))))))), (ns_15, .inr (3, [.ref sl, .ref qo_9])), (qo_9, .inr (4, [.long (lZ (rvB b n)), .int (iZ n)]))]) [1, 2, 3, 4, 0] rfl
    have hD := hD.sub (ws' := [(xa, .inr (5, [.ref hi, .ref ci, .ref ns_15])), (hi, .inr (1, [.ref ra, .int (iZ (nxF nx)), .int (iZ (kpF kp))])), (ra, .inl (cy 2, 6, .inr (.inr (.inr (.inr (qf (upq rw9 nx (some st)))))))), (ns_15, .inr (3, [.ref sl, .ref qo_9])), (qo_9, .inr (4, [.long (lZ (rvB b n)), .int (iZ n)]))]) [1, 2, 3, 4, 0] (by decide) rfl
    exact z_iretE hx hb hr hlocks dX6_reverse_35 hS.2.2 ⟨(show 2 ≤ 2 by omega), (show 4 ≤ 5 by omega)⟩ ⟨ns_15, qo_9, (sI (by rw [if_neg (by omega)])), (trivial), (hP), (hD), Fh.of hS⟩
  · refine lv_iconst (v := iZ 0) hx hb dX6_reverse_30 rfl ?_
    refine lv_goto (tgt := 35) hx hb dX6_reverse_31 (by decide) ?_
    have hP := hP.sub (ws' := [(xa, .inr (5, [.ref hi, .ref ci, .ref ns_15])), (hi, .inr (1, [.ref ra, .int (iZ (nxF nx)), .int (iZ (kpF kp))])), (ra, .inl (cy 2, 6, .inr (.inr (.inr (.inr (qf (upq rw9 nx (some st)))))))), (ns_15, .inr (3, [.ref sl, .ref qo_9])), (qo_9, .inr (4, [.long (lZ (rvB b n)), .int (iZ n)]))]) [1, 2, 3, 4, 0] rfl
    have hD := hD.sub (ws' := [(xa, .inr (5, [.ref hi, .ref ci, .ref ns_15])), (hi, .inr (1, [.ref ra, .int (iZ (nxF nx)), .int (iZ (kpF kp))])), (ra, .inl (cy 2, 6, .inr (.inr (.inr (.inr (qf (upq rw9 nx (some st)))))))), (ns_15, .inr (3, [.ref sl, .ref qo_9])), (qo_9, .inr (4, [.long (lZ (rvB b n)), .int (iZ n)]))]) [1, 2, 3, 4, 0] (by decide) rfl
    exact z_iretE hx hb hr hlocks dX6_reverse_35 hS.2.2 ⟨(show 2 ≤ 2 by omega), (show 4 ≤ 5 by omega)⟩ ⟨ns_15, qo_9, (sI (by rw [if_pos (by omega)])), (trivial), (hP), (hD), Fh.of hS⟩
set_option maxHeartbeats 4000000 in
set_option maxRecDepth 100000 in
theorem c_X6_undo_no (lau : Launch) (G : va_G) (cy : Nat → ClassId) (xa hi ci st ra sl wo : Nat) (sz : Nat) (nx kp : Int) (rw9 : Int → Option Nat) (p q c b n : Int) (hnx : 0 ≤ nx ∧ nx < 6) (h3 : kp = 0) : Met lau yX6_undo wsX6_undo ({ frames := 1, cells := 0, slots := 0, locals := 21 }) (P1 G cy [.ref xa] (fun H => H.size = sz ∧ va_P G vwCl [(xa, .inr (5, [.ref hi, .ref ci, .ref st])), (hi, .inr (1, [.ref ra, .int (iZ nx), .int (iZ kp)])), (ra, .inl (cy 2, 6, .inr (.inr (.inr (.inr (qf rw9))))))] H ∧ va_D (fun _ => True) [(xa, .inr (5, [.ref hi, .ref ci, .ref st])), (hi, .inr (1, [.ref ra, .int (iZ nx), .int (iZ kp)])), (ra, .inl (cy 2, 6, .inr (.inr (.inr (.inr (qf rw9))))))] ∧ va_P G vwCl [(st, .inr (3, [.ref sl, .ref wo])), (sl, .inr (2, [.int (iZ p), .int (iZ q), .int (iZ c)])), (wo, .inr (4, [.long (lZ b), .int (iZ n)]))] H ∧ NA (va_A [(xa, .inr (5, [.ref hi, .ref ci, .ref st])), (hi, .inr (1, [.ref ra, .int (iZ nx), .int (iZ kp)])), (ra, .inl (cy 2, 6, .inr (.inr (.inr (.inr (qf rw9))))))] sz) [(st, .inr (3, [.ref sl, .ref wo])), (sl, .inr (2, [.int (iZ p), .int (iZ q), .int (iZ c)])), (wo, .inr (4, [.long (lZ b), .int (iZ n)]))])) (Q1 (fun rv H0 H1 => rv = some (.int (iZ (-3))) ∧ (True) ∧ va_P G vwCl [(xa, .inr (5, [.ref hi, .ref ci, .ref st])), (hi, .inr (1, [.ref ra, .int (iZ nx), .int (iZ kp)])), (ra, .inl (cy 2, 6, .inr (.inr (.inr (.inr (qf rw9))))))] H1 ∧ va_D (va_A [(xa, .inr (5, [.ref hi, .ref ci, .ref st])), (hi, .inr (1, [.ref ra, .int (iZ nx), .int (iZ kp)])), (ra, .inl (cy 2, 6, .inr (.inr (.inr (.inr (qf rw9))))))] sz) [(xa, .inr (5, [.ref hi, .ref ci, .ref st])), (hi, .inr (1, [.ref ra, .int (iZ nx), .int (iZ kp)])), (ra, .inl (cy 2, 6, .inr (.inr (.inr (.inr (qf rw9))))))] ∧ Fh (va_A [(xa, .inr (5, [.ref hi, .ref ci, .ref st])), (hi, .inr (1, [.ref ra, .int (iZ nx), .int (iZ kp)])), (ra, .inl (cy 2, 6, .inr (.inr (.inr (.inr (qf rw9))))))] sz) H0 H1)) 0 0 (va_A [(xa, .inr (5, [.ref hi, .ref ci, .ref st])), (hi, .inr (1, [.ref ra, .int (iZ nx), .int (iZ kp)])), (ra, .inl (cy 2, 6, .inr (.inr (.inr (.inr (qf rw9))))))] sz) := by
  refine z_head (lv := [(0, .ref xa)]) RX6 (by decide) rfl rfl (Nat.le_of_ble_eq_true rfl) rfl ?_
  intro pr ev s mt below meth cd ls hx hb hr hlocks hml hown hname hts hKK hP hl
  have hK := hKK.1
  obtain ⟨hsz, hP, hD0, hI0, hIA⟩ := hP
  subst hsz
  have hD := hD0.self (sz := s.heap.size)
  generalize hAe : va_A [(xa, .inr (5, [.ref hi, .ref ci, .ref st])), (hi, .inr (1, [.ref ra, .int (iZ nx), .int (iZ kp)])), (ra, .inl (cy 2, 6, .inr (.inr (.inr (.inr (qf rw9))))))] s.heap.size = A at hD hIA ⊢
  have hA : ∀ q : Nat, s.heap.size ≤ q → A q := fun q h => by rw [← hAe]; exact Or.inr h
  have hS : va_S A s.heap s.heap [] := va_S.rf
  have hP : va_P G vwCl [(xa, .inr (5, [.ref hi, .ref ci, .ref st])), (hi, .inr (1, [.ref ra, .int (iZ nx), .int (iZ kp)])), (ra, .inl (cy 2, 6, .inr (.inr (.inr (.inr (qf rw9))))))] s.heap := hP
  have hI : va_P G vwCl [(st, .inr (3, [.ref sl, .ref wo])), (sl, .inr (2, [.int (iZ p), .int (iZ q), .int (iZ c)])), (wo, .inr (4, [.long (lZ b), .int (iZ n)]))] s.heap := hI0
  refine lv_aload_n hx hb dX6_undo_0 rfl (lv_at hl 0 rfl) ?_
  refine va_get (D := G) (ci := 5) (v := .ref hi) (C := RX6) (T := TX6) (N := 3) hx hb hts (by decide +kernel) hown hK hP 0 rfl rfl 0 (by decide) (hts (.fieldLink RX6 10 "SturmianWords" "history" "LSturmianWords$History;") (by decide +kernel)) (fun _ h9 => h9) rfl dX6_undo_1 ?_
  have hPc := hP.sub (ws' := [(hi, .inr (1, [.ref ra, .int (iZ nx), .int (iZ kp)])), (ra, .inl (cy 2, 6, .inr (.inr (.inr (.inr (qf rw9))))))]) [1, 2] rfl
  have hDc := (hD.sub (ws' := [(hi, .inr (1, [.ref ra, .int (iZ nx), .int (iZ kp)])), (ra, .inl (cy 2, 6, .inr (.inr (.inr (.inr (qf rw9))))))]) [1, 2] (by decide) rfl).weaken (B := fun _ => True) (fun _ _ _ _ => trivial)
  have hFc := va_free (wc := [(hi, .inr (1, [.ref ra, .int (iZ nx), .int (iZ kp)])), (ra, .inl (cy 2, 6, .inr (.inr (.inr (.inr (qf rw9))))))]) hD hS hA [1, 2] rfl
  refine z_callE (A := A) (va_runV (As := []) (rest := []) ⟨hx, hb, hml, hown, hts⟩ (c_X1_takeLatest_no lau G cy hi ra s.heap.size nx kp rw9 (by first | omega | assumption) (by first | omega | assumption)) (cwV 0 hts gX6_undo_X1_takeLatest rfl rfl rfl (by decide +kernel) ⟨Nat.le_of_ble_eq_true rfl, Nat.le_of_ble_eq_true rfl⟩) ⟨P1_blind, va_recv hK hP (ci := 1) (q0 := 1) rfl rfl, P1_mk hKK (⟨rfl, hPc, hDc⟩)⟩ rfl rfl hl.1 rfl (lv_room (Nat.le_of_ble_eq_true rfl)) dX6_undo_4 ⟨(show 0 + 0 ≤ 0 by omega), (show 0 + 0 ≤ 0 by omega)⟩) hS.2.2 hFc (fun v H1 locs1 hR hL1 => ?_)
  obtain ⟨rfl, hq4, hP1, hD1, hF1⟩ := hR
  obtain ⟨hP, hD⟩ := va_join (wr := [(xa, .inr (5, [.ref hi, .ref ci, .ref st]))]) (w1 := [(hi, .inr (1, [.ref ra, .int (iZ nx), .int (iZ kp)])), (ra, .inl (cy 2, 6, .inr (.inr (.inr (.inr (qf rw9))))))]) hP hD [1, 2] [0] rfl rfl (by decide) (by decide) hF1.2 hFc hP1 hD1
  have hS : va_S A s.heap H1 locs1 := Fh.S ((Fh.of hS).tr hF1 (fun q _ h => hFc q h)) hL1
  clear hPc hDc hFc hP1 hD1 hF1 hL1
  generalize H1 = H at hP hS ⊢
  have hP : va_P G vwCl [(xa, .inr (5, [.ref hi, .ref ci, .ref st])), (hi, .inr (1, [.ref ra, .int (iZ nx), .int (iZ kp)])), (ra, .inl (cy 2, 6, .inr (.inr (.inr (.inr (qf rw9))))))] H := hP
  have hD : va_D A [(xa, .inr (5, [.ref hi, .ref ci, .ref st])), (hi, .inr (1, [.ref ra, .int (iZ nx), .int (iZ kp)])), (ra, .inl (cy 2, 6, .inr (.inr (.inr (.inr (qf rw9))))))] := hD
  have hP := hP.sub (ws' := [(xa, .inr (5, [.ref hi, .ref ci, .ref st])), (hi, .inr (1, [.ref ra, .int (iZ nx), .int (iZ kp)])), (ra, .inl (cy 2, 6, .inr (.inr (.inr (.inr (qf rw9))))))]) [0, 1, 2] rfl
  have hD := hD.sub (ws' := [(xa, .inr (5, [.ref hi, .ref ci, .ref st])), (hi, .inr (1, [.ref ra, .int (iZ nx), .int (iZ kp)])), (ra, .inl (cy 2, 6, .inr (.inr (.inr (.inr (qf rw9))))))]) [0, 1, 2] (by decide) rfl
  refine W.eq (g2 := F0 mt 7 ls [.null]) rfl ?_
  have hI : va_P G vwCl [(st, .inr (3, [.ref sl, .ref wo])), (sl, .inr (2, [.int (iZ p), .int (iZ q), .int (iZ c)])), (wo, .inr (4, [.long (lZ b), .int (iZ n)]))] H := im_keep2 hI0 hIA (Fh.of hS)
  refine lv_astore_nN (lv' := [(1, .null), (0, .ref xa)]) hx hb dX6_undo_7 rfl hl (by decide) rfl (fun ls hl => ?_)
  refine lv_aload_nN hx hb dX6_undo_8 rfl (lv_at hl 0 rfl) ?_
  refine lv_ifnonnullN hx hb dX6_undo_9 ?_
  refine lv_bipush (v := iZ (-3)) hx hb dX6_undo_12 (by decide +kernel) ?_
  exact z_iretE hx hb hr hlocks dX6_undo_14 hS.2.2 ⟨(show 0 ≤ 0 by omega), (show 0 ≤ 0 by omega)⟩ ⟨(rfl), (trivial), (hP), (hD), Fh.of hS⟩
set_option maxHeartbeats 4000000 in
set_option maxRecDepth 100000 in
theorem c_X6_undo (lau : Launch) (G : va_G) (cy : Nat → ClassId) (xa hi ci st ra sl wo : Nat) (a9 : Nat) (sz : Nat) (nx kp : Int) (rw9 : Int → Option Nat) (p q c b n : Int) (hnx : 0 ≤ nx ∧ nx < 6) (hkp : 1 ≤ kp ∧ kp ≤ 6) (hr9 : rw9 (pvF nx) = some a9) : Met lau yX6_undo wsX6_undo ({ frames := 1, cells := 0, slots := 0, locals := 21 }) (P1 G cy [.ref xa] (fun H => H.size = sz ∧ va_P G vwCl [(xa, .inr (5, [.ref hi, .ref ci, .ref st])), (hi, .inr (1, [.ref ra, .int (iZ nx), .int (iZ kp)])), (ra, .inl (cy 2, 6, .inr (.inr (.inr (.inr (qf rw9))))))] H ∧ va_D (fun _ => True) [(xa, .inr (5, [.ref hi, .ref ci, .ref st])), (hi, .inr (1, [.ref ra, .int (iZ nx), .int (iZ kp)])), (ra, .inl (cy 2, 6, .inr (.inr (.inr (.inr (qf rw9))))))] ∧ va_P G vwCl [(st, .inr (3, [.ref sl, .ref wo])), (sl, .inr (2, [.int (iZ p), .int (iZ q), .int (iZ c)])), (wo, .inr (4, [.long (lZ b), .int (iZ n)]))] H ∧ NA (va_A [(xa, .inr (5, [.ref hi, .ref ci, .ref st])), (hi, .inr (1, [.ref ra, .int (iZ nx), .int (iZ kp)])), (ra, .inl (cy 2, 6, .inr (.inr (.inr (.inr (qf rw9))))))] sz) [(st, .inr (3, [.ref sl, .ref wo])), (sl, .inr (2, [.int (iZ p), .int (iZ q), .int (iZ c)])), (wo, .inr (4, [.long (lZ b), .int (iZ n)]))])) (Q1 (fun rv H0 H1 => rv = some (.int (iZ (kp - 1))) ∧ (True) ∧ va_P G vwCl [(xa, .inr (5, [.ref hi, .ref ci, .ref a9])), (hi, .inr (1, [.ref ra, .int (iZ (pvF nx)), .int (iZ (kp - 1))])), (ra, .inl (cy 2, 6, .inr (.inr (.inr (.inr (qf rw9))))))] H1 ∧ va_D (va_A [(xa, .inr (5, [.ref hi, .ref ci, .ref st])), (hi, .inr (1, [.ref ra, .int (iZ nx), .int (iZ kp)])), (ra, .inl (cy 2, 6, .inr (.inr (.inr (.inr (qf rw9))))))] sz) [(xa, .inr (5, [.ref hi, .ref ci, .ref a9])), (hi, .inr (1, [.ref ra, .int (iZ (pvF nx)), .int (iZ (kp - 1))])), (ra, .inl (cy 2, 6, .inr (.inr (.inr (.inr (qf rw9))))))] ∧ Fh (va_A [(xa, .inr (5, [.ref hi, .ref ci, .ref st])), (hi, .inr (1, [.ref ra, .int (iZ nx), .int (iZ kp)])), (ra, .inl (cy 2, 6, .inr (.inr (.inr (.inr (qf rw9))))))] sz) H0 H1)) 0 0 (va_A [(xa, .inr (5, [.ref hi, .ref ci, .ref st])), (hi, .inr (1, [.ref ra, .int (iZ nx), .int (iZ kp)])), (ra, .inl (cy 2, 6, .inr (.inr (.inr (.inr (qf rw9))))))] sz) := by
  refine z_head (lv := [(0, .ref xa)]) RX6 (by decide) rfl rfl (Nat.le_of_ble_eq_true rfl) rfl ?_
  intro pr ev s mt below meth cd ls hx hb hr hlocks hml hown hname hts hKK hP hl
  have hK := hKK.1
  obtain ⟨hsz, hP, hD0, hI0, hIA⟩ := hP
  subst hsz
  have hD := hD0.self (sz := s.heap.size)
  generalize hAe : va_A [(xa, .inr (5, [.ref hi, .ref ci, .ref st])), (hi, .inr (1, [.ref ra, .int (iZ nx), .int (iZ kp)])), (ra, .inl (cy 2, 6, .inr (.inr (.inr (.inr (qf rw9))))))] s.heap.size = A at hD hIA ⊢
  have hA : ∀ q : Nat, s.heap.size ≤ q → A q := fun q h => by rw [← hAe]; exact Or.inr h
  have hS : va_S A s.heap s.heap [] := va_S.rf
  have hP : va_P G vwCl [(xa, .inr (5, [.ref hi, .ref ci, .ref st])), (hi, .inr (1, [.ref ra, .int (iZ nx), .int (iZ kp)])), (ra, .inl (cy 2, 6, .inr (.inr (.inr (.inr (qf rw9))))))] s.heap := hP
  have hI : va_P G vwCl [(st, .inr (3, [.ref sl, .ref wo])), (sl, .inr (2, [.int (iZ p), .int (iZ q), .int (iZ c)])), (wo, .inr (4, [.long (lZ b), .int (iZ n)]))] s.heap := hI0
  refine lv_aload_n hx hb dX6_undo_0 rfl (lv_at hl 0 rfl) ?_
  refine va_get (D := G) (ci := 5) (v := .ref hi) (C := RX6) (T := TX6) (N := 3) hx hb hts (by decide +kernel) hown hK hP 0 rfl rfl 0 (by decide) (hts (.fieldLink RX6 10 "SturmianWords" "history" "LSturmianWords$History;") (by decide +kernel)) (fun _ h9 => h9) rfl dX6_undo_1 ?_
  have hPc := hP.sub (ws' := [(hi, .inr (1, [.ref ra, .int (iZ nx), .int (iZ kp)])), (ra, .inl (cy 2, 6, .inr (.inr (.inr (.inr (qf rw9))))))]) [1, 2] rfl
  have hDc := (hD.sub (ws' := [(hi, .inr (1, [.ref ra, .int (iZ nx), .int (iZ kp)])), (ra, .inl (cy 2, 6, .inr (.inr (.inr (.inr (qf rw9))))))]) [1, 2] (by decide) rfl).weaken (B := fun _ => True) (fun _ _ _ _ => trivial)
  have hFc := va_free (wc := [(hi, .inr (1, [.ref ra, .int (iZ nx), .int (iZ kp)])), (ra, .inl (cy 2, 6, .inr (.inr (.inr (.inr (qf rw9))))))]) hD hS hA [1, 2] rfl
  refine z_callE (A := A) (va_runV (As := []) (rest := []) ⟨hx, hb, hml, hown, hts⟩ (c_X1_takeLatest lau G cy hi ra a9 s.heap.size nx kp rw9 (by first | omega | assumption) (by first | omega | assumption) (by first | omega | assumption)) (cwV 0 hts gX6_undo_X1_takeLatest rfl rfl rfl (by decide +kernel) ⟨Nat.le_of_ble_eq_true rfl, Nat.le_of_ble_eq_true rfl⟩) ⟨P1_blind, va_recv hK hP (ci := 1) (q0 := 1) rfl rfl, P1_mk hKK (⟨rfl, hPc, hDc⟩)⟩ rfl rfl hl.1 rfl (lv_room (Nat.le_of_ble_eq_true rfl)) dX6_undo_4 ⟨(show 0 + 0 ≤ 0 by omega), (show 0 + 0 ≤ 0 by omega)⟩) hS.2.2 hFc (fun v H1 locs1 hR hL1 => ?_)
  obtain ⟨rfl, hq4, hP1, hD1, hF1⟩ := hR
  obtain ⟨hP, hD⟩ := va_join (wr := [(xa, .inr (5, [.ref hi, .ref ci, .ref st]))]) (w1 := [(hi, .inr (1, [.ref ra, .int (iZ (pvF nx)), .int (iZ (kp - 1))])), (ra, .inl (cy 2, 6, .inr (.inr (.inr (.inr (qf rw9))))))]) hP hD [1, 2] [0] rfl rfl (by decide) (by decide) hF1.2 hFc hP1 hD1
  have hS : va_S A s.heap H1 locs1 := Fh.S ((Fh.of hS).tr hF1 (fun q _ h => hFc q h)) hL1
  clear hPc hDc hFc hP1 hD1 hF1 hL1
  generalize H1 = H at hP hS ⊢
  have hP : va_P G vwCl [(xa, .inr (5, [.ref hi, .ref ci, .ref st])), (hi, .inr (1, [.ref ra, .int (iZ (pvF nx)), .int (iZ (kp - 1))])), (ra, .inl (cy 2, 6, .inr (.inr (.inr (.inr (qf rw9))))))] H := hP
  have hD : va_D A [(xa, .inr (5, [.ref hi, .ref ci, .ref st])), (hi, .inr (1, [.ref ra, .int (iZ (pvF nx)), .int (iZ (kp - 1))])), (ra, .inl (cy 2, 6, .inr (.inr (.inr (.inr (qf rw9))))))] := hD
  have hP := hP.sub (ws' := [(xa, .inr (5, [.ref hi, .ref ci, .ref st])), (hi, .inr (1, [.ref ra, .int (iZ (pvF nx)), .int (iZ (kp - 1))])), (ra, .inl (cy 2, 6, .inr (.inr (.inr (.inr (qf rw9))))))]) [0, 1, 2] rfl
  have hD := hD.sub (ws' := [(xa, .inr (5, [.ref hi, .ref ci, .ref st])), (hi, .inr (1, [.ref ra, .int (iZ (pvF nx)), .int (iZ (kp - 1))])), (ra, .inl (cy 2, 6, .inr (.inr (.inr (.inr (qf rw9))))))]) [0, 1, 2] (by decide) rfl
  refine W.eq (g2 := F0 mt 7 ls [.ref a9]) rfl ?_
  have hI : va_P G vwCl [(st, .inr (3, [.ref sl, .ref wo])), (sl, .inr (2, [.int (iZ p), .int (iZ q), .int (iZ c)])), (wo, .inr (4, [.long (lZ b), .int (iZ n)]))] H := im_keep2 hI0 hIA (Fh.of hS)
  refine lv_astore_n (lv' := [(1, .ref a9), (0, .ref xa)]) hx hb dX6_undo_7 rfl hl (by decide) rfl (fun ls hl => ?_)
  refine lv_aload_n hx hb dX6_undo_8 rfl (lv_at hl 0 rfl) ?_
  refine lv_ifnonnull (tgt := 15) hx hb dX6_undo_9 (by decide) ?_
  refine lv_aload_n hx hb dX6_undo_15 rfl (lv_at hl 1 rfl) ?_
  refine lv_aload_n hx hb dX6_undo_16 rfl (lv_at hl 0 rfl) ?_
  refine va_put (D := G) (ci := 5) (v := .ref a9) (ty := .object "SturmianWords$State") (C := RX6) (T := TX6) (N := 3) hx hb hts (by decide +kernel) tyX6 tyX6_ok nmX6 hown hK hP hD hS 0 rfl rfl 2 (by decide) (hts (.fieldLink RX6 38 "SturmianWords" "state" "LSturmianWords$State;") (by decide +kernel)) (fun _ h9 => h9) rfl (by decide +kernel) rfl rfl (Nat.le_of_ble_eq_true rfl) dX6_undo_17 (fun H locs hP hD hS => ?_)
  have hP : va_P G vwCl [(xa, .inr (5, [.ref hi, .ref ci, .ref a9])), (hi, .inr (1, [.ref ra, .int (iZ (pvF nx)), .int (iZ (kp - 1))])), (ra, .inl (cy 2, 6, .inr (.inr (.inr (.inr (qf rw9))))))] H := hP
  have hD : va_D A [(xa, .inr (5, [.ref hi, .ref ci, .ref a9])), (hi, .inr (1, [.ref ra, .int (iZ (pvF nx)), .int (iZ (kp - 1))])), (ra, .inl (cy 2, 6, .inr (.inr (.inr (.inr (qf rw9))))))] := hD
  have hI : va_P G vwCl [(st, .inr (3, [.ref sl, .ref wo])), (sl, .inr (2, [.int (iZ p), .int (iZ q), .int (iZ c)])), (wo, .inr (4, [.long (lZ b), .int (iZ n)]))] H := im_keep2 hI0 hIA (Fh.of hS)
  refine lv_aload_n hx hb dX6_undo_20 rfl (lv_at hl 1 rfl) ?_
  refine va_get (D := G) (ci := 5) (v := .ref hi) (C := RX6) (T := TX6) (N := 3) hx hb hts (by decide +kernel) hown hK hP 0 rfl rfl 0 (by decide) (hts (.fieldLink RX6 10 "SturmianWords" "history" "LSturmianWords$History;") (by decide +kernel)) (fun _ h9 => h9) rfl dX6_undo_21 ?_
  refine va_getN (D := G) (ci := 1) (v := .int (iZ (kp - 1))) (C := RX1) (T := TX1) (N := 3) hx hb hts (by decide +kernel) hown hK hP 1 rfl rfl 2 (by decide) (va_Nw.use rfl (hKK.2 (.fieldLinkNest RX6 127 "SturmianWords$History" "kept" "I" "SturmianWords") (by decide +kernel))) (fun _ h9 => h9) rfl dX6_undo_24 ?_
  exact z_iretE hx hb hr hlocks dX6_undo_27 hS.2.2 ⟨(show 0 ≤ 0 by omega), (show 0 ≤ 0 by omega)⟩ ⟨(rfl), (trivial), (hP), (hD), Fh.of hS⟩
set_option maxHeartbeats 4000000 in
set_option maxRecDepth 100000 in
theorem c_X6_palindromeCount (lau : Launch) (G : va_G) (cy : Nat → ClassId) (xa hi ci st sl wo : Nat) (sz : Nat) (p q c b n : Int) (hn : 0 ≤ n ∧ n ≤ 60) (hw : 0 ≤ b ∧ b < pw n) : Met lau yX6_palindromeCount wsX6_palindromeCount ({ frames := 4, cells := 1, slots := 3, locals := 86 }) (P1 G cy [.ref xa] (fun H => H.size = sz ∧ va_P G vwCl [] H ∧ va_D (fun _ => True) [] ∧ va_P G vwCl [(xa, .inr (5, [.ref hi, .ref ci, .ref st])), (st, .inr (3, [.ref sl, .ref wo])), (sl, .inr (2, [.int (iZ p), .int (iZ q), .int (iZ c)])), (wo, .inr (4, [.long (lZ b), .int (iZ n)]))] H ∧ NA (va_A [] sz) [(xa, .inr (5, [.ref hi, .ref ci, .ref st])), (st, .inr (3, [.ref sl, .ref wo])), (sl, .inr (2, [.int (iZ p), .int (iZ q), .int (iZ c)])), (wo, .inr (4, [.long (lZ b), .int (iZ n)]))])) (Q1 (fun rv H0 H1 => rv = some (.int (iZ (1 + sm (fun f => cnt (fun k => palC b n k (f + 1) ∧ newP b n k (f + 1)) (n - f)) n))) ∧ (True) ∧ va_P G vwCl [] H1 ∧ va_D (va_A [] sz) [] ∧ Fh (va_A [] sz) H0 H1)) 1 3 (va_A [] sz) := by
  refine z_head (lv := [(0, .ref xa)]) RX6 (by decide) rfl rfl (Nat.le_of_ble_eq_true rfl) rfl ?_
  intro pr ev s mt below meth cd ls hx hb hr hlocks hml hown hname hts hKK hP hl
  have hK := hKK.1
  obtain ⟨hsz, hP, hD0, hI0, hIA⟩ := hP
  subst hsz
  have hD := hD0.self (sz := s.heap.size)
  generalize hAe : va_A [] s.heap.size = A at hD hIA ⊢
  have hA : ∀ q : Nat, s.heap.size ≤ q → A q := fun q h => by rw [← hAe]; exact Or.inr h
  have hS : va_S A s.heap s.heap [] := va_S.rf
  have hP : va_P G vwCl [] s.heap := hP
  have hI : va_P G vwCl [(xa, .inr (5, [.ref hi, .ref ci, .ref st])), (st, .inr (3, [.ref sl, .ref wo])), (sl, .inr (2, [.int (iZ p), .int (iZ q), .int (iZ c)])), (wo, .inr (4, [.long (lZ b), .int (iZ n)]))] s.heap := hI0
  refine lv_aload_n hx hb dX6_palindromeCount_0 rfl (lv_at hl 0 rfl) ?_
  refine va_get (D := G) (ci := 5) (v := .ref st) (C := RX6) (T := TX6) (N := 3) hx hb hts (by decide +kernel) hown hK hI 0 rfl rfl 2 (by decide) (hts (.fieldLink RX6 38 "SturmianWords" "state" "LSturmianWords$State;") (by decide +kernel)) (fun _ h9 => h9) rfl dX6_palindromeCount_1 ?_
  refine va_getN (D := G) (ci := 3) (v := .ref wo) (C := RX4) (T := TX4) (N := 2) hx hb hts (by decide +kernel) hown hK hI 1 rfl rfl 1 (by decide) (va_Nw.use rfl (hKK.2 (.fieldLinkNest RX6 96 "SturmianWords$State" "word" "LSturmianWords$Word;" "SturmianWords") (by decide +kernel))) (fun _ h9 => h9) rfl dX6_palindromeCount_4 ?_
  have hPc := hP.sub (ws' := []) [] rfl
  have hDc := (hD.sub (ws' := []) [] (by decide) rfl).weaken (B := fun _ => True) (fun _ _ _ _ => trivial)
  have hFc := va_free (wc := []) hD hS hA [] rfl
  have hIc : va_P G vwCl [(wo, .inr (4, [.long (lZ b), .int (iZ n)]))] s.heap := (hI.sub (ws' := [(wo, .inr (4, [.long (lZ b), .int (iZ n)]))]) [3] rfl)
  have hIAc : NA (va_A [] s.heap.size) [(wo, .inr (4, [.long (lZ b), .int (iZ n)]))] := NA.cons (fun z => hIA.at 3 rfl (hFc _ z)) (NA.nil)
  refine z_callE (A := A) (va_runV (As := []) (rest := []) ⟨hx, hb, hml, hown, hts⟩ (c_X5_differentPalindromes lau G cy wo s.heap.size b n (by first | omega | assumption) (by first | omega | assumption)) (cwV 0 hts gX6_palindromeCount_X5_differentPalindromes rfl rfl rfl (by decide +kernel) ⟨Nat.le_of_ble_eq_true rfl, Nat.le_of_ble_eq_true rfl⟩) ⟨P1_blind, va_recv hK hI (ci := 4) (q0 := 3) rfl rfl, P1_mk hKK (⟨rfl, hPc, hDc, hIc, hIAc⟩)⟩ rfl rfl hl.1 rfl (lv_room (Nat.le_of_ble_eq_true rfl)) dX6_palindromeCount_7 ⟨(show 0 + 1 ≤ 1 by omega), (show 0 + 2 ≤ 3 by omega)⟩) hS.2.2 hFc (fun v H1 locs1 hR hL1 => ?_)
  obtain ⟨rfl, hq7, hP1, hD1, hF1⟩ := hR
  obtain ⟨hP, hD⟩ := va_join (wr := []) (w1 := []) hP hD [] [] rfl rfl (by decide) (by decide) hF1.2 hFc hP1 hD1
  have hS : va_S A s.heap H1 locs1 := Fh.S ((Fh.of hS).tr hF1 (fun q _ h => hFc q h)) hL1
  clear hPc hDc hFc hP1 hD1 hF1 hL1 hIc hIAc
  generalize H1 = H at hP hS ⊢
  have hP : va_P G vwCl [] H := hP
  have hD : va_D A [] := hD
  refine W.eq (g2 := F0 mt 10 ls [.int (iZ (1 + sm (fun f => cnt (fun k => palC b n k (f + 1) ∧ newP b n k (f + 1)) (n - f)) n))]) rfl ?_
  have hI : va_P G vwCl [(xa, .inr (5, [.ref hi, .ref ci, .ref st])), (st, .inr (3, [.ref sl, .ref wo])), (sl, .inr (2, [.int (iZ p), .int (iZ q), .int (iZ c)])), (wo, .inr (4, [.long (lZ b), .int (iZ n)]))] H := im_keep2 hI0 hIA (Fh.of hS)
  exact z_iretE hx hb hr hlocks dX6_palindromeCount_10 hS.2.2 ⟨(show 1 ≤ 1 by omega), (show 2 ≤ 3 by omega)⟩ ⟨(rfl), (trivial), (hP), (hD), Fh.of hS⟩
set_option maxHeartbeats 4000000 in
set_option maxRecDepth 100000 in
theorem c_X6_longestPalindromicPrefix (lau : Launch) (G : va_G) (cy : Nat → ClassId) (xa hi ci st sl wo : Nat) (sz : Nat) (p q c b n : Int) (hn : 0 ≤ n ∧ n ≤ 60) (hw : 0 ≤ b ∧ b < pw n) : Met lau yX6_longestPalindromicPrefix wsX6_longestPalindromicPrefix ({ frames := 3, cells := 1, slots := 3, locals := 62 }) (P1 G cy [.ref xa] (fun H => H.size = sz ∧ va_P G vwCl [] H ∧ va_D (fun _ => True) [] ∧ va_P G vwCl [(xa, .inr (5, [.ref hi, .ref ci, .ref st])), (st, .inr (3, [.ref sl, .ref wo])), (sl, .inr (2, [.int (iZ p), .int (iZ q), .int (iZ c)])), (wo, .inr (4, [.long (lZ b), .int (iZ n)]))] H ∧ NA (va_A [] sz) [(xa, .inr (5, [.ref hi, .ref ci, .ref st])), (st, .inr (3, [.ref sl, .ref wo])), (sl, .inr (2, [.int (iZ p), .int (iZ q), .int (iZ c)])), (wo, .inr (4, [.long (lZ b), .int (iZ n)]))])) (Q1 (fun rv H0 H1 => rv = some (.int (iZ (n - fnd (fun k => palC b n 0 (n - k)) (n + 1)))) ∧ (True) ∧ va_P G vwCl [] H1 ∧ va_D (va_A [] sz) [] ∧ Fh (va_A [] sz) H0 H1)) 1 3 (va_A [] sz) := by
  refine z_head (lv := [(0, .ref xa)]) RX6 (by decide) rfl rfl (Nat.le_of_ble_eq_true rfl) rfl ?_
  intro pr ev s mt below meth cd ls hx hb hr hlocks hml hown hname hts hKK hP hl
  have hK := hKK.1
  obtain ⟨hsz, hP, hD0, hI0, hIA⟩ := hP
  subst hsz
  have hD := hD0.self (sz := s.heap.size)
  generalize hAe : va_A [] s.heap.size = A at hD hIA ⊢
  have hA : ∀ q : Nat, s.heap.size ≤ q → A q := fun q h => by rw [← hAe]; exact Or.inr h
  have hS : va_S A s.heap s.heap [] := va_S.rf
  have hP : va_P G vwCl [] s.heap := hP
  have hI : va_P G vwCl [(xa, .inr (5, [.ref hi, .ref ci, .ref st])), (st, .inr (3, [.ref sl, .ref wo])), (sl, .inr (2, [.int (iZ p), .int (iZ q), .int (iZ c)])), (wo, .inr (4, [.long (lZ b), .int (iZ n)]))] s.heap := hI0
  have hp61 := pw_61 hn.2
  have hrv : 0 ≤ rvB b n ∧ rvB b n < pw n := nat_r (P := fun k => 0 ≤ rvB b k ∧ rvB b k < pw k) (rvB_r (b := b)) hn.1
  refine lv_aload_n hx hb dX6_longestPalindromicPrefix_0 rfl (lv_at hl 0 rfl) ?_
  refine va_get (D := G) (ci := 5) (v := .ref st) (C := RX6) (T := TX6) (N := 3) hx hb hts (by decide +kernel) hown hK hI 0 rfl rfl 2 (by decide) (hts (.fieldLink RX6 38 "SturmianWords" "state" "LSturmianWords$State;") (by decide +kernel)) (fun _ h9 => h9) rfl dX6_longestPalindromicPrefix_1 ?_
  refine va_getN (D := G) (ci := 3) (v := .ref wo) (C := RX4) (T := TX4) (N := 2) hx hb hts (by decide +kernel) hown hK hI 1 rfl rfl 1 (by decide) (va_Nw.use rfl (hKK.2 (.fieldLinkNest RX6 96 "SturmianWords$State" "word" "LSturmianWords$Word;" "SturmianWords") (by decide +kernel))) (fun _ h9 => h9) rfl dX6_longestPalindromicPrefix_4 ?_
  refine lv_astore_n (lv' := [(1, .ref wo), (0, .ref xa)]) hx hb dX6_longestPalindromicPrefix_7 rfl hl (by decide) rfl (fun ls hl => ?_)
  refine lv_aload_n hx hb dX6_longestPalindromicPrefix_8 rfl (lv_at hl 0 rfl) ?_
  have hPc := hP.sub (ws' := []) [] rfl
  have hDc := (hD.sub (ws' := []) [] (by decide) rfl).weaken (B := fun _ => True) (fun _ _ _ _ => trivial)
  have hFc := va_free (wc := []) hD hS hA [] rfl
  have hIc : va_P G vwCl [(wo, .inr (4, [.long (lZ b), .int (iZ n)]))] s.heap := (hI.sub (ws' := [(wo, .inr (4, [.long (lZ b), .int (iZ n)]))]) [3] rfl)
  have hIAc : NA (va_A [] s.heap.size) [(wo, .inr (4, [.long (lZ b), .int (iZ n)]))] := NA.cons (fun z => hIA.at 3 rfl (hFc _ z)) (NA.nil)
  refine z_callE (A := A) (va_runV (As := []) (rest := []) ⟨hx, hb, hml, hown, hts⟩ (c_X5_reversed lau G cy wo s.heap.size b n (by first | omega | assumption) (by first | omega | assumption)) (cwV 0 hts gX6_longestPalindromicPrefix_X5_reversed rfl rfl rfl (by decide +kernel) ⟨Nat.le_of_ble_eq_true rfl, Nat.le_of_ble_eq_true rfl⟩) ⟨P1_blind, va_recv hK hI (ci := 4) (q0 := 3) rfl rfl, P1_mk hKK (⟨rfl, hPc, hDc, hIc, hIAc⟩)⟩ rfl rfl hl.1 rfl (lv_room (Nat.le_of_ble_eq_true rfl)) dX6_longestPalindromicPrefix_9 ⟨(show 0 + 1 ≤ 1 by omega), (show 0 + 2 ≤ 3 by omega)⟩) hS.2.2 hFc (fun v H1 locs1 hR hL1 => ?_)
  obtain ⟨qo_9, rfl, hq9, hP1, hD1, hF1⟩ := hR
  obtain ⟨hP, hD⟩ := va_join (wr := []) (w1 := [(qo_9, .inr (4, [.long (lZ (rvB b n)), .int (iZ n)]))]) hP hD [] [] rfl rfl (by decide) (by decide) hF1.2 hFc hP1 hD1
  have hS : va_S A s.heap H1 locs1 := Fh.S ((Fh.of hS).tr hF1 (fun q _ h => hFc q h)) hL1
  clear hPc hDc hFc hP1 hD1 hF1 hL1 hIc hIAc
  generalize H1 = H at hP hS ⊢
  have hP : va_P G vwCl [(qo_9, .inr (4, [.long (lZ (rvB b n)), .int (iZ n)]))] H := hP
  have hD : va_D A [(qo_9, .inr (4, [.long (lZ (rvB b n)), .int (iZ n)]))] := hD
  refine W.eq (g2 := F0 mt 12 ls [.ref qo_9]) rfl ?_
  have hI : va_P G vwCl [(xa, .inr (5, [.ref hi, .ref ci, .ref st])), (st, .inr (3, [.ref sl, .ref wo])), (sl, .inr (2, [.int (iZ p), .int (iZ q), .int (iZ c)])), (wo, .inr (4, [.long (lZ b), .int (iZ n)]))] H := im_keep2 hI0 hIA (Fh.of hS)
  refine lv_astore_n (lv' := [(2, .ref qo_9), (1, .ref wo), (0, .ref xa)]) hx hb dX6_longestPalindromicPrefix_12 rfl hl (by decide) rfl (fun ls hl => ?_)
  refine lv_aload_n hx hb dX6_longestPalindromicPrefix_13 rfl (lv_at hl 1 rfl) ?_
  refine va_getN (D := G) (ci := 4) (v := .int (iZ n)) (C := RX5) (T := TX5) (N := 2) hx hb hts (by decide +kernel) hown hK hI 3 rfl rfl 1 (by decide) (va_Nw.use rfl (hKK.2 (.fieldLinkNest RX6 93 "SturmianWords$Word" "size" "I" "SturmianWords") (by decide +kernel))) (fun _ h9 => h9) rfl dX6_longestPalindromicPrefix_14 ?_
  refine lv_istore_n (lv' := [(3, .int (iZ n)), (2, .ref qo_9), (1, .ref wo), (0, .ref xa)]) hx hb dX6_longestPalindromicPrefix_17 rfl hl (by decide) rfl (fun ls hl => ?_)
  refine z_loop1 (nL := 4) (fun (m : Int) => [(0, .ref xa), (1, .ref wo), (2, .ref qo_9), (3, .int (iZ m))]) (fun (m : Int) => (0 ≤ m ∧ m ≤ n) ∧ (fnd (fun k => palC b n 0 (n - k)) (n - m) = -1)) (fun (m : Int) => m) (a1 := n) ⟨(by omega), (fnd_eq (N := n - n) (fnd_0 (Int.le_refl 0)) (by omega))⟩ (lv_sub hl [3, 2, 1, 0] rfl) ?_
  rintro m ⟨i1, i2⟩ ih_18 ls hl
  refine lv_iload_n hx hb dX6_longestPalindromicPrefix_18 rfl (lv_at hl 3 rfl) ?_
  refine z_if_le (tgt := 40) hx hb dX6_longestPalindromicPrefix_19 (by decide) (by omega) (fun c_19 => ?_) (fun c_19 => ?_)
  · refine lv_iconst (v := iZ 0) hx hb dX6_longestPalindromicPrefix_40 rfl ?_
    have hP := hP.sub (ws' := []) [] rfl
    have hD := hD.sub (ws' := []) [] (by decide) rfl
    exact z_iretE hx hb hr hlocks dX6_longestPalindromicPrefix_41 hS.2.2 ⟨(show 1 ≤ 1 by omega), (show 2 ≤ 3 by omega)⟩ ⟨(sI (by rw [fnd_hit (P := fun k => palC b n 0 (n - k)) (i := n - m) (by omega) i2 (by rw [show n - (n - m) = 0 by omega]; unfold palC; rw [fct_0, fct_0]) (by omega)]; omega)), (trivial), (hP), (hD), Fh.of hS⟩
  · refine lv_aload_n hx hb dX6_longestPalindromicPrefix_22 rfl (lv_at hl 1 rfl) ?_
    refine lv_iconst (v := iZ 0) hx hb dX6_longestPalindromicPrefix_23 rfl ?_
    refine lv_iload_n hx hb dX6_longestPalindromicPrefix_24 rfl (lv_at hl 3 rfl) ?_
    refine lv_aload_n hx hb dX6_longestPalindromicPrefix_25 rfl (lv_at hl 2 rfl) ?_
    refine z_calli (va_runV (As := [.int (iZ 0), .int (iZ m), .ref qo_9]) (rest := []) ⟨hx, hb, hml, hown, hts⟩ (c_X5_isPalindrome lau G cy wo qo_9 b n 0 m (rvB b n) (by first | omega | assumption) (by first | omega | assumption) (by first | omega | assumption) (by first | omega | assumption) (by first | omega | assumption) (by first | omega | assumption)) (cwV 3 hts gX6_longestPalindromicPrefix_X5_isPalindrome rfl rfl rfl (by decide +kernel) ⟨Nat.le_of_ble_eq_true rfl, Nat.le_of_ble_eq_true rfl⟩) ⟨P1_blind, va_recv hK hI (ci := 4) (q0 := 3) rfl rfl, P1_mk hKK (((hI.sub (ws' := [(wo, .inr (4, [.long (lZ b), .int (iZ n)]))]) [3] rfl).app (hP.sub (ws' := [(qo_9, .inr (4, [.long (lZ (rvB b n)), .int (iZ n)]))]) [0] rfl)))⟩ rfl rfl hl.1 rfl (lv_room (Nat.le_of_ble_eq_true rfl)) dX6_longestPalindromicPrefix_26 ⟨(show 1 + 0 ≤ 1 by omega), (show 2 + 0 ≤ 3 by omega)⟩) ?_
    refine z_ifB_eq (tgt := 34) hx hb dX6_longestPalindromicPrefix_29 (by decide) (fun c_29 => ?_) (fun c_29 => ?_)
    · refine lv_iinc (v := iZ (m + (-1))) (lv' := [(3, .int (iZ (m + (-1)))), (0, .ref xa), (1, .ref wo), (2, .ref qo_9)]) hx hb dX6_longestPalindromicPrefix_34 hl (k := 3) rfl (iZ_add _ _) (by decide) rfl (fun ls hl => ?_)
      refine lv_goto (tgt := 18) hx hb dX6_longestPalindromicPrefix_37 (by decide) ?_
      exact ih_18 (m + (-1)) ⟨(by omega), (fnd_eq (fnd_miss (i := n - m) (by omega) i2 (by rw [show n - (n - m) = m by omega]; exact c_29)) (by omega))⟩ ⟨by omega, by omega⟩ _ (lv_sub hl [1, 2, 3, 0] rfl)
    · refine lv_iload_n hx hb dX6_longestPalindromicPrefix_32 rfl (lv_at hl 3 rfl) ?_
      have hP := hP.sub (ws' := []) [] rfl
      have hD := hD.sub (ws' := []) [] (by decide) rfl
      exact z_iretE hx hb hr hlocks dX6_longestPalindromicPrefix_33 hS.2.2 ⟨(show 1 ≤ 1 by omega), (show 2 ≤ 3 by omega)⟩ ⟨(sI (by rw [fnd_hit (P := fun k => palC b n 0 (n - k)) (i := n - m) (by omega) i2 (by rw [show n - (n - m) = m by omega]; exact c_29) (by omega)]; omega)), (trivial), (hP), (hD), Fh.of hS⟩
set_option maxHeartbeats 4000000 in
set_option maxRecDepth 100000 in
theorem c_X6_simplestSlope_no (lau : Launch) (G : va_G) (cy : Nat → ClassId) (xa hi ci st sl wo : Nat) (sz : Nat) (p q c b n : Int) (pa : Int) (h1 : -2147483648 ≤ pa ∧ pa < 2147483648) (h2 : ¬ (0 ≤ pa ∧ pa ≤ 2)) : Met lau yX6_simplestSlope wsX6_simplestSlope ({ frames := 4, cells := 1, slots := 3, locals := 93 }) (P1 G cy [.ref xa, .int (iZ pa)] (fun H => H.size = sz ∧ va_P G vwCl [] H ∧ va_D (fun _ => True) [] ∧ va_P G vwCl [(xa, .inr (5, [.ref hi, .ref ci, .ref st])), (st, .inr (3, [.ref sl, .ref wo])), (sl, .inr (2, [.int (iZ p), .int (iZ q), .int (iZ c)])), (wo, .inr (4, [.long (lZ b), .int (iZ n)]))] H ∧ NA (va_A [] sz) [(xa, .inr (5, [.ref hi, .ref ci, .ref st])), (st, .inr (3, [.ref sl, .ref wo])), (sl, .inr (2, [.int (iZ p), .int (iZ q), .int (iZ c)])), (wo, .inr (4, [.long (lZ b), .int (iZ n)]))])) (Q1 (fun rv H0 H1 => rv = some (.int (iZ (-1))) ∧ (True) ∧ va_P G vwCl [] H1 ∧ va_D (va_A [] sz) [] ∧ Fh (va_A [] sz) H0 H1)) 1 3 (va_A [] sz) := by
  refine z_head (lv := [(0, .ref xa), (1, .int (iZ pa))]) RX6 (by decide) rfl rfl (Nat.le_of_ble_eq_true rfl) rfl ?_
  intro pr ev s mt below meth cd ls hx hb hr hlocks hml hown hname hts hKK hP hl
  have hK := hKK.1
  obtain ⟨hsz, hP, hD0, hI0, hIA⟩ := hP
  subst hsz
  have hD := hD0.self (sz := s.heap.size)
  generalize hAe : va_A [] s.heap.size = A at hD hIA ⊢
  have hA : ∀ q : Nat, s.heap.size ≤ q → A q := fun q h => by rw [← hAe]; exact Or.inr h
  have hS : va_S A s.heap s.heap [] := va_S.rf
  have hP : va_P G vwCl [] s.heap := hP
  have hI : va_P G vwCl [(xa, .inr (5, [.ref hi, .ref ci, .ref st])), (st, .inr (3, [.ref sl, .ref wo])), (sl, .inr (2, [.int (iZ p), .int (iZ q), .int (iZ c)])), (wo, .inr (4, [.long (lZ b), .int (iZ n)]))] s.heap := hI0
  refine lv_iload_n hx hb dX6_simplestSlope_0 rfl (lv_at hl 1 rfl) ?_
  refine z_if_lt (tgt := 9) hx hb dX6_simplestSlope_1 (by decide) (by omega) (fun c_1 => ?_) (fun c_1 => ?_)
  · refine lv_iconst (v := iZ (-1)) hx hb dX6_simplestSlope_9 rfl ?_
    exact z_iretE hx hb hr hlocks dX6_simplestSlope_10 hS.2.2 ⟨(show 0 ≤ 1 by omega), (show 0 ≤ 3 by omega)⟩ ⟨(rfl), (trivial), (hP), (hD), Fh.of hS⟩
  · refine lv_iload_n hx hb dX6_simplestSlope_4 rfl (lv_at hl 1 rfl) ?_
    refine lv_iconst (v := iZ 2) hx hb dX6_simplestSlope_5 rfl ?_
    refine z_icmp_le (tgt := 11) hx hb dX6_simplestSlope_6 (by decide) (by omega) (fun c_6 => ?_) (fun c_6 => ?_)
    · exfalso; omega
    · refine lv_iconst (v := iZ (-1)) hx hb dX6_simplestSlope_9 rfl ?_
      exact z_iretE hx hb hr hlocks dX6_simplestSlope_10 hS.2.2 ⟨(show 0 ≤ 1 by omega), (show 0 ≤ 3 by omega)⟩ ⟨(rfl), (trivial), (hP), (hD), Fh.of hS⟩
set_option maxHeartbeats 4000000 in
set_option maxRecDepth 100000 in
theorem c_X6_simplestSlope_no3 (lau : Launch) (G : va_G) (cy : Nat → ClassId) (xa hi ci st sl wo : Nat) (sz : Nat) (p q c b n : Int) (pa : Int) (hn : 0 ≤ n ∧ n ≤ 60) (hb2 : 0 ≤ b ∧ b < 2305843009213693952) (h2 : 0 ≤ pa ∧ pa ≤ 2) (h3 : ciB b n = -1) : Met lau yX6_simplestSlope wsX6_simplestSlope ({ frames := 4, cells := 1, slots := 3, locals := 93 }) (P1 G cy [.ref xa, .int (iZ pa)] (fun H => H.size = sz ∧ va_P G vwCl [] H ∧ va_D (fun _ => True) [] ∧ va_P G vwCl [(xa, .inr (5, [.ref hi, .ref ci, .ref st])), (st, .inr (3, [.ref sl, .ref wo])), (sl, .inr (2, [.int (iZ p), .int (iZ q), .int (iZ c)])), (wo, .inr (4, [.long (lZ b), .int (iZ n)]))] H ∧ NA (va_A [] sz) [(xa, .inr (5, [.ref hi, .ref ci, .ref st])), (st, .inr (3, [.ref sl, .ref wo])), (sl, .inr (2, [.int (iZ p), .int (iZ q), .int (iZ c)])), (wo, .inr (4, [.long (lZ b), .int (iZ n)]))])) (Q1 (fun rv H0 H1 => rv = some (.int (iZ (-3))) ∧ (True) ∧ va_P G vwCl [] H1 ∧ va_D (va_A [] sz) [] ∧ Fh (va_A [] sz) H0 H1)) 1 3 (va_A [] sz) := by
  refine z_head (lv := [(0, .ref xa), (1, .int (iZ pa))]) RX6 (by decide) rfl rfl (Nat.le_of_ble_eq_true rfl) rfl ?_
  intro pr ev s mt below meth cd ls hx hb hr hlocks hml hown hname hts hKK hP hl
  have hK := hKK.1
  obtain ⟨hsz, hP, hD0, hI0, hIA⟩ := hP
  subst hsz
  have hD := hD0.self (sz := s.heap.size)
  generalize hAe : va_A [] s.heap.size = A at hD hIA ⊢
  have hA : ∀ q : Nat, s.heap.size ≤ q → A q := fun q h => by rw [← hAe]; exact Or.inr h
  have hS : va_S A s.heap s.heap [] := va_S.rf
  have hP : va_P G vwCl [] s.heap := hP
  have hI : va_P G vwCl [(xa, .inr (5, [.ref hi, .ref ci, .ref st])), (st, .inr (3, [.ref sl, .ref wo])), (sl, .inr (2, [.int (iZ p), .int (iZ q), .int (iZ c)])), (wo, .inr (4, [.long (lZ b), .int (iZ n)]))] s.heap := hI0
  refine lv_iload_n hx hb dX6_simplestSlope_0 rfl (lv_at hl 1 rfl) ?_
  refine z_if_lt (tgt := 9) hx hb dX6_simplestSlope_1 (by decide) (by omega) (fun c_1 => ?_) (fun c_1 => ?_)
  · exfalso; omega
  · refine lv_iload_n hx hb dX6_simplestSlope_4 rfl (lv_at hl 1 rfl) ?_
    refine lv_iconst (v := iZ 2) hx hb dX6_simplestSlope_5 rfl ?_
    refine z_icmp_le (tgt := 11) hx hb dX6_simplestSlope_6 (by decide) (by omega) (fun c_6 => ?_) (fun c_6 => ?_)
    · refine lv_aload_n hx hb dX6_simplestSlope_11 rfl (lv_at hl 0 rfl) ?_
      refine va_get (D := G) (ci := 5) (v := .ref st) (C := RX6) (T := TX6) (N := 3) hx hb hts (by decide +kernel) hown hK hI 0 rfl rfl 2 (by decide) (hts (.fieldLink RX6 38 "SturmianWords" "state" "LSturmianWords$State;") (by decide +kernel)) (fun _ h9 => h9) rfl dX6_simplestSlope_12 ?_
      refine va_getN (D := G) (ci := 3) (v := .ref wo) (C := RX4) (T := TX4) (N := 2) hx hb hts (by decide +kernel) hown hK hI 1 rfl rfl 1 (by decide) (va_Nw.use rfl (hKK.2 (.fieldLinkNest RX6 96 "SturmianWords$State" "word" "LSturmianWords$Word;" "SturmianWords") (by decide +kernel))) (fun _ h9 => h9) rfl dX6_simplestSlope_15 ?_
      have hPc := hP.sub (ws' := []) [] rfl
      have hDc := (hD.sub (ws' := []) [] (by decide) rfl).weaken (B := fun _ => True) (fun _ _ _ _ => trivial)
      have hFc := va_free (wc := []) hD hS hA [] rfl
      have hIc : va_P G vwCl [(wo, .inr (4, [.long (lZ b), .int (iZ n)]))] s.heap := (hI.sub (ws' := [(wo, .inr (4, [.long (lZ b), .int (iZ n)]))]) [3] rfl)
      have hIAc : NA (va_A [] s.heap.size) [(wo, .inr (4, [.long (lZ b), .int (iZ n)]))] := NA.cons (fun z => hIA.at 3 rfl (hFc _ z)) (NA.nil)
      refine z_callE (A := A) (va_runV (As := []) (rest := []) ⟨hx, hb, hml, hown, hts⟩ (c_X5_simplest_no lau G cy wo s.heap.size b n (by first | omega | assumption) (by first | omega | assumption) (by first | omega | assumption)) (cwV 0 hts gX6_simplestSlope_X5_simplest rfl rfl rfl (by decide +kernel) ⟨Nat.le_of_ble_eq_true rfl, Nat.le_of_ble_eq_true rfl⟩) ⟨P1_blind, va_recv hK hI (ci := 4) (q0 := 3) rfl rfl, P1_mk hKK (⟨rfl, hPc, hDc, hIc, hIAc⟩)⟩ rfl rfl hl.1 rfl (lv_room (Nat.le_of_ble_eq_true rfl)) dX6_simplestSlope_18 ⟨(show 0 + 1 ≤ 1 by omega), (show 0 + 3 ≤ 3 by omega)⟩) hS.2.2 hFc (fun v H1 locs1 hR hL1 => ?_)
      obtain ⟨rfl, hq18, hP1, hD1, hF1⟩ := hR
      obtain ⟨hP, hD⟩ := va_join (wr := []) (w1 := []) hP hD [] [] rfl rfl (by decide) (by decide) hF1.2 hFc hP1 hD1
      have hS : va_S A s.heap H1 locs1 := Fh.S ((Fh.of hS).tr hF1 (fun q _ h => hFc q h)) hL1
      clear hPc hDc hFc hP1 hD1 hF1 hL1 hIc hIAc
      generalize H1 = H at hP hS ⊢
      have hP : va_P G vwCl [] H := hP
      have hD : va_D A [] := hD
      refine W.eq (g2 := F0 mt 21 ls [.null]) rfl ?_
      have hI : va_P G vwCl [(xa, .inr (5, [.ref hi, .ref ci, .ref st])), (st, .inr (3, [.ref sl, .ref wo])), (sl, .inr (2, [.int (iZ p), .int (iZ q), .int (iZ c)])), (wo, .inr (4, [.long (lZ b), .int (iZ n)]))] H := im_keep2 hI0 hIA (Fh.of hS)
      refine lv_astore_nN (lv' := [(2, .null), (0, .ref xa), (1, .int (iZ pa))]) hx hb dX6_simplestSlope_21 rfl hl (by decide) rfl (fun ls hl => ?_)
      refine lv_aload_nN hx hb dX6_simplestSlope_22 rfl (lv_at hl 0 rfl) ?_
      refine lv_ifnonnullN hx hb dX6_simplestSlope_23 ?_
      refine lv_bipush (v := iZ (-3)) hx hb dX6_simplestSlope_26 (by decide +kernel) ?_
      exact z_iretE hx hb hr hlocks dX6_simplestSlope_28 hS.2.2 ⟨(show 1 ≤ 1 by omega), (show 3 ≤ 3 by omega)⟩ ⟨(rfl), (trivial), (hP), (hD), Fh.of hS⟩
    · exfalso; omega
set_option maxHeartbeats 4000000 in
set_option maxRecDepth 100000 in
theorem c_X6_simplestSlope (lau : Launch) (G : va_G) (cy : Nat → ClassId) (xa hi ci st sl wo : Nat) (sz : Nat) (p q c b n : Int) (pa : Int) (hn : 0 ≤ n ∧ n ≤ 60) (hb2 : 0 ≤ b ∧ b < 2305843009213693952) (h2 : 0 ≤ pa ∧ pa ≤ 2) (h3 : ¬ ciB b n = -1) : Met lau yX6_simplestSlope wsX6_simplestSlope ({ frames := 4, cells := 1, slots := 3, locals := 93 }) (P1 G cy [.ref xa, .int (iZ pa)] (fun H => H.size = sz ∧ va_P G vwCl [] H ∧ va_D (fun _ => True) [] ∧ va_P G vwCl [(xa, .inr (5, [.ref hi, .ref ci, .ref st])), (st, .inr (3, [.ref sl, .ref wo])), (sl, .inr (2, [.int (iZ p), .int (iZ q), .int (iZ c)])), (wo, .inr (4, [.long (lZ b), .int (iZ n)]))] H ∧ NA (va_A [] sz) [(xa, .inr (5, [.ref hi, .ref ci, .ref st])), (st, .inr (3, [.ref sl, .ref wo])), (sl, .inr (2, [.int (iZ p), .int (iZ q), .int (iZ c)])), (wo, .inr (4, [.long (lZ b), .int (iZ n)]))])) (Q1 (fun rv H0 H1 => rv = some (.int (iZ (if pa = 0 then ciA b n (ciB b n) else if pa = 1 then ciB b n else liR b n (ciA b n (ciB b n)) (ciB b n)))) ∧ (True) ∧ va_P G vwCl [] H1 ∧ va_D (va_A [] sz) [] ∧ Fh (va_A [] sz) H0 H1)) 1 3 (va_A [] sz) := by
  refine z_head (lv := [(0, .ref xa), (1, .int (iZ pa))]) RX6 (by decide) rfl rfl (Nat.le_of_ble_eq_true rfl) rfl ?_
  intro pr ev s mt below meth cd ls hx hb hr hlocks hml hown hname hts hKK hP hl
  have hK := hKK.1
  obtain ⟨hsz, hP, hD0, hI0, hIA⟩ := hP
  subst hsz
  have hD := hD0.self (sz := s.heap.size)
  generalize hAe : va_A [] s.heap.size = A at hD hIA ⊢
  have hA : ∀ q : Nat, s.heap.size ≤ q → A q := fun q h => by rw [← hAe]; exact Or.inr h
  have hS : va_S A s.heap s.heap [] := va_S.rf
  have hP : va_P G vwCl [] s.heap := hP
  have hI : va_P G vwCl [(xa, .inr (5, [.ref hi, .ref ci, .ref st])), (st, .inr (3, [.ref sl, .ref wo])), (sl, .inr (2, [.int (iZ p), .int (iZ q), .int (iZ c)])), (wo, .inr (4, [.long (lZ b), .int (iZ n)]))] s.heap := hI0
  refine lv_iload_n hx hb dX6_simplestSlope_0 rfl (lv_at hl 1 rfl) ?_
  refine z_if_lt (tgt := 9) hx hb dX6_simplestSlope_1 (by decide) (by omega) (fun c_1 => ?_) (fun c_1 => ?_)
  · exfalso; omega
  · refine lv_iload_n hx hb dX6_simplestSlope_4 rfl (lv_at hl 1 rfl) ?_
    refine lv_iconst (v := iZ 2) hx hb dX6_simplestSlope_5 rfl ?_
    refine z_icmp_le (tgt := 11) hx hb dX6_simplestSlope_6 (by decide) (by omega) (fun c_6 => ?_) (fun c_6 => ?_)
    · refine lv_aload_n hx hb dX6_simplestSlope_11 rfl (lv_at hl 0 rfl) ?_
      refine va_get (D := G) (ci := 5) (v := .ref st) (C := RX6) (T := TX6) (N := 3) hx hb hts (by decide +kernel) hown hK hI 0 rfl rfl 2 (by decide) (hts (.fieldLink RX6 38 "SturmianWords" "state" "LSturmianWords$State;") (by decide +kernel)) (fun _ h9 => h9) rfl dX6_simplestSlope_12 ?_
      refine va_getN (D := G) (ci := 3) (v := .ref wo) (C := RX4) (T := TX4) (N := 2) hx hb hts (by decide +kernel) hown hK hI 1 rfl rfl 1 (by decide) (va_Nw.use rfl (hKK.2 (.fieldLinkNest RX6 96 "SturmianWords$State" "word" "LSturmianWords$Word;" "SturmianWords") (by decide +kernel))) (fun _ h9 => h9) rfl dX6_simplestSlope_15 ?_
      have hPc := hP.sub (ws' := []) [] rfl
      have hDc := (hD.sub (ws' := []) [] (by decide) rfl).weaken (B := fun _ => True) (fun _ _ _ _ => trivial)
      have hFc := va_free (wc := []) hD hS hA [] rfl
      have hIc : va_P G vwCl [(wo, .inr (4, [.long (lZ b), .int (iZ n)]))] s.heap := (hI.sub (ws' := [(wo, .inr (4, [.long (lZ b), .int (iZ n)]))]) [3] rfl)
      have hIAc : NA (va_A [] s.heap.size) [(wo, .inr (4, [.long (lZ b), .int (iZ n)]))] := NA.cons (fun z => hIA.at 3 rfl (hFc _ z)) (NA.nil)
      refine z_callE (A := A) (va_runV (As := []) (rest := []) ⟨hx, hb, hml, hown, hts⟩ (c_X5_simplest lau G cy wo s.heap.size b n (by first | omega | assumption) (by first | omega | assumption) (by first | omega | assumption)) (cwV 0 hts gX6_simplestSlope_X5_simplest rfl rfl rfl (by decide +kernel) ⟨Nat.le_of_ble_eq_true rfl, Nat.le_of_ble_eq_true rfl⟩) ⟨P1_blind, va_recv hK hI (ci := 4) (q0 := 3) rfl rfl, P1_mk hKK (⟨rfl, hPc, hDc, hIc, hIAc⟩)⟩ rfl rfl hl.1 rfl (lv_room (Nat.le_of_ble_eq_true rfl)) dX6_simplestSlope_18 ⟨(show 0 + 1 ≤ 1 by omega), (show 0 + 3 ≤ 3 by omega)⟩) hS.2.2 hFc (fun v H1 locs1 hR hL1 => ?_)
      obtain ⟨qo_18, rfl, hq18, hP1, hD1, hF1⟩ := hR
      obtain ⟨hP, hD⟩ := va_join (wr := []) (w1 := [(qo_18, .inr (2, [.int (iZ (ciA b n (ciB b n))), .int (iZ (ciB b n)), .int (iZ (liR b n (ciA b n (ciB b n)) (ciB b n)))]))]) hP hD [] [] rfl rfl (by decide) (by decide) hF1.2 hFc hP1 hD1
      have hS : va_S A s.heap H1 locs1 := Fh.S ((Fh.of hS).tr hF1 (fun q _ h => hFc q h)) hL1
      clear hPc hDc hFc hP1 hD1 hF1 hL1 hIc hIAc
      generalize H1 = H at hP hS ⊢
      have hP : va_P G vwCl [(qo_18, .inr (2, [.int (iZ (ciA b n (ciB b n))), .int (iZ (ciB b n)), .int (iZ (liR b n (ciA b n (ciB b n)) (ciB b n)))]))] H := hP
      have hD : va_D A [(qo_18, .inr (2, [.int (iZ (ciA b n (ciB b n))), .int (iZ (ciB b n)), .int (iZ (liR b n (ciA b n (ciB b n)) (ciB b n)))]))] := hD
      refine W.eq (g2 := F0 mt 21 ls [.ref qo_18]) rfl ?_
      have hI : va_P G vwCl [(xa, .inr (5, [.ref hi, .ref ci, .ref st])), (st, .inr (3, [.ref sl, .ref wo])), (sl, .inr (2, [.int (iZ p), .int (iZ q), .int (iZ c)])), (wo, .inr (4, [.long (lZ b), .int (iZ n)]))] H := im_keep2 hI0 hIA (Fh.of hS)
      refine lv_astore_n (lv' := [(2, .ref qo_18), (0, .ref xa), (1, .int (iZ pa))]) hx hb dX6_simplestSlope_21 rfl hl (by decide) rfl (fun ls hl => ?_)
      refine lv_aload_n hx hb dX6_simplestSlope_22 rfl (lv_at hl 0 rfl) ?_
      refine lv_ifnonnull (tgt := 29) hx hb dX6_simplestSlope_23 (by decide) ?_
      refine lv_iload_n hx hb dX6_simplestSlope_29 rfl (lv_at hl 2 rfl) ?_
      refine z_if_ne (tgt := 38) hx hb dX6_simplestSlope_30 (by decide) (by omega) (fun c_30 => ?_) (fun c_30 => ?_)
      · refine lv_iload_n hx hb dX6_simplestSlope_38 rfl (lv_at hl 2 rfl) ?_
        refine lv_iconst (v := iZ 1) hx hb dX6_simplestSlope_39 rfl ?_
        refine z_icmp_ne (tgt := 50) hx hb dX6_simplestSlope_40 (by decide) (by omega) (fun c_40 => ?_) (fun c_40 => ?_)
        · refine lv_aload_n hx hb dX6_simplestSlope_50 rfl (lv_at hl 0 rfl) ?_
          refine va_getN (D := G) (ci := 2) (v := .int (iZ (liR b n (ciA b n (ciB b n)) (ciB b n)))) (C := RX3) (T := TX3) (N := 3) hx hb hts (by decide +kernel) hown hK hP 0 rfl rfl 2 (by decide) (va_Nw.use rfl (hKK.2 (.fieldLinkNest RX6 65 "SturmianWords$Slope" "intercept" "I" "SturmianWords") (by decide +kernel))) (fun _ h9 => h9) rfl dX6_simplestSlope_51 ?_
          have hP := hP.sub (ws' := []) [] rfl
          have hD := hD.sub (ws' := []) [] (by decide) rfl
          exact z_iretE hx hb hr hlocks dX6_simplestSlope_54 hS.2.2 ⟨(show 1 ≤ 1 by omega), (show 3 ≤ 3 by omega)⟩ ⟨(sI (by rw [if_neg (by omega), if_neg (by omega)])), (trivial), (hP), (hD), Fh.of hS⟩
        · refine lv_aload_n hx hb dX6_simplestSlope_43 rfl (lv_at hl 0 rfl) ?_
          refine va_getN (D := G) (ci := 2) (v := .int (iZ (ciB b n))) (C := RX3) (T := TX3) (N := 3) hx hb hts (by decide +kernel) hown hK hP 0 rfl rfl 1 (by decide) (va_Nw.use rfl (hKK.2 (.fieldLinkNest RX6 58 "SturmianWords$Slope" "denominator" "I" "SturmianWords") (by decide +kernel))) (fun _ h9 => h9) rfl dX6_simplestSlope_44 ?_
          refine lv_goto (tgt := 54) hx hb dX6_simplestSlope_47 (by decide) ?_
          have hP := hP.sub (ws' := []) [] rfl
          have hD := hD.sub (ws' := []) [] (by decide) rfl
          exact z_iretE hx hb hr hlocks dX6_simplestSlope_54 hS.2.2 ⟨(show 1 ≤ 1 by omega), (show 3 ≤ 3 by omega)⟩ ⟨(sI (by rw [if_neg (by omega), if_pos (by omega)])), (trivial), (hP), (hD), Fh.of hS⟩
      · refine lv_aload_n hx hb dX6_simplestSlope_33 rfl (lv_at hl 0 rfl) ?_
        refine va_getN (D := G) (ci := 2) (v := .int (iZ (ciA b n (ciB b n)))) (C := RX3) (T := TX3) (N := 3) hx hb hts (by decide +kernel) hown hK hP 0 rfl rfl 0 (by decide) (va_Nw.use rfl (hKK.2 (.fieldLinkNest RX6 62 "SturmianWords$Slope" "numerator" "I" "SturmianWords") (by decide +kernel))) (fun _ h9 => h9) rfl dX6_simplestSlope_34 ?_
        have hP := hP.sub (ws' := []) [] rfl
        have hD := hD.sub (ws' := []) [] (by decide) rfl
        exact z_iretE hx hb hr hlocks dX6_simplestSlope_37 hS.2.2 ⟨(show 1 ≤ 1 by omega), (show 3 ≤ 3 by omega)⟩ ⟨(sI (by rw [if_pos (by omega)])), (trivial), (hP), (hD), Fh.of hS⟩
    · exfalso; omega
