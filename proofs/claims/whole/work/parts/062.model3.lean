set_option maxHeartbeats 4000000 in
set_option maxRecDepth 100000 in
theorem c_X7_take (lau : Launch) (G : va_G) (cy : Nat → ClassId) (a0 a1 a2 a3 a4 a5 a6 a7 : Nat) (sz : Nat) (ed tc ol nl : Int) (nw nx ps tm od ne pt : Int → Int) (he : 0 ≤ ed ∧ ed ≤ 6) : Met lau yX7_take wsX7_take ({ frames := 2, cells := 0, slots := 0, locals := 45 }) (P1 G cy [.ref a0] (fun H => H.size = sz ∧ va_P G vwCl (MW cy a0 a1 a2 a3 a4 a5 a6 a7 ed tc ol nl nw nx ps tm od ne pt) H ∧ va_D (fun _ => True) (MW cy a0 a1 a2 a3 a4 a5 a6 a7 ed tc ol nl nw nx ps tm od ne pt))) (Q1 (fun rv H0 H1 => rv = none ∧ (True) ∧ va_P G vwCl (MW cy a0 a1 a2 a3 a4 a5 a6 a7 (svE ed) tc ol nl (tkW nx nw) (tkX nx nw) (svP ps nw ed) tm od ne pt) H1 ∧ va_D (va_A (MW cy a0 a1 a2 a3 a4 a5 a6 a7 ed tc ol nl nw nx ps tm od ne pt) sz) (MW cy a0 a1 a2 a3 a4 a5 a6 a7 (svE ed) tc ol nl (tkW nx nw) (tkX nx nw) (svP ps nw ed) tm od ne pt) ∧ Fh (va_A (MW cy a0 a1 a2 a3 a4 a5 a6 a7 ed tc ol nl nw nx ps tm od ne pt) sz) H0 H1)) 0 0 (va_A (MW cy a0 a1 a2 a3 a4 a5 a6 a7 ed tc ol nl nw nx ps tm od ne pt) sz) := by
  refine z_head (lv := [(0, .ref a0)]) RX7 (by decide) rfl rfl (Nat.le_of_ble_eq_true rfl) rfl ?_
  intro pr ev s mt below meth cd ls hx hb hr hlocks hml hown hname hts hKK hP hl
  have hK := hKK.1
  obtain ⟨hsz, hP, hD0⟩ := hP
  subst hsz
  have hD := hD0.self (sz := s.heap.size)
  generalize hAe : va_A (MW cy a0 a1 a2 a3 a4 a5 a6 a7 ed tc ol nl nw nx ps tm od ne pt) s.heap.size = A at hD ⊢
  have hA : ∀ q : Nat, s.heap.size ≤ q → A q := fun q h => by rw [← hAe]; exact Or.inr h
  have hS : va_S A s.heap s.heap [] := va_S.rf
  have hP : va_P G vwCl (MW cy a0 a1 a2 a3 a4 a5 a6 a7 ed tc ol nl nw nx ps tm od ne pt) s.heap := hP
  refine lv_aload_n hx hb dX7_take_0 rfl (lv_at hl 0 rfl) ?_
  have hPc := hP.sub (ws' := (MW cy a0 a1 a2 a3 a4 a5 a6 a7 ed tc ol nl nw nx ps tm od ne pt)) [0, 1, 2, 3, 4, 5, 6, 7] rfl
  have hDc := (hD.sub (ws' := (MW cy a0 a1 a2 a3 a4 a5 a6 a7 ed tc ol nl nw nx ps tm od ne pt)) [0, 1, 2, 3, 4, 5, 6, 7] (by decide) rfl).weaken (B := fun _ => True) (fun _ _ _ _ => trivial)
  have hFc := va_free (wc := (MW cy a0 a1 a2 a3 a4 a5 a6 a7 ed tc ol nl nw nx ps tm od ne pt)) hD hS hA [0, 1, 2, 3, 4, 5, 6, 7] rfl
  refine z_callE (A := A) (va_runV (As := []) (rest := []) ⟨hx, hb, hml, hown, hts⟩ (c_X7_save lau G cy a0 a1 a2 a3 a4 a5 a6 a7 s.heap.size ed tc ol nl nw nx ps tm od ne pt (by first | assumption | omega)) (cwV 0 hts gX7_take_X7_save rfl rfl rfl (by decide +kernel) ⟨Nat.le_of_ble_eq_true rfl, Nat.le_of_ble_eq_true rfl⟩) ⟨P1_blind, va_recv hK hP (ci := 6) (q0 := 0) rfl rfl, P1_mk hKK (⟨rfl, hPc, hDc⟩)⟩ rfl rfl hl.1 rfl (lv_room (Nat.le_of_ble_eq_true rfl)) dX7_take_1 ⟨(show 0 + 0 ≤ 0 by omega), (show 0 + 0 ≤ 0 by omega)⟩) hS.2.2 hFc (fun v H1 locs1 hR hL1 => ?_)
  obtain ⟨rfl, hq1, hP1, hD1, hF1⟩ := hR
  obtain ⟨hP, hD⟩ := va_join (wr := []) (w1 := (MW cy a0 a1 a2 a3 a4 a5 a6 a7 (svE ed) tc ol nl nw nx (svP ps nw ed) tm od ne pt)) hP hD [0, 1, 2, 3, 4, 5, 6, 7] [] rfl rfl (by decide) (by decide) hF1.2 hFc hP1 hD1
  have hS : va_S A s.heap H1 locs1 := Fh.S ((Fh.of hS).tr hF1 (fun q _ h => hFc q h)) hL1
  clear hPc hDc hFc hP1 hD1 hF1 hL1
  generalize H1 = H at hP hS ⊢
  have hP : va_P G vwCl (MW cy a0 a1 a2 a3 a4 a5 a6 a7 (svE ed) tc ol nl nw nx (svP ps nw ed) tm od ne pt) H := hP
  have hD : va_D A (MW cy a0 a1 a2 a3 a4 a5 a6 a7 (svE ed) tc ol nl nw nx (svP ps nw ed) tm od ne pt) := hD
  refine W.eq (g2 := F0 mt 4 ls []) rfl ?_
  refine lv_aload_n hx hb dX7_take_4 rfl (lv_at hl 0 rfl) ?_
  refine va_get (D := G) (ci := 6) (v := .ref a2) (C := RX7) (T := TX7) (N := 11) hx hb hts (by decide +kernel) hown hK hP 0 rfl rfl 1 (by decide) (hts (.fieldLink RX7 13 "SturmianWordsModel" "next" "[I") (by decide +kernel)) (fun _ h9 => h9) rfl dX7_take_5 ?_
  refine lv_iconst (v := iZ 0) hx hb dX7_take_8 rfl ?_
  refine lv_aload_n hx hb dX7_take_9 rfl (lv_at hl 0 rfl) ?_
  refine va_get (D := G) (ci := 6) (v := .ref a1) (C := RX7) (T := TX7) (N := 11) hx hb hts (by decide +kernel) hown hK hP 0 rfl rfl 0 (by decide) (hts (.fieldLink RX7 7 "SturmianWordsModel" "now" "[I") (by decide +kernel)) (fun _ h9 => h9) rfl dX7_take_10 ?_
  refine lv_iconst (v := iZ 0) hx hb dX7_take_13 rfl ?_
  refine z_iald (D := G) hx hb hK hP 1 0 rfl rfl (by omega) dX7_take_14 ?_
  refine z_iast (D := G) hx hb hK hP hD hS 2 0 rfl rfl (by omega) dX7_take_15 (fun H locs hP hD hS => ?_)
  have hP : va_P G vwCl (MW cy a0 a1 a2 a3 a4 a5 a6 a7 (svE ed) tc ol nl nw (up1 nx 0 (nw 0)) (svP ps nw ed) tm od ne pt) H := hP
  have hD : va_D A (MW cy a0 a1 a2 a3 a4 a5 a6 a7 (svE ed) tc ol nl nw (up1 nx 0 (nw 0)) (svP ps nw ed) tm od ne pt) := hD
  refine lv_aload_n hx hb dX7_take_16 rfl (lv_at hl 0 rfl) ?_
  refine va_get (D := G) (ci := 6) (v := .ref a2) (C := RX7) (T := TX7) (N := 11) hx hb hts (by decide +kernel) hown hK hP 0 rfl rfl 1 (by decide) (hts (.fieldLink RX7 13 "SturmianWordsModel" "next" "[I") (by decide +kernel)) (fun _ h9 => h9) rfl dX7_take_17 ?_
  refine lv_iconst (v := iZ 1) hx hb dX7_take_20 rfl ?_
  refine lv_aload_n hx hb dX7_take_21 rfl (lv_at hl 0 rfl) ?_
  refine va_get (D := G) (ci := 6) (v := .ref a1) (C := RX7) (T := TX7) (N := 11) hx hb hts (by decide +kernel) hown hK hP 0 rfl rfl 0 (by decide) (hts (.fieldLink RX7 7 "SturmianWordsModel" "now" "[I") (by decide +kernel)) (fun _ h9 => h9) rfl dX7_take_22 ?_
  refine lv_iconst (v := iZ 1) hx hb dX7_take_25 rfl ?_
  refine z_iald (D := G) hx hb hK hP 1 0 rfl rfl (by omega) dX7_take_26 ?_
  refine z_iast (D := G) hx hb hK hP hD hS 2 0 rfl rfl (by omega) dX7_take_27 (fun H locs hP hD hS => ?_)
  have hP : va_P G vwCl (MW cy a0 a1 a2 a3 a4 a5 a6 a7 (svE ed) tc ol nl nw (up1 (up1 nx 0 (nw 0)) 1 (nw 1)) (svP ps nw ed) tm od ne pt) H := hP
  have hD : va_D A (MW cy a0 a1 a2 a3 a4 a5 a6 a7 (svE ed) tc ol nl nw (up1 (up1 nx 0 (nw 0)) 1 (nw 1)) (svP ps nw ed) tm od ne pt) := hD
  refine lv_aload_n hx hb dX7_take_28 rfl (lv_at hl 0 rfl) ?_
  refine va_get (D := G) (ci := 6) (v := .ref a2) (C := RX7) (T := TX7) (N := 11) hx hb hts (by decide +kernel) hown hK hP 0 rfl rfl 1 (by decide) (hts (.fieldLink RX7 13 "SturmianWordsModel" "next" "[I") (by decide +kernel)) (fun _ h9 => h9) rfl dX7_take_29 ?_
  refine lv_iconst (v := iZ 2) hx hb dX7_take_32 rfl ?_
  refine lv_aload_n hx hb dX7_take_33 rfl (lv_at hl 0 rfl) ?_
  refine va_get (D := G) (ci := 6) (v := .ref a1) (C := RX7) (T := TX7) (N := 11) hx hb hts (by decide +kernel) hown hK hP 0 rfl rfl 0 (by decide) (hts (.fieldLink RX7 7 "SturmianWordsModel" "now" "[I") (by decide +kernel)) (fun _ h9 => h9) rfl dX7_take_34 ?_
  refine lv_iconst (v := iZ 2) hx hb dX7_take_37 rfl ?_
  refine z_iald (D := G) hx hb hK hP 1 0 rfl rfl (by omega) dX7_take_38 ?_
  refine z_iast (D := G) hx hb hK hP hD hS 2 0 rfl rfl (by omega) dX7_take_39 (fun H locs hP hD hS => ?_)
  have hP : va_P G vwCl (MW cy a0 a1 a2 a3 a4 a5 a6 a7 (svE ed) tc ol nl nw (up1 (up1 (up1 nx 0 (nw 0)) 1 (nw 1)) 2 (nw 2)) (svP ps nw ed) tm od ne pt) H := hP
  have hD : va_D A (MW cy a0 a1 a2 a3 a4 a5 a6 a7 (svE ed) tc ol nl nw (up1 (up1 (up1 nx 0 (nw 0)) 1 (nw 1)) 2 (nw 2)) (svP ps nw ed) tm od ne pt) := hD
  rw [show (up1 (up1 (up1 nx 0 (nw 0)) 1 (nw 1)) 2 (nw 2)) = (tkX nx nw) from rfl] at hP hD
  refine lv_aload_n hx hb dX7_take_40 rfl (lv_at hl 0 rfl) ?_
  refine va_get (D := G) (ci := 6) (v := .ref a2) (C := RX7) (T := TX7) (N := 11) hx hb hts (by decide +kernel) hown hK hP 0 rfl rfl 1 (by decide) (hts (.fieldLink RX7 13 "SturmianWordsModel" "next" "[I") (by decide +kernel)) (fun _ h9 => h9) rfl dX7_take_41 ?_
  refine lv_iconst (v := iZ 0) hx hb dX7_take_44 rfl ?_
  refine lv_aload_n hx hb dX7_take_45 rfl (lv_at hl 0 rfl) ?_
  refine va_get (D := G) (ci := 6) (v := .ref a1) (C := RX7) (T := TX7) (N := 11) hx hb hts (by decide +kernel) hown hK hP 0 rfl rfl 0 (by decide) (hts (.fieldLink RX7 7 "SturmianWordsModel" "now" "[I") (by decide +kernel)) (fun _ h9 => h9) rfl dX7_take_46 ?_
  refine lv_iconst (v := iZ 0) hx hb dX7_take_49 rfl ?_
  have hPc := hP.sub (ws' := [(a2, .inl (cy 0, 64, .inl (zf (tkX nx nw)))), (a1, .inl (cy 0, 64, .inl (zf nw)))]) [2, 1] rfl
  have hDc := (hD.sub (ws' := [(a2, .inl (cy 0, 64, .inl (zf (tkX nx nw)))), (a1, .inl (cy 0, 64, .inl (zf nw)))]) [2, 1] (by decide) rfl).weaken (B := fun _ => True) (fun _ _ _ _ => trivial)
  have hFc := va_free (wc := [(a2, .inl (cy 0, 64, .inl (zf (tkX nx nw)))), (a1, .inl (cy 0, 64, .inl (zf nw)))]) hD hS hA [2, 1] rfl
  refine z_callE (A := A) (va_runS (As := [.ref a2, .int (iZ 0), .ref a1, .int (iZ 0)]) (rest := []) ⟨hx, hb, hml, hown, hts⟩ (c_X7_copy lau G cy a2 a1 64 64 H.size (tkX nx nw) nw 0 0 (by first | assumption | omega) (by first | assumption | omega) (by first | assumption | omega)) (va_cwS 4 hts gX7_take_X7_copy rfl rfl rfl (by decide +kernel) ⟨Nat.le_of_ble_eq_true rfl, Nat.le_of_ble_eq_true rfl⟩) ⟨P1_blind, P1_mk hKK (⟨rfl, hPc, hDc⟩)⟩ rfl rfl hl.1 rfl (lv_room (Nat.le_of_ble_eq_true rfl)) dX7_take_50 ⟨(show 0 + 0 ≤ 0 by omega), (show 0 + 0 ≤ 0 by omega)⟩) hS.2.2 hFc (fun v H1 locs1 hR hL1 => ?_)
  obtain ⟨rfl, hq50, hP1, hD1, hF1⟩ := hR
  obtain ⟨hP, hD⟩ := va_join (wr := [(a0, .inr (6, [.ref a1, .ref a2, .ref a3, .int (iZ (svE ed)), .ref a4, .int (iZ tc), .ref a5, .int (iZ ol), .ref a6, .int (iZ nl), .ref a7])), (a3, .inl (cy 0, 384, .inl (zf (svP ps nw ed)))), (a4, .inl (cy 0, 20, .inl (zf tm))), (a5, .inl (cy 0, 60, .inl (zf od))), (a6, .inl (cy 0, 60, .inl (zf ne))), (a7, .inl (cy 1, 1000, .inl (zf pt)))]) (w1 := [(a2, .inl (cy 0, 64, .inl (zf (tkX nx nw)))), (a1, .inl (cy 0, 64, .inl (zf (cpy (tkX nx nw) 0 nw 0 64))))]) hP hD [2, 1] [0, 3, 4, 5, 6, 7] rfl rfl (by decide) (by decide) hF1.2 hFc hP1 hD1
  have hS : va_S A s.heap H1 locs1 := Fh.S ((Fh.of hS).tr hF1 (fun q _ h => hFc q h)) hL1
  clear hPc hDc hFc hP1 hD1 hF1 hL1
  generalize H1 = H at hP hS ⊢
  have hP : va_P G vwCl [(a0, .inr (6, [.ref a1, .ref a2, .ref a3, .int (iZ (svE ed)), .ref a4, .int (iZ tc), .ref a5, .int (iZ ol), .ref a6, .int (iZ nl), .ref a7])), (a3, .inl (cy 0, 384, .inl (zf (svP ps nw ed)))), (a4, .inl (cy 0, 20, .inl (zf tm))), (a5, .inl (cy 0, 60, .inl (zf od))), (a6, .inl (cy 0, 60, .inl (zf ne))), (a7, .inl (cy 1, 1000, .inl (zf pt))), (a2, .inl (cy 0, 64, .inl (zf (tkX nx nw)))), (a1, .inl (cy 0, 64, .inl (zf (cpy (tkX nx nw) 0 nw 0 64))))] H := hP
  have hD : va_D A [(a0, .inr (6, [.ref a1, .ref a2, .ref a3, .int (iZ (svE ed)), .ref a4, .int (iZ tc), .ref a5, .int (iZ ol), .ref a6, .int (iZ nl), .ref a7])), (a3, .inl (cy 0, 384, .inl (zf (svP ps nw ed)))), (a4, .inl (cy 0, 20, .inl (zf tm))), (a5, .inl (cy 0, 60, .inl (zf od))), (a6, .inl (cy 0, 60, .inl (zf ne))), (a7, .inl (cy 1, 1000, .inl (zf pt))), (a2, .inl (cy 0, 64, .inl (zf (tkX nx nw)))), (a1, .inl (cy 0, 64, .inl (zf (cpy (tkX nx nw) 0 nw 0 64))))] := hD
  have hP := hP.sub (ws' := (MW cy a0 a1 a2 a3 a4 a5 a6 a7 (svE ed) tc ol nl (cpy (tkX nx nw) 0 nw 0 64) (tkX nx nw) (svP ps nw ed) tm od ne pt)) [0, 7, 6, 1, 2, 3, 4, 5] rfl
  have hD := hD.sub (ws' := (MW cy a0 a1 a2 a3 a4 a5 a6 a7 (svE ed) tc ol nl (cpy (tkX nx nw) 0 nw 0 64) (tkX nx nw) (svP ps nw ed) tm od ne pt)) [0, 7, 6, 1, 2, 3, 4, 5] (by decide) rfl
  refine W.eq (g2 := F0 mt 53 ls []) rfl ?_
  exact z_vretE hx hb hr hlocks dX7_take_53 hS.2.2 ⟨(show 0 ≤ 0 by omega), (show 0 ≤ 0 by omega)⟩ ⟨(rfl), (trivial), (hP), (hD), Fh.of hS⟩
set_option maxHeartbeats 4000000 in
set_option maxRecDepth 100000 in
theorem c_X7_setSlope_no (lau : Launch) (G : va_G) (cy : Nat → ClassId) (a0 a1 a2 a3 a4 a5 a6 a7 : Nat) (sz : Nat) (ed tc ol nl : Int) (nw nx ps tm od ne pt : Int → Int) (p q : Int) (h1 : -2147483648 ≤ p ∧ p < 2147483648 ∧ -2147483648 ≤ q ∧ q < 2147483648) (h2 : ¬ ((1 ≤ q ∧ q ≤ 1000) ∧ 0 ≤ p ∧ p ≤ q)) : Met lau yX7_setSlope wsX7_setSlope ({ frames := 2, cells := 0, slots := 0, locals := 45 }) (P1 G cy [.ref a0, .int (iZ p), .int (iZ q)] (fun H => H.size = sz ∧ va_P G vwCl (MW cy a0 a1 a2 a3 a4 a5 a6 a7 ed tc ol nl nw nx ps tm od ne pt) H ∧ va_D (fun _ => True) (MW cy a0 a1 a2 a3 a4 a5 a6 a7 ed tc ol nl nw nx ps tm od ne pt))) (Q1 (fun rv H0 H1 => rv = some (.int (iZ (-1))) ∧ (True) ∧ va_P G vwCl (MW cy a0 a1 a2 a3 a4 a5 a6 a7 ed tc ol nl nw nx ps tm od ne pt) H1 ∧ va_D (va_A (MW cy a0 a1 a2 a3 a4 a5 a6 a7 ed tc ol nl nw nx ps tm od ne pt) sz) (MW cy a0 a1 a2 a3 a4 a5 a6 a7 ed tc ol nl nw nx ps tm od ne pt) ∧ Fh (va_A (MW cy a0 a1 a2 a3 a4 a5 a6 a7 ed tc ol nl nw nx ps tm od ne pt) sz) H0 H1)) 0 0 (va_A (MW cy a0 a1 a2 a3 a4 a5 a6 a7 ed tc ol nl nw nx ps tm od ne pt) sz) := by
  refine z_head (lv := [(0, .ref a0), (1, .int (iZ p)), (2, .int (iZ q))]) RX7 (by decide) rfl rfl (Nat.le_of_ble_eq_true rfl) rfl ?_
  intro pr ev s mt below meth cd ls hx hb hr hlocks hml hown hname hts hKK hP hl
  have hK := hKK.1
  obtain ⟨hsz, hP, hD0⟩ := hP
  subst hsz
  have hD := hD0.self (sz := s.heap.size)
  generalize hAe : va_A (MW cy a0 a1 a2 a3 a4 a5 a6 a7 ed tc ol nl nw nx ps tm od ne pt) s.heap.size = A at hD ⊢
  have hA : ∀ q : Nat, s.heap.size ≤ q → A q := fun q h => by rw [← hAe]; exact Or.inr h
  have hS : va_S A s.heap s.heap [] := va_S.rf
  have hP : va_P G vwCl (MW cy a0 a1 a2 a3 a4 a5 a6 a7 ed tc ol nl nw nx ps tm od ne pt) s.heap := hP
  refine lv_iload_n hx hb dX7_setSlope_0 rfl (lv_at hl 2 rfl) ?_
  refine lv_iconst (v := iZ 1) hx hb dX7_setSlope_1 rfl ?_
  refine lv_sipush (v := iZ 1000) hx hb dX7_setSlope_2 (by decide +kernel) ?_
  refine z_calli (va_runS (As := [.int (iZ q), .int (iZ 1), .int (iZ 1000)]) (rest := []) ⟨hx, hb, hml, hown, hts⟩ (c_X7_in lau G cy q 1 1000 (by first | assumption | omega)) (va_cwS 3 hts gX7_setSlope_X7_in rfl rfl rfl (by decide +kernel) ⟨Nat.le_of_ble_eq_true rfl, Nat.le_of_ble_eq_true rfl⟩) ⟨P1_blind, P1_mk hKK (trivial)⟩ rfl rfl hl.1 rfl (lv_room (Nat.le_of_ble_eq_true rfl)) dX7_setSlope_5 ⟨(show 0 + 0 ≤ 0 by omega), (show 0 + 0 ≤ 0 by omega)⟩) ?_
  refine z_ifB_eq (tgt := 20) hx hb dX7_setSlope_8 (by decide) (fun c_8 => ?_) (fun c_8 => ?_)
  · refine lv_iconst (v := iZ (-1)) hx hb dX7_setSlope_20 rfl ?_
    exact z_iretE hx hb hr hlocks dX7_setSlope_21 hS.2.2 ⟨(show 0 ≤ 0 by omega), (show 0 ≤ 0 by omega)⟩ ⟨(rfl), (trivial), (hP), (hD), Fh.of hS⟩
  · refine lv_iload_n hx hb dX7_setSlope_11 rfl (lv_at hl 1 rfl) ?_
    refine lv_iconst (v := iZ 0) hx hb dX7_setSlope_12 rfl ?_
    refine lv_iload_n hx hb dX7_setSlope_13 rfl (lv_at hl 2 rfl) ?_
    refine z_calli (va_runS (As := [.int (iZ p), .int (iZ 0), .int (iZ q)]) (rest := []) ⟨hx, hb, hml, hown, hts⟩ (c_X7_in lau G cy p 0 q (by first | assumption | omega)) (va_cwS 3 hts gX7_setSlope_X7_in rfl rfl rfl (by decide +kernel) ⟨Nat.le_of_ble_eq_true rfl, Nat.le_of_ble_eq_true rfl⟩) ⟨P1_blind, P1_mk hKK (trivial)⟩ rfl rfl hl.1 rfl (lv_room (Nat.le_of_ble_eq_true rfl)) dX7_setSlope_14 ⟨(show 0 + 0 ≤ 0 by omega), (show 0 + 0 ≤ 0 by omega)⟩) ?_
    refine z_ifB_ne (tgt := 22) hx hb dX7_setSlope_17 (by decide) (fun c_17 => ?_) (fun c_17 => ?_)
    · exact absurd ⟨c_8, c_17⟩ h2
    · refine lv_iconst (v := iZ (-1)) hx hb dX7_setSlope_20 rfl ?_
      exact z_iretE hx hb hr hlocks dX7_setSlope_21 hS.2.2 ⟨(show 0 ≤ 0 by omega), (show 0 ≤ 0 by omega)⟩ ⟨(rfl), (trivial), (hP), (hD), Fh.of hS⟩
set_option maxHeartbeats 4000000 in
set_option maxRecDepth 100000 in
theorem c_X7_setSlope (lau : Launch) (G : va_G) (cy : Nat → ClassId) (a0 a1 a2 a3 a4 a5 a6 a7 : Nat) (sz : Nat) (ed tc ol nl : Int) (nw nx ps tm od ne pt : Int → Int) (p q : Int) (he : 0 ≤ ed ∧ ed ≤ 6) (h2 : (1 ≤ q ∧ q ≤ 1000) ∧ 0 ≤ p ∧ p ≤ q) : Met lau yX7_setSlope wsX7_setSlope ({ frames := 2, cells := 0, slots := 0, locals := 45 }) (P1 G cy [.ref a0, .int (iZ p), .int (iZ q)] (fun H => H.size = sz ∧ va_P G vwCl (MW cy a0 a1 a2 a3 a4 a5 a6 a7 ed tc ol nl nw nx ps tm od ne pt) H ∧ va_D (fun _ => True) (MW cy a0 a1 a2 a3 a4 a5 a6 a7 ed tc ol nl nw nx ps tm od ne pt))) (Q1 (fun rv H0 H1 => rv = some (.int (iZ (q / (Int.gcd p q : Int)))) ∧ (True) ∧ va_P G vwCl (MW cy a0 a1 a2 a3 a4 a5 a6 a7 (svE ed) tc ol nl (up1 (up1 (up1 nw 0 (p / (Int.gcd p q : Int))) 1 (q / (Int.gcd p q : Int))) 2 0) nx (svP ps nw ed) tm od ne pt) H1 ∧ va_D (va_A (MW cy a0 a1 a2 a3 a4 a5 a6 a7 ed tc ol nl nw nx ps tm od ne pt) sz) (MW cy a0 a1 a2 a3 a4 a5 a6 a7 (svE ed) tc ol nl (up1 (up1 (up1 nw 0 (p / (Int.gcd p q : Int))) 1 (q / (Int.gcd p q : Int))) 2 0) nx (svP ps nw ed) tm od ne pt) ∧ Fh (va_A (MW cy a0 a1 a2 a3 a4 a5 a6 a7 ed tc ol nl nw nx ps tm od ne pt) sz) H0 H1)) 0 0 (va_A (MW cy a0 a1 a2 a3 a4 a5 a6 a7 ed tc ol nl nw nx ps tm od ne pt) sz) := by
  refine z_head (lv := [(0, .ref a0), (1, .int (iZ p)), (2, .int (iZ q))]) RX7 (by decide) rfl rfl (Nat.le_of_ble_eq_true rfl) rfl ?_
  intro pr ev s mt below meth cd ls hx hb hr hlocks hml hown hname hts hKK hP hl
  have hK := hKK.1
  obtain ⟨hsz, hP, hD0⟩ := hP
  subst hsz
  have hD := hD0.self (sz := s.heap.size)
  generalize hAe : va_A (MW cy a0 a1 a2 a3 a4 a5 a6 a7 ed tc ol nl nw nx ps tm od ne pt) s.heap.size = A at hD ⊢
  have hA : ∀ q : Nat, s.heap.size ≤ q → A q := fun q h => by rw [← hAe]; exact Or.inr h
  have hS : va_S A s.heap s.heap [] := va_S.rf
  have hP : va_P G vwCl (MW cy a0 a1 a2 a3 a4 a5 a6 a7 ed tc ol nl nw nx ps tm od ne pt) s.heap := hP
  refine lv_iload_n hx hb dX7_setSlope_0 rfl (lv_at hl 2 rfl) ?_
  refine lv_iconst (v := iZ 1) hx hb dX7_setSlope_1 rfl ?_
  refine lv_sipush (v := iZ 1000) hx hb dX7_setSlope_2 (by decide +kernel) ?_
  refine z_calli (va_runS (As := [.int (iZ q), .int (iZ 1), .int (iZ 1000)]) (rest := []) ⟨hx, hb, hml, hown, hts⟩ (c_X7_in lau G cy q 1 1000 (by first | assumption | omega)) (va_cwS 3 hts gX7_setSlope_X7_in rfl rfl rfl (by decide +kernel) ⟨Nat.le_of_ble_eq_true rfl, Nat.le_of_ble_eq_true rfl⟩) ⟨P1_blind, P1_mk hKK (trivial)⟩ rfl rfl hl.1 rfl (lv_room (Nat.le_of_ble_eq_true rfl)) dX7_setSlope_5 ⟨(show 0 + 0 ≤ 0 by omega), (show 0 + 0 ≤ 0 by omega)⟩) ?_
  refine z_ifB_eq (tgt := 20) hx hb dX7_setSlope_8 (by decide) (fun c_8 => ?_) (fun c_8 => ?_)
  · exact absurd h2.1 c_8
  · refine lv_iload_n hx hb dX7_setSlope_11 rfl (lv_at hl 1 rfl) ?_
    refine lv_iconst (v := iZ 0) hx hb dX7_setSlope_12 rfl ?_
    refine lv_iload_n hx hb dX7_setSlope_13 rfl (lv_at hl 2 rfl) ?_
    refine z_calli (va_runS (As := [.int (iZ p), .int (iZ 0), .int (iZ q)]) (rest := []) ⟨hx, hb, hml, hown, hts⟩ (c_X7_in lau G cy p 0 q (by first | assumption | omega)) (va_cwS 3 hts gX7_setSlope_X7_in rfl rfl rfl (by decide +kernel) ⟨Nat.le_of_ble_eq_true rfl, Nat.le_of_ble_eq_true rfl⟩) ⟨P1_blind, P1_mk hKK (trivial)⟩ rfl rfl hl.1 rfl (lv_room (Nat.le_of_ble_eq_true rfl)) dX7_setSlope_14 ⟨(show 0 + 0 ≤ 0 by omega), (show 0 + 0 ≤ 0 by omega)⟩) ?_
    refine z_ifB_ne (tgt := 22) hx hb dX7_setSlope_17 (by decide) (fun c_17 => ?_) (fun c_17 => ?_)
    · refine lv_aload_n hx hb dX7_setSlope_22 rfl (lv_at hl 0 rfl) ?_
      have hPc := hP.sub (ws' := (MW cy a0 a1 a2 a3 a4 a5 a6 a7 ed tc ol nl nw nx ps tm od ne pt)) [0, 1, 2, 3, 4, 5, 6, 7] rfl
      have hDc := (hD.sub (ws' := (MW cy a0 a1 a2 a3 a4 a5 a6 a7 ed tc ol nl nw nx ps tm od ne pt)) [0, 1, 2, 3, 4, 5, 6, 7] (by decide) rfl).weaken (B := fun _ => True) (fun _ _ _ _ => trivial)
      have hFc := va_free (wc := (MW cy a0 a1 a2 a3 a4 a5 a6 a7 ed tc ol nl nw nx ps tm od ne pt)) hD hS hA [0, 1, 2, 3, 4, 5, 6, 7] rfl
      refine z_callE (A := A) (va_runV (As := []) (rest := []) ⟨hx, hb, hml, hown, hts⟩ (c_X7_save lau G cy a0 a1 a2 a3 a4 a5 a6 a7 s.heap.size ed tc ol nl nw nx ps tm od ne pt (by first | assumption | omega)) (cwV 0 hts gX7_setSlope_X7_save rfl rfl rfl (by decide +kernel) ⟨Nat.le_of_ble_eq_true rfl, Nat.le_of_ble_eq_true rfl⟩) ⟨P1_blind, va_recv hK hP (ci := 6) (q0 := 0) rfl rfl, P1_mk hKK (⟨rfl, hPc, hDc⟩)⟩ rfl rfl hl.1 rfl (lv_room (Nat.le_of_ble_eq_true rfl)) dX7_setSlope_23 ⟨(show 0 + 0 ≤ 0 by omega), (show 0 + 0 ≤ 0 by omega)⟩) hS.2.2 hFc (fun v H1 locs1 hR hL1 => ?_)
      obtain ⟨rfl, hq23, hP1, hD1, hF1⟩ := hR
      obtain ⟨hP, hD⟩ := va_join (wr := []) (w1 := (MW cy a0 a1 a2 a3 a4 a5 a6 a7 (svE ed) tc ol nl nw nx (svP ps nw ed) tm od ne pt)) hP hD [0, 1, 2, 3, 4, 5, 6, 7] [] rfl rfl (by decide) (by decide) hF1.2 hFc hP1 hD1
      have hS : va_S A s.heap H1 locs1 := Fh.S ((Fh.of hS).tr hF1 (fun q _ h => hFc q h)) hL1
      clear hPc hDc hFc hP1 hD1 hF1 hL1
      generalize H1 = H at hP hS ⊢
      have hP : va_P G vwCl (MW cy a0 a1 a2 a3 a4 a5 a6 a7 (svE ed) tc ol nl nw nx (svP ps nw ed) tm od ne pt) H := hP
      have hD : va_D A (MW cy a0 a1 a2 a3 a4 a5 a6 a7 (svE ed) tc ol nl nw nx (svP ps nw ed) tm od ne pt) := hD
      refine W.eq (g2 := F0 mt 26 ls []) rfl ?_
      refine lv_iload_n hx hb dX7_setSlope_26 rfl (lv_at hl 1 rfl) ?_
      refine lv_iload_n hx hb dX7_setSlope_27 rfl (lv_at hl 2 rfl) ?_
      refine z_calli (va_runS (As := [.int (iZ p), .int (iZ q)]) (rest := []) ⟨hx, hb, hml, hown, hts⟩ (c_X7_divisor lau G cy p q (by first | assumption | omega) (by first | assumption | omega)) (va_cwS 2 hts gX7_setSlope_X7_divisor rfl rfl rfl (by decide +kernel) ⟨Nat.le_of_ble_eq_true rfl, Nat.le_of_ble_eq_true rfl⟩) ⟨P1_blind, P1_mk hKK (trivial)⟩ rfl rfl hl.1 rfl (lv_room (Nat.le_of_ble_eq_true rfl)) dX7_setSlope_28 ⟨(show 0 + 0 ≤ 0 by omega), (show 0 + 0 ≤ 0 by omega)⟩) ?_
      refine lv_istore_n (lv' := [(3, .int (iZ (Int.gcd p q : Int))), (0, .ref a0), (1, .int (iZ p)), (2, .int (iZ q))]) hx hb dX7_setSlope_31 rfl hl (by decide) rfl (fun ls hl => ?_)
      have hgr := cd_r (a := p) (d := q) (by omega)
      refine lv_aload_n hx hb dX7_setSlope_32 rfl (lv_at hl 1 rfl) ?_
      refine va_get (D := G) (ci := 6) (v := .ref a1) (C := RX7) (T := TX7) (N := 11) hx hb hts (by decide +kernel) hown hK hP 0 rfl rfl 0 (by decide) (hts (.fieldLink RX7 7 "SturmianWordsModel" "now" "[I") (by decide +kernel)) (fun _ h9 => h9) rfl dX7_setSlope_33 ?_
      refine lv_iconst (v := iZ 0) hx hb dX7_setSlope_36 rfl ?_
      refine lv_iload_n hx hb dX7_setSlope_37 rfl (lv_at hl 2 rfl) ?_
      refine lv_iload_n hx hb dX7_setSlope_38 rfl (lv_at hl 0 rfl) ?_
      refine z_idiv hx hb dX7_setSlope_39 (by omega) ?_
      refine z_iast (D := G) hx hb hK hP hD hS 1 0 rfl rfl (by omega) dX7_setSlope_40 (fun H locs hP hD hS => ?_)
      have hP : va_P G vwCl (MW cy a0 a1 a2 a3 a4 a5 a6 a7 (svE ed) tc ol nl (up1 nw 0 (p / (Int.gcd p q : Int))) nx (svP ps nw ed) tm od ne pt) H := hP
      have hD : va_D A (MW cy a0 a1 a2 a3 a4 a5 a6 a7 (svE ed) tc ol nl (up1 nw 0 (p / (Int.gcd p q : Int))) nx (svP ps nw ed) tm od ne pt) := hD
      refine lv_aload_n hx hb dX7_setSlope_41 rfl (lv_at hl 1 rfl) ?_
      refine va_get (D := G) (ci := 6) (v := .ref a1) (C := RX7) (T := TX7) (N := 11) hx hb hts (by decide +kernel) hown hK hP 0 rfl rfl 0 (by decide) (hts (.fieldLink RX7 7 "SturmianWordsModel" "now" "[I") (by decide +kernel)) (fun _ h9 => h9) rfl dX7_setSlope_42 ?_
      refine lv_iconst (v := iZ 1) hx hb dX7_setSlope_45 rfl ?_
      refine lv_iload_n hx hb dX7_setSlope_46 rfl (lv_at hl 3 rfl) ?_
      refine lv_iload_n hx hb dX7_setSlope_47 rfl (lv_at hl 0 rfl) ?_
      refine z_idiv hx hb dX7_setSlope_48 (by omega) ?_
      refine z_iast (D := G) hx hb hK hP hD hS 1 0 rfl rfl (by omega) dX7_setSlope_49 (fun H locs hP hD hS => ?_)
      have hP : va_P G vwCl (MW cy a0 a1 a2 a3 a4 a5 a6 a7 (svE ed) tc ol nl (up1 (up1 nw 0 (p / (Int.gcd p q : Int))) 1 (q / (Int.gcd p q : Int))) nx (svP ps nw ed) tm od ne pt) H := hP
      have hD : va_D A (MW cy a0 a1 a2 a3 a4 a5 a6 a7 (svE ed) tc ol nl (up1 (up1 nw 0 (p / (Int.gcd p q : Int))) 1 (q / (Int.gcd p q : Int))) nx (svP ps nw ed) tm od ne pt) := hD
      refine lv_aload_n hx hb dX7_setSlope_50 rfl (lv_at hl 1 rfl) ?_
      refine va_get (D := G) (ci := 6) (v := .ref a1) (C := RX7) (T := TX7) (N := 11) hx hb hts (by decide +kernel) hown hK hP 0 rfl rfl 0 (by decide) (hts (.fieldLink RX7 7 "SturmianWordsModel" "now" "[I") (by decide +kernel)) (fun _ h9 => h9) rfl dX7_setSlope_51 ?_
      refine lv_iconst (v := iZ 2) hx hb dX7_setSlope_54 rfl ?_
      refine lv_iconst (v := iZ 0) hx hb dX7_setSlope_55 rfl ?_
      refine z_iast (D := G) hx hb hK hP hD hS 1 0 rfl rfl (by omega) dX7_setSlope_56 (fun H locs hP hD hS => ?_)
      have hP : va_P G vwCl (MW cy a0 a1 a2 a3 a4 a5 a6 a7 (svE ed) tc ol nl (up1 (up1 (up1 nw 0 (p / (Int.gcd p q : Int))) 1 (q / (Int.gcd p q : Int))) 2 0) nx (svP ps nw ed) tm od ne pt) H := hP
      have hD : va_D A (MW cy a0 a1 a2 a3 a4 a5 a6 a7 (svE ed) tc ol nl (up1 (up1 (up1 nw 0 (p / (Int.gcd p q : Int))) 1 (q / (Int.gcd p q : Int))) 2 0) nx (svP ps nw ed) tm od ne pt) := hD
      refine lv_aload_n hx hb dX7_setSlope_57 rfl (lv_at hl 1 rfl) ?_
      refine va_get (D := G) (ci := 6) (v := .ref a1) (C := RX7) (T := TX7) (N := 11) hx hb hts (by decide +kernel) hown hK hP 0 rfl rfl 0 (by decide) (hts (.fieldLink RX7 7 "SturmianWordsModel" "now" "[I") (by decide +kernel)) (fun _ h9 => h9) rfl dX7_setSlope_58 ?_
      refine lv_iconst (v := iZ 1) hx hb dX7_setSlope_61 rfl ?_
      refine z_iald (D := G) hx hb hK hP 1 0 rfl rfl (by omega) dX7_setSlope_62 ?_
      refine z_top (b := (q / (Int.gcd p q : Int))) (by rw [up1_n (by decide), up1_s]) ?_
      exact z_iretE hx hb hr hlocks dX7_setSlope_63 hS.2.2 ⟨(show 0 ≤ 0 by omega), (show 0 ≤ 0 by omega)⟩ ⟨(rfl), (trivial), (hP), (hD), Fh.of hS⟩
    · exact absurd h2.2 c_17
set_option maxHeartbeats 4000000 in
set_option maxRecDepth 100000 in
theorem c_X7_setIntercept_no (lau : Launch) (G : va_G) (cy : Nat → ClassId) (a0 a1 a2 a3 a4 a5 a6 a7 : Nat) (sz : Nat) (ed tc ol nl : Int) (nw nx ps tm od ne pt : Int → Int) (c : Int) (h1 : -2147483648 ≤ c ∧ c < 2147483648) (hQ : 0 ≤ nw 0 ∧ nw 0 ≤ nw 1 ∧ 1 ≤ nw 1 ∧ nw 1 ≤ 1000 ∧ 0 ≤ nw 2 ∧ nw 2 < nw 1) (h2 : ¬ (0 ≤ c ∧ c ≤ nw 1 - 1)) : Met lau yX7_setIntercept wsX7_setIntercept ({ frames := 2, cells := 0, slots := 0, locals := 45 }) (P1 G cy [.ref a0, .int (iZ c)] (fun H => H.size = sz ∧ va_P G vwCl (MW cy a0 a1 a2 a3 a4 a5 a6 a7 ed tc ol nl nw nx ps tm od ne pt) H ∧ va_D (fun _ => True) (MW cy a0 a1 a2 a3 a4 a5 a6 a7 ed tc ol nl nw nx ps tm od ne pt))) (Q1 (fun rv H0 H1 => rv = some (.int (iZ (-1))) ∧ (True) ∧ va_P G vwCl (MW cy a0 a1 a2 a3 a4 a5 a6 a7 ed tc ol nl nw nx ps tm od ne pt) H1 ∧ va_D (va_A (MW cy a0 a1 a2 a3 a4 a5 a6 a7 ed tc ol nl nw nx ps tm od ne pt) sz) (MW cy a0 a1 a2 a3 a4 a5 a6 a7 ed tc ol nl nw nx ps tm od ne pt) ∧ Fh (va_A (MW cy a0 a1 a2 a3 a4 a5 a6 a7 ed tc ol nl nw nx ps tm od ne pt) sz) H0 H1)) 0 0 (va_A (MW cy a0 a1 a2 a3 a4 a5 a6 a7 ed tc ol nl nw nx ps tm od ne pt) sz) := by
  refine z_head (lv := [(0, .ref a0), (1, .int (iZ c))]) RX7 (by decide) rfl rfl (Nat.le_of_ble_eq_true rfl) rfl ?_
  intro pr ev s mt below meth cd ls hx hb hr hlocks hml hown hname hts hKK hP hl
  have hK := hKK.1
  obtain ⟨hsz, hP, hD0⟩ := hP
  subst hsz
  have hD := hD0.self (sz := s.heap.size)
  generalize hAe : va_A (MW cy a0 a1 a2 a3 a4 a5 a6 a7 ed tc ol nl nw nx ps tm od ne pt) s.heap.size = A at hD ⊢
  have hA : ∀ q : Nat, s.heap.size ≤ q → A q := fun q h => by rw [← hAe]; exact Or.inr h
  have hS : va_S A s.heap s.heap [] := va_S.rf
  have hP : va_P G vwCl (MW cy a0 a1 a2 a3 a4 a5 a6 a7 ed tc ol nl nw nx ps tm od ne pt) s.heap := hP
  refine lv_iload_n hx hb dX7_setIntercept_0 rfl (lv_at hl 1 rfl) ?_
  refine lv_iconst (v := iZ 0) hx hb dX7_setIntercept_1 rfl ?_
  refine lv_aload_n hx hb dX7_setIntercept_2 rfl (lv_at hl 0 rfl) ?_
  refine va_get (D := G) (ci := 6) (v := .ref a1) (C := RX7) (T := TX7) (N := 11) hx hb hts (by decide +kernel) hown hK hP 0 rfl rfl 0 (by decide) (hts (.fieldLink RX7 7 "SturmianWordsModel" "now" "[I") (by decide +kernel)) (fun _ h9 => h9) rfl dX7_setIntercept_3 ?_
  refine lv_iconst (v := iZ 1) hx hb dX7_setIntercept_6 rfl ?_
  refine z_iald (D := G) hx hb hK hP 1 0 rfl rfl (by omega) dX7_setIntercept_7 ?_
  refine lv_iconst (v := iZ 1) hx hb dX7_setIntercept_8 rfl ?_
  refine z_isub hx hb dX7_setIntercept_9 ?_
  refine z_calli (va_runS (As := [.int (iZ c), .int (iZ 0), .int (iZ ((nw 1) - 1))]) (rest := []) ⟨hx, hb, hml, hown, hts⟩ (c_X7_in lau G cy c 0 ((nw 1) - 1) (by first | assumption | omega)) (va_cwS 3 hts gX7_setIntercept_X7_in rfl rfl rfl (by decide +kernel) ⟨Nat.le_of_ble_eq_true rfl, Nat.le_of_ble_eq_true rfl⟩) ⟨P1_blind, P1_mk hKK (trivial)⟩ rfl rfl hl.1 rfl (lv_room (Nat.le_of_ble_eq_true rfl)) dX7_setIntercept_10 ⟨(show 0 + 0 ≤ 0 by omega), (show 0 + 0 ≤ 0 by omega)⟩) ?_
  refine z_ifB_ne (tgt := 18) hx hb dX7_setIntercept_13 (by decide) (fun c_13 => ?_) (fun c_13 => ?_)
  · exact absurd c_13 h2
  · refine lv_iconst (v := iZ (-1)) hx hb dX7_setIntercept_16 rfl ?_
    exact z_iretE hx hb hr hlocks dX7_setIntercept_17 hS.2.2 ⟨(show 0 ≤ 0 by omega), (show 0 ≤ 0 by omega)⟩ ⟨(rfl), (trivial), (hP), (hD), Fh.of hS⟩
set_option maxHeartbeats 4000000 in
set_option maxRecDepth 100000 in
theorem c_X7_setIntercept (lau : Launch) (G : va_G) (cy : Nat → ClassId) (a0 a1 a2 a3 a4 a5 a6 a7 : Nat) (sz : Nat) (ed tc ol nl : Int) (nw nx ps tm od ne pt : Int → Int) (c : Int) (he : 0 ≤ ed ∧ ed ≤ 6) (hQ : 0 ≤ nw 0 ∧ nw 0 ≤ nw 1 ∧ 1 ≤ nw 1 ∧ nw 1 ≤ 1000 ∧ 0 ≤ nw 2 ∧ nw 2 < nw 1) (h2 : 0 ≤ c ∧ c ≤ nw 1 - 1) : Met lau yX7_setIntercept wsX7_setIntercept ({ frames := 2, cells := 0, slots := 0, locals := 45 }) (P1 G cy [.ref a0, .int (iZ c)] (fun H => H.size = sz ∧ va_P G vwCl (MW cy a0 a1 a2 a3 a4 a5 a6 a7 ed tc ol nl nw nx ps tm od ne pt) H ∧ va_D (fun _ => True) (MW cy a0 a1 a2 a3 a4 a5 a6 a7 ed tc ol nl nw nx ps tm od ne pt))) (Q1 (fun rv H0 H1 => rv = some (.int (iZ (nw 2))) ∧ (True) ∧ va_P G vwCl (MW cy a0 a1 a2 a3 a4 a5 a6 a7 (svE ed) tc ol nl (up1 nw 2 c) nx (svP ps nw ed) tm od ne pt) H1 ∧ va_D (va_A (MW cy a0 a1 a2 a3 a4 a5 a6 a7 ed tc ol nl nw nx ps tm od ne pt) sz) (MW cy a0 a1 a2 a3 a4 a5 a6 a7 (svE ed) tc ol nl (up1 nw 2 c) nx (svP ps nw ed) tm od ne pt) ∧ Fh (va_A (MW cy a0 a1 a2 a3 a4 a5 a6 a7 ed tc ol nl nw nx ps tm od ne pt) sz) H0 H1)) 0 0 (va_A (MW cy a0 a1 a2 a3 a4 a5 a6 a7 ed tc ol nl nw nx ps tm od ne pt) sz) := by
  refine z_head (lv := [(0, .ref a0), (1, .int (iZ c))]) RX7 (by decide) rfl rfl (Nat.le_of_ble_eq_true rfl) rfl ?_
  intro pr ev s mt below meth cd ls hx hb hr hlocks hml hown hname hts hKK hP hl
  have hK := hKK.1
  obtain ⟨hsz, hP, hD0⟩ := hP
  subst hsz
  have hD := hD0.self (sz := s.heap.size)
  generalize hAe : va_A (MW cy a0 a1 a2 a3 a4 a5 a6 a7 ed tc ol nl nw nx ps tm od ne pt) s.heap.size = A at hD ⊢
  have hA : ∀ q : Nat, s.heap.size ≤ q → A q := fun q h => by rw [← hAe]; exact Or.inr h
  have hS : va_S A s.heap s.heap [] := va_S.rf
  have hP : va_P G vwCl (MW cy a0 a1 a2 a3 a4 a5 a6 a7 ed tc ol nl nw nx ps tm od ne pt) s.heap := hP
  refine lv_iload_n hx hb dX7_setIntercept_0 rfl (lv_at hl 1 rfl) ?_
  refine lv_iconst (v := iZ 0) hx hb dX7_setIntercept_1 rfl ?_
  refine lv_aload_n hx hb dX7_setIntercept_2 rfl (lv_at hl 0 rfl) ?_
  refine va_get (D := G) (ci := 6) (v := .ref a1) (C := RX7) (T := TX7) (N := 11) hx hb hts (by decide +kernel) hown hK hP 0 rfl rfl 0 (by decide) (hts (.fieldLink RX7 7 "SturmianWordsModel" "now" "[I") (by decide +kernel)) (fun _ h9 => h9) rfl dX7_setIntercept_3 ?_
  refine lv_iconst (v := iZ 1) hx hb dX7_setIntercept_6 rfl ?_
  refine z_iald (D := G) hx hb hK hP 1 0 rfl rfl (by omega) dX7_setIntercept_7 ?_
  refine lv_iconst (v := iZ 1) hx hb dX7_setIntercept_8 rfl ?_
  refine z_isub hx hb dX7_setIntercept_9 ?_
  refine z_calli (va_runS (As := [.int (iZ c), .int (iZ 0), .int (iZ ((nw 1) - 1))]) (rest := []) ⟨hx, hb, hml, hown, hts⟩ (c_X7_in lau G cy c 0 ((nw 1) - 1) (by first | assumption | omega)) (va_cwS 3 hts gX7_setIntercept_X7_in rfl rfl rfl (by decide +kernel) ⟨Nat.le_of_ble_eq_true rfl, Nat.le_of_ble_eq_true rfl⟩) ⟨P1_blind, P1_mk hKK (trivial)⟩ rfl rfl hl.1 rfl (lv_room (Nat.le_of_ble_eq_true rfl)) dX7_setIntercept_10 ⟨(show 0 + 0 ≤ 0 by omega), (show 0 + 0 ≤ 0 by omega)⟩) ?_
  refine z_ifB_ne (tgt := 18) hx hb dX7_setIntercept_13 (by decide) (fun c_13 => ?_) (fun c_13 => ?_)
  · refine lv_aload_n hx hb dX7_setIntercept_18 rfl (lv_at hl 0 rfl) ?_
    have hPc := hP.sub (ws' := (MW cy a0 a1 a2 a3 a4 a5 a6 a7 ed tc ol nl nw nx ps tm od ne pt)) [0, 1, 2, 3, 4, 5, 6, 7] rfl
    have hDc := (hD.sub (ws' := (MW cy a0 a1 a2 a3 a4 a5 a6 a7 ed tc ol nl nw nx ps tm od ne pt)) [0, 1, 2, 3, 4, 5, 6, 7] (by decide) rfl).weaken (B := fun _ => True) (fun _ _ _ _ => trivial)
    have hFc := va_free (wc := (MW cy a0 a1 a2 a3 a4 a5 a6 a7 ed tc ol nl nw nx ps tm od ne pt)) hD hS hA [0, 1, 2, 3, 4, 5, 6, 7] rfl
    refine z_callE (A := A) (va_runV (As := []) (rest := []) ⟨hx, hb, hml, hown, hts⟩ (c_X7_save lau G cy a0 a1 a2 a3 a4 a5 a6 a7 s.heap.size ed tc ol nl nw nx ps tm od ne pt (by first | assumption | omega)) (cwV 0 hts gX7_setIntercept_X7_save rfl rfl rfl (by decide +kernel) ⟨Nat.le_of_ble_eq_true rfl, Nat.le_of_ble_eq_true rfl⟩) ⟨P1_blind, va_recv hK hP (ci := 6) (q0 := 0) rfl rfl, P1_mk hKK (⟨rfl, hPc, hDc⟩)⟩ rfl rfl hl.1 rfl (lv_room (Nat.le_of_ble_eq_true rfl)) dX7_setIntercept_19 ⟨(show 0 + 0 ≤ 0 by omega), (show 0 + 0 ≤ 0 by omega)⟩) hS.2.2 hFc (fun v H1 locs1 hR hL1 => ?_)
    obtain ⟨rfl, hq19, hP1, hD1, hF1⟩ := hR
    obtain ⟨hP, hD⟩ := va_join (wr := []) (w1 := (MW cy a0 a1 a2 a3 a4 a5 a6 a7 (svE ed) tc ol nl nw nx (svP ps nw ed) tm od ne pt)) hP hD [0, 1, 2, 3, 4, 5, 6, 7] [] rfl rfl (by decide) (by decide) hF1.2 hFc hP1 hD1
    have hS : va_S A s.heap H1 locs1 := Fh.S ((Fh.of hS).tr hF1 (fun q _ h => hFc q h)) hL1
    clear hPc hDc hFc hP1 hD1 hF1 hL1
    generalize H1 = H at hP hS ⊢
    have hP : va_P G vwCl (MW cy a0 a1 a2 a3 a4 a5 a6 a7 (svE ed) tc ol nl nw nx (svP ps nw ed) tm od ne pt) H := hP
    have hD : va_D A (MW cy a0 a1 a2 a3 a4 a5 a6 a7 (svE ed) tc ol nl nw nx (svP ps nw ed) tm od ne pt) := hD
    refine W.eq (g2 := F0 mt 22 ls []) rfl ?_
    refine lv_aload_n hx hb dX7_setIntercept_22 rfl (lv_at hl 0 rfl) ?_
    refine va_get (D := G) (ci := 6) (v := .ref a1) (C := RX7) (T := TX7) (N := 11) hx hb hts (by decide +kernel) hown hK hP 0 rfl rfl 0 (by decide) (hts (.fieldLink RX7 7 "SturmianWordsModel" "now" "[I") (by decide +kernel)) (fun _ h9 => h9) rfl dX7_setIntercept_23 ?_
    refine lv_iconst (v := iZ 2) hx hb dX7_setIntercept_26 rfl ?_
    refine z_iald (D := G) hx hb hK hP 1 0 rfl rfl (by omega) dX7_setIntercept_27 ?_
    refine lv_istore_n (lv' := [(2, .int (iZ (nw 2))), (0, .ref a0), (1, .int (iZ c))]) hx hb dX7_setIntercept_28 rfl hl (by decide) rfl (fun ls hl => ?_)
    refine lv_aload_n hx hb dX7_setIntercept_29 rfl (lv_at hl 1 rfl) ?_
    refine va_get (D := G) (ci := 6) (v := .ref a1) (C := RX7) (T := TX7) (N := 11) hx hb hts (by decide +kernel) hown hK hP 0 rfl rfl 0 (by decide) (hts (.fieldLink RX7 7 "SturmianWordsModel" "now" "[I") (by decide +kernel)) (fun _ h9 => h9) rfl dX7_setIntercept_30 ?_
    refine lv_iconst (v := iZ 2) hx hb dX7_setIntercept_33 rfl ?_
    refine lv_iload_n hx hb dX7_setIntercept_34 rfl (lv_at hl 2 rfl) ?_
    refine z_iast (D := G) hx hb hK hP hD hS 1 0 rfl rfl (by omega) dX7_setIntercept_35 (fun H locs hP hD hS => ?_)
    have hP : va_P G vwCl (MW cy a0 a1 a2 a3 a4 a5 a6 a7 (svE ed) tc ol nl (up1 nw 2 c) nx (svP ps nw ed) tm od ne pt) H := hP
    have hD : va_D A (MW cy a0 a1 a2 a3 a4 a5 a6 a7 (svE ed) tc ol nl (up1 nw 2 c) nx (svP ps nw ed) tm od ne pt) := hD
    refine lv_iload_n hx hb dX7_setIntercept_36 rfl (lv_at hl 0 rfl) ?_
    exact z_iretE hx hb hr hlocks dX7_setIntercept_37 hS.2.2 ⟨(show 0 ≤ 0 by omega), (show 0 ≤ 0 by omega)⟩ ⟨(rfl), (trivial), (hP), (hD), Fh.of hS⟩
  · exact absurd h2 c_13
set_option maxHeartbeats 4000000 in
set_option maxRecDepth 100000 in
theorem c_X7_expand (lau : Launch) (G : va_G) (cy : Nat → ClassId) (a0 a1 a2 a3 a4 a5 a6 a7 : Nat) (sz : Nat) (ed tc ol nl : Int) (nw nx ps tm od ne pt : Int → Int) (hQ : 0 ≤ nw 0 ∧ nw 0 ≤ nw 1 ∧ 1 ≤ nw 1 ∧ nw 1 ≤ 1000) : Met lau yX7_expand wsX7_expand ({ frames := 0, cells := 0, slots := 0, locals := 0 }) (P1 G cy [.ref a0] (fun H => H.size = sz ∧ va_P G vwCl (MW cy a0 a1 a2 a3 a4 a5 a6 a7 ed tc ol nl nw nx ps tm od ne pt) H ∧ va_D (fun _ => True) (MW cy a0 a1 a2 a3 a4 a5 a6 a7 ed tc ol nl nw nx ps tm od ne pt))) (Q1 (fun rv H0 H1 => rv = none ∧ (0 ≤ ntm (nw 0) (nw 1) ∧ ntm (nw 0) (nw 1) ≤ 19 ∧ ∀ j, 0 ≤ j → j < ntm (nw 0) (nw 1) → 0 < (eu (nw 0) (nw 1) j).2) ∧ va_P G vwCl (MW cy a0 a1 a2 a3 a4 a5 a6 a7 ed (ntm (nw 0) (nw 1)) ol nl nw nx ps (tmE tm (nw 0) (nw 1) (ntm (nw 0) (nw 1))) od ne pt) H1 ∧ va_D (va_A (MW cy a0 a1 a2 a3 a4 a5 a6 a7 ed tc ol nl nw nx ps tm od ne pt) sz) (MW cy a0 a1 a2 a3 a4 a5 a6 a7 ed (ntm (nw 0) (nw 1)) ol nl nw nx ps (tmE tm (nw 0) (nw 1) (ntm (nw 0) (nw 1))) od ne pt) ∧ Fh (va_A (MW cy a0 a1 a2 a3 a4 a5 a6 a7 ed tc ol nl nw nx ps tm od ne pt) sz) H0 H1)) 0 0 (va_A (MW cy a0 a1 a2 a3 a4 a5 a6 a7 ed tc ol nl nw nx ps tm od ne pt) sz) := by
  refine z_head (lv := [(0, .ref a0)]) RX7 (by decide) rfl rfl (Nat.le_of_ble_eq_true rfl) rfl ?_
  intro pr ev s mt below meth cd ls hx hb hr hlocks hml hown hname hts hKK hP hl
  have hK := hKK.1
  obtain ⟨hsz, hP, hD0⟩ := hP
  subst hsz
  have hD := hD0.self (sz := s.heap.size)
  generalize hAe : va_A (MW cy a0 a1 a2 a3 a4 a5 a6 a7 ed tc ol nl nw nx ps tm od ne pt) s.heap.size = A at hD ⊢
  have hA : ∀ q : Nat, s.heap.size ≤ q → A q := fun q h => by rw [← hAe]; exact Or.inr h
  have hS : va_S A s.heap s.heap [] := va_S.rf
  have hP : va_P G vwCl (MW cy a0 a1 a2 a3 a4 a5 a6 a7 ed tc ol nl nw nx ps tm od ne pt) s.heap := hP
  refine lv_aload_n hx hb dX7_expand_0 rfl (lv_at hl 0 rfl) ?_
  refine lv_iconst (v := iZ 0) hx hb dX7_expand_1 rfl ?_
  refine va_put (D := G) (ci := 6) (v := .int (iZ 0)) (ty := .int) (C := RX7) (T := TX7) (N := 11) hx hb hts (by decide +kernel) tyX7 tyX7_ok nmX7 hown hK hP hD hS 0 rfl rfl 5 (by decide) (hts (.fieldLink RX7 51 "SturmianWordsModel" "termCount" "I") (by decide +kernel)) (fun _ h9 => h9) rfl (by decide +kernel) rfl rfl (Nat.le_of_ble_eq_true rfl) dX7_expand_2 (fun H locs hP hD hS => ?_)
  have hP : va_P G vwCl (MW cy a0 a1 a2 a3 a4 a5 a6 a7 ed 0 ol nl nw nx ps tm od ne pt) H := hP
  have hD : va_D A (MW cy a0 a1 a2 a3 a4 a5 a6 a7 ed 0 ol nl nw nx ps tm od ne pt) := hD
  refine lv_aload_n hx hb dX7_expand_5 rfl (lv_at hl 0 rfl) ?_
  refine va_get (D := G) (ci := 6) (v := .ref a1) (C := RX7) (T := TX7) (N := 11) hx hb hts (by decide +kernel) hown hK hP 0 rfl rfl 0 (by decide) (hts (.fieldLink RX7 7 "SturmianWordsModel" "now" "[I") (by decide +kernel)) (fun _ h9 => h9) rfl dX7_expand_6 ?_
  refine lv_iconst (v := iZ 1) hx hb dX7_expand_9 rfl ?_
  refine z_iald (D := G) hx hb hK hP 1 0 rfl rfl (by omega) dX7_expand_10 ?_
  refine lv_istore_n (lv' := [(1, .int (iZ (nw 1))), (0, .ref a0)]) hx hb dX7_expand_11 rfl hl (by decide) rfl (fun ls hl => ?_)
  refine lv_aload_n hx hb dX7_expand_12 rfl (lv_at hl 1 rfl) ?_
  refine va_get (D := G) (ci := 6) (v := .ref a1) (C := RX7) (T := TX7) (N := 11) hx hb hts (by decide +kernel) hown hK hP 0 rfl rfl 0 (by decide) (hts (.fieldLink RX7 7 "SturmianWordsModel" "now" "[I") (by decide +kernel)) (fun _ h9 => h9) rfl dX7_expand_13 ?_
  refine lv_iconst (v := iZ 0) hx hb dX7_expand_16 rfl ?_
  refine z_iald (D := G) hx hb hK hP 1 0 rfl rfl (by omega) dX7_expand_17 ?_
  refine lv_istore_n (lv' := [(2, .int (iZ (nw 0))), (1, .int (iZ (nw 1))), (0, .ref a0)]) hx hb dX7_expand_18 rfl hl (by decide) rfl (fun ls hl => ?_)
  rw [← tmE_0 tm (nw 0) (nw 1)] at hP hD
  refine z_loopH3 (nL := 4) (A := A) (fun (a : Int) (b : Int) (k : Int) => [(0, .ref a0), (1, .int (iZ a)), (2, .int (iZ b))]) (fun (a : Int) (b : Int) (k : Int) (H : Heap) => ((eu (nw 0) (nw 1) k = (a, b)) ∧ (0 ≤ a ∧ a ≤ 1000 ∧ 0 ≤ b ∧ b ≤ 1000) ∧ (0 ≤ k ∧ k ≤ 19) ∧ (fnd (fun k => (eu (nw 0) (nw 1) k).2 ≤ 0) k = -1)) ∧ va_P G vwCl (MW cy a0 a1 a2 a3 a4 a5 a6 a7 ed k ol nl nw nx ps (tmE tm (nw 0) (nw 1) k) od ne pt) H ∧ va_D A (MW cy a0 a1 a2 a3 a4 a5 a6 a7 ed k ol nl nw nx ps (tmE tm (nw 0) (nw 1) k) od ne pt) ∧ Fh A s.heap H) (fun (a : Int) (b : Int) (k : Int) => b) (fun (a : Int) (b : Int) (k : Int) => 0) (fun (a : Int) (b : Int) (k : Int) => 0) (a1 := (nw 1)) (a2 := (nw 0)) (a3 := 0) ⟨⟨(eu_0 _ _), (by omega), (by omega), (fnd_0 (Int.le_refl 0))⟩, hP, hD, Fh.of hS⟩ hS.2.2 (lv_sub hl [2, 1, 0] rfl) ?_
  rintro a b k H locs ⟨⟨i1, i2, i3, i4⟩, hP, hD, hFr⟩ hLc ih_19 ls hl
  have hS : va_S A s.heap H locs := Fh.S hFr hLc
  refine lv_iload_n hx hb dX7_expand_19 rfl (lv_at hl 2 rfl) ?_
  refine z_if_eq (tgt := 56) hx hb dX7_expand_20 (by decide) (by omega) (fun c_20 => ?_) (fun c_20 => ?_)
  · have hk : ntm (nw 0) (nw 1) = k := ntm_at (by omega) i4 (by rw [i1]; show b ≤ 0; omega)
    rw [← hk] at hP hD
    exact z_vretE hx hb hr hlocks dX7_expand_56 hS.2.2 ⟨(show 0 ≤ 0 by omega), (show 0 ≤ 0 by omega)⟩ ⟨(rfl), (by rw [hk]; refine ⟨by omega, by omega, fun j h1 h2 => ?_⟩; have := fnd_none_lt i4 h1 h2; omega), (hP), (hD), Fh.of hS⟩
  · refine lv_aload_n hx hb dX7_expand_23 rfl (lv_at hl 0 rfl) ?_
    refine va_get (D := G) (ci := 6) (v := .ref a4) (C := RX7) (T := TX7) (N := 11) hx hb hts (by decide +kernel) hown hK hP 0 rfl rfl 4 (by decide) (hts (.fieldLink RX7 19 "SturmianWordsModel" "terms" "[I") (by decide +kernel)) (fun _ h9 => h9) rfl dX7_expand_24 ?_
    refine lv_aload_n hx hb dX7_expand_27 rfl (lv_at hl 0 rfl) ?_
    refine va_get (D := G) (ci := 6) (v := .int (iZ k)) (C := RX7) (T := TX7) (N := 11) hx hb hts (by decide +kernel) hown hK hP 0 rfl rfl 5 (by decide) (hts (.fieldLink RX7 51 "SturmianWordsModel" "termCount" "I") (by decide +kernel)) (fun _ h9 => h9) rfl dX7_expand_28 ?_
    refine lv_iload_n hx hb dX7_expand_31 rfl (lv_at hl 1 rfl) ?_
    refine lv_iload_n hx hb dX7_expand_32 rfl (lv_at hl 2 rfl) ?_
    refine z_idiv hx hb dX7_expand_33 (by omega) ?_
    have h20 := eu_20 (p := nw 0) (q := nw 1) (k := k) (by omega) (by omega) (by omega) (by rw [i1]; show 0 < b; omega)
    refine z_iast (D := G) hx hb hK hP hD hS 4 0 rfl rfl (by omega) dX7_expand_34 (fun H locs hP hD hS => ?_)
    have hP : va_P G vwCl (MW cy a0 a1 a2 a3 a4 a5 a6 a7 ed k ol nl nw nx ps (up1 (tmE tm (nw 0) (nw 1) k) k (a / b)) od ne pt) H := hP
    have hD : va_D A (MW cy a0 a1 a2 a3 a4 a5 a6 a7 ed k ol nl nw nx ps (up1 (tmE tm (nw 0) (nw 1) k) k (a / b)) od ne pt) := hD
    rw [show (up1 (tmE tm (nw 0) (nw 1) k) k (a / b)) = (tmE tm (nw 0) (nw 1) (k + 1)) from by rw [show a / b = cft (nw 0) (nw 1) (k + 1) from (cft_at i1 (by omega)).symm]; exact tmE_s (by omega)] at hP hD
    refine lv_aload_n hx hb dX7_expand_35 rfl (lv_at hl 0 rfl) ?_
    refine lv_dup hx hb dX7_expand_36 rfl ?_
    refine va_get (D := G) (ci := 6) (v := .int (iZ k)) (C := RX7) (T := TX7) (N := 11) hx hb hts (by decide +kernel) hown hK hP 0 rfl rfl 5 (by decide) (hts (.fieldLink RX7 51 "SturmianWordsModel" "termCount" "I") (by decide +kernel)) (fun _ h9 => h9) rfl dX7_expand_37 ?_
    refine lv_iconst (v := iZ 1) hx hb dX7_expand_40 rfl ?_
    refine z_iadd hx hb dX7_expand_41 ?_
    refine va_put (D := G) (ci := 6) (v := .int (iZ (k + 1))) (ty := .int) (C := RX7) (T := TX7) (N := 11) hx hb hts (by decide +kernel) tyX7 tyX7_ok nmX7 hown hK hP hD hS 0 rfl rfl 5 (by decide) (hts (.fieldLink RX7 51 "SturmianWordsModel" "termCount" "I") (by decide +kernel)) (fun _ h9 => h9) rfl (by decide +kernel) rfl rfl (Nat.le_of_ble_eq_true rfl) dX7_expand_42 (fun H locs hP hD hS => ?_)
    have hP : va_P G vwCl (MW cy a0 a1 a2 a3 a4 a5 a6 a7 ed (k + 1) ol nl nw nx ps (tmE tm (nw 0) (nw 1) (k + 1)) od ne pt) H := hP
    have hD : va_D A (MW cy a0 a1 a2 a3 a4 a5 a6 a7 ed (k + 1) ol nl nw nx ps (tmE tm (nw 0) (nw 1) (k + 1)) od ne pt) := hD
    refine lv_iload_n hx hb dX7_expand_45 rfl (lv_at hl 1 rfl) ?_
    refine lv_iload_n hx hb dX7_expand_46 rfl (lv_at hl 2 rfl) ?_
    refine z_irem hx hb dX7_expand_47 (by omega) ?_
    refine z_tope (fun x48_1 ex48_1 => ?_)
    have e1 := Int.emod_nonneg a (show b ≠ 0 by omega)
    have e2 := Int.emod_lt_of_pos a (show 0 < b by omega)
    refine lv_istore_n (lv' := [(3, .int (iZ x48_1)), (0, .ref a0), (1, .int (iZ a)), (2, .int (iZ b))]) hx hb dX7_expand_48 rfl hl (by decide) rfl (fun ls hl => ?_)
    refine lv_iload_n hx hb dX7_expand_49 rfl (lv_at hl 3 rfl) ?_
    refine lv_istore_n (lv' := [(1, .int (iZ b)), (3, .int (iZ x48_1)), (0, .ref a0), (2, .int (iZ b))]) hx hb dX7_expand_50 rfl hl (by decide) rfl (fun ls hl => ?_)
    refine lv_iload_n hx hb dX7_expand_51 rfl (lv_at hl 1 rfl) ?_
    refine lv_istore_n (lv' := [(2, .int (iZ x48_1)), (1, .int (iZ b)), (3, .int (iZ x48_1)), (0, .ref a0)]) hx hb dX7_expand_52 rfl hl (by decide) rfl (fun ls hl => ?_)
    refine lv_goto (tgt := 19) hx hb dX7_expand_53 (by decide) ?_
    exact ih_19 b x48_1 (k + 1) _ _ ⟨⟨(by rw [eu_p (by omega) (by rw [i1]; show 0 < b; omega), i1, ex48_1]), (by omega), (by omega), (fnd_miss (by omega) i4 (by rw [i1]; show ¬ b ≤ 0; omega))⟩, hP, hD, Fh.of hS⟩ hS.2.2 ⟨by omega, by omega⟩ _ (lv_sub hl [3, 1, 0] rfl)
set_option maxHeartbeats 4000000 in
set_option maxRecDepth 100000 in
theorem c_X7_continuedFractionTerm_no (lau : Launch) (G : va_G) (cy : Nat → ClassId) (a0 a1 a2 a3 a4 a5 a6 a7 : Nat) (sz : Nat) (ed tc ol nl : Int) (nw nx ps tm od ne pt : Int → Int) (ix : Int) (h1 : -2147483648 ≤ ix ∧ ix < 2147483648) (h2 : ix < 1) : Met lau yX7_continuedFractionTerm wsX7_continuedFractionTerm ({ frames := 1, cells := 0, slots := 0, locals := 23 }) (P1 G cy [.ref a0, .int (iZ ix)] (fun H => H.size = sz ∧ va_P G vwCl (MW cy a0 a1 a2 a3 a4 a5 a6 a7 ed tc ol nl nw nx ps tm od ne pt) H ∧ va_D (fun _ => True) (MW cy a0 a1 a2 a3 a4 a5 a6 a7 ed tc ol nl nw nx ps tm od ne pt))) (Q1 (fun rv H0 H1 => rv = some (.int (iZ (-1))) ∧ (True) ∧ va_P G vwCl (MW cy a0 a1 a2 a3 a4 a5 a6 a7 ed tc ol nl nw nx ps tm od ne pt) H1 ∧ va_D (va_A (MW cy a0 a1 a2 a3 a4 a5 a6 a7 ed tc ol nl nw nx ps tm od ne pt) sz) (MW cy a0 a1 a2 a3 a4 a5 a6 a7 ed tc ol nl nw nx ps tm od ne pt) ∧ Fh (va_A (MW cy a0 a1 a2 a3 a4 a5 a6 a7 ed tc ol nl nw nx ps tm od ne pt) sz) H0 H1)) 0 0 (va_A (MW cy a0 a1 a2 a3 a4 a5 a6 a7 ed tc ol nl nw nx ps tm od ne pt) sz) := by
  refine z_head (lv := [(0, .ref a0), (1, .int (iZ ix))]) RX7 (by decide) rfl rfl (Nat.le_of_ble_eq_true rfl) rfl ?_
  intro pr ev s mt below meth cd ls hx hb hr hlocks hml hown hname hts hKK hP hl
  have hK := hKK.1
  obtain ⟨hsz, hP, hD0⟩ := hP
  subst hsz
  have hD := hD0.self (sz := s.heap.size)
  generalize hAe : va_A (MW cy a0 a1 a2 a3 a4 a5 a6 a7 ed tc ol nl nw nx ps tm od ne pt) s.heap.size = A at hD ⊢
  have hA : ∀ q : Nat, s.heap.size ≤ q → A q := fun q h => by rw [← hAe]; exact Or.inr h
  have hS : va_S A s.heap s.heap [] := va_S.rf
  have hP : va_P G vwCl (MW cy a0 a1 a2 a3 a4 a5 a6 a7 ed tc ol nl nw nx ps tm od ne pt) s.heap := hP
  refine lv_iload_n hx hb dX7_continuedFractionTerm_0 rfl (lv_at hl 1 rfl) ?_
  refine lv_iconst (v := iZ 1) hx hb dX7_continuedFractionTerm_1 rfl ?_
  refine z_icmp_ge (tgt := 7) hx hb dX7_continuedFractionTerm_2 (by decide) (by omega) (fun c_2 => ?_) (fun c_2 => ?_)
  · exfalso; omega
  · refine lv_iconst (v := iZ (-1)) hx hb dX7_continuedFractionTerm_5 rfl ?_
    exact z_iretE hx hb hr hlocks dX7_continuedFractionTerm_6 hS.2.2 ⟨(show 0 ≤ 0 by omega), (show 0 ≤ 0 by omega)⟩ ⟨(rfl), (trivial), (hP), (hD), Fh.of hS⟩
set_option maxHeartbeats 4000000 in
set_option maxRecDepth 100000 in
theorem c_X7_continuedFractionTerm (lau : Launch) (G : va_G) (cy : Nat → ClassId) (a0 a1 a2 a3 a4 a5 a6 a7 : Nat) (sz : Nat) (ed tc ol nl : Int) (nw nx ps tm od ne pt : Int → Int) (ix : Int) (hQ : 0 ≤ nw 0 ∧ nw 0 ≤ nw 1 ∧ 1 ≤ nw 1 ∧ nw 1 ≤ 1000) (h1 : 1 ≤ ix ∧ ix < 2147483648) : Met lau yX7_continuedFractionTerm wsX7_continuedFractionTerm ({ frames := 1, cells := 0, slots := 0, locals := 23 }) (P1 G cy [.ref a0, .int (iZ ix)] (fun H => H.size = sz ∧ va_P G vwCl (MW cy a0 a1 a2 a3 a4 a5 a6 a7 ed tc ol nl nw nx ps tm od ne pt) H ∧ va_D (fun _ => True) (MW cy a0 a1 a2 a3 a4 a5 a6 a7 ed tc ol nl nw nx ps tm od ne pt))) (Q1 (fun rv H0 H1 => rv = some (.int (iZ (cftR (nw 0) (nw 1) ix))) ∧ (True) ∧ va_P G vwCl (MW cy a0 a1 a2 a3 a4 a5 a6 a7 ed (ntm (nw 0) (nw 1)) ol nl nw nx ps (tmE tm (nw 0) (nw 1) (ntm (nw 0) (nw 1))) od ne pt) H1 ∧ va_D (va_A (MW cy a0 a1 a2 a3 a4 a5 a6 a7 ed tc ol nl nw nx ps tm od ne pt) sz) (MW cy a0 a1 a2 a3 a4 a5 a6 a7 ed (ntm (nw 0) (nw 1)) ol nl nw nx ps (tmE tm (nw 0) (nw 1) (ntm (nw 0) (nw 1))) od ne pt) ∧ Fh (va_A (MW cy a0 a1 a2 a3 a4 a5 a6 a7 ed tc ol nl nw nx ps tm od ne pt) sz) H0 H1)) 0 0 (va_A (MW cy a0 a1 a2 a3 a4 a5 a6 a7 ed tc ol nl nw nx ps tm od ne pt) sz) := by
  refine z_head (lv := [(0, .ref a0), (1, .int (iZ ix))]) RX7 (by decide) rfl rfl (Nat.le_of_ble_eq_true rfl) rfl ?_
  intro pr ev s mt below meth cd ls hx hb hr hlocks hml hown hname hts hKK hP hl
  have hK := hKK.1
  obtain ⟨hsz, hP, hD0⟩ := hP
  subst hsz
  have hD := hD0.self (sz := s.heap.size)
  generalize hAe : va_A (MW cy a0 a1 a2 a3 a4 a5 a6 a7 ed tc ol nl nw nx ps tm od ne pt) s.heap.size = A at hD ⊢
  have hA : ∀ q : Nat, s.heap.size ≤ q → A q := fun q h => by rw [← hAe]; exact Or.inr h
  have hS : va_S A s.heap s.heap [] := va_S.rf
  have hP : va_P G vwCl (MW cy a0 a1 a2 a3 a4 a5 a6 a7 ed tc ol nl nw nx ps tm od ne pt) s.heap := hP
  refine lv_iload_n hx hb dX7_continuedFractionTerm_0 rfl (lv_at hl 1 rfl) ?_
  refine lv_iconst (v := iZ 1) hx hb dX7_continuedFractionTerm_1 rfl ?_
  refine z_icmp_ge (tgt := 7) hx hb dX7_continuedFractionTerm_2 (by decide) (by omega) (fun c_2 => ?_) (fun c_2 => ?_)
  · refine lv_aload_n hx hb dX7_continuedFractionTerm_7 rfl (lv_at hl 0 rfl) ?_
    have hPc := hP.sub (ws' := (MW cy a0 a1 a2 a3 a4 a5 a6 a7 ed tc ol nl nw nx ps tm od ne pt)) [0, 1, 2, 3, 4, 5, 6, 7] rfl
    have hDc := (hD.sub (ws' := (MW cy a0 a1 a2 a3 a4 a5 a6 a7 ed tc ol nl nw nx ps tm od ne pt)) [0, 1, 2, 3, 4, 5, 6, 7] (by decide) rfl).weaken (B := fun _ => True) (fun _ _ _ _ => trivial)
    have hFc := va_free (wc := (MW cy a0 a1 a2 a3 a4 a5 a6 a7 ed tc ol nl nw nx ps tm od ne pt)) hD hS hA [0, 1, 2, 3, 4, 5, 6, 7] rfl
    refine z_callE (A := A) (va_runV (As := []) (rest := []) ⟨hx, hb, hml, hown, hts⟩ (c_X7_expand lau G cy a0 a1 a2 a3 a4 a5 a6 a7 s.heap.size ed tc ol nl nw nx ps tm od ne pt (by first | assumption | omega)) (cwV 0 hts gX7_continuedFractionTerm_X7_expand rfl rfl rfl (by decide +kernel) ⟨Nat.le_of_ble_eq_true rfl, Nat.le_of_ble_eq_true rfl⟩) ⟨P1_blind, va_recv hK hP (ci := 6) (q0 := 0) rfl rfl, P1_mk hKK (⟨rfl, hPc, hDc⟩)⟩ rfl rfl hl.1 rfl (lv_room (Nat.le_of_ble_eq_true rfl)) dX7_continuedFractionTerm_8 ⟨(show 0 + 0 ≤ 0 by omega), (show 0 + 0 ≤ 0 by omega)⟩) hS.2.2 hFc (fun v H1 locs1 hR hL1 => ?_)
    obtain ⟨rfl, hq8, hP1, hD1, hF1⟩ := hR
    obtain ⟨hP, hD⟩ := va_join (wr := []) (w1 := (MW cy a0 a1 a2 a3 a4 a5 a6 a7 ed (ntm (nw 0) (nw 1)) ol nl nw nx ps (tmE tm (nw 0) (nw 1) (ntm (nw 0) (nw 1))) od ne pt)) hP hD [0, 1, 2, 3, 4, 5, 6, 7] [] rfl rfl (by decide) (by decide) hF1.2 hFc hP1 hD1
    have hS : va_S A s.heap H1 locs1 := Fh.S ((Fh.of hS).tr hF1 (fun q _ h => hFc q h)) hL1
    clear hPc hDc hFc hP1 hD1 hF1 hL1
    generalize H1 = H at hP hS ⊢
    have hP : va_P G vwCl (MW cy a0 a1 a2 a3 a4 a5 a6 a7 ed (ntm (nw 0) (nw 1)) ol nl nw nx ps (tmE tm (nw 0) (nw 1) (ntm (nw 0) (nw 1))) od ne pt) H := hP
    have hD : va_D A (MW cy a0 a1 a2 a3 a4 a5 a6 a7 ed (ntm (nw 0) (nw 1)) ol nl nw nx ps (tmE tm (nw 0) (nw 1) (ntm (nw 0) (nw 1))) od ne pt) := hD
    refine W.eq (g2 := F0 mt 11 ls []) rfl ?_
    have hqx := hq8
    refine lv_iload_n hx hb dX7_continuedFractionTerm_11 rfl (lv_at hl 1 rfl) ?_
    refine lv_aload_n hx hb dX7_continuedFractionTerm_12 rfl (lv_at hl 0 rfl) ?_
    refine va_get (D := G) (ci := 6) (v := .int (iZ (ntm (nw 0) (nw 1)))) (C := RX7) (T := TX7) (N := 11) hx hb hts (by decide +kernel) hown hK hP 0 rfl rfl 5 (by decide) (hts (.fieldLink RX7 51 "SturmianWordsModel" "termCount" "I") (by decide +kernel)) (fun _ h9 => h9) rfl dX7_continuedFractionTerm_13 ?_
    refine z_icmp_gt (tgt := 30) hx hb dX7_continuedFractionTerm_16 (by decide) (by omega) (fun c_16 => ?_) (fun c_16 => ?_)
    · refine lv_bipush (v := iZ (-3)) hx hb dX7_continuedFractionTerm_30 (by decide +kernel) ?_
      exact z_iretE hx hb hr hlocks dX7_continuedFractionTerm_32 hS.2.2 ⟨(show 0 ≤ 0 by omega), (show 0 ≤ 0 by omega)⟩ ⟨(sI (by unfold cftR; rw [if_pos (cft_none (by omega) (by omega))])), (trivial), (hP), (hD), Fh.of hS⟩
    · refine lv_aload_n hx hb dX7_continuedFractionTerm_19 rfl (lv_at hl 0 rfl) ?_
      refine va_get (D := G) (ci := 6) (v := .ref a4) (C := RX7) (T := TX7) (N := 11) hx hb hts (by decide +kernel) hown hK hP 0 rfl rfl 4 (by decide) (hts (.fieldLink RX7 19 "SturmianWordsModel" "terms" "[I") (by decide +kernel)) (fun _ h9 => h9) rfl dX7_continuedFractionTerm_20 ?_
      refine lv_iload_n hx hb dX7_continuedFractionTerm_23 rfl (lv_at hl 1 rfl) ?_
      refine lv_iconst (v := iZ 1) hx hb dX7_continuedFractionTerm_24 rfl ?_
      refine z_isub hx hb dX7_continuedFractionTerm_25 ?_
      refine z_iald (D := G) hx hb hK hP 4 0 rfl rfl (by omega) dX7_continuedFractionTerm_26 ?_
      refine z_top (b := (cft (nw 0) (nw 1) ix)) (by unfold tmE; rw [if_pos (by omega), show ix - 1 + 1 = ix by omega]) ?_
      refine lv_goto (tgt := 32) hx hb dX7_continuedFractionTerm_27 (by decide) ?_
      exact z_iretE hx hb hr hlocks dX7_continuedFractionTerm_32 hS.2.2 ⟨(show 0 ≤ 0 by omega), (show 0 ≤ 0 by omega)⟩ ⟨(sI (by have hz := hqx.2.2 (ix - 1) (by omega) (by omega); have := cft_pos (p := nw 0) (q := nw 1) (k := ix - 1) (by omega) (by omega) (by omega) hz; rw [show ix - 1 + 1 = ix by omega] at this; unfold cftR; rw [if_neg (by omega)])), (trivial), (hP), (hD), Fh.of hS⟩
  · exfalso; omega
set_option maxHeartbeats 4000000 in
set_option maxRecDepth 100000 in
theorem c_X7_append_no (lau : Launch) (G : va_G) (cy : Nat → ClassId) (a0 a1 a2 a3 a4 a5 a6 a7 : Nat) (sz : Nat) (ed tc ol nl : Int) (nw nx ps tm od ne pt : Int → Int) (v : Int) (h1 : -2147483648 ≤ v ∧ v < 2147483648) (h2 : ¬ (0 ≤ v ∧ v ≤ 1)) : Met lau yX7_append wsX7_append ({ frames := 2, cells := 0, slots := 0, locals := 45 }) (P1 G cy [.ref a0, .int (iZ v)] (fun H => H.size = sz ∧ va_P G vwCl (MW cy a0 a1 a2 a3 a4 a5 a6 a7 ed tc ol nl nw nx ps tm od ne pt) H ∧ va_D (fun _ => True) (MW cy a0 a1 a2 a3 a4 a5 a6 a7 ed tc ol nl nw nx ps tm od ne pt))) (Q1 (fun rv H0 H1 => rv = some (.int (iZ (-1))) ∧ (True) ∧ va_P G vwCl (MW cy a0 a1 a2 a3 a4 a5 a6 a7 ed tc ol nl nw nx ps tm od ne pt) H1 ∧ va_D (va_A (MW cy a0 a1 a2 a3 a4 a5 a6 a7 ed tc ol nl nw nx ps tm od ne pt) sz) (MW cy a0 a1 a2 a3 a4 a5 a6 a7 ed tc ol nl nw nx ps tm od ne pt) ∧ Fh (va_A (MW cy a0 a1 a2 a3 a4 a5 a6 a7 ed tc ol nl nw nx ps tm od ne pt) sz) H0 H1)) 0 0 (va_A (MW cy a0 a1 a2 a3 a4 a5 a6 a7 ed tc ol nl nw nx ps tm od ne pt) sz) := by
  refine z_head (lv := [(0, .ref a0), (1, .int (iZ v))]) RX7 (by decide) rfl rfl (Nat.le_of_ble_eq_true rfl) rfl ?_
  intro pr ev s mt below meth cd ls hx hb hr hlocks hml hown hname hts hKK hP hl
  have hK := hKK.1
  obtain ⟨hsz, hP, hD0⟩ := hP
  subst hsz
  have hD := hD0.self (sz := s.heap.size)
  generalize hAe : va_A (MW cy a0 a1 a2 a3 a4 a5 a6 a7 ed tc ol nl nw nx ps tm od ne pt) s.heap.size = A at hD ⊢
  have hA : ∀ q : Nat, s.heap.size ≤ q → A q := fun q h => by rw [← hAe]; exact Or.inr h
  have hS : va_S A s.heap s.heap [] := va_S.rf
  have hP : va_P G vwCl (MW cy a0 a1 a2 a3 a4 a5 a6 a7 ed tc ol nl nw nx ps tm od ne pt) s.heap := hP
  refine lv_iload_n hx hb dX7_append_0 rfl (lv_at hl 1 rfl) ?_
  refine lv_iconst (v := iZ 0) hx hb dX7_append_1 rfl ?_
  refine lv_iconst (v := iZ 1) hx hb dX7_append_2 rfl ?_
  refine z_calli (va_runS (As := [.int (iZ v), .int (iZ 0), .int (iZ 1)]) (rest := []) ⟨hx, hb, hml, hown, hts⟩ (c_X7_in lau G cy v 0 1 (by first | assumption | omega)) (va_cwS 3 hts gX7_append_X7_in rfl rfl rfl (by decide +kernel) ⟨Nat.le_of_ble_eq_true rfl, Nat.le_of_ble_eq_true rfl⟩) ⟨P1_blind, P1_mk hKK (trivial)⟩ rfl rfl hl.1 rfl (lv_room (Nat.le_of_ble_eq_true rfl)) dX7_append_3 ⟨(show 0 + 0 ≤ 0 by omega), (show 0 + 0 ≤ 0 by omega)⟩) ?_
  refine z_ifB_ne (tgt := 11) hx hb dX7_append_6 (by decide) (fun c_6 => ?_) (fun c_6 => ?_)
  · exact absurd c_6 h2
  · refine lv_iconst (v := iZ (-1)) hx hb dX7_append_9 rfl ?_
    exact z_iretE hx hb hr hlocks dX7_append_10 hS.2.2 ⟨(show 0 ≤ 0 by omega), (show 0 ≤ 0 by omega)⟩ ⟨(rfl), (trivial), (hP), (hD), Fh.of hS⟩
set_option maxHeartbeats 4000000 in
set_option maxRecDepth 100000 in
theorem c_X7_append_no2 (lau : Launch) (G : va_G) (cy : Nat → ClassId) (a0 a1 a2 a3 a4 a5 a6 a7 : Nat) (sz : Nat) (ed tc ol nl : Int) (nw nx ps tm od ne pt : Int → Int) (v : Int) (h2 : 0 ≤ v ∧ v ≤ 1) (h3 : nw 3 = 60) : Met lau yX7_append wsX7_append ({ frames := 2, cells := 0, slots := 0, locals := 45 }) (P1 G cy [.ref a0, .int (iZ v)] (fun H => H.size = sz ∧ va_P G vwCl (MW cy a0 a1 a2 a3 a4 a5 a6 a7 ed tc ol nl nw nx ps tm od ne pt) H ∧ va_D (fun _ => True) (MW cy a0 a1 a2 a3 a4 a5 a6 a7 ed tc ol nl nw nx ps tm od ne pt))) (Q1 (fun rv H0 H1 => rv = some (.int (iZ (-2))) ∧ (True) ∧ va_P G vwCl (MW cy a0 a1 a2 a3 a4 a5 a6 a7 ed tc ol nl nw nx ps tm od ne pt) H1 ∧ va_D (va_A (MW cy a0 a1 a2 a3 a4 a5 a6 a7 ed tc ol nl nw nx ps tm od ne pt) sz) (MW cy a0 a1 a2 a3 a4 a5 a6 a7 ed tc ol nl nw nx ps tm od ne pt) ∧ Fh (va_A (MW cy a0 a1 a2 a3 a4 a5 a6 a7 ed tc ol nl nw nx ps tm od ne pt) sz) H0 H1)) 0 0 (va_A (MW cy a0 a1 a2 a3 a4 a5 a6 a7 ed tc ol nl nw nx ps tm od ne pt) sz) := by
  refine z_head (lv := [(0, .ref a0), (1, .int (iZ v))]) RX7 (by decide) rfl rfl (Nat.le_of_ble_eq_true rfl) rfl ?_
  intro pr ev s mt below meth cd ls hx hb hr hlocks hml hown hname hts hKK hP hl
  have hK := hKK.1
  obtain ⟨hsz, hP, hD0⟩ := hP
  subst hsz
  have hD := hD0.self (sz := s.heap.size)
  generalize hAe : va_A (MW cy a0 a1 a2 a3 a4 a5 a6 a7 ed tc ol nl nw nx ps tm od ne pt) s.heap.size = A at hD ⊢
  have hA : ∀ q : Nat, s.heap.size ≤ q → A q := fun q h => by rw [← hAe]; exact Or.inr h
  have hS : va_S A s.heap s.heap [] := va_S.rf
  have hP : va_P G vwCl (MW cy a0 a1 a2 a3 a4 a5 a6 a7 ed tc ol nl nw nx ps tm od ne pt) s.heap := hP
  refine lv_iload_n hx hb dX7_append_0 rfl (lv_at hl 1 rfl) ?_
  refine lv_iconst (v := iZ 0) hx hb dX7_append_1 rfl ?_
  refine lv_iconst (v := iZ 1) hx hb dX7_append_2 rfl ?_
  refine z_calli (va_runS (As := [.int (iZ v), .int (iZ 0), .int (iZ 1)]) (rest := []) ⟨hx, hb, hml, hown, hts⟩ (c_X7_in lau G cy v 0 1 (by first | assumption | omega)) (va_cwS 3 hts gX7_append_X7_in rfl rfl rfl (by decide +kernel) ⟨Nat.le_of_ble_eq_true rfl, Nat.le_of_ble_eq_true rfl⟩) ⟨P1_blind, P1_mk hKK (trivial)⟩ rfl rfl hl.1 rfl (lv_room (Nat.le_of_ble_eq_true rfl)) dX7_append_3 ⟨(show 0 + 0 ≤ 0 by omega), (show 0 + 0 ≤ 0 by omega)⟩) ?_
  refine z_ifB_ne (tgt := 11) hx hb dX7_append_6 (by decide) (fun c_6 => ?_) (fun c_6 => ?_)
  · refine lv_aload_n hx hb dX7_append_11 rfl (lv_at hl 0 rfl) ?_
    refine va_get (D := G) (ci := 6) (v := .ref a1) (C := RX7) (T := TX7) (N := 11) hx hb hts (by decide +kernel) hown hK hP 0 rfl rfl 0 (by decide) (hts (.fieldLink RX7 7 "SturmianWordsModel" "now" "[I") (by decide +kernel)) (fun _ h9 => h9) rfl dX7_append_12 ?_
    refine lv_iconst (v := iZ 3) hx hb dX7_append_15 rfl ?_
    refine z_iald (D := G) hx hb hK hP 1 0 rfl rfl (by omega) dX7_append_16 ?_
    refine lv_bipush (v := iZ 60) hx hb dX7_append_17 (by decide +kernel) ?_
    refine z_icmp_ne (tgt := 25) hx hb dX7_append_19 (by decide) (by omega) (fun c_19 => ?_) (fun c_19 => ?_)
    · exfalso; omega
    · refine lv_bipush (v := iZ (-2)) hx hb dX7_append_22 (by decide +kernel) ?_
      exact z_iretE hx hb hr hlocks dX7_append_24 hS.2.2 ⟨(show 0 ≤ 0 by omega), (show 0 ≤ 0 by omega)⟩ ⟨(rfl), (trivial), (hP), (hD), Fh.of hS⟩
  · exact absurd h2 c_6
set_option maxHeartbeats 4000000 in
set_option maxRecDepth 100000 in
theorem c_X7_append (lau : Launch) (G : va_G) (cy : Nat → ClassId) (a0 a1 a2 a3 a4 a5 a6 a7 : Nat) (sz : Nat) (ed tc ol nl : Int) (nw nx ps tm od ne pt : Int → Int) (v : Int) (he : 0 ≤ ed ∧ ed ≤ 6) (h2 : 0 ≤ v ∧ v ≤ 1) (h3 : 0 ≤ nw 3 ∧ nw 3 < 60) : Met lau yX7_append wsX7_append ({ frames := 2, cells := 0, slots := 0, locals := 45 }) (P1 G cy [.ref a0, .int (iZ v)] (fun H => H.size = sz ∧ va_P G vwCl (MW cy a0 a1 a2 a3 a4 a5 a6 a7 ed tc ol nl nw nx ps tm od ne pt) H ∧ va_D (fun _ => True) (MW cy a0 a1 a2 a3 a4 a5 a6 a7 ed tc ol nl nw nx ps tm od ne pt))) (Q1 (fun rv H0 H1 => rv = some (.int (iZ (nw 3 + 1))) ∧ (True) ∧ va_P G vwCl (MW cy a0 a1 a2 a3 a4 a5 a6 a7 (svE ed) tc ol nl (up1 (up1 nw (4 + nw 3) v) 3 (nw 3 + 1)) nx (svP ps nw ed) tm od ne pt) H1 ∧ va_D (va_A (MW cy a0 a1 a2 a3 a4 a5 a6 a7 ed tc ol nl nw nx ps tm od ne pt) sz) (MW cy a0 a1 a2 a3 a4 a5 a6 a7 (svE ed) tc ol nl (up1 (up1 nw (4 + nw 3) v) 3 (nw 3 + 1)) nx (svP ps nw ed) tm od ne pt) ∧ Fh (va_A (MW cy a0 a1 a2 a3 a4 a5 a6 a7 ed tc ol nl nw nx ps tm od ne pt) sz) H0 H1)) 0 0 (va_A (MW cy a0 a1 a2 a3 a4 a5 a6 a7 ed tc ol nl nw nx ps tm od ne pt) sz) := by
  refine z_head (lv := [(0, .ref a0), (1, .int (iZ v))]) RX7 (by decide) rfl rfl (Nat.le_of_ble_eq_true rfl) rfl ?_
  intro pr ev s mt below meth cd ls hx hb hr hlocks hml hown hname hts hKK hP hl
  have hK := hKK.1
  obtain ⟨hsz, hP, hD0⟩ := hP
  subst hsz
  have hD := hD0.self (sz := s.heap.size)
  generalize hAe : va_A (MW cy a0 a1 a2 a3 a4 a5 a6 a7 ed tc ol nl nw nx ps tm od ne pt) s.heap.size = A at hD ⊢
  have hA : ∀ q : Nat, s.heap.size ≤ q → A q := fun q h => by rw [← hAe]; exact Or.inr h
  have hS : va_S A s.heap s.heap [] := va_S.rf
  have hP : va_P G vwCl (MW cy a0 a1 a2 a3 a4 a5 a6 a7 ed tc ol nl nw nx ps tm od ne pt) s.heap := hP
  refine lv_iload_n hx hb dX7_append_0 rfl (lv_at hl 1 rfl) ?_
  refine lv_iconst (v := iZ 0) hx hb dX7_append_1 rfl ?_
  refine lv_iconst (v := iZ 1) hx hb dX7_append_2 rfl ?_
  refine z_calli (va_runS (As := [.int (iZ v), .int (iZ 0), .int (iZ 1)]) (rest := []) ⟨hx, hb, hml, hown, hts⟩ (c_X7_in lau G cy v 0 1 (by first | assumption | omega)) (va_cwS 3 hts gX7_append_X7_in rfl rfl rfl (by decide +kernel) ⟨Nat.le_of_ble_eq_true rfl, Nat.le_of_ble_eq_true rfl⟩) ⟨P1_blind, P1_mk hKK (trivial)⟩ rfl rfl hl.1 rfl (lv_room (Nat.le_of_ble_eq_true rfl)) dX7_append_3 ⟨(show 0 + 0 ≤ 0 by omega), (show 0 + 0 ≤ 0 by omega)⟩) ?_
  refine z_ifB_ne (tgt := 11) hx hb dX7_append_6 (by decide) (fun c_6 => ?_) (fun c_6 => ?_)
  · refine lv_aload_n hx hb dX7_append_11 rfl (lv_at hl 0 rfl) ?_
    refine va_get (D := G) (ci := 6) (v := .ref a1) (C := RX7) (T := TX7) (N := 11) hx hb hts (by decide +kernel) hown hK hP 0 rfl rfl 0 (by decide) (hts (.fieldLink RX7 7 "SturmianWordsModel" "now" "[I") (by decide +kernel)) (fun _ h9 => h9) rfl dX7_append_12 ?_
    refine lv_iconst (v := iZ 3) hx hb dX7_append_15 rfl ?_
    refine z_iald (D := G) hx hb hK hP 1 0 rfl rfl (by omega) dX7_append_16 ?_
    refine lv_bipush (v := iZ 60) hx hb dX7_append_17 (by decide +kernel) ?_
    refine z_icmp_ne (tgt := 25) hx hb dX7_append_19 (by decide) (by omega) (fun c_19 => ?_) (fun c_19 => ?_)
    · refine lv_aload_n hx hb dX7_append_25 rfl (lv_at hl 0 rfl) ?_
      have hPc := hP.sub (ws' := (MW cy a0 a1 a2 a3 a4 a5 a6 a7 ed tc ol nl nw nx ps tm od ne pt)) [0, 1, 2, 3, 4, 5, 6, 7] rfl
      have hDc := (hD.sub (ws' := (MW cy a0 a1 a2 a3 a4 a5 a6 a7 ed tc ol nl nw nx ps tm od ne pt)) [0, 1, 2, 3, 4, 5, 6, 7] (by decide) rfl).weaken (B := fun _ => True) (fun _ _ _ _ => trivial)
      have hFc := va_free (wc := (MW cy a0 a1 a2 a3 a4 a5 a6 a7 ed tc ol nl nw nx ps tm od ne pt)) hD hS hA [0, 1, 2, 3, 4, 5, 6, 7] rfl
      refine z_callE (A := A) (va_runV (As := []) (rest := []) ⟨hx, hb, hml, hown, hts⟩ (c_X7_save lau G cy a0 a1 a2 a3 a4 a5 a6 a7 s.heap.size ed tc ol nl nw nx ps tm od ne pt (by first | assumption | omega)) (cwV 0 hts gX7_append_X7_save rfl rfl rfl (by decide +kernel) ⟨Nat.le_of_ble_eq_true rfl, Nat.le_of_ble_eq_true rfl⟩) ⟨P1_blind, va_recv hK hP (ci := 6) (q0 := 0) rfl rfl, P1_mk hKK (⟨rfl, hPc, hDc⟩)⟩ rfl rfl hl.1 rfl (lv_room (Nat.le_of_ble_eq_true rfl)) dX7_append_26 ⟨(show 0 + 0 ≤ 0 by omega), (show 0 + 0 ≤ 0 by omega)⟩) hS.2.2 hFc (fun v H1 locs1 hR hL1 => ?_)
      obtain ⟨rfl, hq26, hP1, hD1, hF1⟩ := hR
      obtain ⟨hP, hD⟩ := va_join (wr := []) (w1 := (MW cy a0 a1 a2 a3 a4 a5 a6 a7 (svE ed) tc ol nl nw nx (svP ps nw ed) tm od ne pt)) hP hD [0, 1, 2, 3, 4, 5, 6, 7] [] rfl rfl (by decide) (by decide) hF1.2 hFc hP1 hD1
      have hS : va_S A s.heap H1 locs1 := Fh.S ((Fh.of hS).tr hF1 (fun q _ h => hFc q h)) hL1
      clear hPc hDc hFc hP1 hD1 hF1 hL1
      generalize H1 = H at hP hS ⊢
      have hP : va_P G vwCl (MW cy a0 a1 a2 a3 a4 a5 a6 a7 (svE ed) tc ol nl nw nx (svP ps nw ed) tm od ne pt) H := hP
      have hD : va_D A (MW cy a0 a1 a2 a3 a4 a5 a6 a7 (svE ed) tc ol nl nw nx (svP ps nw ed) tm od ne pt) := hD
      refine W.eq (g2 := F0 mt 29 ls []) rfl ?_
      refine lv_aload_n hx hb dX7_append_29 rfl (lv_at hl 0 rfl) ?_
      refine va_get (D := G) (ci := 6) (v := .ref a1) (C := RX7) (T := TX7) (N := 11) hx hb hts (by decide +kernel) hown hK hP 0 rfl rfl 0 (by decide) (hts (.fieldLink RX7 7 "SturmianWordsModel" "now" "[I") (by decide +kernel)) (fun _ h9 => h9) rfl dX7_append_30 ?_
      refine lv_iconst (v := iZ 4) hx hb dX7_append_33 rfl ?_
      refine lv_aload_n hx hb dX7_append_34 rfl (lv_at hl 0 rfl) ?_
      refine va_get (D := G) (ci := 6) (v := .ref a1) (C := RX7) (T := TX7) (N := 11) hx hb hts (by decide +kernel) hown hK hP 0 rfl rfl 0 (by decide) (hts (.fieldLink RX7 7 "SturmianWordsModel" "now" "[I") (by decide +kernel)) (fun _ h9 => h9) rfl dX7_append_35 ?_
      refine lv_iconst (v := iZ 3) hx hb dX7_append_38 rfl ?_
      refine z_iald (D := G) hx hb hK hP 1 0 rfl rfl (by omega) dX7_append_39 ?_
      refine z_iadd hx hb dX7_append_40 ?_
      refine lv_iload_n hx hb dX7_append_41 rfl (lv_at hl 1 rfl) ?_
      refine z_iast (D := G) hx hb hK hP hD hS 1 0 rfl rfl (by omega) dX7_append_42 (fun H locs hP hD hS => ?_)
      have hP : va_P G vwCl (MW cy a0 a1 a2 a3 a4 a5 a6 a7 (svE ed) tc ol nl (up1 nw (4 + (nw 3)) v) nx (svP ps nw ed) tm od ne pt) H := hP
      have hD : va_D A (MW cy a0 a1 a2 a3 a4 a5 a6 a7 (svE ed) tc ol nl (up1 nw (4 + (nw 3)) v) nx (svP ps nw ed) tm od ne pt) := hD
      refine lv_aload_n hx hb dX7_append_43 rfl (lv_at hl 0 rfl) ?_
      refine va_get (D := G) (ci := 6) (v := .ref a1) (C := RX7) (T := TX7) (N := 11) hx hb hts (by decide +kernel) hown hK hP 0 rfl rfl 0 (by decide) (hts (.fieldLink RX7 7 "SturmianWordsModel" "now" "[I") (by decide +kernel)) (fun _ h9 => h9) rfl dX7_append_44 ?_
      refine lv_iconst (v := iZ 3) hx hb dX7_append_47 rfl ?_
      refine lv_dup2_11 hx hb dX7_append_48 rfl rfl ?_
      refine z_iald (D := G) hx hb hK hP 1 0 rfl rfl (by omega) dX7_append_49 ?_
      refine z_top (b := (nw 3)) (up1_n (by omega)) ?_
      refine lv_iconst (v := iZ 1) hx hb dX7_append_50 rfl ?_
      refine z_iadd hx hb dX7_append_51 ?_
      refine z_iast (D := G) hx hb hK hP hD hS 1 0 rfl rfl (by omega) dX7_append_52 (fun H locs hP hD hS => ?_)
      have hP : va_P G vwCl (MW cy a0 a1 a2 a3 a4 a5 a6 a7 (svE ed) tc ol nl (up1 (up1 nw (4 + (nw 3)) v) 3 ((nw 3) + 1)) nx (svP ps nw ed) tm od ne pt) H := hP
      have hD : va_D A (MW cy a0 a1 a2 a3 a4 a5 a6 a7 (svE ed) tc ol nl (up1 (up1 nw (4 + (nw 3)) v) 3 ((nw 3) + 1)) nx (svP ps nw ed) tm od ne pt) := hD
      refine lv_aload_n hx hb dX7_append_53 rfl (lv_at hl 0 rfl) ?_
      refine va_get (D := G) (ci := 6) (v := .ref a1) (C := RX7) (T := TX7) (N := 11) hx hb hts (by decide +kernel) hown hK hP 0 rfl rfl 0 (by decide) (hts (.fieldLink RX7 7 "SturmianWordsModel" "now" "[I") (by decide +kernel)) (fun _ h9 => h9) rfl dX7_append_54 ?_
      refine lv_iconst (v := iZ 3) hx hb dX7_append_57 rfl ?_
      refine z_iald (D := G) hx hb hK hP 1 0 rfl rfl (by omega) dX7_append_58 ?_
      refine z_top (b := (nw 3 + 1)) (up1_s) ?_
      exact z_iretE hx hb hr hlocks dX7_append_59 hS.2.2 ⟨(show 0 ≤ 0 by omega), (show 0 ≤ 0 by omega)⟩ ⟨(rfl), (trivial), (hP), (hD), Fh.of hS⟩
    · exfalso; omega
  · exact absurd h2 c_6
set_option maxHeartbeats 4000000 in
set_option maxRecDepth 100000 in
theorem c_X7_removeLast_no (lau : Launch) (G : va_G) (cy : Nat → ClassId) (a0 a1 a2 a3 a4 a5 a6 a7 : Nat) (sz : Nat) (ed tc ol nl : Int) (nw nx ps tm od ne pt : Int → Int) (h3 : nw 3 = 0) : Met lau yX7_removeLast wsX7_removeLast ({ frames := 2, cells := 0, slots := 0, locals := 45 }) (P1 G cy [.ref a0] (fun H => H.size = sz ∧ va_P G vwCl (MW cy a0 a1 a2 a3 a4 a5 a6 a7 ed tc ol nl nw nx ps tm od ne pt) H ∧ va_D (fun _ => True) (MW cy a0 a1 a2 a3 a4 a5 a6 a7 ed tc ol nl nw nx ps tm od ne pt))) (Q1 (fun rv H0 H1 => rv = some (.int (iZ (-3))) ∧ (True) ∧ va_P G vwCl (MW cy a0 a1 a2 a3 a4 a5 a6 a7 ed tc ol nl nw nx ps tm od ne pt) H1 ∧ va_D (va_A (MW cy a0 a1 a2 a3 a4 a5 a6 a7 ed tc ol nl nw nx ps tm od ne pt) sz) (MW cy a0 a1 a2 a3 a4 a5 a6 a7 ed tc ol nl nw nx ps tm od ne pt) ∧ Fh (va_A (MW cy a0 a1 a2 a3 a4 a5 a6 a7 ed tc ol nl nw nx ps tm od ne pt) sz) H0 H1)) 0 0 (va_A (MW cy a0 a1 a2 a3 a4 a5 a6 a7 ed tc ol nl nw nx ps tm od ne pt) sz) := by
  refine z_head (lv := [(0, .ref a0)]) RX7 (by decide) rfl rfl (Nat.le_of_ble_eq_true rfl) rfl ?_
  intro pr ev s mt below meth cd ls hx hb hr hlocks hml hown hname hts hKK hP hl
  have hK := hKK.1
  obtain ⟨hsz, hP, hD0⟩ := hP
  subst hsz
  have hD := hD0.self (sz := s.heap.size)
  generalize hAe : va_A (MW cy a0 a1 a2 a3 a4 a5 a6 a7 ed tc ol nl nw nx ps tm od ne pt) s.heap.size = A at hD ⊢
  have hA : ∀ q : Nat, s.heap.size ≤ q → A q := fun q h => by rw [← hAe]; exact Or.inr h
  have hS : va_S A s.heap s.heap [] := va_S.rf
  have hP : va_P G vwCl (MW cy a0 a1 a2 a3 a4 a5 a6 a7 ed tc ol nl nw nx ps tm od ne pt) s.heap := hP
  refine lv_aload_n hx hb dX7_removeLast_0 rfl (lv_at hl 0 rfl) ?_
  refine va_get (D := G) (ci := 6) (v := .ref a1) (C := RX7) (T := TX7) (N := 11) hx hb hts (by decide +kernel) hown hK hP 0 rfl rfl 0 (by decide) (hts (.fieldLink RX7 7 "SturmianWordsModel" "now" "[I") (by decide +kernel)) (fun _ h9 => h9) rfl dX7_removeLast_1 ?_
  refine lv_iconst (v := iZ 3) hx hb dX7_removeLast_4 rfl ?_
  refine z_iald (D := G) hx hb hK hP 1 0 rfl rfl (by omega) dX7_removeLast_5 ?_
  refine z_if_ne (tgt := 12) hx hb dX7_removeLast_6 (by decide) (by omega) (fun c_6 => ?_) (fun c_6 => ?_)
  · exfalso; omega
  · refine lv_bipush (v := iZ (-3)) hx hb dX7_removeLast_9 (by decide +kernel) ?_
    exact z_iretE hx hb hr hlocks dX7_removeLast_11 hS.2.2 ⟨(show 0 ≤ 0 by omega), (show 0 ≤ 0 by omega)⟩ ⟨(rfl), (trivial), (hP), (hD), Fh.of hS⟩
set_option maxHeartbeats 4000000 in
set_option maxRecDepth 100000 in
theorem c_X7_removeLast (lau : Launch) (G : va_G) (cy : Nat → ClassId) (a0 a1 a2 a3 a4 a5 a6 a7 : Nat) (sz : Nat) (ed tc ol nl : Int) (nw nx ps tm od ne pt : Int → Int) (he : 0 ≤ ed ∧ ed ≤ 6) (h3 : 0 < nw 3 ∧ nw 3 ≤ 60) : Met lau yX7_removeLast wsX7_removeLast ({ frames := 2, cells := 0, slots := 0, locals := 45 }) (P1 G cy [.ref a0] (fun H => H.size = sz ∧ va_P G vwCl (MW cy a0 a1 a2 a3 a4 a5 a6 a7 ed tc ol nl nw nx ps tm od ne pt) H ∧ va_D (fun _ => True) (MW cy a0 a1 a2 a3 a4 a5 a6 a7 ed tc ol nl nw nx ps tm od ne pt))) (Q1 (fun rv H0 H1 => rv = some (.int (iZ (nw (4 + (nw 3 - 1))))) ∧ (True) ∧ va_P G vwCl (MW cy a0 a1 a2 a3 a4 a5 a6 a7 (svE ed) tc ol nl (up1 nw 3 (nw 3 - 1)) nx (svP ps nw ed) tm od ne pt) H1 ∧ va_D (va_A (MW cy a0 a1 a2 a3 a4 a5 a6 a7 ed tc ol nl nw nx ps tm od ne pt) sz) (MW cy a0 a1 a2 a3 a4 a5 a6 a7 (svE ed) tc ol nl (up1 nw 3 (nw 3 - 1)) nx (svP ps nw ed) tm od ne pt) ∧ Fh (va_A (MW cy a0 a1 a2 a3 a4 a5 a6 a7 ed tc ol nl nw nx ps tm od ne pt) sz) H0 H1)) 0 0 (va_A (MW cy a0 a1 a2 a3 a4 a5 a6 a7 ed tc ol nl nw nx ps tm od ne pt) sz) := by
  refine z_head (lv := [(0, .ref a0)]) RX7 (by decide) rfl rfl (Nat.le_of_ble_eq_true rfl) rfl ?_
  intro pr ev s mt below meth cd ls hx hb hr hlocks hml hown hname hts hKK hP hl
  have hK := hKK.1
  obtain ⟨hsz, hP, hD0⟩ := hP
  subst hsz
  have hD := hD0.self (sz := s.heap.size)
  generalize hAe : va_A (MW cy a0 a1 a2 a3 a4 a5 a6 a7 ed tc ol nl nw nx ps tm od ne pt) s.heap.size = A at hD ⊢
  have hA : ∀ q : Nat, s.heap.size ≤ q → A q := fun q h => by rw [← hAe]; exact Or.inr h
  have hS : va_S A s.heap s.heap [] := va_S.rf
  have hP : va_P G vwCl (MW cy a0 a1 a2 a3 a4 a5 a6 a7 ed tc ol nl nw nx ps tm od ne pt) s.heap := hP
  refine lv_aload_n hx hb dX7_removeLast_0 rfl (lv_at hl 0 rfl) ?_
  refine va_get (D := G) (ci := 6) (v := .ref a1) (C := RX7) (T := TX7) (N := 11) hx hb hts (by decide +kernel) hown hK hP 0 rfl rfl 0 (by decide) (hts (.fieldLink RX7 7 "SturmianWordsModel" "now" "[I") (by decide +kernel)) (fun _ h9 => h9) rfl dX7_removeLast_1 ?_
  refine lv_iconst (v := iZ 3) hx hb dX7_removeLast_4 rfl ?_
  refine z_iald (D := G) hx hb hK hP 1 0 rfl rfl (by omega) dX7_removeLast_5 ?_
  refine z_if_ne (tgt := 12) hx hb dX7_removeLast_6 (by decide) (by omega) (fun c_6 => ?_) (fun c_6 => ?_)
  · refine lv_aload_n hx hb dX7_removeLast_12 rfl (lv_at hl 0 rfl) ?_
    have hPc := hP.sub (ws' := (MW cy a0 a1 a2 a3 a4 a5 a6 a7 ed tc ol nl nw nx ps tm od ne pt)) [0, 1, 2, 3, 4, 5, 6, 7] rfl
    have hDc := (hD.sub (ws' := (MW cy a0 a1 a2 a3 a4 a5 a6 a7 ed tc ol nl nw nx ps tm od ne pt)) [0, 1, 2, 3, 4, 5, 6, 7] (by decide) rfl).weaken (B := fun _ => True) (fun _ _ _ _ => trivial)
    have hFc := va_free (wc := (MW cy a0 a1 a2 a3 a4 a5 a6 a7 ed tc ol nl nw nx ps tm od ne pt)) hD hS hA [0, 1, 2, 3, 4, 5, 6, 7] rfl
    refine z_callE (A := A) (va_runV (As := []) (rest := []) ⟨hx, hb, hml, hown, hts⟩ (c_X7_save lau G cy a0 a1 a2 a3 a4 a5 a6 a7 s.heap.size ed tc ol nl nw nx ps tm od ne pt (by first | assumption | omega)) (cwV 0 hts gX7_removeLast_X7_save rfl rfl rfl (by decide +kernel) ⟨Nat.le_of_ble_eq_true rfl, Nat.le_of_ble_eq_true rfl⟩) ⟨P1_blind, va_recv hK hP (ci := 6) (q0 := 0) rfl rfl, P1_mk hKK (⟨rfl, hPc, hDc⟩)⟩ rfl rfl hl.1 rfl (lv_room (Nat.le_of_ble_eq_true rfl)) dX7_removeLast_13 ⟨(show 0 + 0 ≤ 0 by omega), (show 0 + 0 ≤ 0 by omega)⟩) hS.2.2 hFc (fun v H1 locs1 hR hL1 => ?_)
    obtain ⟨rfl, hq13, hP1, hD1, hF1⟩ := hR
    obtain ⟨hP, hD⟩ := va_join (wr := []) (w1 := (MW cy a0 a1 a2 a3 a4 a5 a6 a7 (svE ed) tc ol nl nw nx (svP ps nw ed) tm od ne pt)) hP hD [0, 1, 2, 3, 4, 5, 6, 7] [] rfl rfl (by decide) (by decide) hF1.2 hFc hP1 hD1
    have hS : va_S A s.heap H1 locs1 := Fh.S ((Fh.of hS).tr hF1 (fun q _ h => hFc q h)) hL1
    clear hPc hDc hFc hP1 hD1 hF1 hL1
    generalize H1 = H at hP hS ⊢
    have hP : va_P G vwCl (MW cy a0 a1 a2 a3 a4 a5 a6 a7 (svE ed) tc ol nl nw nx (svP ps nw ed) tm od ne pt) H := hP
    have hD : va_D A (MW cy a0 a1 a2 a3 a4 a5 a6 a7 (svE ed) tc ol nl nw nx (svP ps nw ed) tm od ne pt) := hD
    refine W.eq (g2 := F0 mt 16 ls []) rfl ?_
    refine lv_aload_n hx hb dX7_removeLast_16 rfl (lv_at hl 0 rfl) ?_
    refine va_get (D := G) (ci := 6) (v := .ref a1) (C := RX7) (T := TX7) (N := 11) hx hb hts (by decide +kernel) hown hK hP 0 rfl rfl 0 (by decide) (hts (.fieldLink RX7 7 "SturmianWordsModel" "now" "[I") (by decide +kernel)) (fun _ h9 => h9) rfl dX7_removeLast_17 ?_
    refine lv_iconst (v := iZ 3) hx hb dX7_removeLast_20 rfl ?_
    refine lv_dup2_11 hx hb dX7_removeLast_21 rfl rfl ?_
    refine z_iald (D := G) hx hb hK hP 1 0 rfl rfl (by omega) dX7_removeLast_22 ?_
    refine lv_iconst (v := iZ 1) hx hb dX7_removeLast_23 rfl ?_
    refine z_isub hx hb dX7_removeLast_24 ?_
    refine z_iast (D := G) hx hb hK hP hD hS 1 0 rfl rfl (by omega) dX7_removeLast_25 (fun H locs hP hD hS => ?_)
    have hP : va_P G vwCl (MW cy a0 a1 a2 a3 a4 a5 a6 a7 (svE ed) tc ol nl (up1 nw 3 ((nw 3) - 1)) nx (svP ps nw ed) tm od ne pt) H := hP
    have hD : va_D A (MW cy a0 a1 a2 a3 a4 a5 a6 a7 (svE ed) tc ol nl (up1 nw 3 ((nw 3) - 1)) nx (svP ps nw ed) tm od ne pt) := hD
    refine lv_aload_n hx hb dX7_removeLast_26 rfl (lv_at hl 0 rfl) ?_
    refine va_get (D := G) (ci := 6) (v := .ref a1) (C := RX7) (T := TX7) (N := 11) hx hb hts (by decide +kernel) hown hK hP 0 rfl rfl 0 (by decide) (hts (.fieldLink RX7 7 "SturmianWordsModel" "now" "[I") (by decide +kernel)) (fun _ h9 => h9) rfl dX7_removeLast_27 ?_
    refine lv_iconst (v := iZ 4) hx hb dX7_removeLast_30 rfl ?_
    refine lv_aload_n hx hb dX7_removeLast_31 rfl (lv_at hl 0 rfl) ?_
    refine va_get (D := G) (ci := 6) (v := .ref a1) (C := RX7) (T := TX7) (N := 11) hx hb hts (by decide +kernel) hown hK hP 0 rfl rfl 0 (by decide) (hts (.fieldLink RX7 7 "SturmianWordsModel" "now" "[I") (by decide +kernel)) (fun _ h9 => h9) rfl dX7_removeLast_32 ?_
    refine lv_iconst (v := iZ 3) hx hb dX7_removeLast_35 rfl ?_
    refine z_iald (D := G) hx hb hK hP 1 0 rfl rfl (by omega) dX7_removeLast_36 ?_
    refine z_top (b := (nw 3 - 1)) (up1_s) ?_
    refine z_iadd hx hb dX7_removeLast_37 ?_
    refine z_iald (D := G) hx hb hK hP 1 0 rfl rfl (by omega) dX7_removeLast_38 ?_
    refine z_top (b := (nw (4 + (nw 3 - 1)))) (up1_n (by omega)) ?_
    exact z_iretE hx hb hr hlocks dX7_removeLast_39 hS.2.2 ⟨(show 0 ≤ 0 by omega), (show 0 ≤ 0 by omega)⟩ ⟨(rfl), (trivial), (hP), (hD), Fh.of hS⟩
  · exfalso; omega
set_option maxHeartbeats 4000000 in
set_option maxRecDepth 100000 in
theorem c_X7_clear (lau : Launch) (G : va_G) (cy : Nat → ClassId) (a0 a1 a2 a3 a4 a5 a6 a7 : Nat) (sz : Nat) (ed tc ol nl : Int) (nw nx ps tm od ne pt : Int → Int) (he : 0 ≤ ed ∧ ed ≤ 6) : Met lau yX7_clear wsX7_clear ({ frames := 2, cells := 0, slots := 0, locals := 45 }) (P1 G cy [.ref a0] (fun H => H.size = sz ∧ va_P G vwCl (MW cy a0 a1 a2 a3 a4 a5 a6 a7 ed tc ol nl nw nx ps tm od ne pt) H ∧ va_D (fun _ => True) (MW cy a0 a1 a2 a3 a4 a5 a6 a7 ed tc ol nl nw nx ps tm od ne pt))) (Q1 (fun rv H0 H1 => rv = some (.int (iZ (nw 3))) ∧ (True) ∧ va_P G vwCl (MW cy a0 a1 a2 a3 a4 a5 a6 a7 (svE ed) tc ol nl (up1 nw 3 0) nx (svP ps nw ed) tm od ne pt) H1 ∧ va_D (va_A (MW cy a0 a1 a2 a3 a4 a5 a6 a7 ed tc ol nl nw nx ps tm od ne pt) sz) (MW cy a0 a1 a2 a3 a4 a5 a6 a7 (svE ed) tc ol nl (up1 nw 3 0) nx (svP ps nw ed) tm od ne pt) ∧ Fh (va_A (MW cy a0 a1 a2 a3 a4 a5 a6 a7 ed tc ol nl nw nx ps tm od ne pt) sz) H0 H1)) 0 0 (va_A (MW cy a0 a1 a2 a3 a4 a5 a6 a7 ed tc ol nl nw nx ps tm od ne pt) sz) := by
  refine z_head (lv := [(0, .ref a0)]) RX7 (by decide) rfl rfl (Nat.le_of_ble_eq_true rfl) rfl ?_
  intro pr ev s mt below meth cd ls hx hb hr hlocks hml hown hname hts hKK hP hl
  have hK := hKK.1
  obtain ⟨hsz, hP, hD0⟩ := hP
  subst hsz
  have hD := hD0.self (sz := s.heap.size)
  generalize hAe : va_A (MW cy a0 a1 a2 a3 a4 a5 a6 a7 ed tc ol nl nw nx ps tm od ne pt) s.heap.size = A at hD ⊢
  have hA : ∀ q : Nat, s.heap.size ≤ q → A q := fun q h => by rw [← hAe]; exact Or.inr h
  have hS : va_S A s.heap s.heap [] := va_S.rf
  have hP : va_P G vwCl (MW cy a0 a1 a2 a3 a4 a5 a6 a7 ed tc ol nl nw nx ps tm od ne pt) s.heap := hP
  refine lv_aload_n hx hb dX7_clear_0 rfl (lv_at hl 0 rfl) ?_
  have hPc := hP.sub (ws' := (MW cy a0 a1 a2 a3 a4 a5 a6 a7 ed tc ol nl nw nx ps tm od ne pt)) [0, 1, 2, 3, 4, 5, 6, 7] rfl
  have hDc := (hD.sub (ws' := (MW cy a0 a1 a2 a3 a4 a5 a6 a7 ed tc ol nl nw nx ps tm od ne pt)) [0, 1, 2, 3, 4, 5, 6, 7] (by decide) rfl).weaken (B := fun _ => True) (fun _ _ _ _ => trivial)
  have hFc := va_free (wc := (MW cy a0 a1 a2 a3 a4 a5 a6 a7 ed tc ol nl nw nx ps tm od ne pt)) hD hS hA [0, 1, 2, 3, 4, 5, 6, 7] rfl
  refine z_callE (A := A) (va_runV (As := []) (rest := []) ⟨hx, hb, hml, hown, hts⟩ (c_X7_save lau G cy a0 a1 a2 a3 a4 a5 a6 a7 s.heap.size ed tc ol nl nw nx ps tm od ne pt (by first | assumption | omega)) (cwV 0 hts gX7_clear_X7_save rfl rfl rfl (by decide +kernel) ⟨Nat.le_of_ble_eq_true rfl, Nat.le_of_ble_eq_true rfl⟩) ⟨P1_blind, va_recv hK hP (ci := 6) (q0 := 0) rfl rfl, P1_mk hKK (⟨rfl, hPc, hDc⟩)⟩ rfl rfl hl.1 rfl (lv_room (Nat.le_of_ble_eq_true rfl)) dX7_clear_1 ⟨(show 0 + 0 ≤ 0 by omega), (show 0 + 0 ≤ 0 by omega)⟩) hS.2.2 hFc (fun v H1 locs1 hR hL1 => ?_)
  obtain ⟨rfl, hq1, hP1, hD1, hF1⟩ := hR
  obtain ⟨hP, hD⟩ := va_join (wr := []) (w1 := (MW cy a0 a1 a2 a3 a4 a5 a6 a7 (svE ed) tc ol nl nw nx (svP ps nw ed) tm od ne pt)) hP hD [0, 1, 2, 3, 4, 5, 6, 7] [] rfl rfl (by decide) (by decide) hF1.2 hFc hP1 hD1
  have hS : va_S A s.heap H1 locs1 := Fh.S ((Fh.of hS).tr hF1 (fun q _ h => hFc q h)) hL1
  clear hPc hDc hFc hP1 hD1 hF1 hL1
  generalize H1 = H at hP hS ⊢
  have hP : va_P G vwCl (MW cy a0 a1 a2 a3 a4 a5 a6 a7 (svE ed) tc ol nl nw nx (svP ps nw ed) tm od ne pt) H := hP
  have hD : va_D A (MW cy a0 a1 a2 a3 a4 a5 a6 a7 (svE ed) tc ol nl nw nx (svP ps nw ed) tm od ne pt) := hD
  refine W.eq (g2 := F0 mt 4 ls []) rfl ?_
  refine lv_aload_n hx hb dX7_clear_4 rfl (lv_at hl 0 rfl) ?_
  refine va_get (D := G) (ci := 6) (v := .ref a1) (C := RX7) (T := TX7) (N := 11) hx hb hts (by decide +kernel) hown hK hP 0 rfl rfl 0 (by decide) (hts (.fieldLink RX7 7 "SturmianWordsModel" "now" "[I") (by decide +kernel)) (fun _ h9 => h9) rfl dX7_clear_5 ?_
  refine lv_iconst (v := iZ 3) hx hb dX7_clear_8 rfl ?_
  refine z_iald (D := G) hx hb hK hP 1 0 rfl rfl (by omega) dX7_clear_9 ?_
  refine lv_istore_n (lv' := [(1, .int (iZ (nw 3))), (0, .ref a0)]) hx hb dX7_clear_10 rfl hl (by decide) rfl (fun ls hl => ?_)
  refine lv_aload_n hx hb dX7_clear_11 rfl (lv_at hl 1 rfl) ?_
  refine va_get (D := G) (ci := 6) (v := .ref a1) (C := RX7) (T := TX7) (N := 11) hx hb hts (by decide +kernel) hown hK hP 0 rfl rfl 0 (by decide) (hts (.fieldLink RX7 7 "SturmianWordsModel" "now" "[I") (by decide +kernel)) (fun _ h9 => h9) rfl dX7_clear_12 ?_
  refine lv_iconst (v := iZ 3) hx hb dX7_clear_15 rfl ?_
  refine lv_iconst (v := iZ 0) hx hb dX7_clear_16 rfl ?_
  refine z_iast (D := G) hx hb hK hP hD hS 1 0 rfl rfl (by omega) dX7_clear_17 (fun H locs hP hD hS => ?_)
  have hP : va_P G vwCl (MW cy a0 a1 a2 a3 a4 a5 a6 a7 (svE ed) tc ol nl (up1 nw 3 0) nx (svP ps nw ed) tm od ne pt) H := hP
  have hD : va_D A (MW cy a0 a1 a2 a3 a4 a5 a6 a7 (svE ed) tc ol nl (up1 nw 3 0) nx (svP ps nw ed) tm od ne pt) := hD
  refine lv_iload_n hx hb dX7_clear_18 rfl (lv_at hl 0 rfl) ?_
  exact z_iretE hx hb hr hlocks dX7_clear_19 hS.2.2 ⟨(show 0 ≤ 0 by omega), (show 0 ≤ 0 by omega)⟩ ⟨(rfl), (trivial), (hP), (hD), Fh.of hS⟩
set_option maxHeartbeats 4000000 in
set_option maxRecDepth 100000 in
theorem c_X7_undo_no (lau : Launch) (G : va_G) (cy : Nat → ClassId) (a0 a1 a2 a3 a4 a5 a6 a7 : Nat) (sz : Nat) (ed tc ol nl : Int) (nw nx ps tm od ne pt : Int → Int) (h3 : ed = 0) : Met lau yX7_undo wsX7_undo ({ frames := 1, cells := 0, slots := 0, locals := 24 }) (P1 G cy [.ref a0] (fun H => H.size = sz ∧ va_P G vwCl (MW cy a0 a1 a2 a3 a4 a5 a6 a7 ed tc ol nl nw nx ps tm od ne pt) H ∧ va_D (fun _ => True) (MW cy a0 a1 a2 a3 a4 a5 a6 a7 ed tc ol nl nw nx ps tm od ne pt))) (Q1 (fun rv H0 H1 => rv = some (.int (iZ (-3))) ∧ (True) ∧ va_P G vwCl (MW cy a0 a1 a2 a3 a4 a5 a6 a7 ed tc ol nl nw nx ps tm od ne pt) H1 ∧ va_D (va_A (MW cy a0 a1 a2 a3 a4 a5 a6 a7 ed tc ol nl nw nx ps tm od ne pt) sz) (MW cy a0 a1 a2 a3 a4 a5 a6 a7 ed tc ol nl nw nx ps tm od ne pt) ∧ Fh (va_A (MW cy a0 a1 a2 a3 a4 a5 a6 a7 ed tc ol nl nw nx ps tm od ne pt) sz) H0 H1)) 0 0 (va_A (MW cy a0 a1 a2 a3 a4 a5 a6 a7 ed tc ol nl nw nx ps tm od ne pt) sz) := by
  refine z_head (lv := [(0, .ref a0)]) RX7 (by decide) rfl rfl (Nat.le_of_ble_eq_true rfl) rfl ?_
  intro pr ev s mt below meth cd ls hx hb hr hlocks hml hown hname hts hKK hP hl
  have hK := hKK.1
  obtain ⟨hsz, hP, hD0⟩ := hP
  subst hsz
  have hD := hD0.self (sz := s.heap.size)
  generalize hAe : va_A (MW cy a0 a1 a2 a3 a4 a5 a6 a7 ed tc ol nl nw nx ps tm od ne pt) s.heap.size = A at hD ⊢
  have hA : ∀ q : Nat, s.heap.size ≤ q → A q := fun q h => by rw [← hAe]; exact Or.inr h
  have hS : va_S A s.heap s.heap [] := va_S.rf
  have hP : va_P G vwCl (MW cy a0 a1 a2 a3 a4 a5 a6 a7 ed tc ol nl nw nx ps tm od ne pt) s.heap := hP
  refine lv_aload_n hx hb dX7_undo_0 rfl (lv_at hl 0 rfl) ?_
  refine va_get (D := G) (ci := 6) (v := .int (iZ ed)) (C := RX7) (T := TX7) (N := 11) hx hb hts (by decide +kernel) hown hK hP 0 rfl rfl 3 (by decide) (hts (.fieldLink RX7 32 "SturmianWordsModel" "edits" "I") (by decide +kernel)) (fun _ h9 => h9) rfl dX7_undo_1 ?_
  refine z_if_ne (tgt := 10) hx hb dX7_undo_4 (by decide) (by omega) (fun c_4 => ?_) (fun c_4 => ?_)
  · exfalso; omega
  · refine lv_bipush (v := iZ (-3)) hx hb dX7_undo_7 (by decide +kernel) ?_
    exact z_iretE hx hb hr hlocks dX7_undo_9 hS.2.2 ⟨(show 0 ≤ 0 by omega), (show 0 ≤ 0 by omega)⟩ ⟨(rfl), (trivial), (hP), (hD), Fh.of hS⟩
set_option maxHeartbeats 4000000 in
set_option maxRecDepth 100000 in
theorem c_X7_undo (lau : Launch) (G : va_G) (cy : Nat → ClassId) (a0 a1 a2 a3 a4 a5 a6 a7 : Nat) (sz : Nat) (ed tc ol nl : Int) (nw nx ps tm od ne pt : Int → Int) (he : 1 ≤ ed ∧ ed ≤ 6) : Met lau yX7_undo wsX7_undo ({ frames := 1, cells := 0, slots := 0, locals := 24 }) (P1 G cy [.ref a0] (fun H => H.size = sz ∧ va_P G vwCl (MW cy a0 a1 a2 a3 a4 a5 a6 a7 ed tc ol nl nw nx ps tm od ne pt) H ∧ va_D (fun _ => True) (MW cy a0 a1 a2 a3 a4 a5 a6 a7 ed tc ol nl nw nx ps tm od ne pt))) (Q1 (fun rv H0 H1 => rv = some (.int (iZ (ed - 1))) ∧ (True) ∧ va_P G vwCl (MW cy a0 a1 a2 a3 a4 a5 a6 a7 (ed - 1) tc ol nl (cpy ps (64 * (ed - 1)) nw 0 64) nx ps tm od ne pt) H1 ∧ va_D (va_A (MW cy a0 a1 a2 a3 a4 a5 a6 a7 ed tc ol nl nw nx ps tm od ne pt) sz) (MW cy a0 a1 a2 a3 a4 a5 a6 a7 (ed - 1) tc ol nl (cpy ps (64 * (ed - 1)) nw 0 64) nx ps tm od ne pt) ∧ Fh (va_A (MW cy a0 a1 a2 a3 a4 a5 a6 a7 ed tc ol nl nw nx ps tm od ne pt) sz) H0 H1)) 0 0 (va_A (MW cy a0 a1 a2 a3 a4 a5 a6 a7 ed tc ol nl nw nx ps tm od ne pt) sz) := by
  refine z_head (lv := [(0, .ref a0)]) RX7 (by decide) rfl rfl (Nat.le_of_ble_eq_true rfl) rfl ?_
  intro pr ev s mt below meth cd ls hx hb hr hlocks hml hown hname hts hKK hP hl
  have hK := hKK.1
  obtain ⟨hsz, hP, hD0⟩ := hP
  subst hsz
  have hD := hD0.self (sz := s.heap.size)
  generalize hAe : va_A (MW cy a0 a1 a2 a3 a4 a5 a6 a7 ed tc ol nl nw nx ps tm od ne pt) s.heap.size = A at hD ⊢
  have hA : ∀ q : Nat, s.heap.size ≤ q → A q := fun q h => by rw [← hAe]; exact Or.inr h
  have hS : va_S A s.heap s.heap [] := va_S.rf
  have hP : va_P G vwCl (MW cy a0 a1 a2 a3 a4 a5 a6 a7 ed tc ol nl nw nx ps tm od ne pt) s.heap := hP
  refine lv_aload_n hx hb dX7_undo_0 rfl (lv_at hl 0 rfl) ?_
  refine va_get (D := G) (ci := 6) (v := .int (iZ ed)) (C := RX7) (T := TX7) (N := 11) hx hb hts (by decide +kernel) hown hK hP 0 rfl rfl 3 (by decide) (hts (.fieldLink RX7 32 "SturmianWordsModel" "edits" "I") (by decide +kernel)) (fun _ h9 => h9) rfl dX7_undo_1 ?_
  refine z_if_ne (tgt := 10) hx hb dX7_undo_4 (by decide) (by omega) (fun c_4 => ?_) (fun c_4 => ?_)
  · refine lv_aload_n hx hb dX7_undo_10 rfl (lv_at hl 0 rfl) ?_
    refine lv_dup hx hb dX7_undo_11 rfl ?_
    refine va_get (D := G) (ci := 6) (v := .int (iZ ed)) (C := RX7) (T := TX7) (N := 11) hx hb hts (by decide +kernel) hown hK hP 0 rfl rfl 3 (by decide) (hts (.fieldLink RX7 32 "SturmianWordsModel" "edits" "I") (by decide +kernel)) (fun _ h9 => h9) rfl dX7_undo_12 ?_
    refine lv_iconst (v := iZ 1) hx hb dX7_undo_15 rfl ?_
    refine z_isub hx hb dX7_undo_16 ?_
    refine va_put (D := G) (ci := 6) (v := .int (iZ (ed - 1))) (ty := .int) (C := RX7) (T := TX7) (N := 11) hx hb hts (by decide +kernel) tyX7 tyX7_ok nmX7 hown hK hP hD hS 0 rfl rfl 3 (by decide) (hts (.fieldLink RX7 32 "SturmianWordsModel" "edits" "I") (by decide +kernel)) (fun _ h9 => h9) rfl (by decide +kernel) rfl rfl (Nat.le_of_ble_eq_true rfl) dX7_undo_17 (fun H locs hP hD hS => ?_)
    have hP : va_P G vwCl (MW cy a0 a1 a2 a3 a4 a5 a6 a7 (ed - 1) tc ol nl nw nx ps tm od ne pt) H := hP
    have hD : va_D A (MW cy a0 a1 a2 a3 a4 a5 a6 a7 (ed - 1) tc ol nl nw nx ps tm od ne pt) := hD
    refine lv_aload_n hx hb dX7_undo_20 rfl (lv_at hl 0 rfl) ?_
    refine va_get (D := G) (ci := 6) (v := .ref a3) (C := RX7) (T := TX7) (N := 11) hx hb hts (by decide +kernel) hown hK hP 0 rfl rfl 2 (by decide) (hts (.fieldLink RX7 16 "SturmianWordsModel" "past" "[I") (by decide +kernel)) (fun _ h9 => h9) rfl dX7_undo_21 ?_
    refine lv_bipush (v := iZ 64) hx hb dX7_undo_24 (by decide +kernel) ?_
    refine lv_aload_n hx hb dX7_undo_26 rfl (lv_at hl 0 rfl) ?_
    refine va_get (D := G) (ci := 6) (v := .int (iZ (ed - 1))) (C := RX7) (T := TX7) (N := 11) hx hb hts (by decide +kernel) hown hK hP 0 rfl rfl 3 (by decide) (hts (.fieldLink RX7 32 "SturmianWordsModel" "edits" "I") (by decide +kernel)) (fun _ h9 => h9) rfl dX7_undo_27 ?_
    refine z_imul hx hb dX7_undo_30 ?_
    refine lv_aload_n hx hb dX7_undo_31 rfl (lv_at hl 0 rfl) ?_
    refine va_get (D := G) (ci := 6) (v := .ref a1) (C := RX7) (T := TX7) (N := 11) hx hb hts (by decide +kernel) hown hK hP 0 rfl rfl 0 (by decide) (hts (.fieldLink RX7 7 "SturmianWordsModel" "now" "[I") (by decide +kernel)) (fun _ h9 => h9) rfl dX7_undo_32 ?_
    refine lv_iconst (v := iZ 0) hx hb dX7_undo_35 rfl ?_
    have hPc := hP.sub (ws' := [(a3, .inl (cy 0, 384, .inl (zf ps))), (a1, .inl (cy 0, 64, .inl (zf nw)))]) [3, 1] rfl
    have hDc := (hD.sub (ws' := [(a3, .inl (cy 0, 384, .inl (zf ps))), (a1, .inl (cy 0, 64, .inl (zf nw)))]) [3, 1] (by decide) rfl).weaken (B := fun _ => True) (fun _ _ _ _ => trivial)
    have hFc := va_free (wc := [(a3, .inl (cy 0, 384, .inl (zf ps))), (a1, .inl (cy 0, 64, .inl (zf nw)))]) hD hS hA [3, 1] rfl
    refine z_callE (A := A) (va_runS (As := [.ref a3, .int (iZ (64 * (ed - 1))), .ref a1, .int (iZ 0)]) (rest := []) ⟨hx, hb, hml, hown, hts⟩ (c_X7_copy lau G cy a3 a1 384 64 H.size ps nw (64 * (ed - 1)) 0 (by first | assumption | omega) (by first | assumption | omega) (by first | assumption | omega)) (va_cwS 4 hts gX7_undo_X7_copy rfl rfl rfl (by decide +kernel) ⟨Nat.le_of_ble_eq_true rfl, Nat.le_of_ble_eq_true rfl⟩) ⟨P1_blind, P1_mk hKK (⟨rfl, hPc, hDc⟩)⟩ rfl rfl hl.1 rfl (lv_room (Nat.le_of_ble_eq_true rfl)) dX7_undo_36 ⟨(show 0 + 0 ≤ 0 by omega), (show 0 + 0 ≤ 0 by omega)⟩) hS.2.2 hFc (fun v H1 locs1 hR hL1 => ?_)
    obtain ⟨rfl, hq36, hP1, hD1, hF1⟩ := hR
    obtain ⟨hP, hD⟩ := va_join (wr := [(a0, .inr (6, [.ref a1, .ref a2, .ref a3, .int (iZ (ed - 1)), .ref a4, .int (iZ tc), .ref a5, .int (iZ ol), .ref a6, .int (iZ nl), .ref a7])), (a2, .inl (cy 0, 64, .inl (zf nx))), (a4, .inl (cy 0, 20, .inl (zf tm))), (a5, .inl (cy 0, 60, .inl (zf od))), (a6, .inl (cy 0, 60, .inl (zf ne))), (a7, .inl (cy 1, 1000, .inl (zf pt)))]) (w1 := [(a3, .inl (cy 0, 384, .inl (zf ps))), (a1, .inl (cy 0, 64, .inl (zf (cpy ps (64 * (ed - 1)) nw 0 64))))]) hP hD [3, 1] [0, 2, 4, 5, 6, 7] rfl rfl (by decide) (by decide) hF1.2 hFc hP1 hD1
    have hS : va_S A s.heap H1 locs1 := Fh.S ((Fh.of hS).tr hF1 (fun q _ h => hFc q h)) hL1
    clear hPc hDc hFc hP1 hD1 hF1 hL1
    generalize H1 = H at hP hS ⊢
    have hP : va_P G vwCl [(a0, .inr (6, [.ref a1, .ref a2, .ref a3, .int (iZ (ed - 1)), .ref a4, .int (iZ tc), .ref a5, .int (iZ ol), .ref a6, .int (iZ nl), .ref a7])), (a2, .inl (cy 0, 64, .inl (zf nx))), (a4, .inl (cy 0, 20, .inl (zf tm))), (a5, .inl (cy 0, 60, .inl (zf od))), (a6, .inl (cy 0, 60, .inl (zf ne))), (a7, .inl (cy 1, 1000, .inl (zf pt))), (a3, .inl (cy 0, 384, .inl (zf ps))), (a1, .inl (cy 0, 64, .inl (zf (cpy ps (64 * (ed - 1)) nw 0 64))))] H := hP
    have hD : va_D A [(a0, .inr (6, [.ref a1, .ref a2, .ref a3, .int (iZ (ed - 1)), .ref a4, .int (iZ tc), .ref a5, .int (iZ ol), .ref a6, .int (iZ nl), .ref a7])), (a2, .inl (cy 0, 64, .inl (zf nx))), (a4, .inl (cy 0, 20, .inl (zf tm))), (a5, .inl (cy 0, 60, .inl (zf od))), (a6, .inl (cy 0, 60, .inl (zf ne))), (a7, .inl (cy 1, 1000, .inl (zf pt))), (a3, .inl (cy 0, 384, .inl (zf ps))), (a1, .inl (cy 0, 64, .inl (zf (cpy ps (64 * (ed - 1)) nw 0 64))))] := hD
    have hP := hP.sub (ws' := (MW cy a0 a1 a2 a3 a4 a5 a6 a7 (ed - 1) tc ol nl (cpy ps (64 * (ed - 1)) nw 0 64) nx ps tm od ne pt)) [0, 7, 1, 6, 2, 3, 4, 5] rfl
    have hD := hD.sub (ws' := (MW cy a0 a1 a2 a3 a4 a5 a6 a7 (ed - 1) tc ol nl (cpy ps (64 * (ed - 1)) nw 0 64) nx ps tm od ne pt)) [0, 7, 1, 6, 2, 3, 4, 5] (by decide) rfl
    refine W.eq (g2 := F0 mt 39 ls []) rfl ?_
    refine lv_aload_n hx hb dX7_undo_39 rfl (lv_at hl 0 rfl) ?_
    refine va_get (D := G) (ci := 6) (v := .int (iZ (ed - 1))) (C := RX7) (T := TX7) (N := 11) hx hb hts (by decide +kernel) hown hK hP 0 rfl rfl 3 (by decide) (hts (.fieldLink RX7 32 "SturmianWordsModel" "edits" "I") (by decide +kernel)) (fun _ h9 => h9) rfl dX7_undo_40 ?_
    exact z_iretE hx hb hr hlocks dX7_undo_43 hS.2.2 ⟨(show 0 ≤ 0 by omega), (show 0 ≤ 0 by omega)⟩ ⟨(rfl), (trivial), (hP), (hD), Fh.of hS⟩
  · exfalso; omega
set_option maxHeartbeats 4000000 in
set_option maxRecDepth 100000 in
theorem c_X7_layPoints (lau : Launch) (G : va_G) (cy : Nat → ClassId) (a0 a1 a2 a3 a4 a5 a6 a7 : Nat) (sz : Nat) (ed tc ol nl : Int) (nw nx ps tm od ne pt : Int → Int) (m : Int) (hQ : 0 ≤ nw 0 ∧ nw 0 ≤ nw 1 ∧ 1 ≤ nw 1 ∧ nw 1 ≤ 1000) (hpt : ∀ x, 0 ≤ x → x < 1000 → pt x = 0 ∨ pt x = 1) (h1 : 0 ≤ m ∧ m ≤ 1000) : Met lau yX7_layPoints wsX7_layPoints ({ frames := 0, cells := 0, slots := 0, locals := 0 }) (P1 G cy [.ref a0, .int (iZ m)] (fun H => H.size = sz ∧ va_P G vwCl (MW cy a0 a1 a2 a3 a4 a5 a6 a7 ed tc ol nl nw nx ps tm od ne pt) H ∧ va_D (fun _ => True) (MW cy a0 a1 a2 a3 a4 a5 a6 a7 ed tc ol nl nw nx ps tm od ne pt))) (Q1 (fun rv H0 H1 => rv = none ∧ (True) ∧ va_P G vwCl (MW cy a0 a1 a2 a3 a4 a5 a6 a7 ed tc ol nl nw nx ps tm od ne (lyP pt (nw 0) (nw 1) m)) H1 ∧ va_D (va_A (MW cy a0 a1 a2 a3 a4 a5 a6 a7 ed tc ol nl nw nx ps tm od ne pt) sz) (MW cy a0 a1 a2 a3 a4 a5 a6 a7 ed tc ol nl nw nx ps tm od ne (lyP pt (nw 0) (nw 1) m)) ∧ Fh (va_A (MW cy a0 a1 a2 a3 a4 a5 a6 a7 ed tc ol nl nw nx ps tm od ne pt) sz) H0 H1)) 0 0 (va_A (MW cy a0 a1 a2 a3 a4 a5 a6 a7 ed tc ol nl nw nx ps tm od ne pt) sz) := by
  refine z_head (lv := [(0, .ref a0), (1, .int (iZ m))]) RX7 (by decide) rfl rfl (Nat.le_of_ble_eq_true rfl) rfl ?_
  intro pr ev s mt below meth cd ls hx hb hr hlocks hml hown hname hts hKK hP hl
  have hK := hKK.1
  obtain ⟨hsz, hP, hD0⟩ := hP
  subst hsz
  have hD := hD0.self (sz := s.heap.size)
  generalize hAe : va_A (MW cy a0 a1 a2 a3 a4 a5 a6 a7 ed tc ol nl nw nx ps tm od ne pt) s.heap.size = A at hD ⊢
  have hA : ∀ q : Nat, s.heap.size ≤ q → A q := fun q h => by rw [← hAe]; exact Or.inr h
  have hS : va_S A s.heap s.heap [] := va_S.rf
  have hP : va_P G vwCl (MW cy a0 a1 a2 a3 a4 a5 a6 a7 ed tc ol nl nw nx ps tm od ne pt) s.heap := hP
  refine lv_iconst (v := iZ 0) hx hb dX7_layPoints_0 rfl ?_
  refine lv_istore_n (lv' := [(2, .int (iZ 0)), (0, .ref a0), (1, .int (iZ m))]) hx hb dX7_layPoints_1 rfl hl (by decide) rfl (fun ls hl => ?_)
  rw [← clP_0 pt] at hP hD
  refine z_loopH1 (nL := 4) (A := A) (fun (k : Int) => [(0, .ref a0), (1, .int (iZ m)), (2, .int (iZ k))]) (fun (k : Int) (H : Heap) => ((0 ≤ k ∧ k ≤ nw 1)) ∧ va_P G vwCl (MW cy a0 a1 a2 a3 a4 a5 a6 a7 ed tc ol nl nw nx ps tm od ne (clP pt k)) H ∧ va_D A (MW cy a0 a1 a2 a3 a4 a5 a6 a7 ed tc ol nl nw nx ps tm od ne (clP pt k)) ∧ Fh A s.heap H) (fun (k : Int) => nw 1 - k) (fun (k : Int) => 0) (fun (k : Int) => 0) (a1 := 0) ⟨(by omega), hP, hD, Fh.of hS⟩ hS.2.2 (lv_sub hl [1, 2, 0] rfl) ?_
  rintro k H locs ⟨i1, hP, hD, hFr⟩ hLc ih_2 ls hl
  have hS : va_S A s.heap H locs := Fh.S hFr hLc
  refine lv_iload_n hx hb dX7_layPoints_2 rfl (lv_at hl 2 rfl) ?_
  refine lv_aload_n hx hb dX7_layPoints_3 rfl (lv_at hl 0 rfl) ?_
  refine va_get (D := G) (ci := 6) (v := .ref a1) (C := RX7) (T := TX7) (N := 11) hx hb hts (by decide +kernel) hown hK hP 0 rfl rfl 0 (by decide) (hts (.fieldLink RX7 7 "SturmianWordsModel" "now" "[I") (by decide +kernel)) (fun _ h9 => h9) rfl dX7_layPoints_4 ?_
  refine lv_iconst (v := iZ 1) hx hb dX7_layPoints_7 rfl ?_
  refine z_iald (D := G) hx hb hK hP 1 0 rfl rfl (by omega) dX7_layPoints_8 ?_
  refine z_icmp_ge (tgt := 25) hx hb dX7_layPoints_9 (by decide) (by omega) (fun c_9 => ?_) (fun c_9 => ?_)
  · rw [show k = nw 1 by omega] at hP hD
    refine lv_iconst (v := iZ 0) hx hb dX7_layPoints_25 rfl ?_
    refine lv_istore_n (lv' := [(2, .int (iZ 0)), (0, .ref a0), (1, .int (iZ m))]) hx hb dX7_layPoints_26 rfl hl (by decide) rfl (fun ls hl => ?_)
    refine lv_iconst (v := iZ 0) hx hb dX7_layPoints_27 rfl ?_
    refine lv_istore_n (lv' := [(3, .int (iZ 0)), (2, .int (iZ 0)), (0, .ref a0), (1, .int (iZ m))]) hx hb dX7_layPoints_28 rfl hl (by decide) rfl (fun ls hl => ?_)
    rw [← lyP_0 pt (nw 0) (nw 1)] at hP hD
    refine z_loopH2 (nL := 4) (A := A) (fun (x : Int) (j : Int) => [(0, .ref a0), (1, .int (iZ m)), (2, .int (iZ x)), (3, .int (iZ j))]) (fun (x : Int) (j : Int) (H : Heap) => ((0 ≤ j ∧ j ≤ m) ∧ (x = j * nw 0 % nw 1) ∧ (0 ≤ x ∧ x < nw 1)) ∧ va_P G vwCl (MW cy a0 a1 a2 a3 a4 a5 a6 a7 ed tc ol nl nw nx ps tm od ne (lyP pt (nw 0) (nw 1) j)) H ∧ va_D A (MW cy a0 a1 a2 a3 a4 a5 a6 a7 ed tc ol nl nw nx ps tm od ne (lyP pt (nw 0) (nw 1) j)) ∧ Fh A s.heap H) (fun (x : Int) (j : Int) => m - j) (fun (x : Int) (j : Int) => 0) (fun (x : Int) (j : Int) => 0) (a1 := 0) (a2 := 0) ⟨⟨(by omega), (by rw [Int.zero_mul, Int.zero_emod]), (by omega)⟩, hP, hD, Fh.of hS⟩ hS.2.2 (lv_sub hl [2, 3, 1, 0] rfl) ?_
    rintro x j H locs ⟨⟨j1, j2, j3⟩, hP, hD, hFr⟩ hLc ih_29 ls hl
    have hS : va_S A s.heap H locs := Fh.S hFr hLc
    skip
    refine lv_iload_n hx hb dX7_layPoints_29 rfl (lv_at hl 3 rfl) ?_
    refine lv_iload_n hx hb dX7_layPoints_30 rfl (lv_at hl 1 rfl) ?_
    refine z_icmp_ge (tgt := 63) hx hb dX7_layPoints_31 (by decide) (by omega) (fun c_31 => ?_) (fun c_31 => ?_)
    · rw [show j = m by omega] at hP hD
      exact z_vretE hx hb hr hlocks dX7_layPoints_63 hS.2.2 ⟨(show 0 ≤ 0 by omega), (show 0 ≤ 0 by omega)⟩ ⟨(rfl), (trivial), (hP), (hD), Fh.of hS⟩
    · refine lv_aload_n hx hb dX7_layPoints_34 rfl (lv_at hl 0 rfl) ?_
      refine va_get (D := G) (ci := 6) (v := .ref a7) (C := RX7) (T := TX7) (N := 11) hx hb hts (by decide +kernel) hown hK hP 0 rfl rfl 10 (by decide) (hts (.fieldLink RX7 28 "SturmianWordsModel" "points" "[Z") (by decide +kernel)) (fun _ h9 => h9) rfl dX7_layPoints_35 ?_
      refine lv_iload_n hx hb dX7_layPoints_38 rfl (lv_at hl 2 rfl) ?_
      refine lv_iconst (v := iZ 1) hx hb dX7_layPoints_39 rfl ?_
      refine z_zast (D := G) hx hb hK hP hD hS 7 1 rfl rfl (by omega) (Or.inr rfl) dX7_layPoints_40 (fun H locs hP hD hS => ?_)
      have hP : va_P G vwCl (MW cy a0 a1 a2 a3 a4 a5 a6 a7 ed tc ol nl nw nx ps tm od ne (up1 (lyP pt (nw 0) (nw 1) j) x 1)) H := hP
      have hD : va_D A (MW cy a0 a1 a2 a3 a4 a5 a6 a7 ed tc ol nl nw nx ps tm od ne (up1 (lyP pt (nw 0) (nw 1) j) x 1)) := hD
      rw [show (up1 (lyP pt (nw 0) (nw 1) j) x 1) = (lyP pt (nw 0) (nw 1) (j + 1)) from by rw [j2]; exact lyP_s (by omega)] at hP hD
      refine lv_iload_n hx hb dX7_layPoints_41 rfl (lv_at hl 2 rfl) ?_
      refine lv_aload_n hx hb dX7_layPoints_42 rfl (lv_at hl 0 rfl) ?_
      refine va_get (D := G) (ci := 6) (v := .ref a1) (C := RX7) (T := TX7) (N := 11) hx hb hts (by decide +kernel) hown hK hP 0 rfl rfl 0 (by decide) (hts (.fieldLink RX7 7 "SturmianWordsModel" "now" "[I") (by decide +kernel)) (fun _ h9 => h9) rfl dX7_layPoints_43 ?_
      refine lv_iconst (v := iZ 0) hx hb dX7_layPoints_46 rfl ?_
      refine z_iald (D := G) hx hb hK hP 1 0 rfl rfl (by omega) dX7_layPoints_47 ?_
      refine z_iadd hx hb dX7_layPoints_48 ?_
      refine lv_aload_n hx hb dX7_layPoints_49 rfl (lv_at hl 0 rfl) ?_
      refine va_get (D := G) (ci := 6) (v := .ref a1) (C := RX7) (T := TX7) (N := 11) hx hb hts (by decide +kernel) hown hK hP 0 rfl rfl 0 (by decide) (hts (.fieldLink RX7 7 "SturmianWordsModel" "now" "[I") (by decide +kernel)) (fun _ h9 => h9) rfl dX7_layPoints_50 ?_
      refine lv_iconst (v := iZ 1) hx hb dX7_layPoints_53 rfl ?_
      refine z_iald (D := G) hx hb hK hP 1 0 rfl rfl (by omega) dX7_layPoints_54 ?_
      refine z_irem hx hb dX7_layPoints_55 (by omega) ?_
      refine lv_istore_n (lv' := [(2, .int (iZ ((x + (nw 0)) % (nw 1)))), (0, .ref a0), (1, .int (iZ m)), (3, .int (iZ j))]) hx hb dX7_layPoints_56 rfl hl (by decide) rfl (fun ls hl => ?_)
      refine lv_iinc (v := iZ (j + 1)) (lv' := [(3, .int (iZ (j + 1))), (2, .int (iZ ((x + (nw 0)) % (nw 1)))), (0, .ref a0), (1, .int (iZ m))]) hx hb dX7_layPoints_57 hl (k := 3) rfl (iZ_add _ _) (by decide) rfl (fun ls hl => ?_)
      refine lv_goto (tgt := 29) hx hb dX7_layPoints_60 (by decide) ?_
      exact ih_29 ((x + (nw 0)) % (nw 1)) (j + 1) _ _ ⟨⟨(by omega), (by rw [j2]; exact ly_step _ _ _), (⟨Int.emod_nonneg _ (by omega), Int.emod_lt_of_pos _ (by omega)⟩)⟩, hP, hD, Fh.of hS⟩ hS.2.2 ⟨by omega, by omega⟩ _ (lv_sub hl [2, 3, 1, 0] rfl)
  · refine lv_aload_n hx hb dX7_layPoints_12 rfl (lv_at hl 0 rfl) ?_
    refine va_get (D := G) (ci := 6) (v := .ref a7) (C := RX7) (T := TX7) (N := 11) hx hb hts (by decide +kernel) hown hK hP 0 rfl rfl 10 (by decide) (hts (.fieldLink RX7 28 "SturmianWordsModel" "points" "[Z") (by decide +kernel)) (fun _ h9 => h9) rfl dX7_layPoints_13 ?_
    refine lv_iload_n hx hb dX7_layPoints_16 rfl (lv_at hl 2 rfl) ?_
    refine lv_iconst (v := iZ 0) hx hb dX7_layPoints_17 rfl ?_
    refine z_zast (D := G) hx hb hK hP hD hS 7 1 rfl rfl (by omega) (Or.inl rfl) dX7_layPoints_18 (fun H locs hP hD hS => ?_)
    have hP : va_P G vwCl (MW cy a0 a1 a2 a3 a4 a5 a6 a7 ed tc ol nl nw nx ps tm od ne (up1 (clP pt k) k 0)) H := hP
    have hD : va_D A (MW cy a0 a1 a2 a3 a4 a5 a6 a7 ed tc ol nl nw nx ps tm od ne (up1 (clP pt k) k 0)) := hD
    rw [show (up1 (clP pt k) k 0) = (clP pt (k + 1)) from clP_s (by omega)] at hP hD
    refine lv_iinc (v := iZ (k + 1)) (lv' := [(2, .int (iZ (k + 1))), (0, .ref a0), (1, .int (iZ m))]) hx hb dX7_layPoints_19 hl (k := 2) rfl (iZ_add _ _) (by decide) rfl (fun ls hl => ?_)
    refine lv_goto (tgt := 2) hx hb dX7_layPoints_22 (by decide) ?_
    exact ih_2 (k + 1) _ _ ⟨(by omega), hP, hD, Fh.of hS⟩ hS.2.2 ⟨by omega, by omega⟩ _ (lv_sub hl [1, 2, 0] rfl)
set_option maxHeartbeats 4000000 in
set_option maxRecDepth 100000 in
theorem c_X7_sizeAt (lau : Launch) (G : va_G) (cy : Nat → ClassId) (a0 a1 a2 a3 a4 a5 a6 a7 : Nat) (sz : Nat) (ed tc ol nl : Int) (nw nx ps tm od ne pt : Int → Int) (m ix : Int) (hQ : 0 ≤ nw 0 ∧ nw 0 ≤ nw 1 ∧ 1 ≤ nw 1 ∧ nw 1 ≤ 1000) (hpt : ∀ x, 0 ≤ x → x < 1000 → pt x = 0 ∨ pt x = 1) (h1 : 0 ≤ m ∧ m ≤ 1000) (h2 : -1 ≤ ix ∧ ix < 2147483648) : Met lau yX7_sizeAt wsX7_sizeAt ({ frames := 1, cells := 0, slots := 0, locals := 24 }) (P1 G cy [.ref a0, .int (iZ m), .int (iZ ix)] (fun H => H.size = sz ∧ va_P G vwCl (MW cy a0 a1 a2 a3 a4 a5 a6 a7 ed tc ol nl nw nx ps tm od ne pt) H ∧ va_D (fun _ => True) (MW cy a0 a1 a2 a3 a4 a5 a6 a7 ed tc ol nl nw nx ps tm od ne pt))) (Q1 (fun rv H0 H1 => rv = some (.int (iZ (gpR (nw 0) (nw 1) m ix))) ∧ (True) ∧ va_P G vwCl (MW cy a0 a1 a2 a3 a4 a5 a6 a7 ed tc ol nl nw nx ps tm od ne (lyP pt (nw 0) (nw 1) m)) H1 ∧ va_D (va_A (MW cy a0 a1 a2 a3 a4 a5 a6 a7 ed tc ol nl nw nx ps tm od ne pt) sz) (MW cy a0 a1 a2 a3 a4 a5 a6 a7 ed tc ol nl nw nx ps tm od ne (lyP pt (nw 0) (nw 1) m)) ∧ Fh (va_A (MW cy a0 a1 a2 a3 a4 a5 a6 a7 ed tc ol nl nw nx ps tm od ne pt) sz) H0 H1)) 0 0 (va_A (MW cy a0 a1 a2 a3 a4 a5 a6 a7 ed tc ol nl nw nx ps tm od ne pt) sz) := by
  refine z_head (lv := [(0, .ref a0), (1, .int (iZ m)), (2, .int (iZ ix))]) RX7 (by decide) rfl rfl (Nat.le_of_ble_eq_true rfl) rfl ?_
  intro pr ev s mt below meth cd ls hx hb hr hlocks hml hown hname hts hKK hP hl
  have hK := hKK.1
  obtain ⟨hsz, hP, hD0⟩ := hP
  subst hsz
  have hD := hD0.self (sz := s.heap.size)
  generalize hAe : va_A (MW cy a0 a1 a2 a3 a4 a5 a6 a7 ed tc ol nl nw nx ps tm od ne pt) s.heap.size = A at hD ⊢
  have hA : ∀ q : Nat, s.heap.size ≤ q → A q := fun q h => by rw [← hAe]; exact Or.inr h
  have hS : va_S A s.heap s.heap [] := va_S.rf
  have hP : va_P G vwCl (MW cy a0 a1 a2 a3 a4 a5 a6 a7 ed tc ol nl nw nx ps tm od ne pt) s.heap := hP
  refine lv_aload_n hx hb dX7_sizeAt_0 rfl (lv_at hl 0 rfl) ?_
  refine lv_iload_n hx hb dX7_sizeAt_1 rfl (lv_at hl 1 rfl) ?_
  have hPc := hP.sub (ws' := (MW cy a0 a1 a2 a3 a4 a5 a6 a7 ed tc ol nl nw nx ps tm od ne pt)) [0, 1, 2, 3, 4, 5, 6, 7] rfl
  have hDc := (hD.sub (ws' := (MW cy a0 a1 a2 a3 a4 a5 a6 a7 ed tc ol nl nw nx ps tm od ne pt)) [0, 1, 2, 3, 4, 5, 6, 7] (by decide) rfl).weaken (B := fun _ => True) (fun _ _ _ _ => trivial)
  have hFc := va_free (wc := (MW cy a0 a1 a2 a3 a4 a5 a6 a7 ed tc ol nl nw nx ps tm od ne pt)) hD hS hA [0, 1, 2, 3, 4, 5, 6, 7] rfl
  refine z_callE (A := A) (va_runV (As := [.int (iZ m)]) (rest := []) ⟨hx, hb, hml, hown, hts⟩ (c_X7_layPoints lau G cy a0 a1 a2 a3 a4 a5 a6 a7 s.heap.size ed tc ol nl nw nx ps tm od ne pt m (by first | assumption | omega) (by first | assumption | omega) (by first | assumption | omega)) (cwV 1 hts gX7_sizeAt_X7_layPoints rfl rfl rfl (by decide +kernel) ⟨Nat.le_of_ble_eq_true rfl, Nat.le_of_ble_eq_true rfl⟩) ⟨P1_blind, va_recv hK hP (ci := 6) (q0 := 0) rfl rfl, P1_mk hKK (⟨rfl, hPc, hDc⟩)⟩ rfl rfl hl.1 rfl (lv_room (Nat.le_of_ble_eq_true rfl)) dX7_sizeAt_2 ⟨(show 0 + 0 ≤ 0 by omega), (show 0 + 0 ≤ 0 by omega)⟩) hS.2.2 hFc (fun v H1 locs1 hR hL1 => ?_)
  obtain ⟨rfl, hq2, hP1, hD1, hF1⟩ := hR
  obtain ⟨hP, hD⟩ := va_join (wr := []) (w1 := (MW cy a0 a1 a2 a3 a4 a5 a6 a7 ed tc ol nl nw nx ps tm od ne (lyP pt (nw 0) (nw 1) m))) hP hD [0, 1, 2, 3, 4, 5, 6, 7] [] rfl rfl (by decide) (by decide) hF1.2 hFc hP1 hD1
  have hS : va_S A s.heap H1 locs1 := Fh.S ((Fh.of hS).tr hF1 (fun q _ h => hFc q h)) hL1
  clear hPc hDc hFc hP1 hD1 hF1 hL1
  generalize H1 = H at hP hS ⊢
  have hP : va_P G vwCl (MW cy a0 a1 a2 a3 a4 a5 a6 a7 ed tc ol nl nw nx ps tm od ne (lyP pt (nw 0) (nw 1) m)) H := hP
  have hD : va_D A (MW cy a0 a1 a2 a3 a4 a5 a6 a7 ed tc ol nl nw nx ps tm od ne (lyP pt (nw 0) (nw 1) m)) := hD
  refine W.eq (g2 := F0 mt 5 ls []) rfl ?_
  refine lv_iconst (v := iZ 0) hx hb dX7_sizeAt_5 rfl ?_
  refine lv_istore_n (lv' := [(3, .int (iZ 0)), (0, .ref a0), (1, .int (iZ m)), (2, .int (iZ ix))]) hx hb dX7_sizeAt_6 rfl hl (by decide) rfl (fun ls hl => ?_)
  refine lv_iconst (v := iZ 1) hx hb dX7_sizeAt_7 rfl ?_
  refine lv_istore (lv' := [(4, .int (iZ 1)), (3, .int (iZ 0)), (0, .ref a0), (1, .int (iZ m)), (2, .int (iZ ix))]) hx hb dX7_sizeAt_8 hl (by decide) rfl (fun ls hl => ?_)
  have hlb := lyP_b (p := nw 0) (q := nw 1) (m := m) hpt
  refine z_loopH2 (nL := 5) (A := A) (fun (n : Int) (z : Int) => [(0, .ref a0), (1, .int (iZ m)), (2, .int (iZ ix)), (3, .int (iZ n)), (4, .int (iZ z))]) (fun (n : Int) (z : Int) (H : Heap) => ((1 ≤ z ∧ z ≤ nw 1 + 1) ∧ (n = cnt (gpS (nw 0) (nw 1) m) z) ∧ (0 ≤ ix → fnd (fun s => gpS (nw 0) (nw 1) m s ∧ cnt (gpS (nw 0) (nw 1) m) s = ix) z = -1)) ∧ va_P G vwCl (MW cy a0 a1 a2 a3 a4 a5 a6 a7 ed tc ol nl nw nx ps tm od ne (lyP pt (nw 0) (nw 1) m)) H ∧ va_D A (MW cy a0 a1 a2 a3 a4 a5 a6 a7 ed tc ol nl nw nx ps tm od ne (lyP pt (nw 0) (nw 1) m)) ∧ Fh A s.heap H) (fun (n : Int) (z : Int) => nw 1 + 1 - z) (fun (n : Int) (z : Int) => 0) (fun (n : Int) (z : Int) => 0) (a1 := 0) (a2 := 1) ⟨⟨(by omega), (((cnt_f (P := gpS (nw 0) (nw 1) m) (N := 0) (Int.le_refl 0) (fun y => by have := y.1; omega)).trans (cnt_0 (Int.le_refl 0))).symm), (fun _ => fnd_miss (i := 0) (Int.le_refl 0) (fnd_0 (Int.le_refl 0)) (fun y => by have := y.1.1; omega))⟩, hP, hD, Fh.of hS⟩ hS.2.2 (lv_sub hl [2, 3, 4, 1, 0] rfl) ?_
  rintro n z H locs ⟨⟨i1, i2, i3⟩, hP, hD, hFr⟩ hLc ih_10 ls hl
  have hS : va_S A s.heap H locs := Fh.S hFr hLc
  have hr1 := cnt_le (P := gpS (nw 0) (nw 1) m) (show 0 ≤ z by omega)
  refine lv_iload hx hb dX7_sizeAt_10 (lv_at hl 4 rfl) ?_
  refine lv_aload_n hx hb dX7_sizeAt_12 rfl (lv_at hl 0 rfl) ?_
  refine va_get (D := G) (ci := 6) (v := .ref a1) (C := RX7) (T := TX7) (N := 11) hx hb hts (by decide +kernel) hown hK hP 0 rfl rfl 0 (by decide) (hts (.fieldLink RX7 7 "SturmianWordsModel" "now" "[I") (by decide +kernel)) (fun _ h9 => h9) rfl dX7_sizeAt_13 ?_
  refine lv_iconst (v := iZ 1) hx hb dX7_sizeAt_16 rfl ?_
  refine z_iald (D := G) hx hb hK hP 1 0 rfl rfl (by omega) dX7_sizeAt_17 ?_
  refine z_icmp_gt (tgt := 47) hx hb dX7_sizeAt_18 (by decide) (by omega) (fun c_18 => ?_) (fun c_18 => ?_)
  · refine lv_iload_n hx hb dX7_sizeAt_47 rfl (lv_at hl 2 rfl) ?_
    refine z_if_ge (tgt := 55) hx hb dX7_sizeAt_48 (by decide) (by omega) (fun c_48 => ?_) (fun c_48 => ?_)
    · refine lv_bipush (v := iZ (-3)) hx hb dX7_sizeAt_55 (by decide +kernel) ?_
      exact z_iretE hx hb hr hlocks dX7_sizeAt_57 hS.2.2 ⟨(show 0 ≤ 0 by omega), (show 0 ≤ 0 by omega)⟩ ⟨(sI (by unfold gpR; rw [if_neg (by omega), if_pos (fnd_eq (i3 (by omega)) (by omega))])), (trivial), (hP), (hD), Fh.of hS⟩
    · refine lv_iload_n hx hb dX7_sizeAt_51 rfl (lv_at hl 3 rfl) ?_
      refine lv_goto (tgt := 57) hx hb dX7_sizeAt_52 (by decide) ?_
      exact z_iretE hx hb hr hlocks dX7_sizeAt_57 hS.2.2 ⟨(show 0 ≤ 0 by omega), (show 0 ≤ 0 by omega)⟩ ⟨(sI (by unfold gpR; rw [if_pos (by omega), i2, show z = nw 1 + 1 by omega])), (trivial), (hP), (hD), Fh.of hS⟩
  · refine lv_aload_n hx hb dX7_sizeAt_21 rfl (lv_at hl 0 rfl) ?_
    refine lv_iload hx hb dX7_sizeAt_22 (lv_at hl 4 rfl) ?_
    refine z_calli (va_runV (As := [.int (iZ z)]) (rest := []) ⟨hx, hb, hml, hown, hts⟩ (c_X7_gapsWith lau G cy a0 a1 a2 a3 a4 a5 a6 a7 ed tc ol nl nw (lyP pt (nw 0) (nw 1) m) z (by first | assumption | omega) (hlb) (by first | assumption | omega)) (cwV 1 hts gX7_sizeAt_X7_gapsWith rfl rfl rfl (by decide +kernel) ⟨Nat.le_of_ble_eq_true rfl, Nat.le_of_ble_eq_true rfl⟩) ⟨P1_blind, va_recv hK hP (ci := 6) (q0 := 0) rfl rfl, P1_mk hKK (hP.sub [0, 1, 7] rfl)⟩ rfl rfl hl.1 rfl (lv_room (Nat.le_of_ble_eq_true rfl)) dX7_sizeAt_24 ⟨(show 0 + 0 ≤ 0 by omega), (show 0 + 0 ≤ 0 by omega)⟩) ?_
    rw [gpN_e (by omega)]
    have hgn := cnt_le (P := fun k => ptP (nw 0) (nw 1) m k ∧ fnd (fun g => 1 ≤ g ∧ ptP (nw 0) (nw 1) m ((k + g) % nw 1)) (nw 1 + 1) = z) (show 0 ≤ nw 1 by omega)
    have hgn : 0 ≤ gpN (nw 0) (nw 1) m z ∧ gpN (nw 0) (nw 1) m z ≤ nw 1 := hgn
    refine z_if_le (tgt := 41) hx hb dX7_sizeAt_27 (by decide) (by omega) (fun c_27 => ?_) (fun c_27 => ?_)
    · refine lv_iinc (v := iZ (z + 1)) (lv' := [(4, .int (iZ (z + 1))), (0, .ref a0), (1, .int (iZ m)), (2, .int (iZ ix)), (3, .int (iZ n))]) hx hb dX7_sizeAt_41 hl (k := 4) rfl (iZ_add _ _) (by decide) rfl (fun ls hl => ?_)
      refine lv_goto (tgt := 10) hx hb dX7_sizeAt_44 (by decide) ?_
      exact ih_10 n (z + 1) _ _ ⟨⟨(by omega), (by rw [cnt_f (P := gpS (nw 0) (nw 1) m) (by omega) (fun y => by have := y.2; omega)]; exact i2), (fun y => fnd_miss (by omega) (i3 y) (fun x => by have := x.1.2; omega))⟩, hP, hD, Fh.of hS⟩ hS.2.2 ⟨by omega, by omega⟩ _ (lv_sub hl [1, 2, 3, 4, 0] rfl)
    · refine lv_iload_n hx hb dX7_sizeAt_30 rfl (lv_at hl 3 rfl) ?_
      refine lv_iload_n hx hb dX7_sizeAt_31 rfl (lv_at hl 2 rfl) ?_
      refine z_icmp_ne (tgt := 38) hx hb dX7_sizeAt_32 (by decide) (by omega) (fun c_32 => ?_) (fun c_32 => ?_)
      · refine lv_iinc (v := iZ (n + 1)) (lv' := [(3, .int (iZ (n + 1))), (0, .ref a0), (1, .int (iZ m)), (2, .int (iZ ix)), (4, .int (iZ z))]) hx hb dX7_sizeAt_38 hl (k := 3) rfl (iZ_add _ _) (by decide) rfl (fun ls hl => ?_)
        refine lv_iinc (v := iZ (z + 1)) (lv' := [(4, .int (iZ (z + 1))), (3, .int (iZ (n + 1))), (0, .ref a0), (1, .int (iZ m)), (2, .int (iZ ix))]) hx hb dX7_sizeAt_41 hl (k := 4) rfl (iZ_add _ _) (by decide) rfl (fun ls hl => ?_)
        refine lv_goto (tgt := 10) hx hb dX7_sizeAt_44 (by decide) ?_
        exact ih_10 (n + 1) (z + 1) _ _ ⟨⟨(by omega), (by rw [cnt_t (P := gpS (nw 0) (nw 1) m) (by omega) ⟨by omega, by omega⟩, i2]), (fun y => fnd_miss (by omega) (i3 y) (fun x => c_32 (by rw [i2]; exact x.2)))⟩, hP, hD, Fh.of hS⟩ hS.2.2 ⟨by omega, by omega⟩ _ (lv_sub hl [2, 3, 4, 1, 0] rfl)
      · refine lv_iload hx hb dX7_sizeAt_35 (lv_at hl 4 rfl) ?_
        exact z_iretE hx hb hr hlocks dX7_sizeAt_37 hS.2.2 ⟨(show 0 ≤ 0 by omega), (show 0 ≤ 0 by omega)⟩ ⟨(sI (by have hx0 : 0 ≤ ix := (by omega); have hf := fnd_hit (P := fun s => gpS (nw 0) (nw 1) m s ∧ cnt (gpS (nw 0) (nw 1) m) s = ix) (i := z) (N := nw 1 + 1) (by omega) (i3 hx0) ⟨⟨by omega, by omega⟩, by omega⟩ (by omega); unfold gpR; rw [if_neg (by omega), hf, if_neg (by omega)])), (trivial), (hP), (hD), Fh.of hS⟩
set_option maxHeartbeats 4000000 in
set_option maxRecDepth 100000 in
theorem c_X7_gapSizeCount_no (lau : Launch) (G : va_G) (cy : Nat → ClassId) (a0 a1 a2 a3 a4 a5 a6 a7 : Nat) (sz : Nat) (ed tc ol nl : Int) (nw nx ps tm od ne pt : Int → Int) (m : Int) (h1 : -2147483648 ≤ m ∧ m < 2147483648) (h2 : ¬ (1 ≤ m ∧ m ≤ 1000)) : Met lau yX7_gapSizeCount wsX7_gapSizeCount ({ frames := 2, cells := 0, slots := 0, locals := 48 }) (P1 G cy [.ref a0, .int (iZ m)] (fun H => H.size = sz ∧ va_P G vwCl (MW cy a0 a1 a2 a3 a4 a5 a6 a7 ed tc ol nl nw nx ps tm od ne pt) H ∧ va_D (fun _ => True) (MW cy a0 a1 a2 a3 a4 a5 a6 a7 ed tc ol nl nw nx ps tm od ne pt))) (Q1 (fun rv H0 H1 => rv = some (.int (iZ (-1))) ∧ (True) ∧ va_P G vwCl (MW cy a0 a1 a2 a3 a4 a5 a6 a7 ed tc ol nl nw nx ps tm od ne pt) H1 ∧ va_D (va_A (MW cy a0 a1 a2 a3 a4 a5 a6 a7 ed tc ol nl nw nx ps tm od ne pt) sz) (MW cy a0 a1 a2 a3 a4 a5 a6 a7 ed tc ol nl nw nx ps tm od ne pt) ∧ Fh (va_A (MW cy a0 a1 a2 a3 a4 a5 a6 a7 ed tc ol nl nw nx ps tm od ne pt) sz) H0 H1)) 0 0 (va_A (MW cy a0 a1 a2 a3 a4 a5 a6 a7 ed tc ol nl nw nx ps tm od ne pt) sz) := by
  refine z_head (lv := [(0, .ref a0), (1, .int (iZ m))]) RX7 (by decide) rfl rfl (Nat.le_of_ble_eq_true rfl) rfl ?_
  intro pr ev s mt below meth cd ls hx hb hr hlocks hml hown hname hts hKK hP hl
  have hK := hKK.1
  obtain ⟨hsz, hP, hD0⟩ := hP
  subst hsz
  have hD := hD0.self (sz := s.heap.size)
  generalize hAe : va_A (MW cy a0 a1 a2 a3 a4 a5 a6 a7 ed tc ol nl nw nx ps tm od ne pt) s.heap.size = A at hD ⊢
  have hA : ∀ q : Nat, s.heap.size ≤ q → A q := fun q h => by rw [← hAe]; exact Or.inr h
  have hS : va_S A s.heap s.heap [] := va_S.rf
  have hP : va_P G vwCl (MW cy a0 a1 a2 a3 a4 a5 a6 a7 ed tc ol nl nw nx ps tm od ne pt) s.heap := hP
  refine lv_iload_n hx hb dX7_gapSizeCount_0 rfl (lv_at hl 1 rfl) ?_
  refine lv_iconst (v := iZ 1) hx hb dX7_gapSizeCount_1 rfl ?_
  refine lv_sipush (v := iZ 1000) hx hb dX7_gapSizeCount_2 (by decide +kernel) ?_
  refine z_calli (va_runS (As := [.int (iZ m), .int (iZ 1), .int (iZ 1000)]) (rest := []) ⟨hx, hb, hml, hown, hts⟩ (c_X7_in lau G cy m 1 1000 (by first | assumption | omega)) (va_cwS 3 hts gX7_gapSizeCount_X7_in rfl rfl rfl (by decide +kernel) ⟨Nat.le_of_ble_eq_true rfl, Nat.le_of_ble_eq_true rfl⟩) ⟨P1_blind, P1_mk hKK (trivial)⟩ rfl rfl hl.1 rfl (lv_room (Nat.le_of_ble_eq_true rfl)) dX7_gapSizeCount_5 ⟨(show 0 + 0 ≤ 0 by omega), (show 0 + 0 ≤ 0 by omega)⟩) ?_
  refine z_ifB_eq (tgt := 20) hx hb dX7_gapSizeCount_8 (by decide) (fun c_8 => ?_) (fun c_8 => ?_)
  · refine lv_iconst (v := iZ (-1)) hx hb dX7_gapSizeCount_20 rfl ?_
    exact z_iretE hx hb hr hlocks dX7_gapSizeCount_21 hS.2.2 ⟨(show 0 ≤ 0 by omega), (show 0 ≤ 0 by omega)⟩ ⟨(rfl), (trivial), (hP), (hD), Fh.of hS⟩
  · exact absurd c_8 h2
set_option maxHeartbeats 4000000 in
set_option maxRecDepth 100000 in
theorem c_X7_gapSizeCount (lau : Launch) (G : va_G) (cy : Nat → ClassId) (a0 a1 a2 a3 a4 a5 a6 a7 : Nat) (sz : Nat) (ed tc ol nl : Int) (nw nx ps tm od ne pt : Int → Int) (m : Int) (hQ : 0 ≤ nw 0 ∧ nw 0 ≤ nw 1 ∧ 1 ≤ nw 1 ∧ nw 1 ≤ 1000) (hpt : ∀ x, 0 ≤ x → x < 1000 → pt x = 0 ∨ pt x = 1) (h1 : -2147483648 ≤ m ∧ m < 2147483648) (h2 : 1 ≤ m ∧ m ≤ 1000) : Met lau yX7_gapSizeCount wsX7_gapSizeCount ({ frames := 2, cells := 0, slots := 0, locals := 48 }) (P1 G cy [.ref a0, .int (iZ m)] (fun H => H.size = sz ∧ va_P G vwCl (MW cy a0 a1 a2 a3 a4 a5 a6 a7 ed tc ol nl nw nx ps tm od ne pt) H ∧ va_D (fun _ => True) (MW cy a0 a1 a2 a3 a4 a5 a6 a7 ed tc ol nl nw nx ps tm od ne pt))) (Q1 (fun rv H0 H1 => rv = some (.int (iZ (gpR (nw 0) (nw 1) m (-1)))) ∧ (True) ∧ va_P G vwCl (MW cy a0 a1 a2 a3 a4 a5 a6 a7 ed tc ol nl nw nx ps tm od ne (lyP pt (nw 0) (nw 1) m)) H1 ∧ va_D (va_A (MW cy a0 a1 a2 a3 a4 a5 a6 a7 ed tc ol nl nw nx ps tm od ne pt) sz) (MW cy a0 a1 a2 a3 a4 a5 a6 a7 ed tc ol nl nw nx ps tm od ne (lyP pt (nw 0) (nw 1) m)) ∧ Fh (va_A (MW cy a0 a1 a2 a3 a4 a5 a6 a7 ed tc ol nl nw nx ps tm od ne pt) sz) H0 H1)) 0 0 (va_A (MW cy a0 a1 a2 a3 a4 a5 a6 a7 ed tc ol nl nw nx ps tm od ne pt) sz) := by
  refine z_head (lv := [(0, .ref a0), (1, .int (iZ m))]) RX7 (by decide) rfl rfl (Nat.le_of_ble_eq_true rfl) rfl ?_
  intro pr ev s mt below meth cd ls hx hb hr hlocks hml hown hname hts hKK hP hl
  have hK := hKK.1
  obtain ⟨hsz, hP, hD0⟩ := hP
  subst hsz
  have hD := hD0.self (sz := s.heap.size)
  generalize hAe : va_A (MW cy a0 a1 a2 a3 a4 a5 a6 a7 ed tc ol nl nw nx ps tm od ne pt) s.heap.size = A at hD ⊢
  have hA : ∀ q : Nat, s.heap.size ≤ q → A q := fun q h => by rw [← hAe]; exact Or.inr h
  have hS : va_S A s.heap s.heap [] := va_S.rf
  have hP : va_P G vwCl (MW cy a0 a1 a2 a3 a4 a5 a6 a7 ed tc ol nl nw nx ps tm od ne pt) s.heap := hP
  refine lv_iload_n hx hb dX7_gapSizeCount_0 rfl (lv_at hl 1 rfl) ?_
  refine lv_iconst (v := iZ 1) hx hb dX7_gapSizeCount_1 rfl ?_
  refine lv_sipush (v := iZ 1000) hx hb dX7_gapSizeCount_2 (by decide +kernel) ?_
  refine z_calli (va_runS (As := [.int (iZ m), .int (iZ 1), .int (iZ 1000)]) (rest := []) ⟨hx, hb, hml, hown, hts⟩ (c_X7_in lau G cy m 1 1000 (by first | assumption | omega)) (va_cwS 3 hts gX7_gapSizeCount_X7_in rfl rfl rfl (by decide +kernel) ⟨Nat.le_of_ble_eq_true rfl, Nat.le_of_ble_eq_true rfl⟩) ⟨P1_blind, P1_mk hKK (trivial)⟩ rfl rfl hl.1 rfl (lv_room (Nat.le_of_ble_eq_true rfl)) dX7_gapSizeCount_5 ⟨(show 0 + 0 ≤ 0 by omega), (show 0 + 0 ≤ 0 by omega)⟩) ?_
  refine z_ifB_eq (tgt := 20) hx hb dX7_gapSizeCount_8 (by decide) (fun c_8 => ?_) (fun c_8 => ?_)
  · exact absurd h2 c_8
  · refine lv_aload_n hx hb dX7_gapSizeCount_11 rfl (lv_at hl 0 rfl) ?_
    refine lv_iload_n hx hb dX7_gapSizeCount_12 rfl (lv_at hl 1 rfl) ?_
    refine lv_iconst (v := iZ (-1)) hx hb dX7_gapSizeCount_13 rfl ?_
    have hPc := hP.sub (ws' := (MW cy a0 a1 a2 a3 a4 a5 a6 a7 ed tc ol nl nw nx ps tm od ne pt)) [0, 1, 2, 3, 4, 5, 6, 7] rfl
    have hDc := (hD.sub (ws' := (MW cy a0 a1 a2 a3 a4 a5 a6 a7 ed tc ol nl nw nx ps tm od ne pt)) [0, 1, 2, 3, 4, 5, 6, 7] (by decide) rfl).weaken (B := fun _ => True) (fun _ _ _ _ => trivial)
    have hFc := va_free (wc := (MW cy a0 a1 a2 a3 a4 a5 a6 a7 ed tc ol nl nw nx ps tm od ne pt)) hD hS hA [0, 1, 2, 3, 4, 5, 6, 7] rfl
    refine z_callE (A := A) (va_runV (As := [.int (iZ m), .int (iZ (-1))]) (rest := []) ⟨hx, hb, hml, hown, hts⟩ (c_X7_sizeAt lau G cy a0 a1 a2 a3 a4 a5 a6 a7 s.heap.size ed tc ol nl nw nx ps tm od ne pt m (-1) (by first | assumption | omega) (by first | assumption | omega) (by first | assumption | omega) (by first | assumption | omega)) (cwV 2 hts gX7_gapSizeCount_X7_sizeAt rfl rfl rfl (by decide +kernel) ⟨Nat.le_of_ble_eq_true rfl, Nat.le_of_ble_eq_true rfl⟩) ⟨P1_blind, va_recv hK hP (ci := 6) (q0 := 0) rfl rfl, P1_mk hKK (⟨rfl, hPc, hDc⟩)⟩ rfl rfl hl.1 rfl (lv_room (Nat.le_of_ble_eq_true rfl)) dX7_gapSizeCount_14 ⟨(show 0 + 0 ≤ 0 by omega), (show 0 + 0 ≤ 0 by omega)⟩) hS.2.2 hFc (fun v H1 locs1 hR hL1 => ?_)
    obtain ⟨rfl, hq14, hP1, hD1, hF1⟩ := hR
    obtain ⟨hP, hD⟩ := va_join (wr := []) (w1 := (MW cy a0 a1 a2 a3 a4 a5 a6 a7 ed tc ol nl nw nx ps tm od ne (lyP pt (nw 0) (nw 1) m))) hP hD [0, 1, 2, 3, 4, 5, 6, 7] [] rfl rfl (by decide) (by decide) hF1.2 hFc hP1 hD1
    have hS : va_S A s.heap H1 locs1 := Fh.S ((Fh.of hS).tr hF1 (fun q _ h => hFc q h)) hL1
    clear hPc hDc hFc hP1 hD1 hF1 hL1
    generalize H1 = H at hP hS ⊢
    have hP : va_P G vwCl (MW cy a0 a1 a2 a3 a4 a5 a6 a7 ed tc ol nl nw nx ps tm od ne (lyP pt (nw 0) (nw 1) m)) H := hP
    have hD : va_D A (MW cy a0 a1 a2 a3 a4 a5 a6 a7 ed tc ol nl nw nx ps tm od ne (lyP pt (nw 0) (nw 1) m)) := hD
    refine W.eq (g2 := F0 mt 17 ls [.int (iZ (gpR (nw 0) (nw 1) m (-1)))]) rfl ?_
    refine lv_goto (tgt := 21) hx hb dX7_gapSizeCount_17 (by decide) ?_
    exact z_iretE hx hb hr hlocks dX7_gapSizeCount_21 hS.2.2 ⟨(show 0 ≤ 0 by omega), (show 0 ≤ 0 by omega)⟩ ⟨(rfl), (trivial), (hP), (hD), Fh.of hS⟩
set_option maxHeartbeats 4000000 in
set_option maxRecDepth 100000 in
theorem c_X7_gapSize_no (lau : Launch) (G : va_G) (cy : Nat → ClassId) (a0 a1 a2 a3 a4 a5 a6 a7 : Nat) (sz : Nat) (ed tc ol nl : Int) (nw nx ps tm od ne pt : Int → Int) (m : Int) (ix : Int) (h1 : -2147483648 ≤ m ∧ m < 2147483648 ∧ -2147483648 ≤ ix ∧ ix < 2147483648) (h2 : ¬ ((1 ≤ m ∧ m ≤ 1000) ∧ 0 ≤ ix)) : Met lau yX7_gapSize wsX7_gapSize ({ frames := 2, cells := 0, slots := 0, locals := 48 }) (P1 G cy [.ref a0, .int (iZ m), .int (iZ ix)] (fun H => H.size = sz ∧ va_P G vwCl (MW cy a0 a1 a2 a3 a4 a5 a6 a7 ed tc ol nl nw nx ps tm od ne pt) H ∧ va_D (fun _ => True) (MW cy a0 a1 a2 a3 a4 a5 a6 a7 ed tc ol nl nw nx ps tm od ne pt))) (Q1 (fun rv H0 H1 => rv = some (.int (iZ (-1))) ∧ (True) ∧ va_P G vwCl (MW cy a0 a1 a2 a3 a4 a5 a6 a7 ed tc ol nl nw nx ps tm od ne pt) H1 ∧ va_D (va_A (MW cy a0 a1 a2 a3 a4 a5 a6 a7 ed tc ol nl nw nx ps tm od ne pt) sz) (MW cy a0 a1 a2 a3 a4 a5 a6 a7 ed tc ol nl nw nx ps tm od ne pt) ∧ Fh (va_A (MW cy a0 a1 a2 a3 a4 a5 a6 a7 ed tc ol nl nw nx ps tm od ne pt) sz) H0 H1)) 0 0 (va_A (MW cy a0 a1 a2 a3 a4 a5 a6 a7 ed tc ol nl nw nx ps tm od ne pt) sz) := by
  refine z_head (lv := [(0, .ref a0), (1, .int (iZ m)), (2, .int (iZ ix))]) RX7 (by decide) rfl rfl (Nat.le_of_ble_eq_true rfl) rfl ?_
  intro pr ev s mt below meth cd ls hx hb hr hlocks hml hown hname hts hKK hP hl
  have hK := hKK.1
  obtain ⟨hsz, hP, hD0⟩ := hP
  subst hsz
  have hD := hD0.self (sz := s.heap.size)
  generalize hAe : va_A (MW cy a0 a1 a2 a3 a4 a5 a6 a7 ed tc ol nl nw nx ps tm od ne pt) s.heap.size = A at hD ⊢
  have hA : ∀ q : Nat, s.heap.size ≤ q → A q := fun q h => by rw [← hAe]; exact Or.inr h
  have hS : va_S A s.heap s.heap [] := va_S.rf
  have hP : va_P G vwCl (MW cy a0 a1 a2 a3 a4 a5 a6 a7 ed tc ol nl nw nx ps tm od ne pt) s.heap := hP
  refine lv_iload_n hx hb dX7_gapSize_0 rfl (lv_at hl 1 rfl) ?_
  refine lv_iconst (v := iZ 1) hx hb dX7_gapSize_1 rfl ?_
  refine lv_sipush (v := iZ 1000) hx hb dX7_gapSize_2 (by decide +kernel) ?_
  refine z_calli (va_runS (As := [.int (iZ m), .int (iZ 1), .int (iZ 1000)]) (rest := []) ⟨hx, hb, hml, hown, hts⟩ (c_X7_in lau G cy m 1 1000 (by first | assumption | omega)) (va_cwS 3 hts gX7_gapSize_X7_in rfl rfl rfl (by decide +kernel) ⟨Nat.le_of_ble_eq_true rfl, Nat.le_of_ble_eq_true rfl⟩) ⟨P1_blind, P1_mk hKK (trivial)⟩ rfl rfl hl.1 rfl (lv_room (Nat.le_of_ble_eq_true rfl)) dX7_gapSize_5 ⟨(show 0 + 0 ≤ 0 by omega), (show 0 + 0 ≤ 0 by omega)⟩) ?_
  refine z_ifB_eq (tgt := 24) hx hb dX7_gapSize_8 (by decide) (fun c_8 => ?_) (fun c_8 => ?_)
  · refine lv_iconst (v := iZ (-1)) hx hb dX7_gapSize_24 rfl ?_
    exact z_iretE hx hb hr hlocks dX7_gapSize_25 hS.2.2 ⟨(show 0 ≤ 0 by omega), (show 0 ≤ 0 by omega)⟩ ⟨(rfl), (trivial), (hP), (hD), Fh.of hS⟩
  · refine lv_iload_n hx hb dX7_gapSize_11 rfl (lv_at hl 2 rfl) ?_
    refine z_if_lt (tgt := 24) hx hb dX7_gapSize_12 (by decide) (by omega) (fun c_12 => ?_) (fun c_12 => ?_)
    · refine lv_iconst (v := iZ (-1)) hx hb dX7_gapSize_24 rfl ?_
      exact z_iretE hx hb hr hlocks dX7_gapSize_25 hS.2.2 ⟨(show 0 ≤ 0 by omega), (show 0 ≤ 0 by omega)⟩ ⟨(rfl), (trivial), (hP), (hD), Fh.of hS⟩
    · exact absurd ⟨c_8, c_12⟩ h2
set_option maxHeartbeats 4000000 in
set_option maxRecDepth 100000 in
theorem c_X7_gapSize (lau : Launch) (G : va_G) (cy : Nat → ClassId) (a0 a1 a2 a3 a4 a5 a6 a7 : Nat) (sz : Nat) (ed tc ol nl : Int) (nw nx ps tm od ne pt : Int → Int) (m : Int) (ix : Int) (hQ : 0 ≤ nw 0 ∧ nw 0 ≤ nw 1 ∧ 1 ≤ nw 1 ∧ nw 1 ≤ 1000) (hpt : ∀ x, 0 ≤ x → x < 1000 → pt x = 0 ∨ pt x = 1) (h1 : -2147483648 ≤ m ∧ m < 2147483648 ∧ -2147483648 ≤ ix ∧ ix < 2147483648) (h2 : (1 ≤ m ∧ m ≤ 1000) ∧ 0 ≤ ix) : Met lau yX7_gapSize wsX7_gapSize ({ frames := 2, cells := 0, slots := 0, locals := 48 }) (P1 G cy [.ref a0, .int (iZ m), .int (iZ ix)] (fun H => H.size = sz ∧ va_P G vwCl (MW cy a0 a1 a2 a3 a4 a5 a6 a7 ed tc ol nl nw nx ps tm od ne pt) H ∧ va_D (fun _ => True) (MW cy a0 a1 a2 a3 a4 a5 a6 a7 ed tc ol nl nw nx ps tm od ne pt))) (Q1 (fun rv H0 H1 => rv = some (.int (iZ (gpR (nw 0) (nw 1) m ix))) ∧ (True) ∧ va_P G vwCl (MW cy a0 a1 a2 a3 a4 a5 a6 a7 ed tc ol nl nw nx ps tm od ne (lyP pt (nw 0) (nw 1) m)) H1 ∧ va_D (va_A (MW cy a0 a1 a2 a3 a4 a5 a6 a7 ed tc ol nl nw nx ps tm od ne pt) sz) (MW cy a0 a1 a2 a3 a4 a5 a6 a7 ed tc ol nl nw nx ps tm od ne (lyP pt (nw 0) (nw 1) m)) ∧ Fh (va_A (MW cy a0 a1 a2 a3 a4 a5 a6 a7 ed tc ol nl nw nx ps tm od ne pt) sz) H0 H1)) 0 0 (va_A (MW cy a0 a1 a2 a3 a4 a5 a6 a7 ed tc ol nl nw nx ps tm od ne pt) sz) := by
  refine z_head (lv := [(0, .ref a0), (1, .int (iZ m)), (2, .int (iZ ix))]) RX7 (by decide) rfl rfl (Nat.le_of_ble_eq_true rfl) rfl ?_
  intro pr ev s mt below meth cd ls hx hb hr hlocks hml hown hname hts hKK hP hl
  have hK := hKK.1
  obtain ⟨hsz, hP, hD0⟩ := hP
  subst hsz
  have hD := hD0.self (sz := s.heap.size)
  generalize hAe : va_A (MW cy a0 a1 a2 a3 a4 a5 a6 a7 ed tc ol nl nw nx ps tm od ne pt) s.heap.size = A at hD ⊢
  have hA : ∀ q : Nat, s.heap.size ≤ q → A q := fun q h => by rw [← hAe]; exact Or.inr h
  have hS : va_S A s.heap s.heap [] := va_S.rf
  have hP : va_P G vwCl (MW cy a0 a1 a2 a3 a4 a5 a6 a7 ed tc ol nl nw nx ps tm od ne pt) s.heap := hP
  refine lv_iload_n hx hb dX7_gapSize_0 rfl (lv_at hl 1 rfl) ?_
  refine lv_iconst (v := iZ 1) hx hb dX7_gapSize_1 rfl ?_
  refine lv_sipush (v := iZ 1000) hx hb dX7_gapSize_2 (by decide +kernel) ?_
  refine z_calli (va_runS (As := [.int (iZ m), .int (iZ 1), .int (iZ 1000)]) (rest := []) ⟨hx, hb, hml, hown, hts⟩ (c_X7_in lau G cy m 1 1000 (by first | assumption | omega)) (va_cwS 3 hts gX7_gapSize_X7_in rfl rfl rfl (by decide +kernel) ⟨Nat.le_of_ble_eq_true rfl, Nat.le_of_ble_eq_true rfl⟩) ⟨P1_blind, P1_mk hKK (trivial)⟩ rfl rfl hl.1 rfl (lv_room (Nat.le_of_ble_eq_true rfl)) dX7_gapSize_5 ⟨(show 0 + 0 ≤ 0 by omega), (show 0 + 0 ≤ 0 by omega)⟩) ?_
  refine z_ifB_eq (tgt := 24) hx hb dX7_gapSize_8 (by decide) (fun c_8 => ?_) (fun c_8 => ?_)
  · exact absurd h2.1 c_8
  · refine lv_iload_n hx hb dX7_gapSize_11 rfl (lv_at hl 2 rfl) ?_
    refine z_if_lt (tgt := 24) hx hb dX7_gapSize_12 (by decide) (by omega) (fun c_12 => ?_) (fun c_12 => ?_)
    · exfalso; omega
    · refine lv_aload_n hx hb dX7_gapSize_15 rfl (lv_at hl 0 rfl) ?_
      refine lv_iload_n hx hb dX7_gapSize_16 rfl (lv_at hl 1 rfl) ?_
      refine lv_iload_n hx hb dX7_gapSize_17 rfl (lv_at hl 2 rfl) ?_
      have hPc := hP.sub (ws' := (MW cy a0 a1 a2 a3 a4 a5 a6 a7 ed tc ol nl nw nx ps tm od ne pt)) [0, 1, 2, 3, 4, 5, 6, 7] rfl
      have hDc := (hD.sub (ws' := (MW cy a0 a1 a2 a3 a4 a5 a6 a7 ed tc ol nl nw nx ps tm od ne pt)) [0, 1, 2, 3, 4, 5, 6, 7] (by decide) rfl).weaken (B := fun _ => True) (fun _ _ _ _ => trivial)
      have hFc := va_free (wc := (MW cy a0 a1 a2 a3 a4 a5 a6 a7 ed tc ol nl nw nx ps tm od ne pt)) hD hS hA [0, 1, 2, 3, 4, 5, 6, 7] rfl
      refine z_callE (A := A) (va_runV (As := [.int (iZ m), .int (iZ ix)]) (rest := []) ⟨hx, hb, hml, hown, hts⟩ (c_X7_sizeAt lau G cy a0 a1 a2 a3 a4 a5 a6 a7 s.heap.size ed tc ol nl nw nx ps tm od ne pt m ix (by first | assumption | omega) (by first | assumption | omega) (by first | assumption | omega) (by first | assumption | omega)) (cwV 2 hts gX7_gapSize_X7_sizeAt rfl rfl rfl (by decide +kernel) ⟨Nat.le_of_ble_eq_true rfl, Nat.le_of_ble_eq_true rfl⟩) ⟨P1_blind, va_recv hK hP (ci := 6) (q0 := 0) rfl rfl, P1_mk hKK (⟨rfl, hPc, hDc⟩)⟩ rfl rfl hl.1 rfl (lv_room (Nat.le_of_ble_eq_true rfl)) dX7_gapSize_18 ⟨(show 0 + 0 ≤ 0 by omega), (show 0 + 0 ≤ 0 by omega)⟩) hS.2.2 hFc (fun v H1 locs1 hR hL1 => ?_)
      obtain ⟨rfl, hq18, hP1, hD1, hF1⟩ := hR
      obtain ⟨hP, hD⟩ := va_join (wr := []) (w1 := (MW cy a0 a1 a2 a3 a4 a5 a6 a7 ed tc ol nl nw nx ps tm od ne (lyP pt (nw 0) (nw 1) m))) hP hD [0, 1, 2, 3, 4, 5, 6, 7] [] rfl rfl (by decide) (by decide) hF1.2 hFc hP1 hD1
      have hS : va_S A s.heap H1 locs1 := Fh.S ((Fh.of hS).tr hF1 (fun q _ h => hFc q h)) hL1
      clear hPc hDc hFc hP1 hD1 hF1 hL1
      generalize H1 = H at hP hS ⊢
      have hP : va_P G vwCl (MW cy a0 a1 a2 a3 a4 a5 a6 a7 ed tc ol nl nw nx ps tm od ne (lyP pt (nw 0) (nw 1) m)) H := hP
      have hD : va_D A (MW cy a0 a1 a2 a3 a4 a5 a6 a7 ed tc ol nl nw nx ps tm od ne (lyP pt (nw 0) (nw 1) m)) := hD
      refine W.eq (g2 := F0 mt 21 ls [.int (iZ (gpR (nw 0) (nw 1) m ix))]) rfl ?_
      refine lv_goto (tgt := 25) hx hb dX7_gapSize_21 (by decide) ?_
      exact z_iretE hx hb hr hlocks dX7_gapSize_25 hS.2.2 ⟨(show 0 ≤ 0 by omega), (show 0 ≤ 0 by omega)⟩ ⟨(rfl), (trivial), (hP), (hD), Fh.of hS⟩
set_option maxHeartbeats 4000000 in
set_option maxRecDepth 100000 in
theorem c_X7_gapsOfSize_no (lau : Launch) (G : va_G) (cy : Nat → ClassId) (a0 a1 a2 a3 a4 a5 a6 a7 : Nat) (sz : Nat) (ed tc ol nl : Int) (nw nx ps tm od ne pt : Int → Int) (m : Int) (z : Int) (h1 : -2147483648 ≤ m ∧ m < 2147483648 ∧ -2147483648 ≤ z ∧ z < 2147483648) (h2 : ¬ ((1 ≤ m ∧ m ≤ 1000) ∧ 1 ≤ z)) : Met lau yX7_gapsOfSize wsX7_gapsOfSize ({ frames := 1, cells := 0, slots := 0, locals := 24 }) (P1 G cy [.ref a0, .int (iZ m), .int (iZ z)] (fun H => H.size = sz ∧ va_P G vwCl (MW cy a0 a1 a2 a3 a4 a5 a6 a7 ed tc ol nl nw nx ps tm od ne pt) H ∧ va_D (fun _ => True) (MW cy a0 a1 a2 a3 a4 a5 a6 a7 ed tc ol nl nw nx ps tm od ne pt))) (Q1 (fun rv H0 H1 => rv = some (.int (iZ (-1))) ∧ (True) ∧ va_P G vwCl (MW cy a0 a1 a2 a3 a4 a5 a6 a7 ed tc ol nl nw nx ps tm od ne pt) H1 ∧ va_D (va_A (MW cy a0 a1 a2 a3 a4 a5 a6 a7 ed tc ol nl nw nx ps tm od ne pt) sz) (MW cy a0 a1 a2 a3 a4 a5 a6 a7 ed tc ol nl nw nx ps tm od ne pt) ∧ Fh (va_A (MW cy a0 a1 a2 a3 a4 a5 a6 a7 ed tc ol nl nw nx ps tm od ne pt) sz) H0 H1)) 0 0 (va_A (MW cy a0 a1 a2 a3 a4 a5 a6 a7 ed tc ol nl nw nx ps tm od ne pt) sz) := by
  refine z_head (lv := [(0, .ref a0), (1, .int (iZ m)), (2, .int (iZ z))]) RX7 (by decide) rfl rfl (Nat.le_of_ble_eq_true rfl) rfl ?_
  intro pr ev s mt below meth cd ls hx hb hr hlocks hml hown hname hts hKK hP hl
  have hK := hKK.1
  obtain ⟨hsz, hP, hD0⟩ := hP
  subst hsz
  have hD := hD0.self (sz := s.heap.size)
  generalize hAe : va_A (MW cy a0 a1 a2 a3 a4 a5 a6 a7 ed tc ol nl nw nx ps tm od ne pt) s.heap.size = A at hD ⊢
  have hA : ∀ q : Nat, s.heap.size ≤ q → A q := fun q h => by rw [← hAe]; exact Or.inr h
  have hS : va_S A s.heap s.heap [] := va_S.rf
  have hP : va_P G vwCl (MW cy a0 a1 a2 a3 a4 a5 a6 a7 ed tc ol nl nw nx ps tm od ne pt) s.heap := hP
  refine lv_iload_n hx hb dX7_gapsOfSize_0 rfl (lv_at hl 1 rfl) ?_
  refine lv_iconst (v := iZ 1) hx hb dX7_gapsOfSize_1 rfl ?_
  refine lv_sipush (v := iZ 1000) hx hb dX7_gapsOfSize_2 (by decide +kernel) ?_
  refine z_calli (va_runS (As := [.int (iZ m), .int (iZ 1), .int (iZ 1000)]) (rest := []) ⟨hx, hb, hml, hown, hts⟩ (c_X7_in lau G cy m 1 1000 (by first | assumption | omega)) (va_cwS 3 hts gX7_gapsOfSize_X7_in rfl rfl rfl (by decide +kernel) ⟨Nat.le_of_ble_eq_true rfl, Nat.le_of_ble_eq_true rfl⟩) ⟨P1_blind, P1_mk hKK (trivial)⟩ rfl rfl hl.1 rfl (lv_room (Nat.le_of_ble_eq_true rfl)) dX7_gapsOfSize_5 ⟨(show 0 + 0 ≤ 0 by omega), (show 0 + 0 ≤ 0 by omega)⟩) ?_
  refine z_ifB_eq (tgt := 16) hx hb dX7_gapsOfSize_8 (by decide) (fun c_8 => ?_) (fun c_8 => ?_)
  · refine lv_iconst (v := iZ (-1)) hx hb dX7_gapsOfSize_16 rfl ?_
    exact z_iretE hx hb hr hlocks dX7_gapsOfSize_17 hS.2.2 ⟨(show 0 ≤ 0 by omega), (show 0 ≤ 0 by omega)⟩ ⟨(rfl), (trivial), (hP), (hD), Fh.of hS⟩
  · refine lv_iload_n hx hb dX7_gapsOfSize_11 rfl (lv_at hl 2 rfl) ?_
    refine lv_iconst (v := iZ 1) hx hb dX7_gapsOfSize_12 rfl ?_
    refine z_icmp_ge (tgt := 18) hx hb dX7_gapsOfSize_13 (by decide) (by omega) (fun c_13 => ?_) (fun c_13 => ?_)
    · exact absurd ⟨c_8, c_13⟩ h2
    · refine lv_iconst (v := iZ (-1)) hx hb dX7_gapsOfSize_16 rfl ?_
      exact z_iretE hx hb hr hlocks dX7_gapsOfSize_17 hS.2.2 ⟨(show 0 ≤ 0 by omega), (show 0 ≤ 0 by omega)⟩ ⟨(rfl), (trivial), (hP), (hD), Fh.of hS⟩
set_option maxHeartbeats 4000000 in
set_option maxRecDepth 100000 in
theorem c_X7_gapsOfSize (lau : Launch) (G : va_G) (cy : Nat → ClassId) (a0 a1 a2 a3 a4 a5 a6 a7 : Nat) (sz : Nat) (ed tc ol nl : Int) (nw nx ps tm od ne pt : Int → Int) (m : Int) (z : Int) (hQ : 0 ≤ nw 0 ∧ nw 0 ≤ nw 1 ∧ 1 ≤ nw 1 ∧ nw 1 ≤ 1000) (hpt : ∀ x, 0 ≤ x → x < 1000 → pt x = 0 ∨ pt x = 1) (h1 : -2147483648 ≤ m ∧ m < 2147483648 ∧ -2147483648 ≤ z ∧ z < 2147483648) (h2 : (1 ≤ m ∧ m ≤ 1000) ∧ 1 ≤ z) : Met lau yX7_gapsOfSize wsX7_gapsOfSize ({ frames := 1, cells := 0, slots := 0, locals := 24 }) (P1 G cy [.ref a0, .int (iZ m), .int (iZ z)] (fun H => H.size = sz ∧ va_P G vwCl (MW cy a0 a1 a2 a3 a4 a5 a6 a7 ed tc ol nl nw nx ps tm od ne pt) H ∧ va_D (fun _ => True) (MW cy a0 a1 a2 a3 a4 a5 a6 a7 ed tc ol nl nw nx ps tm od ne pt))) (Q1 (fun rv H0 H1 => rv = some (.int (iZ (gpN (nw 0) (nw 1) m z))) ∧ (True) ∧ va_P G vwCl (MW cy a0 a1 a2 a3 a4 a5 a6 a7 ed tc ol nl nw nx ps tm od ne (lyP pt (nw 0) (nw 1) m)) H1 ∧ va_D (va_A (MW cy a0 a1 a2 a3 a4 a5 a6 a7 ed tc ol nl nw nx ps tm od ne pt) sz) (MW cy a0 a1 a2 a3 a4 a5 a6 a7 ed tc ol nl nw nx ps tm od ne (lyP pt (nw 0) (nw 1) m)) ∧ Fh (va_A (MW cy a0 a1 a2 a3 a4 a5 a6 a7 ed tc ol nl nw nx ps tm od ne pt) sz) H0 H1)) 0 0 (va_A (MW cy a0 a1 a2 a3 a4 a5 a6 a7 ed tc ol nl nw nx ps tm od ne pt) sz) := by
  refine z_head (lv := [(0, .ref a0), (1, .int (iZ m)), (2, .int (iZ z))]) RX7 (by decide) rfl rfl (Nat.le_of_ble_eq_true rfl) rfl ?_
  intro pr ev s mt below meth cd ls hx hb hr hlocks hml hown hname hts hKK hP hl
  have hK := hKK.1
  obtain ⟨hsz, hP, hD0⟩ := hP
  subst hsz
  have hD := hD0.self (sz := s.heap.size)
  generalize hAe : va_A (MW cy a0 a1 a2 a3 a4 a5 a6 a7 ed tc ol nl nw nx ps tm od ne pt) s.heap.size = A at hD ⊢
  have hA : ∀ q : Nat, s.heap.size ≤ q → A q := fun q h => by rw [← hAe]; exact Or.inr h
  have hS : va_S A s.heap s.heap [] := va_S.rf
  have hP : va_P G vwCl (MW cy a0 a1 a2 a3 a4 a5 a6 a7 ed tc ol nl nw nx ps tm od ne pt) s.heap := hP
  refine lv_iload_n hx hb dX7_gapsOfSize_0 rfl (lv_at hl 1 rfl) ?_
  refine lv_iconst (v := iZ 1) hx hb dX7_gapsOfSize_1 rfl ?_
  refine lv_sipush (v := iZ 1000) hx hb dX7_gapsOfSize_2 (by decide +kernel) ?_
  refine z_calli (va_runS (As := [.int (iZ m), .int (iZ 1), .int (iZ 1000)]) (rest := []) ⟨hx, hb, hml, hown, hts⟩ (c_X7_in lau G cy m 1 1000 (by first | assumption | omega)) (va_cwS 3 hts gX7_gapsOfSize_X7_in rfl rfl rfl (by decide +kernel) ⟨Nat.le_of_ble_eq_true rfl, Nat.le_of_ble_eq_true rfl⟩) ⟨P1_blind, P1_mk hKK (trivial)⟩ rfl rfl hl.1 rfl (lv_room (Nat.le_of_ble_eq_true rfl)) dX7_gapsOfSize_5 ⟨(show 0 + 0 ≤ 0 by omega), (show 0 + 0 ≤ 0 by omega)⟩) ?_
  refine z_ifB_eq (tgt := 16) hx hb dX7_gapsOfSize_8 (by decide) (fun c_8 => ?_) (fun c_8 => ?_)
  · exact absurd h2.1 c_8
  · refine lv_iload_n hx hb dX7_gapsOfSize_11 rfl (lv_at hl 2 rfl) ?_
    refine lv_iconst (v := iZ 1) hx hb dX7_gapsOfSize_12 rfl ?_
    refine z_icmp_ge (tgt := 18) hx hb dX7_gapsOfSize_13 (by decide) (by omega) (fun c_13 => ?_) (fun c_13 => ?_)
    · refine lv_aload_n hx hb dX7_gapsOfSize_18 rfl (lv_at hl 0 rfl) ?_
      refine lv_iload_n hx hb dX7_gapsOfSize_19 rfl (lv_at hl 1 rfl) ?_
      have hPc := hP.sub (ws' := (MW cy a0 a1 a2 a3 a4 a5 a6 a7 ed tc ol nl nw nx ps tm od ne pt)) [0, 1, 2, 3, 4, 5, 6, 7] rfl
      have hDc := (hD.sub (ws' := (MW cy a0 a1 a2 a3 a4 a5 a6 a7 ed tc ol nl nw nx ps tm od ne pt)) [0, 1, 2, 3, 4, 5, 6, 7] (by decide) rfl).weaken (B := fun _ => True) (fun _ _ _ _ => trivial)
      have hFc := va_free (wc := (MW cy a0 a1 a2 a3 a4 a5 a6 a7 ed tc ol nl nw nx ps tm od ne pt)) hD hS hA [0, 1, 2, 3, 4, 5, 6, 7] rfl
      refine z_callE (A := A) (va_runV (As := [.int (iZ m)]) (rest := []) ⟨hx, hb, hml, hown, hts⟩ (c_X7_layPoints lau G cy a0 a1 a2 a3 a4 a5 a6 a7 s.heap.size ed tc ol nl nw nx ps tm od ne pt m (by first | assumption | omega) (by first | assumption | omega) (by first | assumption | omega)) (cwV 1 hts gX7_gapsOfSize_X7_layPoints rfl rfl rfl (by decide +kernel) ⟨Nat.le_of_ble_eq_true rfl, Nat.le_of_ble_eq_true rfl⟩) ⟨P1_blind, va_recv hK hP (ci := 6) (q0 := 0) rfl rfl, P1_mk hKK (⟨rfl, hPc, hDc⟩)⟩ rfl rfl hl.1 rfl (lv_room (Nat.le_of_ble_eq_true rfl)) dX7_gapsOfSize_20 ⟨(show 0 + 0 ≤ 0 by omega), (show 0 + 0 ≤ 0 by omega)⟩) hS.2.2 hFc (fun v H1 locs1 hR hL1 => ?_)
      obtain ⟨rfl, hq20, hP1, hD1, hF1⟩ := hR
      obtain ⟨hP, hD⟩ := va_join (wr := []) (w1 := (MW cy a0 a1 a2 a3 a4 a5 a6 a7 ed tc ol nl nw nx ps tm od ne (lyP pt (nw 0) (nw 1) m))) hP hD [0, 1, 2, 3, 4, 5, 6, 7] [] rfl rfl (by decide) (by decide) hF1.2 hFc hP1 hD1
      have hS : va_S A s.heap H1 locs1 := Fh.S ((Fh.of hS).tr hF1 (fun q _ h => hFc q h)) hL1
      clear hPc hDc hFc hP1 hD1 hF1 hL1
      generalize H1 = H at hP hS ⊢
      have hP : va_P G vwCl (MW cy a0 a1 a2 a3 a4 a5 a6 a7 ed tc ol nl nw nx ps tm od ne (lyP pt (nw 0) (nw 1) m)) H := hP
      have hD : va_D A (MW cy a0 a1 a2 a3 a4 a5 a6 a7 ed tc ol nl nw nx ps tm od ne (lyP pt (nw 0) (nw 1) m)) := hD
      refine W.eq (g2 := F0 mt 23 ls []) rfl ?_
      refine lv_aload_n hx hb dX7_gapsOfSize_23 rfl (lv_at hl 0 rfl) ?_
      refine lv_iload_n hx hb dX7_gapsOfSize_24 rfl (lv_at hl 2 rfl) ?_
      have hlb := lyP_b (p := nw 0) (q := nw 1) (m := m) hpt
      refine z_calli (va_runV (As := [.int (iZ z)]) (rest := []) ⟨hx, hb, hml, hown, hts⟩ (c_X7_gapsWith lau G cy a0 a1 a2 a3 a4 a5 a6 a7 ed tc ol nl nw (lyP pt (nw 0) (nw 1) m) z (by first | assumption | omega) (hlb) (by first | assumption | omega)) (cwV 1 hts gX7_gapsOfSize_X7_gapsWith rfl rfl rfl (by decide +kernel) ⟨Nat.le_of_ble_eq_true rfl, Nat.le_of_ble_eq_true rfl⟩) ⟨P1_blind, va_recv hK hP (ci := 6) (q0 := 0) rfl rfl, P1_mk hKK (hP.sub [0, 1, 7] rfl)⟩ rfl rfl hl.1 rfl (lv_room (Nat.le_of_ble_eq_true rfl)) dX7_gapsOfSize_25 ⟨(show 0 + 0 ≤ 0 by omega), (show 0 + 0 ≤ 0 by omega)⟩) ?_
      exact z_iretE hx hb hr hlocks dX7_gapsOfSize_28 hS.2.2 ⟨(show 0 ≤ 0 by omega), (show 0 ≤ 0 by omega)⟩ ⟨(sI (gpN_e (by omega))), (trivial), (hP), (hD), Fh.of hS⟩
    · exfalso; omega
