set_option maxHeartbeats 4000000 in
set_option maxRecDepth 100000 in
theorem c_X7_loadMechanical_no (lau : Launch) (G : va_G) (cy : Nat → ClassId) (a0 a1 a2 a3 a4 a5 a6 a7 : Nat) (sz : Nat) (ed tc ol nl : Int) (nw nx ps tm od ne pt : Int → Int) (ln up : Int) (h1 : -2147483648 ≤ ln ∧ ln < 2147483648) (h2 : ln < 0) : Met lau yX7_loadMechanical wsX7_loadMechanical ({ frames := 3, cells := 0, slots := 0, locals := 65 }) (P1 G cy [.ref a0, .int (iZ ln), .int (iZ up)] (fun H => H.size = sz ∧ va_P G vwCl (MW cy a0 a1 a2 a3 a4 a5 a6 a7 ed tc ol nl nw nx ps tm od ne pt) H ∧ va_D (fun _ => True) (MW cy a0 a1 a2 a3 a4 a5 a6 a7 ed tc ol nl nw nx ps tm od ne pt))) (Q1 (fun rv H0 H1 => rv = some (.int (iZ (-1))) ∧ (True) ∧ va_P G vwCl (MW cy a0 a1 a2 a3 a4 a5 a6 a7 ed tc ol nl nw nx ps tm od ne pt) H1 ∧ va_D (va_A (MW cy a0 a1 a2 a3 a4 a5 a6 a7 ed tc ol nl nw nx ps tm od ne pt) sz) (MW cy a0 a1 a2 a3 a4 a5 a6 a7 ed tc ol nl nw nx ps tm od ne pt) ∧ Fh (va_A (MW cy a0 a1 a2 a3 a4 a5 a6 a7 ed tc ol nl nw nx ps tm od ne pt) sz) H0 H1)) 0 0 (va_A (MW cy a0 a1 a2 a3 a4 a5 a6 a7 ed tc ol nl nw nx ps tm od ne pt) sz) := by
  refine z_head (lv := [(0, .ref a0), (1, .int (iZ ln)), (2, .int (iZ up))]) RX7 (by decide) rfl rfl (Nat.le_of_ble_eq_true rfl) rfl ?_
  intro pr ev s mt below meth cd ls hx hb hr hlocks hml hown hname hts hKK hP hl
  have hK := hKK.1
  obtain ⟨hsz, hP, hD0⟩ := hP
  subst hsz
  have hD := hD0.self (sz := s.heap.size)
  generalize hAe : va_A (MW cy a0 a1 a2 a3 a4 a5 a6 a7 ed tc ol nl nw nx ps tm od ne pt) s.heap.size = A at hD ⊢
  have hA : ∀ q : Nat, s.heap.size ≤ q → A q := fun q h => by rw [← hAe]; exact Or.inr h
  have hS : va_S A s.heap s.heap [] := va_S.rf
  have hP : va_P G vwCl (MW cy a0 a1 a2 a3 a4 a5 a6 a7 ed tc ol nl nw nx ps tm od ne pt) s.heap := hP
  refine lv_iload_n hx hb dX7_loadMechanical_0 rfl (lv_at hl 1 rfl) ?_
  refine z_if_ge (tgt := 6) hx hb dX7_loadMechanical_1 (by decide) (by omega) (fun c_1 => ?_) (fun c_1 => ?_)
  · exfalso; omega
  · refine lv_iconst (v := iZ (-1)) hx hb dX7_loadMechanical_4 rfl ?_
    exact z_iretE hx hb hr hlocks dX7_loadMechanical_5 hS.2.2 ⟨(show 0 ≤ 0 by omega), (show 0 ≤ 0 by omega)⟩ ⟨(rfl), (trivial), (hP), (hD), Fh.of hS⟩
set_option maxHeartbeats 4000000 in
set_option maxRecDepth 100000 in
theorem c_X7_loadMechanical_no2 (lau : Launch) (G : va_G) (cy : Nat → ClassId) (a0 a1 a2 a3 a4 a5 a6 a7 : Nat) (sz : Nat) (ed tc ol nl : Int) (nw nx ps tm od ne pt : Int → Int) (ln up : Int) (h1 : -2147483648 ≤ ln ∧ ln < 2147483648) (h2 : 60 < ln) : Met lau yX7_loadMechanical wsX7_loadMechanical ({ frames := 3, cells := 0, slots := 0, locals := 65 }) (P1 G cy [.ref a0, .int (iZ ln), .int (iZ up)] (fun H => H.size = sz ∧ va_P G vwCl (MW cy a0 a1 a2 a3 a4 a5 a6 a7 ed tc ol nl nw nx ps tm od ne pt) H ∧ va_D (fun _ => True) (MW cy a0 a1 a2 a3 a4 a5 a6 a7 ed tc ol nl nw nx ps tm od ne pt))) (Q1 (fun rv H0 H1 => rv = some (.int (iZ (-2))) ∧ (True) ∧ va_P G vwCl (MW cy a0 a1 a2 a3 a4 a5 a6 a7 ed tc ol nl nw nx ps tm od ne pt) H1 ∧ va_D (va_A (MW cy a0 a1 a2 a3 a4 a5 a6 a7 ed tc ol nl nw nx ps tm od ne pt) sz) (MW cy a0 a1 a2 a3 a4 a5 a6 a7 ed tc ol nl nw nx ps tm od ne pt) ∧ Fh (va_A (MW cy a0 a1 a2 a3 a4 a5 a6 a7 ed tc ol nl nw nx ps tm od ne pt) sz) H0 H1)) 0 0 (va_A (MW cy a0 a1 a2 a3 a4 a5 a6 a7 ed tc ol nl nw nx ps tm od ne pt) sz) := by
  refine z_head (lv := [(0, .ref a0), (1, .int (iZ ln)), (2, .int (iZ up))]) RX7 (by decide) rfl rfl (Nat.le_of_ble_eq_true rfl) rfl ?_
  intro pr ev s mt below meth cd ls hx hb hr hlocks hml hown hname hts hKK hP hl
  have hK := hKK.1
  obtain ⟨hsz, hP, hD0⟩ := hP
  subst hsz
  have hD := hD0.self (sz := s.heap.size)
  generalize hAe : va_A (MW cy a0 a1 a2 a3 a4 a5 a6 a7 ed tc ol nl nw nx ps tm od ne pt) s.heap.size = A at hD ⊢
  have hA : ∀ q : Nat, s.heap.size ≤ q → A q := fun q h => by rw [← hAe]; exact Or.inr h
  have hS : va_S A s.heap s.heap [] := va_S.rf
  have hP : va_P G vwCl (MW cy a0 a1 a2 a3 a4 a5 a6 a7 ed tc ol nl nw nx ps tm od ne pt) s.heap := hP
  refine lv_iload_n hx hb dX7_loadMechanical_0 rfl (lv_at hl 1 rfl) ?_
  refine z_if_ge (tgt := 6) hx hb dX7_loadMechanical_1 (by decide) (by omega) (fun c_1 => ?_) (fun c_1 => ?_)
  · refine lv_iload_n hx hb dX7_loadMechanical_6 rfl (lv_at hl 1 rfl) ?_
    refine lv_bipush (v := iZ 60) hx hb dX7_loadMechanical_7 (by decide +kernel) ?_
    refine z_icmp_le (tgt := 15) hx hb dX7_loadMechanical_9 (by decide) (by omega) (fun c_9 => ?_) (fun c_9 => ?_)
    · exfalso; omega
    · refine lv_bipush (v := iZ (-2)) hx hb dX7_loadMechanical_12 (by decide +kernel) ?_
      exact z_iretE hx hb hr hlocks dX7_loadMechanical_14 hS.2.2 ⟨(show 0 ≤ 0 by omega), (show 0 ≤ 0 by omega)⟩ ⟨(rfl), (trivial), (hP), (hD), Fh.of hS⟩
  · exfalso; omega
set_option maxHeartbeats 4000000 in
set_option maxRecDepth 100000 in
theorem c_X7_loadMechanical (lau : Launch) (G : va_G) (cy : Nat → ClassId) (a0 a1 a2 a3 a4 a5 a6 a7 : Nat) (sz : Nat) (ed tc ol nl : Int) (nw nx ps tm od ne pt : Int → Int) (ln up : Int) (he : 0 ≤ ed ∧ ed ≤ 6) (hQ : 0 ≤ nw 0 ∧ nw 0 ≤ nw 1 ∧ 1 ≤ nw 1 ∧ nw 1 ≤ 1000 ∧ 0 ≤ nw 2 ∧ nw 2 < nw 1) (h2 : 0 ≤ ln ∧ ln ≤ 60) (hu : 0 ≤ up ∧ up ≤ 1) : Met lau yX7_loadMechanical wsX7_loadMechanical ({ frames := 3, cells := 0, slots := 0, locals := 65 }) (P1 G cy [.ref a0, .int (iZ ln), .int (iZ up)] (fun H => H.size = sz ∧ va_P G vwCl (MW cy a0 a1 a2 a3 a4 a5 a6 a7 ed tc ol nl nw nx ps tm od ne pt) H ∧ va_D (fun _ => True) (MW cy a0 a1 a2 a3 a4 a5 a6 a7 ed tc ol nl nw nx ps tm od ne pt))) (Q1 (fun rv H0 H1 => rv = some (.int (iZ (smW (tkW (lmX nx (nw 0) (nw 1) (nw 2) up ln ln) nw) 0 ((tkW (lmX nx (nw 0) (nw 1) (nw 2) up ln ln) nw) 3)))) ∧ (True) ∧ va_P G vwCl (MW cy a0 a1 a2 a3 a4 a5 a6 a7 (svE ed) tc ol nl (tkW (lmX nx (nw 0) (nw 1) (nw 2) up ln ln) nw) (tkX (lmX nx (nw 0) (nw 1) (nw 2) up ln ln) nw) (svP ps nw ed) tm od ne pt) H1 ∧ va_D (va_A (MW cy a0 a1 a2 a3 a4 a5 a6 a7 ed tc ol nl nw nx ps tm od ne pt) sz) (MW cy a0 a1 a2 a3 a4 a5 a6 a7 (svE ed) tc ol nl (tkW (lmX nx (nw 0) (nw 1) (nw 2) up ln ln) nw) (tkX (lmX nx (nw 0) (nw 1) (nw 2) up ln ln) nw) (svP ps nw ed) tm od ne pt) ∧ Fh (va_A (MW cy a0 a1 a2 a3 a4 a5 a6 a7 ed tc ol nl nw nx ps tm od ne pt) sz) H0 H1)) 0 0 (va_A (MW cy a0 a1 a2 a3 a4 a5 a6 a7 ed tc ol nl nw nx ps tm od ne pt) sz) := by
  refine z_head (lv := [(0, .ref a0), (1, .int (iZ ln)), (2, .int (iZ up))]) RX7 (by decide) rfl rfl (Nat.le_of_ble_eq_true rfl) rfl ?_
  intro pr ev s mt below meth cd ls hx hb hr hlocks hml hown hname hts hKK hP hl
  have hK := hKK.1
  obtain ⟨hsz, hP, hD0⟩ := hP
  subst hsz
  have hD := hD0.self (sz := s.heap.size)
  generalize hAe : va_A (MW cy a0 a1 a2 a3 a4 a5 a6 a7 ed tc ol nl nw nx ps tm od ne pt) s.heap.size = A at hD ⊢
  have hA : ∀ q : Nat, s.heap.size ≤ q → A q := fun q h => by rw [← hAe]; exact Or.inr h
  have hS : va_S A s.heap s.heap [] := va_S.rf
  have hP : va_P G vwCl (MW cy a0 a1 a2 a3 a4 a5 a6 a7 ed tc ol nl nw nx ps tm od ne pt) s.heap := hP
  refine lv_iload_n hx hb dX7_loadMechanical_0 rfl (lv_at hl 1 rfl) ?_
  refine z_if_ge (tgt := 6) hx hb dX7_loadMechanical_1 (by decide) (by omega) (fun c_1 => ?_) (fun c_1 => ?_)
  · refine lv_iload_n hx hb dX7_loadMechanical_6 rfl (lv_at hl 1 rfl) ?_
    refine lv_bipush (v := iZ 60) hx hb dX7_loadMechanical_7 (by decide +kernel) ?_
    refine z_icmp_le (tgt := 15) hx hb dX7_loadMechanical_9 (by decide) (by omega) (fun c_9 => ?_) (fun c_9 => ?_)
    · refine lv_aload_n hx hb dX7_loadMechanical_15 rfl (lv_at hl 0 rfl) ?_
      refine va_get (D := G) (ci := 6) (v := .ref a2) (C := RX7) (T := TX7) (N := 11) hx hb hts (by decide +kernel) hown hK hP 0 rfl rfl 1 (by decide) (hts (.fieldLink RX7 13 "SturmianWordsModel" "next" "[I") (by decide +kernel)) (fun _ h9 => h9) rfl dX7_loadMechanical_16 ?_
      refine lv_iconst (v := iZ 3) hx hb dX7_loadMechanical_19 rfl ?_
      refine lv_iload_n hx hb dX7_loadMechanical_20 rfl (lv_at hl 1 rfl) ?_
      refine z_iast (D := G) hx hb hK hP hD hS 2 0 rfl rfl (by omega) dX7_loadMechanical_21 (fun H locs hP hD hS => ?_)
      have hP : va_P G vwCl (MW cy a0 a1 a2 a3 a4 a5 a6 a7 ed tc ol nl nw (up1 nx 3 ln) ps tm od ne pt) H := hP
      have hD : va_D A (MW cy a0 a1 a2 a3 a4 a5 a6 a7 ed tc ol nl nw (up1 nx 3 ln) ps tm od ne pt) := hD
      refine lv_iconst (v := iZ 0) hx hb dX7_loadMechanical_22 rfl ?_
      refine lv_istore_n (lv' := [(3, .int (iZ 0)), (0, .ref a0), (1, .int (iZ ln)), (2, .int (iZ up))]) hx hb dX7_loadMechanical_23 rfl hl (by decide) rfl (fun ls hl => ?_)
      rw [← lmX_0 nx (nw 0) (nw 1) (nw 2) up ln] at hP hD
      refine z_loopH1 (nL := 4) (A := A) (fun (k : Int) => [(0, .ref a0), (1, .int (iZ ln)), (2, .int (iZ up)), (3, .int (iZ k))]) (fun (k : Int) (H : Heap) => ((0 ≤ k ∧ k ≤ ln)) ∧ va_P G vwCl (MW cy a0 a1 a2 a3 a4 a5 a6 a7 ed tc ol nl nw (lmX nx (nw 0) (nw 1) (nw 2) up ln k) ps tm od ne pt) H ∧ va_D A (MW cy a0 a1 a2 a3 a4 a5 a6 a7 ed tc ol nl nw (lmX nx (nw 0) (nw 1) (nw 2) up ln k) ps tm od ne pt) ∧ Fh A s.heap H) (fun (k : Int) => ln - k) (fun (k : Int) => 0) (fun (k : Int) => 0) (a1 := 0) ⟨(by omega), hP, hD, Fh.of hS⟩ hS.2.2 (lv_sub hl [1, 2, 3, 0] rfl) ?_
      rintro k H locs ⟨i1, hP, hD, hFr⟩ hLc ih_24 ls hl
      have hS : va_S A s.heap H locs := Fh.S hFr hLc
      refine lv_iload_n hx hb dX7_loadMechanical_24 rfl (lv_at hl 3 rfl) ?_
      refine lv_iload_n hx hb dX7_loadMechanical_25 rfl (lv_at hl 1 rfl) ?_
      refine z_icmp_ge (tgt := 49) hx hb dX7_loadMechanical_26 (by decide) (by omega) (fun c_26 => ?_) (fun c_26 => ?_)
      · rw [show k = ln by omega] at hP hD
        refine lv_aload_n hx hb dX7_loadMechanical_49 rfl (lv_at hl 0 rfl) ?_
        have hPc := hP.sub (ws' := (MW cy a0 a1 a2 a3 a4 a5 a6 a7 ed tc ol nl nw (lmX nx (nw 0) (nw 1) (nw 2) up ln ln) ps tm od ne pt)) [0, 1, 2, 3, 4, 5, 6, 7] rfl
        have hDc := (hD.sub (ws' := (MW cy a0 a1 a2 a3 a4 a5 a6 a7 ed tc ol nl nw (lmX nx (nw 0) (nw 1) (nw 2) up ln ln) ps tm od ne pt)) [0, 1, 2, 3, 4, 5, 6, 7] (by decide) rfl).weaken (B := fun _ => True) (fun _ _ _ _ => trivial)
        have hFc := va_free (wc := (MW cy a0 a1 a2 a3 a4 a5 a6 a7 ed tc ol nl nw (lmX nx (nw 0) (nw 1) (nw 2) up ln ln) ps tm od ne pt)) hD hS hA [0, 1, 2, 3, 4, 5, 6, 7] rfl
        refine z_callE (A := A) (va_runV (As := []) (rest := []) ⟨hx, hb, hml, hown, hts⟩ (c_X7_take lau G cy a0 a1 a2 a3 a4 a5 a6 a7 H.size ed tc ol nl nw (lmX nx (nw 0) (nw 1) (nw 2) up ln ln) ps tm od ne pt (by first | assumption | omega)) (cwV 0 hts gX7_loadMechanical_X7_take rfl rfl rfl (by decide +kernel) ⟨Nat.le_of_ble_eq_true rfl, Nat.le_of_ble_eq_true rfl⟩) ⟨P1_blind, va_recv hK hP (ci := 6) (q0 := 0) rfl rfl, P1_mk hKK (⟨rfl, hPc, hDc⟩)⟩ rfl rfl hl.1 rfl (lv_room (Nat.le_of_ble_eq_true rfl)) dX7_loadMechanical_50 ⟨(show 0 + 0 ≤ 0 by omega), (show 0 + 0 ≤ 0 by omega)⟩) hS.2.2 hFc (fun v H1 locs1 hR hL1 => ?_)
        obtain ⟨rfl, hq50, hP1, hD1, hF1⟩ := hR
        obtain ⟨hP, hD⟩ := va_join (wr := []) (w1 := (MW cy a0 a1 a2 a3 a4 a5 a6 a7 (svE ed) tc ol nl (tkW (lmX nx (nw 0) (nw 1) (nw 2) up ln ln) nw) (tkX (lmX nx (nw 0) (nw 1) (nw 2) up ln ln) nw) (svP ps nw ed) tm od ne pt)) hP hD [0, 1, 2, 3, 4, 5, 6, 7] [] rfl rfl (by decide) (by decide) hF1.2 hFc hP1 hD1
        have hS : va_S A s.heap H1 locs1 := Fh.S ((Fh.of hS).tr hF1 (fun q _ h => hFc q h)) hL1
        clear hPc hDc hFc hP1 hD1 hF1 hL1
        generalize H1 = H at hP hS ⊢
        have hP : va_P G vwCl (MW cy a0 a1 a2 a3 a4 a5 a6 a7 (svE ed) tc ol nl (tkW (lmX nx (nw 0) (nw 1) (nw 2) up ln ln) nw) (tkX (lmX nx (nw 0) (nw 1) (nw 2) up ln ln) nw) (svP ps nw ed) tm od ne pt) H := hP
        have hD : va_D A (MW cy a0 a1 a2 a3 a4 a5 a6 a7 (svE ed) tc ol nl (tkW (lmX nx (nw 0) (nw 1) (nw 2) up ln ln) nw) (tkX (lmX nx (nw 0) (nw 1) (nw 2) up ln ln) nw) (svP ps nw ed) tm od ne pt) := hD
        refine W.eq (g2 := F0 mt 53 ls []) rfl ?_
        refine lv_aload_n hx hb dX7_loadMechanical_53 rfl (lv_at hl 0 rfl) ?_
        refine va_get (D := G) (ci := 6) (v := .ref a1) (C := RX7) (T := TX7) (N := 11) hx hb hts (by decide +kernel) hown hK hP 0 rfl rfl 0 (by decide) (hts (.fieldLink RX7 7 "SturmianWordsModel" "now" "[I") (by decide +kernel)) (fun _ h9 => h9) rfl dX7_loadMechanical_54 ?_
        have hF3 : (tkW (lmX nx (nw 0) (nw 1) (nw 2) up ln ln) nw) 3 = ln := by rw [tkW_ge (by omega)]; unfold lmX; rw [if_neg (by omega), up1_s]
        have hFL : ∀ x, 4 ≤ x → x < 4 + (tkW (lmX nx (nw 0) (nw 1) (nw 2) up ln ln) nw) 3 → 0 ≤ (tkW (lmX nx (nw 0) (nw 1) (nw 2) up ln ln) nw) x ∧ (tkW (lmX nx (nw 0) (nw 1) (nw 2) up ln ln) nw) x ≤ 1 := fun x h1 h2 => by rw [hF3] at h2; rw [tkW_ge (by omega)]; unfold lmX; rw [if_pos (by omega)]; exact mlt_r (by omega) (by omega)
        refine z_calli (va_runS (As := [.ref a1]) (rest := []) ⟨hx, hb, hml, hown, hts⟩ (c_X7_weightOf lau G cy a1 (tkW (lmX nx (nw 0) (nw 1) (nw 2) up ln ln) nw) (by first | assumption | omega) (by first | assumption | omega)) (va_cwS 1 hts gX7_loadMechanical_X7_weightOf rfl rfl rfl (by decide +kernel) ⟨Nat.le_of_ble_eq_true rfl, Nat.le_of_ble_eq_true rfl⟩) ⟨P1_blind, P1_mk hKK (hP.sub [1] rfl)⟩ rfl rfl hl.1 rfl (lv_room (Nat.le_of_ble_eq_true rfl)) dX7_loadMechanical_57 ⟨(show 0 + 0 ≤ 0 by omega), (show 0 + 0 ≤ 0 by omega)⟩) ?_
        exact z_iretE hx hb hr hlocks dX7_loadMechanical_60 hS.2.2 ⟨(show 0 ≤ 0 by omega), (show 0 ≤ 0 by omega)⟩ ⟨(rfl), (trivial), (hP), (hD), Fh.of hS⟩
      · refine lv_aload_n hx hb dX7_loadMechanical_29 rfl (lv_at hl 0 rfl) ?_
        refine va_get (D := G) (ci := 6) (v := .ref a2) (C := RX7) (T := TX7) (N := 11) hx hb hts (by decide +kernel) hown hK hP 0 rfl rfl 1 (by decide) (hts (.fieldLink RX7 13 "SturmianWordsModel" "next" "[I") (by decide +kernel)) (fun _ h9 => h9) rfl dX7_loadMechanical_30 ?_
        refine lv_iconst (v := iZ 4) hx hb dX7_loadMechanical_33 rfl ?_
        refine lv_iload_n hx hb dX7_loadMechanical_34 rfl (lv_at hl 3 rfl) ?_
        refine z_iadd hx hb dX7_loadMechanical_35 ?_
        refine lv_aload_n hx hb dX7_loadMechanical_36 rfl (lv_at hl 0 rfl) ?_
        refine lv_iload_n hx hb dX7_loadMechanical_37 rfl (lv_at hl 3 rfl) ?_
        refine lv_iload_n hx hb dX7_loadMechanical_38 rfl (lv_at hl 2 rfl) ?_
        refine z_calli (va_runV (As := [.int (iZ k), .int (iZ up)]) (rest := [.int (iZ (4 + k)), .ref a2]) ⟨hx, hb, hml, hown, hts⟩ (c_X7_letterOf lau G cy a0 a1 a2 a3 a4 a5 a6 a7 ed tc ol nl nw k up (by first | assumption | omega) (by first | assumption | omega) (by first | assumption | omega)) (cwV 2 hts gX7_loadMechanical_X7_letterOf rfl rfl rfl (by decide +kernel) ⟨Nat.le_of_ble_eq_true rfl, Nat.le_of_ble_eq_true rfl⟩) ⟨P1_blind, va_recv hK hP (ci := 6) (q0 := 0) rfl rfl, P1_mk hKK (hP.sub [0, 1] rfl)⟩ rfl rfl hl.1 rfl (lv_room (Nat.le_of_ble_eq_true rfl)) dX7_loadMechanical_39 ⟨(show 0 + 0 ≤ 0 by omega), (show 0 + 0 ≤ 0 by omega)⟩) ?_
        refine z_iast (D := G) hx hb hK hP hD hS 2 0 rfl rfl (by omega) dX7_loadMechanical_42 (fun H locs hP hD hS => ?_)
        have hP : va_P G vwCl (MW cy a0 a1 a2 a3 a4 a5 a6 a7 ed tc ol nl nw (up1 (lmX nx (nw 0) (nw 1) (nw 2) up ln k) (4 + k) (mlt (nw 0) (nw 1) (nw 2) up k)) ps tm od ne pt) H := hP
        have hD : va_D A (MW cy a0 a1 a2 a3 a4 a5 a6 a7 ed tc ol nl nw (up1 (lmX nx (nw 0) (nw 1) (nw 2) up ln k) (4 + k) (mlt (nw 0) (nw 1) (nw 2) up k)) ps tm od ne pt) := hD
        rw [show (up1 (lmX nx (nw 0) (nw 1) (nw 2) up ln k) (4 + k) (mlt (nw 0) (nw 1) (nw 2) up k)) = (lmX nx (nw 0) (nw 1) (nw 2) up ln (k + 1)) from lmX_s (by omega)] at hP hD
        refine lv_iinc (v := iZ (k + 1)) (lv' := [(3, .int (iZ (k + 1))), (0, .ref a0), (1, .int (iZ ln)), (2, .int (iZ up))]) hx hb dX7_loadMechanical_43 hl (k := 3) rfl (iZ_add _ _) (by decide) rfl (fun ls hl => ?_)
        refine lv_goto (tgt := 24) hx hb dX7_loadMechanical_46 (by decide) ?_
        exact ih_24 (k + 1) _ _ ⟨(by omega), hP, hD, Fh.of hS⟩ hS.2.2 ⟨by omega, by omega⟩ _ (lv_sub hl [1, 2, 3, 0] rfl)
    · exfalso; omega
  · exfalso; omega
set_option maxHeartbeats 4000000 in
set_option maxRecDepth 100000 in
theorem c_X7_reverse (lau : Launch) (G : va_G) (cy : Nat → ClassId) (a0 a1 a2 a3 a4 a5 a6 a7 : Nat) (sz : Nat) (ed tc ol nl : Int) (nw nx ps tm od ne pt : Int → Int) (he : 0 ≤ ed ∧ ed ≤ 6) (hN : 0 ≤ nw 3 ∧ nw 3 ≤ 60) (hL : ∀ x, 4 ≤ x → x < 4 + nw 3 → 0 ≤ nw x ∧ nw x ≤ 1) : Met lau yX7_reverse wsX7_reverse ({ frames := 3, cells := 0, slots := 0, locals := 65 }) (P1 G cy [.ref a0] (fun H => H.size = sz ∧ va_P G vwCl (MW cy a0 a1 a2 a3 a4 a5 a6 a7 ed tc ol nl nw nx ps tm od ne pt) H ∧ va_D (fun _ => True) (MW cy a0 a1 a2 a3 a4 a5 a6 a7 ed tc ol nl nw nx ps tm od ne pt))) (Q1 (fun rv H0 H1 => rv = some (.int (iZ (1 - bv (palP nw 0 (nw 3))))) ∧ (True) ∧ va_P G vwCl (MW cy a0 a1 a2 a3 a4 a5 a6 a7 (svE ed) tc ol nl (tkW (rvX nx nw (nw 3)) nw) (tkX (rvX nx nw (nw 3)) nw) (svP ps nw ed) tm od ne pt) H1 ∧ va_D (va_A (MW cy a0 a1 a2 a3 a4 a5 a6 a7 ed tc ol nl nw nx ps tm od ne pt) sz) (MW cy a0 a1 a2 a3 a4 a5 a6 a7 (svE ed) tc ol nl (tkW (rvX nx nw (nw 3)) nw) (tkX (rvX nx nw (nw 3)) nw) (svP ps nw ed) tm od ne pt) ∧ Fh (va_A (MW cy a0 a1 a2 a3 a4 a5 a6 a7 ed tc ol nl nw nx ps tm od ne pt) sz) H0 H1)) 0 0 (va_A (MW cy a0 a1 a2 a3 a4 a5 a6 a7 ed tc ol nl nw nx ps tm od ne pt) sz) := by
  refine z_head (lv := [(0, .ref a0)]) RX7 (by decide) rfl rfl (Nat.le_of_ble_eq_true rfl) rfl ?_
  intro pr ev s mt below meth cd ls hx hb hr hlocks hml hown hname hts hKK hP hl
  have hK := hKK.1
  obtain ⟨hsz, hP, hD0⟩ := hP
  subst hsz
  have hD := hD0.self (sz := s.heap.size)
  generalize hAe : va_A (MW cy a0 a1 a2 a3 a4 a5 a6 a7 ed tc ol nl nw nx ps tm od ne pt) s.heap.size = A at hD ⊢
  have hA : ∀ q : Nat, s.heap.size ≤ q → A q := fun q h => by rw [← hAe]; exact Or.inr h
  have hS : va_S A s.heap s.heap [] := va_S.rf
  have hP : va_P G vwCl (MW cy a0 a1 a2 a3 a4 a5 a6 a7 ed tc ol nl nw nx ps tm od ne pt) s.heap := hP
  refine lv_aload_n hx hb dX7_reverse_0 rfl (lv_at hl 0 rfl) ?_
  refine lv_iconst (v := iZ 0) hx hb dX7_reverse_1 rfl ?_
  refine lv_aload_n hx hb dX7_reverse_2 rfl (lv_at hl 0 rfl) ?_
  refine va_get (D := G) (ci := 6) (v := .ref a1) (C := RX7) (T := TX7) (N := 11) hx hb hts (by decide +kernel) hown hK hP 0 rfl rfl 0 (by decide) (hts (.fieldLink RX7 7 "SturmianWordsModel" "now" "[I") (by decide +kernel)) (fun _ h9 => h9) rfl dX7_reverse_3 ?_
  refine lv_iconst (v := iZ 3) hx hb dX7_reverse_6 rfl ?_
  refine z_iald (D := G) hx hb hK hP 1 0 rfl rfl (by omega) dX7_reverse_7 ?_
  refine z_calli (va_runV (As := [.int (iZ 0), .int (iZ (nw 3))]) (rest := []) ⟨hx, hb, hml, hown, hts⟩ (c_X7_isPalindrome lau G cy a0 a1 a2 a3 a4 a5 a6 a7 ed tc ol nl nw 0 (nw 3) (by first | assumption | omega) (by first | assumption | omega) (by first | assumption | omega) (by first | assumption | omega) (by first | assumption | omega)) (cwV 2 hts gX7_reverse_X7_isPalindrome rfl rfl rfl (by decide +kernel) ⟨Nat.le_of_ble_eq_true rfl, Nat.le_of_ble_eq_true rfl⟩) ⟨P1_blind, va_recv hK hP (ci := 6) (q0 := 0) rfl rfl, P1_mk hKK (hP.sub [0, 1] rfl)⟩ rfl rfl hl.1 rfl (lv_room (Nat.le_of_ble_eq_true rfl)) dX7_reverse_8 ⟨(show 0 + 0 ≤ 0 by omega), (show 0 + 0 ≤ 0 by omega)⟩) ?_
  refine lv_istore_n (lv' := [(1, .int (iZ (bv (palP nw 0 (nw 3))))), (0, .ref a0)]) hx hb dX7_reverse_11 rfl hl (by decide) rfl (fun ls hl => ?_)
  refine lv_aload_n hx hb dX7_reverse_12 rfl (lv_at hl 1 rfl) ?_
  refine va_get (D := G) (ci := 6) (v := .ref a2) (C := RX7) (T := TX7) (N := 11) hx hb hts (by decide +kernel) hown hK hP 0 rfl rfl 1 (by decide) (hts (.fieldLink RX7 13 "SturmianWordsModel" "next" "[I") (by decide +kernel)) (fun _ h9 => h9) rfl dX7_reverse_13 ?_
  refine lv_iconst (v := iZ 3) hx hb dX7_reverse_16 rfl ?_
  refine lv_aload_n hx hb dX7_reverse_17 rfl (lv_at hl 1 rfl) ?_
  refine va_get (D := G) (ci := 6) (v := .ref a1) (C := RX7) (T := TX7) (N := 11) hx hb hts (by decide +kernel) hown hK hP 0 rfl rfl 0 (by decide) (hts (.fieldLink RX7 7 "SturmianWordsModel" "now" "[I") (by decide +kernel)) (fun _ h9 => h9) rfl dX7_reverse_18 ?_
  refine lv_iconst (v := iZ 3) hx hb dX7_reverse_21 rfl ?_
  refine z_iald (D := G) hx hb hK hP 1 0 rfl rfl (by omega) dX7_reverse_22 ?_
  refine z_iast (D := G) hx hb hK hP hD hS 2 0 rfl rfl (by omega) dX7_reverse_23 (fun H locs hP hD hS => ?_)
  have hP : va_P G vwCl (MW cy a0 a1 a2 a3 a4 a5 a6 a7 ed tc ol nl nw (up1 nx 3 (nw 3)) ps tm od ne pt) H := hP
  have hD : va_D A (MW cy a0 a1 a2 a3 a4 a5 a6 a7 ed tc ol nl nw (up1 nx 3 (nw 3)) ps tm od ne pt) := hD
  refine lv_iconst (v := iZ 0) hx hb dX7_reverse_24 rfl ?_
  refine lv_istore_n (lv' := [(2, .int (iZ 0)), (1, .int (iZ (bv (palP nw 0 (nw 3))))), (0, .ref a0)]) hx hb dX7_reverse_25 rfl hl (by decide) rfl (fun ls hl => ?_)
  rw [← rvX_0 nx nw] at hP hD
  refine z_loopH1 (nL := 3) (A := A) (fun (k : Int) => [(0, .ref a0), (1, .int (iZ (bv (palP nw 0 (nw 3))))), (2, .int (iZ k))]) (fun (k : Int) (H : Heap) => ((0 ≤ k ∧ k ≤ nw 3)) ∧ va_P G vwCl (MW cy a0 a1 a2 a3 a4 a5 a6 a7 ed tc ol nl nw (rvX nx nw k) ps tm od ne pt) H ∧ va_D A (MW cy a0 a1 a2 a3 a4 a5 a6 a7 ed tc ol nl nw (rvX nx nw k) ps tm od ne pt) ∧ Fh A s.heap H) (fun (k : Int) => nw 3 - k) (fun (k : Int) => 0) (fun (k : Int) => 0) (a1 := 0) ⟨(by omega), hP, hD, Fh.of hS⟩ hS.2.2 (lv_sub hl [2, 1, 0] rfl) ?_
  rintro k H locs ⟨i1, hP, hD, hFr⟩ hLc ih_26 ls hl
  have hS : va_S A s.heap H locs := Fh.S hFr hLc
  refine lv_iload_n hx hb dX7_reverse_26 rfl (lv_at hl 2 rfl) ?_
  refine lv_aload_n hx hb dX7_reverse_27 rfl (lv_at hl 0 rfl) ?_
  refine va_get (D := G) (ci := 6) (v := .ref a1) (C := RX7) (T := TX7) (N := 11) hx hb hts (by decide +kernel) hown hK hP 0 rfl rfl 0 (by decide) (hts (.fieldLink RX7 7 "SturmianWordsModel" "now" "[I") (by decide +kernel)) (fun _ h9 => h9) rfl dX7_reverse_28 ?_
  refine lv_iconst (v := iZ 3) hx hb dX7_reverse_31 rfl ?_
  refine z_iald (D := G) hx hb hK hP 1 0 rfl rfl (by omega) dX7_reverse_32 ?_
  refine z_icmp_ge (tgt := 67) hx hb dX7_reverse_33 (by decide) (by omega) (fun c_33 => ?_) (fun c_33 => ?_)
  · rw [show k = nw 3 by omega] at hP hD
    refine lv_aload_n hx hb dX7_reverse_67 rfl (lv_at hl 0 rfl) ?_
    have hPc := hP.sub (ws' := (MW cy a0 a1 a2 a3 a4 a5 a6 a7 ed tc ol nl nw (rvX nx nw (nw 3)) ps tm od ne pt)) [0, 1, 2, 3, 4, 5, 6, 7] rfl
    have hDc := (hD.sub (ws' := (MW cy a0 a1 a2 a3 a4 a5 a6 a7 ed tc ol nl nw (rvX nx nw (nw 3)) ps tm od ne pt)) [0, 1, 2, 3, 4, 5, 6, 7] (by decide) rfl).weaken (B := fun _ => True) (fun _ _ _ _ => trivial)
    have hFc := va_free (wc := (MW cy a0 a1 a2 a3 a4 a5 a6 a7 ed tc ol nl nw (rvX nx nw (nw 3)) ps tm od ne pt)) hD hS hA [0, 1, 2, 3, 4, 5, 6, 7] rfl
    refine z_callE (A := A) (va_runV (As := []) (rest := []) ⟨hx, hb, hml, hown, hts⟩ (c_X7_take lau G cy a0 a1 a2 a3 a4 a5 a6 a7 H.size ed tc ol nl nw (rvX nx nw (nw 3)) ps tm od ne pt (by first | assumption | omega)) (cwV 0 hts gX7_reverse_X7_take rfl rfl rfl (by decide +kernel) ⟨Nat.le_of_ble_eq_true rfl, Nat.le_of_ble_eq_true rfl⟩) ⟨P1_blind, va_recv hK hP (ci := 6) (q0 := 0) rfl rfl, P1_mk hKK (⟨rfl, hPc, hDc⟩)⟩ rfl rfl hl.1 rfl (lv_room (Nat.le_of_ble_eq_true rfl)) dX7_reverse_68 ⟨(show 0 + 0 ≤ 0 by omega), (show 0 + 0 ≤ 0 by omega)⟩) hS.2.2 hFc (fun v H1 locs1 hR hL1 => ?_)
    obtain ⟨rfl, hq68, hP1, hD1, hF1⟩ := hR
    obtain ⟨hP, hD⟩ := va_join (wr := []) (w1 := (MW cy a0 a1 a2 a3 a4 a5 a6 a7 (svE ed) tc ol nl (tkW (rvX nx nw (nw 3)) nw) (tkX (rvX nx nw (nw 3)) nw) (svP ps nw ed) tm od ne pt)) hP hD [0, 1, 2, 3, 4, 5, 6, 7] [] rfl rfl (by decide) (by decide) hF1.2 hFc hP1 hD1
    have hS : va_S A s.heap H1 locs1 := Fh.S ((Fh.of hS).tr hF1 (fun q _ h => hFc q h)) hL1
    clear hPc hDc hFc hP1 hD1 hF1 hL1
    generalize H1 = H at hP hS ⊢
    have hP : va_P G vwCl (MW cy a0 a1 a2 a3 a4 a5 a6 a7 (svE ed) tc ol nl (tkW (rvX nx nw (nw 3)) nw) (tkX (rvX nx nw (nw 3)) nw) (svP ps nw ed) tm od ne pt) H := hP
    have hD : va_D A (MW cy a0 a1 a2 a3 a4 a5 a6 a7 (svE ed) tc ol nl (tkW (rvX nx nw (nw 3)) nw) (tkX (rvX nx nw (nw 3)) nw) (svP ps nw ed) tm od ne pt) := hD
    refine W.eq (g2 := F0 mt 71 ls []) rfl ?_
    refine lv_iload_n hx hb dX7_reverse_71 rfl (lv_at hl 1 rfl) ?_
    refine z_ifB_eq (tgt := 79) hx hb dX7_reverse_72 (by decide) (fun c_72 => ?_) (fun c_72 => ?_)
    · refine lv_iconst (v := iZ 1) hx hb dX7_reverse_79 rfl ?_
      exact z_iretE hx hb hr hlocks dX7_reverse_80 hS.2.2 ⟨(show 0 ≤ 0 by omega), (show 0 ≤ 0 by omega)⟩ ⟨(sI (by rw [bv_f c_72]; rfl)), (trivial), (hP), (hD), Fh.of hS⟩
    · refine lv_iconst (v := iZ 0) hx hb dX7_reverse_75 rfl ?_
      refine lv_goto (tgt := 80) hx hb dX7_reverse_76 (by decide) ?_
      exact z_iretE hx hb hr hlocks dX7_reverse_80 hS.2.2 ⟨(show 0 ≤ 0 by omega), (show 0 ≤ 0 by omega)⟩ ⟨(sI (by rw [bv_t c_72]; rfl)), (trivial), (hP), (hD), Fh.of hS⟩
  · refine lv_aload_n hx hb dX7_reverse_36 rfl (lv_at hl 0 rfl) ?_
    refine va_get (D := G) (ci := 6) (v := .ref a2) (C := RX7) (T := TX7) (N := 11) hx hb hts (by decide +kernel) hown hK hP 0 rfl rfl 1 (by decide) (hts (.fieldLink RX7 13 "SturmianWordsModel" "next" "[I") (by decide +kernel)) (fun _ h9 => h9) rfl dX7_reverse_37 ?_
    refine lv_iconst (v := iZ 4) hx hb dX7_reverse_40 rfl ?_
    refine lv_iload_n hx hb dX7_reverse_41 rfl (lv_at hl 2 rfl) ?_
    refine z_iadd hx hb dX7_reverse_42 ?_
    refine lv_aload_n hx hb dX7_reverse_43 rfl (lv_at hl 0 rfl) ?_
    refine va_get (D := G) (ci := 6) (v := .ref a1) (C := RX7) (T := TX7) (N := 11) hx hb hts (by decide +kernel) hown hK hP 0 rfl rfl 0 (by decide) (hts (.fieldLink RX7 7 "SturmianWordsModel" "now" "[I") (by decide +kernel)) (fun _ h9 => h9) rfl dX7_reverse_44 ?_
    refine lv_iconst (v := iZ 4) hx hb dX7_reverse_47 rfl ?_
    refine lv_aload_n hx hb dX7_reverse_48 rfl (lv_at hl 0 rfl) ?_
    refine va_get (D := G) (ci := 6) (v := .ref a1) (C := RX7) (T := TX7) (N := 11) hx hb hts (by decide +kernel) hown hK hP 0 rfl rfl 0 (by decide) (hts (.fieldLink RX7 7 "SturmianWordsModel" "now" "[I") (by decide +kernel)) (fun _ h9 => h9) rfl dX7_reverse_49 ?_
    refine lv_iconst (v := iZ 3) hx hb dX7_reverse_52 rfl ?_
    refine z_iald (D := G) hx hb hK hP 1 0 rfl rfl (by omega) dX7_reverse_53 ?_
    refine z_iadd hx hb dX7_reverse_54 ?_
    refine lv_iconst (v := iZ 1) hx hb dX7_reverse_55 rfl ?_
    refine z_isub hx hb dX7_reverse_56 ?_
    refine lv_iload_n hx hb dX7_reverse_57 rfl (lv_at hl 2 rfl) ?_
    refine z_isub hx hb dX7_reverse_58 ?_
    refine z_iald (D := G) hx hb hK hP 1 0 rfl rfl (by omega) dX7_reverse_59 ?_
    refine z_iast (D := G) hx hb hK hP hD hS 2 0 rfl rfl (by omega) dX7_reverse_60 (fun H locs hP hD hS => ?_)
    have hP : va_P G vwCl (MW cy a0 a1 a2 a3 a4 a5 a6 a7 ed tc ol nl nw (up1 (rvX nx nw k) (4 + k) (nw (((4 + (nw 3)) - 1) - k))) ps tm od ne pt) H := hP
    have hD : va_D A (MW cy a0 a1 a2 a3 a4 a5 a6 a7 ed tc ol nl nw (up1 (rvX nx nw k) (4 + k) (nw (((4 + (nw 3)) - 1) - k))) ps tm od ne pt) := hD
    rw [show (up1 (rvX nx nw k) (4 + k) (nw (((4 + (nw 3)) - 1) - k))) = (rvX nx nw (k + 1)) from rvX_s (by omega)] at hP hD
    refine lv_iinc (v := iZ (k + 1)) (lv' := [(2, .int (iZ (k + 1))), (0, .ref a0), (1, .int (iZ (bv (palP nw 0 (nw 3)))))]) hx hb dX7_reverse_61 hl (k := 2) rfl (iZ_add _ _) (by decide) rfl (fun ls hl => ?_)
    refine lv_goto (tgt := 26) hx hb dX7_reverse_64 (by decide) ?_
    exact ih_26 (k + 1) _ _ ⟨(by omega), hP, hD, Fh.of hS⟩ hS.2.2 ⟨by omega, by omega⟩ _ (lv_sub hl [1, 2, 0] rfl)
set_option maxHeartbeats 4000000 in
set_option maxRecDepth 100000 in
theorem c_X7_appendTo (lau : Launch) (G : va_G) (cy : Nat → ClassId) (a0 a1 a2 a3 a4 a5 a6 a7 : Nat) (sz : Nat) (ed tc ol nl : Int) (nw nx ps tm od ne pt : Int → Int) (vl : Int) (h1 : 0 ≤ nx 3 ∧ nx 3 ≤ 100000) : Met lau yX7_appendTo wsX7_appendTo ({ frames := 0, cells := 0, slots := 0, locals := 0 }) (P1 G cy [.ref a0, .int (iZ vl)] (fun H => H.size = sz ∧ va_P G vwCl (MW cy a0 a1 a2 a3 a4 a5 a6 a7 ed tc ol nl nw nx ps tm od ne pt) H ∧ va_D (fun _ => True) (MW cy a0 a1 a2 a3 a4 a5 a6 a7 ed tc ol nl nw nx ps tm od ne pt))) (Q1 (fun rv H0 H1 => rv = none ∧ (True) ∧ va_P G vwCl (MW cy a0 a1 a2 a3 a4 a5 a6 a7 ed tc ol nl nw (apX nx vl) ps tm od ne pt) H1 ∧ va_D (va_A (MW cy a0 a1 a2 a3 a4 a5 a6 a7 ed tc ol nl nw nx ps tm od ne pt) sz) (MW cy a0 a1 a2 a3 a4 a5 a6 a7 ed tc ol nl nw (apX nx vl) ps tm od ne pt) ∧ Fh (va_A (MW cy a0 a1 a2 a3 a4 a5 a6 a7 ed tc ol nl nw nx ps tm od ne pt) sz) H0 H1)) 0 0 (va_A (MW cy a0 a1 a2 a3 a4 a5 a6 a7 ed tc ol nl nw nx ps tm od ne pt) sz) := by
  refine z_head (lv := [(0, .ref a0), (1, .int (iZ vl))]) RX7 (by decide) rfl rfl (Nat.le_of_ble_eq_true rfl) rfl ?_
  intro pr ev s mt below meth cd ls hx hb hr hlocks hml hown hname hts hKK hP hl
  have hK := hKK.1
  obtain ⟨hsz, hP, hD0⟩ := hP
  subst hsz
  have hD := hD0.self (sz := s.heap.size)
  generalize hAe : va_A (MW cy a0 a1 a2 a3 a4 a5 a6 a7 ed tc ol nl nw nx ps tm od ne pt) s.heap.size = A at hD ⊢
  have hA : ∀ q : Nat, s.heap.size ≤ q → A q := fun q h => by rw [← hAe]; exact Or.inr h
  have hS : va_S A s.heap s.heap [] := va_S.rf
  have hP : va_P G vwCl (MW cy a0 a1 a2 a3 a4 a5 a6 a7 ed tc ol nl nw nx ps tm od ne pt) s.heap := hP
  refine lv_aload_n hx hb dX7_appendTo_0 rfl (lv_at hl 0 rfl) ?_
  refine va_get (D := G) (ci := 6) (v := .ref a2) (C := RX7) (T := TX7) (N := 11) hx hb hts (by decide +kernel) hown hK hP 0 rfl rfl 1 (by decide) (hts (.fieldLink RX7 13 "SturmianWordsModel" "next" "[I") (by decide +kernel)) (fun _ h9 => h9) rfl dX7_appendTo_1 ?_
  refine lv_iconst (v := iZ 3) hx hb dX7_appendTo_4 rfl ?_
  refine z_iald (D := G) hx hb hK hP 2 0 rfl rfl (by omega) dX7_appendTo_5 ?_
  refine lv_bipush (v := iZ 60) hx hb dX7_appendTo_6 (by decide +kernel) ?_
  refine z_icmp_ge (tgt := 25) hx hb dX7_appendTo_8 (by decide) (by omega) (fun c_8 => ?_) (fun c_8 => ?_)
  · refine lv_aload_n hx hb dX7_appendTo_25 rfl (lv_at hl 0 rfl) ?_
    refine va_get (D := G) (ci := 6) (v := .ref a2) (C := RX7) (T := TX7) (N := 11) hx hb hts (by decide +kernel) hown hK hP 0 rfl rfl 1 (by decide) (hts (.fieldLink RX7 13 "SturmianWordsModel" "next" "[I") (by decide +kernel)) (fun _ h9 => h9) rfl dX7_appendTo_26 ?_
    refine lv_iconst (v := iZ 3) hx hb dX7_appendTo_29 rfl ?_
    refine lv_dup2_11 hx hb dX7_appendTo_30 rfl rfl ?_
    refine z_iald (D := G) hx hb hK hP 2 0 rfl rfl (by omega) dX7_appendTo_31 ?_
    refine z_top (b := nx 3) (by first | rfl | exact up1_n (by omega)) ?_
    refine lv_iconst (v := iZ 1) hx hb dX7_appendTo_32 rfl ?_
    refine z_iadd hx hb dX7_appendTo_33 ?_
    refine z_iast (D := G) hx hb hK hP hD hS 2 0 rfl rfl (by omega) dX7_appendTo_34 (fun H locs hP hD hS => ?_)
    have hP : va_P G vwCl (MW cy a0 a1 a2 a3 a4 a5 a6 a7 ed tc ol nl nw (up1 nx 3 (nx 3 + 1)) ps tm od ne pt) H := hP
    have hD : va_D A (MW cy a0 a1 a2 a3 a4 a5 a6 a7 ed tc ol nl nw (up1 nx 3 (nx 3 + 1)) ps tm od ne pt) := hD
    have e1 : apX nx vl = up1 nx 3 (nx 3 + 1) := by unfold apX; rw [if_neg (by omega)]
    rw [← e1] at hP hD
    exact z_vretE hx hb hr hlocks dX7_appendTo_35 hS.2.2 ⟨(show 0 ≤ 0 by omega), (show 0 ≤ 0 by omega)⟩ ⟨(rfl), (trivial), (hP), (hD), Fh.of hS⟩
  · refine lv_aload_n hx hb dX7_appendTo_11 rfl (lv_at hl 0 rfl) ?_
    refine va_get (D := G) (ci := 6) (v := .ref a2) (C := RX7) (T := TX7) (N := 11) hx hb hts (by decide +kernel) hown hK hP 0 rfl rfl 1 (by decide) (hts (.fieldLink RX7 13 "SturmianWordsModel" "next" "[I") (by decide +kernel)) (fun _ h9 => h9) rfl dX7_appendTo_12 ?_
    refine lv_iconst (v := iZ 4) hx hb dX7_appendTo_15 rfl ?_
    refine lv_aload_n hx hb dX7_appendTo_16 rfl (lv_at hl 0 rfl) ?_
    refine va_get (D := G) (ci := 6) (v := .ref a2) (C := RX7) (T := TX7) (N := 11) hx hb hts (by decide +kernel) hown hK hP 0 rfl rfl 1 (by decide) (hts (.fieldLink RX7 13 "SturmianWordsModel" "next" "[I") (by decide +kernel)) (fun _ h9 => h9) rfl dX7_appendTo_17 ?_
    refine lv_iconst (v := iZ 3) hx hb dX7_appendTo_20 rfl ?_
    refine z_iald (D := G) hx hb hK hP 2 0 rfl rfl (by omega) dX7_appendTo_21 ?_
    refine z_iadd hx hb dX7_appendTo_22 ?_
    refine lv_iload_n hx hb dX7_appendTo_23 rfl (lv_at hl 1 rfl) ?_
    refine z_iast (D := G) hx hb hK hP hD hS 2 0 rfl rfl (by omega) dX7_appendTo_24 (fun H locs hP hD hS => ?_)
    have hP : va_P G vwCl (MW cy a0 a1 a2 a3 a4 a5 a6 a7 ed tc ol nl nw (up1 nx (4 + (nx 3)) vl) ps tm od ne pt) H := hP
    have hD : va_D A (MW cy a0 a1 a2 a3 a4 a5 a6 a7 ed tc ol nl nw (up1 nx (4 + (nx 3)) vl) ps tm od ne pt) := hD
    refine lv_aload_n hx hb dX7_appendTo_25 rfl (lv_at hl 0 rfl) ?_
    refine va_get (D := G) (ci := 6) (v := .ref a2) (C := RX7) (T := TX7) (N := 11) hx hb hts (by decide +kernel) hown hK hP 0 rfl rfl 1 (by decide) (hts (.fieldLink RX7 13 "SturmianWordsModel" "next" "[I") (by decide +kernel)) (fun _ h9 => h9) rfl dX7_appendTo_26 ?_
    refine lv_iconst (v := iZ 3) hx hb dX7_appendTo_29 rfl ?_
    refine lv_dup2_11 hx hb dX7_appendTo_30 rfl rfl ?_
    refine z_iald (D := G) hx hb hK hP 2 0 rfl rfl (by omega) dX7_appendTo_31 ?_
    refine z_top (b := nx 3) (by first | rfl | exact up1_n (by omega)) ?_
    refine lv_iconst (v := iZ 1) hx hb dX7_appendTo_32 rfl ?_
    refine z_iadd hx hb dX7_appendTo_33 ?_
    refine z_iast (D := G) hx hb hK hP hD hS 2 0 rfl rfl (by omega) dX7_appendTo_34 (fun H locs hP hD hS => ?_)
    have hP : va_P G vwCl (MW cy a0 a1 a2 a3 a4 a5 a6 a7 ed tc ol nl nw (up1 (up1 nx (4 + (nx 3)) vl) 3 (nx 3 + 1)) ps tm od ne pt) H := hP
    have hD : va_D A (MW cy a0 a1 a2 a3 a4 a5 a6 a7 ed tc ol nl nw (up1 (up1 nx (4 + (nx 3)) vl) 3 (nx 3 + 1)) ps tm od ne pt) := hD
    have e1 : apX nx vl = up1 (up1 nx (4 + nx 3) vl) 3 (nx 3 + 1) := by unfold apX; rw [if_pos (by omega)]
    rw [← e1] at hP hD
    exact z_vretE hx hb hr hlocks dX7_appendTo_35 hS.2.2 ⟨(show 0 ≤ 0 by omega), (show 0 ≤ 0 by omega)⟩ ⟨(rfl), (trivial), (hP), (hD), Fh.of hS⟩
set_option maxHeartbeats 4000000 in
set_option maxRecDepth 100000 in
theorem c_X7_further (lau : Launch) (G : va_G) (cy : Nat → ClassId) (a0 a1 a2 a3 a4 a5 a6 a7 : Nat) (sz : Nat) (ed tc ol nl : Int) (nw nx ps tm od ne pt : Int → Int) (a na b nb tm9 : Int) (ha : 0 ≤ a ∧ a < pw na) (hna : 1 ≤ na ∧ na ≤ 60) (hB9 : 0 ≤ b ∧ b < pw nb) (hnb : 0 ≤ nb ∧ nb ≤ 60) (hnl : nl = na) (hol : ol = nb) (hne : ∀ j, 0 ≤ j → j < na → ne j = ltr a na j) (hod : ∀ j, 0 ≤ j → j < nb → od j = ltr b nb j) (ht : 0 ≤ tm9 ∧ tm9 ≤ 1000) : Met lau yX7_further wsX7_further ({ frames := 1, cells := 0, slots := 0, locals := 21 }) (P1 G cy [.ref a0, .int (iZ tm9)] (fun H => H.size = sz ∧ va_P G vwCl (MW cy a0 a1 a2 a3 a4 a5 a6 a7 ed tc ol nl nw nx ps tm od ne pt) H ∧ va_D (fun _ => True) (MW cy a0 a1 a2 a3 a4 a5 a6 a7 ed tc ol nl nw nx ps tm od ne pt))) (Q1 (fun rv H0 H1 => ∃ (ol2 nl2 : Int) (nx2 od2 ne2 : Int → Int), rv = some (.int (iZ (bv ((na * tm9 + nb) ≤ 60)))) ∧ ((na * tm9 + nb) ≤ 60 → RowIs nx2 (rpB a na tm9 * pw nb + b) (na * tm9 + nb) ∧ ol2 = na ∧ (∀ j, 0 ≤ j → j < na → od2 j = ltr a na j) ∧ nl2 = (na * tm9 + nb) ∧ ∀ j, 0 ≤ j → j < (na * tm9 + nb) → ne2 j = ltr (rpB a na tm9 * pw nb + b) (na * tm9 + nb) j) ∧ va_P G vwCl (MW cy a0 a1 a2 a3 a4 a5 a6 a7 ed tc ol2 nl2 nw nx2 ps tm od2 ne2 pt) H1 ∧ va_D (va_A (MW cy a0 a1 a2 a3 a4 a5 a6 a7 ed tc ol nl nw nx ps tm od ne pt) sz) (MW cy a0 a1 a2 a3 a4 a5 a6 a7 ed tc ol2 nl2 nw nx2 ps tm od2 ne2 pt) ∧ Fh (va_A (MW cy a0 a1 a2 a3 a4 a5 a6 a7 ed tc ol nl nw nx ps tm od ne pt) sz) H0 H1)) 0 0 (va_A (MW cy a0 a1 a2 a3 a4 a5 a6 a7 ed tc ol nl nw nx ps tm od ne pt) sz) := by
  refine z_head (lv := [(0, .ref a0), (1, .int (iZ tm9))]) RX7 (by decide) rfl rfl (Nat.le_of_ble_eq_true rfl) rfl ?_
  intro pr ev s mt below meth cd ls hx hb hr hlocks hml hown hname hts hKK hP hl
  have hK := hKK.1
  obtain ⟨hsz, hP, hD0⟩ := hP
  subst hsz
  have hD := hD0.self (sz := s.heap.size)
  generalize hAe : va_A (MW cy a0 a1 a2 a3 a4 a5 a6 a7 ed tc ol nl nw nx ps tm od ne pt) s.heap.size = A at hD ⊢
  have hA : ∀ q : Nat, s.heap.size ≤ q → A q := fun q h => by rw [← hAe]; exact Or.inr h
  have hS : va_S A s.heap s.heap [] := va_S.rf
  have hP : va_P G vwCl (MW cy a0 a1 a2 a3 a4 a5 a6 a7 ed tc ol nl nw nx ps tm od ne pt) s.heap := hP
  subst hnl hol
  refine lv_aload_n hx hb dX7_further_0 rfl (lv_at hl 0 rfl) ?_
  refine va_get (D := G) (ci := 6) (v := .ref a2) (C := RX7) (T := TX7) (N := 11) hx hb hts (by decide +kernel) hown hK hP 0 rfl rfl 1 (by decide) (hts (.fieldLink RX7 13 "SturmianWordsModel" "next" "[I") (by decide +kernel)) (fun _ h9 => h9) rfl dX7_further_1 ?_
  refine lv_iconst (v := iZ 3) hx hb dX7_further_4 rfl ?_
  refine lv_iconst (v := iZ 0) hx hb dX7_further_5 rfl ?_
  refine z_iast (D := G) hx hb hK hP hD hS 2 0 rfl rfl (by omega) dX7_further_6 (fun H locs hP hD hS => ?_)
  have hP : va_P G vwCl (MW cy a0 a1 a2 a3 a4 a5 a6 a7 ed tc ol nl nw (up1 nx 3 0) ps tm od ne pt) H := hP
  have hD : va_D A (MW cy a0 a1 a2 a3 a4 a5 a6 a7 ed tc ol nl nw (up1 nx 3 0) ps tm od ne pt) := hD
  refine lv_iconst (v := iZ 0) hx hb dX7_further_7 rfl ?_
  refine lv_istore_n (lv' := [(2, .int (iZ 0)), (0, .ref a0), (1, .int (iZ tm9))]) hx hb dX7_further_8 rfl hl (by decide) rfl (fun ls hl => ?_)
  refine z_loopH2 (nL := 4) (A := A) (fun (t : Int) (x1 : Int → Int) => [(0, .ref a0), (1, .int (iZ tm9)), (2, .int (iZ t))]) (fun (t : Int) (x1 : Int → Int) (H : Heap) => ((0 ≤ t ∧ t ≤ tm9) ∧ (RowIs x1 (rpB a nl t) (nl * t)) ∧ (0 ≤ nl * t ∧ nl * t ≤ 120)) ∧ va_P G vwCl (MW cy a0 a1 a2 a3 a4 a5 a6 a7 ed tc ol nl nw x1 ps tm od ne pt) H ∧ va_D A (MW cy a0 a1 a2 a3 a4 a5 a6 a7 ed tc ol nl nw x1 ps tm od ne pt) ∧ Fh A s.heap H) (fun (t : Int) (x1 : Int → Int) => tm9 - t) (fun (t : Int) (x1 : Int → Int) => 0) (fun (t : Int) (x1 : Int → Int) => 0) (a1 := 0) (a2 := (up1 nx 3 0)) ⟨⟨(by omega), (by rw [rpB_0, Int.mul_zero]; exact RowIs.nil), (by rw [Int.mul_zero]; omega)⟩, hP, hD, Fh.of hS⟩ hS.2.2 (lv_sub hl [1, 2, 0] rfl) ?_
  rintro t x1 H locs ⟨⟨i1, i2, i3⟩, hP, hD, hFr⟩ hLc ih_9 ls hl
  have hS : va_S A s.heap H locs := Fh.S hFr hLc
  refine lv_iload_n hx hb dX7_further_9 rfl (lv_at hl 2 rfl) ?_
  refine lv_iload_n hx hb dX7_further_10 rfl (lv_at hl 1 rfl) ?_
  refine z_icmp_ge (tgt := 57) hx hb dX7_further_11 (by decide) (by omega) (fun c_11 => ?_) (fun c_11 => ?_)
  · have hT : t = tm9 ∨ 60 < nl * t := by have := i2.1; omega
    refine lv_iconst (v := iZ 0) hx hb dX7_further_57 rfl ?_
    refine lv_istore_n (lv' := [(2, .int (iZ 0)), (0, .ref a0), (1, .int (iZ tm9))]) hx hb dX7_further_58 rfl hl (by decide) rfl (fun ls hl => ?_)
    refine z_loopH2 (nL := 4) (A := A) (fun (k3 : Int) (x3 : Int → Int) => [(0, .ref a0), (1, .int (iZ tm9)), (2, .int (iZ k3))]) (fun (k3 : Int) (x3 : Int → Int) (H : Heap) => ((0 ≤ k3 ∧ k3 ≤ ol) ∧ (RowIs x3 (rpB a nl t * pw k3 + fct b ol 0 k3) (nl * t + k3))) ∧ va_P G vwCl (MW cy a0 a1 a2 a3 a4 a5 a6 a7 ed tc ol nl nw x3 ps tm od ne pt) H ∧ va_D A (MW cy a0 a1 a2 a3 a4 a5 a6 a7 ed tc ol nl nw x3 ps tm od ne pt) ∧ Fh A s.heap H) (fun (k3 : Int) (x3 : Int → Int) => ol - k3) (fun (k3 : Int) (x3 : Int → Int) => 0) (fun (k3 : Int) (x3 : Int → Int) => 0) (a1 := 0) (a2 := x1) ⟨⟨(by omega), (by rw [pw_0, Int.mul_one, fct_0, Int.add_zero, Int.add_zero]; exact i2)⟩, hP, hD, Fh.of hS⟩ hS.2.2 (lv_sub hl [1, 2, 0] rfl) ?_
    rintro k3 x3 H locs ⟨⟨l1, l2⟩, hP, hD, hFr⟩ hLc ih_59 ls hl
    have hS : va_S A s.heap H locs := Fh.S hFr hLc
    refine lv_iload_n hx hb dX7_further_59 rfl (lv_at hl 2 rfl) ?_
    refine lv_aload_n hx hb dX7_further_60 rfl (lv_at hl 0 rfl) ?_
    refine va_get (D := G) (ci := 6) (v := .int (iZ ol)) (C := RX7) (T := TX7) (N := 11) hx hb hts (by decide +kernel) hown hK hP 0 rfl rfl 7 (by decide) (hts (.fieldLink RX7 79 "SturmianWordsModel" "olderLength" "I") (by decide +kernel)) (fun _ h9 => h9) rfl dX7_further_61 ?_
    refine z_icmp_ge (tgt := 83) hx hb dX7_further_64 (by decide) (by omega) (fun c_64 => ?_) (fun c_64 => ?_)
    · have hk3 : k3 = ol := by omega
      rw [hk3, fct_n hB9] at l2
      have hl3 := l2.1
      have hmul : nl * t ≤ nl * tm9 := Int.mul_le_mul_of_nonneg_left (by omega) (by omega)
      refine lv_aload_n hx hb dX7_further_83 rfl (lv_at hl 0 rfl) ?_
      refine va_get (D := G) (ci := 6) (v := .ref a2) (C := RX7) (T := TX7) (N := 11) hx hb hts (by decide +kernel) hown hK hP 0 rfl rfl 1 (by decide) (hts (.fieldLink RX7 13 "SturmianWordsModel" "next" "[I") (by decide +kernel)) (fun _ h9 => h9) rfl dX7_further_84 ?_
      refine lv_iconst (v := iZ 3) hx hb dX7_further_87 rfl ?_
      refine z_iald (D := G) hx hb hK hP 2 0 rfl rfl (by omega) dX7_further_88 ?_
      refine lv_bipush (v := iZ 60) hx hb dX7_further_89 (by decide +kernel) ?_
      refine z_icmp_le (tgt := 96) hx hb dX7_further_91 (by decide) (by omega) (fun c_91 => ?_) (fun c_91 => ?_)
      · have hok : nl * tm9 + ol ≤ 60 := by rcases hT with q | q; (· rw [← q]; omega); (· exfalso; omega)
        refine lv_iconst (v := iZ 0) hx hb dX7_further_96 rfl ?_
        refine lv_istore_n (lv' := [(2, .int (iZ 0)), (0, .ref a0), (1, .int (iZ tm9))]) hx hb dX7_further_97 rfl hl (by decide) rfl (fun ls hl => ?_)
        refine z_loopH2 (nL := 4) (A := A) (fun (k4 : Int) (o4 : Int → Int) => [(0, .ref a0), (1, .int (iZ tm9)), (2, .int (iZ k4))]) (fun (k4 : Int) (o4 : Int → Int) (H : Heap) => ((0 ≤ k4 ∧ k4 ≤ nl) ∧ (∀ j, 0 ≤ j → j < k4 → o4 j = ltr a nl j)) ∧ va_P G vwCl (MW cy a0 a1 a2 a3 a4 a5 a6 a7 ed tc ol nl nw x3 ps tm o4 ne pt) H ∧ va_D A (MW cy a0 a1 a2 a3 a4 a5 a6 a7 ed tc ol nl nw x3 ps tm o4 ne pt) ∧ Fh A s.heap H) (fun (k4 : Int) (o4 : Int → Int) => nl - k4) (fun (k4 : Int) (o4 : Int → Int) => 0) (fun (k4 : Int) (o4 : Int → Int) => 0) (a1 := 0) (a2 := od) ⟨⟨(by omega), (fun j q1 q2 => by omega)⟩, hP, hD, Fh.of hS⟩ hS.2.2 (lv_sub hl [1, 2, 0] rfl) ?_
        rintro k4 o4 H locs ⟨⟨m1, m2⟩, hP, hD, hFr⟩ hLc ih_98 ls hl
        have hS : va_S A s.heap H locs := Fh.S hFr hLc
        refine lv_iload_n hx hb dX7_further_98 rfl (lv_at hl 2 rfl) ?_
        refine lv_aload_n hx hb dX7_further_99 rfl (lv_at hl 0 rfl) ?_
        refine va_get (D := G) (ci := 6) (v := .int (iZ nl)) (C := RX7) (T := TX7) (N := 11) hx hb hts (by decide +kernel) hown hK hP 0 rfl rfl 9 (by decide) (hts (.fieldLink RX7 72 "SturmianWordsModel" "newerLength" "I") (by decide +kernel)) (fun _ h9 => h9) rfl dX7_further_100 ?_
        refine z_icmp_ge (tgt := 124) hx hb dX7_further_103 (by decide) (by omega) (fun c_103 => ?_) (fun c_103 => ?_)
        · refine lv_aload_n hx hb dX7_further_124 rfl (lv_at hl 0 rfl) ?_
          refine lv_aload_n hx hb dX7_further_125 rfl (lv_at hl 0 rfl) ?_
          refine va_get (D := G) (ci := 6) (v := .int (iZ nl)) (C := RX7) (T := TX7) (N := 11) hx hb hts (by decide +kernel) hown hK hP 0 rfl rfl 9 (by decide) (hts (.fieldLink RX7 72 "SturmianWordsModel" "newerLength" "I") (by decide +kernel)) (fun _ h9 => h9) rfl dX7_further_126 ?_
          refine va_put (D := G) (ci := 6) (v := .int (iZ nl)) (ty := .int) (C := RX7) (T := TX7) (N := 11) hx hb hts (by decide +kernel) tyX7 tyX7_ok nmX7 hown hK hP hD hS 0 rfl rfl 7 (by decide) (hts (.fieldLink RX7 79 "SturmianWordsModel" "olderLength" "I") (by decide +kernel)) (fun _ h9 => h9) rfl (by decide +kernel) rfl rfl (Nat.le_of_ble_eq_true rfl) dX7_further_129 (fun H locs hP hD hS => ?_)
          have hP : va_P G vwCl (MW cy a0 a1 a2 a3 a4 a5 a6 a7 ed tc nl nl nw x3 ps tm o4 ne pt) H := hP
          have hD : va_D A (MW cy a0 a1 a2 a3 a4 a5 a6 a7 ed tc nl nl nw x3 ps tm o4 ne pt) := hD
          refine lv_aload_n hx hb dX7_further_132 rfl (lv_at hl 0 rfl) ?_
          refine lv_aload_n hx hb dX7_further_133 rfl (lv_at hl 0 rfl) ?_
          refine va_get (D := G) (ci := 6) (v := .ref a2) (C := RX7) (T := TX7) (N := 11) hx hb hts (by decide +kernel) hown hK hP 0 rfl rfl 1 (by decide) (hts (.fieldLink RX7 13 "SturmianWordsModel" "next" "[I") (by decide +kernel)) (fun _ h9 => h9) rfl dX7_further_134 ?_
          refine lv_iconst (v := iZ 3) hx hb dX7_further_137 rfl ?_
          refine z_iald (D := G) hx hb hK hP 2 0 rfl rfl (by omega) dX7_further_138 ?_
          refine va_put (D := G) (ci := 6) (v := .int (iZ (x3 3))) (ty := .int) (C := RX7) (T := TX7) (N := 11) hx hb hts (by decide +kernel) tyX7 tyX7_ok nmX7 hown hK hP hD hS 0 rfl rfl 9 (by decide) (hts (.fieldLink RX7 72 "SturmianWordsModel" "newerLength" "I") (by decide +kernel)) (fun _ h9 => h9) rfl (by decide +kernel) rfl rfl (Nat.le_of_ble_eq_true rfl) dX7_further_139 (fun H locs hP hD hS => ?_)
          have hP : va_P G vwCl (MW cy a0 a1 a2 a3 a4 a5 a6 a7 ed tc nl (x3 3) nw x3 ps tm o4 ne pt) H := hP
          have hD : va_D A (MW cy a0 a1 a2 a3 a4 a5 a6 a7 ed tc nl (x3 3) nw x3 ps tm o4 ne pt) := hD
          refine lv_iconst (v := iZ 0) hx hb dX7_further_142 rfl ?_
          refine lv_istore_n (lv' := [(2, .int (iZ 0)), (0, .ref a0), (1, .int (iZ tm9))]) hx hb dX7_further_143 rfl hl (by decide) rfl (fun ls hl => ?_)
          refine z_loopH2 (nL := 4) (A := A) (fun (k5 : Int) (n5 : Int → Int) => [(0, .ref a0), (1, .int (iZ tm9)), (2, .int (iZ k5))]) (fun (k5 : Int) (n5 : Int → Int) (H : Heap) => ((0 ≤ k5 ∧ k5 ≤ x3 3) ∧ (∀ j, 0 ≤ j → j < k5 → n5 j = x3 (4 + j))) ∧ va_P G vwCl (MW cy a0 a1 a2 a3 a4 a5 a6 a7 ed tc nl (x3 3) nw x3 ps tm o4 n5 pt) H ∧ va_D A (MW cy a0 a1 a2 a3 a4 a5 a6 a7 ed tc nl (x3 3) nw x3 ps tm o4 n5 pt) ∧ Fh A s.heap H) (fun (k5 : Int) (n5 : Int → Int) => x3 3 - k5) (fun (k5 : Int) (n5 : Int → Int) => 0) (fun (k5 : Int) (n5 : Int → Int) => 0) (a1 := 0) (a2 := ne) ⟨⟨(by omega), (fun j q1 q2 => by omega)⟩, hP, hD, Fh.of hS⟩ hS.2.2 (lv_sub hl [1, 2, 0] rfl) ?_
          rintro k5 n5 H locs ⟨⟨n1, n2⟩, hP, hD, hFr⟩ hLc ih_144 ls hl
          have hS : va_S A s.heap H locs := Fh.S hFr hLc
          refine lv_iload_n hx hb dX7_further_144 rfl (lv_at hl 2 rfl) ?_
          refine lv_aload_n hx hb dX7_further_145 rfl (lv_at hl 0 rfl) ?_
          refine va_get (D := G) (ci := 6) (v := .int (iZ (x3 3))) (C := RX7) (T := TX7) (N := 11) hx hb hts (by decide +kernel) hown hK hP 0 rfl rfl 9 (by decide) (hts (.fieldLink RX7 72 "SturmianWordsModel" "newerLength" "I") (by decide +kernel)) (fun _ h9 => h9) rfl dX7_further_146 ?_
          refine z_icmp_ge (tgt := 172) hx hb dX7_further_149 (by decide) (by omega) (fun c_149 => ?_) (fun c_149 => ?_)
          · refine lv_iconst (v := iZ 1) hx hb dX7_further_172 rfl ?_
            exact z_zretE hx hb hr hlocks dX7_further_173 hS.2.2 ⟨(show 0 ≤ 0 by omega), (show 0 ≤ 0 by omega)⟩ ((bv_t hok).symm) ⟨nl, (x3 3), x3, o4, n5, (sI (bv_t hok).symm), (fun q => by have ht9 : t = tm9 := (by rcases hT with q | q; (· exact q); (· exfalso; omega)); subst ht9; exact ⟨l2, rfl, fun j q1 q2 => m2 j q1 (by omega), hl3, fun j q1 q2 => by rw [n2 j q1 (by omega)]; exact l2.2.2.2 j q1 q2 (by omega)⟩), (hP), (hD), Fh.of hS⟩
          · refine lv_aload_n hx hb dX7_further_152 rfl (lv_at hl 0 rfl) ?_
            refine va_get (D := G) (ci := 6) (v := .ref a6) (C := RX7) (T := TX7) (N := 11) hx hb hts (by decide +kernel) hown hK hP 0 rfl rfl 8 (by decide) (hts (.fieldLink RX7 25 "SturmianWordsModel" "newer" "[I") (by decide +kernel)) (fun _ h9 => h9) rfl dX7_further_153 ?_
            refine lv_iload_n hx hb dX7_further_156 rfl (lv_at hl 2 rfl) ?_
            refine lv_aload_n hx hb dX7_further_157 rfl (lv_at hl 0 rfl) ?_
            refine va_get (D := G) (ci := 6) (v := .ref a2) (C := RX7) (T := TX7) (N := 11) hx hb hts (by decide +kernel) hown hK hP 0 rfl rfl 1 (by decide) (hts (.fieldLink RX7 13 "SturmianWordsModel" "next" "[I") (by decide +kernel)) (fun _ h9 => h9) rfl dX7_further_158 ?_
            refine lv_iconst (v := iZ 4) hx hb dX7_further_161 rfl ?_
            refine lv_iload_n hx hb dX7_further_162 rfl (lv_at hl 2 rfl) ?_
            refine z_iadd hx hb dX7_further_163 ?_
            refine z_iald (D := G) hx hb hK hP 2 0 rfl rfl (by omega) dX7_further_164 ?_
            refine z_iast (D := G) hx hb hK hP hD hS 6 0 rfl rfl (by omega) dX7_further_165 (fun H locs hP hD hS => ?_)
            have hP : va_P G vwCl (MW cy a0 a1 a2 a3 a4 a5 a6 a7 ed tc nl (x3 3) nw x3 ps tm o4 (up1 n5 k5 (x3 (4 + k5))) pt) H := hP
            have hD : va_D A (MW cy a0 a1 a2 a3 a4 a5 a6 a7 ed tc nl (x3 3) nw x3 ps tm o4 (up1 n5 k5 (x3 (4 + k5))) pt) := hD
            refine lv_iinc (v := iZ (k5 + 1)) (lv' := [(2, .int (iZ (k5 + 1))), (0, .ref a0), (1, .int (iZ tm9))]) hx hb dX7_further_166 hl (k := 2) rfl (iZ_add _ _) (by decide) rfl (fun ls hl => ?_)
            refine lv_goto (tgt := 144) hx hb dX7_further_169 (by decide) ?_
            exact ih_144 (k5 + 1) (up1 n5 k5 (x3 (4 + k5))) _ _ ⟨⟨(by omega), (fun j q1 q2 => by by_cases q : j = k5; (· rw [q, up1_s]); (· rw [up1_n q]; exact n2 j q1 (by omega)))⟩, hP, hD, Fh.of hS⟩ hS.2.2 ⟨by omega, by omega⟩ _ (lv_sub hl [1, 2, 0] rfl)
        · refine lv_aload_n hx hb dX7_further_106 rfl (lv_at hl 0 rfl) ?_
          refine va_get (D := G) (ci := 6) (v := .ref a5) (C := RX7) (T := TX7) (N := 11) hx hb hts (by decide +kernel) hown hK hP 0 rfl rfl 6 (by decide) (hts (.fieldLink RX7 22 "SturmianWordsModel" "older" "[I") (by decide +kernel)) (fun _ h9 => h9) rfl dX7_further_107 ?_
          refine lv_iload_n hx hb dX7_further_110 rfl (lv_at hl 2 rfl) ?_
          refine lv_aload_n hx hb dX7_further_111 rfl (lv_at hl 0 rfl) ?_
          refine va_get (D := G) (ci := 6) (v := .ref a6) (C := RX7) (T := TX7) (N := 11) hx hb hts (by decide +kernel) hown hK hP 0 rfl rfl 8 (by decide) (hts (.fieldLink RX7 25 "SturmianWordsModel" "newer" "[I") (by decide +kernel)) (fun _ h9 => h9) rfl dX7_further_112 ?_
          refine lv_iload_n hx hb dX7_further_115 rfl (lv_at hl 2 rfl) ?_
          refine z_iald (D := G) hx hb hK hP 6 0 rfl rfl (by omega) dX7_further_116 ?_
          refine z_iast (D := G) hx hb hK hP hD hS 5 0 rfl rfl (by omega) dX7_further_117 (fun H locs hP hD hS => ?_)
          have hP : va_P G vwCl (MW cy a0 a1 a2 a3 a4 a5 a6 a7 ed tc ol nl nw x3 ps tm (up1 o4 k4 (ne k4)) ne pt) H := hP
          have hD : va_D A (MW cy a0 a1 a2 a3 a4 a5 a6 a7 ed tc ol nl nw x3 ps tm (up1 o4 k4 (ne k4)) ne pt) := hD
          refine lv_iinc (v := iZ (k4 + 1)) (lv' := [(2, .int (iZ (k4 + 1))), (0, .ref a0), (1, .int (iZ tm9))]) hx hb dX7_further_118 hl (k := 2) rfl (iZ_add _ _) (by decide) rfl (fun ls hl => ?_)
          refine lv_goto (tgt := 98) hx hb dX7_further_121 (by decide) ?_
          exact ih_98 (k4 + 1) (up1 o4 k4 (ne k4)) _ _ ⟨⟨(by omega), (fun j q1 q2 => by by_cases q : j = k4; (· rw [q, up1_s, hne k4 (by omega) (by omega)]); (· rw [up1_n q]; exact m2 j q1 (by omega)))⟩, hP, hD, Fh.of hS⟩ hS.2.2 ⟨by omega, by omega⟩ _ (lv_sub hl [1, 2, 0] rfl)
      · have hno : ¬ nl * tm9 + ol ≤ 60 := by rcases hT with q | q; (· rw [← q]; omega); (· omega)
        refine lv_iconst (v := iZ 0) hx hb dX7_further_94 rfl ?_
        exact z_zretE hx hb hr hlocks dX7_further_95 hS.2.2 ⟨(show 0 ≤ 0 by omega), (show 0 ≤ 0 by omega)⟩ ((bv_f hno).symm) ⟨ol, nl, x3, od, ne, (sI (bv_f hno).symm), (fun q => absurd q hno), (hP), (hD), Fh.of hS⟩
    · refine lv_aload_n hx hb dX7_further_67 rfl (lv_at hl 0 rfl) ?_
      refine lv_aload_n hx hb dX7_further_68 rfl (lv_at hl 0 rfl) ?_
      refine va_get (D := G) (ci := 6) (v := .ref a5) (C := RX7) (T := TX7) (N := 11) hx hb hts (by decide +kernel) hown hK hP 0 rfl rfl 6 (by decide) (hts (.fieldLink RX7 22 "SturmianWordsModel" "older" "[I") (by decide +kernel)) (fun _ h9 => h9) rfl dX7_further_69 ?_
      refine lv_iload_n hx hb dX7_further_72 rfl (lv_at hl 2 rfl) ?_
      refine z_iald (D := G) hx hb hK hP 5 0 rfl rfl (by omega) dX7_further_73 ?_
      have hPc := hP.sub (ws' := (MW cy a0 a1 a2 a3 a4 a5 a6 a7 ed tc ol nl nw x3 ps tm od ne pt)) [0, 1, 2, 3, 4, 5, 6, 7] rfl
      have hDc := (hD.sub (ws' := (MW cy a0 a1 a2 a3 a4 a5 a6 a7 ed tc ol nl nw x3 ps tm od ne pt)) [0, 1, 2, 3, 4, 5, 6, 7] (by decide) rfl).weaken (B := fun _ => True) (fun _ _ _ _ => trivial)
      have hFc := va_free (wc := (MW cy a0 a1 a2 a3 a4 a5 a6 a7 ed tc ol nl nw x3 ps tm od ne pt)) hD hS hA [0, 1, 2, 3, 4, 5, 6, 7] rfl
      refine z_callE (A := A) (va_runV (As := [.int (iZ (od k3))]) (rest := []) ⟨hx, hb, hml, hown, hts⟩ (c_X7_appendTo lau G cy a0 a1 a2 a3 a4 a5 a6 a7 H.size ed tc ol nl nw x3 ps tm od ne pt (od k3) (by have := l2.1; omega)) (cwV 1 hts gX7_further_X7_appendTo rfl rfl rfl (by decide +kernel) ⟨Nat.le_of_ble_eq_true rfl, Nat.le_of_ble_eq_true rfl⟩) ⟨P1_blind, va_recv hK hP (ci := 6) (q0 := 0) rfl rfl, P1_mk hKK (⟨rfl, hPc, hDc⟩)⟩ rfl rfl hl.1 rfl (lv_room (Nat.le_of_ble_eq_true rfl)) dX7_further_74 ⟨(show 0 + 0 ≤ 0 by omega), (show 0 + 0 ≤ 0 by omega)⟩) hS.2.2 hFc (fun v H1 locs1 hR hL1 => ?_)
      obtain ⟨rfl, hq74, hP1, hD1, hF1⟩ := hR
      obtain ⟨hP, hD⟩ := va_join (wr := []) (w1 := (MW cy a0 a1 a2 a3 a4 a5 a6 a7 ed tc ol nl nw (apX x3 (od k3)) ps tm od ne pt)) hP hD [0, 1, 2, 3, 4, 5, 6, 7] [] rfl rfl (by decide) (by decide) hF1.2 hFc hP1 hD1
      have hS : va_S A s.heap H1 locs1 := Fh.S ((Fh.of hS).tr hF1 (fun q _ h => hFc q h)) hL1
      clear hPc hDc hFc hP1 hD1 hF1 hL1
      generalize H1 = H at hP hS ⊢
      have hP : va_P G vwCl (MW cy a0 a1 a2 a3 a4 a5 a6 a7 ed tc ol nl nw (apX x3 (od k3)) ps tm od ne pt) H := hP
      have hD : va_D A (MW cy a0 a1 a2 a3 a4 a5 a6 a7 ed tc ol nl nw (apX x3 (od k3)) ps tm od ne pt) := hD
      refine W.eq (g2 := F0 mt 77 ls []) rfl ?_
      refine lv_iinc (v := iZ (k3 + 1)) (lv' := [(2, .int (iZ (k3 + 1))), (0, .ref a0), (1, .int (iZ tm9))]) hx hb dX7_further_77 hl (k := 2) rfl (iZ_add _ _) (by decide) rfl (fun ls hl => ?_)
      refine lv_goto (tgt := 59) hx hb dX7_further_80 (by decide) ?_
      exact ih_59 (k3 + 1) (apX x3 (od k3)) _ _ ⟨⟨(by omega), (by have e := l2.sn (v := ltr b ol k3) (by have := ltr_r b ol k3; omega); rw [ct_s hB9.1 (by omega) (by omega), Int.add_assoc] at e; rw [hod k3 (by omega) (by omega)]; exact e)⟩, hP, hD, Fh.of hS⟩ hS.2.2 ⟨by omega, by omega⟩ _ (lv_sub hl [1, 2, 0] rfl)
  · refine lv_aload_n hx hb dX7_further_14 rfl (lv_at hl 0 rfl) ?_
    refine va_get (D := G) (ci := 6) (v := .ref a2) (C := RX7) (T := TX7) (N := 11) hx hb hts (by decide +kernel) hown hK hP 0 rfl rfl 1 (by decide) (hts (.fieldLink RX7 13 "SturmianWordsModel" "next" "[I") (by decide +kernel)) (fun _ h9 => h9) rfl dX7_further_15 ?_
    refine lv_iconst (v := iZ 3) hx hb dX7_further_18 rfl ?_
    refine z_iald (D := G) hx hb hK hP 2 0 rfl rfl (by omega) dX7_further_19 ?_
    have hx1 := i2.1
    refine lv_bipush (v := iZ 60) hx hb dX7_further_20 (by decide +kernel) ?_
    refine z_icmp_gt (tgt := 57) hx hb dX7_further_22 (by decide) (by omega) (fun c_22 => ?_) (fun c_22 => ?_)
    · have hT : t = tm9 ∨ 60 < nl * t := by have := i2.1; omega
      refine lv_iconst (v := iZ 0) hx hb dX7_further_57 rfl ?_
      refine lv_istore_n (lv' := [(2, .int (iZ 0)), (0, .ref a0), (1, .int (iZ tm9))]) hx hb dX7_further_58 rfl hl (by decide) rfl (fun ls hl => ?_)
      refine z_loopH2 (nL := 4) (A := A) (fun (k3 : Int) (x3 : Int → Int) => [(0, .ref a0), (1, .int (iZ tm9)), (2, .int (iZ k3))]) (fun (k3 : Int) (x3 : Int → Int) (H : Heap) => ((0 ≤ k3 ∧ k3 ≤ ol) ∧ (RowIs x3 (rpB a nl t * pw k3 + fct b ol 0 k3) (nl * t + k3))) ∧ va_P G vwCl (MW cy a0 a1 a2 a3 a4 a5 a6 a7 ed tc ol nl nw x3 ps tm od ne pt) H ∧ va_D A (MW cy a0 a1 a2 a3 a4 a5 a6 a7 ed tc ol nl nw x3 ps tm od ne pt) ∧ Fh A s.heap H) (fun (k3 : Int) (x3 : Int → Int) => ol - k3) (fun (k3 : Int) (x3 : Int → Int) => 0) (fun (k3 : Int) (x3 : Int → Int) => 0) (a1 := 0) (a2 := x1) ⟨⟨(by omega), (by rw [pw_0, Int.mul_one, fct_0, Int.add_zero, Int.add_zero]; exact i2)⟩, hP, hD, Fh.of hS⟩ hS.2.2 (lv_sub hl [1, 2, 0] rfl) ?_
      rintro k3 x3 H locs ⟨⟨l1, l2⟩, hP, hD, hFr⟩ hLc ih_59 ls hl
      have hS : va_S A s.heap H locs := Fh.S hFr hLc
      refine lv_iload_n hx hb dX7_further_59 rfl (lv_at hl 2 rfl) ?_
      refine lv_aload_n hx hb dX7_further_60 rfl (lv_at hl 0 rfl) ?_
      refine va_get (D := G) (ci := 6) (v := .int (iZ ol)) (C := RX7) (T := TX7) (N := 11) hx hb hts (by decide +kernel) hown hK hP 0 rfl rfl 7 (by decide) (hts (.fieldLink RX7 79 "SturmianWordsModel" "olderLength" "I") (by decide +kernel)) (fun _ h9 => h9) rfl dX7_further_61 ?_
      refine z_icmp_ge (tgt := 83) hx hb dX7_further_64 (by decide) (by omega) (fun c_64 => ?_) (fun c_64 => ?_)
      · have hk3 : k3 = ol := by omega
        rw [hk3, fct_n hB9] at l2
        have hl3 := l2.1
        have hmul : nl * t ≤ nl * tm9 := Int.mul_le_mul_of_nonneg_left (by omega) (by omega)
        refine lv_aload_n hx hb dX7_further_83 rfl (lv_at hl 0 rfl) ?_
        refine va_get (D := G) (ci := 6) (v := .ref a2) (C := RX7) (T := TX7) (N := 11) hx hb hts (by decide +kernel) hown hK hP 0 rfl rfl 1 (by decide) (hts (.fieldLink RX7 13 "SturmianWordsModel" "next" "[I") (by decide +kernel)) (fun _ h9 => h9) rfl dX7_further_84 ?_
        refine lv_iconst (v := iZ 3) hx hb dX7_further_87 rfl ?_
        refine z_iald (D := G) hx hb hK hP 2 0 rfl rfl (by omega) dX7_further_88 ?_
        refine lv_bipush (v := iZ 60) hx hb dX7_further_89 (by decide +kernel) ?_
        refine z_icmp_le (tgt := 96) hx hb dX7_further_91 (by decide) (by omega) (fun c_91 => ?_) (fun c_91 => ?_)
        · have hok : nl * tm9 + ol ≤ 60 := by rcases hT with q | q; (· rw [← q]; omega); (· exfalso; omega)
          refine lv_iconst (v := iZ 0) hx hb dX7_further_96 rfl ?_
          refine lv_istore_n (lv' := [(2, .int (iZ 0)), (0, .ref a0), (1, .int (iZ tm9))]) hx hb dX7_further_97 rfl hl (by decide) rfl (fun ls hl => ?_)
          refine z_loopH2 (nL := 4) (A := A) (fun (k4 : Int) (o4 : Int → Int) => [(0, .ref a0), (1, .int (iZ tm9)), (2, .int (iZ k4))]) (fun (k4 : Int) (o4 : Int → Int) (H : Heap) => ((0 ≤ k4 ∧ k4 ≤ nl) ∧ (∀ j, 0 ≤ j → j < k4 → o4 j = ltr a nl j)) ∧ va_P G vwCl (MW cy a0 a1 a2 a3 a4 a5 a6 a7 ed tc ol nl nw x3 ps tm o4 ne pt) H ∧ va_D A (MW cy a0 a1 a2 a3 a4 a5 a6 a7 ed tc ol nl nw x3 ps tm o4 ne pt) ∧ Fh A s.heap H) (fun (k4 : Int) (o4 : Int → Int) => nl - k4) (fun (k4 : Int) (o4 : Int → Int) => 0) (fun (k4 : Int) (o4 : Int → Int) => 0) (a1 := 0) (a2 := od) ⟨⟨(by omega), (fun j q1 q2 => by omega)⟩, hP, hD, Fh.of hS⟩ hS.2.2 (lv_sub hl [1, 2, 0] rfl) ?_
          rintro k4 o4 H locs ⟨⟨m1, m2⟩, hP, hD, hFr⟩ hLc ih_98 ls hl
          have hS : va_S A s.heap H locs := Fh.S hFr hLc
          refine lv_iload_n hx hb dX7_further_98 rfl (lv_at hl 2 rfl) ?_
          refine lv_aload_n hx hb dX7_further_99 rfl (lv_at hl 0 rfl) ?_
          refine va_get (D := G) (ci := 6) (v := .int (iZ nl)) (C := RX7) (T := TX7) (N := 11) hx hb hts (by decide +kernel) hown hK hP 0 rfl rfl 9 (by decide) (hts (.fieldLink RX7 72 "SturmianWordsModel" "newerLength" "I") (by decide +kernel)) (fun _ h9 => h9) rfl dX7_further_100 ?_
          refine z_icmp_ge (tgt := 124) hx hb dX7_further_103 (by decide) (by omega) (fun c_103 => ?_) (fun c_103 => ?_)
          · refine lv_aload_n hx hb dX7_further_124 rfl (lv_at hl 0 rfl) ?_
            refine lv_aload_n hx hb dX7_further_125 rfl (lv_at hl 0 rfl) ?_
            refine va_get (D := G) (ci := 6) (v := .int (iZ nl)) (C := RX7) (T := TX7) (N := 11) hx hb hts (by decide +kernel) hown hK hP 0 rfl rfl 9 (by decide) (hts (.fieldLink RX7 72 "SturmianWordsModel" "newerLength" "I") (by decide +kernel)) (fun _ h9 => h9) rfl dX7_further_126 ?_
            refine va_put (D := G) (ci := 6) (v := .int (iZ nl)) (ty := .int) (C := RX7) (T := TX7) (N := 11) hx hb hts (by decide +kernel) tyX7 tyX7_ok nmX7 hown hK hP hD hS 0 rfl rfl 7 (by decide) (hts (.fieldLink RX7 79 "SturmianWordsModel" "olderLength" "I") (by decide +kernel)) (fun _ h9 => h9) rfl (by decide +kernel) rfl rfl (Nat.le_of_ble_eq_true rfl) dX7_further_129 (fun H locs hP hD hS => ?_)
            have hP : va_P G vwCl (MW cy a0 a1 a2 a3 a4 a5 a6 a7 ed tc nl nl nw x3 ps tm o4 ne pt) H := hP
            have hD : va_D A (MW cy a0 a1 a2 a3 a4 a5 a6 a7 ed tc nl nl nw x3 ps tm o4 ne pt) := hD
            refine lv_aload_n hx hb dX7_further_132 rfl (lv_at hl 0 rfl) ?_
            refine lv_aload_n hx hb dX7_further_133 rfl (lv_at hl 0 rfl) ?_
            refine va_get (D := G) (ci := 6) (v := .ref a2) (C := RX7) (T := TX7) (N := 11) hx hb hts (by decide +kernel) hown hK hP 0 rfl rfl 1 (by decide) (hts (.fieldLink RX7 13 "SturmianWordsModel" "next" "[I") (by decide +kernel)) (fun _ h9 => h9) rfl dX7_further_134 ?_
            refine lv_iconst (v := iZ 3) hx hb dX7_further_137 rfl ?_
            refine z_iald (D := G) hx hb hK hP 2 0 rfl rfl (by omega) dX7_further_138 ?_
            refine va_put (D := G) (ci := 6) (v := .int (iZ (x3 3))) (ty := .int) (C := RX7) (T := TX7) (N := 11) hx hb hts (by decide +kernel) tyX7 tyX7_ok nmX7 hown hK hP hD hS 0 rfl rfl 9 (by decide) (hts (.fieldLink RX7 72 "SturmianWordsModel" "newerLength" "I") (by decide +kernel)) (fun _ h9 => h9) rfl (by decide +kernel) rfl rfl (Nat.le_of_ble_eq_true rfl) dX7_further_139 (fun H locs hP hD hS => ?_)
            have hP : va_P G vwCl (MW cy a0 a1 a2 a3 a4 a5 a6 a7 ed tc nl (x3 3) nw x3 ps tm o4 ne pt) H := hP
            have hD : va_D A (MW cy a0 a1 a2 a3 a4 a5 a6 a7 ed tc nl (x3 3) nw x3 ps tm o4 ne pt) := hD
            refine lv_iconst (v := iZ 0) hx hb dX7_further_142 rfl ?_
            refine lv_istore_n (lv' := [(2, .int (iZ 0)), (0, .ref a0), (1, .int (iZ tm9))]) hx hb dX7_further_143 rfl hl (by decide) rfl (fun ls hl => ?_)
            refine z_loopH2 (nL := 4) (A := A) (fun (k5 : Int) (n5 : Int → Int) => [(0, .ref a0), (1, .int (iZ tm9)), (2, .int (iZ k5))]) (fun (k5 : Int) (n5 : Int → Int) (H : Heap) => ((0 ≤ k5 ∧ k5 ≤ x3 3) ∧ (∀ j, 0 ≤ j → j < k5 → n5 j = x3 (4 + j))) ∧ va_P G vwCl (MW cy a0 a1 a2 a3 a4 a5 a6 a7 ed tc nl (x3 3) nw x3 ps tm o4 n5 pt) H ∧ va_D A (MW cy a0 a1 a2 a3 a4 a5 a6 a7 ed tc nl (x3 3) nw x3 ps tm o4 n5 pt) ∧ Fh A s.heap H) (fun (k5 : Int) (n5 : Int → Int) => x3 3 - k5) (fun (k5 : Int) (n5 : Int → Int) => 0) (fun (k5 : Int) (n5 : Int → Int) => 0) (a1 := 0) (a2 := ne) ⟨⟨(by omega), (fun j q1 q2 => by omega)⟩, hP, hD, Fh.of hS⟩ hS.2.2 (lv_sub hl [1, 2, 0] rfl) ?_
            rintro k5 n5 H locs ⟨⟨n1, n2⟩, hP, hD, hFr⟩ hLc ih_144 ls hl
            have hS : va_S A s.heap H locs := Fh.S hFr hLc
            refine lv_iload_n hx hb dX7_further_144 rfl (lv_at hl 2 rfl) ?_
            refine lv_aload_n hx hb dX7_further_145 rfl (lv_at hl 0 rfl) ?_
            refine va_get (D := G) (ci := 6) (v := .int (iZ (x3 3))) (C := RX7) (T := TX7) (N := 11) hx hb hts (by decide +kernel) hown hK hP 0 rfl rfl 9 (by decide) (hts (.fieldLink RX7 72 "SturmianWordsModel" "newerLength" "I") (by decide +kernel)) (fun _ h9 => h9) rfl dX7_further_146 ?_
            refine z_icmp_ge (tgt := 172) hx hb dX7_further_149 (by decide) (by omega) (fun c_149 => ?_) (fun c_149 => ?_)
            · refine lv_iconst (v := iZ 1) hx hb dX7_further_172 rfl ?_
              exact z_zretE hx hb hr hlocks dX7_further_173 hS.2.2 ⟨(show 0 ≤ 0 by omega), (show 0 ≤ 0 by omega)⟩ ((bv_t hok).symm) ⟨nl, (x3 3), x3, o4, n5, (sI (bv_t hok).symm), (fun q => by have ht9 : t = tm9 := (by rcases hT with q | q; (· exact q); (· exfalso; omega)); subst ht9; exact ⟨l2, rfl, fun j q1 q2 => m2 j q1 (by omega), hl3, fun j q1 q2 => by rw [n2 j q1 (by omega)]; exact l2.2.2.2 j q1 q2 (by omega)⟩), (hP), (hD), Fh.of hS⟩
            · refine lv_aload_n hx hb dX7_further_152 rfl (lv_at hl 0 rfl) ?_
              refine va_get (D := G) (ci := 6) (v := .ref a6) (C := RX7) (T := TX7) (N := 11) hx hb hts (by decide +kernel) hown hK hP 0 rfl rfl 8 (by decide) (hts (.fieldLink RX7 25 "SturmianWordsModel" "newer" "[I") (by decide +kernel)) (fun _ h9 => h9) rfl dX7_further_153 ?_
              refine lv_iload_n hx hb dX7_further_156 rfl (lv_at hl 2 rfl) ?_
              refine lv_aload_n hx hb dX7_further_157 rfl (lv_at hl 0 rfl) ?_
              refine va_get (D := G) (ci := 6) (v := .ref a2) (C := RX7) (T := TX7) (N := 11) hx hb hts (by decide +kernel) hown hK hP 0 rfl rfl 1 (by decide) (hts (.fieldLink RX7 13 "SturmianWordsModel" "next" "[I") (by decide +kernel)) (fun _ h9 => h9) rfl dX7_further_158 ?_
              refine lv_iconst (v := iZ 4) hx hb dX7_further_161 rfl ?_
              refine lv_iload_n hx hb dX7_further_162 rfl (lv_at hl 2 rfl) ?_
              refine z_iadd hx hb dX7_further_163 ?_
              refine z_iald (D := G) hx hb hK hP 2 0 rfl rfl (by omega) dX7_further_164 ?_
              refine z_iast (D := G) hx hb hK hP hD hS 6 0 rfl rfl (by omega) dX7_further_165 (fun H locs hP hD hS => ?_)
              have hP : va_P G vwCl (MW cy a0 a1 a2 a3 a4 a5 a6 a7 ed tc nl (x3 3) nw x3 ps tm o4 (up1 n5 k5 (x3 (4 + k5))) pt) H := hP
              have hD : va_D A (MW cy a0 a1 a2 a3 a4 a5 a6 a7 ed tc nl (x3 3) nw x3 ps tm o4 (up1 n5 k5 (x3 (4 + k5))) pt) := hD
              refine lv_iinc (v := iZ (k5 + 1)) (lv' := [(2, .int (iZ (k5 + 1))), (0, .ref a0), (1, .int (iZ tm9))]) hx hb dX7_further_166 hl (k := 2) rfl (iZ_add _ _) (by decide) rfl (fun ls hl => ?_)
              refine lv_goto (tgt := 144) hx hb dX7_further_169 (by decide) ?_
              exact ih_144 (k5 + 1) (up1 n5 k5 (x3 (4 + k5))) _ _ ⟨⟨(by omega), (fun j q1 q2 => by by_cases q : j = k5; (· rw [q, up1_s]); (· rw [up1_n q]; exact n2 j q1 (by omega)))⟩, hP, hD, Fh.of hS⟩ hS.2.2 ⟨by omega, by omega⟩ _ (lv_sub hl [1, 2, 0] rfl)
          · refine lv_aload_n hx hb dX7_further_106 rfl (lv_at hl 0 rfl) ?_
            refine va_get (D := G) (ci := 6) (v := .ref a5) (C := RX7) (T := TX7) (N := 11) hx hb hts (by decide +kernel) hown hK hP 0 rfl rfl 6 (by decide) (hts (.fieldLink RX7 22 "SturmianWordsModel" "older" "[I") (by decide +kernel)) (fun _ h9 => h9) rfl dX7_further_107 ?_
            refine lv_iload_n hx hb dX7_further_110 rfl (lv_at hl 2 rfl) ?_
            refine lv_aload_n hx hb dX7_further_111 rfl (lv_at hl 0 rfl) ?_
            refine va_get (D := G) (ci := 6) (v := .ref a6) (C := RX7) (T := TX7) (N := 11) hx hb hts (by decide +kernel) hown hK hP 0 rfl rfl 8 (by decide) (hts (.fieldLink RX7 25 "SturmianWordsModel" "newer" "[I") (by decide +kernel)) (fun _ h9 => h9) rfl dX7_further_112 ?_
            refine lv_iload_n hx hb dX7_further_115 rfl (lv_at hl 2 rfl) ?_
            refine z_iald (D := G) hx hb hK hP 6 0 rfl rfl (by omega) dX7_further_116 ?_
            refine z_iast (D := G) hx hb hK hP hD hS 5 0 rfl rfl (by omega) dX7_further_117 (fun H locs hP hD hS => ?_)
            have hP : va_P G vwCl (MW cy a0 a1 a2 a3 a4 a5 a6 a7 ed tc ol nl nw x3 ps tm (up1 o4 k4 (ne k4)) ne pt) H := hP
            have hD : va_D A (MW cy a0 a1 a2 a3 a4 a5 a6 a7 ed tc ol nl nw x3 ps tm (up1 o4 k4 (ne k4)) ne pt) := hD
            refine lv_iinc (v := iZ (k4 + 1)) (lv' := [(2, .int (iZ (k4 + 1))), (0, .ref a0), (1, .int (iZ tm9))]) hx hb dX7_further_118 hl (k := 2) rfl (iZ_add _ _) (by decide) rfl (fun ls hl => ?_)
            refine lv_goto (tgt := 98) hx hb dX7_further_121 (by decide) ?_
            exact ih_98 (k4 + 1) (up1 o4 k4 (ne k4)) _ _ ⟨⟨(by omega), (fun j q1 q2 => by by_cases q : j = k4; (· rw [q, up1_s, hne k4 (by omega) (by omega)]); (· rw [up1_n q]; exact m2 j q1 (by omega)))⟩, hP, hD, Fh.of hS⟩ hS.2.2 ⟨by omega, by omega⟩ _ (lv_sub hl [1, 2, 0] rfl)
        · have hno : ¬ nl * tm9 + ol ≤ 60 := by rcases hT with q | q; (· rw [← q]; omega); (· omega)
          refine lv_iconst (v := iZ 0) hx hb dX7_further_94 rfl ?_
          exact z_zretE hx hb hr hlocks dX7_further_95 hS.2.2 ⟨(show 0 ≤ 0 by omega), (show 0 ≤ 0 by omega)⟩ ((bv_f hno).symm) ⟨ol, nl, x3, od, ne, (sI (bv_f hno).symm), (fun q => absurd q hno), (hP), (hD), Fh.of hS⟩
      · refine lv_aload_n hx hb dX7_further_67 rfl (lv_at hl 0 rfl) ?_
        refine lv_aload_n hx hb dX7_further_68 rfl (lv_at hl 0 rfl) ?_
        refine va_get (D := G) (ci := 6) (v := .ref a5) (C := RX7) (T := TX7) (N := 11) hx hb hts (by decide +kernel) hown hK hP 0 rfl rfl 6 (by decide) (hts (.fieldLink RX7 22 "SturmianWordsModel" "older" "[I") (by decide +kernel)) (fun _ h9 => h9) rfl dX7_further_69 ?_
        refine lv_iload_n hx hb dX7_further_72 rfl (lv_at hl 2 rfl) ?_
        refine z_iald (D := G) hx hb hK hP 5 0 rfl rfl (by omega) dX7_further_73 ?_
        have hPc := hP.sub (ws' := (MW cy a0 a1 a2 a3 a4 a5 a6 a7 ed tc ol nl nw x3 ps tm od ne pt)) [0, 1, 2, 3, 4, 5, 6, 7] rfl
        have hDc := (hD.sub (ws' := (MW cy a0 a1 a2 a3 a4 a5 a6 a7 ed tc ol nl nw x3 ps tm od ne pt)) [0, 1, 2, 3, 4, 5, 6, 7] (by decide) rfl).weaken (B := fun _ => True) (fun _ _ _ _ => trivial)
        have hFc := va_free (wc := (MW cy a0 a1 a2 a3 a4 a5 a6 a7 ed tc ol nl nw x3 ps tm od ne pt)) hD hS hA [0, 1, 2, 3, 4, 5, 6, 7] rfl
        refine z_callE (A := A) (va_runV (As := [.int (iZ (od k3))]) (rest := []) ⟨hx, hb, hml, hown, hts⟩ (c_X7_appendTo lau G cy a0 a1 a2 a3 a4 a5 a6 a7 H.size ed tc ol nl nw x3 ps tm od ne pt (od k3) (by have := l2.1; omega)) (cwV 1 hts gX7_further_X7_appendTo rfl rfl rfl (by decide +kernel) ⟨Nat.le_of_ble_eq_true rfl, Nat.le_of_ble_eq_true rfl⟩) ⟨P1_blind, va_recv hK hP (ci := 6) (q0 := 0) rfl rfl, P1_mk hKK (⟨rfl, hPc, hDc⟩)⟩ rfl rfl hl.1 rfl (lv_room (Nat.le_of_ble_eq_true rfl)) dX7_further_74 ⟨(show 0 + 0 ≤ 0 by omega), (show 0 + 0 ≤ 0 by omega)⟩) hS.2.2 hFc (fun v H1 locs1 hR hL1 => ?_)
        obtain ⟨rfl, hq74, hP1, hD1, hF1⟩ := hR
        obtain ⟨hP, hD⟩ := va_join (wr := []) (w1 := (MW cy a0 a1 a2 a3 a4 a5 a6 a7 ed tc ol nl nw (apX x3 (od k3)) ps tm od ne pt)) hP hD [0, 1, 2, 3, 4, 5, 6, 7] [] rfl rfl (by decide) (by decide) hF1.2 hFc hP1 hD1
        have hS : va_S A s.heap H1 locs1 := Fh.S ((Fh.of hS).tr hF1 (fun q _ h => hFc q h)) hL1
        clear hPc hDc hFc hP1 hD1 hF1 hL1
        generalize H1 = H at hP hS ⊢
        have hP : va_P G vwCl (MW cy a0 a1 a2 a3 a4 a5 a6 a7 ed tc ol nl nw (apX x3 (od k3)) ps tm od ne pt) H := hP
        have hD : va_D A (MW cy a0 a1 a2 a3 a4 a5 a6 a7 ed tc ol nl nw (apX x3 (od k3)) ps tm od ne pt) := hD
        refine W.eq (g2 := F0 mt 77 ls []) rfl ?_
        refine lv_iinc (v := iZ (k3 + 1)) (lv' := [(2, .int (iZ (k3 + 1))), (0, .ref a0), (1, .int (iZ tm9))]) hx hb dX7_further_77 hl (k := 2) rfl (iZ_add _ _) (by decide) rfl (fun ls hl => ?_)
        refine lv_goto (tgt := 59) hx hb dX7_further_80 (by decide) ?_
        exact ih_59 (k3 + 1) (apX x3 (od k3)) _ _ ⟨⟨(by omega), (by have e := l2.sn (v := ltr b ol k3) (by have := ltr_r b ol k3; omega); rw [ct_s hB9.1 (by omega) (by omega), Int.add_assoc] at e; rw [hod k3 (by omega) (by omega)]; exact e)⟩, hP, hD, Fh.of hS⟩ hS.2.2 ⟨by omega, by omega⟩ _ (lv_sub hl [1, 2, 0] rfl)
    · refine lv_iconst (v := iZ 0) hx hb dX7_further_25 rfl ?_
      refine lv_istore_n (lv' := [(3, .int (iZ 0)), (0, .ref a0), (1, .int (iZ tm9)), (2, .int (iZ t))]) hx hb dX7_further_26 rfl hl (by decide) rfl (fun ls hl => ?_)
      refine z_loopH2 (nL := 4) (A := A) (fun (k : Int) (x2 : Int → Int) => [(0, .ref a0), (1, .int (iZ tm9)), (2, .int (iZ t)), (3, .int (iZ k))]) (fun (k : Int) (x2 : Int → Int) (H : Heap) => ((0 ≤ k ∧ k ≤ nl) ∧ (RowIs x2 (rpB a nl t * pw k + fct a nl 0 k) (nl * t + k))) ∧ va_P G vwCl (MW cy a0 a1 a2 a3 a4 a5 a6 a7 ed tc ol nl nw x2 ps tm od ne pt) H ∧ va_D A (MW cy a0 a1 a2 a3 a4 a5 a6 a7 ed tc ol nl nw x2 ps tm od ne pt) ∧ Fh A s.heap H) (fun (k : Int) (x2 : Int → Int) => nl - k) (fun (k : Int) (x2 : Int → Int) => 0) (fun (k : Int) (x2 : Int → Int) => 0) (a1 := 0) (a2 := x1) ⟨⟨(by omega), (by rw [pw_0, Int.mul_one, fct_0, Int.add_zero, Int.add_zero]; exact i2)⟩, hP, hD, Fh.of hS⟩ hS.2.2 (lv_sub hl [1, 2, 3, 0] rfl) ?_
      rintro k x2 H locs ⟨⟨j1, j2⟩, hP, hD, hFr⟩ hLc ih_27 ls hl
      have hS : va_S A s.heap H locs := Fh.S hFr hLc
      refine lv_iload_n hx hb dX7_further_27 rfl (lv_at hl 3 rfl) ?_
      refine lv_aload_n hx hb dX7_further_28 rfl (lv_at hl 0 rfl) ?_
      refine va_get (D := G) (ci := 6) (v := .int (iZ nl)) (C := RX7) (T := TX7) (N := 11) hx hb hts (by decide +kernel) hown hK hP 0 rfl rfl 9 (by decide) (hts (.fieldLink RX7 72 "SturmianWordsModel" "newerLength" "I") (by decide +kernel)) (fun _ h9 => h9) rfl dX7_further_29 ?_
      refine z_icmp_ge (tgt := 51) hx hb dX7_further_32 (by decide) (by omega) (fun c_32 => ?_) (fun c_32 => ?_)
      · refine lv_iinc (v := iZ (t + 1)) (lv' := [(2, .int (iZ (t + 1))), (0, .ref a0), (1, .int (iZ tm9)), (3, .int (iZ k))]) hx hb dX7_further_51 hl (k := 2) rfl (iZ_add _ _) (by decide) rfl (fun ls hl => ?_)
        refine lv_goto (tgt := 9) hx hb dX7_further_54 (by decide) ?_
        exact ih_9 (t + 1) x2 _ _ ⟨⟨(by omega), (by rw [rpB_s (by omega), Int.mul_add, Int.mul_one]; have e := j2; rw [show k = nl by omega, fct_n ha] at e; exact e), (by rw [Int.mul_add, Int.mul_one]; omega)⟩, hP, hD, Fh.of hS⟩ hS.2.2 ⟨by omega, by omega⟩ _ (lv_sub hl [1, 2, 0] rfl)
      · refine lv_aload_n hx hb dX7_further_35 rfl (lv_at hl 0 rfl) ?_
        refine lv_aload_n hx hb dX7_further_36 rfl (lv_at hl 0 rfl) ?_
        refine va_get (D := G) (ci := 6) (v := .ref a6) (C := RX7) (T := TX7) (N := 11) hx hb hts (by decide +kernel) hown hK hP 0 rfl rfl 8 (by decide) (hts (.fieldLink RX7 25 "SturmianWordsModel" "newer" "[I") (by decide +kernel)) (fun _ h9 => h9) rfl dX7_further_37 ?_
        refine lv_iload_n hx hb dX7_further_40 rfl (lv_at hl 3 rfl) ?_
        refine z_iald (D := G) hx hb hK hP 6 0 rfl rfl (by omega) dX7_further_41 ?_
        have hPc := hP.sub (ws' := (MW cy a0 a1 a2 a3 a4 a5 a6 a7 ed tc ol nl nw x2 ps tm od ne pt)) [0, 1, 2, 3, 4, 5, 6, 7] rfl
        have hDc := (hD.sub (ws' := (MW cy a0 a1 a2 a3 a4 a5 a6 a7 ed tc ol nl nw x2 ps tm od ne pt)) [0, 1, 2, 3, 4, 5, 6, 7] (by decide) rfl).weaken (B := fun _ => True) (fun _ _ _ _ => trivial)
        have hFc := va_free (wc := (MW cy a0 a1 a2 a3 a4 a5 a6 a7 ed tc ol nl nw x2 ps tm od ne pt)) hD hS hA [0, 1, 2, 3, 4, 5, 6, 7] rfl
        refine z_callE (A := A) (va_runV (As := [.int (iZ (ne k))]) (rest := []) ⟨hx, hb, hml, hown, hts⟩ (c_X7_appendTo lau G cy a0 a1 a2 a3 a4 a5 a6 a7 H.size ed tc ol nl nw x2 ps tm od ne pt (ne k) (by have := j2.1; omega)) (cwV 1 hts gX7_further_X7_appendTo rfl rfl rfl (by decide +kernel) ⟨Nat.le_of_ble_eq_true rfl, Nat.le_of_ble_eq_true rfl⟩) ⟨P1_blind, va_recv hK hP (ci := 6) (q0 := 0) rfl rfl, P1_mk hKK (⟨rfl, hPc, hDc⟩)⟩ rfl rfl hl.1 rfl (lv_room (Nat.le_of_ble_eq_true rfl)) dX7_further_42 ⟨(show 0 + 0 ≤ 0 by omega), (show 0 + 0 ≤ 0 by omega)⟩) hS.2.2 hFc (fun v H1 locs1 hR hL1 => ?_)
        obtain ⟨rfl, hq42, hP1, hD1, hF1⟩ := hR
        obtain ⟨hP, hD⟩ := va_join (wr := []) (w1 := (MW cy a0 a1 a2 a3 a4 a5 a6 a7 ed tc ol nl nw (apX x2 (ne k)) ps tm od ne pt)) hP hD [0, 1, 2, 3, 4, 5, 6, 7] [] rfl rfl (by decide) (by decide) hF1.2 hFc hP1 hD1
        have hS : va_S A s.heap H1 locs1 := Fh.S ((Fh.of hS).tr hF1 (fun q _ h => hFc q h)) hL1
        clear hPc hDc hFc hP1 hD1 hF1 hL1
        generalize H1 = H at hP hS ⊢
        have hP : va_P G vwCl (MW cy a0 a1 a2 a3 a4 a5 a6 a7 ed tc ol nl nw (apX x2 (ne k)) ps tm od ne pt) H := hP
        have hD : va_D A (MW cy a0 a1 a2 a3 a4 a5 a6 a7 ed tc ol nl nw (apX x2 (ne k)) ps tm od ne pt) := hD
        refine W.eq (g2 := F0 mt 45 ls []) rfl ?_
        refine lv_iinc (v := iZ (k + 1)) (lv' := [(3, .int (iZ (k + 1))), (0, .ref a0), (1, .int (iZ tm9)), (2, .int (iZ t))]) hx hb dX7_further_45 hl (k := 3) rfl (iZ_add _ _) (by decide) rfl (fun ls hl => ?_)
        refine lv_goto (tgt := 27) hx hb dX7_further_48 (by decide) ?_
        exact ih_27 (k + 1) (apX x2 (ne k)) _ _ ⟨⟨(by omega), (by have e := j2.sn (v := ltr a nl k) (by have := ltr_r a nl k; omega); rw [ct_s ha.1 (by omega) (by omega), Int.add_assoc] at e; rw [hne k (by omega) (by omega)]; exact e)⟩, hP, hD, Fh.of hS⟩ hS.2.2 ⟨by omega, by omega⟩ _ (lv_sub hl [1, 2, 3, 0] rfl)
