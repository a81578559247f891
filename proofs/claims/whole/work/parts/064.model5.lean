set_option maxHeartbeats 4000000 in
set_option maxRecDepth 100000 in
theorem c_X7_applyMorphism_no (lau : Launch) (G : va_G) (cy : Nat → ClassId) (a0 a1 a2 a3 a4 a5 a6 a7 : Nat) (sz : Nat) (ed tc ol nl : Int) (nw nx ps tm od ne pt : Int → Int) (mo : Int) (h1 : -2147483648 ≤ mo ∧ mo < 2147483648) (h2 : ¬ (0 ≤ mo ∧ mo ≤ 4)) : Met lau yX7_applyMorphism wsX7_applyMorphism ({ frames := 3, cells := 0, slots := 0, locals := 65 }) (P1 G cy [.ref a0, .int (iZ mo)] (fun H => H.size = sz ∧ va_P G vwCl (MW cy a0 a1 a2 a3 a4 a5 a6 a7 ed tc ol nl nw nx ps tm od ne pt) H ∧ va_D (fun _ => True) (MW cy a0 a1 a2 a3 a4 a5 a6 a7 ed tc ol nl nw nx ps tm od ne pt))) (Q1 (fun rv H0 H1 => rv = some (.int (iZ (-1))) ∧ (True) ∧ va_P G vwCl (MW cy a0 a1 a2 a3 a4 a5 a6 a7 ed tc ol nl nw nx ps tm od ne pt) H1 ∧ va_D (va_A (MW cy a0 a1 a2 a3 a4 a5 a6 a7 ed tc ol nl nw nx ps tm od ne pt) sz) (MW cy a0 a1 a2 a3 a4 a5 a6 a7 ed tc ol nl nw nx ps tm od ne pt) ∧ Fh (va_A (MW cy a0 a1 a2 a3 a4 a5 a6 a7 ed tc ol nl nw nx ps tm od ne pt) sz) H0 H1)) 0 0 (va_A (MW cy a0 a1 a2 a3 a4 a5 a6 a7 ed tc ol nl nw nx ps tm od ne pt) sz) := by
  refine z_head (lv := [(0, .ref a0), (1, .int (iZ mo))]) RX7 (by decide) rfl rfl (Nat.le_of_ble_eq_true rfl) rfl ?_
  intro pr ev s mt below meth cd ls hx hb hr hlocks hml hown hname hts hKK hP hl
  have hK := hKK.1
  obtain ⟨hsz, hP, hD0⟩ := hP
  subst hsz
  have hD := hD0.self (sz := s.heap.size)
  generalize hAe : va_A (MW cy a0 a1 a2 a3 a4 a5 a6 a7 ed tc ol nl nw nx ps tm od ne pt) s.heap.size = A at hD ⊢
  have hA : ∀ q : Nat, s.heap.size ≤ q → A q := fun q h => by rw [← hAe]; exact Or.inr h
  have hS : va_S A s.heap s.heap [] := va_S.rf
  have hP : va_P G vwCl (MW cy a0 a1 a2 a3 a4 a5 a6 a7 ed tc ol nl nw nx ps tm od ne pt) s.heap := hP
  refine lv_iload_n hx hb dX7_applyMorphism_0 rfl (lv_at hl 1 rfl) ?_
  refine lv_iconst (v := iZ 0) hx hb dX7_applyMorphism_1 rfl ?_
  refine lv_iconst (v := iZ 4) hx hb dX7_applyMorphism_2 rfl ?_
  refine z_calli (va_runS (As := [.int (iZ mo), .int (iZ 0), .int (iZ 4)]) (rest := []) ⟨hx, hb, hml, hown, hts⟩ (c_X7_in lau G cy mo 0 4 (by first | assumption | omega)) (va_cwS 3 hts gX7_applyMorphism_X7_in rfl rfl rfl (by decide +kernel) ⟨Nat.le_of_ble_eq_true rfl, Nat.le_of_ble_eq_true rfl⟩) ⟨P1_blind, P1_mk hKK (trivial)⟩ rfl rfl hl.1 rfl (lv_room (Nat.le_of_ble_eq_true rfl)) dX7_applyMorphism_3 ⟨(show 0 + 0 ≤ 0 by omega), (show 0 + 0 ≤ 0 by omega)⟩) ?_
  refine z_ifB_ne (tgt := 11) hx hb dX7_applyMorphism_6 (by decide) (fun c_6 => ?_) (fun c_6 => ?_)
  · exact absurd c_6 h2
  · refine lv_iconst (v := iZ (-1)) hx hb dX7_applyMorphism_9 rfl ?_
    exact z_iretE hx hb hr hlocks dX7_applyMorphism_10 hS.2.2 ⟨(show 0 ≤ 0 by omega), (show 0 ≤ 0 by omega)⟩ ⟨(rfl), (trivial), (hP), (hD), Fh.of hS⟩
set_option maxHeartbeats 4000000 in
set_option maxRecDepth 100000 in
theorem c_X7_invertMorphism_no (lau : Launch) (G : va_G) (cy : Nat → ClassId) (a0 a1 a2 a3 a4 a5 a6 a7 : Nat) (sz : Nat) (ed tc ol nl : Int) (nw nx ps tm od ne pt : Int → Int) (mo : Int) (h1 : -2147483648 ≤ mo ∧ mo < 2147483648) (h2 : ¬ (0 ≤ mo ∧ mo ≤ 4)) : Met lau yX7_invertMorphism wsX7_invertMorphism ({ frames := 3, cells := 0, slots := 0, locals := 65 }) (P1 G cy [.ref a0, .int (iZ mo)] (fun H => H.size = sz ∧ va_P G vwCl (MW cy a0 a1 a2 a3 a4 a5 a6 a7 ed tc ol nl nw nx ps tm od ne pt) H ∧ va_D (fun _ => True) (MW cy a0 a1 a2 a3 a4 a5 a6 a7 ed tc ol nl nw nx ps tm od ne pt))) (Q1 (fun rv H0 H1 => rv = some (.int (iZ (-1))) ∧ (True) ∧ va_P G vwCl (MW cy a0 a1 a2 a3 a4 a5 a6 a7 ed tc ol nl nw nx ps tm od ne pt) H1 ∧ va_D (va_A (MW cy a0 a1 a2 a3 a4 a5 a6 a7 ed tc ol nl nw nx ps tm od ne pt) sz) (MW cy a0 a1 a2 a3 a4 a5 a6 a7 ed tc ol nl nw nx ps tm od ne pt) ∧ Fh (va_A (MW cy a0 a1 a2 a3 a4 a5 a6 a7 ed tc ol nl nw nx ps tm od ne pt) sz) H0 H1)) 0 0 (va_A (MW cy a0 a1 a2 a3 a4 a5 a6 a7 ed tc ol nl nw nx ps tm od ne pt) sz) := by
  refine z_head (lv := [(0, .ref a0), (1, .int (iZ mo))]) RX7 (by decide) rfl rfl (Nat.le_of_ble_eq_true rfl) rfl ?_
  intro pr ev s mt below meth cd ls hx hb hr hlocks hml hown hname hts hKK hP hl
  have hK := hKK.1
  obtain ⟨hsz, hP, hD0⟩ := hP
  subst hsz
  have hD := hD0.self (sz := s.heap.size)
  generalize hAe : va_A (MW cy a0 a1 a2 a3 a4 a5 a6 a7 ed tc ol nl nw nx ps tm od ne pt) s.heap.size = A at hD ⊢
  have hA : ∀ q : Nat, s.heap.size ≤ q → A q := fun q h => by rw [← hAe]; exact Or.inr h
  have hS : va_S A s.heap s.heap [] := va_S.rf
  have hP : va_P G vwCl (MW cy a0 a1 a2 a3 a4 a5 a6 a7 ed tc ol nl nw nx ps tm od ne pt) s.heap := hP
  refine lv_iload_n hx hb dX7_invertMorphism_0 rfl (lv_at hl 1 rfl) ?_
  refine lv_iconst (v := iZ 0) hx hb dX7_invertMorphism_1 rfl ?_
  refine lv_iconst (v := iZ 4) hx hb dX7_invertMorphism_2 rfl ?_
  refine z_calli (va_runS (As := [.int (iZ mo), .int (iZ 0), .int (iZ 4)]) (rest := []) ⟨hx, hb, hml, hown, hts⟩ (c_X7_in lau G cy mo 0 4 (by first | assumption | omega)) (va_cwS 3 hts gX7_invertMorphism_X7_in rfl rfl rfl (by decide +kernel) ⟨Nat.le_of_ble_eq_true rfl, Nat.le_of_ble_eq_true rfl⟩) ⟨P1_blind, P1_mk hKK (trivial)⟩ rfl rfl hl.1 rfl (lv_room (Nat.le_of_ble_eq_true rfl)) dX7_invertMorphism_3 ⟨(show 0 + 0 ≤ 0 by omega), (show 0 + 0 ≤ 0 by omega)⟩) ?_
  refine z_ifB_ne (tgt := 11) hx hb dX7_invertMorphism_6 (by decide) (fun c_6 => ?_) (fun c_6 => ?_)
  · exact absurd c_6 h2
  · refine lv_iconst (v := iZ (-1)) hx hb dX7_invertMorphism_9 rfl ?_
    exact z_iretE hx hb hr hlocks dX7_invertMorphism_10 hS.2.2 ⟨(show 0 ≤ 0 by omega), (show 0 ≤ 0 by omega)⟩ ⟨(rfl), (trivial), (hP), (hD), Fh.of hS⟩
set_option maxHeartbeats 4000000 in
set_option maxRecDepth 100000 in
theorem c_X7_applyMorphism_no2 (lau : Launch) (G : va_G) (cy : Nat → ClassId) (a0 a1 a2 a3 a4 a5 a6 a7 : Nat) (sz : Nat) (ed tc ol nl : Int) (nw nx ps tm od ne pt : Int → Int) (mo b n : Int) (hw : RowIs nw b n) (hn : 0 ≤ n ∧ n ≤ 60) (h2 : 0 ≤ mo ∧ mo ≤ 4) (h3 : 60 < (imI mo b n n).2) : Met lau yX7_applyMorphism wsX7_applyMorphism ({ frames := 3, cells := 0, slots := 0, locals := 65 }) (P1 G cy [.ref a0, .int (iZ mo)] (fun H => H.size = sz ∧ va_P G vwCl (MW cy a0 a1 a2 a3 a4 a5 a6 a7 ed tc ol nl nw nx ps tm od ne pt) H ∧ va_D (fun _ => True) (MW cy a0 a1 a2 a3 a4 a5 a6 a7 ed tc ol nl nw nx ps tm od ne pt))) (Q1 (fun rv H0 H1 => ∃ (nx2 : Int → Int), rv = some (.int (iZ (-2))) ∧ (True) ∧ va_P G vwCl (MW cy a0 a1 a2 a3 a4 a5 a6 a7 ed tc ol nl nw nx2 ps tm od ne pt) H1 ∧ va_D (va_A (MW cy a0 a1 a2 a3 a4 a5 a6 a7 ed tc ol nl nw nx ps tm od ne pt) sz) (MW cy a0 a1 a2 a3 a4 a5 a6 a7 ed tc ol nl nw nx2 ps tm od ne pt) ∧ Fh (va_A (MW cy a0 a1 a2 a3 a4 a5 a6 a7 ed tc ol nl nw nx ps tm od ne pt) sz) H0 H1)) 0 0 (va_A (MW cy a0 a1 a2 a3 a4 a5 a6 a7 ed tc ol nl nw nx ps tm od ne pt) sz) := by
  refine z_head (lv := [(0, .ref a0), (1, .int (iZ mo))]) RX7 (by decide) rfl rfl (Nat.le_of_ble_eq_true rfl) rfl ?_
  intro pr ev s mt below meth cd ls hx hb hr hlocks hml hown hname hts hKK hP hl
  have hK := hKK.1
  obtain ⟨hsz, hP, hD0⟩ := hP
  subst hsz
  have hD := hD0.self (sz := s.heap.size)
  generalize hAe : va_A (MW cy a0 a1 a2 a3 a4 a5 a6 a7 ed tc ol nl nw nx ps tm od ne pt) s.heap.size = A at hD ⊢
  have hA : ∀ q : Nat, s.heap.size ≤ q → A q := fun q h => by rw [← hAe]; exact Or.inr h
  have hS : va_S A s.heap s.heap [] := va_S.rf
  have hP : va_P G vwCl (MW cy a0 a1 a2 a3 a4 a5 a6 a7 ed tc ol nl nw nx ps tm od ne pt) s.heap := hP
  refine lv_iload_n hx hb dX7_applyMorphism_0 rfl (lv_at hl 1 rfl) ?_
  refine lv_iconst (v := iZ 0) hx hb dX7_applyMorphism_1 rfl ?_
  refine lv_iconst (v := iZ 4) hx hb dX7_applyMorphism_2 rfl ?_
  refine z_calli (va_runS (As := [.int (iZ mo), .int (iZ 0), .int (iZ 4)]) (rest := []) ⟨hx, hb, hml, hown, hts⟩ (c_X7_in lau G cy mo 0 4 (by first | assumption | omega)) (va_cwS 3 hts gX7_applyMorphism_X7_in rfl rfl rfl (by decide +kernel) ⟨Nat.le_of_ble_eq_true rfl, Nat.le_of_ble_eq_true rfl⟩) ⟨P1_blind, P1_mk hKK (trivial)⟩ rfl rfl hl.1 rfl (lv_room (Nat.le_of_ble_eq_true rfl)) dX7_applyMorphism_3 ⟨(show 0 + 0 ≤ 0 by omega), (show 0 + 0 ≤ 0 by omega)⟩) ?_
  refine z_ifB_ne (tgt := 11) hx hb dX7_applyMorphism_6 (by decide) (fun c_6 => ?_) (fun c_6 => ?_)
  · refine lv_aload_n hx hb dX7_applyMorphism_11 rfl (lv_at hl 0 rfl) ?_
    refine va_get (D := G) (ci := 6) (v := .ref a2) (C := RX7) (T := TX7) (N := 11) hx hb hts (by decide +kernel) hown hK hP 0 rfl rfl 1 (by decide) (hts (.fieldLink RX7 13 "SturmianWordsModel" "next" "[I") (by decide +kernel)) (fun _ h9 => h9) rfl dX7_applyMorphism_12 ?_
    refine lv_iconst (v := iZ 3) hx hb dX7_applyMorphism_15 rfl ?_
    refine lv_iconst (v := iZ 0) hx hb dX7_applyMorphism_16 rfl ?_
    refine z_iast (D := G) hx hb hK hP hD hS 2 0 rfl rfl (by omega) dX7_applyMorphism_17 (fun H locs hP hD hS => ?_)
    have hP : va_P G vwCl (MW cy a0 a1 a2 a3 a4 a5 a6 a7 ed tc ol nl nw (up1 nx 3 0) ps tm od ne pt) H := hP
    have hD : va_D A (MW cy a0 a1 a2 a3 a4 a5 a6 a7 ed tc ol nl nw (up1 nx 3 0) ps tm od ne pt) := hD
    refine lv_iconst (v := iZ 0) hx hb dX7_applyMorphism_18 rfl ?_
    refine lv_istore_n (lv' := [(2, .int (iZ 0)), (0, .ref a0), (1, .int (iZ mo))]) hx hb dX7_applyMorphism_19 rfl hl (by decide) rfl (fun ls hl => ?_)
    refine z_loopH2 (nL := 4) (A := A) (fun (k : Int) (x1 : Int → Int) => [(0, .ref a0), (1, .int (iZ mo)), (2, .int (iZ k))]) (fun (k : Int) (x1 : Int → Int) (H : Heap) => ((0 ≤ k ∧ k ≤ n) ∧ (RowIs x1 (imI mo b n k).1 (imI mo b n k).2) ∧ (0 ≤ (imI mo b n k).2 ∧ (imI mo b n k).2 ≤ 2 * k)) ∧ va_P G vwCl (MW cy a0 a1 a2 a3 a4 a5 a6 a7 ed tc ol nl nw x1 ps tm od ne pt) H ∧ va_D A (MW cy a0 a1 a2 a3 a4 a5 a6 a7 ed tc ol nl nw x1 ps tm od ne pt) ∧ Fh A s.heap H) (fun (k : Int) (x1 : Int → Int) => n - k) (fun (k : Int) (x1 : Int → Int) => 0) (fun (k : Int) (x1 : Int → Int) => 0) (a1 := 0) (a2 := (up1 nx 3 0)) ⟨⟨(by omega), (by rw [imI_0]; exact RowIs.nil), (by rw [imI_0]; show 0 ≤ (0 : Int) ∧ (0 : Int) ≤ 2 * 0; omega)⟩, hP, hD, Fh.of hS⟩ hS.2.2 (lv_sub hl [1, 2, 0] rfl) ?_
    rintro k x1 H locs ⟨⟨i1, i2, i3⟩, hP, hD, hFr⟩ hLc ih_20 ls hl
    have hS : va_S A s.heap H locs := Fh.S hFr hLc
    have hw3 := hw.1
    refine lv_iload_n hx hb dX7_applyMorphism_20 rfl (lv_at hl 2 rfl) ?_
    refine lv_aload_n hx hb dX7_applyMorphism_21 rfl (lv_at hl 0 rfl) ?_
    refine va_get (D := G) (ci := 6) (v := .ref a1) (C := RX7) (T := TX7) (N := 11) hx hb hts (by decide +kernel) hown hK hP 0 rfl rfl 0 (by decide) (hts (.fieldLink RX7 7 "SturmianWordsModel" "now" "[I") (by decide +kernel)) (fun _ h9 => h9) rfl dX7_applyMorphism_22 ?_
    refine lv_iconst (v := iZ 3) hx hb dX7_applyMorphism_25 rfl ?_
    refine z_iald (D := G) hx hb hK hP 1 0 rfl rfl (by omega) dX7_applyMorphism_26 ?_
    refine z_icmp_ge (tgt := 74) hx hb dX7_applyMorphism_27 (by decide) (by omega) (fun c_27 => ?_) (fun c_27 => ?_)
    · have hk : k = n := by omega
      rw [hk] at i2 i3
      have hx13 := i2.1
      refine lv_aload_n hx hb dX7_applyMorphism_74 rfl (lv_at hl 0 rfl) ?_
      refine va_get (D := G) (ci := 6) (v := .ref a2) (C := RX7) (T := TX7) (N := 11) hx hb hts (by decide +kernel) hown hK hP 0 rfl rfl 1 (by decide) (hts (.fieldLink RX7 13 "SturmianWordsModel" "next" "[I") (by decide +kernel)) (fun _ h9 => h9) rfl dX7_applyMorphism_75 ?_
      refine lv_iconst (v := iZ 3) hx hb dX7_applyMorphism_78 rfl ?_
      refine z_iald (D := G) hx hb hK hP 2 0 rfl rfl (by omega) dX7_applyMorphism_79 ?_
      refine lv_bipush (v := iZ 60) hx hb dX7_applyMorphism_80 (by decide +kernel) ?_
      refine z_icmp_le (tgt := 88) hx hb dX7_applyMorphism_82 (by decide) (by omega) (fun c_82 => ?_) (fun c_82 => ?_)
      · exfalso; omega
      · refine lv_bipush (v := iZ (-2)) hx hb dX7_applyMorphism_85 (by decide +kernel) ?_
        exact z_iretE hx hb hr hlocks dX7_applyMorphism_87 hS.2.2 ⟨(show 0 ≤ 0 by omega), (show 0 ≤ 0 by omega)⟩ ⟨x1, (rfl), (trivial), (hP), (hD), Fh.of hS⟩
    · have hwk0 : nw (4 + k) = ltr b n k := hw.2.2.2 k (by omega) (by omega) (by omega)
      have hlr0 := ltr_r b n k
      refine lv_iload_n hx hb dX7_applyMorphism_30 rfl (lv_at hl 1 rfl) ?_
      refine lv_aload_n hx hb dX7_applyMorphism_31 rfl (lv_at hl 0 rfl) ?_
      refine va_get (D := G) (ci := 6) (v := .ref a1) (C := RX7) (T := TX7) (N := 11) hx hb hts (by decide +kernel) hown hK hP 0 rfl rfl 0 (by decide) (hts (.fieldLink RX7 7 "SturmianWordsModel" "now" "[I") (by decide +kernel)) (fun _ h9 => h9) rfl dX7_applyMorphism_32 ?_
      refine lv_iconst (v := iZ 4) hx hb dX7_applyMorphism_35 rfl ?_
      refine lv_iload_n hx hb dX7_applyMorphism_36 rfl (lv_at hl 2 rfl) ?_
      refine z_iadd hx hb dX7_applyMorphism_37 ?_
      refine z_iald (D := G) hx hb hK hP 1 0 rfl rfl (by omega) dX7_applyMorphism_38 ?_
      refine z_calli (va_runS (As := [.int (iZ mo), .int (iZ (nw (4 + k)))]) (rest := []) ⟨hx, hb, hml, hown, hts⟩ (c_X7_imageOf lau G cy mo (nw (4 + k)) (by first | assumption | omega) (by first | assumption | omega)) (va_cwS 2 hts gX7_applyMorphism_X7_imageOf rfl rfl rfl (by decide +kernel) ⟨Nat.le_of_ble_eq_true rfl, Nat.le_of_ble_eq_true rfl⟩) ⟨P1_blind, P1_mk hKK (trivial)⟩ rfl rfl hl.1 rfl (lv_room (Nat.le_of_ble_eq_true rfl)) dX7_applyMorphism_39 ⟨(show 0 + 0 ≤ 0 by omega), (show 0 + 0 ≤ 0 by omega)⟩) ?_
      refine lv_istore_n (lv' := [(3, .int (iZ (imgS mo (nw (4 + k))))), (0, .ref a0), (1, .int (iZ mo)), (2, .int (iZ k))]) hx hb dX7_applyMorphism_42 rfl hl (by decide) rfl (fun ls hl => ?_)
      have hwk : nw (4 + k) = ltr b n k := hw.2.2.2 k (by omega) (by omega) (by omega)
      have hlr := ltr_r b n k
      have h9 := img_2 (mo := mo) (x := nw (4 + k)) h2 (by omega)
      rw [hwk] at h9
      rw [← hwk] at h9
      have h9b : mB mo (nw (4 + k)) = mB mo (ltr b n k) := by rw [hwk]
      have h9n : mN mo (nw (4 + k)) = mN mo (ltr b n k) := by rw [hwk]
      have hmr := mN_r mo (ltr b n k)
      have hx13 := i2.1
      have hap := apX_3 x1 (imgS mo (nw (4 + k)) / 10 % 10)
      refine lv_iload_n hx hb dX7_applyMorphism_43 rfl (lv_at hl 0 rfl) ?_
      refine lv_bipush (v := iZ 99) hx hb dX7_applyMorphism_44 (by decide +kernel) ?_
      refine z_icmp_le (tgt := 60) hx hb dX7_applyMorphism_46 (by decide) (by omega) (fun c_46 => ?_) (fun c_46 => ?_)
      · refine lv_aload_n hx hb dX7_applyMorphism_60 rfl (lv_at hl 1 rfl) ?_
        refine lv_iload_n hx hb dX7_applyMorphism_61 rfl (lv_at hl 0 rfl) ?_
        refine lv_bipush (v := iZ 10) hx hb dX7_applyMorphism_62 (by decide +kernel) ?_
        refine z_irem hx hb dX7_applyMorphism_64 (by omega) ?_
        have hPc := hP.sub (ws' := (MW cy a0 a1 a2 a3 a4 a5 a6 a7 ed tc ol nl nw x1 ps tm od ne pt)) [0, 1, 2, 3, 4, 5, 6, 7] rfl
        have hDc := (hD.sub (ws' := (MW cy a0 a1 a2 a3 a4 a5 a6 a7 ed tc ol nl nw x1 ps tm od ne pt)) [0, 1, 2, 3, 4, 5, 6, 7] (by decide) rfl).weaken (B := fun _ => True) (fun _ _ _ _ => trivial)
        have hFc := va_free (wc := (MW cy a0 a1 a2 a3 a4 a5 a6 a7 ed tc ol nl nw x1 ps tm od ne pt)) hD hS hA [0, 1, 2, 3, 4, 5, 6, 7] rfl
        refine z_callE (A := A) (va_runV (As := [.int (iZ ((imgS mo (nw (4 + k))) % 10))]) (rest := []) ⟨hx, hb, hml, hown, hts⟩ (c_X7_appendTo lau G cy a0 a1 a2 a3 a4 a5 a6 a7 H.size ed tc ol nl nw x1 ps tm od ne pt ((imgS mo (nw (4 + k))) % 10) (by first | assumption | omega)) (cwV 1 hts gX7_applyMorphism_X7_appendTo rfl rfl rfl (by decide +kernel) ⟨Nat.le_of_ble_eq_true rfl, Nat.le_of_ble_eq_true rfl⟩) ⟨P1_blind, va_recv hK hP (ci := 6) (q0 := 0) rfl rfl, P1_mk hKK (⟨rfl, hPc, hDc⟩)⟩ rfl rfl hl.1 rfl (lv_room (Nat.le_of_ble_eq_true rfl)) dX7_applyMorphism_65 ⟨(show 0 + 0 ≤ 0 by omega), (show 0 + 0 ≤ 0 by omega)⟩) hS.2.2 hFc (fun v H1 locs1 hR hL1 => ?_)
        obtain ⟨rfl, hq65, hP1, hD1, hF1⟩ := hR
        obtain ⟨hP, hD⟩ := va_join (wr := []) (w1 := (MW cy a0 a1 a2 a3 a4 a5 a6 a7 ed tc ol nl nw (apX x1 ((imgS mo (nw (4 + k))) % 10)) ps tm od ne pt)) hP hD [0, 1, 2, 3, 4, 5, 6, 7] [] rfl rfl (by decide) (by decide) hF1.2 hFc hP1 hD1
        have hS : va_S A s.heap H1 locs1 := Fh.S ((Fh.of hS).tr hF1 (fun q _ h => hFc q h)) hL1
        clear hPc hDc hFc hP1 hD1 hF1 hL1
        generalize H1 = H at hP hS ⊢
        have hP : va_P G vwCl (MW cy a0 a1 a2 a3 a4 a5 a6 a7 ed tc ol nl nw (apX x1 ((imgS mo (nw (4 + k))) % 10)) ps tm od ne pt) H := hP
        have hD : va_D A (MW cy a0 a1 a2 a3 a4 a5 a6 a7 ed tc ol nl nw (apX x1 ((imgS mo (nw (4 + k))) % 10)) ps tm od ne pt) := hD
        refine W.eq (g2 := F0 mt 68 ls []) rfl ?_
        refine lv_iinc (v := iZ (k + 1)) (lv' := [(2, .int (iZ (k + 1))), (3, .int (iZ (imgS mo (nw (4 + k))))), (0, .ref a0), (1, .int (iZ mo))]) hx hb dX7_applyMorphism_68 hl (k := 3) rfl (iZ_add _ _) (by decide) rfl (fun ls hl => ?_)
        refine lv_goto (tgt := 20) hx hb dX7_applyMorphism_71 (by decide) ?_
        exact ih_20 (k + 1) (apX x1 (imgS mo (nw (4 + k)) % 10)) _ _ ⟨⟨(by omega), (by rw [imI_s (by omega), hwk, show mN mo (ltr b n k) = 1 by omega]; have e := i2.sn (v := imgS mo (nw (4 + k)) % 10) (by omega); rw [show 2 * (imI mo b n k).1 + imgS mo (nw (4 + k)) % 10 = (imI mo b n k).1 * pw 1 + mB mo (ltr b n k) by rw [pw_1]; omega, hwk] at e; exact e), (by rw [imI_s (by omega)]; show 0 ≤ (imI mo b n k).2 + mN mo (ltr b n k) ∧ (imI mo b n k).2 + mN mo (ltr b n k) ≤ 2 * (k + 1); have := mN_r mo (ltr b n k); omega)⟩, hP, hD, Fh.of hS⟩ hS.2.2 ⟨by omega, by omega⟩ _ (lv_sub hl [2, 3, 0] rfl)
      · refine lv_aload_n hx hb dX7_applyMorphism_49 rfl (lv_at hl 1 rfl) ?_
        refine lv_iload_n hx hb dX7_applyMorphism_50 rfl (lv_at hl 0 rfl) ?_
        refine lv_bipush (v := iZ 10) hx hb dX7_applyMorphism_51 (by decide +kernel) ?_
        refine z_idiv hx hb dX7_applyMorphism_53 (by omega) ?_
        refine lv_bipush (v := iZ 10) hx hb dX7_applyMorphism_54 (by decide +kernel) ?_
        refine z_irem hx hb dX7_applyMorphism_56 (by omega) ?_
        have hPc := hP.sub (ws' := (MW cy a0 a1 a2 a3 a4 a5 a6 a7 ed tc ol nl nw x1 ps tm od ne pt)) [0, 1, 2, 3, 4, 5, 6, 7] rfl
        have hDc := (hD.sub (ws' := (MW cy a0 a1 a2 a3 a4 a5 a6 a7 ed tc ol nl nw x1 ps tm od ne pt)) [0, 1, 2, 3, 4, 5, 6, 7] (by decide) rfl).weaken (B := fun _ => True) (fun _ _ _ _ => trivial)
        have hFc := va_free (wc := (MW cy a0 a1 a2 a3 a4 a5 a6 a7 ed tc ol nl nw x1 ps tm od ne pt)) hD hS hA [0, 1, 2, 3, 4, 5, 6, 7] rfl
        refine z_callE (A := A) (va_runV (As := [.int (iZ (((imgS mo (nw (4 + k))) / 10) % 10))]) (rest := []) ⟨hx, hb, hml, hown, hts⟩ (c_X7_appendTo lau G cy a0 a1 a2 a3 a4 a5 a6 a7 H.size ed tc ol nl nw x1 ps tm od ne pt (((imgS mo (nw (4 + k))) / 10) % 10) (by first | assumption | omega)) (cwV 1 hts gX7_applyMorphism_X7_appendTo rfl rfl rfl (by decide +kernel) ⟨Nat.le_of_ble_eq_true rfl, Nat.le_of_ble_eq_true rfl⟩) ⟨P1_blind, va_recv hK hP (ci := 6) (q0 := 0) rfl rfl, P1_mk hKK (⟨rfl, hPc, hDc⟩)⟩ rfl rfl hl.1 rfl (lv_room (Nat.le_of_ble_eq_true rfl)) dX7_applyMorphism_57 ⟨(show 0 + 0 ≤ 0 by omega), (show 0 + 0 ≤ 0 by omega)⟩) hS.2.2 hFc (fun v H1 locs1 hR hL1 => ?_)
        obtain ⟨rfl, hq57, hP1, hD1, hF1⟩ := hR
        obtain ⟨hP, hD⟩ := va_join (wr := []) (w1 := (MW cy a0 a1 a2 a3 a4 a5 a6 a7 ed tc ol nl nw (apX x1 (((imgS mo (nw (4 + k))) / 10) % 10)) ps tm od ne pt)) hP hD [0, 1, 2, 3, 4, 5, 6, 7] [] rfl rfl (by decide) (by decide) hF1.2 hFc hP1 hD1
        have hS : va_S A s.heap H1 locs1 := Fh.S ((Fh.of hS).tr hF1 (fun q _ h => hFc q h)) hL1
        clear hPc hDc hFc hP1 hD1 hF1 hL1
        generalize H1 = H at hP hS ⊢
        have hP : va_P G vwCl (MW cy a0 a1 a2 a3 a4 a5 a6 a7 ed tc ol nl nw (apX x1 (((imgS mo (nw (4 + k))) / 10) % 10)) ps tm od ne pt) H := hP
        have hD : va_D A (MW cy a0 a1 a2 a3 a4 a5 a6 a7 ed tc ol nl nw (apX x1 (((imgS mo (nw (4 + k))) / 10) % 10)) ps tm od ne pt) := hD
        refine W.eq (g2 := F0 mt 60 ls []) rfl ?_
        refine lv_aload_n hx hb dX7_applyMorphism_60 rfl (lv_at hl 1 rfl) ?_
        refine lv_iload_n hx hb dX7_applyMorphism_61 rfl (lv_at hl 0 rfl) ?_
        refine lv_bipush (v := iZ 10) hx hb dX7_applyMorphism_62 (by decide +kernel) ?_
        refine z_irem hx hb dX7_applyMorphism_64 (by omega) ?_
        have hPc := hP.sub (ws' := (MW cy a0 a1 a2 a3 a4 a5 a6 a7 ed tc ol nl nw (apX x1 (((imgS mo (nw (4 + k))) / 10) % 10)) ps tm od ne pt)) [0, 1, 2, 3, 4, 5, 6, 7] rfl
        have hDc := (hD.sub (ws' := (MW cy a0 a1 a2 a3 a4 a5 a6 a7 ed tc ol nl nw (apX x1 (((imgS mo (nw (4 + k))) / 10) % 10)) ps tm od ne pt)) [0, 1, 2, 3, 4, 5, 6, 7] (by decide) rfl).weaken (B := fun _ => True) (fun _ _ _ _ => trivial)
        have hFc := va_free (wc := (MW cy a0 a1 a2 a3 a4 a5 a6 a7 ed tc ol nl nw (apX x1 (((imgS mo (nw (4 + k))) / 10) % 10)) ps tm od ne pt)) hD hS hA [0, 1, 2, 3, 4, 5, 6, 7] rfl
        refine z_callE (A := A) (va_runV (As := [.int (iZ ((imgS mo (nw (4 + k))) % 10))]) (rest := []) ⟨hx, hb, hml, hown, hts⟩ (c_X7_appendTo lau G cy a0 a1 a2 a3 a4 a5 a6 a7 H.size ed tc ol nl nw (apX x1 (((imgS mo (nw (4 + k))) / 10) % 10)) ps tm od ne pt ((imgS mo (nw (4 + k))) % 10) (by first | assumption | omega)) (cwV 1 hts gX7_applyMorphism_X7_appendTo rfl rfl rfl (by decide +kernel) ⟨Nat.le_of_ble_eq_true rfl, Nat.le_of_ble_eq_true rfl⟩) ⟨P1_blind, va_recv hK hP (ci := 6) (q0 := 0) rfl rfl, P1_mk hKK (⟨rfl, hPc, hDc⟩)⟩ rfl rfl hl.1 rfl (lv_room (Nat.le_of_ble_eq_true rfl)) dX7_applyMorphism_65 ⟨(show 0 + 0 ≤ 0 by omega), (show 0 + 0 ≤ 0 by omega)⟩) hS.2.2 hFc (fun v H1 locs1 hR hL1 => ?_)
        obtain ⟨rfl, hq65, hP1, hD1, hF1⟩ := hR
        obtain ⟨hP, hD⟩ := va_join (wr := []) (w1 := (MW cy a0 a1 a2 a3 a4 a5 a6 a7 ed tc ol nl nw (apX (apX x1 (((imgS mo (nw (4 + k))) / 10) % 10)) ((imgS mo (nw (4 + k))) % 10)) ps tm od ne pt)) hP hD [0, 1, 2, 3, 4, 5, 6, 7] [] rfl rfl (by decide) (by decide) hF1.2 hFc hP1 hD1
        have hS : va_S A s.heap H1 locs1 := Fh.S ((Fh.of hS).tr hF1 (fun q _ h => hFc q h)) hL1
        clear hPc hDc hFc hP1 hD1 hF1 hL1
        generalize H1 = H at hP hS ⊢
        have hP : va_P G vwCl (MW cy a0 a1 a2 a3 a4 a5 a6 a7 ed tc ol nl nw (apX (apX x1 (((imgS mo (nw (4 + k))) / 10) % 10)) ((imgS mo (nw (4 + k))) % 10)) ps tm od ne pt) H := hP
        have hD : va_D A (MW cy a0 a1 a2 a3 a4 a5 a6 a7 ed tc ol nl nw (apX (apX x1 (((imgS mo (nw (4 + k))) / 10) % 10)) ((imgS mo (nw (4 + k))) % 10)) ps tm od ne pt) := hD
        refine W.eq (g2 := F0 mt 68 ls []) rfl ?_
        refine lv_iinc (v := iZ (k + 1)) (lv' := [(2, .int (iZ (k + 1))), (3, .int (iZ (imgS mo (nw (4 + k))))), (0, .ref a0), (1, .int (iZ mo))]) hx hb dX7_applyMorphism_68 hl (k := 3) rfl (iZ_add _ _) (by decide) rfl (fun ls hl => ?_)
        refine lv_goto (tgt := 20) hx hb dX7_applyMorphism_71 (by decide) ?_
        exact ih_20 (k + 1) (apX (apX x1 (imgS mo (nw (4 + k)) / 10 % 10)) (imgS mo (nw (4 + k)) % 10)) _ _ ⟨⟨(by omega), (by rw [imI_s (by omega), show mN mo (ltr b n k) = 2 by omega]; have e := (i2.sn (v := imgS mo (nw (4 + k)) / 10 % 10) (by omega)).sn (v := imgS mo (nw (4 + k)) % 10) (by omega); rw [show 2 * (2 * (imI mo b n k).1 + imgS mo (nw (4 + k)) / 10 % 10) + imgS mo (nw (4 + k)) % 10 = (imI mo b n k).1 * pw 2 + mB mo (ltr b n k) by rw [show pw 2 = 4 from rfl]; omega, show (imI mo b n k).2 + 1 + 1 = (imI mo b n k).2 + 2 by omega] at e; exact e), (by rw [imI_s (by omega)]; show 0 ≤ (imI mo b n k).2 + mN mo (ltr b n k) ∧ (imI mo b n k).2 + mN mo (ltr b n k) ≤ 2 * (k + 1); have := mN_r mo (ltr b n k); omega)⟩, hP, hD, Fh.of hS⟩ hS.2.2 ⟨by omega, by omega⟩ _ (lv_sub hl [2, 3, 0] rfl)
  · exact absurd h2 c_6
set_option maxHeartbeats 4000000 in
set_option maxRecDepth 100000 in
theorem c_X7_applyMorphism (lau : Launch) (G : va_G) (cy : Nat → ClassId) (a0 a1 a2 a3 a4 a5 a6 a7 : Nat) (sz : Nat) (ed tc ol nl : Int) (nw nx ps tm od ne pt : Int → Int) (mo b n : Int) (he : 0 ≤ ed ∧ ed ≤ 6) (hw : RowIs nw b n) (hn : 0 ≤ n ∧ n ≤ 60) (h2 : 0 ≤ mo ∧ mo ≤ 4) (h3 : (imI mo b n n).2 ≤ 60) : Met lau yX7_applyMorphism wsX7_applyMorphism ({ frames := 3, cells := 0, slots := 0, locals := 65 }) (P1 G cy [.ref a0, .int (iZ mo)] (fun H => H.size = sz ∧ va_P G vwCl (MW cy a0 a1 a2 a3 a4 a5 a6 a7 ed tc ol nl nw nx ps tm od ne pt) H ∧ va_D (fun _ => True) (MW cy a0 a1 a2 a3 a4 a5 a6 a7 ed tc ol nl nw nx ps tm od ne pt))) (Q1 (fun rv H0 H1 => ∃ (nx2 : Int → Int), rv = some (.int (iZ ((imI mo b n n).2))) ∧ (RowIs nx2 (imI mo b n n).1 (imI mo b n n).2) ∧ va_P G vwCl (MW cy a0 a1 a2 a3 a4 a5 a6 a7 (svE ed) tc ol nl (tkW nx2 nw) (tkX nx2 nw) (svP ps nw ed) tm od ne pt) H1 ∧ va_D (va_A (MW cy a0 a1 a2 a3 a4 a5 a6 a7 ed tc ol nl nw nx ps tm od ne pt) sz) (MW cy a0 a1 a2 a3 a4 a5 a6 a7 (svE ed) tc ol nl (tkW nx2 nw) (tkX nx2 nw) (svP ps nw ed) tm od ne pt) ∧ Fh (va_A (MW cy a0 a1 a2 a3 a4 a5 a6 a7 ed tc ol nl nw nx ps tm od ne pt) sz) H0 H1)) 0 0 (va_A (MW cy a0 a1 a2 a3 a4 a5 a6 a7 ed tc ol nl nw nx ps tm od ne pt) sz) := by
  refine z_head (lv := [(0, .ref a0), (1, .int (iZ mo))]) RX7 (by decide) rfl rfl (Nat.le_of_ble_eq_true rfl) rfl ?_
  intro pr ev s mt below meth cd ls hx hb hr hlocks hml hown hname hts hKK hP hl
  have hK := hKK.1
  obtain ⟨hsz, hP, hD0⟩ := hP
  subst hsz
  have hD := hD0.self (sz := s.heap.size)
  generalize hAe : va_A (MW cy a0 a1 a2 a3 a4 a5 a6 a7 ed tc ol nl nw nx ps tm od ne pt) s.heap.size = A at hD ⊢
  have hA : ∀ q : Nat, s.heap.size ≤ q → A q := fun q h => by rw [← hAe]; exact Or.inr h
  have hS : va_S A s.heap s.heap [] := va_S.rf
  have hP : va_P G vwCl (MW cy a0 a1 a2 a3 a4 a5 a6 a7 ed tc ol nl nw nx ps tm od ne pt) s.heap := hP
  refine lv_iload_n hx hb dX7_applyMorphism_0 rfl (lv_at hl 1 rfl) ?_
  refine lv_iconst (v := iZ 0) hx hb dX7_applyMorphism_1 rfl ?_
  refine lv_iconst (v := iZ 4) hx hb dX7_applyMorphism_2 rfl ?_
  refine z_calli (va_runS (As := [.int (iZ mo), .int (iZ 0), .int (iZ 4)]) (rest := []) ⟨hx, hb, hml, hown, hts⟩ (c_X7_in lau G cy mo 0 4 (by first | assumption | omega)) (va_cwS 3 hts gX7_applyMorphism_X7_in rfl rfl rfl (by decide +kernel) ⟨Nat.le_of_ble_eq_true rfl, Nat.le_of_ble_eq_true rfl⟩) ⟨P1_blind, P1_mk hKK (trivial)⟩ rfl rfl hl.1 rfl (lv_room (Nat.le_of_ble_eq_true rfl)) dX7_applyMorphism_3 ⟨(show 0 + 0 ≤ 0 by omega), (show 0 + 0 ≤ 0 by omega)⟩) ?_
  refine z_ifB_ne (tgt := 11) hx hb dX7_applyMorphism_6 (by decide) (fun c_6 => ?_) (fun c_6 => ?_)
  · refine lv_aload_n hx hb dX7_applyMorphism_11 rfl (lv_at hl 0 rfl) ?_
    refine va_get (D := G) (ci := 6) (v := .ref a2) (C := RX7) (T := TX7) (N := 11) hx hb hts (by decide +kernel) hown hK hP 0 rfl rfl 1 (by decide) (hts (.fieldLink RX7 13 "SturmianWordsModel" "next" "[I") (by decide +kernel)) (fun _ h9 => h9) rfl dX7_applyMorphism_12 ?_
    refine lv_iconst (v := iZ 3) hx hb dX7_applyMorphism_15 rfl ?_
    refine lv_iconst (v := iZ 0) hx hb dX7_applyMorphism_16 rfl ?_
    refine z_iast (D := G) hx hb hK hP hD hS 2 0 rfl rfl (by omega) dX7_applyMorphism_17 (fun H locs hP hD hS => ?_)
    have hP : va_P G vwCl (MW cy a0 a1 a2 a3 a4 a5 a6 a7 ed tc ol nl nw (up1 nx 3 0) ps tm od ne pt) H := hP
    have hD : va_D A (MW cy a0 a1 a2 a3 a4 a5 a6 a7 ed tc ol nl nw (up1 nx 3 0) ps tm od ne pt) := hD
    refine lv_iconst (v := iZ 0) hx hb dX7_applyMorphism_18 rfl ?_
    refine lv_istore_n (lv' := [(2, .int (iZ 0)), (0, .ref a0), (1, .int (iZ mo))]) hx hb dX7_applyMorphism_19 rfl hl (by decide) rfl (fun ls hl => ?_)
    refine z_loopH2 (nL := 4) (A := A) (fun (k : Int) (x1 : Int → Int) => [(0, .ref a0), (1, .int (iZ mo)), (2, .int (iZ k))]) (fun (k : Int) (x1 : Int → Int) (H : Heap) => ((0 ≤ k ∧ k ≤ n) ∧ (RowIs x1 (imI mo b n k).1 (imI mo b n k).2) ∧ (0 ≤ (imI mo b n k).2 ∧ (imI mo b n k).2 ≤ 2 * k)) ∧ va_P G vwCl (MW cy a0 a1 a2 a3 a4 a5 a6 a7 ed tc ol nl nw x1 ps tm od ne pt) H ∧ va_D A (MW cy a0 a1 a2 a3 a4 a5 a6 a7 ed tc ol nl nw x1 ps tm od ne pt) ∧ Fh A s.heap H) (fun (k : Int) (x1 : Int → Int) => n - k) (fun (k : Int) (x1 : Int → Int) => 0) (fun (k : Int) (x1 : Int → Int) => 0) (a1 := 0) (a2 := (up1 nx 3 0)) ⟨⟨(by omega), (by rw [imI_0]; exact RowIs.nil), (by rw [imI_0]; show 0 ≤ (0 : Int) ∧ (0 : Int) ≤ 2 * 0; omega)⟩, hP, hD, Fh.of hS⟩ hS.2.2 (lv_sub hl [1, 2, 0] rfl) ?_
    rintro k x1 H locs ⟨⟨i1, i2, i3⟩, hP, hD, hFr⟩ hLc ih_20 ls hl
    have hS : va_S A s.heap H locs := Fh.S hFr hLc
    have hw3 := hw.1
    refine lv_iload_n hx hb dX7_applyMorphism_20 rfl (lv_at hl 2 rfl) ?_
    refine lv_aload_n hx hb dX7_applyMorphism_21 rfl (lv_at hl 0 rfl) ?_
    refine va_get (D := G) (ci := 6) (v := .ref a1) (C := RX7) (T := TX7) (N := 11) hx hb hts (by decide +kernel) hown hK hP 0 rfl rfl 0 (by decide) (hts (.fieldLink RX7 7 "SturmianWordsModel" "now" "[I") (by decide +kernel)) (fun _ h9 => h9) rfl dX7_applyMorphism_22 ?_
    refine lv_iconst (v := iZ 3) hx hb dX7_applyMorphism_25 rfl ?_
    refine z_iald (D := G) hx hb hK hP 1 0 rfl rfl (by omega) dX7_applyMorphism_26 ?_
    refine z_icmp_ge (tgt := 74) hx hb dX7_applyMorphism_27 (by decide) (by omega) (fun c_27 => ?_) (fun c_27 => ?_)
    · have hk : k = n := by omega
      rw [hk] at i2 i3
      have hx13 := i2.1
      refine lv_aload_n hx hb dX7_applyMorphism_74 rfl (lv_at hl 0 rfl) ?_
      refine va_get (D := G) (ci := 6) (v := .ref a2) (C := RX7) (T := TX7) (N := 11) hx hb hts (by decide +kernel) hown hK hP 0 rfl rfl 1 (by decide) (hts (.fieldLink RX7 13 "SturmianWordsModel" "next" "[I") (by decide +kernel)) (fun _ h9 => h9) rfl dX7_applyMorphism_75 ?_
      refine lv_iconst (v := iZ 3) hx hb dX7_applyMorphism_78 rfl ?_
      refine z_iald (D := G) hx hb hK hP 2 0 rfl rfl (by omega) dX7_applyMorphism_79 ?_
      refine lv_bipush (v := iZ 60) hx hb dX7_applyMorphism_80 (by decide +kernel) ?_
      refine z_icmp_le (tgt := 88) hx hb dX7_applyMorphism_82 (by decide) (by omega) (fun c_82 => ?_) (fun c_82 => ?_)
      · refine lv_aload_n hx hb dX7_applyMorphism_88 rfl (lv_at hl 0 rfl) ?_
        have hPc := hP.sub (ws' := (MW cy a0 a1 a2 a3 a4 a5 a6 a7 ed tc ol nl nw x1 ps tm od ne pt)) [0, 1, 2, 3, 4, 5, 6, 7] rfl
        have hDc := (hD.sub (ws' := (MW cy a0 a1 a2 a3 a4 a5 a6 a7 ed tc ol nl nw x1 ps tm od ne pt)) [0, 1, 2, 3, 4, 5, 6, 7] (by decide) rfl).weaken (B := fun _ => True) (fun _ _ _ _ => trivial)
        have hFc := va_free (wc := (MW cy a0 a1 a2 a3 a4 a5 a6 a7 ed tc ol nl nw x1 ps tm od ne pt)) hD hS hA [0, 1, 2, 3, 4, 5, 6, 7] rfl
        refine z_callE (A := A) (va_runV (As := []) (rest := []) ⟨hx, hb, hml, hown, hts⟩ (c_X7_take lau G cy a0 a1 a2 a3 a4 a5 a6 a7 H.size ed tc ol nl nw x1 ps tm od ne pt (by first | assumption | omega)) (cwV 0 hts gX7_applyMorphism_X7_take rfl rfl rfl (by decide +kernel) ⟨Nat.le_of_ble_eq_true rfl, Nat.le_of_ble_eq_true rfl⟩) ⟨P1_blind, va_recv hK hP (ci := 6) (q0 := 0) rfl rfl, P1_mk hKK (⟨rfl, hPc, hDc⟩)⟩ rfl rfl hl.1 rfl (lv_room (Nat.le_of_ble_eq_true rfl)) dX7_applyMorphism_89 ⟨(show 0 + 0 ≤ 0 by omega), (show 0 + 0 ≤ 0 by omega)⟩) hS.2.2 hFc (fun v H1 locs1 hR hL1 => ?_)
        obtain ⟨rfl, hq89, hP1, hD1, hF1⟩ := hR
        obtain ⟨hP, hD⟩ := va_join (wr := []) (w1 := (MW cy a0 a1 a2 a3 a4 a5 a6 a7 (svE ed) tc ol nl (tkW x1 nw) (tkX x1 nw) (svP ps nw ed) tm od ne pt)) hP hD [0, 1, 2, 3, 4, 5, 6, 7] [] rfl rfl (by decide) (by decide) hF1.2 hFc hP1 hD1
        have hS : va_S A s.heap H1 locs1 := Fh.S ((Fh.of hS).tr hF1 (fun q _ h => hFc q h)) hL1
        clear hPc hDc hFc hP1 hD1 hF1 hL1
        generalize H1 = H at hP hS ⊢
        have hP : va_P G vwCl (MW cy a0 a1 a2 a3 a4 a5 a6 a7 (svE ed) tc ol nl (tkW x1 nw) (tkX x1 nw) (svP ps nw ed) tm od ne pt) H := hP
        have hD : va_D A (MW cy a0 a1 a2 a3 a4 a5 a6 a7 (svE ed) tc ol nl (tkW x1 nw) (tkX x1 nw) (svP ps nw ed) tm od ne pt) := hD
        refine W.eq (g2 := F0 mt 92 ls []) rfl ?_
        refine lv_aload_n hx hb dX7_applyMorphism_92 rfl (lv_at hl 0 rfl) ?_
        refine va_get (D := G) (ci := 6) (v := .ref a1) (C := RX7) (T := TX7) (N := 11) hx hb hts (by decide +kernel) hown hK hP 0 rfl rfl 0 (by decide) (hts (.fieldLink RX7 7 "SturmianWordsModel" "now" "[I") (by decide +kernel)) (fun _ h9 => h9) rfl dX7_applyMorphism_93 ?_
        refine lv_iconst (v := iZ 3) hx hb dX7_applyMorphism_96 rfl ?_
        refine z_iald (D := G) hx hb hK hP 1 0 rfl rfl (by omega) dX7_applyMorphism_97 ?_
        exact z_iretE hx hb hr hlocks dX7_applyMorphism_98 hS.2.2 ⟨(show 0 ≤ 0 by omega), (show 0 ≤ 0 by omega)⟩ ⟨x1, (sI (by rw [tkW_ge (by omega)]; exact hx13)), (i2), (hP), (hD), Fh.of hS⟩
      · exfalso; omega
    · have hwk0 : nw (4 + k) = ltr b n k := hw.2.2.2 k (by omega) (by omega) (by omega)
      have hlr0 := ltr_r b n k
      refine lv_iload_n hx hb dX7_applyMorphism_30 rfl (lv_at hl 1 rfl) ?_
      refine lv_aload_n hx hb dX7_applyMorphism_31 rfl (lv_at hl 0 rfl) ?_
      refine va_get (D := G) (ci := 6) (v := .ref a1) (C := RX7) (T := TX7) (N := 11) hx hb hts (by decide +kernel) hown hK hP 0 rfl rfl 0 (by decide) (hts (.fieldLink RX7 7 "SturmianWordsModel" "now" "[I") (by decide +kernel)) (fun _ h9 => h9) rfl dX7_applyMorphism_32 ?_
      refine lv_iconst (v := iZ 4) hx hb dX7_applyMorphism_35 rfl ?_
      refine lv_iload_n hx hb dX7_applyMorphism_36 rfl (lv_at hl 2 rfl) ?_
      refine z_iadd hx hb dX7_applyMorphism_37 ?_
      refine z_iald (D := G) hx hb hK hP 1 0 rfl rfl (by omega) dX7_applyMorphism_38 ?_
      refine z_calli (va_runS (As := [.int (iZ mo), .int (iZ (nw (4 + k)))]) (rest := []) ⟨hx, hb, hml, hown, hts⟩ (c_X7_imageOf lau G cy mo (nw (4 + k)) (by first | assumption | omega) (by first | assumption | omega)) (va_cwS 2 hts gX7_applyMorphism_X7_imageOf rfl rfl rfl (by decide +kernel) ⟨Nat.le_of_ble_eq_true rfl, Nat.le_of_ble_eq_true rfl⟩) ⟨P1_blind, P1_mk hKK (trivial)⟩ rfl rfl hl.1 rfl (lv_room (Nat.le_of_ble_eq_true rfl)) dX7_applyMorphism_39 ⟨(show 0 + 0 ≤ 0 by omega), (show 0 + 0 ≤ 0 by omega)⟩) ?_
      refine lv_istore_n (lv' := [(3, .int (iZ (imgS mo (nw (4 + k))))), (0, .ref a0), (1, .int (iZ mo)), (2, .int (iZ k))]) hx hb dX7_applyMorphism_42 rfl hl (by decide) rfl (fun ls hl => ?_)
      have hwk : nw (4 + k) = ltr b n k := hw.2.2.2 k (by omega) (by omega) (by omega)
      have hlr := ltr_r b n k
      have h9 := img_2 (mo := mo) (x := nw (4 + k)) h2 (by omega)
      rw [hwk] at h9
      rw [← hwk] at h9
      have h9b : mB mo (nw (4 + k)) = mB mo (ltr b n k) := by rw [hwk]
      have h9n : mN mo (nw (4 + k)) = mN mo (ltr b n k) := by rw [hwk]
      have hmr := mN_r mo (ltr b n k)
      have hx13 := i2.1
      have hap := apX_3 x1 (imgS mo (nw (4 + k)) / 10 % 10)
      refine lv_iload_n hx hb dX7_applyMorphism_43 rfl (lv_at hl 0 rfl) ?_
      refine lv_bipush (v := iZ 99) hx hb dX7_applyMorphism_44 (by decide +kernel) ?_
      refine z_icmp_le (tgt := 60) hx hb dX7_applyMorphism_46 (by decide) (by omega) (fun c_46 => ?_) (fun c_46 => ?_)
      · refine lv_aload_n hx hb dX7_applyMorphism_60 rfl (lv_at hl 1 rfl) ?_
        refine lv_iload_n hx hb dX7_applyMorphism_61 rfl (lv_at hl 0 rfl) ?_
        refine lv_bipush (v := iZ 10) hx hb dX7_applyMorphism_62 (by decide +kernel) ?_
        refine z_irem hx hb dX7_applyMorphism_64 (by omega) ?_
        have hPc := hP.sub (ws' := (MW cy a0 a1 a2 a3 a4 a5 a6 a7 ed tc ol nl nw x1 ps tm od ne pt)) [0, 1, 2, 3, 4, 5, 6, 7] rfl
        have hDc := (hD.sub (ws' := (MW cy a0 a1 a2 a3 a4 a5 a6 a7 ed tc ol nl nw x1 ps tm od ne pt)) [0, 1, 2, 3, 4, 5, 6, 7] (by decide) rfl).weaken (B := fun _ => True) (fun _ _ _ _ => trivial)
        have hFc := va_free (wc := (MW cy a0 a1 a2 a3 a4 a5 a6 a7 ed tc ol nl nw x1 ps tm od ne pt)) hD hS hA [0, 1, 2, 3, 4, 5, 6, 7] rfl
        refine z_callE (A := A) (va_runV (As := [.int (iZ ((imgS mo (nw (4 + k))) % 10))]) (rest := []) ⟨hx, hb, hml, hown, hts⟩ (c_X7_appendTo lau G cy a0 a1 a2 a3 a4 a5 a6 a7 H.size ed tc ol nl nw x1 ps tm od ne pt ((imgS mo (nw (4 + k))) % 10) (by first | assumption | omega)) (cwV 1 hts gX7_applyMorphism_X7_appendTo rfl rfl rfl (by decide +kernel) ⟨Nat.le_of_ble_eq_true rfl, Nat.le_of_ble_eq_true rfl⟩) ⟨P1_blind, va_recv hK hP (ci := 6) (q0 := 0) rfl rfl, P1_mk hKK (⟨rfl, hPc, hDc⟩)⟩ rfl rfl hl.1 rfl (lv_room (Nat.le_of_ble_eq_true rfl)) dX7_applyMorphism_65 ⟨(show 0 + 0 ≤ 0 by omega), (show 0 + 0 ≤ 0 by omega)⟩) hS.2.2 hFc (fun v H1 locs1 hR hL1 => ?_)
        obtain ⟨rfl, hq65, hP1, hD1, hF1⟩ := hR
        obtain ⟨hP, hD⟩ := va_join (wr := []) (w1 := (MW cy a0 a1 a2 a3 a4 a5 a6 a7 ed tc ol nl nw (apX x1 ((imgS mo (nw (4 + k))) % 10)) ps tm od ne pt)) hP hD [0, 1, 2, 3, 4, 5, 6, 7] [] rfl rfl (by decide) (by decide) hF1.2 hFc hP1 hD1
        have hS : va_S A s.heap H1 locs1 := Fh.S ((Fh.of hS).tr hF1 (fun q _ h => hFc q h)) hL1
        clear hPc hDc hFc hP1 hD1 hF1 hL1
        generalize H1 = H at hP hS ⊢
        have hP : va_P G vwCl (MW cy a0 a1 a2 a3 a4 a5 a6 a7 ed tc ol nl nw (apX x1 ((imgS mo (nw (4 + k))) % 10)) ps tm od ne pt) H := hP
        have hD : va_D A (MW cy a0 a1 a2 a3 a4 a5 a6 a7 ed tc ol nl nw (apX x1 ((imgS mo (nw (4 + k))) % 10)) ps tm od ne pt) := hD
        refine W.eq (g2 := F0 mt 68 ls []) rfl ?_
        refine lv_iinc (v := iZ (k + 1)) (lv' := [(2, .int (iZ (k + 1))), (3, .int (iZ (imgS mo (nw (4 + k))))), (0, .ref a0), (1, .int (iZ mo))]) hx hb dX7_applyMorphism_68 hl (k := 3) rfl (iZ_add _ _) (by decide) rfl (fun ls hl => ?_)
        refine lv_goto (tgt := 20) hx hb dX7_applyMorphism_71 (by decide) ?_
        exact ih_20 (k + 1) (apX x1 (imgS mo (nw (4 + k)) % 10)) _ _ ⟨⟨(by omega), (by rw [imI_s (by omega), hwk, show mN mo (ltr b n k) = 1 by omega]; have e := i2.sn (v := imgS mo (nw (4 + k)) % 10) (by omega); rw [show 2 * (imI mo b n k).1 + imgS mo (nw (4 + k)) % 10 = (imI mo b n k).1 * pw 1 + mB mo (ltr b n k) by rw [pw_1]; omega, hwk] at e; exact e), (by rw [imI_s (by omega)]; show 0 ≤ (imI mo b n k).2 + mN mo (ltr b n k) ∧ (imI mo b n k).2 + mN mo (ltr b n k) ≤ 2 * (k + 1); have := mN_r mo (ltr b n k); omega)⟩, hP, hD, Fh.of hS⟩ hS.2.2 ⟨by omega, by omega⟩ _ (lv_sub hl [2, 3, 0] rfl)
      · refine lv_aload_n hx hb dX7_applyMorphism_49 rfl (lv_at hl 1 rfl) ?_
        refine lv_iload_n hx hb dX7_applyMorphism_50 rfl (lv_at hl 0 rfl) ?_
        refine lv_bipush (v := iZ 10) hx hb dX7_applyMorphism_51 (by decide +kernel) ?_
        refine z_idiv hx hb dX7_applyMorphism_53 (by omega) ?_
        refine lv_bipush (v := iZ 10) hx hb dX7_applyMorphism_54 (by decide +kernel) ?_
        refine z_irem hx hb dX7_applyMorphism_56 (by omega) ?_
        have hPc := hP.sub (ws' := (MW cy a0 a1 a2 a3 a4 a5 a6 a7 ed tc ol nl nw x1 ps tm od ne pt)) [0, 1, 2, 3, 4, 5, 6, 7] rfl
        have hDc := (hD.sub (ws' := (MW cy a0 a1 a2 a3 a4 a5 a6 a7 ed tc ol nl nw x1 ps tm od ne pt)) [0, 1, 2, 3, 4, 5, 6, 7] (by decide) rfl).weaken (B := fun _ => True) (fun _ _ _ _ => trivial)
        have hFc := va_free (wc := (MW cy a0 a1 a2 a3 a4 a5 a6 a7 ed tc ol nl nw x1 ps tm od ne pt)) hD hS hA [0, 1, 2, 3, 4, 5, 6, 7] rfl
        refine z_callE (A := A) (va_runV (As := [.int (iZ (((imgS mo (nw (4 + k))) / 10) % 10))]) (rest := []) ⟨hx, hb, hml, hown, hts⟩ (c_X7_appendTo lau G cy a0 a1 a2 a3 a4 a5 a6 a7 H.size ed tc ol nl nw x1 ps tm od ne pt (((imgS mo (nw (4 + k))) / 10) % 10) (by first | assumption | omega)) (cwV 1 hts gX7_applyMorphism_X7_appendTo rfl rfl rfl (by decide +kernel) ⟨Nat.le_of_ble_eq_true rfl, Nat.le_of_ble_eq_true rfl⟩) ⟨P1_blind, va_recv hK hP (ci := 6) (q0 := 0) rfl rfl, P1_mk hKK (⟨rfl, hPc, hDc⟩)⟩ rfl rfl hl.1 rfl (lv_room (Nat.le_of_ble_eq_true rfl)) dX7_applyMorphism_57 ⟨(show 0 + 0 ≤ 0 by omega), (show 0 + 0 ≤ 0 by omega)⟩) hS.2.2 hFc (fun v H1 locs1 hR hL1 => ?_)
        obtain ⟨rfl, hq57, hP1, hD1, hF1⟩ := hR
        obtain ⟨hP, hD⟩ := va_join (wr := []) (w1 := (MW cy a0 a1 a2 a3 a4 a5 a6 a7 ed tc ol nl nw (apX x1 (((imgS mo (nw (4 + k))) / 10) % 10)) ps tm od ne pt)) hP hD [0, 1, 2, 3, 4, 5, 6, 7] [] rfl rfl (by decide) (by decide) hF1.2 hFc hP1 hD1
        have hS : va_S A s.heap H1 locs1 := Fh.S ((Fh.of hS).tr hF1 (fun q _ h => hFc q h)) hL1
        clear hPc hDc hFc hP1 hD1 hF1 hL1
        generalize H1 = H at hP hS ⊢
        have hP : va_P G vwCl (MW cy a0 a1 a2 a3 a4 a5 a6 a7 ed tc ol nl nw (apX x1 (((imgS mo (nw (4 + k))) / 10) % 10)) ps tm od ne pt) H := hP
        have hD : va_D A (MW cy a0 a1 a2 a3 a4 a5 a6 a7 ed tc ol nl nw (apX x1 (((imgS mo (nw (4 + k))) / 10) % 10)) ps tm od ne pt) := hD
        refine W.eq (g2 := F0 mt 60 ls []) rfl ?_
        refine lv_aload_n hx hb dX7_applyMorphism_60 rfl (lv_at hl 1 rfl) ?_
        refine lv_iload_n hx hb dX7_applyMorphism_61 rfl (lv_at hl 0 rfl) ?_
        refine lv_bipush (v := iZ 10) hx hb dX7_applyMorphism_62 (by decide +kernel) ?_
        refine z_irem hx hb dX7_applyMorphism_64 (by omega) ?_
        have hPc := hP.sub (ws' := (MW cy a0 a1 a2 a3 a4 a5 a6 a7 ed tc ol nl nw (apX x1 (((imgS mo (nw (4 + k))) / 10) % 10)) ps tm od ne pt)) [0, 1, 2, 3, 4, 5, 6, 7] rfl
        have hDc := (hD.sub (ws' := (MW cy a0 a1 a2 a3 a4 a5 a6 a7 ed tc ol nl nw (apX x1 (((imgS mo (nw (4 + k))) / 10) % 10)) ps tm od ne pt)) [0, 1, 2, 3, 4, 5, 6, 7] (by decide) rfl).weaken (B := fun _ => True) (fun _ _ _ _ => trivial)
        have hFc := va_free (wc := (MW cy a0 a1 a2 a3 a4 a5 a6 a7 ed tc ol nl nw (apX x1 (((imgS mo (nw (4 + k))) / 10) % 10)) ps tm od ne pt)) hD hS hA [0, 1, 2, 3, 4, 5, 6, 7] rfl
        refine z_callE (A := A) (va_runV (As := [.int (iZ ((imgS mo (nw (4 + k))) % 10))]) (rest := []) ⟨hx, hb, hml, hown, hts⟩ (c_X7_appendTo lau G cy a0 a1 a2 a3 a4 a5 a6 a7 H.size ed tc ol nl nw (apX x1 (((imgS mo (nw (4 + k))) / 10) % 10)) ps tm od ne pt ((imgS mo (nw (4 + k))) % 10) (by first | assumption | omega)) (cwV 1 hts gX7_applyMorphism_X7_appendTo rfl rfl rfl (by decide +kernel) ⟨Nat.le_of_ble_eq_true rfl, Nat.le_of_ble_eq_true rfl⟩) ⟨P1_blind, va_recv hK hP (ci := 6) (q0 := 0) rfl rfl, P1_mk hKK (⟨rfl, hPc, hDc⟩)⟩ rfl rfl hl.1 rfl (lv_room (Nat.le_of_ble_eq_true rfl)) dX7_applyMorphism_65 ⟨(show 0 + 0 ≤ 0 by omega), (show 0 + 0 ≤ 0 by omega)⟩) hS.2.2 hFc (fun v H1 locs1 hR hL1 => ?_)
        obtain ⟨rfl, hq65, hP1, hD1, hF1⟩ := hR
        obtain ⟨hP, hD⟩ := va_join (wr := []) (w1 := (MW cy a0 a1 a2 a3 a4 a5 a6 a7 ed tc ol nl nw (apX (apX x1 (((imgS mo (nw (4 + k))) / 10) % 10)) ((imgS mo (nw (4 + k))) % 10)) ps tm od ne pt)) hP hD [0, 1, 2, 3, 4, 5, 6, 7] [] rfl rfl (by decide) (by decide) hF1.2 hFc hP1 hD1
        have hS : va_S A s.heap H1 locs1 := Fh.S ((Fh.of hS).tr hF1 (fun q _ h => hFc q h)) hL1
        clear hPc hDc hFc hP1 hD1 hF1 hL1
        generalize H1 = H at hP hS ⊢
        have hP : va_P G vwCl (MW cy a0 a1 a2 a3 a4 a5 a6 a7 ed tc ol nl nw (apX (apX x1 (((imgS mo (nw (4 + k))) / 10) % 10)) ((imgS mo (nw (4 + k))) % 10)) ps tm od ne pt) H := hP
        have hD : va_D A (MW cy a0 a1 a2 a3 a4 a5 a6 a7 ed tc ol nl nw (apX (apX x1 (((imgS mo (nw (4 + k))) / 10) % 10)) ((imgS mo (nw (4 + k))) % 10)) ps tm od ne pt) := hD
        refine W.eq (g2 := F0 mt 68 ls []) rfl ?_
        refine lv_iinc (v := iZ (k + 1)) (lv' := [(2, .int (iZ (k + 1))), (3, .int (iZ (imgS mo (nw (4 + k))))), (0, .ref a0), (1, .int (iZ mo))]) hx hb dX7_applyMorphism_68 hl (k := 3) rfl (iZ_add _ _) (by decide) rfl (fun ls hl => ?_)
        refine lv_goto (tgt := 20) hx hb dX7_applyMorphism_71 (by decide) ?_
        exact ih_20 (k + 1) (apX (apX x1 (imgS mo (nw (4 + k)) / 10 % 10)) (imgS mo (nw (4 + k)) % 10)) _ _ ⟨⟨(by omega), (by rw [imI_s (by omega), show mN mo (ltr b n k) = 2 by omega]; have e := (i2.sn (v := imgS mo (nw (4 + k)) / 10 % 10) (by omega)).sn (v := imgS mo (nw (4 + k)) % 10) (by omega); rw [show 2 * (2 * (imI mo b n k).1 + imgS mo (nw (4 + k)) / 10 % 10) + imgS mo (nw (4 + k)) % 10 = (imI mo b n k).1 * pw 2 + mB mo (ltr b n k) by rw [show pw 2 = 4 from rfl]; omega, show (imI mo b n k).2 + 1 + 1 = (imI mo b n k).2 + 2 by omega] at e; exact e), (by rw [imI_s (by omega)]; show 0 ≤ (imI mo b n k).2 + mN mo (ltr b n k) ∧ (imI mo b n k).2 + mN mo (ltr b n k) ≤ 2 * (k + 1); have := mN_r mo (ltr b n k); omega)⟩, hP, hD, Fh.of hS⟩ hS.2.2 ⟨by omega, by omega⟩ _ (lv_sub hl [2, 3, 0] rfl)
  · exact absurd h2 c_6
set_option maxHeartbeats 4000000 in
set_option maxRecDepth 100000 in
theorem c_X7_invertMorphism_no3 (lau : Launch) (G : va_G) (cy : Nat → ClassId) (a0 a1 a2 a3 a4 a5 a6 a7 : Nat) (sz : Nat) (ed tc ol nl : Int) (nw nx ps tm od ne pt : Int → Int) (mo b n : Int) (hw : RowIs nw b n) (hn : 0 ≤ n ∧ n ≤ 60) (h2 : 0 ≤ mo ∧ mo ≤ 4) (h3 : (pI mo b n 61).1 < 0) : Met lau yX7_invertMorphism wsX7_invertMorphism ({ frames := 3, cells := 0, slots := 0, locals := 65 }) (P1 G cy [.ref a0, .int (iZ mo)] (fun H => H.size = sz ∧ va_P G vwCl (MW cy a0 a1 a2 a3 a4 a5 a6 a7 ed tc ol nl nw nx ps tm od ne pt) H ∧ va_D (fun _ => True) (MW cy a0 a1 a2 a3 a4 a5 a6 a7 ed tc ol nl nw nx ps tm od ne pt))) (Q1 (fun rv H0 H1 => ∃ (nx2 : Int → Int), rv = some (.int (iZ (-3))) ∧ (True) ∧ va_P G vwCl (MW cy a0 a1 a2 a3 a4 a5 a6 a7 ed tc ol nl nw nx2 ps tm od ne pt) H1 ∧ va_D (va_A (MW cy a0 a1 a2 a3 a4 a5 a6 a7 ed tc ol nl nw nx ps tm od ne pt) sz) (MW cy a0 a1 a2 a3 a4 a5 a6 a7 ed tc ol nl nw nx2 ps tm od ne pt) ∧ Fh (va_A (MW cy a0 a1 a2 a3 a4 a5 a6 a7 ed tc ol nl nw nx ps tm od ne pt) sz) H0 H1)) 0 0 (va_A (MW cy a0 a1 a2 a3 a4 a5 a6 a7 ed tc ol nl nw nx ps tm od ne pt) sz) := by
  refine z_head (lv := [(0, .ref a0), (1, .int (iZ mo))]) RX7 (by decide) rfl rfl (Nat.le_of_ble_eq_true rfl) rfl ?_
  intro pr ev s mt below meth cd ls hx hb hr hlocks hml hown hname hts hKK hP hl
  have hK := hKK.1
  obtain ⟨hsz, hP, hD0⟩ := hP
  subst hsz
  have hD := hD0.self (sz := s.heap.size)
  generalize hAe : va_A (MW cy a0 a1 a2 a3 a4 a5 a6 a7 ed tc ol nl nw nx ps tm od ne pt) s.heap.size = A at hD ⊢
  have hA : ∀ q : Nat, s.heap.size ≤ q → A q := fun q h => by rw [← hAe]; exact Or.inr h
  have hS : va_S A s.heap s.heap [] := va_S.rf
  have hP : va_P G vwCl (MW cy a0 a1 a2 a3 a4 a5 a6 a7 ed tc ol nl nw nx ps tm od ne pt) s.heap := hP
  have hLw : ∀ x, 4 ≤ x → x < 4 + nw 3 → 0 ≤ nw x ∧ nw x ≤ 1 := fun x q1 q2 => by have e := hw.2.2.2 (x - 4) (by omega) (by have := hw.1; omega) (by have := hw.1; omega); rw [show 4 + (x - 4) = x by omega] at e; have := ltr_r b n (x - 4); omega
  refine lv_iload_n hx hb dX7_invertMorphism_0 rfl (lv_at hl 1 rfl) ?_
  refine lv_iconst (v := iZ 0) hx hb dX7_invertMorphism_1 rfl ?_
  refine lv_iconst (v := iZ 4) hx hb dX7_invertMorphism_2 rfl ?_
  refine z_calli (va_runS (As := [.int (iZ mo), .int (iZ 0), .int (iZ 4)]) (rest := []) ⟨hx, hb, hml, hown, hts⟩ (c_X7_in lau G cy mo 0 4 (by first | assumption | omega)) (va_cwS 3 hts gX7_invertMorphism_X7_in rfl rfl rfl (by decide +kernel) ⟨Nat.le_of_ble_eq_true rfl, Nat.le_of_ble_eq_true rfl⟩) ⟨P1_blind, P1_mk hKK (trivial)⟩ rfl rfl hl.1 rfl (lv_room (Nat.le_of_ble_eq_true rfl)) dX7_invertMorphism_3 ⟨(show 0 + 0 ≤ 0 by omega), (show 0 + 0 ≤ 0 by omega)⟩) ?_
  refine z_ifB_ne (tgt := 11) hx hb dX7_invertMorphism_6 (by decide) (fun c_6 => ?_) (fun c_6 => ?_)
  · refine lv_aload_n hx hb dX7_invertMorphism_11 rfl (lv_at hl 0 rfl) ?_
    refine va_get (D := G) (ci := 6) (v := .ref a2) (C := RX7) (T := TX7) (N := 11) hx hb hts (by decide +kernel) hown hK hP 0 rfl rfl 1 (by decide) (hts (.fieldLink RX7 13 "SturmianWordsModel" "next" "[I") (by decide +kernel)) (fun _ h9 => h9) rfl dX7_invertMorphism_12 ?_
    refine lv_iconst (v := iZ 3) hx hb dX7_invertMorphism_15 rfl ?_
    refine lv_iconst (v := iZ 0) hx hb dX7_invertMorphism_16 rfl ?_
    refine z_iast (D := G) hx hb hK hP hD hS 2 0 rfl rfl (by omega) dX7_invertMorphism_17 (fun H locs hP hD hS => ?_)
    have hP : va_P G vwCl (MW cy a0 a1 a2 a3 a4 a5 a6 a7 ed tc ol nl nw (up1 nx 3 0) ps tm od ne pt) H := hP
    have hD : va_D A (MW cy a0 a1 a2 a3 a4 a5 a6 a7 ed tc ol nl nw (up1 nx 3 0) ps tm od ne pt) := hD
    refine lv_iconst (v := iZ 0) hx hb dX7_invertMorphism_18 rfl ?_
    refine lv_istore_n (lv' := [(2, .int (iZ 0)), (0, .ref a0), (1, .int (iZ mo))]) hx hb dX7_invertMorphism_19 rfl hl (by decide) rfl (fun ls hl => ?_)
    refine z_loopH5 (nL := 6) (A := A) (fun (x : Int) (k : Int) (ob : Int) (oc : Int) (x1 : Int → Int) => [(0, .ref a0), (1, .int (iZ mo)), (2, .int (iZ x))]) (fun (x : Int) (k : Int) (ob : Int) (oc : Int) (x1 : Int → Int) (H : Heap) => ((pI mo b n k = (x, ob, oc)) ∧ (RowIs x1 ob oc) ∧ (0 ≤ k ∧ k ≤ x ∧ x ≤ 61 ∧ oc = k)) ∧ va_P G vwCl (MW cy a0 a1 a2 a3 a4 a5 a6 a7 ed tc ol nl nw x1 ps tm od ne pt) H ∧ va_D A (MW cy a0 a1 a2 a3 a4 a5 a6 a7 ed tc ol nl nw x1 ps tm od ne pt) ∧ Fh A s.heap H) (fun (x : Int) (k : Int) (ob : Int) (oc : Int) (x1 : Int → Int) => 61 - x) (fun (x : Int) (k : Int) (ob : Int) (oc : Int) (x1 : Int → Int) => 0) (fun (x : Int) (k : Int) (ob : Int) (oc : Int) (x1 : Int → Int) => 0) (a1 := 0) (a2 := 0) (a3 := 0) (a4 := 0) (a5 := (up1 nx 3 0)) ⟨⟨(pI_0 _ _ _), (RowIs.nil), (by omega)⟩, hP, hD, Fh.of hS⟩ hS.2.2 (lv_sub hl [1, 2, 0] rfl) ?_
    rintro x k ob oc x1 H locs ⟨⟨i1, i2, i3⟩, hP, hD, hFr⟩ hLc ih_20 ls hl
    have hS : va_S A s.heap H locs := Fh.S hFr hLc
    have hw3 := hw.1
    refine lv_iload_n hx hb dX7_invertMorphism_20 rfl (lv_at hl 2 rfl) ?_
    refine lv_aload_n hx hb dX7_invertMorphism_21 rfl (lv_at hl 0 rfl) ?_
    refine va_get (D := G) (ci := 6) (v := .ref a1) (C := RX7) (T := TX7) (N := 11) hx hb hts (by decide +kernel) hown hK hP 0 rfl rfl 0 (by decide) (hts (.fieldLink RX7 7 "SturmianWordsModel" "now" "[I") (by decide +kernel)) (fun _ h9 => h9) rfl dX7_invertMorphism_22 ?_
    refine lv_iconst (v := iZ 3) hx hb dX7_invertMorphism_25 rfl ?_
    refine z_iald (D := G) hx hb hK hP 1 0 rfl rfl (by omega) dX7_invertMorphism_26 ?_
    refine z_icmp_ge (tgt := 113) hx hb dX7_invertMorphism_27 (by decide) (by omega) (fun c_27 => ?_) (fun c_27 => ?_)
    · exfalso; have hpe : pI mo b n 61 = (x, ob, oc) := (by rw [pI_st (k := k) (j := 61) (by omega) (by rw [i1]; exact Or.inr (by show n ≤ x; omega)) (by omega), i1]); rw [hpe] at h3; have h3 : x < 0 := h3; omega
    · refine lv_iload_n hx hb dX7_invertMorphism_30 rfl (lv_at hl 1 rfl) ?_
      refine lv_iconst (v := iZ 0) hx hb dX7_invertMorphism_31 rfl ?_
      have hg0 := img_2 (mo := mo) (x := 0) h2 (by decide)
      refine z_calli (va_runS (As := [.int (iZ mo), .int (iZ 0)]) (rest := []) ⟨hx, hb, hml, hown, hts⟩ (c_X7_imageOf lau G cy mo 0 (by first | assumption | omega) (by first | assumption | omega)) (va_cwS 2 hts gX7_invertMorphism_X7_imageOf rfl rfl rfl (by decide +kernel) ⟨Nat.le_of_ble_eq_true rfl, Nat.le_of_ble_eq_true rfl⟩) ⟨P1_blind, P1_mk hKK (trivial)⟩ rfl rfl hl.1 rfl (lv_room (Nat.le_of_ble_eq_true rfl)) dX7_invertMorphism_32 ⟨(show 0 + 0 ≤ 0 by omega), (show 0 + 0 ≤ 0 by omega)⟩) ?_
      refine lv_bipush (v := iZ 99) hx hb dX7_invertMorphism_35 (by decide +kernel) ?_
      refine z_icmp_le (tgt := 44) hx hb dX7_invertMorphism_37 (by decide) (by omega) (fun c_37 => ?_) (fun c_37 => ?_)
      · refine lv_iconst (v := iZ 1) hx hb dX7_invertMorphism_44 rfl ?_
        refine z_tope (fun fs efs => ?_)
        refine lv_istore_n (lv' := [(3, .int (iZ fs)), (0, .ref a0), (1, .int (iZ mo)), (2, .int (iZ x))]) hx hb dX7_invertMorphism_45 rfl hl (by decide) rfl (fun ls hl => ?_)
        refine lv_aload_n hx hb dX7_invertMorphism_46 rfl (lv_at hl 1 rfl) ?_
        refine lv_iload_n hx hb dX7_invertMorphism_47 rfl (lv_at hl 2 rfl) ?_
        refine lv_iload_n hx hb dX7_invertMorphism_48 rfl (lv_at hl 0 rfl) ?_
        have hgf := img_2 (mo := mo) (x := fs) h2 (by omega)
        refine z_calli (va_runS (As := [.int (iZ mo), .int (iZ fs)]) (rest := [.ref a0]) ⟨hx, hb, hml, hown, hts⟩ (c_X7_imageOf lau G cy mo fs (by first | assumption | omega) (by first | assumption | omega)) (va_cwS 2 hts gX7_invertMorphism_X7_imageOf rfl rfl rfl (by decide +kernel) ⟨Nat.le_of_ble_eq_true rfl, Nat.le_of_ble_eq_true rfl⟩) ⟨P1_blind, P1_mk hKK (trivial)⟩ rfl rfl hl.1 rfl (lv_room (Nat.le_of_ble_eq_true rfl)) dX7_invertMorphism_49 ⟨(show 0 + 0 ≤ 0 by omega), (show 0 + 0 ≤ 0 by omega)⟩) ?_
        refine lv_iload_n hx hb dX7_invertMorphism_52 rfl (lv_at hl 3 rfl) ?_
        refine z_calli (va_runV (As := [.int (iZ (imgS mo fs)), .int (iZ x)]) (rest := []) ⟨hx, hb, hml, hown, hts⟩ (c_X7_stands lau G cy a0 a1 a2 a3 a4 a5 a6 a7 ed tc ol nl nw (imgS mo fs) x (by first | assumption | omega) (hLw) (by first | assumption | omega) (by first | assumption | omega)) (cwV 2 hts gX7_invertMorphism_X7_stands rfl rfl rfl (by decide +kernel) ⟨Nat.le_of_ble_eq_true rfl, Nat.le_of_ble_eq_true rfl⟩) ⟨P1_blind, va_recv hK hP (ci := 6) (q0 := 0) rfl rfl, P1_mk hKK (hP.sub [0, 1] rfl)⟩ rfl rfl hl.1 rfl (lv_room (Nat.le_of_ble_eq_true rfl)) dX7_invertMorphism_53 ⟨(show 0 + 0 ≤ 0 by omega), (show 0 + 0 ≤ 0 by omega)⟩) ?_
        refine z_ifB_eq (tgt := 63) hx hb dX7_invertMorphism_56 (by decide) (fun c_56 => ?_) (fun c_56 => ?_)
        · refine lv_iconst (v := iZ 1) hx hb dX7_invertMorphism_63 rfl ?_
          refine lv_iload_n hx hb dX7_invertMorphism_64 rfl (lv_at hl 0 rfl) ?_
          refine z_isub hx hb dX7_invertMorphism_65 ?_
          refine z_tope (fun lt elt => ?_)
          refine lv_istore (lv' := [(4, .int (iZ lt)), (3, .int (iZ fs)), (0, .ref a0), (1, .int (iZ mo)), (2, .int (iZ x))]) hx hb dX7_invertMorphism_66 hl (by decide) rfl (fun ls hl => ?_)
          refine lv_iload_n hx hb dX7_invertMorphism_68 rfl (lv_at hl 3 rfl) ?_
          refine lv_iload hx hb dX7_invertMorphism_69 (lv_at hl 0 rfl) ?_
          have hgl := img_2 (mo := mo) (x := lt) h2 (by omega)
          have hmr := mN_r mo lt
          have hx13 := i2.1
          refine z_calli (va_runS (As := [.int (iZ mo), .int (iZ lt)]) (rest := []) ⟨hx, hb, hml, hown, hts⟩ (c_X7_imageOf lau G cy mo lt (by first | assumption | omega) (by first | assumption | omega)) (va_cwS 2 hts gX7_invertMorphism_X7_imageOf rfl rfl rfl (by decide +kernel) ⟨Nat.le_of_ble_eq_true rfl, Nat.le_of_ble_eq_true rfl⟩) ⟨P1_blind, P1_mk hKK (trivial)⟩ rfl rfl hl.1 rfl (lv_room (Nat.le_of_ble_eq_true rfl)) dX7_invertMorphism_71 ⟨(show 0 + 0 ≤ 0 by omega), (show 0 + 0 ≤ 0 by omega)⟩) ?_
          refine lv_istore (lv' := [(5, .int (iZ (imgS mo lt))), (4, .int (iZ lt)), (3, .int (iZ fs)), (0, .ref a0), (1, .int (iZ mo)), (2, .int (iZ x))]) hx hb dX7_invertMorphism_74 hl (by decide) rfl (fun ls hl => ?_)
          refine lv_aload_n hx hb dX7_invertMorphism_76 rfl (lv_at hl 3 rfl) ?_
          refine lv_iload hx hb dX7_invertMorphism_77 (lv_at hl 0 rfl) ?_
          refine lv_iload_n hx hb dX7_invertMorphism_79 rfl (lv_at hl 5 rfl) ?_
          refine z_calli (va_runV (As := [.int (iZ (imgS mo lt)), .int (iZ x)]) (rest := []) ⟨hx, hb, hml, hown, hts⟩ (c_X7_stands lau G cy a0 a1 a2 a3 a4 a5 a6 a7 ed tc ol nl nw (imgS mo lt) x (by first | assumption | omega) (hLw) (by first | assumption | omega) (by first | assumption | omega)) (cwV 2 hts gX7_invertMorphism_X7_stands rfl rfl rfl (by decide +kernel) ⟨Nat.le_of_ble_eq_true rfl, Nat.le_of_ble_eq_true rfl⟩) ⟨P1_blind, va_recv hK hP (ci := 6) (q0 := 0) rfl rfl, P1_mk hKK (hP.sub [0, 1] rfl)⟩ rfl rfl hl.1 rfl (lv_room (Nat.le_of_ble_eq_true rfl)) dX7_invertMorphism_80 ⟨(show 0 + 0 ≤ 0 by omega), (show 0 + 0 ≤ 0 by omega)⟩) ?_
          have hlm := lb_mod (x := x) (fs := fs) (lt := lt) hw hn.2 h2 (by omega) (by omega) (by first | exact Or.inl ⟨c_56, elt⟩ | exact Or.inr ⟨c_56, elt⟩)
          refine z_ifB_ne (tgt := 89) hx hb dX7_invertMorphism_83 (by decide) (fun c_83 => ?_) (fun c_83 => ?_)
          · have hlb := hlm.1 c_83
            refine lv_aload_n hx hb dX7_invertMorphism_89 rfl (lv_at hl 3 rfl) ?_
            refine lv_iload hx hb dX7_invertMorphism_90 (lv_at hl 1 rfl) ?_
            have hPc := hP.sub (ws' := (MW cy a0 a1 a2 a3 a4 a5 a6 a7 ed tc ol nl nw x1 ps tm od ne pt)) [0, 1, 2, 3, 4, 5, 6, 7] rfl
            have hDc := (hD.sub (ws' := (MW cy a0 a1 a2 a3 a4 a5 a6 a7 ed tc ol nl nw x1 ps tm od ne pt)) [0, 1, 2, 3, 4, 5, 6, 7] (by decide) rfl).weaken (B := fun _ => True) (fun _ _ _ _ => trivial)
            have hFc := va_free (wc := (MW cy a0 a1 a2 a3 a4 a5 a6 a7 ed tc ol nl nw x1 ps tm od ne pt)) hD hS hA [0, 1, 2, 3, 4, 5, 6, 7] rfl
            refine z_callE (A := A) (va_runV (As := [.int (iZ lt)]) (rest := []) ⟨hx, hb, hml, hown, hts⟩ (c_X7_appendTo lau G cy a0 a1 a2 a3 a4 a5 a6 a7 H.size ed tc ol nl nw x1 ps tm od ne pt lt (by first | assumption | omega)) (cwV 1 hts gX7_invertMorphism_X7_appendTo rfl rfl rfl (by decide +kernel) ⟨Nat.le_of_ble_eq_true rfl, Nat.le_of_ble_eq_true rfl⟩) ⟨P1_blind, va_recv hK hP (ci := 6) (q0 := 0) rfl rfl, P1_mk hKK (⟨rfl, hPc, hDc⟩)⟩ rfl rfl hl.1 rfl (lv_room (Nat.le_of_ble_eq_true rfl)) dX7_invertMorphism_92 ⟨(show 0 + 0 ≤ 0 by omega), (show 0 + 0 ≤ 0 by omega)⟩) hS.2.2 hFc (fun v H1 locs1 hR hL1 => ?_)
            obtain ⟨rfl, hq92, hP1, hD1, hF1⟩ := hR
            obtain ⟨hP, hD⟩ := va_join (wr := []) (w1 := (MW cy a0 a1 a2 a3 a4 a5 a6 a7 ed tc ol nl nw (apX x1 lt) ps tm od ne pt)) hP hD [0, 1, 2, 3, 4, 5, 6, 7] [] rfl rfl (by decide) (by decide) hF1.2 hFc hP1 hD1
            have hS : va_S A s.heap H1 locs1 := Fh.S ((Fh.of hS).tr hF1 (fun q _ h => hFc q h)) hL1
            clear hPc hDc hFc hP1 hD1 hF1 hL1
            generalize H1 = H at hP hS ⊢
            have hP : va_P G vwCl (MW cy a0 a1 a2 a3 a4 a5 a6 a7 ed tc ol nl nw (apX x1 lt) ps tm od ne pt) H := hP
            have hD : va_D A (MW cy a0 a1 a2 a3 a4 a5 a6 a7 ed tc ol nl nw (apX x1 lt) ps tm od ne pt) := hD
            refine W.eq (g2 := F0 mt 95 ls []) rfl ?_
            refine lv_iload_n hx hb dX7_invertMorphism_95 rfl (lv_at hl 5 rfl) ?_
            refine lv_iload hx hb dX7_invertMorphism_96 (lv_at hl 0 rfl) ?_
            refine lv_bipush (v := iZ 99) hx hb dX7_invertMorphism_98 (by decide +kernel) ?_
            refine z_icmp_le (tgt := 107) hx hb dX7_invertMorphism_100 (by decide) (by omega) (fun c_100 => ?_) (fun c_100 => ?_)
            · refine lv_iconst (v := iZ 1) hx hb dX7_invertMorphism_107 rfl ?_
              refine z_iadd hx hb dX7_invertMorphism_108 ?_
              refine lv_istore_n (lv' := [(2, .int (iZ (x + 1))), (5, .int (iZ (imgS mo lt))), (4, .int (iZ lt)), (3, .int (iZ fs)), (0, .ref a0), (1, .int (iZ mo))]) hx hb dX7_invertMorphism_109 rfl hl (by decide) rfl (fun ls hl => ?_)
              refine lv_goto (tgt := 20) hx hb dX7_invertMorphism_110 (by decide) ?_
              exact ih_20 (x + 1) (k + 1) (2 * ob + lt) (oc + 1) (apX x1 lt) _ _ ⟨⟨(by first | rw [pI_go (by omega) i1 (by omega) (by rw [hlb]; omega), hlb, show mN mo lt = 2 by omega] | rw [pI_go (by omega) i1 (by omega) (by rw [hlb]; omega), hlb, show mN mo lt = 1 by omega]), (i2.sn (by omega)), (by omega)⟩, hP, hD, Fh.of hS⟩ hS.2.2 ⟨by omega, by omega⟩ _ (lv_sub hl [4, 5, 0] rfl)
            · refine lv_iconst (v := iZ 2) hx hb dX7_invertMorphism_103 rfl ?_
              refine lv_goto (tgt := 108) hx hb dX7_invertMorphism_104 (by decide) ?_
              refine z_iadd hx hb dX7_invertMorphism_108 ?_
              refine lv_istore_n (lv' := [(2, .int (iZ (x + 2))), (5, .int (iZ (imgS mo lt))), (4, .int (iZ lt)), (3, .int (iZ fs)), (0, .ref a0), (1, .int (iZ mo))]) hx hb dX7_invertMorphism_109 rfl hl (by decide) rfl (fun ls hl => ?_)
              refine lv_goto (tgt := 20) hx hb dX7_invertMorphism_110 (by decide) ?_
              exact ih_20 (x + 2) (k + 1) (2 * ob + lt) (oc + 1) (apX x1 lt) _ _ ⟨⟨(by first | rw [pI_go (by omega) i1 (by omega) (by rw [hlb]; omega), hlb, show mN mo lt = 2 by omega] | rw [pI_go (by omega) i1 (by omega) (by rw [hlb]; omega), hlb, show mN mo lt = 1 by omega]), (i2.sn (by omega)), (by omega)⟩, hP, hD, Fh.of hS⟩ hS.2.2 ⟨by omega, by omega⟩ _ (lv_sub hl [4, 5, 0] rfl)
          · refine lv_bipush (v := iZ (-3)) hx hb dX7_invertMorphism_86 (by decide +kernel) ?_
            exact z_iretE hx hb hr hlocks dX7_invertMorphism_88 hS.2.2 ⟨(show 0 ≤ 0 by omega), (show 0 ≤ 0 by omega)⟩ ⟨x1, (rfl), (trivial), (hP), (hD), Fh.of hS⟩
        · refine lv_iload_n hx hb dX7_invertMorphism_59 rfl (lv_at hl 0 rfl) ?_
          refine lv_goto (tgt := 66) hx hb dX7_invertMorphism_60 (by decide) ?_
          refine z_tope (fun lt elt => ?_)
          refine lv_istore (lv' := [(4, .int (iZ lt)), (3, .int (iZ fs)), (0, .ref a0), (1, .int (iZ mo)), (2, .int (iZ x))]) hx hb dX7_invertMorphism_66 hl (by decide) rfl (fun ls hl => ?_)
          refine lv_iload_n hx hb dX7_invertMorphism_68 rfl (lv_at hl 3 rfl) ?_
          refine lv_iload hx hb dX7_invertMorphism_69 (lv_at hl 0 rfl) ?_
          have hgl := img_2 (mo := mo) (x := lt) h2 (by omega)
          have hmr := mN_r mo lt
          have hx13 := i2.1
          refine z_calli (va_runS (As := [.int (iZ mo), .int (iZ lt)]) (rest := []) ⟨hx, hb, hml, hown, hts⟩ (c_X7_imageOf lau G cy mo lt (by first | assumption | omega) (by first | assumption | omega)) (va_cwS 2 hts gX7_invertMorphism_X7_imageOf rfl rfl rfl (by decide +kernel) ⟨Nat.le_of_ble_eq_true rfl, Nat.le_of_ble_eq_true rfl⟩) ⟨P1_blind, P1_mk hKK (trivial)⟩ rfl rfl hl.1 rfl (lv_room (Nat.le_of_ble_eq_true rfl)) dX7_invertMorphism_71 ⟨(show 0 + 0 ≤ 0 by omega), (show 0 + 0 ≤ 0 by omega)⟩) ?_
          refine lv_istore (lv' := [(5, .int (iZ (imgS mo lt))), (4, .int (iZ lt)), (3, .int (iZ fs)), (0, .ref a0), (1, .int (iZ mo)), (2, .int (iZ x))]) hx hb dX7_invertMorphism_74 hl (by decide) rfl (fun ls hl => ?_)
          refine lv_aload_n hx hb dX7_invertMorphism_76 rfl (lv_at hl 3 rfl) ?_
          refine lv_iload hx hb dX7_invertMorphism_77 (lv_at hl 0 rfl) ?_
          refine lv_iload_n hx hb dX7_invertMorphism_79 rfl (lv_at hl 5 rfl) ?_
          refine z_calli (va_runV (As := [.int (iZ (imgS mo lt)), .int (iZ x)]) (rest := []) ⟨hx, hb, hml, hown, hts⟩ (c_X7_stands lau G cy a0 a1 a2 a3 a4 a5 a6 a7 ed tc ol nl nw (imgS mo lt) x (by first | assumption | omega) (hLw) (by first | assumption | omega) (by first | assumption | omega)) (cwV 2 hts gX7_invertMorphism_X7_stands rfl rfl rfl (by decide +kernel) ⟨Nat.le_of_ble_eq_true rfl, Nat.le_of_ble_eq_true rfl⟩) ⟨P1_blind, va_recv hK hP (ci := 6) (q0 := 0) rfl rfl, P1_mk hKK (hP.sub [0, 1] rfl)⟩ rfl rfl hl.1 rfl (lv_room (Nat.le_of_ble_eq_true rfl)) dX7_invertMorphism_80 ⟨(show 0 + 0 ≤ 0 by omega), (show 0 + 0 ≤ 0 by omega)⟩) ?_
          have hlm := lb_mod (x := x) (fs := fs) (lt := lt) hw hn.2 h2 (by omega) (by omega) (by first | exact Or.inl ⟨c_56, elt⟩ | exact Or.inr ⟨c_56, elt⟩)
          refine z_ifB_ne (tgt := 89) hx hb dX7_invertMorphism_83 (by decide) (fun c_83 => ?_) (fun c_83 => ?_)
          · have hlb := hlm.1 c_83
            refine lv_aload_n hx hb dX7_invertMorphism_89 rfl (lv_at hl 3 rfl) ?_
            refine lv_iload hx hb dX7_invertMorphism_90 (lv_at hl 1 rfl) ?_
            have hPc := hP.sub (ws' := (MW cy a0 a1 a2 a3 a4 a5 a6 a7 ed tc ol nl nw x1 ps tm od ne pt)) [0, 1, 2, 3, 4, 5, 6, 7] rfl
            have hDc := (hD.sub (ws' := (MW cy a0 a1 a2 a3 a4 a5 a6 a7 ed tc ol nl nw x1 ps tm od ne pt)) [0, 1, 2, 3, 4, 5, 6, 7] (by decide) rfl).weaken (B := fun _ => True) (fun _ _ _ _ => trivial)
            have hFc := va_free (wc := (MW cy a0 a1 a2 a3 a4 a5 a6 a7 ed tc ol nl nw x1 ps tm od ne pt)) hD hS hA [0, 1, 2, 3, 4, 5, 6, 7] rfl
            refine z_callE (A := A) (va_runV (As := [.int (iZ lt)]) (rest := []) ⟨hx, hb, hml, hown, hts⟩ (c_X7_appendTo lau G cy a0 a1 a2 a3 a4 a5 a6 a7 H.size ed tc ol nl nw x1 ps tm od ne pt lt (by first | assumption | omega)) (cwV 1 hts gX7_invertMorphism_X7_appendTo rfl rfl rfl (by decide +kernel) ⟨Nat.le_of_ble_eq_true rfl, Nat.le_of_ble_eq_true rfl⟩) ⟨P1_blind, va_recv hK hP (ci := 6) (q0 := 0) rfl rfl, P1_mk hKK (⟨rfl, hPc, hDc⟩)⟩ rfl rfl hl.1 rfl (lv_room (Nat.le_of_ble_eq_true rfl)) dX7_invertMorphism_92 ⟨(show 0 + 0 ≤ 0 by omega), (show 0 + 0 ≤ 0 by omega)⟩) hS.2.2 hFc (fun v H1 locs1 hR hL1 => ?_)
            obtain ⟨rfl, hq92, hP1, hD1, hF1⟩ := hR
            obtain ⟨hP, hD⟩ := va_join (wr := []) (w1 := (MW cy a0 a1 a2 a3 a4 a5 a6 a7 ed tc ol nl nw (apX x1 lt) ps tm od ne pt)) hP hD [0, 1, 2, 3, 4, 5, 6, 7] [] rfl rfl (by decide) (by decide) hF1.2 hFc hP1 hD1
            have hS : va_S A s.heap H1 locs1 := Fh.S ((Fh.of hS).tr hF1 (fun q _ h => hFc q h)) hL1
            clear hPc hDc hFc hP1 hD1 hF1 hL1
            generalize H1 = H at hP hS ⊢
            have hP : va_P G vwCl (MW cy a0 a1 a2 a3 a4 a5 a6 a7 ed tc ol nl nw (apX x1 lt) ps tm od ne pt) H := hP
            have hD : va_D A (MW cy a0 a1 a2 a3 a4 a5 a6 a7 ed tc ol nl nw (apX x1 lt) ps tm od ne pt) := hD
            refine W.eq (g2 := F0 mt 95 ls []) rfl ?_
            refine lv_iload_n hx hb dX7_invertMorphism_95 rfl (lv_at hl 5 rfl) ?_
            refine lv_iload hx hb dX7_invertMorphism_96 (lv_at hl 0 rfl) ?_
            refine lv_bipush (v := iZ 99) hx hb dX7_invertMorphism_98 (by decide +kernel) ?_
            refine z_icmp_le (tgt := 107) hx hb dX7_invertMorphism_100 (by decide) (by omega) (fun c_100 => ?_) (fun c_100 => ?_)
            · refine lv_iconst (v := iZ 1) hx hb dX7_invertMorphism_107 rfl ?_
              refine z_iadd hx hb dX7_invertMorphism_108 ?_
              refine lv_istore_n (lv' := [(2, .int (iZ (x + 1))), (5, .int (iZ (imgS mo lt))), (4, .int (iZ lt)), (3, .int (iZ fs)), (0, .ref a0), (1, .int (iZ mo))]) hx hb dX7_invertMorphism_109 rfl hl (by decide) rfl (fun ls hl => ?_)
              refine lv_goto (tgt := 20) hx hb dX7_invertMorphism_110 (by decide) ?_
              exact ih_20 (x + 1) (k + 1) (2 * ob + lt) (oc + 1) (apX x1 lt) _ _ ⟨⟨(by first | rw [pI_go (by omega) i1 (by omega) (by rw [hlb]; omega), hlb, show mN mo lt = 2 by omega] | rw [pI_go (by omega) i1 (by omega) (by rw [hlb]; omega), hlb, show mN mo lt = 1 by omega]), (i2.sn (by omega)), (by omega)⟩, hP, hD, Fh.of hS⟩ hS.2.2 ⟨by omega, by omega⟩ _ (lv_sub hl [4, 5, 0] rfl)
            · refine lv_iconst (v := iZ 2) hx hb dX7_invertMorphism_103 rfl ?_
              refine lv_goto (tgt := 108) hx hb dX7_invertMorphism_104 (by decide) ?_
              refine z_iadd hx hb dX7_invertMorphism_108 ?_
              refine lv_istore_n (lv' := [(2, .int (iZ (x + 2))), (5, .int (iZ (imgS mo lt))), (4, .int (iZ lt)), (3, .int (iZ fs)), (0, .ref a0), (1, .int (iZ mo))]) hx hb dX7_invertMorphism_109 rfl hl (by decide) rfl (fun ls hl => ?_)
              refine lv_goto (tgt := 20) hx hb dX7_invertMorphism_110 (by decide) ?_
              exact ih_20 (x + 2) (k + 1) (2 * ob + lt) (oc + 1) (apX x1 lt) _ _ ⟨⟨(by first | rw [pI_go (by omega) i1 (by omega) (by rw [hlb]; omega), hlb, show mN mo lt = 2 by omega] | rw [pI_go (by omega) i1 (by omega) (by rw [hlb]; omega), hlb, show mN mo lt = 1 by omega]), (i2.sn (by omega)), (by omega)⟩, hP, hD, Fh.of hS⟩ hS.2.2 ⟨by omega, by omega⟩ _ (lv_sub hl [4, 5, 0] rfl)
          · refine lv_bipush (v := iZ (-3)) hx hb dX7_invertMorphism_86 (by decide +kernel) ?_
            exact z_iretE hx hb hr hlocks dX7_invertMorphism_88 hS.2.2 ⟨(show 0 ≤ 0 by omega), (show 0 ≤ 0 by omega)⟩ ⟨x1, (rfl), (trivial), (hP), (hD), Fh.of hS⟩
      · refine lv_iconst (v := iZ 0) hx hb dX7_invertMorphism_40 rfl ?_
        refine lv_goto (tgt := 45) hx hb dX7_invertMorphism_41 (by decide) ?_
        refine z_tope (fun fs efs => ?_)
        refine lv_istore_n (lv' := [(3, .int (iZ fs)), (0, .ref a0), (1, .int (iZ mo)), (2, .int (iZ x))]) hx hb dX7_invertMorphism_45 rfl hl (by decide) rfl (fun ls hl => ?_)
        refine lv_aload_n hx hb dX7_invertMorphism_46 rfl (lv_at hl 1 rfl) ?_
        refine lv_iload_n hx hb dX7_invertMorphism_47 rfl (lv_at hl 2 rfl) ?_
        refine lv_iload_n hx hb dX7_invertMorphism_48 rfl (lv_at hl 0 rfl) ?_
        have hgf := img_2 (mo := mo) (x := fs) h2 (by omega)
        refine z_calli (va_runS (As := [.int (iZ mo), .int (iZ fs)]) (rest := [.ref a0]) ⟨hx, hb, hml, hown, hts⟩ (c_X7_imageOf lau G cy mo fs (by first | assumption | omega) (by first | assumption | omega)) (va_cwS 2 hts gX7_invertMorphism_X7_imageOf rfl rfl rfl (by decide +kernel) ⟨Nat.le_of_ble_eq_true rfl, Nat.le_of_ble_eq_true rfl⟩) ⟨P1_blind, P1_mk hKK (trivial)⟩ rfl rfl hl.1 rfl (lv_room (Nat.le_of_ble_eq_true rfl)) dX7_invertMorphism_49 ⟨(show 0 + 0 ≤ 0 by omega), (show 0 + 0 ≤ 0 by omega)⟩) ?_
        refine lv_iload_n hx hb dX7_invertMorphism_52 rfl (lv_at hl 3 rfl) ?_
        refine z_calli (va_runV (As := [.int (iZ (imgS mo fs)), .int (iZ x)]) (rest := []) ⟨hx, hb, hml, hown, hts⟩ (c_X7_stands lau G cy a0 a1 a2 a3 a4 a5 a6 a7 ed tc ol nl nw (imgS mo fs) x (by first | assumption | omega) (hLw) (by first | assumption | omega) (by first | assumption | omega)) (cwV 2 hts gX7_invertMorphism_X7_stands rfl rfl rfl (by decide +kernel) ⟨Nat.le_of_ble_eq_true rfl, Nat.le_of_ble_eq_true rfl⟩) ⟨P1_blind, va_recv hK hP (ci := 6) (q0 := 0) rfl rfl, P1_mk hKK (hP.sub [0, 1] rfl)⟩ rfl rfl hl.1 rfl (lv_room (Nat.le_of_ble_eq_true rfl)) dX7_invertMorphism_53 ⟨(show 0 + 0 ≤ 0 by omega), (show 0 + 0 ≤ 0 by omega)⟩) ?_
        refine z_ifB_eq (tgt := 63) hx hb dX7_invertMorphism_56 (by decide) (fun c_56 => ?_) (fun c_56 => ?_)
        · refine lv_iconst (v := iZ 1) hx hb dX7_invertMorphism_63 rfl ?_
          refine lv_iload_n hx hb dX7_invertMorphism_64 rfl (lv_at hl 0 rfl) ?_
          refine z_isub hx hb dX7_invertMorphism_65 ?_
          refine z_tope (fun lt elt => ?_)
          refine lv_istore (lv' := [(4, .int (iZ lt)), (3, .int (iZ fs)), (0, .ref a0), (1, .int (iZ mo)), (2, .int (iZ x))]) hx hb dX7_invertMorphism_66 hl (by decide) rfl (fun ls hl => ?_)
          refine lv_iload_n hx hb dX7_invertMorphism_68 rfl (lv_at hl 3 rfl) ?_
          refine lv_iload hx hb dX7_invertMorphism_69 (lv_at hl 0 rfl) ?_
          have hgl := img_2 (mo := mo) (x := lt) h2 (by omega)
          have hmr := mN_r mo lt
          have hx13 := i2.1
          refine z_calli (va_runS (As := [.int (iZ mo), .int (iZ lt)]) (rest := []) ⟨hx, hb, hml, hown, hts⟩ (c_X7_imageOf lau G cy mo lt (by first | assumption | omega) (by first | assumption | omega)) (va_cwS 2 hts gX7_invertMorphism_X7_imageOf rfl rfl rfl (by decide +kernel) ⟨Nat.le_of_ble_eq_true rfl, Nat.le_of_ble_eq_true rfl⟩) ⟨P1_blind, P1_mk hKK (trivial)⟩ rfl rfl hl.1 rfl (lv_room (Nat.le_of_ble_eq_true rfl)) dX7_invertMorphism_71 ⟨(show 0 + 0 ≤ 0 by omega), (show 0 + 0 ≤ 0 by omega)⟩) ?_
          refine lv_istore (lv' := [(5, .int (iZ (imgS mo lt))), (4, .int (iZ lt)), (3, .int (iZ fs)), (0, .ref a0), (1, .int (iZ mo)), (2, .int (iZ x))]) hx hb dX7_invertMorphism_74 hl (by decide) rfl (fun ls hl => ?_)
          refine lv_aload_n hx hb dX7_invertMorphism_76 rfl (lv_at hl 3 rfl) ?_
          refine lv_iload hx hb dX7_invertMorphism_77 (lv_at hl 0 rfl) ?_
          refine lv_iload_n hx hb dX7_invertMorphism_79 rfl (lv_at hl 5 rfl) ?_
          refine z_calli (va_runV (As := [.int (iZ (imgS mo lt)), .int (iZ x)]) (rest := []) ⟨hx, hb, hml, hown, hts⟩ (c_X7_stands lau G cy a0 a1 a2 a3 a4 a5 a6 a7 ed tc ol nl nw (imgS mo lt) x (by first | assumption | omega) (hLw) (by first | assumption | omega) (by first | assumption | omega)) (cwV 2 hts gX7_invertMorphism_X7_stands rfl rfl rfl (by decide +kernel) ⟨Nat.le_of_ble_eq_true rfl, Nat.le_of_ble_eq_true rfl⟩) ⟨P1_blind, va_recv hK hP (ci := 6) (q0 := 0) rfl rfl, P1_mk hKK (hP.sub [0, 1] rfl)⟩ rfl rfl hl.1 rfl (lv_room (Nat.le_of_ble_eq_true rfl)) dX7_invertMorphism_80 ⟨(show 0 + 0 ≤ 0 by omega), (show 0 + 0 ≤ 0 by omega)⟩) ?_
          have hlm := lb_mod (x := x) (fs := fs) (lt := lt) hw hn.2 h2 (by omega) (by omega) (by first | exact Or.inl ⟨c_56, elt⟩ | exact Or.inr ⟨c_56, elt⟩)
          refine z_ifB_ne (tgt := 89) hx hb dX7_invertMorphism_83 (by decide) (fun c_83 => ?_) (fun c_83 => ?_)
          · have hlb := hlm.1 c_83
            refine lv_aload_n hx hb dX7_invertMorphism_89 rfl (lv_at hl 3 rfl) ?_
            refine lv_iload hx hb dX7_invertMorphism_90 (lv_at hl 1 rfl) ?_
            have hPc := hP.sub (ws' := (MW cy a0 a1 a2 a3 a4 a5 a6 a7 ed tc ol nl nw x1 ps tm od ne pt)) [0, 1, 2, 3, 4, 5, 6, 7] rfl
            have hDc := (hD.sub (ws' := (MW cy a0 a1 a2 a3 a4 a5 a6 a7 ed tc ol nl nw x1 ps tm od ne pt)) [0, 1, 2, 3, 4, 5, 6, 7] (by decide) rfl).weaken (B := fun _ => True) (fun _ _ _ _ => trivial)
            have hFc := va_free (wc := (MW cy a0 a1 a2 a3 a4 a5 a6 a7 ed tc ol nl nw x1 ps tm od ne pt)) hD hS hA [0, 1, 2, 3, 4, 5, 6, 7] rfl
            refine z_callE (A := A) (va_runV (As := [.int (iZ lt)]) (rest := []) ⟨hx, hb, hml, hown, hts⟩ (c_X7_appendTo lau G cy a0 a1 a2 a3 a4 a5 a6 a7 H.size ed tc ol nl nw x1 ps tm od ne pt lt (by first | assumption | omega)) (cwV 1 hts gX7_invertMorphism_X7_appendTo rfl rfl rfl (by decide +kernel) ⟨Nat.le_of_ble_eq_true rfl, Nat.le_of_ble_eq_true rfl⟩) ⟨P1_blind, va_recv hK hP (ci := 6) (q0 := 0) rfl rfl, P1_mk hKK (⟨rfl, hPc, hDc⟩)⟩ rfl rfl hl.1 rfl (lv_room (Nat.le_of_ble_eq_true rfl)) dX7_invertMorphism_92 ⟨(show 0 + 0 ≤ 0 by omega), (show 0 + 0 ≤ 0 by omega)⟩) hS.2.2 hFc (fun v H1 locs1 hR hL1 => ?_)
            obtain ⟨rfl, hq92, hP1, hD1, hF1⟩ := hR
            obtain ⟨hP, hD⟩ := va_join (wr := []) (w1 := (MW cy a0 a1 a2 a3 a4 a5 a6 a7 ed tc ol nl nw (apX x1 lt) ps tm od ne pt)) hP hD [0, 1, 2, 3, 4, 5, 6, 7] [] rfl rfl (by decide) (by decide) hF1.2 hFc hP1 hD1
            have hS : va_S A s.heap H1 locs1 := Fh.S ((Fh.of hS).tr hF1 (fun q _ h => hFc q h)) hL1
            clear hPc hDc hFc hP1 hD1 hF1 hL1
            generalize H1 = H at hP hS ⊢
            have hP : va_P G vwCl (MW cy a0 a1 a2 a3 a4 a5 a6 a7 ed tc ol nl nw (apX x1 lt) ps tm od ne pt) H := hP
            have hD : va_D A (MW cy a0 a1 a2 a3 a4 a5 a6 a7 ed tc ol nl nw (apX x1 lt) ps tm od ne pt) := hD
            refine W.eq (g2 := F0 mt 95 ls []) rfl ?_
            refine lv_iload_n hx hb dX7_invertMorphism_95 rfl (lv_at hl 5 rfl) ?_
            refine lv_iload hx hb dX7_invertMorphism_96 (lv_at hl 0 rfl) ?_
            refine lv_bipush (v := iZ 99) hx hb dX7_invertMorphism_98 (by decide +kernel) ?_
            refine z_icmp_le (tgt := 107) hx hb dX7_invertMorphism_100 (by decide) (by omega) (fun c_100 => ?_) (fun c_100 => ?_)
            · refine lv_iconst (v := iZ 1) hx hb dX7_invertMorphism_107 rfl ?_
              refine z_iadd hx hb dX7_invertMorphism_108 ?_
              refine lv_istore_n (lv' := [(2, .int (iZ (x + 1))), (5, .int (iZ (imgS mo lt))), (4, .int (iZ lt)), (3, .int (iZ fs)), (0, .ref a0), (1, .int (iZ mo))]) hx hb dX7_invertMorphism_109 rfl hl (by decide) rfl (fun ls hl => ?_)
              refine lv_goto (tgt := 20) hx hb dX7_invertMorphism_110 (by decide) ?_
              exact ih_20 (x + 1) (k + 1) (2 * ob + lt) (oc + 1) (apX x1 lt) _ _ ⟨⟨(by first | rw [pI_go (by omega) i1 (by omega) (by rw [hlb]; omega), hlb, show mN mo lt = 2 by omega] | rw [pI_go (by omega) i1 (by omega) (by rw [hlb]; omega), hlb, show mN mo lt = 1 by omega]), (i2.sn (by omega)), (by omega)⟩, hP, hD, Fh.of hS⟩ hS.2.2 ⟨by omega, by omega⟩ _ (lv_sub hl [4, 5, 0] rfl)
            · refine lv_iconst (v := iZ 2) hx hb dX7_invertMorphism_103 rfl ?_
              refine lv_goto (tgt := 108) hx hb dX7_invertMorphism_104 (by decide) ?_
              refine z_iadd hx hb dX7_invertMorphism_108 ?_
              refine lv_istore_n (lv' := [(2, .int (iZ (x + 2))), (5, .int (iZ (imgS mo lt))), (4, .int (iZ lt)), (3, .int (iZ fs)), (0, .ref a0), (1, .int (iZ mo))]) hx hb dX7_invertMorphism_109 rfl hl (by decide) rfl (fun ls hl => ?_)
              refine lv_goto (tgt := 20) hx hb dX7_invertMorphism_110 (by decide) ?_
              exact ih_20 (x + 2) (k + 1) (2 * ob + lt) (oc + 1) (apX x1 lt) _ _ ⟨⟨(by first | rw [pI_go (by omega) i1 (by omega) (by rw [hlb]; omega), hlb, show mN mo lt = 2 by omega] | rw [pI_go (by omega) i1 (by omega) (by rw [hlb]; omega), hlb, show mN mo lt = 1 by omega]), (i2.sn (by omega)), (by omega)⟩, hP, hD, Fh.of hS⟩ hS.2.2 ⟨by omega, by omega⟩ _ (lv_sub hl [4, 5, 0] rfl)
          · refine lv_bipush (v := iZ (-3)) hx hb dX7_invertMorphism_86 (by decide +kernel) ?_
            exact z_iretE hx hb hr hlocks dX7_invertMorphism_88 hS.2.2 ⟨(show 0 ≤ 0 by omega), (show 0 ≤ 0 by omega)⟩ ⟨x1, (rfl), (trivial), (hP), (hD), Fh.of hS⟩
        · refine lv_iload_n hx hb dX7_invertMorphism_59 rfl (lv_at hl 0 rfl) ?_
          refine lv_goto (tgt := 66) hx hb dX7_invertMorphism_60 (by decide) ?_
          refine z_tope (fun lt elt => ?_)
          refine lv_istore (lv' := [(4, .int (iZ lt)), (3, .int (iZ fs)), (0, .ref a0), (1, .int (iZ mo)), (2, .int (iZ x))]) hx hb dX7_invertMorphism_66 hl (by decide) rfl (fun ls hl => ?_)
          refine lv_iload_n hx hb dX7_invertMorphism_68 rfl (lv_at hl 3 rfl) ?_
          refine lv_iload hx hb dX7_invertMorphism_69 (lv_at hl 0 rfl) ?_
          have hgl := img_2 (mo := mo) (x := lt) h2 (by omega)
          have hmr := mN_r mo lt
          have hx13 := i2.1
          refine z_calli (va_runS (As := [.int (iZ mo), .int (iZ lt)]) (rest := []) ⟨hx, hb, hml, hown, hts⟩ (c_X7_imageOf lau G cy mo lt (by first | assumption | omega) (by first | assumption | omega)) (va_cwS 2 hts gX7_invertMorphism_X7_imageOf rfl rfl rfl (by decide +kernel) ⟨Nat.le_of_ble_eq_true rfl, Nat.le_of_ble_eq_true rfl⟩) ⟨P1_blind, P1_mk hKK (trivial)⟩ rfl rfl hl.1 rfl (lv_room (Nat.le_of_ble_eq_true rfl)) dX7_invertMorphism_71 ⟨(show 0 + 0 ≤ 0 by omega), (show 0 + 0 ≤ 0 by omega)⟩) ?_
          refine lv_istore (lv' := [(5, .int (iZ (imgS mo lt))), (4, .int (iZ lt)), (3, .int (iZ fs)), (0, .ref a0), (1, .int (iZ mo)), (2, .int (iZ x))]) hx hb dX7_invertMorphism_74 hl (by decide) rfl (fun ls hl => ?_)
          refine lv_aload_n hx hb dX7_invertMorphism_76 rfl (lv_at hl 3 rfl) ?_
          refine lv_iload hx hb dX7_invertMorphism_77 (lv_at hl 0 rfl) ?_
          refine lv_iload_n hx hb dX7_invertMorphism_79 rfl (lv_at hl 5 rfl) ?_
          refine z_calli (va_runV (As := [.int (iZ (imgS mo lt)), .int (iZ x)]) (rest := []) ⟨hx, hb, hml, hown, hts⟩ (c_X7_stands lau G cy a0 a1 a2 a3 a4 a5 a6 a7 ed tc ol nl nw (imgS mo lt) x (by first | assumption | omega) (hLw) (by first | assumption | omega) (by first | assumption | omega)) (cwV 2 hts gX7_invertMorphism_X7_stands rfl rfl rfl (by decide +kernel) ⟨Nat.le_of_ble_eq_true rfl, Nat.le_of_ble_eq_true rfl⟩) ⟨P1_blind, va_recv hK hP (ci := 6) (q0 := 0) rfl rfl, P1_mk hKK (hP.sub [0, 1] rfl)⟩ rfl rfl hl.1 rfl (lv_room (Nat.le_of_ble_eq_true rfl)) dX7_invertMorphism_80 ⟨(show 0 + 0 ≤ 0 by omega), (show 0 + 0 ≤ 0 by omega)⟩) ?_
          have hlm := lb_mod (x := x) (fs := fs) (lt := lt) hw hn.2 h2 (by omega) (by omega) (by first | exact Or.inl ⟨c_56, elt⟩ | exact Or.inr ⟨c_56, elt⟩)
          refine z_ifB_ne (tgt := 89) hx hb dX7_invertMorphism_83 (by decide) (fun c_83 => ?_) (fun c_83 => ?_)
          · have hlb := hlm.1 c_83
            refine lv_aload_n hx hb dX7_invertMorphism_89 rfl (lv_at hl 3 rfl) ?_
            refine lv_iload hx hb dX7_invertMorphism_90 (lv_at hl 1 rfl) ?_
            have hPc := hP.sub (ws' := (MW cy a0 a1 a2 a3 a4 a5 a6 a7 ed tc ol nl nw x1 ps tm od ne pt)) [0, 1, 2, 3, 4, 5, 6, 7] rfl
            have hDc := (hD.sub (ws' := (MW cy a0 a1 a2 a3 a4 a5 a6 a7 ed tc ol nl nw x1 ps tm od ne pt)) [0, 1, 2, 3, 4, 5, 6, 7] (by decide) rfl).weaken (B := fun _ => True) (fun _ _ _ _ => trivial)
            have hFc := va_free (wc := (MW cy a0 a1 a2 a3 a4 a5 a6 a7 ed tc ol nl nw x1 ps tm od ne pt)) hD hS hA [0, 1, 2, 3, 4, 5, 6, 7] rfl
            refine z_callE (A := A) (va_runV (As := [.int (iZ lt)]) (rest := []) ⟨hx, hb, hml, hown, hts⟩ (c_X7_appendTo lau G cy a0 a1 a2 a3 a4 a5 a6 a7 H.size ed tc ol nl nw x1 ps tm od ne pt lt (by first | assumption | omega)) (cwV 1 hts gX7_invertMorphism_X7_appendTo rfl rfl rfl (by decide +kernel) ⟨Nat.le_of_ble_eq_true rfl, Nat.le_of_ble_eq_true rfl⟩) ⟨P1_blind, va_recv hK hP (ci := 6) (q0 := 0) rfl rfl, P1_mk hKK (⟨rfl, hPc, hDc⟩)⟩ rfl rfl hl.1 rfl (lv_room (Nat.le_of_ble_eq_true rfl)) dX7_invertMorphism_92 ⟨(show 0 + 0 ≤ 0 by omega), (show 0 + 0 ≤ 0 by omega)⟩) hS.2.2 hFc (fun v H1 locs1 hR hL1 => ?_)
            obtain ⟨rfl, hq92, hP1, hD1, hF1⟩ := hR
            obtain ⟨hP, hD⟩ := va_join (wr := []) (w1 := (MW cy a0 a1 a2 a3 a4 a5 a6 a7 ed tc ol nl nw (apX x1 lt) ps tm od ne pt)) hP hD [0, 1, 2, 3, 4, 5, 6, 7] [] rfl rfl (by decide) (by decide) hF1.2 hFc hP1 hD1
            have hS : va_S A s.heap H1 locs1 := Fh.S ((Fh.of hS).tr hF1 (fun q _ h => hFc q h)) hL1
            clear hPc hDc hFc hP1 hD1 hF1 hL1
            generalize H1 = H at hP hS ⊢
            have hP : va_P G vwCl (MW cy a0 a1 a2 a3 a4 a5 a6 a7 ed tc ol nl nw (apX x1 lt) ps tm od ne pt) H := hP
            have hD : va_D A (MW cy a0 a1 a2 a3 a4 a5 a6 a7 ed tc ol nl nw (apX x1 lt) ps tm od ne pt) := hD
            refine W.eq (g2 := F0 mt 95 ls []) rfl ?_
            refine lv_iload_n hx hb dX7_invertMorphism_95 rfl (lv_at hl 5 rfl) ?_
            refine lv_iload hx hb dX7_invertMorphism_96 (lv_at hl 0 rfl) ?_
            refine lv_bipush (v := iZ 99) hx hb dX7_invertMorphism_98 (by decide +kernel) ?_
            refine z_icmp_le (tgt := 107) hx hb dX7_invertMorphism_100 (by decide) (by omega) (fun c_100 => ?_) (fun c_100 => ?_)
            · refine lv_iconst (v := iZ 1) hx hb dX7_invertMorphism_107 rfl ?_
              refine z_iadd hx hb dX7_invertMorphism_108 ?_
              refine lv_istore_n (lv' := [(2, .int (iZ (x + 1))), (5, .int (iZ (imgS mo lt))), (4, .int (iZ lt)), (3, .int (iZ fs)), (0, .ref a0), (1, .int (iZ mo))]) hx hb dX7_invertMorphism_109 rfl hl (by decide) rfl (fun ls hl => ?_)
              refine lv_goto (tgt := 20) hx hb dX7_invertMorphism_110 (by decide) ?_
              exact ih_20 (x + 1) (k + 1) (2 * ob + lt) (oc + 1) (apX x1 lt) _ _ ⟨⟨(by first | rw [pI_go (by omega) i1 (by omega) (by rw [hlb]; omega), hlb, show mN mo lt = 2 by omega] | rw [pI_go (by omega) i1 (by omega) (by rw [hlb]; omega), hlb, show mN mo lt = 1 by omega]), (i2.sn (by omega)), (by omega)⟩, hP, hD, Fh.of hS⟩ hS.2.2 ⟨by omega, by omega⟩ _ (lv_sub hl [4, 5, 0] rfl)
            · refine lv_iconst (v := iZ 2) hx hb dX7_invertMorphism_103 rfl ?_
              refine lv_goto (tgt := 108) hx hb dX7_invertMorphism_104 (by decide) ?_
              refine z_iadd hx hb dX7_invertMorphism_108 ?_
              refine lv_istore_n (lv' := [(2, .int (iZ (x + 2))), (5, .int (iZ (imgS mo lt))), (4, .int (iZ lt)), (3, .int (iZ fs)), (0, .ref a0), (1, .int (iZ mo))]) hx hb dX7_invertMorphism_109 rfl hl (by decide) rfl (fun ls hl => ?_)
              refine lv_goto (tgt := 20) hx hb dX7_invertMorphism_110 (by decide) ?_
              exact ih_20 (x + 2) (k + 1) (2 * ob + lt) (oc + 1) (apX x1 lt) _ _ ⟨⟨(by first | rw [pI_go (by omega) i1 (by omega) (by rw [hlb]; omega), hlb, show mN mo lt = 2 by omega] | rw [pI_go (by omega) i1 (by omega) (by rw [hlb]; omega), hlb, show mN mo lt = 1 by omega]), (i2.sn (by omega)), (by omega)⟩, hP, hD, Fh.of hS⟩ hS.2.2 ⟨by omega, by omega⟩ _ (lv_sub hl [4, 5, 0] rfl)
          · refine lv_bipush (v := iZ (-3)) hx hb dX7_invertMorphism_86 (by decide +kernel) ?_
            exact z_iretE hx hb hr hlocks dX7_invertMorphism_88 hS.2.2 ⟨(show 0 ≤ 0 by omega), (show 0 ≤ 0 by omega)⟩ ⟨x1, (rfl), (trivial), (hP), (hD), Fh.of hS⟩
  · exact absurd h2 c_6
set_option maxHeartbeats 4000000 in
set_option maxRecDepth 100000 in
theorem c_X7_invertMorphism (lau : Launch) (G : va_G) (cy : Nat → ClassId) (a0 a1 a2 a3 a4 a5 a6 a7 : Nat) (sz : Nat) (ed tc ol nl : Int) (nw nx ps tm od ne pt : Int → Int) (mo b n : Int) (he : 0 ≤ ed ∧ ed ≤ 6) (hw : RowIs nw b n) (hn : 0 ≤ n ∧ n ≤ 60) (h2 : 0 ≤ mo ∧ mo ≤ 4) (h3 : 0 ≤ (pI mo b n 61).1) : Met lau yX7_invertMorphism wsX7_invertMorphism ({ frames := 3, cells := 0, slots := 0, locals := 65 }) (P1 G cy [.ref a0, .int (iZ mo)] (fun H => H.size = sz ∧ va_P G vwCl (MW cy a0 a1 a2 a3 a4 a5 a6 a7 ed tc ol nl nw nx ps tm od ne pt) H ∧ va_D (fun _ => True) (MW cy a0 a1 a2 a3 a4 a5 a6 a7 ed tc ol nl nw nx ps tm od ne pt))) (Q1 (fun rv H0 H1 => ∃ (nx2 : Int → Int), rv = some (.int (iZ ((pI mo b n 61).2.2))) ∧ (RowIs nx2 (pI mo b n 61).2.1 (pI mo b n 61).2.2) ∧ va_P G vwCl (MW cy a0 a1 a2 a3 a4 a5 a6 a7 (svE ed) tc ol nl (tkW nx2 nw) (tkX nx2 nw) (svP ps nw ed) tm od ne pt) H1 ∧ va_D (va_A (MW cy a0 a1 a2 a3 a4 a5 a6 a7 ed tc ol nl nw nx ps tm od ne pt) sz) (MW cy a0 a1 a2 a3 a4 a5 a6 a7 (svE ed) tc ol nl (tkW nx2 nw) (tkX nx2 nw) (svP ps nw ed) tm od ne pt) ∧ Fh (va_A (MW cy a0 a1 a2 a3 a4 a5 a6 a7 ed tc ol nl nw nx ps tm od ne pt) sz) H0 H1)) 0 0 (va_A (MW cy a0 a1 a2 a3 a4 a5 a6 a7 ed tc ol nl nw nx ps tm od ne pt) sz) := by
  refine z_head (lv := [(0, .ref a0), (1, .int (iZ mo))]) RX7 (by decide) rfl rfl (Nat.le_of_ble_eq_true rfl) rfl ?_
  intro pr ev s mt below meth cd ls hx hb hr hlocks hml hown hname hts hKK hP hl
  have hK := hKK.1
  obtain ⟨hsz, hP, hD0⟩ := hP
  subst hsz
  have hD := hD0.self (sz := s.heap.size)
  generalize hAe : va_A (MW cy a0 a1 a2 a3 a4 a5 a6 a7 ed tc ol nl nw nx ps tm od ne pt) s.heap.size = A at hD ⊢
  have hA : ∀ q : Nat, s.heap.size ≤ q → A q := fun q h => by rw [← hAe]; exact Or.inr h
  have hS : va_S A s.heap s.heap [] := va_S.rf
  have hP : va_P G vwCl (MW cy a0 a1 a2 a3 a4 a5 a6 a7 ed tc ol nl nw nx ps tm od ne pt) s.heap := hP
  have hLw : ∀ x, 4 ≤ x → x < 4 + nw 3 → 0 ≤ nw x ∧ nw x ≤ 1 := fun x q1 q2 => by have e := hw.2.2.2 (x - 4) (by omega) (by have := hw.1; omega) (by have := hw.1; omega); rw [show 4 + (x - 4) = x by omega] at e; have := ltr_r b n (x - 4); omega
  refine lv_iload_n hx hb dX7_invertMorphism_0 rfl (lv_at hl 1 rfl) ?_
  refine lv_iconst (v := iZ 0) hx hb dX7_invertMorphism_1 rfl ?_
  refine lv_iconst (v := iZ 4) hx hb dX7_invertMorphism_2 rfl ?_
  refine z_calli (va_runS (As := [.int (iZ mo), .int (iZ 0), .int (iZ 4)]) (rest := []) ⟨hx, hb, hml, hown, hts⟩ (c_X7_in lau G cy mo 0 4 (by first | assumption | omega)) (va_cwS 3 hts gX7_invertMorphism_X7_in rfl rfl rfl (by decide +kernel) ⟨Nat.le_of_ble_eq_true rfl, Nat.le_of_ble_eq_true rfl⟩) ⟨P1_blind, P1_mk hKK (trivial)⟩ rfl rfl hl.1 rfl (lv_room (Nat.le_of_ble_eq_true rfl)) dX7_invertMorphism_3 ⟨(show 0 + 0 ≤ 0 by omega), (show 0 + 0 ≤ 0 by omega)⟩) ?_
  refine z_ifB_ne (tgt := 11) hx hb dX7_invertMorphism_6 (by decide) (fun c_6 => ?_) (fun c_6 => ?_)
  · refine lv_aload_n hx hb dX7_invertMorphism_11 rfl (lv_at hl 0 rfl) ?_
    refine va_get (D := G) (ci := 6) (v := .ref a2) (C := RX7) (T := TX7) (N := 11) hx hb hts (by decide +kernel) hown hK hP 0 rfl rfl 1 (by decide) (hts (.fieldLink RX7 13 "SturmianWordsModel" "next" "[I") (by decide +kernel)) (fun _ h9 => h9) rfl dX7_invertMorphism_12 ?_
    refine lv_iconst (v := iZ 3) hx hb dX7_invertMorphism_15 rfl ?_
    refine lv_iconst (v := iZ 0) hx hb dX7_invertMorphism_16 rfl ?_
    refine z_iast (D := G) hx hb hK hP hD hS 2 0 rfl rfl (by omega) dX7_invertMorphism_17 (fun H locs hP hD hS => ?_)
    have hP : va_P G vwCl (MW cy a0 a1 a2 a3 a4 a5 a6 a7 ed tc ol nl nw (up1 nx 3 0) ps tm od ne pt) H := hP
    have hD : va_D A (MW cy a0 a1 a2 a3 a4 a5 a6 a7 ed tc ol nl nw (up1 nx 3 0) ps tm od ne pt) := hD
    refine lv_iconst (v := iZ 0) hx hb dX7_invertMorphism_18 rfl ?_
    refine lv_istore_n (lv' := [(2, .int (iZ 0)), (0, .ref a0), (1, .int (iZ mo))]) hx hb dX7_invertMorphism_19 rfl hl (by decide) rfl (fun ls hl => ?_)
    refine z_loopH5 (nL := 6) (A := A) (fun (x : Int) (k : Int) (ob : Int) (oc : Int) (x1 : Int → Int) => [(0, .ref a0), (1, .int (iZ mo)), (2, .int (iZ x))]) (fun (x : Int) (k : Int) (ob : Int) (oc : Int) (x1 : Int → Int) (H : Heap) => ((pI mo b n k = (x, ob, oc)) ∧ (RowIs x1 ob oc) ∧ (0 ≤ k ∧ k ≤ x ∧ x ≤ 61 ∧ oc = k)) ∧ va_P G vwCl (MW cy a0 a1 a2 a3 a4 a5 a6 a7 ed tc ol nl nw x1 ps tm od ne pt) H ∧ va_D A (MW cy a0 a1 a2 a3 a4 a5 a6 a7 ed tc ol nl nw x1 ps tm od ne pt) ∧ Fh A s.heap H) (fun (x : Int) (k : Int) (ob : Int) (oc : Int) (x1 : Int → Int) => 61 - x) (fun (x : Int) (k : Int) (ob : Int) (oc : Int) (x1 : Int → Int) => 0) (fun (x : Int) (k : Int) (ob : Int) (oc : Int) (x1 : Int → Int) => 0) (a1 := 0) (a2 := 0) (a3 := 0) (a4 := 0) (a5 := (up1 nx 3 0)) ⟨⟨(pI_0 _ _ _), (RowIs.nil), (by omega)⟩, hP, hD, Fh.of hS⟩ hS.2.2 (lv_sub hl [1, 2, 0] rfl) ?_
    rintro x k ob oc x1 H locs ⟨⟨i1, i2, i3⟩, hP, hD, hFr⟩ hLc ih_20 ls hl
    have hS : va_S A s.heap H locs := Fh.S hFr hLc
    have hw3 := hw.1
    refine lv_iload_n hx hb dX7_invertMorphism_20 rfl (lv_at hl 2 rfl) ?_
    refine lv_aload_n hx hb dX7_invertMorphism_21 rfl (lv_at hl 0 rfl) ?_
    refine va_get (D := G) (ci := 6) (v := .ref a1) (C := RX7) (T := TX7) (N := 11) hx hb hts (by decide +kernel) hown hK hP 0 rfl rfl 0 (by decide) (hts (.fieldLink RX7 7 "SturmianWordsModel" "now" "[I") (by decide +kernel)) (fun _ h9 => h9) rfl dX7_invertMorphism_22 ?_
    refine lv_iconst (v := iZ 3) hx hb dX7_invertMorphism_25 rfl ?_
    refine z_iald (D := G) hx hb hK hP 1 0 rfl rfl (by omega) dX7_invertMorphism_26 ?_
    refine z_icmp_ge (tgt := 113) hx hb dX7_invertMorphism_27 (by decide) (by omega) (fun c_27 => ?_) (fun c_27 => ?_)
    · have hpe : pI mo b n 61 = (x, ob, oc) := by rw [pI_st (k := k) (j := 61) (by omega) (by rw [i1]; exact Or.inr (by show n ≤ x; omega)) (by omega), i1]
      refine lv_aload_n hx hb dX7_invertMorphism_113 rfl (lv_at hl 0 rfl) ?_
      have hPc := hP.sub (ws' := (MW cy a0 a1 a2 a3 a4 a5 a6 a7 ed tc ol nl nw x1 ps tm od ne pt)) [0, 1, 2, 3, 4, 5, 6, 7] rfl
      have hDc := (hD.sub (ws' := (MW cy a0 a1 a2 a3 a4 a5 a6 a7 ed tc ol nl nw x1 ps tm od ne pt)) [0, 1, 2, 3, 4, 5, 6, 7] (by decide) rfl).weaken (B := fun _ => True) (fun _ _ _ _ => trivial)
      have hFc := va_free (wc := (MW cy a0 a1 a2 a3 a4 a5 a6 a7 ed tc ol nl nw x1 ps tm od ne pt)) hD hS hA [0, 1, 2, 3, 4, 5, 6, 7] rfl
      refine z_callE (A := A) (va_runV (As := []) (rest := []) ⟨hx, hb, hml, hown, hts⟩ (c_X7_take lau G cy a0 a1 a2 a3 a4 a5 a6 a7 H.size ed tc ol nl nw x1 ps tm od ne pt (by first | assumption | omega)) (cwV 0 hts gX7_invertMorphism_X7_take rfl rfl rfl (by decide +kernel) ⟨Nat.le_of_ble_eq_true rfl, Nat.le_of_ble_eq_true rfl⟩) ⟨P1_blind, va_recv hK hP (ci := 6) (q0 := 0) rfl rfl, P1_mk hKK (⟨rfl, hPc, hDc⟩)⟩ rfl rfl hl.1 rfl (lv_room (Nat.le_of_ble_eq_true rfl)) dX7_invertMorphism_114 ⟨(show 0 + 0 ≤ 0 by omega), (show 0 + 0 ≤ 0 by omega)⟩) hS.2.2 hFc (fun v H1 locs1 hR hL1 => ?_)
      obtain ⟨rfl, hq114, hP1, hD1, hF1⟩ := hR
      obtain ⟨hP, hD⟩ := va_join (wr := []) (w1 := (MW cy a0 a1 a2 a3 a4 a5 a6 a7 (svE ed) tc ol nl (tkW x1 nw) (tkX x1 nw) (svP ps nw ed) tm od ne pt)) hP hD [0, 1, 2, 3, 4, 5, 6, 7] [] rfl rfl (by decide) (by decide) hF1.2 hFc hP1 hD1
      have hS : va_S A s.heap H1 locs1 := Fh.S ((Fh.of hS).tr hF1 (fun q _ h => hFc q h)) hL1
      clear hPc hDc hFc hP1 hD1 hF1 hL1
      generalize H1 = H at hP hS ⊢
      have hP : va_P G vwCl (MW cy a0 a1 a2 a3 a4 a5 a6 a7 (svE ed) tc ol nl (tkW x1 nw) (tkX x1 nw) (svP ps nw ed) tm od ne pt) H := hP
      have hD : va_D A (MW cy a0 a1 a2 a3 a4 a5 a6 a7 (svE ed) tc ol nl (tkW x1 nw) (tkX x1 nw) (svP ps nw ed) tm od ne pt) := hD
      refine W.eq (g2 := F0 mt 117 ls []) rfl ?_
      refine lv_aload_n hx hb dX7_invertMorphism_117 rfl (lv_at hl 0 rfl) ?_
      refine va_get (D := G) (ci := 6) (v := .ref a1) (C := RX7) (T := TX7) (N := 11) hx hb hts (by decide +kernel) hown hK hP 0 rfl rfl 0 (by decide) (hts (.fieldLink RX7 7 "SturmianWordsModel" "now" "[I") (by decide +kernel)) (fun _ h9 => h9) rfl dX7_invertMorphism_118 ?_
      refine lv_iconst (v := iZ 3) hx hb dX7_invertMorphism_121 rfl ?_
      refine z_iald (D := G) hx hb hK hP 1 0 rfl rfl (by omega) dX7_invertMorphism_122 ?_
      exact z_iretE hx hb hr hlocks dX7_invertMorphism_123 hS.2.2 ⟨(show 0 ≤ 0 by omega), (show 0 ≤ 0 by omega)⟩ ⟨x1, (sI (by rw [tkW_ge (by omega), hpe]; exact i2.1)), (by rw [hpe]; exact i2), (hP), (hD), Fh.of hS⟩
    · refine lv_iload_n hx hb dX7_invertMorphism_30 rfl (lv_at hl 1 rfl) ?_
      refine lv_iconst (v := iZ 0) hx hb dX7_invertMorphism_31 rfl ?_
      have hg0 := img_2 (mo := mo) (x := 0) h2 (by decide)
      refine z_calli (va_runS (As := [.int (iZ mo), .int (iZ 0)]) (rest := []) ⟨hx, hb, hml, hown, hts⟩ (c_X7_imageOf lau G cy mo 0 (by first | assumption | omega) (by first | assumption | omega)) (va_cwS 2 hts gX7_invertMorphism_X7_imageOf rfl rfl rfl (by decide +kernel) ⟨Nat.le_of_ble_eq_true rfl, Nat.le_of_ble_eq_true rfl⟩) ⟨P1_blind, P1_mk hKK (trivial)⟩ rfl rfl hl.1 rfl (lv_room (Nat.le_of_ble_eq_true rfl)) dX7_invertMorphism_32 ⟨(show 0 + 0 ≤ 0 by omega), (show 0 + 0 ≤ 0 by omega)⟩) ?_
      refine lv_bipush (v := iZ 99) hx hb dX7_invertMorphism_35 (by decide +kernel) ?_
      refine z_icmp_le (tgt := 44) hx hb dX7_invertMorphism_37 (by decide) (by omega) (fun c_37 => ?_) (fun c_37 => ?_)
      · refine lv_iconst (v := iZ 1) hx hb dX7_invertMorphism_44 rfl ?_
        refine z_tope (fun fs efs => ?_)
        refine lv_istore_n (lv' := [(3, .int (iZ fs)), (0, .ref a0), (1, .int (iZ mo)), (2, .int (iZ x))]) hx hb dX7_invertMorphism_45 rfl hl (by decide) rfl (fun ls hl => ?_)
        refine lv_aload_n hx hb dX7_invertMorphism_46 rfl (lv_at hl 1 rfl) ?_
        refine lv_iload_n hx hb dX7_invertMorphism_47 rfl (lv_at hl 2 rfl) ?_
        refine lv_iload_n hx hb dX7_invertMorphism_48 rfl (lv_at hl 0 rfl) ?_
        have hgf := img_2 (mo := mo) (x := fs) h2 (by omega)
        refine z_calli (va_runS (As := [.int (iZ mo), .int (iZ fs)]) (rest := [.ref a0]) ⟨hx, hb, hml, hown, hts⟩ (c_X7_imageOf lau G cy mo fs (by first | assumption | omega) (by first | assumption | omega)) (va_cwS 2 hts gX7_invertMorphism_X7_imageOf rfl rfl rfl (by decide +kernel) ⟨Nat.le_of_ble_eq_true rfl, Nat.le_of_ble_eq_true rfl⟩) ⟨P1_blind, P1_mk hKK (trivial)⟩ rfl rfl hl.1 rfl (lv_room (Nat.le_of_ble_eq_true rfl)) dX7_invertMorphism_49 ⟨(show 0 + 0 ≤ 0 by omega), (show 0 + 0 ≤ 0 by omega)⟩) ?_
        refine lv_iload_n hx hb dX7_invertMorphism_52 rfl (lv_at hl 3 rfl) ?_
        refine z_calli (va_runV (As := [.int (iZ (imgS mo fs)), .int (iZ x)]) (rest := []) ⟨hx, hb, hml, hown, hts⟩ (c_X7_stands lau G cy a0 a1 a2 a3 a4 a5 a6 a7 ed tc ol nl nw (imgS mo fs) x (by first | assumption | omega) (hLw) (by first | assumption | omega) (by first | assumption | omega)) (cwV 2 hts gX7_invertMorphism_X7_stands rfl rfl rfl (by decide +kernel) ⟨Nat.le_of_ble_eq_true rfl, Nat.le_of_ble_eq_true rfl⟩) ⟨P1_blind, va_recv hK hP (ci := 6) (q0 := 0) rfl rfl, P1_mk hKK (hP.sub [0, 1] rfl)⟩ rfl rfl hl.1 rfl (lv_room (Nat.le_of_ble_eq_true rfl)) dX7_invertMorphism_53 ⟨(show 0 + 0 ≤ 0 by omega), (show 0 + 0 ≤ 0 by omega)⟩) ?_
        refine z_ifB_eq (tgt := 63) hx hb dX7_invertMorphism_56 (by decide) (fun c_56 => ?_) (fun c_56 => ?_)
        · refine lv_iconst (v := iZ 1) hx hb dX7_invertMorphism_63 rfl ?_
          refine lv_iload_n hx hb dX7_invertMorphism_64 rfl (lv_at hl 0 rfl) ?_
          refine z_isub hx hb dX7_invertMorphism_65 ?_
          refine z_tope (fun lt elt => ?_)
          refine lv_istore (lv' := [(4, .int (iZ lt)), (3, .int (iZ fs)), (0, .ref a0), (1, .int (iZ mo)), (2, .int (iZ x))]) hx hb dX7_invertMorphism_66 hl (by decide) rfl (fun ls hl => ?_)
          refine lv_iload_n hx hb dX7_invertMorphism_68 rfl (lv_at hl 3 rfl) ?_
          refine lv_iload hx hb dX7_invertMorphism_69 (lv_at hl 0 rfl) ?_
          have hgl := img_2 (mo := mo) (x := lt) h2 (by omega)
          have hmr := mN_r mo lt
          have hx13 := i2.1
          refine z_calli (va_runS (As := [.int (iZ mo), .int (iZ lt)]) (rest := []) ⟨hx, hb, hml, hown, hts⟩ (c_X7_imageOf lau G cy mo lt (by first | assumption | omega) (by first | assumption | omega)) (va_cwS 2 hts gX7_invertMorphism_X7_imageOf rfl rfl rfl (by decide +kernel) ⟨Nat.le_of_ble_eq_true rfl, Nat.le_of_ble_eq_true rfl⟩) ⟨P1_blind, P1_mk hKK (trivial)⟩ rfl rfl hl.1 rfl (lv_room (Nat.le_of_ble_eq_true rfl)) dX7_invertMorphism_71 ⟨(show 0 + 0 ≤ 0 by omega), (show 0 + 0 ≤ 0 by omega)⟩) ?_
          refine lv_istore (lv' := [(5, .int (iZ (imgS mo lt))), (4, .int (iZ lt)), (3, .int (iZ fs)), (0, .ref a0), (1, .int (iZ mo)), (2, .int (iZ x))]) hx hb dX7_invertMorphism_74 hl (by decide) rfl (fun ls hl => ?_)
          refine lv_aload_n hx hb dX7_invertMorphism_76 rfl (lv_at hl 3 rfl) ?_
          refine lv_iload hx hb dX7_invertMorphism_77 (lv_at hl 0 rfl) ?_
          refine lv_iload_n hx hb dX7_invertMorphism_79 rfl (lv_at hl 5 rfl) ?_
          refine z_calli (va_runV (As := [.int (iZ (imgS mo lt)), .int (iZ x)]) (rest := []) ⟨hx, hb, hml, hown, hts⟩ (c_X7_stands lau G cy a0 a1 a2 a3 a4 a5 a6 a7 ed tc ol nl nw (imgS mo lt) x (by first | assumption | omega) (hLw) (by first | assumption | omega) (by first | assumption | omega)) (cwV 2 hts gX7_invertMorphism_X7_stands rfl rfl rfl (by decide +kernel) ⟨Nat.le_of_ble_eq_true rfl, Nat.le_of_ble_eq_true rfl⟩) ⟨P1_blind, va_recv hK hP (ci := 6) (q0 := 0) rfl rfl, P1_mk hKK (hP.sub [0, 1] rfl)⟩ rfl rfl hl.1 rfl (lv_room (Nat.le_of_ble_eq_true rfl)) dX7_invertMorphism_80 ⟨(show 0 + 0 ≤ 0 by omega), (show 0 + 0 ≤ 0 by omega)⟩) ?_
          have hlm := lb_mod (x := x) (fs := fs) (lt := lt) hw hn.2 h2 (by omega) (by omega) (by first | exact Or.inl ⟨c_56, elt⟩ | exact Or.inr ⟨c_56, elt⟩)
          refine z_ifB_ne (tgt := 89) hx hb dX7_invertMorphism_83 (by decide) (fun c_83 => ?_) (fun c_83 => ?_)
          · have hlb := hlm.1 c_83
            refine lv_aload_n hx hb dX7_invertMorphism_89 rfl (lv_at hl 3 rfl) ?_
            refine lv_iload hx hb dX7_invertMorphism_90 (lv_at hl 1 rfl) ?_
            have hPc := hP.sub (ws' := (MW cy a0 a1 a2 a3 a4 a5 a6 a7 ed tc ol nl nw x1 ps tm od ne pt)) [0, 1, 2, 3, 4, 5, 6, 7] rfl
            have hDc := (hD.sub (ws' := (MW cy a0 a1 a2 a3 a4 a5 a6 a7 ed tc ol nl nw x1 ps tm od ne pt)) [0, 1, 2, 3, 4, 5, 6, 7] (by decide) rfl).weaken (B := fun _ => True) (fun _ _ _ _ => trivial)
            have hFc := va_free (wc := (MW cy a0 a1 a2 a3 a4 a5 a6 a7 ed tc ol nl nw x1 ps tm od ne pt)) hD hS hA [0, 1, 2, 3, 4, 5, 6, 7] rfl
            refine z_callE (A := A) (va_runV (As := [.int (iZ lt)]) (rest := []) ⟨hx, hb, hml, hown, hts⟩ (c_X7_appendTo lau G cy a0 a1 a2 a3 a4 a5 a6 a7 H.size ed tc ol nl nw x1 ps tm od ne pt lt (by first | assumption | omega)) (cwV 1 hts gX7_invertMorphism_X7_appendTo rfl rfl rfl (by decide +kernel) ⟨Nat.le_of_ble_eq_true rfl, Nat.le_of_ble_eq_true rfl⟩) ⟨P1_blind, va_recv hK hP (ci := 6) (q0 := 0) rfl rfl, P1_mk hKK (⟨rfl, hPc, hDc⟩)⟩ rfl rfl hl.1 rfl (lv_room (Nat.le_of_ble_eq_true rfl)) dX7_invertMorphism_92 ⟨(show 0 + 0 ≤ 0 by omega), (show 0 + 0 ≤ 0 by omega)⟩) hS.2.2 hFc (fun v H1 locs1 hR hL1 => ?_)
            obtain ⟨rfl, hq92, hP1, hD1, hF1⟩ := hR
            obtain ⟨hP, hD⟩ := va_join (wr := []) (w1 := (MW cy a0 a1 a2 a3 a4 a5 a6 a7 ed tc ol nl nw (apX x1 lt) ps tm od ne pt)) hP hD [0, 1, 2, 3, 4, 5, 6, 7] [] rfl rfl (by decide) (by decide) hF1.2 hFc hP1 hD1
            have hS : va_S A s.heap H1 locs1 := Fh.S ((Fh.of hS).tr hF1 (fun q _ h => hFc q h)) hL1
            clear hPc hDc hFc hP1 hD1 hF1 hL1
            generalize H1 = H at hP hS ⊢
            have hP : va_P G vwCl (MW cy a0 a1 a2 a3 a4 a5 a6 a7 ed tc ol nl nw (apX x1 lt) ps tm od ne pt) H := hP
            have hD : va_D A (MW cy a0 a1 a2 a3 a4 a5 a6 a7 ed tc ol nl nw (apX x1 lt) ps tm od ne pt) := hD
            refine W.eq (g2 := F0 mt 95 ls []) rfl ?_
            refine lv_iload_n hx hb dX7_invertMorphism_95 rfl (lv_at hl 5 rfl) ?_
            refine lv_iload hx hb dX7_invertMorphism_96 (lv_at hl 0 rfl) ?_
            refine lv_bipush (v := iZ 99) hx hb dX7_invertMorphism_98 (by decide +kernel) ?_
            refine z_icmp_le (tgt := 107) hx hb dX7_invertMorphism_100 (by decide) (by omega) (fun c_100 => ?_) (fun c_100 => ?_)
            · refine lv_iconst (v := iZ 1) hx hb dX7_invertMorphism_107 rfl ?_
              refine z_iadd hx hb dX7_invertMorphism_108 ?_
              refine lv_istore_n (lv' := [(2, .int (iZ (x + 1))), (5, .int (iZ (imgS mo lt))), (4, .int (iZ lt)), (3, .int (iZ fs)), (0, .ref a0), (1, .int (iZ mo))]) hx hb dX7_invertMorphism_109 rfl hl (by decide) rfl (fun ls hl => ?_)
              refine lv_goto (tgt := 20) hx hb dX7_invertMorphism_110 (by decide) ?_
              exact ih_20 (x + 1) (k + 1) (2 * ob + lt) (oc + 1) (apX x1 lt) _ _ ⟨⟨(by first | rw [pI_go (by omega) i1 (by omega) (by rw [hlb]; omega), hlb, show mN mo lt = 2 by omega] | rw [pI_go (by omega) i1 (by omega) (by rw [hlb]; omega), hlb, show mN mo lt = 1 by omega]), (i2.sn (by omega)), (by omega)⟩, hP, hD, Fh.of hS⟩ hS.2.2 ⟨by omega, by omega⟩ _ (lv_sub hl [4, 5, 0] rfl)
            · refine lv_iconst (v := iZ 2) hx hb dX7_invertMorphism_103 rfl ?_
              refine lv_goto (tgt := 108) hx hb dX7_invertMorphism_104 (by decide) ?_
              refine z_iadd hx hb dX7_invertMorphism_108 ?_
              refine lv_istore_n (lv' := [(2, .int (iZ (x + 2))), (5, .int (iZ (imgS mo lt))), (4, .int (iZ lt)), (3, .int (iZ fs)), (0, .ref a0), (1, .int (iZ mo))]) hx hb dX7_invertMorphism_109 rfl hl (by decide) rfl (fun ls hl => ?_)
              refine lv_goto (tgt := 20) hx hb dX7_invertMorphism_110 (by decide) ?_
              exact ih_20 (x + 2) (k + 1) (2 * ob + lt) (oc + 1) (apX x1 lt) _ _ ⟨⟨(by first | rw [pI_go (by omega) i1 (by omega) (by rw [hlb]; omega), hlb, show mN mo lt = 2 by omega] | rw [pI_go (by omega) i1 (by omega) (by rw [hlb]; omega), hlb, show mN mo lt = 1 by omega]), (i2.sn (by omega)), (by omega)⟩, hP, hD, Fh.of hS⟩ hS.2.2 ⟨by omega, by omega⟩ _ (lv_sub hl [4, 5, 0] rfl)
          · exfalso; have e := pI_st (k := k + 1) (j := 61) (by omega) (by rw [pI_no (by omega) i1 (by omega) (hlm.2 c_83)]; exact Or.inl (by decide)) (by omega); rw [pI_no (by omega) i1 (by omega) (hlm.2 c_83)] at e; rw [e] at h3; exact absurd h3 (by decide)
        · refine lv_iload_n hx hb dX7_invertMorphism_59 rfl (lv_at hl 0 rfl) ?_
          refine lv_goto (tgt := 66) hx hb dX7_invertMorphism_60 (by decide) ?_
          refine z_tope (fun lt elt => ?_)
          refine lv_istore (lv' := [(4, .int (iZ lt)), (3, .int (iZ fs)), (0, .ref a0), (1, .int (iZ mo)), (2, .int (iZ x))]) hx hb dX7_invertMorphism_66 hl (by decide) rfl (fun ls hl => ?_)
          refine lv_iload_n hx hb dX7_invertMorphism_68 rfl (lv_at hl 3 rfl) ?_
          refine lv_iload hx hb dX7_invertMorphism_69 (lv_at hl 0 rfl) ?_
          have hgl := img_2 (mo := mo) (x := lt) h2 (by omega)
          have hmr := mN_r mo lt
          have hx13 := i2.1
          refine z_calli (va_runS (As := [.int (iZ mo), .int (iZ lt)]) (rest := []) ⟨hx, hb, hml, hown, hts⟩ (c_X7_imageOf lau G cy mo lt (by first | assumption | omega) (by first | assumption | omega)) (va_cwS 2 hts gX7_invertMorphism_X7_imageOf rfl rfl rfl (by decide +kernel) ⟨Nat.le_of_ble_eq_true rfl, Nat.le_of_ble_eq_true rfl⟩) ⟨P1_blind, P1_mk hKK (trivial)⟩ rfl rfl hl.1 rfl (lv_room (Nat.le_of_ble_eq_true rfl)) dX7_invertMorphism_71 ⟨(show 0 + 0 ≤ 0 by omega), (show 0 + 0 ≤ 0 by omega)⟩) ?_
          refine lv_istore (lv' := [(5, .int (iZ (imgS mo lt))), (4, .int (iZ lt)), (3, .int (iZ fs)), (0, .ref a0), (1, .int (iZ mo)), (2, .int (iZ x))]) hx hb dX7_invertMorphism_74 hl (by decide) rfl (fun ls hl => ?_)
          refine lv_aload_n hx hb dX7_invertMorphism_76 rfl (lv_at hl 3 rfl) ?_
          refine lv_iload hx hb dX7_invertMorphism_77 (lv_at hl 0 rfl) ?_
          refine lv_iload_n hx hb dX7_invertMorphism_79 rfl (lv_at hl 5 rfl) ?_
          refine z_calli (va_runV (As := [.int (iZ (imgS mo lt)), .int (iZ x)]) (rest := []) ⟨hx, hb, hml, hown, hts⟩ (c_X7_stands lau G cy a0 a1 a2 a3 a4 a5 a6 a7 ed tc ol nl nw (imgS mo lt) x (by first | assumption | omega) (hLw) (by first | assumption | omega) (by first | assumption | omega)) (cwV 2 hts gX7_invertMorphism_X7_stands rfl rfl rfl (by decide +kernel) ⟨Nat.le_of_ble_eq_true rfl, Nat.le_of_ble_eq_true rfl⟩) ⟨P1_blind, va_recv hK hP (ci := 6) (q0 := 0) rfl rfl, P1_mk hKK (hP.sub [0, 1] rfl)⟩ rfl rfl hl.1 rfl (lv_room (Nat.le_of_ble_eq_true rfl)) dX7_invertMorphism_80 ⟨(show 0 + 0 ≤ 0 by omega), (show 0 + 0 ≤ 0 by omega)⟩) ?_
          have hlm := lb_mod (x := x) (fs := fs) (lt := lt) hw hn.2 h2 (by omega) (by omega) (by first | exact Or.inl ⟨c_56, elt⟩ | exact Or.inr ⟨c_56, elt⟩)
          refine z_ifB_ne (tgt := 89) hx hb dX7_invertMorphism_83 (by decide) (fun c_83 => ?_) (fun c_83 => ?_)
          · have hlb := hlm.1 c_83
            refine lv_aload_n hx hb dX7_invertMorphism_89 rfl (lv_at hl 3 rfl) ?_
            refine lv_iload hx hb dX7_invertMorphism_90 (lv_at hl 1 rfl) ?_
            have hPc := hP.sub (ws' := (MW cy a0 a1 a2 a3 a4 a5 a6 a7 ed tc ol nl nw x1 ps tm od ne pt)) [0, 1, 2, 3, 4, 5, 6, 7] rfl
            have hDc := (hD.sub (ws' := (MW cy a0 a1 a2 a3 a4 a5 a6 a7 ed tc ol nl nw x1 ps tm od ne pt)) [0, 1, 2, 3, 4, 5, 6, 7] (by decide) rfl).weaken (B := fun _ => True) (fun _ _ _ _ => trivial)
            have hFc := va_free (wc := (MW cy a0 a1 a2 a3 a4 a5 a6 a7 ed tc ol nl nw x1 ps tm od ne pt)) hD hS hA [0, 1, 2, 3, 4, 5, 6, 7] rfl
            refine z_callE (A := A) (va_runV (As := [.int (iZ lt)]) (rest := []) ⟨hx, hb, hml, hown, hts⟩ (c_X7_appendTo lau G cy a0 a1 a2 a3 a4 a5 a6 a7 H.size ed tc ol nl nw x1 ps tm od ne pt lt (by first | assumption | omega)) (cwV 1 hts gX7_invertMorphism_X7_appendTo rfl rfl rfl (by decide +kernel) ⟨Nat.le_of_ble_eq_true rfl, Nat.le_of_ble_eq_true rfl⟩) ⟨P1_blind, va_recv hK hP (ci := 6) (q0 := 0) rfl rfl, P1_mk hKK (⟨rfl, hPc, hDc⟩)⟩ rfl rfl hl.1 rfl (lv_room (Nat.le_of_ble_eq_true rfl)) dX7_invertMorphism_92 ⟨(show 0 + 0 ≤ 0 by omega), (show 0 + 0 ≤ 0 by omega)⟩) hS.2.2 hFc (fun v H1 locs1 hR hL1 => ?_)
            obtain ⟨rfl, hq92, hP1, hD1, hF1⟩ := hR
            obtain ⟨hP, hD⟩ := va_join (wr := []) (w1 := (MW cy a0 a1 a2 a3 a4 a5 a6 a7 ed tc ol nl nw (apX x1 lt) ps tm od ne pt)) hP hD [0, 1, 2, 3, 4, 5, 6, 7] [] rfl rfl (by decide) (by decide) hF1.2 hFc hP1 hD1
            have hS : va_S A s.heap H1 locs1 := Fh.S ((Fh.of hS).tr hF1 (fun q _ h => hFc q h)) hL1
            clear hPc hDc hFc hP1 hD1 hF1 hL1
            generalize H1 = H at hP hS ⊢
            have hP : va_P G vwCl (MW cy a0 a1 a2 a3 a4 a5 a6 a7 ed tc ol nl nw (apX x1 lt) ps tm od ne pt) H := hP
            have hD : va_D A (MW cy a0 a1 a2 a3 a4 a5 a6 a7 ed tc ol nl nw (apX x1 lt) ps tm od ne pt) := hD
            refine W.eq (g2 := F0 mt 95 ls []) rfl ?_
            refine lv_iload_n hx hb dX7_invertMorphism_95 rfl (lv_at hl 5 rfl) ?_
            refine lv_iload hx hb dX7_invertMorphism_96 (lv_at hl 0 rfl) ?_
            refine lv_bipush (v := iZ 99) hx hb dX7_invertMorphism_98 (by decide +kernel) ?_
            refine z_icmp_le (tgt := 107) hx hb dX7_invertMorphism_100 (by decide) (by omega) (fun c_100 => ?_) (fun c_100 => ?_)
            · refine lv_iconst (v := iZ 1) hx hb dX7_invertMorphism_107 rfl ?_
              refine z_iadd hx hb dX7_invertMorphism_108 ?_
              refine lv_istore_n (lv' := [(2, .int (iZ (x + 1))), (5, .int (iZ (imgS mo lt))), (4, .int (iZ lt)), (3, .int (iZ fs)), (0, .ref a0), (1, .int (iZ mo))]) hx hb dX7_invertMorphism_109 rfl hl (by decide) rfl (fun ls hl => ?_)
              refine lv_goto (tgt := 20) hx hb dX7_invertMorphism_110 (by decide) ?_
              exact ih_20 (x + 1) (k + 1) (2 * ob + lt) (oc + 1) (apX x1 lt) _ _ ⟨⟨(by first | rw [pI_go (by omega) i1 (by omega) (by rw [hlb]; omega), hlb, show mN mo lt = 2 by omega] | rw [pI_go (by omega) i1 (by omega) (by rw [hlb]; omega), hlb, show mN mo lt = 1 by omega]), (i2.sn (by omega)), (by omega)⟩, hP, hD, Fh.of hS⟩ hS.2.2 ⟨by omega, by omega⟩ _ (lv_sub hl [4, 5, 0] rfl)
            · refine lv_iconst (v := iZ 2) hx hb dX7_invertMorphism_103 rfl ?_
              refine lv_goto (tgt := 108) hx hb dX7_invertMorphism_104 (by decide) ?_
              refine z_iadd hx hb dX7_invertMorphism_108 ?_
              refine lv_istore_n (lv' := [(2, .int (iZ (x + 2))), (5, .int (iZ (imgS mo lt))), (4, .int (iZ lt)), (3, .int (iZ fs)), (0, .ref a0), (1, .int (iZ mo))]) hx hb dX7_invertMorphism_109 rfl hl (by decide) rfl (fun ls hl => ?_)
              refine lv_goto (tgt := 20) hx hb dX7_invertMorphism_110 (by decide) ?_
              exact ih_20 (x + 2) (k + 1) (2 * ob + lt) (oc + 1) (apX x1 lt) _ _ ⟨⟨(by first | rw [pI_go (by omega) i1 (by omega) (by rw [hlb]; omega), hlb, show mN mo lt = 2 by omega] | rw [pI_go (by omega) i1 (by omega) (by rw [hlb]; omega), hlb, show mN mo lt = 1 by omega]), (i2.sn (by omega)), (by omega)⟩, hP, hD, Fh.of hS⟩ hS.2.2 ⟨by omega, by omega⟩ _ (lv_sub hl [4, 5, 0] rfl)
          · exfalso; have e := pI_st (k := k + 1) (j := 61) (by omega) (by rw [pI_no (by omega) i1 (by omega) (hlm.2 c_83)]; exact Or.inl (by decide)) (by omega); rw [pI_no (by omega) i1 (by omega) (hlm.2 c_83)] at e; rw [e] at h3; exact absurd h3 (by decide)
      · refine lv_iconst (v := iZ 0) hx hb dX7_invertMorphism_40 rfl ?_
        refine lv_goto (tgt := 45) hx hb dX7_invertMorphism_41 (by decide) ?_
        refine z_tope (fun fs efs => ?_)
        refine lv_istore_n (lv' := [(3, .int (iZ fs)), (0, .ref a0), (1, .int (iZ mo)), (2, .int (iZ x))]) hx hb dX7_invertMorphism_45 rfl hl (by decide) rfl (fun ls hl => ?_)
        refine lv_aload_n hx hb dX7_invertMorphism_46 rfl (lv_at hl 1 rfl) ?_
        refine lv_iload_n hx hb dX7_invertMorphism_47 rfl (lv_at hl 2 rfl) ?_
        refine lv_iload_n hx hb dX7_invertMorphism_48 rfl (lv_at hl 0 rfl) ?_
        have hgf := img_2 (mo := mo) (x := fs) h2 (by omega)
        refine z_calli (va_runS (As := [.int (iZ mo), .int (iZ fs)]) (rest := [.ref a0]) ⟨hx, hb, hml, hown, hts⟩ (c_X7_imageOf lau G cy mo fs (by first | assumption | omega) (by first | assumption | omega)) (va_cwS 2 hts gX7_invertMorphism_X7_imageOf rfl rfl rfl (by decide +kernel) ⟨Nat.le_of_ble_eq_true rfl, Nat.le_of_ble_eq_true rfl⟩) ⟨P1_blind, P1_mk hKK (trivial)⟩ rfl rfl hl.1 rfl (lv_room (Nat.le_of_ble_eq_true rfl)) dX7_invertMorphism_49 ⟨(show 0 + 0 ≤ 0 by omega), (show 0 + 0 ≤ 0 by omega)⟩) ?_
        refine lv_iload_n hx hb dX7_invertMorphism_52 rfl (lv_at hl 3 rfl) ?_
        refine z_calli (va_runV (As := [.int (iZ (imgS mo fs)), .int (iZ x)]) (rest := []) ⟨hx, hb, hml, hown, hts⟩ (c_X7_stands lau G cy a0 a1 a2 a3 a4 a5 a6 a7 ed tc ol nl nw (imgS mo fs) x (by first | assumption | omega) (hLw) (by first | assumption | omega) (by first | assumption | omega)) (cwV 2 hts gX7_invertMorphism_X7_stands rfl rfl rfl (by decide +kernel) ⟨Nat.le_of_ble_eq_true rfl, Nat.le_of_ble_eq_true rfl⟩) ⟨P1_blind, va_recv hK hP (ci := 6) (q0 := 0) rfl rfl, P1_mk hKK (hP.sub [0, 1] rfl)⟩ rfl rfl hl.1 rfl (lv_room (Nat.le_of_ble_eq_true rfl)) dX7_invertMorphism_53 ⟨(show 0 + 0 ≤ 0 by omega), (show 0 + 0 ≤ 0 by omega)⟩) ?_
        refine z_ifB_eq (tgt := 63) hx hb dX7_invertMorphism_56 (by decide) (fun c_56 => ?_) (fun c_56 => ?_)
        · refine lv_iconst (v := iZ 1) hx hb dX7_invertMorphism_63 rfl ?_
          refine lv_iload_n hx hb dX7_invertMorphism_64 rfl (lv_at hl 0 rfl) ?_
          refine z_isub hx hb dX7_invertMorphism_65 ?_
          refine z_tope (fun lt elt => ?_)
          refine lv_istore (lv' := [(4, .int (iZ lt)), (3, .int (iZ fs)), (0, .ref a0), (1, .int (iZ mo)), (2, .int (iZ x))]) hx hb dX7_invertMorphism_66 hl (by decide) rfl (fun ls hl => ?_)
          refine lv_iload_n hx hb dX7_invertMorphism_68 rfl (lv_at hl 3 rfl) ?_
          refine lv_iload hx hb dX7_invertMorphism_69 (lv_at hl 0 rfl) ?_
          have hgl := img_2 (mo := mo) (x := lt) h2 (by omega)
          have hmr := mN_r mo lt
          have hx13 := i2.1
          refine z_calli (va_runS (As := [.int (iZ mo), .int (iZ lt)]) (rest := []) ⟨hx, hb, hml, hown, hts⟩ (c_X7_imageOf lau G cy mo lt (by first | assumption | omega) (by first | assumption | omega)) (va_cwS 2 hts gX7_invertMorphism_X7_imageOf rfl rfl rfl (by decide +kernel) ⟨Nat.le_of_ble_eq_true rfl, Nat.le_of_ble_eq_true rfl⟩) ⟨P1_blind, P1_mk hKK (trivial)⟩ rfl rfl hl.1 rfl (lv_room (Nat.le_of_ble_eq_true rfl)) dX7_invertMorphism_71 ⟨(show 0 + 0 ≤ 0 by omega), (show 0 + 0 ≤ 0 by omega)⟩) ?_
          refine lv_istore (lv' := [(5, .int (iZ (imgS mo lt))), (4, .int (iZ lt)), (3, .int (iZ fs)), (0, .ref a0), (1, .int (iZ mo)), (2, .int (iZ x))]) hx hb dX7_invertMorphism_74 hl (by decide) rfl (fun ls hl => ?_)
          refine lv_aload_n hx hb dX7_invertMorphism_76 rfl (lv_at hl 3 rfl) ?_
          refine lv_iload hx hb dX7_invertMorphism_77 (lv_at hl 0 rfl) ?_
          refine lv_iload_n hx hb dX7_invertMorphism_79 rfl (lv_at hl 5 rfl) ?_
          refine z_calli (va_runV (As := [.int (iZ (imgS mo lt)), .int (iZ x)]) (rest := []) ⟨hx, hb, hml, hown, hts⟩ (c_X7_stands lau G cy a0 a1 a2 a3 a4 a5 a6 a7 ed tc ol nl nw (imgS mo lt) x (by first | assumption | omega) (hLw) (by first | assumption | omega) (by first | assumption | omega)) (cwV 2 hts gX7_invertMorphism_X7_stands rfl rfl rfl (by decide +kernel) ⟨Nat.le_of_ble_eq_true rfl, Nat.le_of_ble_eq_true rfl⟩) ⟨P1_blind, va_recv hK hP (ci := 6) (q0 := 0) rfl rfl, P1_mk hKK (hP.sub [0, 1] rfl)⟩ rfl rfl hl.1 rfl (lv_room (Nat.le_of_ble_eq_true rfl)) dX7_invertMorphism_80 ⟨(show 0 + 0 ≤ 0 by omega), (show 0 + 0 ≤ 0 by omega)⟩) ?_
          have hlm := lb_mod (x := x) (fs := fs) (lt := lt) hw hn.2 h2 (by omega) (by omega) (by first | exact Or.inl ⟨c_56, elt⟩ | exact Or.inr ⟨c_56, elt⟩)
          refine z_ifB_ne (tgt := 89) hx hb dX7_invertMorphism_83 (by decide) (fun c_83 => ?_) (fun c_83 => ?_)
          · have hlb := hlm.1 c_83
            refine lv_aload_n hx hb dX7_invertMorphism_89 rfl (lv_at hl 3 rfl) ?_
            refine lv_iload hx hb dX7_invertMorphism_90 (lv_at hl 1 rfl) ?_
            have hPc := hP.sub (ws' := (MW cy a0 a1 a2 a3 a4 a5 a6 a7 ed tc ol nl nw x1 ps tm od ne pt)) [0, 1, 2, 3, 4, 5, 6, 7] rfl
            have hDc := (hD.sub (ws' := (MW cy a0 a1 a2 a3 a4 a5 a6 a7 ed tc ol nl nw x1 ps tm od ne pt)) [0, 1, 2, 3, 4, 5, 6, 7] (by decide) rfl).weaken (B := fun _ => True) (fun _ _ _ _ => trivial)
            have hFc := va_free (wc := (MW cy a0 a1 a2 a3 a4 a5 a6 a7 ed tc ol nl nw x1 ps tm od ne pt)) hD hS hA [0, 1, 2, 3, 4, 5, 6, 7] rfl
            refine z_callE (A := A) (va_runV (As := [.int (iZ lt)]) (rest := []) ⟨hx, hb, hml, hown, hts⟩ (c_X7_appendTo lau G cy a0 a1 a2 a3 a4 a5 a6 a7 H.size ed tc ol nl nw x1 ps tm od ne pt lt (by first | assumption | omega)) (cwV 1 hts gX7_invertMorphism_X7_appendTo rfl rfl rfl (by decide +kernel) ⟨Nat.le_of_ble_eq_true rfl, Nat.le_of_ble_eq_true rfl⟩) ⟨P1_blind, va_recv hK hP (ci := 6) (q0 := 0) rfl rfl, P1_mk hKK (⟨rfl, hPc, hDc⟩)⟩ rfl rfl hl.1 rfl (lv_room (Nat.le_of_ble_eq_true rfl)) dX7_invertMorphism_92 ⟨(show 0 + 0 ≤ 0 by omega), (show 0 + 0 ≤ 0 by omega)⟩) hS.2.2 hFc (fun v H1 locs1 hR hL1 => ?_)
            obtain ⟨rfl, hq92, hP1, hD1, hF1⟩ := hR
            obtain ⟨hP, hD⟩ := va_join (wr := []) (w1 := (MW cy a0 a1 a2 a3 a4 a5 a6 a7 ed tc ol nl nw (apX x1 lt) ps tm od ne pt)) hP hD [0, 1, 2, 3, 4, 5, 6, 7] [] rfl rfl (by decide) (by decide) hF1.2 hFc hP1 hD1
            have hS : va_S A s.heap H1 locs1 := Fh.S ((Fh.of hS).tr hF1 (fun q _ h => hFc q h)) hL1
            clear hPc hDc hFc hP1 hD1 hF1 hL1
            generalize H1 = H at hP hS ⊢
            have hP : va_P G vwCl (MW cy a0 a1 a2 a3 a4 a5 a6 a7 ed tc ol nl nw (apX x1 lt) ps tm od ne pt) H := hP
            have hD : va_D A (MW cy a0 a1 a2 a3 a4 a5 a6 a7 ed tc ol nl nw (apX x1 lt) ps tm od ne pt) := hD
            refine W.eq (g2 := F0 mt 95 ls []) rfl ?_
            refine lv_iload_n hx hb dX7_invertMorphism_95 rfl (lv_at hl 5 rfl) ?_
            refine lv_iload hx hb dX7_invertMorphism_96 (lv_at hl 0 rfl) ?_
            refine lv_bipush (v := iZ 99) hx hb dX7_invertMorphism_98 (by decide +kernel) ?_
            refine z_icmp_le (tgt := 107) hx hb dX7_invertMorphism_100 (by decide) (by omega) (fun c_100 => ?_) (fun c_100 => ?_)
            · refine lv_iconst (v := iZ 1) hx hb dX7_invertMorphism_107 rfl ?_
              refine z_iadd hx hb dX7_invertMorphism_108 ?_
              refine lv_istore_n (lv' := [(2, .int (iZ (x + 1))), (5, .int (iZ (imgS mo lt))), (4, .int (iZ lt)), (3, .int (iZ fs)), (0, .ref a0), (1, .int (iZ mo))]) hx hb dX7_invertMorphism_109 rfl hl (by decide) rfl (fun ls hl => ?_)
              refine lv_goto (tgt := 20) hx hb dX7_invertMorphism_110 (by decide) ?_
              exact ih_20 (x + 1) (k + 1) (2 * ob + lt) (oc + 1) (apX x1 lt) _ _ ⟨⟨(by first | rw [pI_go (by omega) i1 (by omega) (by rw [hlb]; omega), hlb, show mN mo lt = 2 by omega] | rw [pI_go (by omega) i1 (by omega) (by rw [hlb]; omega), hlb, show mN mo lt = 1 by omega]), (i2.sn (by omega)), (by omega)⟩, hP, hD, Fh.of hS⟩ hS.2.2 ⟨by omega, by omega⟩ _ (lv_sub hl [4, 5, 0] rfl)
            · refine lv_iconst (v := iZ 2) hx hb dX7_invertMorphism_103 rfl ?_
              refine lv_goto (tgt := 108) hx hb dX7_invertMorphism_104 (by decide) ?_
              refine z_iadd hx hb dX7_invertMorphism_108 ?_
              refine lv_istore_n (lv' := [(2, .int (iZ (x + 2))), (5, .int (iZ (imgS mo lt))), (4, .int (iZ lt)), (3, .int (iZ fs)), (0, .ref a0), (1, .int (iZ mo))]) hx hb dX7_invertMorphism_109 rfl hl (by decide) rfl (fun ls hl => ?_)
              refine lv_goto (tgt := 20) hx hb dX7_invertMorphism_110 (by decide) ?_
              exact ih_20 (x + 2) (k + 1) (2 * ob + lt) (oc + 1) (apX x1 lt) _ _ ⟨⟨(by first | rw [pI_go (by omega) i1 (by omega) (by rw [hlb]; omega), hlb, show mN mo lt = 2 by omega] | rw [pI_go (by omega) i1 (by omega) (by rw [hlb]; omega), hlb, show mN mo lt = 1 by omega]), (i2.sn (by omega)), (by omega)⟩, hP, hD, Fh.of hS⟩ hS.2.2 ⟨by omega, by omega⟩ _ (lv_sub hl [4, 5, 0] rfl)
          · exfalso; have e := pI_st (k := k + 1) (j := 61) (by omega) (by rw [pI_no (by omega) i1 (by omega) (hlm.2 c_83)]; exact Or.inl (by decide)) (by omega); rw [pI_no (by omega) i1 (by omega) (hlm.2 c_83)] at e; rw [e] at h3; exact absurd h3 (by decide)
        · refine lv_iload_n hx hb dX7_invertMorphism_59 rfl (lv_at hl 0 rfl) ?_
          refine lv_goto (tgt := 66) hx hb dX7_invertMorphism_60 (by decide) ?_
          refine z_tope (fun lt elt => ?_)
          refine lv_istore (lv' := [(4, .int (iZ lt)), (3, .int (iZ fs)), (0, .ref a0), (1, .int (iZ mo)), (2, .int (iZ x))]) hx hb dX7_invertMorphism_66 hl (by decide) rfl (fun ls hl => ?_)
          refine lv_iload_n hx hb dX7_invertMorphism_68 rfl (lv_at hl 3 rfl) ?_
          refine lv_iload hx hb dX7_invertMorphism_69 (lv_at hl 0 rfl) ?_
          have hgl := img_2 (mo := mo) (x := lt) h2 (by omega)
          have hmr := mN_r mo lt
          have hx13 := i2.1
          refine z_calli (va_runS (As := [.int (iZ mo), .int (iZ lt)]) (rest := []) ⟨hx, hb, hml, hown, hts⟩ (c_X7_imageOf lau G cy mo lt (by first | assumption | omega) (by first | assumption | omega)) (va_cwS 2 hts gX7_invertMorphism_X7_imageOf rfl rfl rfl (by decide +kernel) ⟨Nat.le_of_ble_eq_true rfl, Nat.le_of_ble_eq_true rfl⟩) ⟨P1_blind, P1_mk hKK (trivial)⟩ rfl rfl hl.1 rfl (lv_room (Nat.le_of_ble_eq_true rfl)) dX7_invertMorphism_71 ⟨(show 0 + 0 ≤ 0 by omega), (show 0 + 0 ≤ 0 by omega)⟩) ?_
          refine lv_istore (lv' := [(5, .int (iZ (imgS mo lt))), (4, .int (iZ lt)), (3, .int (iZ fs)), (0, .ref a0), (1, .int (iZ mo)), (2, .int (iZ x))]) hx hb dX7_invertMorphism_74 hl (by decide) rfl (fun ls hl => ?_)
          refine lv_aload_n hx hb dX7_invertMorphism_76 rfl (lv_at hl 3 rfl) ?_
          refine lv_iload hx hb dX7_invertMorphism_77 (lv_at hl 0 rfl) ?_
          refine lv_iload_n hx hb dX7_invertMorphism_79 rfl (lv_at hl 5 rfl) ?_
          refine z_calli (va_runV (As := [.int (iZ (imgS mo lt)), .int (iZ x)]) (rest := []) ⟨hx, hb, hml, hown, hts⟩ (c_X7_stands lau G cy a0 a1 a2 a3 a4 a5 a6 a7 ed tc ol nl nw (imgS mo lt) x (by first | assumption | omega) (hLw) (by first | assumption | omega) (by first | assumption | omega)) (cwV 2 hts gX7_invertMorphism_X7_stands rfl rfl rfl (by decide +kernel) ⟨Nat.le_of_ble_eq_true rfl, Nat.le_of_ble_eq_true rfl⟩) ⟨P1_blind, va_recv hK hP (ci := 6) (q0 := 0) rfl rfl, P1_mk hKK (hP.sub [0, 1] rfl)⟩ rfl rfl hl.1 rfl (lv_room (Nat.le_of_ble_eq_true rfl)) dX7_invertMorphism_80 ⟨(show 0 + 0 ≤ 0 by omega), (show 0 + 0 ≤ 0 by omega)⟩) ?_
          have hlm := lb_mod (x := x) (fs := fs) (lt := lt) hw hn.2 h2 (by omega) (by omega) (by first | exact Or.inl ⟨c_56, elt⟩ | exact Or.inr ⟨c_56, elt⟩)
          refine z_ifB_ne (tgt := 89) hx hb dX7_invertMorphism_83 (by decide) (fun c_83 => ?_) (fun c_83 => ?_)
          · have hlb := hlm.1 c_83
            refine lv_aload_n hx hb dX7_invertMorphism_89 rfl (lv_at hl 3 rfl) ?_
            refine lv_iload hx hb dX7_invertMorphism_90 (lv_at hl 1 rfl) ?_
            have hPc := hP.sub (ws' := (MW cy a0 a1 a2 a3 a4 a5 a6 a7 ed tc ol nl nw x1 ps tm od ne pt)) [0, 1, 2, 3, 4, 5, 6, 7] rfl
            have hDc := (hD.sub (ws' := (MW cy a0 a1 a2 a3 a4 a5 a6 a7 ed tc ol nl nw x1 ps tm od ne pt)) [0, 1, 2, 3, 4, 5, 6, 7] (by decide) rfl).weaken (B := fun _ => True) (fun _ _ _ _ => trivial)
            have hFc := va_free (wc := (MW cy a0 a1 a2 a3 a4 a5 a6 a7 ed tc ol nl nw x1 ps tm od ne pt)) hD hS hA [0, 1, 2, 3, 4, 5, 6, 7] rfl
            refine z_callE (A := A) (va_runV (As := [.int (iZ lt)]) (rest := []) ⟨hx, hb, hml, hown, hts⟩ (c_X7_appendTo lau G cy a0 a1 a2 a3 a4 a5 a6 a7 H.size ed tc ol nl nw x1 ps tm od ne pt lt (by first | assumption | omega)) (cwV 1 hts gX7_invertMorphism_X7_appendTo rfl rfl rfl (by decide +kernel) ⟨Nat.le_of_ble_eq_true rfl, Nat.le_of_ble_eq_true rfl⟩) ⟨P1_blind, va_recv hK hP (ci := 6) (q0 := 0) rfl rfl, P1_mk hKK (⟨rfl, hPc, hDc⟩)⟩ rfl rfl hl.1 rfl (lv_room (Nat.le_of_ble_eq_true rfl)) dX7_invertMorphism_92 ⟨(show 0 + 0 ≤ 0 by omega), (show 0 + 0 ≤ 0 by omega)⟩) hS.2.2 hFc (fun v H1 locs1 hR hL1 => ?_)
            obtain ⟨rfl, hq92, hP1, hD1, hF1⟩ := hR
            obtain ⟨hP, hD⟩ := va_join (wr := []) (w1 := (MW cy a0 a1 a2 a3 a4 a5 a6 a7 ed tc ol nl nw (apX x1 lt) ps tm od ne pt)) hP hD [0, 1, 2, 3, 4, 5, 6, 7] [] rfl rfl (by decide) (by decide) hF1.2 hFc hP1 hD1
            have hS : va_S A s.heap H1 locs1 := Fh.S ((Fh.of hS).tr hF1 (fun q _ h => hFc q h)) hL1
            clear hPc hDc hFc hP1 hD1 hF1 hL1
            generalize H1 = H at hP hS ⊢
            have hP : va_P G vwCl (MW cy a0 a1 a2 a3 a4 a5 a6 a7 ed tc ol nl nw (apX x1 lt) ps tm od ne pt) H := hP
            have hD : va_D A (MW cy a0 a1 a2 a3 a4 a5 a6 a7 ed tc ol nl nw (apX x1 lt) ps tm od ne pt) := hD
            refine W.eq (g2 := F0 mt 95 ls []) rfl ?_
            refine lv_iload_n hx hb dX7_invertMorphism_95 rfl (lv_at hl 5 rfl) ?_
            refine lv_iload hx hb dX7_invertMorphism_96 (lv_at hl 0 rfl) ?_
            refine lv_bipush (v := iZ 99) hx hb dX7_invertMorphism_98 (by decide +kernel) ?_
            refine z_icmp_le (tgt := 107) hx hb dX7_invertMorphism_100 (by decide) (by omega) (fun c_100 => ?_) (fun c_100 => ?_)
            · refine lv_iconst (v := iZ 1) hx hb dX7_invertMorphism_107 rfl ?_
              refine z_iadd hx hb dX7_invertMorphism_108 ?_
              refine lv_istore_n (lv' := [(2, .int (iZ (x + 1))), (5, .int (iZ (imgS mo lt))), (4, .int (iZ lt)), (3, .int (iZ fs)), (0, .ref a0), (1, .int (iZ mo))]) hx hb dX7_invertMorphism_109 rfl hl (by decide) rfl (fun ls hl => ?_)
              refine lv_goto (tgt := 20) hx hb dX7_invertMorphism_110 (by decide) ?_
              exact ih_20 (x + 1) (k + 1) (2 * ob + lt) (oc + 1) (apX x1 lt) _ _ ⟨⟨(by first | rw [pI_go (by omega) i1 (by omega) (by rw [hlb]; omega), hlb, show mN mo lt = 2 by omega] | rw [pI_go (by omega) i1 (by omega) (by rw [hlb]; omega), hlb, show mN mo lt = 1 by omega]), (i2.sn (by omega)), (by omega)⟩, hP, hD, Fh.of hS⟩ hS.2.2 ⟨by omega, by omega⟩ _ (lv_sub hl [4, 5, 0] rfl)
            · refine lv_iconst (v := iZ 2) hx hb dX7_invertMorphism_103 rfl ?_
              refine lv_goto (tgt := 108) hx hb dX7_invertMorphism_104 (by decide) ?_
              refine z_iadd hx hb dX7_invertMorphism_108 ?_
              refine lv_istore_n (lv' := [(2, .int (iZ (x + 2))), (5, .int (iZ (imgS mo lt))), (4, .int (iZ lt)), (3, .int (iZ fs)), (0, .ref a0), (1, .int (iZ mo))]) hx hb dX7_invertMorphism_109 rfl hl (by decide) rfl (fun ls hl => ?_)
              refine lv_goto (tgt := 20) hx hb dX7_invertMorphism_110 (by decide) ?_
              exact ih_20 (x + 2) (k + 1) (2 * ob + lt) (oc + 1) (apX x1 lt) _ _ ⟨⟨(by first | rw [pI_go (by omega) i1 (by omega) (by rw [hlb]; omega), hlb, show mN mo lt = 2 by omega] | rw [pI_go (by omega) i1 (by omega) (by rw [hlb]; omega), hlb, show mN mo lt = 1 by omega]), (i2.sn (by omega)), (by omega)⟩, hP, hD, Fh.of hS⟩ hS.2.2 ⟨by omega, by omega⟩ _ (lv_sub hl [4, 5, 0] rfl)
          · exfalso; have e := pI_st (k := k + 1) (j := 61) (by omega) (by rw [pI_no (by omega) i1 (by omega) (hlm.2 c_83)]; exact Or.inl (by decide)) (by omega); rw [pI_no (by omega) i1 (by omega) (hlm.2 c_83)] at e; rw [e] at h3; exact absurd h3 (by decide)
  · exact absurd h2 c_6
set_option maxHeartbeats 4000000 in
set_option maxRecDepth 100000 in
theorem c_X7_loadStandard_no (lau : Launch) (G : va_G) (cy : Nat → ClassId) (a0 a1 a2 a3 a4 a5 a6 a7 : Nat) (sz : Nat) (ed tc ol nl : Int) (nw nx ps tm od ne pt : Int → Int) (kk : Int) (h1 : -2147483648 ≤ kk ∧ kk < 2147483648) (h2 : kk < -1) : Met lau yX7_loadStandard wsX7_loadStandard ({ frames := 3, cells := 0, slots := 0, locals := 65 }) (P1 G cy [.ref a0, .int (iZ kk)] (fun H => H.size = sz ∧ va_P G vwCl (MW cy a0 a1 a2 a3 a4 a5 a6 a7 ed tc ol nl nw nx ps tm od ne pt) H ∧ va_D (fun _ => True) (MW cy a0 a1 a2 a3 a4 a5 a6 a7 ed tc ol nl nw nx ps tm od ne pt))) (Q1 (fun rv H0 H1 => rv = some (.int (iZ (-1))) ∧ (True) ∧ va_P G vwCl (MW cy a0 a1 a2 a3 a4 a5 a6 a7 ed tc ol nl nw nx ps tm od ne pt) H1 ∧ va_D (va_A (MW cy a0 a1 a2 a3 a4 a5 a6 a7 ed tc ol nl nw nx ps tm od ne pt) sz) (MW cy a0 a1 a2 a3 a4 a5 a6 a7 ed tc ol nl nw nx ps tm od ne pt) ∧ Fh (va_A (MW cy a0 a1 a2 a3 a4 a5 a6 a7 ed tc ol nl nw nx ps tm od ne pt) sz) H0 H1)) 0 0 (va_A (MW cy a0 a1 a2 a3 a4 a5 a6 a7 ed tc ol nl nw nx ps tm od ne pt) sz) := by
  refine z_head (lv := [(0, .ref a0), (1, .int (iZ kk))]) RX7 (by decide) rfl rfl (Nat.le_of_ble_eq_true rfl) rfl ?_
  intro pr ev s mt below meth cd ls hx hb hr hlocks hml hown hname hts hKK hP hl
  have hK := hKK.1
  obtain ⟨hsz, hP, hD0⟩ := hP
  subst hsz
  have hD := hD0.self (sz := s.heap.size)
  generalize hAe : va_A (MW cy a0 a1 a2 a3 a4 a5 a6 a7 ed tc ol nl nw nx ps tm od ne pt) s.heap.size = A at hD ⊢
  have hA : ∀ q : Nat, s.heap.size ≤ q → A q := fun q h => by rw [← hAe]; exact Or.inr h
  have hS : va_S A s.heap s.heap [] := va_S.rf
  have hP : va_P G vwCl (MW cy a0 a1 a2 a3 a4 a5 a6 a7 ed tc ol nl nw nx ps tm od ne pt) s.heap := hP
  refine lv_iload_n hx hb dX7_loadStandard_0 rfl (lv_at hl 1 rfl) ?_
  refine lv_iconst (v := iZ (-1)) hx hb dX7_loadStandard_1 rfl ?_
  refine z_icmp_ge (tgt := 7) hx hb dX7_loadStandard_2 (by decide) (by omega) (fun c_2 => ?_) (fun c_2 => ?_)
  · exfalso; omega
  · refine lv_iconst (v := iZ (-1)) hx hb dX7_loadStandard_5 rfl ?_
    exact z_iretE hx hb hr hlocks dX7_loadStandard_6 hS.2.2 ⟨(show 0 ≤ 0 by omega), (show 0 ≤ 0 by omega)⟩ ⟨(rfl), (trivial), (hP), (hD), Fh.of hS⟩
set_option maxHeartbeats 4000000 in
set_option maxRecDepth 100000 in
theorem c_X7_loadStandard_no3 (lau : Launch) (G : va_G) (cy : Nat → ClassId) (a0 a1 a2 a3 a4 a5 a6 a7 : Nat) (sz : Nat) (ed tc ol nl : Int) (nw nx ps tm od ne pt : Int → Int) (kk : Int) (hQ : 0 ≤ nw 0 ∧ nw 0 ≤ nw 1 ∧ 1 ≤ nw 1 ∧ nw 1 ≤ 1000) (h1 : -2147483648 ≤ kk ∧ kk < 2147483648) (h2 : -1 ≤ kk) (h3 : ntm (nw 0) (nw 1) < kk) : Met lau yX7_loadStandard wsX7_loadStandard ({ frames := 3, cells := 0, slots := 0, locals := 65 }) (P1 G cy [.ref a0, .int (iZ kk)] (fun H => H.size = sz ∧ va_P G vwCl (MW cy a0 a1 a2 a3 a4 a5 a6 a7 ed tc ol nl nw nx ps tm od ne pt) H ∧ va_D (fun _ => True) (MW cy a0 a1 a2 a3 a4 a5 a6 a7 ed tc ol nl nw nx ps tm od ne pt))) (Q1 (fun rv H0 H1 => rv = some (.int (iZ (-3))) ∧ (True) ∧ va_P G vwCl (MW cy a0 a1 a2 a3 a4 a5 a6 a7 ed (ntm (nw 0) (nw 1)) ol nl nw nx ps (tmE tm (nw 0) (nw 1) (ntm (nw 0) (nw 1))) od ne pt) H1 ∧ va_D (va_A (MW cy a0 a1 a2 a3 a4 a5 a6 a7 ed tc ol nl nw nx ps tm od ne pt) sz) (MW cy a0 a1 a2 a3 a4 a5 a6 a7 ed (ntm (nw 0) (nw 1)) ol nl nw nx ps (tmE tm (nw 0) (nw 1) (ntm (nw 0) (nw 1))) od ne pt) ∧ Fh (va_A (MW cy a0 a1 a2 a3 a4 a5 a6 a7 ed tc ol nl nw nx ps tm od ne pt) sz) H0 H1)) 0 0 (va_A (MW cy a0 a1 a2 a3 a4 a5 a6 a7 ed tc ol nl nw nx ps tm od ne pt) sz) := by
  refine z_head (lv := [(0, .ref a0), (1, .int (iZ kk))]) RX7 (by decide) rfl rfl (Nat.le_of_ble_eq_true rfl) rfl ?_
  intro pr ev s mt below meth cd ls hx hb hr hlocks hml hown hname hts hKK hP hl
  have hK := hKK.1
  obtain ⟨hsz, hP, hD0⟩ := hP
  subst hsz
  have hD := hD0.self (sz := s.heap.size)
  generalize hAe : va_A (MW cy a0 a1 a2 a3 a4 a5 a6 a7 ed tc ol nl nw nx ps tm od ne pt) s.heap.size = A at hD ⊢
  have hA : ∀ q : Nat, s.heap.size ≤ q → A q := fun q h => by rw [← hAe]; exact Or.inr h
  have hS : va_S A s.heap s.heap [] := va_S.rf
  have hP : va_P G vwCl (MW cy a0 a1 a2 a3 a4 a5 a6 a7 ed tc ol nl nw nx ps tm od ne pt) s.heap := hP
  refine lv_iload_n hx hb dX7_loadStandard_0 rfl (lv_at hl 1 rfl) ?_
  refine lv_iconst (v := iZ (-1)) hx hb dX7_loadStandard_1 rfl ?_
  refine z_icmp_ge (tgt := 7) hx hb dX7_loadStandard_2 (by decide) (by omega) (fun c_2 => ?_) (fun c_2 => ?_)
  · refine lv_aload_n hx hb dX7_loadStandard_7 rfl (lv_at hl 0 rfl) ?_
    have hPc := hP.sub (ws' := (MW cy a0 a1 a2 a3 a4 a5 a6 a7 ed tc ol nl nw nx ps tm od ne pt)) [0, 1, 2, 3, 4, 5, 6, 7] rfl
    have hDc := (hD.sub (ws' := (MW cy a0 a1 a2 a3 a4 a5 a6 a7 ed tc ol nl nw nx ps tm od ne pt)) [0, 1, 2, 3, 4, 5, 6, 7] (by decide) rfl).weaken (B := fun _ => True) (fun _ _ _ _ => trivial)
    have hFc := va_free (wc := (MW cy a0 a1 a2 a3 a4 a5 a6 a7 ed tc ol nl nw nx ps tm od ne pt)) hD hS hA [0, 1, 2, 3, 4, 5, 6, 7] rfl
    refine z_callE (A := A) (va_runV (As := []) (rest := []) ⟨hx, hb, hml, hown, hts⟩ (c_X7_expand lau G cy a0 a1 a2 a3 a4 a5 a6 a7 s.heap.size ed tc ol nl nw nx ps tm od ne pt (by first | assumption | omega)) (cwV 0 hts gX7_loadStandard_X7_expand rfl rfl rfl (by decide +kernel) ⟨Nat.le_of_ble_eq_true rfl, Nat.le_of_ble_eq_true rfl⟩) ⟨P1_blind, va_recv hK hP (ci := 6) (q0 := 0) rfl rfl, P1_mk hKK (⟨rfl, hPc, hDc⟩)⟩ rfl rfl hl.1 rfl (lv_room (Nat.le_of_ble_eq_true rfl)) dX7_loadStandard_8 ⟨(show 0 + 0 ≤ 0 by omega), (show 0 + 0 ≤ 0 by omega)⟩) hS.2.2 hFc (fun v H1 locs1 hR hL1 => ?_)
    obtain ⟨rfl, hq8, hP1, hD1, hF1⟩ := hR
    obtain ⟨hP, hD⟩ := va_join (wr := []) (w1 := (MW cy a0 a1 a2 a3 a4 a5 a6 a7 ed (ntm (nw 0) (nw 1)) ol nl nw nx ps (tmE tm (nw 0) (nw 1) (ntm (nw 0) (nw 1))) od ne pt)) hP hD [0, 1, 2, 3, 4, 5, 6, 7] [] rfl rfl (by decide) (by decide) hF1.2 hFc hP1 hD1
    have hS : va_S A s.heap H1 locs1 := Fh.S ((Fh.of hS).tr hF1 (fun q _ h => hFc q h)) hL1
    clear hPc hDc hFc hP1 hD1 hF1 hL1
    generalize H1 = H at hP hS ⊢
    have hP : va_P G vwCl (MW cy a0 a1 a2 a3 a4 a5 a6 a7 ed (ntm (nw 0) (nw 1)) ol nl nw nx ps (tmE tm (nw 0) (nw 1) (ntm (nw 0) (nw 1))) od ne pt) H := hP
    have hD : va_D A (MW cy a0 a1 a2 a3 a4 a5 a6 a7 ed (ntm (nw 0) (nw 1)) ol nl nw nx ps (tmE tm (nw 0) (nw 1) (ntm (nw 0) (nw 1))) od ne pt) := hD
    refine W.eq (g2 := F0 mt 11 ls []) rfl ?_
    refine lv_iload_n hx hb dX7_loadStandard_11 rfl (lv_at hl 1 rfl) ?_
    refine lv_aload_n hx hb dX7_loadStandard_12 rfl (lv_at hl 0 rfl) ?_
    refine va_get (D := G) (ci := 6) (v := .int (iZ (ntm (nw 0) (nw 1)))) (C := RX7) (T := TX7) (N := 11) hx hb hts (by decide +kernel) hown hK hP 0 rfl rfl 5 (by decide) (hts (.fieldLink RX7 51 "SturmianWordsModel" "termCount" "I") (by decide +kernel)) (fun _ h9 => h9) rfl dX7_loadStandard_13 ?_
    refine z_icmp_le (tgt := 22) hx hb dX7_loadStandard_16 (by decide) (by omega) (fun c_16 => ?_) (fun c_16 => ?_)
    · exfalso; omega
    · refine lv_bipush (v := iZ (-3)) hx hb dX7_loadStandard_19 (by decide +kernel) ?_
      exact z_iretE hx hb hr hlocks dX7_loadStandard_21 hS.2.2 ⟨(show 0 ≤ 0 by omega), (show 0 ≤ 0 by omega)⟩ ⟨(rfl), (trivial), (hP), (hD), Fh.of hS⟩
  · exfalso; omega
set_option maxHeartbeats 4000000 in
set_option maxRecDepth 100000 in
theorem c_X7_loadStandard_no2 (lau : Launch) (G : va_G) (cy : Nat → ClassId) (a0 a1 a2 a3 a4 a5 a6 a7 : Nat) (sz : Nat) (ed tc ol nl : Int) (nw nx ps tm od ne pt : Int → Int) (kk : Int) (hQ : 0 ≤ nw 0 ∧ nw 0 ≤ nw 1 ∧ 1 ≤ nw 1 ∧ nw 1 ≤ 1000) (h1 : -1 ≤ kk ∧ kk ≤ ntm (nw 0) (nw 1) ∧ kk < 2147483648) (h4 : ¬ ∀ j, 0 ≤ j → j ≤ kk → (stS (nw 0) (nw 1) j).1.2 ≤ 60) : Met lau yX7_loadStandard wsX7_loadStandard ({ frames := 3, cells := 0, slots := 0, locals := 65 }) (P1 G cy [.ref a0, .int (iZ kk)] (fun H => H.size = sz ∧ va_P G vwCl (MW cy a0 a1 a2 a3 a4 a5 a6 a7 ed tc ol nl nw nx ps tm od ne pt) H ∧ va_D (fun _ => True) (MW cy a0 a1 a2 a3 a4 a5 a6 a7 ed tc ol nl nw nx ps tm od ne pt))) (Q1 (fun rv H0 H1 => ∃ (ol2 nl2 : Int) (nx2 od2 ne2 : Int → Int), rv = some (.int (iZ (-2))) ∧ (True) ∧ va_P G vwCl (MW cy a0 a1 a2 a3 a4 a5 a6 a7 ed (ntm (nw 0) (nw 1)) ol2 nl2 nw nx2 ps (tmE tm (nw 0) (nw 1) (ntm (nw 0) (nw 1))) od2 ne2 pt) H1 ∧ va_D (va_A (MW cy a0 a1 a2 a3 a4 a5 a6 a7 ed tc ol nl nw nx ps tm od ne pt) sz) (MW cy a0 a1 a2 a3 a4 a5 a6 a7 ed (ntm (nw 0) (nw 1)) ol2 nl2 nw nx2 ps (tmE tm (nw 0) (nw 1) (ntm (nw 0) (nw 1))) od2 ne2 pt) ∧ Fh (va_A (MW cy a0 a1 a2 a3 a4 a5 a6 a7 ed tc ol nl nw nx ps tm od ne pt) sz) H0 H1)) 0 0 (va_A (MW cy a0 a1 a2 a3 a4 a5 a6 a7 ed tc ol nl nw nx ps tm od ne pt) sz) := by
  refine z_head (lv := [(0, .ref a0), (1, .int (iZ kk))]) RX7 (by decide) rfl rfl (Nat.le_of_ble_eq_true rfl) rfl ?_
  intro pr ev s mt below meth cd ls hx hb hr hlocks hml hown hname hts hKK hP hl
  have hK := hKK.1
  obtain ⟨hsz, hP, hD0⟩ := hP
  subst hsz
  have hD := hD0.self (sz := s.heap.size)
  generalize hAe : va_A (MW cy a0 a1 a2 a3 a4 a5 a6 a7 ed tc ol nl nw nx ps tm od ne pt) s.heap.size = A at hD ⊢
  have hA : ∀ q : Nat, s.heap.size ≤ q → A q := fun q h => by rw [← hAe]; exact Or.inr h
  have hS : va_S A s.heap s.heap [] := va_S.rf
  have hP : va_P G vwCl (MW cy a0 a1 a2 a3 a4 a5 a6 a7 ed tc ol nl nw nx ps tm od ne pt) s.heap := hP
  refine lv_iload_n hx hb dX7_loadStandard_0 rfl (lv_at hl 1 rfl) ?_
  refine lv_iconst (v := iZ (-1)) hx hb dX7_loadStandard_1 rfl ?_
  refine z_icmp_ge (tgt := 7) hx hb dX7_loadStandard_2 (by decide) (by omega) (fun c_2 => ?_) (fun c_2 => ?_)
  · refine lv_aload_n hx hb dX7_loadStandard_7 rfl (lv_at hl 0 rfl) ?_
    have hPc := hP.sub (ws' := (MW cy a0 a1 a2 a3 a4 a5 a6 a7 ed tc ol nl nw nx ps tm od ne pt)) [0, 1, 2, 3, 4, 5, 6, 7] rfl
    have hDc := (hD.sub (ws' := (MW cy a0 a1 a2 a3 a4 a5 a6 a7 ed tc ol nl nw nx ps tm od ne pt)) [0, 1, 2, 3, 4, 5, 6, 7] (by decide) rfl).weaken (B := fun _ => True) (fun _ _ _ _ => trivial)
    have hFc := va_free (wc := (MW cy a0 a1 a2 a3 a4 a5 a6 a7 ed tc ol nl nw nx ps tm od ne pt)) hD hS hA [0, 1, 2, 3, 4, 5, 6, 7] rfl
    refine z_callE (A := A) (va_runV (As := []) (rest := []) ⟨hx, hb, hml, hown, hts⟩ (c_X7_expand lau G cy a0 a1 a2 a3 a4 a5 a6 a7 s.heap.size ed tc ol nl nw nx ps tm od ne pt (by first | assumption | omega)) (cwV 0 hts gX7_loadStandard_X7_expand rfl rfl rfl (by decide +kernel) ⟨Nat.le_of_ble_eq_true rfl, Nat.le_of_ble_eq_true rfl⟩) ⟨P1_blind, va_recv hK hP (ci := 6) (q0 := 0) rfl rfl, P1_mk hKK (⟨rfl, hPc, hDc⟩)⟩ rfl rfl hl.1 rfl (lv_room (Nat.le_of_ble_eq_true rfl)) dX7_loadStandard_8 ⟨(show 0 + 0 ≤ 0 by omega), (show 0 + 0 ≤ 0 by omega)⟩) hS.2.2 hFc (fun v H1 locs1 hR hL1 => ?_)
    obtain ⟨rfl, hq8, hP1, hD1, hF1⟩ := hR
    obtain ⟨hP, hD⟩ := va_join (wr := []) (w1 := (MW cy a0 a1 a2 a3 a4 a5 a6 a7 ed (ntm (nw 0) (nw 1)) ol nl nw nx ps (tmE tm (nw 0) (nw 1) (ntm (nw 0) (nw 1))) od ne pt)) hP hD [0, 1, 2, 3, 4, 5, 6, 7] [] rfl rfl (by decide) (by decide) hF1.2 hFc hP1 hD1
    have hS : va_S A s.heap H1 locs1 := Fh.S ((Fh.of hS).tr hF1 (fun q _ h => hFc q h)) hL1
    clear hPc hDc hFc hP1 hD1 hF1 hL1
    generalize H1 = H at hP hS ⊢
    have hP : va_P G vwCl (MW cy a0 a1 a2 a3 a4 a5 a6 a7 ed (ntm (nw 0) (nw 1)) ol nl nw nx ps (tmE tm (nw 0) (nw 1) (ntm (nw 0) (nw 1))) od ne pt) H := hP
    have hD : va_D A (MW cy a0 a1 a2 a3 a4 a5 a6 a7 ed (ntm (nw 0) (nw 1)) ol nl nw nx ps (tmE tm (nw 0) (nw 1) (ntm (nw 0) (nw 1))) od ne pt) := hD
    refine W.eq (g2 := F0 mt 11 ls []) rfl ?_
    refine lv_iload_n hx hb dX7_loadStandard_11 rfl (lv_at hl 1 rfl) ?_
    refine lv_aload_n hx hb dX7_loadStandard_12 rfl (lv_at hl 0 rfl) ?_
    refine va_get (D := G) (ci := 6) (v := .int (iZ (ntm (nw 0) (nw 1)))) (C := RX7) (T := TX7) (N := 11) hx hb hts (by decide +kernel) hown hK hP 0 rfl rfl 5 (by decide) (hts (.fieldLink RX7 51 "SturmianWordsModel" "termCount" "I") (by decide +kernel)) (fun _ h9 => h9) rfl dX7_loadStandard_13 ?_
    refine z_icmp_le (tgt := 22) hx hb dX7_loadStandard_16 (by decide) (by omega) (fun c_16 => ?_) (fun c_16 => ?_)
    · have hxq := hq8
      refine lv_aload_n hx hb dX7_loadStandard_22 rfl (lv_at hl 0 rfl) ?_
      refine va_get (D := G) (ci := 6) (v := .ref a5) (C := RX7) (T := TX7) (N := 11) hx hb hts (by decide +kernel) hown hK hP 0 rfl rfl 6 (by decide) (hts (.fieldLink RX7 22 "SturmianWordsModel" "older" "[I") (by decide +kernel)) (fun _ h9 => h9) rfl dX7_loadStandard_23 ?_
      refine lv_iconst (v := iZ 0) hx hb dX7_loadStandard_26 rfl ?_
      refine lv_iconst (v := iZ 1) hx hb dX7_loadStandard_27 rfl ?_
      refine z_iast (D := G) hx hb hK hP hD hS 5 0 rfl rfl (by omega) dX7_loadStandard_28 (fun H locs hP hD hS => ?_)
      have hP : va_P G vwCl (MW cy a0 a1 a2 a3 a4 a5 a6 a7 ed (ntm (nw 0) (nw 1)) ol nl nw nx ps (tmE tm (nw 0) (nw 1) (ntm (nw 0) (nw 1))) (up1 od 0 1) ne pt) H := hP
      have hD : va_D A (MW cy a0 a1 a2 a3 a4 a5 a6 a7 ed (ntm (nw 0) (nw 1)) ol nl nw nx ps (tmE tm (nw 0) (nw 1) (ntm (nw 0) (nw 1))) (up1 od 0 1) ne pt) := hD
      refine lv_aload_n hx hb dX7_loadStandard_29 rfl (lv_at hl 0 rfl) ?_
      refine lv_iconst (v := iZ 1) hx hb dX7_loadStandard_30 rfl ?_
      refine va_put (D := G) (ci := 6) (v := .int (iZ 1)) (ty := .int) (C := RX7) (T := TX7) (N := 11) hx hb hts (by decide +kernel) tyX7 tyX7_ok nmX7 hown hK hP hD hS 0 rfl rfl 7 (by decide) (hts (.fieldLink RX7 79 "SturmianWordsModel" "olderLength" "I") (by decide +kernel)) (fun _ h9 => h9) rfl (by decide +kernel) rfl rfl (Nat.le_of_ble_eq_true rfl) dX7_loadStandard_31 (fun H locs hP hD hS => ?_)
      have hP : va_P G vwCl (MW cy a0 a1 a2 a3 a4 a5 a6 a7 ed (ntm (nw 0) (nw 1)) 1 nl nw nx ps (tmE tm (nw 0) (nw 1) (ntm (nw 0) (nw 1))) (up1 od 0 1) ne pt) H := hP
      have hD : va_D A (MW cy a0 a1 a2 a3 a4 a5 a6 a7 ed (ntm (nw 0) (nw 1)) 1 nl nw nx ps (tmE tm (nw 0) (nw 1) (ntm (nw 0) (nw 1))) (up1 od 0 1) ne pt) := hD
      refine lv_aload_n hx hb dX7_loadStandard_34 rfl (lv_at hl 0 rfl) ?_
      refine va_get (D := G) (ci := 6) (v := .ref a6) (C := RX7) (T := TX7) (N := 11) hx hb hts (by decide +kernel) hown hK hP 0 rfl rfl 8 (by decide) (hts (.fieldLink RX7 25 "SturmianWordsModel" "newer" "[I") (by decide +kernel)) (fun _ h9 => h9) rfl dX7_loadStandard_35 ?_
      refine lv_iconst (v := iZ 0) hx hb dX7_loadStandard_38 rfl ?_
      refine lv_iconst (v := iZ 0) hx hb dX7_loadStandard_39 rfl ?_
      refine z_iast (D := G) hx hb hK hP hD hS 6 0 rfl rfl (by omega) dX7_loadStandard_40 (fun H locs hP hD hS => ?_)
      have hP : va_P G vwCl (MW cy a0 a1 a2 a3 a4 a5 a6 a7 ed (ntm (nw 0) (nw 1)) 1 nl nw nx ps (tmE tm (nw 0) (nw 1) (ntm (nw 0) (nw 1))) (up1 od 0 1) (up1 ne 0 0) pt) H := hP
      have hD : va_D A (MW cy a0 a1 a2 a3 a4 a5 a6 a7 ed (ntm (nw 0) (nw 1)) 1 nl nw nx ps (tmE tm (nw 0) (nw 1) (ntm (nw 0) (nw 1))) (up1 od 0 1) (up1 ne 0 0) pt) := hD
      refine lv_aload_n hx hb dX7_loadStandard_41 rfl (lv_at hl 0 rfl) ?_
      refine lv_iconst (v := iZ 1) hx hb dX7_loadStandard_42 rfl ?_
      refine va_put (D := G) (ci := 6) (v := .int (iZ 1)) (ty := .int) (C := RX7) (T := TX7) (N := 11) hx hb hts (by decide +kernel) tyX7 tyX7_ok nmX7 hown hK hP hD hS 0 rfl rfl 9 (by decide) (hts (.fieldLink RX7 72 "SturmianWordsModel" "newerLength" "I") (by decide +kernel)) (fun _ h9 => h9) rfl (by decide +kernel) rfl rfl (Nat.le_of_ble_eq_true rfl) dX7_loadStandard_43 (fun H locs hP hD hS => ?_)
      have hP : va_P G vwCl (MW cy a0 a1 a2 a3 a4 a5 a6 a7 ed (ntm (nw 0) (nw 1)) 1 1 nw nx ps (tmE tm (nw 0) (nw 1) (ntm (nw 0) (nw 1))) (up1 od 0 1) (up1 ne 0 0) pt) H := hP
      have hD : va_D A (MW cy a0 a1 a2 a3 a4 a5 a6 a7 ed (ntm (nw 0) (nw 1)) 1 1 nw nx ps (tmE tm (nw 0) (nw 1) (ntm (nw 0) (nw 1))) (up1 od 0 1) (up1 ne 0 0) pt) := hD
      refine lv_aload_n hx hb dX7_loadStandard_46 rfl (lv_at hl 0 rfl) ?_
      refine va_get (D := G) (ci := 6) (v := .ref a2) (C := RX7) (T := TX7) (N := 11) hx hb hts (by decide +kernel) hown hK hP 0 rfl rfl 1 (by decide) (hts (.fieldLink RX7 13 "SturmianWordsModel" "next" "[I") (by decide +kernel)) (fun _ h9 => h9) rfl dX7_loadStandard_47 ?_
      refine lv_iconst (v := iZ 3) hx hb dX7_loadStandard_50 rfl ?_
      refine lv_iconst (v := iZ 1) hx hb dX7_loadStandard_51 rfl ?_
      refine z_iast (D := G) hx hb hK hP hD hS 2 0 rfl rfl (by omega) dX7_loadStandard_52 (fun H locs hP hD hS => ?_)
      have hP : va_P G vwCl (MW cy a0 a1 a2 a3 a4 a5 a6 a7 ed (ntm (nw 0) (nw 1)) 1 1 nw (up1 nx 3 1) ps (tmE tm (nw 0) (nw 1) (ntm (nw 0) (nw 1))) (up1 od 0 1) (up1 ne 0 0) pt) H := hP
      have hD : va_D A (MW cy a0 a1 a2 a3 a4 a5 a6 a7 ed (ntm (nw 0) (nw 1)) 1 1 nw (up1 nx 3 1) ps (tmE tm (nw 0) (nw 1) (ntm (nw 0) (nw 1))) (up1 od 0 1) (up1 ne 0 0) pt) := hD
      refine lv_aload_n hx hb dX7_loadStandard_53 rfl (lv_at hl 0 rfl) ?_
      refine va_get (D := G) (ci := 6) (v := .ref a2) (C := RX7) (T := TX7) (N := 11) hx hb hts (by decide +kernel) hown hK hP 0 rfl rfl 1 (by decide) (hts (.fieldLink RX7 13 "SturmianWordsModel" "next" "[I") (by decide +kernel)) (fun _ h9 => h9) rfl dX7_loadStandard_54 ?_
      refine lv_iconst (v := iZ 4) hx hb dX7_loadStandard_57 rfl ?_
      refine lv_iload_n hx hb dX7_loadStandard_58 rfl (lv_at hl 1 rfl) ?_
      refine z_if_ge (tgt := 66) hx hb dX7_loadStandard_59 (by decide) (by omega) (fun c_59 => ?_) (fun c_59 => ?_)
      · refine lv_iconst (v := iZ 0) hx hb dX7_loadStandard_66 rfl ?_
        refine z_iast (D := G) hx hb hK hP hD hS 2 0 rfl rfl (by omega) dX7_loadStandard_67 (fun H locs hP hD hS => ?_)
        have hP : va_P G vwCl (MW cy a0 a1 a2 a3 a4 a5 a6 a7 ed (ntm (nw 0) (nw 1)) 1 1 nw (up1 (up1 nx 3 1) 4 0) ps (tmE tm (nw 0) (nw 1) (ntm (nw 0) (nw 1))) (up1 od 0 1) (up1 ne 0 0) pt) H := hP
        have hD : va_D A (MW cy a0 a1 a2 a3 a4 a5 a6 a7 ed (ntm (nw 0) (nw 1)) 1 1 nw (up1 (up1 nx 3 1) 4 0) ps (tmE tm (nw 0) (nw 1) (ntm (nw 0) (nw 1))) (up1 od 0 1) (up1 ne 0 0) pt) := hD
        refine lv_iconst (v := iZ 1) hx hb dX7_loadStandard_68 rfl ?_
        refine lv_istore_n (lv' := [(2, .int (iZ 1)), (0, .ref a0), (1, .int (iZ kk))]) hx hb dX7_loadStandard_69 rfl hl (by decide) rfl (fun ls hl => ?_)
        refine z_loopH6 (nL := 3) (A := A) (fun (i : Int) (o1 : Int) (l1 : Int) (x1 : Int → Int) (d1 : Int → Int) (e1 : Int → Int) => [(0, .ref a0), (1, .int (iZ kk)), (2, .int (iZ i))]) (fun (i : Int) (o1 : Int) (l1 : Int) (x1 : Int → Int) (d1 : Int → Int) (e1 : Int → Int) (H : Heap) => ((1 ≤ i ∧ (i ≤ kk + 1 ∨ i = 1)) ∧ (0 ≤ kk → RowIs x1 (stS (nw 0) (nw 1) (i - 1)).1.1 (stS (nw 0) (nw 1) (i - 1)).1.2) ∧ (kk < 0 → RowIs x1 1 1 ∧ i = 1) ∧ (l1 = (stS (nw 0) (nw 1) (i - 1)).1.2 ∧ o1 = (stS (nw 0) (nw 1) (i - 1)).2.2 ∧ 1 ≤ l1 ∧ l1 ≤ 60 ∧ 1 ≤ o1 ∧ o1 ≤ 60) ∧ ((0 ≤ (stS (nw 0) (nw 1) (i - 1)).1.1 ∧ (stS (nw 0) (nw 1) (i - 1)).1.1 < pw (stS (nw 0) (nw 1) (i - 1)).1.2) ∧ (0 ≤ (stS (nw 0) (nw 1) (i - 1)).2.1 ∧ (stS (nw 0) (nw 1) (i - 1)).2.1 < pw (stS (nw 0) (nw 1) (i - 1)).2.2)) ∧ (∀ j, 0 ≤ j → j < (stS (nw 0) (nw 1) (i - 1)).1.2 → e1 j = ltr (stS (nw 0) (nw 1) (i - 1)).1.1 (stS (nw 0) (nw 1) (i - 1)).1.2 j) ∧ (∀ j, 0 ≤ j → j < (stS (nw 0) (nw 1) (i - 1)).2.2 → d1 j = ltr (stS (nw 0) (nw 1) (i - 1)).2.1 (stS (nw 0) (nw 1) (i - 1)).2.2 j) ∧ (∀ j, 0 ≤ j → j < i → (stS (nw 0) (nw 1) j).1.2 ≤ 60)) ∧ va_P G vwCl (MW cy a0 a1 a2 a3 a4 a5 a6 a7 ed (ntm (nw 0) (nw 1)) o1 l1 nw x1 ps (tmE tm (nw 0) (nw 1) (ntm (nw 0) (nw 1))) d1 e1 pt) H ∧ va_D A (MW cy a0 a1 a2 a3 a4 a5 a6 a7 ed (ntm (nw 0) (nw 1)) o1 l1 nw x1 ps (tmE tm (nw 0) (nw 1) (ntm (nw 0) (nw 1))) d1 e1 pt) ∧ Fh A s.heap H) (fun (i : Int) (o1 : Int) (l1 : Int) (x1 : Int → Int) (d1 : Int → Int) (e1 : Int → Int) => kk + 1 - i) (fun (i : Int) (o1 : Int) (l1 : Int) (x1 : Int → Int) (d1 : Int → Int) (e1 : Int → Int) => 0) (fun (i : Int) (o1 : Int) (l1 : Int) (x1 : Int → Int) (d1 : Int → Int) (e1 : Int → Int) => 0) (a1 := 1) (a2 := 1) (a3 := 1) (a4 := (up1 (up1 nx 3 1) 4 0)) (a5 := (up1 od 0 1)) (a6 := (up1 ne 0 0)) ⟨⟨(by omega), (fun _ => by rw [show (1 : Int) - 1 = 0 by decide, stS_0]; exact lsd_0), (fun q => by omega), (by rw [show (1 : Int) - 1 = 0 by decide, stS_0]; exact ⟨rfl, rfl, by decide, by decide, by decide, by decide⟩), (by rw [show (1 : Int) - 1 = 0 by decide, stS_0]; exact ⟨⟨by decide, by decide⟩, by decide, by decide⟩), (by rw [show (1 : Int) - 1 = 0 by decide, stS_0]; exact fun j q1 q2 => (by have q2 : j < 1 := q2; rw [show j = 0 by omega, up1_s]; rfl)), (by rw [show (1 : Int) - 1 = 0 by decide, stS_0]; exact fun j q1 q2 => (by have q2 : j < 1 := q2; rw [show j = 0 by omega, up1_s]; rfl)), (fun j q1 q2 => by rw [show j = 0 by omega, stS_0]; decide)⟩, hP, hD, Fh.of hS⟩ hS.2.2 (lv_sub hl [1, 2, 0] rfl) ?_
        rintro i o1 l1 x1 d1 e1 H locs ⟨⟨i1, i2, i3, i4, i5, i6, i7, i8⟩, hP, hD, hFr⟩ hLc ih_70 ls hl
        have hS : va_S A s.heap H locs := Fh.S hFr hLc
        refine lv_iload_n hx hb dX7_loadStandard_70 rfl (lv_at hl 2 rfl) ?_
        refine lv_iload_n hx hb dX7_loadStandard_71 rfl (lv_at hl 1 rfl) ?_
        refine z_icmp_gt (tgt := 115) hx hb dX7_loadStandard_72 (by decide) (by omega) (fun c_72 => ?_) (fun c_72 => ?_)
        · exact absurd (fun j q1 q2 => i8 j q1 (by omega)) h4
        · have hxz := hxq.2.2 (i - 1) (by omega) (by omega)
          have hcf := cft_pos (p := nw 0) (q := nw 1) (k := i - 1) (by omega) (by omega) (by omega) hxz
          rw [show i - 1 + 1 = i by omega] at hcf
          have hstt : 0 ≤ stT (nw 0) (nw 1) (i - 1) ∧ stT (nw 0) (nw 1) (i - 1) ≤ 1000 := by unfold stT; rw [show i - 1 + 1 = i by omega]; split <;> omega
          have hst2 := stS_st (p := nw 0) (q := nw 1) (i := i) (by omega)
          refine lv_aload_n hx hb dX7_loadStandard_75 rfl (lv_at hl 0 rfl) ?_
          refine lv_iload_n hx hb dX7_loadStandard_76 rfl (lv_at hl 2 rfl) ?_
          refine lv_iconst (v := iZ 1) hx hb dX7_loadStandard_77 rfl ?_
          refine z_icmp_ne (tgt := 92) hx hb dX7_loadStandard_78 (by decide) (by omega) (fun c_78 => ?_) (fun c_78 => ?_)
          · refine lv_aload_n hx hb dX7_loadStandard_92 rfl (lv_at hl 0 rfl) ?_
            refine va_get (D := G) (ci := 6) (v := .ref a4) (C := RX7) (T := TX7) (N := 11) hx hb hts (by decide +kernel) hown hK hP 0 rfl rfl 4 (by decide) (hts (.fieldLink RX7 19 "SturmianWordsModel" "terms" "[I") (by decide +kernel)) (fun _ h9 => h9) rfl dX7_loadStandard_93 ?_
            refine lv_iload_n hx hb dX7_loadStandard_96 rfl (lv_at hl 2 rfl) ?_
            refine lv_iconst (v := iZ 1) hx hb dX7_loadStandard_97 rfl ?_
            refine z_isub hx hb dX7_loadStandard_98 ?_
            refine z_iald (D := G) hx hb hK hP 4 0 rfl rfl (by omega) dX7_loadStandard_99 ?_
            refine z_top (b := (stT (nw 0) (nw 1) (i - 1))) (by unfold tmE stT; rw [if_pos (by omega), show i - 1 + 1 = i by omega, if_neg (by omega), Int.sub_zero]) ?_
            have hPc := hP.sub (ws' := (MW cy a0 a1 a2 a3 a4 a5 a6 a7 ed (ntm (nw 0) (nw 1)) o1 l1 nw x1 ps (tmE tm (nw 0) (nw 1) (ntm (nw 0) (nw 1))) d1 e1 pt)) [0, 1, 2, 3, 4, 5, 6, 7] rfl
            have hDc := (hD.sub (ws' := (MW cy a0 a1 a2 a3 a4 a5 a6 a7 ed (ntm (nw 0) (nw 1)) o1 l1 nw x1 ps (tmE tm (nw 0) (nw 1) (ntm (nw 0) (nw 1))) d1 e1 pt)) [0, 1, 2, 3, 4, 5, 6, 7] (by decide) rfl).weaken (B := fun _ => True) (fun _ _ _ _ => trivial)
            have hFc := va_free (wc := (MW cy a0 a1 a2 a3 a4 a5 a6 a7 ed (ntm (nw 0) (nw 1)) o1 l1 nw x1 ps (tmE tm (nw 0) (nw 1) (ntm (nw 0) (nw 1))) d1 e1 pt)) hD hS hA [0, 1, 2, 3, 4, 5, 6, 7] rfl
            refine z_callE (A := A) (va_runV (As := [.int (iZ (stT (nw 0) (nw 1) (i - 1)))]) (rest := []) ⟨hx, hb, hml, hown, hts⟩ (c_X7_further lau G cy a0 a1 a2 a3 a4 a5 a6 a7 H.size ed (ntm (nw 0) (nw 1)) o1 l1 nw x1 ps (tmE tm (nw 0) (nw 1) (ntm (nw 0) (nw 1))) d1 e1 pt (stS (nw 0) (nw 1) (i - 1)).1.1 (stS (nw 0) (nw 1) (i - 1)).1.2 (stS (nw 0) (nw 1) (i - 1)).2.1 (stS (nw 0) (nw 1) (i - 1)).2.2 (stT (nw 0) (nw 1) (i - 1)) (i5.1) (by first | assumption | omega) (i5.2) (by first | assumption | omega) (by first | assumption | omega) (by first | assumption | omega) (i6) (i7) (by first | assumption | omega)) (cwV 1 hts gX7_loadStandard_X7_further rfl rfl rfl (by decide +kernel) ⟨Nat.le_of_ble_eq_true rfl, Nat.le_of_ble_eq_true rfl⟩) ⟨P1_blind, va_recv hK hP (ci := 6) (q0 := 0) rfl rfl, P1_mk hKK (⟨rfl, hPc, hDc⟩)⟩ rfl rfl hl.1 rfl (lv_room (Nat.le_of_ble_eq_true rfl)) dX7_loadStandard_100 ⟨(show 0 + 0 ≤ 0 by omega), (show 0 + 0 ≤ 0 by omega)⟩) hS.2.2 hFc (fun v H1 locs1 hR hL1 => ?_)
            obtain ⟨ol2_100, nl2_100, nx2_100, od2_100, ne2_100, rfl, hq100, hP1, hD1, hF1⟩ := hR
            obtain ⟨hP, hD⟩ := va_join (wr := []) (w1 := (MW cy a0 a1 a2 a3 a4 a5 a6 a7 ed (ntm (nw 0) (nw 1)) ol2_100 nl2_100 nw nx2_100 ps (tmE tm (nw 0) (nw 1) (ntm (nw 0) (nw 1))) od2_100 ne2_100 pt)) hP hD [0, 1, 2, 3, 4, 5, 6, 7] [] rfl rfl (by decide) (by decide) hF1.2 hFc hP1 hD1
            have hS : va_S A s.heap H1 locs1 := Fh.S ((Fh.of hS).tr hF1 (fun q _ h => hFc q h)) hL1
            clear hPc hDc hFc hP1 hD1 hF1 hL1
            generalize H1 = H at hP hS ⊢
            have hP : va_P G vwCl (MW cy a0 a1 a2 a3 a4 a5 a6 a7 ed (ntm (nw 0) (nw 1)) ol2_100 nl2_100 nw nx2_100 ps (tmE tm (nw 0) (nw 1) (ntm (nw 0) (nw 1))) od2_100 ne2_100 pt) H := hP
            have hD : va_D A (MW cy a0 a1 a2 a3 a4 a5 a6 a7 ed (ntm (nw 0) (nw 1)) ol2_100 nl2_100 nw nx2_100 ps (tmE tm (nw 0) (nw 1) (ntm (nw 0) (nw 1))) od2_100 ne2_100 pt) := hD
            refine W.eq (g2 := F0 mt 103 ls [.int (iZ (bv (((stS (nw 0) (nw 1) (i - 1)).1.2 * (stT (nw 0) (nw 1) (i - 1)) + (stS (nw 0) (nw 1) (i - 1)).2.2) ≤ 60)))]) rfl ?_
            refine z_ifB_ne (tgt := 109) hx hb dX7_loadStandard_103 (by decide) (fun c_103 => ?_) (fun c_103 => ?_)
            · refine lv_iinc (v := iZ (i + 1)) (lv' := [(2, .int (iZ (i + 1))), (0, .ref a0), (1, .int (iZ kk))]) hx hb dX7_loadStandard_109 hl (k := 2) rfl (iZ_add _ _) (by decide) rfl (fun ls hl => ?_)
              refine lv_goto (tgt := 70) hx hb dX7_loadStandard_112 (by decide) ?_
              exact ih_70 (i + 1) ol2_100 nl2_100 nx2_100 od2_100 ne2_100 _ _ ⟨⟨(by omega), (fun _ => by rw [show i + 1 - 1 = i by omega, hst2]; exact (hq100 c_103).1), (fun q => by omega), (by rw [show i + 1 - 1 = i by omega, hst2]; have e := hq100 c_103; have e4 := e.2.2.2.1; have hnn := Int.mul_nonneg (show 0 ≤ (stS (nw 0) (nw 1) (i - 1)).1.2 by omega) (show 0 ≤ stT (nw 0) (nw 1) (i - 1) by omega); exact ⟨e.2.2.2.1, e.2.1, by omega, by omega, by omega, by omega⟩), (by rw [show i + 1 - 1 = i by omega, hst2]; exact ⟨(hq100 c_103).1.2.2.1, i5.1⟩), (by rw [show i + 1 - 1 = i by omega, hst2]; exact (hq100 c_103).2.2.2.2), (by rw [show i + 1 - 1 = i by omega, hst2]; exact (hq100 c_103).2.2.1), (fun j q1 q2 => by rcases (show j < i ∨ j = i by omega) with q | q; (· exact i8 j q1 q); (· rw [q, hst2]; exact c_103))⟩, hP, hD, Fh.of hS⟩ hS.2.2 ⟨by omega, by omega⟩ _ (lv_sub hl [1, 2, 0] rfl)
            · refine lv_bipush (v := iZ (-2)) hx hb dX7_loadStandard_106 (by decide +kernel) ?_
              exact z_iretE hx hb hr hlocks dX7_loadStandard_108 hS.2.2 ⟨(show 0 ≤ 0 by omega), (show 0 ≤ 0 by omega)⟩ ⟨ol2_100, nl2_100, nx2_100, od2_100, ne2_100, (rfl), (trivial), (hP), (hD), Fh.of hS⟩
          · refine lv_aload_n hx hb dX7_loadStandard_81 rfl (lv_at hl 0 rfl) ?_
            refine va_get (D := G) (ci := 6) (v := .ref a4) (C := RX7) (T := TX7) (N := 11) hx hb hts (by decide +kernel) hown hK hP 0 rfl rfl 4 (by decide) (hts (.fieldLink RX7 19 "SturmianWordsModel" "terms" "[I") (by decide +kernel)) (fun _ h9 => h9) rfl dX7_loadStandard_82 ?_
            refine lv_iconst (v := iZ 0) hx hb dX7_loadStandard_85 rfl ?_
            refine z_iald (D := G) hx hb hK hP 4 0 rfl rfl (by omega) dX7_loadStandard_86 ?_
            refine lv_iconst (v := iZ 1) hx hb dX7_loadStandard_87 rfl ?_
            refine z_isub hx hb dX7_loadStandard_88 ?_
            refine z_top (b := (stT (nw 0) (nw 1) (i - 1))) (by unfold tmE stT; rw [if_pos (by omega), show i - 1 = 0 by omega, if_pos rfl]) ?_
            refine lv_goto (tgt := 100) hx hb dX7_loadStandard_89 (by decide) ?_
            have hPc := hP.sub (ws' := (MW cy a0 a1 a2 a3 a4 a5 a6 a7 ed (ntm (nw 0) (nw 1)) o1 l1 nw x1 ps (tmE tm (nw 0) (nw 1) (ntm (nw 0) (nw 1))) d1 e1 pt)) [0, 1, 2, 3, 4, 5, 6, 7] rfl
            have hDc := (hD.sub (ws' := (MW cy a0 a1 a2 a3 a4 a5 a6 a7 ed (ntm (nw 0) (nw 1)) o1 l1 nw x1 ps (tmE tm (nw 0) (nw 1) (ntm (nw 0) (nw 1))) d1 e1 pt)) [0, 1, 2, 3, 4, 5, 6, 7] (by decide) rfl).weaken (B := fun _ => True) (fun _ _ _ _ => trivial)
            have hFc := va_free (wc := (MW cy a0 a1 a2 a3 a4 a5 a6 a7 ed (ntm (nw 0) (nw 1)) o1 l1 nw x1 ps (tmE tm (nw 0) (nw 1) (ntm (nw 0) (nw 1))) d1 e1 pt)) hD hS hA [0, 1, 2, 3, 4, 5, 6, 7] rfl
            refine z_callE (A := A) (va_runV (As := [.int (iZ (stT (nw 0) (nw 1) (i - 1)))]) (rest := []) ⟨hx, hb, hml, hown, hts⟩ (c_X7_further lau G cy a0 a1 a2 a3 a4 a5 a6 a7 H.size ed (ntm (nw 0) (nw 1)) o1 l1 nw x1 ps (tmE tm (nw 0) (nw 1) (ntm (nw 0) (nw 1))) d1 e1 pt (stS (nw 0) (nw 1) (i - 1)).1.1 (stS (nw 0) (nw 1) (i - 1)).1.2 (stS (nw 0) (nw 1) (i - 1)).2.1 (stS (nw 0) (nw 1) (i - 1)).2.2 (stT (nw 0) (nw 1) (i - 1)) (i5.1) (by first | assumption | omega) (i5.2) (by first | assumption | omega) (by first | assumption | omega) (by first | assumption | omega) (i6) (i7) (by first | assumption | omega)) (cwV 1 hts gX7_loadStandard_X7_further rfl rfl rfl (by decide +kernel) ⟨Nat.le_of_ble_eq_true rfl, Nat.le_of_ble_eq_true rfl⟩) ⟨P1_blind, va_recv hK hP (ci := 6) (q0 := 0) rfl rfl, P1_mk hKK (⟨rfl, hPc, hDc⟩)⟩ rfl rfl hl.1 rfl (lv_room (Nat.le_of_ble_eq_true rfl)) dX7_loadStandard_100 ⟨(show 0 + 0 ≤ 0 by omega), (show 0 + 0 ≤ 0 by omega)⟩) hS.2.2 hFc (fun v H1 locs1 hR hL1 => ?_)
            obtain ⟨ol2_100, nl2_100, nx2_100, od2_100, ne2_100, rfl, hq100, hP1, hD1, hF1⟩ := hR
            obtain ⟨hP, hD⟩ := va_join (wr := []) (w1 := (MW cy a0 a1 a2 a3 a4 a5 a6 a7 ed (ntm (nw 0) (nw 1)) ol2_100 nl2_100 nw nx2_100 ps (tmE tm (nw 0) (nw 1) (ntm (nw 0) (nw 1))) od2_100 ne2_100 pt)) hP hD [0, 1, 2, 3, 4, 5, 6, 7] [] rfl rfl (by decide) (by decide) hF1.2 hFc hP1 hD1
            have hS : va_S A s.heap H1 locs1 := Fh.S ((Fh.of hS).tr hF1 (fun q _ h => hFc q h)) hL1
            clear hPc hDc hFc hP1 hD1 hF1 hL1
            generalize H1 = H at hP hS ⊢
            have hP : va_P G vwCl (MW cy a0 a1 a2 a3 a4 a5 a6 a7 ed (ntm (nw 0) (nw 1)) ol2_100 nl2_100 nw nx2_100 ps (tmE tm (nw 0) (nw 1) (ntm (nw 0) (nw 1))) od2_100 ne2_100 pt) H := hP
            have hD : va_D A (MW cy a0 a1 a2 a3 a4 a5 a6 a7 ed (ntm (nw 0) (nw 1)) ol2_100 nl2_100 nw nx2_100 ps (tmE tm (nw 0) (nw 1) (ntm (nw 0) (nw 1))) od2_100 ne2_100 pt) := hD
            refine W.eq (g2 := F0 mt 103 ls [.int (iZ (bv (((stS (nw 0) (nw 1) (i - 1)).1.2 * (stT (nw 0) (nw 1) (i - 1)) + (stS (nw 0) (nw 1) (i - 1)).2.2) ≤ 60)))]) rfl ?_
            refine z_ifB_ne (tgt := 109) hx hb dX7_loadStandard_103 (by decide) (fun c_103 => ?_) (fun c_103 => ?_)
            · refine lv_iinc (v := iZ (i + 1)) (lv' := [(2, .int (iZ (i + 1))), (0, .ref a0), (1, .int (iZ kk))]) hx hb dX7_loadStandard_109 hl (k := 2) rfl (iZ_add _ _) (by decide) rfl (fun ls hl => ?_)
              refine lv_goto (tgt := 70) hx hb dX7_loadStandard_112 (by decide) ?_
              exact ih_70 (i + 1) ol2_100 nl2_100 nx2_100 od2_100 ne2_100 _ _ ⟨⟨(by omega), (fun _ => by rw [show i + 1 - 1 = i by omega, hst2]; exact (hq100 c_103).1), (fun q => by omega), (by rw [show i + 1 - 1 = i by omega, hst2]; have e := hq100 c_103; have e4 := e.2.2.2.1; have hnn := Int.mul_nonneg (show 0 ≤ (stS (nw 0) (nw 1) (i - 1)).1.2 by omega) (show 0 ≤ stT (nw 0) (nw 1) (i - 1) by omega); exact ⟨e.2.2.2.1, e.2.1, by omega, by omega, by omega, by omega⟩), (by rw [show i + 1 - 1 = i by omega, hst2]; exact ⟨(hq100 c_103).1.2.2.1, i5.1⟩), (by rw [show i + 1 - 1 = i by omega, hst2]; exact (hq100 c_103).2.2.2.2), (by rw [show i + 1 - 1 = i by omega, hst2]; exact (hq100 c_103).2.2.1), (fun j q1 q2 => by rcases (show j < i ∨ j = i by omega) with q | q; (· exact i8 j q1 q); (· rw [q, hst2]; exact c_103))⟩, hP, hD, Fh.of hS⟩ hS.2.2 ⟨by omega, by omega⟩ _ (lv_sub hl [1, 2, 0] rfl)
            · refine lv_bipush (v := iZ (-2)) hx hb dX7_loadStandard_106 (by decide +kernel) ?_
              exact z_iretE hx hb hr hlocks dX7_loadStandard_108 hS.2.2 ⟨(show 0 ≤ 0 by omega), (show 0 ≤ 0 by omega)⟩ ⟨ol2_100, nl2_100, nx2_100, od2_100, ne2_100, (rfl), (trivial), (hP), (hD), Fh.of hS⟩
      · refine lv_iconst (v := iZ 1) hx hb dX7_loadStandard_62 rfl ?_
        refine lv_goto (tgt := 67) hx hb dX7_loadStandard_63 (by decide) ?_
        refine z_iast (D := G) hx hb hK hP hD hS 2 0 rfl rfl (by omega) dX7_loadStandard_67 (fun H locs hP hD hS => ?_)
        have hP : va_P G vwCl (MW cy a0 a1 a2 a3 a4 a5 a6 a7 ed (ntm (nw 0) (nw 1)) 1 1 nw (up1 (up1 nx 3 1) 4 1) ps (tmE tm (nw 0) (nw 1) (ntm (nw 0) (nw 1))) (up1 od 0 1) (up1 ne 0 0) pt) H := hP
        have hD : va_D A (MW cy a0 a1 a2 a3 a4 a5 a6 a7 ed (ntm (nw 0) (nw 1)) 1 1 nw (up1 (up1 nx 3 1) 4 1) ps (tmE tm (nw 0) (nw 1) (ntm (nw 0) (nw 1))) (up1 od 0 1) (up1 ne 0 0) pt) := hD
        refine lv_iconst (v := iZ 1) hx hb dX7_loadStandard_68 rfl ?_
        refine lv_istore_n (lv' := [(2, .int (iZ 1)), (0, .ref a0), (1, .int (iZ kk))]) hx hb dX7_loadStandard_69 rfl hl (by decide) rfl (fun ls hl => ?_)
        refine z_loopH6 (nL := 3) (A := A) (fun (i : Int) (o1 : Int) (l1 : Int) (x1 : Int → Int) (d1 : Int → Int) (e1 : Int → Int) => [(0, .ref a0), (1, .int (iZ kk)), (2, .int (iZ i))]) (fun (i : Int) (o1 : Int) (l1 : Int) (x1 : Int → Int) (d1 : Int → Int) (e1 : Int → Int) (H : Heap) => ((1 ≤ i ∧ (i ≤ kk + 1 ∨ i = 1)) ∧ (0 ≤ kk → RowIs x1 (stS (nw 0) (nw 1) (i - 1)).1.1 (stS (nw 0) (nw 1) (i - 1)).1.2) ∧ (kk < 0 → RowIs x1 1 1 ∧ i = 1) ∧ (l1 = (stS (nw 0) (nw 1) (i - 1)).1.2 ∧ o1 = (stS (nw 0) (nw 1) (i - 1)).2.2 ∧ 1 ≤ l1 ∧ l1 ≤ 60 ∧ 1 ≤ o1 ∧ o1 ≤ 60) ∧ ((0 ≤ (stS (nw 0) (nw 1) (i - 1)).1.1 ∧ (stS (nw 0) (nw 1) (i - 1)).1.1 < pw (stS (nw 0) (nw 1) (i - 1)).1.2) ∧ (0 ≤ (stS (nw 0) (nw 1) (i - 1)).2.1 ∧ (stS (nw 0) (nw 1) (i - 1)).2.1 < pw (stS (nw 0) (nw 1) (i - 1)).2.2)) ∧ (∀ j, 0 ≤ j → j < (stS (nw 0) (nw 1) (i - 1)).1.2 → e1 j = ltr (stS (nw 0) (nw 1) (i - 1)).1.1 (stS (nw 0) (nw 1) (i - 1)).1.2 j) ∧ (∀ j, 0 ≤ j → j < (stS (nw 0) (nw 1) (i - 1)).2.2 → d1 j = ltr (stS (nw 0) (nw 1) (i - 1)).2.1 (stS (nw 0) (nw 1) (i - 1)).2.2 j) ∧ (∀ j, 0 ≤ j → j < i → (stS (nw 0) (nw 1) j).1.2 ≤ 60)) ∧ va_P G vwCl (MW cy a0 a1 a2 a3 a4 a5 a6 a7 ed (ntm (nw 0) (nw 1)) o1 l1 nw x1 ps (tmE tm (nw 0) (nw 1) (ntm (nw 0) (nw 1))) d1 e1 pt) H ∧ va_D A (MW cy a0 a1 a2 a3 a4 a5 a6 a7 ed (ntm (nw 0) (nw 1)) o1 l1 nw x1 ps (tmE tm (nw 0) (nw 1) (ntm (nw 0) (nw 1))) d1 e1 pt) ∧ Fh A s.heap H) (fun (i : Int) (o1 : Int) (l1 : Int) (x1 : Int → Int) (d1 : Int → Int) (e1 : Int → Int) => kk + 1 - i) (fun (i : Int) (o1 : Int) (l1 : Int) (x1 : Int → Int) (d1 : Int → Int) (e1 : Int → Int) => 0) (fun (i : Int) (o1 : Int) (l1 : Int) (x1 : Int → Int) (d1 : Int → Int) (e1 : Int → Int) => 0) (a1 := 1) (a2 := 1) (a3 := 1) (a4 := (up1 (up1 nx 3 1) 4 1)) (a5 := (up1 od 0 1)) (a6 := (up1 ne 0 0)) ⟨⟨(by omega), (fun q => by omega), (fun _ => ⟨lsd_1, rfl⟩), (by rw [show (1 : Int) - 1 = 0 by decide, stS_0]; exact ⟨rfl, rfl, by decide, by decide, by decide, by decide⟩), (by rw [show (1 : Int) - 1 = 0 by decide, stS_0]; exact ⟨⟨by decide, by decide⟩, by decide, by decide⟩), (by rw [show (1 : Int) - 1 = 0 by decide, stS_0]; exact fun j q1 q2 => (by have q2 : j < 1 := q2; rw [show j = 0 by omega, up1_s]; rfl)), (by rw [show (1 : Int) - 1 = 0 by decide, stS_0]; exact fun j q1 q2 => (by have q2 : j < 1 := q2; rw [show j = 0 by omega, up1_s]; rfl)), (fun j q1 q2 => by rw [show j = 0 by omega, stS_0]; decide)⟩, hP, hD, Fh.of hS⟩ hS.2.2 (lv_sub hl [1, 2, 0] rfl) ?_
        rintro i o1 l1 x1 d1 e1 H locs ⟨⟨i1, i2, i3, i4, i5, i6, i7, i8⟩, hP, hD, hFr⟩ hLc ih_70 ls hl
        have hS : va_S A s.heap H locs := Fh.S hFr hLc
        refine lv_iload_n hx hb dX7_loadStandard_70 rfl (lv_at hl 2 rfl) ?_
        refine lv_iload_n hx hb dX7_loadStandard_71 rfl (lv_at hl 1 rfl) ?_
        refine z_icmp_gt (tgt := 115) hx hb dX7_loadStandard_72 (by decide) (by omega) (fun c_72 => ?_) (fun c_72 => ?_)
        · exact absurd (fun j q1 q2 => i8 j q1 (by omega)) h4
        · have hxz := hxq.2.2 (i - 1) (by omega) (by omega)
          have hcf := cft_pos (p := nw 0) (q := nw 1) (k := i - 1) (by omega) (by omega) (by omega) hxz
          rw [show i - 1 + 1 = i by omega] at hcf
          have hstt : 0 ≤ stT (nw 0) (nw 1) (i - 1) ∧ stT (nw 0) (nw 1) (i - 1) ≤ 1000 := by unfold stT; rw [show i - 1 + 1 = i by omega]; split <;> omega
          have hst2 := stS_st (p := nw 0) (q := nw 1) (i := i) (by omega)
          refine lv_aload_n hx hb dX7_loadStandard_75 rfl (lv_at hl 0 rfl) ?_
          refine lv_iload_n hx hb dX7_loadStandard_76 rfl (lv_at hl 2 rfl) ?_
          refine lv_iconst (v := iZ 1) hx hb dX7_loadStandard_77 rfl ?_
          refine z_icmp_ne (tgt := 92) hx hb dX7_loadStandard_78 (by decide) (by omega) (fun c_78 => ?_) (fun c_78 => ?_)
          · refine lv_aload_n hx hb dX7_loadStandard_92 rfl (lv_at hl 0 rfl) ?_
            refine va_get (D := G) (ci := 6) (v := .ref a4) (C := RX7) (T := TX7) (N := 11) hx hb hts (by decide +kernel) hown hK hP 0 rfl rfl 4 (by decide) (hts (.fieldLink RX7 19 "SturmianWordsModel" "terms" "[I") (by decide +kernel)) (fun _ h9 => h9) rfl dX7_loadStandard_93 ?_
            refine lv_iload_n hx hb dX7_loadStandard_96 rfl (lv_at hl 2 rfl) ?_
            refine lv_iconst (v := iZ 1) hx hb dX7_loadStandard_97 rfl ?_
            refine z_isub hx hb dX7_loadStandard_98 ?_
            refine z_iald (D := G) hx hb hK hP 4 0 rfl rfl (by omega) dX7_loadStandard_99 ?_
            refine z_top (b := (stT (nw 0) (nw 1) (i - 1))) (by unfold tmE stT; rw [if_pos (by omega), show i - 1 + 1 = i by omega, if_neg (by omega), Int.sub_zero]) ?_
            have hPc := hP.sub (ws' := (MW cy a0 a1 a2 a3 a4 a5 a6 a7 ed (ntm (nw 0) (nw 1)) o1 l1 nw x1 ps (tmE tm (nw 0) (nw 1) (ntm (nw 0) (nw 1))) d1 e1 pt)) [0, 1, 2, 3, 4, 5, 6, 7] rfl
            have hDc := (hD.sub (ws' := (MW cy a0 a1 a2 a3 a4 a5 a6 a7 ed (ntm (nw 0) (nw 1)) o1 l1 nw x1 ps (tmE tm (nw 0) (nw 1) (ntm (nw 0) (nw 1))) d1 e1 pt)) [0, 1, 2, 3, 4, 5, 6, 7] (by decide) rfl).weaken (B := fun _ => True) (fun _ _ _ _ => trivial)
            have hFc := va_free (wc := (MW cy a0 a1 a2 a3 a4 a5 a6 a7 ed (ntm (nw 0) (nw 1)) o1 l1 nw x1 ps (tmE tm (nw 0) (nw 1) (ntm (nw 0) (nw 1))) d1 e1 pt)) hD hS hA [0, 1, 2, 3, 4, 5, 6, 7] rfl
            refine z_callE (A := A) (va_runV (As := [.int (iZ (stT (nw 0) (nw 1) (i - 1)))]) (rest := []) ⟨hx, hb, hml, hown, hts⟩ (c_X7_further lau G cy a0 a1 a2 a3 a4 a5 a6 a7 H.size ed (ntm (nw 0) (nw 1)) o1 l1 nw x1 ps (tmE tm (nw 0) (nw 1) (ntm (nw 0) (nw 1))) d1 e1 pt (stS (nw 0) (nw 1) (i - 1)).1.1 (stS (nw 0) (nw 1) (i - 1)).1.2 (stS (nw 0) (nw 1) (i - 1)).2.1 (stS (nw 0) (nw 1) (i - 1)).2.2 (stT (nw 0) (nw 1) (i - 1)) (i5.1) (by first | assumption | omega) (i5.2) (by first | assumption | omega) (by first | assumption | omega) (by first | assumption | omega) (i6) (i7) (by first | assumption | omega)) (cwV 1 hts gX7_loadStandard_X7_further rfl rfl rfl (by decide +kernel) ⟨Nat.le_of_ble_eq_true rfl, Nat.le_of_ble_eq_true rfl⟩) ⟨P1_blind, va_recv hK hP (ci := 6) (q0 := 0) rfl rfl, P1_mk hKK (⟨rfl, hPc, hDc⟩)⟩ rfl rfl hl.1 rfl (lv_room (Nat.le_of_ble_eq_true rfl)) dX7_loadStandard_100 ⟨(show 0 + 0 ≤ 0 by omega), (show 0 + 0 ≤ 0 by omega)⟩) hS.2.2 hFc (fun v H1 locs1 hR hL1 => ?_)
            obtain ⟨ol2_100, nl2_100, nx2_100, od2_100, ne2_100, rfl, hq100, hP1, hD1, hF1⟩ := hR
            obtain ⟨hP, hD⟩ := va_join (wr := []) (w1 := (MW cy a0 a1 a2 a3 a4 a5 a6 a7 ed (ntm (nw 0) (nw 1)) ol2_100 nl2_100 nw nx2_100 ps (tmE tm (nw 0) (nw 1) (ntm (nw 0) (nw 1))) od2_100 ne2_100 pt)) hP hD [0, 1, 2, 3, 4, 5, 6, 7] [] rfl rfl (by decide) (by decide) hF1.2 hFc hP1 hD1
            have hS : va_S A s.heap H1 locs1 := Fh.S ((Fh.of hS).tr hF1 (fun q _ h => hFc q h)) hL1
            clear hPc hDc hFc hP1 hD1 hF1 hL1
            generalize H1 = H at hP hS ⊢
            have hP : va_P G vwCl (MW cy a0 a1 a2 a3 a4 a5 a6 a7 ed (ntm (nw 0) (nw 1)) ol2_100 nl2_100 nw nx2_100 ps (tmE tm (nw 0) (nw 1) (ntm (nw 0) (nw 1))) od2_100 ne2_100 pt) H := hP
            have hD : va_D A (MW cy a0 a1 a2 a3 a4 a5 a6 a7 ed (ntm (nw 0) (nw 1)) ol2_100 nl2_100 nw nx2_100 ps (tmE tm (nw 0) (nw 1) (ntm (nw 0) (nw 1))) od2_100 ne2_100 pt) := hD
            refine W.eq (g2 := F0 mt 103 ls [.int (iZ (bv (((stS (nw 0) (nw 1) (i - 1)).1.2 * (stT (nw 0) (nw 1) (i - 1)) + (stS (nw 0) (nw 1) (i - 1)).2.2) ≤ 60)))]) rfl ?_
            refine z_ifB_ne (tgt := 109) hx hb dX7_loadStandard_103 (by decide) (fun c_103 => ?_) (fun c_103 => ?_)
            · refine lv_iinc (v := iZ (i + 1)) (lv' := [(2, .int (iZ (i + 1))), (0, .ref a0), (1, .int (iZ kk))]) hx hb dX7_loadStandard_109 hl (k := 2) rfl (iZ_add _ _) (by decide) rfl (fun ls hl => ?_)
              refine lv_goto (tgt := 70) hx hb dX7_loadStandard_112 (by decide) ?_
              exact ih_70 (i + 1) ol2_100 nl2_100 nx2_100 od2_100 ne2_100 _ _ ⟨⟨(by omega), (fun _ => by rw [show i + 1 - 1 = i by omega, hst2]; exact (hq100 c_103).1), (fun q => by omega), (by rw [show i + 1 - 1 = i by omega, hst2]; have e := hq100 c_103; have e4 := e.2.2.2.1; have hnn := Int.mul_nonneg (show 0 ≤ (stS (nw 0) (nw 1) (i - 1)).1.2 by omega) (show 0 ≤ stT (nw 0) (nw 1) (i - 1) by omega); exact ⟨e.2.2.2.1, e.2.1, by omega, by omega, by omega, by omega⟩), (by rw [show i + 1 - 1 = i by omega, hst2]; exact ⟨(hq100 c_103).1.2.2.1, i5.1⟩), (by rw [show i + 1 - 1 = i by omega, hst2]; exact (hq100 c_103).2.2.2.2), (by rw [show i + 1 - 1 = i by omega, hst2]; exact (hq100 c_103).2.2.1), (fun j q1 q2 => by rcases (show j < i ∨ j = i by omega) with q | q; (· exact i8 j q1 q); (· rw [q, hst2]; exact c_103))⟩, hP, hD, Fh.of hS⟩ hS.2.2 ⟨by omega, by omega⟩ _ (lv_sub hl [1, 2, 0] rfl)
            · refine lv_bipush (v := iZ (-2)) hx hb dX7_loadStandard_106 (by decide +kernel) ?_
              exact z_iretE hx hb hr hlocks dX7_loadStandard_108 hS.2.2 ⟨(show 0 ≤ 0 by omega), (show 0 ≤ 0 by omega)⟩ ⟨ol2_100, nl2_100, nx2_100, od2_100, ne2_100, (rfl), (trivial), (hP), (hD), Fh.of hS⟩
          · refine lv_aload_n hx hb dX7_loadStandard_81 rfl (lv_at hl 0 rfl) ?_
            refine va_get (D := G) (ci := 6) (v := .ref a4) (C := RX7) (T := TX7) (N := 11) hx hb hts (by decide +kernel) hown hK hP 0 rfl rfl 4 (by decide) (hts (.fieldLink RX7 19 "SturmianWordsModel" "terms" "[I") (by decide +kernel)) (fun _ h9 => h9) rfl dX7_loadStandard_82 ?_
            refine lv_iconst (v := iZ 0) hx hb dX7_loadStandard_85 rfl ?_
            refine z_iald (D := G) hx hb hK hP 4 0 rfl rfl (by omega) dX7_loadStandard_86 ?_
            refine lv_iconst (v := iZ 1) hx hb dX7_loadStandard_87 rfl ?_
            refine z_isub hx hb dX7_loadStandard_88 ?_
            refine z_top (b := (stT (nw 0) (nw 1) (i - 1))) (by unfold tmE stT; rw [if_pos (by omega), show i - 1 = 0 by omega, if_pos rfl]) ?_
            refine lv_goto (tgt := 100) hx hb dX7_loadStandard_89 (by decide) ?_
            have hPc := hP.sub (ws' := (MW cy a0 a1 a2 a3 a4 a5 a6 a7 ed (ntm (nw 0) (nw 1)) o1 l1 nw x1 ps (tmE tm (nw 0) (nw 1) (ntm (nw 0) (nw 1))) d1 e1 pt)) [0, 1, 2, 3, 4, 5, 6, 7] rfl
            have hDc := (hD.sub (ws' := (MW cy a0 a1 a2 a3 a4 a5 a6 a7 ed (ntm (nw 0) (nw 1)) o1 l1 nw x1 ps (tmE tm (nw 0) (nw 1) (ntm (nw 0) (nw 1))) d1 e1 pt)) [0, 1, 2, 3, 4, 5, 6, 7] (by decide) rfl).weaken (B := fun _ => True) (fun _ _ _ _ => trivial)
            have hFc := va_free (wc := (MW cy a0 a1 a2 a3 a4 a5 a6 a7 ed (ntm (nw 0) (nw 1)) o1 l1 nw x1 ps (tmE tm (nw 0) (nw 1) (ntm (nw 0) (nw 1))) d1 e1 pt)) hD hS hA [0, 1, 2, 3, 4, 5, 6, 7] rfl
            refine z_callE (A := A) (va_runV (As := [.int (iZ (stT (nw 0) (nw 1) (i - 1)))]) (rest := []) ⟨hx, hb, hml, hown, hts⟩ (c_X7_further lau G cy a0 a1 a2 a3 a4 a5 a6 a7 H.size ed (ntm (nw 0) (nw 1)) o1 l1 nw x1 ps (tmE tm (nw 0) (nw 1) (ntm (nw 0) (nw 1))) d1 e1 pt (stS (nw 0) (nw 1) (i - 1)).1.1 (stS (nw 0) (nw 1) (i - 1)).1.2 (stS (nw 0) (nw 1) (i - 1)).2.1 (stS (nw 0) (nw 1) (i - 1)).2.2 (stT (nw 0) (nw 1) (i - 1)) (i5.1) (by first | assumption | omega) (i5.2) (by first | assumption | omega) (by first | assumption | omega) (by first | assumption | omega) (i6) (i7) (by first | assumption | omega)) (cwV 1 hts gX7_loadStandard_X7_further rfl rfl rfl (by decide +kernel) ⟨Nat.le_of_ble_eq_true rfl, Nat.le_of_ble_eq_true rfl⟩) ⟨P1_blind, va_recv hK hP (ci := 6) (q0 := 0) rfl rfl, P1_mk hKK (⟨rfl, hPc, hDc⟩)⟩ rfl rfl hl.1 rfl (lv_room (Nat.le_of_ble_eq_true rfl)) dX7_loadStandard_100 ⟨(show 0 + 0 ≤ 0 by omega), (show 0 + 0 ≤ 0 by omega)⟩) hS.2.2 hFc (fun v H1 locs1 hR hL1 => ?_)
            obtain ⟨ol2_100, nl2_100, nx2_100, od2_100, ne2_100, rfl, hq100, hP1, hD1, hF1⟩ := hR
            obtain ⟨hP, hD⟩ := va_join (wr := []) (w1 := (MW cy a0 a1 a2 a3 a4 a5 a6 a7 ed (ntm (nw 0) (nw 1)) ol2_100 nl2_100 nw nx2_100 ps (tmE tm (nw 0) (nw 1) (ntm (nw 0) (nw 1))) od2_100 ne2_100 pt)) hP hD [0, 1, 2, 3, 4, 5, 6, 7] [] rfl rfl (by decide) (by decide) hF1.2 hFc hP1 hD1
            have hS : va_S A s.heap H1 locs1 := Fh.S ((Fh.of hS).tr hF1 (fun q _ h => hFc q h)) hL1
            clear hPc hDc hFc hP1 hD1 hF1 hL1
            generalize H1 = H at hP hS ⊢
            have hP : va_P G vwCl (MW cy a0 a1 a2 a3 a4 a5 a6 a7 ed (ntm (nw 0) (nw 1)) ol2_100 nl2_100 nw nx2_100 ps (tmE tm (nw 0) (nw 1) (ntm (nw 0) (nw 1))) od2_100 ne2_100 pt) H := hP
            have hD : va_D A (MW cy a0 a1 a2 a3 a4 a5 a6 a7 ed (ntm (nw 0) (nw 1)) ol2_100 nl2_100 nw nx2_100 ps (tmE tm (nw 0) (nw 1) (ntm (nw 0) (nw 1))) od2_100 ne2_100 pt) := hD
            refine W.eq (g2 := F0 mt 103 ls [.int (iZ (bv (((stS (nw 0) (nw 1) (i - 1)).1.2 * (stT (nw 0) (nw 1) (i - 1)) + (stS (nw 0) (nw 1) (i - 1)).2.2) ≤ 60)))]) rfl ?_
            refine z_ifB_ne (tgt := 109) hx hb dX7_loadStandard_103 (by decide) (fun c_103 => ?_) (fun c_103 => ?_)
            · refine lv_iinc (v := iZ (i + 1)) (lv' := [(2, .int (iZ (i + 1))), (0, .ref a0), (1, .int (iZ kk))]) hx hb dX7_loadStandard_109 hl (k := 2) rfl (iZ_add _ _) (by decide) rfl (fun ls hl => ?_)
              refine lv_goto (tgt := 70) hx hb dX7_loadStandard_112 (by decide) ?_
              exact ih_70 (i + 1) ol2_100 nl2_100 nx2_100 od2_100 ne2_100 _ _ ⟨⟨(by omega), (fun _ => by rw [show i + 1 - 1 = i by omega, hst2]; exact (hq100 c_103).1), (fun q => by omega), (by rw [show i + 1 - 1 = i by omega, hst2]; have e := hq100 c_103; have e4 := e.2.2.2.1; have hnn := Int.mul_nonneg (show 0 ≤ (stS (nw 0) (nw 1) (i - 1)).1.2 by omega) (show 0 ≤ stT (nw 0) (nw 1) (i - 1) by omega); exact ⟨e.2.2.2.1, e.2.1, by omega, by omega, by omega, by omega⟩), (by rw [show i + 1 - 1 = i by omega, hst2]; exact ⟨(hq100 c_103).1.2.2.1, i5.1⟩), (by rw [show i + 1 - 1 = i by omega, hst2]; exact (hq100 c_103).2.2.2.2), (by rw [show i + 1 - 1 = i by omega, hst2]; exact (hq100 c_103).2.2.1), (fun j q1 q2 => by rcases (show j < i ∨ j = i by omega) with q | q; (· exact i8 j q1 q); (· rw [q, hst2]; exact c_103))⟩, hP, hD, Fh.of hS⟩ hS.2.2 ⟨by omega, by omega⟩ _ (lv_sub hl [1, 2, 0] rfl)
            · refine lv_bipush (v := iZ (-2)) hx hb dX7_loadStandard_106 (by decide +kernel) ?_
              exact z_iretE hx hb hr hlocks dX7_loadStandard_108 hS.2.2 ⟨(show 0 ≤ 0 by omega), (show 0 ≤ 0 by omega)⟩ ⟨ol2_100, nl2_100, nx2_100, od2_100, ne2_100, (rfl), (trivial), (hP), (hD), Fh.of hS⟩
    · exfalso; omega
  · exfalso; omega
set_option maxHeartbeats 4000000 in
set_option maxRecDepth 100000 in
theorem c_X7_loadStandard (lau : Launch) (G : va_G) (cy : Nat → ClassId) (a0 a1 a2 a3 a4 a5 a6 a7 : Nat) (sz : Nat) (ed tc ol nl : Int) (nw nx ps tm od ne pt : Int → Int) (kk : Int) (he : 0 ≤ ed ∧ ed ≤ 6) (hQ : 0 ≤ nw 0 ∧ nw 0 ≤ nw 1 ∧ 1 ≤ nw 1 ∧ nw 1 ≤ 1000) (h1 : -1 ≤ kk ∧ kk ≤ ntm (nw 0) (nw 1) ∧ kk < 2147483648) (h4 : ∀ j, 0 ≤ j → j ≤ kk → (stS (nw 0) (nw 1) j).1.2 ≤ 60) : Met lau yX7_loadStandard wsX7_loadStandard ({ frames := 3, cells := 0, slots := 0, locals := 65 }) (P1 G cy [.ref a0, .int (iZ kk)] (fun H => H.size = sz ∧ va_P G vwCl (MW cy a0 a1 a2 a3 a4 a5 a6 a7 ed tc ol nl nw nx ps tm od ne pt) H ∧ va_D (fun _ => True) (MW cy a0 a1 a2 a3 a4 a5 a6 a7 ed tc ol nl nw nx ps tm od ne pt))) (Q1 (fun rv H0 H1 => ∃ (ol2 nl2 : Int) (nx2 od2 ne2 : Int → Int), rv = some (.int (iZ ((stW (nw 0) (nw 1) kk).2))) ∧ (RowIs nx2 (stW (nw 0) (nw 1) kk).1 (stW (nw 0) (nw 1) kk).2) ∧ va_P G vwCl (MW cy a0 a1 a2 a3 a4 a5 a6 a7 (svE ed) (ntm (nw 0) (nw 1)) ol2 nl2 (tkW nx2 nw) (tkX nx2 nw) (svP ps nw ed) (tmE tm (nw 0) (nw 1) (ntm (nw 0) (nw 1))) od2 ne2 pt) H1 ∧ va_D (va_A (MW cy a0 a1 a2 a3 a4 a5 a6 a7 ed tc ol nl nw nx ps tm od ne pt) sz) (MW cy a0 a1 a2 a3 a4 a5 a6 a7 (svE ed) (ntm (nw 0) (nw 1)) ol2 nl2 (tkW nx2 nw) (tkX nx2 nw) (svP ps nw ed) (tmE tm (nw 0) (nw 1) (ntm (nw 0) (nw 1))) od2 ne2 pt) ∧ Fh (va_A (MW cy a0 a1 a2 a3 a4 a5 a6 a7 ed tc ol nl nw nx ps tm od ne pt) sz) H0 H1)) 0 0 (va_A (MW cy a0 a1 a2 a3 a4 a5 a6 a7 ed tc ol nl nw nx ps tm od ne pt) sz) := by
  refine z_head (lv := [(0, .ref a0), (1, .int (iZ kk))]) RX7 (by decide) rfl rfl (Nat.le_of_ble_eq_true rfl) rfl ?_
  intro pr ev s mt below meth cd ls hx hb hr hlocks hml hown hname hts hKK hP hl
  have hK := hKK.1
  obtain ⟨hsz, hP, hD0⟩ := hP
  subst hsz
  have hD := hD0.self (sz := s.heap.size)
  generalize hAe : va_A (MW cy a0 a1 a2 a3 a4 a5 a6 a7 ed tc ol nl nw nx ps tm od ne pt) s.heap.size = A at hD ⊢
  have hA : ∀ q : Nat, s.heap.size ≤ q → A q := fun q h => by rw [← hAe]; exact Or.inr h
  have hS : va_S A s.heap s.heap [] := va_S.rf
  have hP : va_P G vwCl (MW cy a0 a1 a2 a3 a4 a5 a6 a7 ed tc ol nl nw nx ps tm od ne pt) s.heap := hP
  refine lv_iload_n hx hb dX7_loadStandard_0 rfl (lv_at hl 1 rfl) ?_
  refine lv_iconst (v := iZ (-1)) hx hb dX7_loadStandard_1 rfl ?_
  refine z_icmp_ge (tgt := 7) hx hb dX7_loadStandard_2 (by decide) (by omega) (fun c_2 => ?_) (fun c_2 => ?_)
  · refine lv_aload_n hx hb dX7_loadStandard_7 rfl (lv_at hl 0 rfl) ?_
    have hPc := hP.sub (ws' := (MW cy a0 a1 a2 a3 a4 a5 a6 a7 ed tc ol nl nw nx ps tm od ne pt)) [0, 1, 2, 3, 4, 5, 6, 7] rfl
    have hDc := (hD.sub (ws' := (MW cy a0 a1 a2 a3 a4 a5 a6 a7 ed tc ol nl nw nx ps tm od ne pt)) [0, 1, 2, 3, 4, 5, 6, 7] (by decide) rfl).weaken (B := fun _ => True) (fun _ _ _ _ => trivial)
    have hFc := va_free (wc := (MW cy a0 a1 a2 a3 a4 a5 a6 a7 ed tc ol nl nw nx ps tm od ne pt)) hD hS hA [0, 1, 2, 3, 4, 5, 6, 7] rfl
    refine z_callE (A := A) (va_runV (As := []) (rest := []) ⟨hx, hb, hml, hown, hts⟩ (c_X7_expand lau G cy a0 a1 a2 a3 a4 a5 a6 a7 s.heap.size ed tc ol nl nw nx ps tm od ne pt (by first | assumption | omega)) (cwV 0 hts gX7_loadStandard_X7_expand rfl rfl rfl (by decide +kernel) ⟨Nat.le_of_ble_eq_true rfl, Nat.le_of_ble_eq_true rfl⟩) ⟨P1_blind, va_recv hK hP (ci := 6) (q0 := 0) rfl rfl, P1_mk hKK (⟨rfl, hPc, hDc⟩)⟩ rfl rfl hl.1 rfl (lv_room (Nat.le_of_ble_eq_true rfl)) dX7_loadStandard_8 ⟨(show 0 + 0 ≤ 0 by omega), (show 0 + 0 ≤ 0 by omega)⟩) hS.2.2 hFc (fun v H1 locs1 hR hL1 => ?_)
    obtain ⟨rfl, hq8, hP1, hD1, hF1⟩ := hR
    obtain ⟨hP, hD⟩ := va_join (wr := []) (w1 := (MW cy a0 a1 a2 a3 a4 a5 a6 a7 ed (ntm (nw 0) (nw 1)) ol nl nw nx ps (tmE tm (nw 0) (nw 1) (ntm (nw 0) (nw 1))) od ne pt)) hP hD [0, 1, 2, 3, 4, 5, 6, 7] [] rfl rfl (by decide) (by decide) hF1.2 hFc hP1 hD1
    have hS : va_S A s.heap H1 locs1 := Fh.S ((Fh.of hS).tr hF1 (fun q _ h => hFc q h)) hL1
    clear hPc hDc hFc hP1 hD1 hF1 hL1
    generalize H1 = H at hP hS ⊢
    have hP : va_P G vwCl (MW cy a0 a1 a2 a3 a4 a5 a6 a7 ed (ntm (nw 0) (nw 1)) ol nl nw nx ps (tmE tm (nw 0) (nw 1) (ntm (nw 0) (nw 1))) od ne pt) H := hP
    have hD : va_D A (MW cy a0 a1 a2 a3 a4 a5 a6 a7 ed (ntm (nw 0) (nw 1)) ol nl nw nx ps (tmE tm (nw 0) (nw 1) (ntm (nw 0) (nw 1))) od ne pt) := hD
    refine W.eq (g2 := F0 mt 11 ls []) rfl ?_
    refine lv_iload_n hx hb dX7_loadStandard_11 rfl (lv_at hl 1 rfl) ?_
    refine lv_aload_n hx hb dX7_loadStandard_12 rfl (lv_at hl 0 rfl) ?_
    refine va_get (D := G) (ci := 6) (v := .int (iZ (ntm (nw 0) (nw 1)))) (C := RX7) (T := TX7) (N := 11) hx hb hts (by decide +kernel) hown hK hP 0 rfl rfl 5 (by decide) (hts (.fieldLink RX7 51 "SturmianWordsModel" "termCount" "I") (by decide +kernel)) (fun _ h9 => h9) rfl dX7_loadStandard_13 ?_
    refine z_icmp_le (tgt := 22) hx hb dX7_loadStandard_16 (by decide) (by omega) (fun c_16 => ?_) (fun c_16 => ?_)
    · have hxq := hq8
      refine lv_aload_n hx hb dX7_loadStandard_22 rfl (lv_at hl 0 rfl) ?_
      refine va_get (D := G) (ci := 6) (v := .ref a5) (C := RX7) (T := TX7) (N := 11) hx hb hts (by decide +kernel) hown hK hP 0 rfl rfl 6 (by decide) (hts (.fieldLink RX7 22 "SturmianWordsModel" "older" "[I") (by decide +kernel)) (fun _ h9 => h9) rfl dX7_loadStandard_23 ?_
      refine lv_iconst (v := iZ 0) hx hb dX7_loadStandard_26 rfl ?_
      refine lv_iconst (v := iZ 1) hx hb dX7_loadStandard_27 rfl ?_
      refine z_iast (D := G) hx hb hK hP hD hS 5 0 rfl rfl (by omega) dX7_loadStandard_28 (fun H locs hP hD hS => ?_)
      have hP : va_P G vwCl (MW cy a0 a1 a2 a3 a4 a5 a6 a7 ed (ntm (nw 0) (nw 1)) ol nl nw nx ps (tmE tm (nw 0) (nw 1) (ntm (nw 0) (nw 1))) (up1 od 0 1) ne pt) H := hP
      have hD : va_D A (MW cy a0 a1 a2 a3 a4 a5 a6 a7 ed (ntm (nw 0) (nw 1)) ol nl nw nx ps (tmE tm (nw 0) (nw 1) (ntm (nw 0) (nw 1))) (up1 od 0 1) ne pt) := hD
      refine lv_aload_n hx hb dX7_loadStandard_29 rfl (lv_at hl 0 rfl) ?_
      refine lv_iconst (v := iZ 1) hx hb dX7_loadStandard_30 rfl ?_
      refine va_put (D := G) (ci := 6) (v := .int (iZ 1)) (ty := .int) (C := RX7) (T := TX7) (N := 11) hx hb hts (by decide +kernel) tyX7 tyX7_ok nmX7 hown hK hP hD hS 0 rfl rfl 7 (by decide) (hts (.fieldLink RX7 79 "SturmianWordsModel" "olderLength" "I") (by decide +kernel)) (fun _ h9 => h9) rfl (by decide +kernel) rfl rfl (Nat.le_of_ble_eq_true rfl) dX7_loadStandard_31 (fun H locs hP hD hS => ?_)
      have hP : va_P G vwCl (MW cy a0 a1 a2 a3 a4 a5 a6 a7 ed (ntm (nw 0) (nw 1)) 1 nl nw nx ps (tmE tm (nw 0) (nw 1) (ntm (nw 0) (nw 1))) (up1 od 0 1) ne pt) H := hP
      have hD : va_D A (MW cy a0 a1 a2 a3 a4 a5 a6 a7 ed (ntm (nw 0) (nw 1)) 1 nl nw nx ps (tmE tm (nw 0) (nw 1) (ntm (nw 0) (nw 1))) (up1 od 0 1) ne pt) := hD
      refine lv_aload_n hx hb dX7_loadStandard_34 rfl (lv_at hl 0 rfl) ?_
      refine va_get (D := G) (ci := 6) (v := .ref a6) (C := RX7) (T := TX7) (N := 11) hx hb hts (by decide +kernel) hown hK hP 0 rfl rfl 8 (by decide) (hts (.fieldLink RX7 25 "SturmianWordsModel" "newer" "[I") (by decide +kernel)) (fun _ h9 => h9) rfl dX7_loadStandard_35 ?_
      refine lv_iconst (v := iZ 0) hx hb dX7_loadStandard_38 rfl ?_
      refine lv_iconst (v := iZ 0) hx hb dX7_loadStandard_39 rfl ?_
      refine z_iast (D := G) hx hb hK hP hD hS 6 0 rfl rfl (by omega) dX7_loadStandard_40 (fun H locs hP hD hS => ?_)
      have hP : va_P G vwCl (MW cy a0 a1 a2 a3 a4 a5 a6 a7 ed (ntm (nw 0) (nw 1)) 1 nl nw nx ps (tmE tm (nw 0) (nw 1) (ntm (nw 0) (nw 1))) (up1 od 0 1) (up1 ne 0 0) pt) H := hP
      have hD : va_D A (MW cy a0 a1 a2 a3 a4 a5 a6 a7 ed (ntm (nw 0) (nw 1)) 1 nl nw nx ps (tmE tm (nw 0) (nw 1) (ntm (nw 0) (nw 1))) (up1 od 0 1) (up1 ne 0 0) pt) := hD
      refine lv_aload_n hx hb dX7_loadStandard_41 rfl (lv_at hl 0 rfl) ?_
      refine lv_iconst (v := iZ 1) hx hb dX7_loadStandard_42 rfl ?_
      refine va_put (D := G) (ci := 6) (v := .int (iZ 1)) (ty := .int) (C := RX7) (T := TX7) (N := 11) hx hb hts (by decide +kernel) tyX7 tyX7_ok nmX7 hown hK hP hD hS 0 rfl rfl 9 (by decide) (hts (.fieldLink RX7 72 "SturmianWordsModel" "newerLength" "I") (by decide +kernel)) (fun _ h9 => h9) rfl (by decide +kernel) rfl rfl (Nat.le_of_ble_eq_true rfl) dX7_loadStandard_43 (fun H locs hP hD hS => ?_)
      have hP : va_P G vwCl (MW cy a0 a1 a2 a3 a4 a5 a6 a7 ed (ntm (nw 0) (nw 1)) 1 1 nw nx ps (tmE tm (nw 0) (nw 1) (ntm (nw 0) (nw 1))) (up1 od 0 1) (up1 ne 0 0) pt) H := hP
      have hD : va_D A (MW cy a0 a1 a2 a3 a4 a5 a6 a7 ed (ntm (nw 0) (nw 1)) 1 1 nw nx ps (tmE tm (nw 0) (nw 1) (ntm (nw 0) (nw 1))) (up1 od 0 1) (up1 ne 0 0) pt) := hD
      refine lv_aload_n hx hb dX7_loadStandard_46 rfl (lv_at hl 0 rfl) ?_
      refine va_get (D := G) (ci := 6) (v := .ref a2) (C := RX7) (T := TX7) (N := 11) hx hb hts (by decide +kernel) hown hK hP 0 rfl rfl 1 (by decide) (hts (.fieldLink RX7 13 "SturmianWordsModel" "next" "[I") (by decide +kernel)) (fun _ h9 => h9) rfl dX7_loadStandard_47 ?_
      refine lv_iconst (v := iZ 3) hx hb dX7_loadStandard_50 rfl ?_
      refine lv_iconst (v := iZ 1) hx hb dX7_loadStandard_51 rfl ?_
      refine z_iast (D := G) hx hb hK hP hD hS 2 0 rfl rfl (by omega) dX7_loadStandard_52 (fun H locs hP hD hS => ?_)
      have hP : va_P G vwCl (MW cy a0 a1 a2 a3 a4 a5 a6 a7 ed (ntm (nw 0) (nw 1)) 1 1 nw (up1 nx 3 1) ps (tmE tm (nw 0) (nw 1) (ntm (nw 0) (nw 1))) (up1 od 0 1) (up1 ne 0 0) pt) H := hP
      have hD : va_D A (MW cy a0 a1 a2 a3 a4 a5 a6 a7 ed (ntm (nw 0) (nw 1)) 1 1 nw (up1 nx 3 1) ps (tmE tm (nw 0) (nw 1) (ntm (nw 0) (nw 1))) (up1 od 0 1) (up1 ne 0 0) pt) := hD
      refine lv_aload_n hx hb dX7_loadStandard_53 rfl (lv_at hl 0 rfl) ?_
      refine va_get (D := G) (ci := 6) (v := .ref a2) (C := RX7) (T := TX7) (N := 11) hx hb hts (by decide +kernel) hown hK hP 0 rfl rfl 1 (by decide) (hts (.fieldLink RX7 13 "SturmianWordsModel" "next" "[I") (by decide +kernel)) (fun _ h9 => h9) rfl dX7_loadStandard_54 ?_
      refine lv_iconst (v := iZ 4) hx hb dX7_loadStandard_57 rfl ?_
      refine lv_iload_n hx hb dX7_loadStandard_58 rfl (lv_at hl 1 rfl) ?_
      refine z_if_ge (tgt := 66) hx hb dX7_loadStandard_59 (by decide) (by omega) (fun c_59 => ?_) (fun c_59 => ?_)
      · refine lv_iconst (v := iZ 0) hx hb dX7_loadStandard_66 rfl ?_
        refine z_iast (D := G) hx hb hK hP hD hS 2 0 rfl rfl (by omega) dX7_loadStandard_67 (fun H locs hP hD hS => ?_)
        have hP : va_P G vwCl (MW cy a0 a1 a2 a3 a4 a5 a6 a7 ed (ntm (nw 0) (nw 1)) 1 1 nw (up1 (up1 nx 3 1) 4 0) ps (tmE tm (nw 0) (nw 1) (ntm (nw 0) (nw 1))) (up1 od 0 1) (up1 ne 0 0) pt) H := hP
        have hD : va_D A (MW cy a0 a1 a2 a3 a4 a5 a6 a7 ed (ntm (nw 0) (nw 1)) 1 1 nw (up1 (up1 nx 3 1) 4 0) ps (tmE tm (nw 0) (nw 1) (ntm (nw 0) (nw 1))) (up1 od 0 1) (up1 ne 0 0) pt) := hD
        refine lv_iconst (v := iZ 1) hx hb dX7_loadStandard_68 rfl ?_
        refine lv_istore_n (lv' := [(2, .int (iZ 1)), (0, .ref a0), (1, .int (iZ kk))]) hx hb dX7_loadStandard_69 rfl hl (by decide) rfl (fun ls hl => ?_)
        refine z_loopH6 (nL := 3) (A := A) (fun (i : Int) (o1 : Int) (l1 : Int) (x1 : Int → Int) (d1 : Int → Int) (e1 : Int → Int) => [(0, .ref a0), (1, .int (iZ kk)), (2, .int (iZ i))]) (fun (i : Int) (o1 : Int) (l1 : Int) (x1 : Int → Int) (d1 : Int → Int) (e1 : Int → Int) (H : Heap) => ((1 ≤ i ∧ (i ≤ kk + 1 ∨ i = 1)) ∧ (0 ≤ kk → RowIs x1 (stS (nw 0) (nw 1) (i - 1)).1.1 (stS (nw 0) (nw 1) (i - 1)).1.2) ∧ (kk < 0 → RowIs x1 1 1 ∧ i = 1) ∧ (l1 = (stS (nw 0) (nw 1) (i - 1)).1.2 ∧ o1 = (stS (nw 0) (nw 1) (i - 1)).2.2 ∧ 1 ≤ l1 ∧ l1 ≤ 60 ∧ 1 ≤ o1 ∧ o1 ≤ 60) ∧ ((0 ≤ (stS (nw 0) (nw 1) (i - 1)).1.1 ∧ (stS (nw 0) (nw 1) (i - 1)).1.1 < pw (stS (nw 0) (nw 1) (i - 1)).1.2) ∧ (0 ≤ (stS (nw 0) (nw 1) (i - 1)).2.1 ∧ (stS (nw 0) (nw 1) (i - 1)).2.1 < pw (stS (nw 0) (nw 1) (i - 1)).2.2)) ∧ (∀ j, 0 ≤ j → j < (stS (nw 0) (nw 1) (i - 1)).1.2 → e1 j = ltr (stS (nw 0) (nw 1) (i - 1)).1.1 (stS (nw 0) (nw 1) (i - 1)).1.2 j) ∧ (∀ j, 0 ≤ j → j < (stS (nw 0) (nw 1) (i - 1)).2.2 → d1 j = ltr (stS (nw 0) (nw 1) (i - 1)).2.1 (stS (nw 0) (nw 1) (i - 1)).2.2 j) ∧ (∀ j, 0 ≤ j → j < i → (stS (nw 0) (nw 1) j).1.2 ≤ 60)) ∧ va_P G vwCl (MW cy a0 a1 a2 a3 a4 a5 a6 a7 ed (ntm (nw 0) (nw 1)) o1 l1 nw x1 ps (tmE tm (nw 0) (nw 1) (ntm (nw 0) (nw 1))) d1 e1 pt) H ∧ va_D A (MW cy a0 a1 a2 a3 a4 a5 a6 a7 ed (ntm (nw 0) (nw 1)) o1 l1 nw x1 ps (tmE tm (nw 0) (nw 1) (ntm (nw 0) (nw 1))) d1 e1 pt) ∧ Fh A s.heap H) (fun (i : Int) (o1 : Int) (l1 : Int) (x1 : Int → Int) (d1 : Int → Int) (e1 : Int → Int) => kk + 1 - i) (fun (i : Int) (o1 : Int) (l1 : Int) (x1 : Int → Int) (d1 : Int → Int) (e1 : Int → Int) => 0) (fun (i : Int) (o1 : Int) (l1 : Int) (x1 : Int → Int) (d1 : Int → Int) (e1 : Int → Int) => 0) (a1 := 1) (a2 := 1) (a3 := 1) (a4 := (up1 (up1 nx 3 1) 4 0)) (a5 := (up1 od 0 1)) (a6 := (up1 ne 0 0)) ⟨⟨(by omega), (fun _ => by rw [show (1 : Int) - 1 = 0 by decide, stS_0]; exact lsd_0), (fun q => by omega), (by rw [show (1 : Int) - 1 = 0 by decide, stS_0]; exact ⟨rfl, rfl, by decide, by decide, by decide, by decide⟩), (by rw [show (1 : Int) - 1 = 0 by decide, stS_0]; exact ⟨⟨by decide, by decide⟩, by decide, by decide⟩), (by rw [show (1 : Int) - 1 = 0 by decide, stS_0]; exact fun j q1 q2 => (by have q2 : j < 1 := q2; rw [show j = 0 by omega, up1_s]; rfl)), (by rw [show (1 : Int) - 1 = 0 by decide, stS_0]; exact fun j q1 q2 => (by have q2 : j < 1 := q2; rw [show j = 0 by omega, up1_s]; rfl)), (fun j q1 q2 => by rw [show j = 0 by omega, stS_0]; decide)⟩, hP, hD, Fh.of hS⟩ hS.2.2 (lv_sub hl [1, 2, 0] rfl) ?_
        rintro i o1 l1 x1 d1 e1 H locs ⟨⟨i1, i2, i3, i4, i5, i6, i7, i8⟩, hP, hD, hFr⟩ hLc ih_70 ls hl
        have hS : va_S A s.heap H locs := Fh.S hFr hLc
        refine lv_iload_n hx hb dX7_loadStandard_70 rfl (lv_at hl 2 rfl) ?_
        refine lv_iload_n hx hb dX7_loadStandard_71 rfl (lv_at hl 1 rfl) ?_
        refine z_icmp_gt (tgt := 115) hx hb dX7_loadStandard_72 (by decide) (by omega) (fun c_72 => ?_) (fun c_72 => ?_)
        · refine lv_aload_n hx hb dX7_loadStandard_115 rfl (lv_at hl 0 rfl) ?_
          have hPc := hP.sub (ws' := (MW cy a0 a1 a2 a3 a4 a5 a6 a7 ed (ntm (nw 0) (nw 1)) o1 l1 nw x1 ps (tmE tm (nw 0) (nw 1) (ntm (nw 0) (nw 1))) d1 e1 pt)) [0, 1, 2, 3, 4, 5, 6, 7] rfl
          have hDc := (hD.sub (ws' := (MW cy a0 a1 a2 a3 a4 a5 a6 a7 ed (ntm (nw 0) (nw 1)) o1 l1 nw x1 ps (tmE tm (nw 0) (nw 1) (ntm (nw 0) (nw 1))) d1 e1 pt)) [0, 1, 2, 3, 4, 5, 6, 7] (by decide) rfl).weaken (B := fun _ => True) (fun _ _ _ _ => trivial)
          have hFc := va_free (wc := (MW cy a0 a1 a2 a3 a4 a5 a6 a7 ed (ntm (nw 0) (nw 1)) o1 l1 nw x1 ps (tmE tm (nw 0) (nw 1) (ntm (nw 0) (nw 1))) d1 e1 pt)) hD hS hA [0, 1, 2, 3, 4, 5, 6, 7] rfl
          refine z_callE (A := A) (va_runV (As := []) (rest := []) ⟨hx, hb, hml, hown, hts⟩ (c_X7_take lau G cy a0 a1 a2 a3 a4 a5 a6 a7 H.size ed (ntm (nw 0) (nw 1)) o1 l1 nw x1 ps (tmE tm (nw 0) (nw 1) (ntm (nw 0) (nw 1))) d1 e1 pt (by first | assumption | omega)) (cwV 0 hts gX7_loadStandard_X7_take rfl rfl rfl (by decide +kernel) ⟨Nat.le_of_ble_eq_true rfl, Nat.le_of_ble_eq_true rfl⟩) ⟨P1_blind, va_recv hK hP (ci := 6) (q0 := 0) rfl rfl, P1_mk hKK (⟨rfl, hPc, hDc⟩)⟩ rfl rfl hl.1 rfl (lv_room (Nat.le_of_ble_eq_true rfl)) dX7_loadStandard_116 ⟨(show 0 + 0 ≤ 0 by omega), (show 0 + 0 ≤ 0 by omega)⟩) hS.2.2 hFc (fun v H1 locs1 hR hL1 => ?_)
          obtain ⟨rfl, hq116, hP1, hD1, hF1⟩ := hR
          obtain ⟨hP, hD⟩ := va_join (wr := []) (w1 := (MW cy a0 a1 a2 a3 a4 a5 a6 a7 (svE ed) (ntm (nw 0) (nw 1)) o1 l1 (tkW x1 nw) (tkX x1 nw) (svP ps nw ed) (tmE tm (nw 0) (nw 1) (ntm (nw 0) (nw 1))) d1 e1 pt)) hP hD [0, 1, 2, 3, 4, 5, 6, 7] [] rfl rfl (by decide) (by decide) hF1.2 hFc hP1 hD1
          have hS : va_S A s.heap H1 locs1 := Fh.S ((Fh.of hS).tr hF1 (fun q _ h => hFc q h)) hL1
          clear hPc hDc hFc hP1 hD1 hF1 hL1
          generalize H1 = H at hP hS ⊢
          have hP : va_P G vwCl (MW cy a0 a1 a2 a3 a4 a5 a6 a7 (svE ed) (ntm (nw 0) (nw 1)) o1 l1 (tkW x1 nw) (tkX x1 nw) (svP ps nw ed) (tmE tm (nw 0) (nw 1) (ntm (nw 0) (nw 1))) d1 e1 pt) H := hP
          have hD : va_D A (MW cy a0 a1 a2 a3 a4 a5 a6 a7 (svE ed) (ntm (nw 0) (nw 1)) o1 l1 (tkW x1 nw) (tkX x1 nw) (svP ps nw ed) (tmE tm (nw 0) (nw 1) (ntm (nw 0) (nw 1))) d1 e1 pt) := hD
          refine W.eq (g2 := F0 mt 119 ls []) rfl ?_
          refine lv_aload_n hx hb dX7_loadStandard_119 rfl (lv_at hl 0 rfl) ?_
          refine va_get (D := G) (ci := 6) (v := .ref a1) (C := RX7) (T := TX7) (N := 11) hx hb hts (by decide +kernel) hown hK hP 0 rfl rfl 0 (by decide) (hts (.fieldLink RX7 7 "SturmianWordsModel" "now" "[I") (by decide +kernel)) (fun _ h9 => h9) rfl dX7_loadStandard_120 ?_
          refine lv_iconst (v := iZ 3) hx hb dX7_loadStandard_123 rfl ?_
          refine z_iald (D := G) hx hb hK hP 1 0 rfl rfl (by omega) dX7_loadStandard_124 ?_
          have hfin : RowIs x1 (stW (nw 0) (nw 1) kk).1 (stW (nw 0) (nw 1) kk).2 := by unfold stW; rcases (show kk < 0 ∨ 0 ≤ kk by omega) with q | q; (· rw [if_pos q]; exact (i3 q).1); (· rw [if_neg (by omega)]; have e := i2 q; rwa [show i - 1 = kk by omega] at e)
          exact z_iretE hx hb hr hlocks dX7_loadStandard_125 hS.2.2 ⟨(show 0 ≤ 0 by omega), (show 0 ≤ 0 by omega)⟩ ⟨o1, l1, x1, d1, e1, (sI (by rw [tkW_ge (by omega)]; exact hfin.1)), (hfin), (hP), (hD), Fh.of hS⟩
        · have hxz := hxq.2.2 (i - 1) (by omega) (by omega)
          have hcf := cft_pos (p := nw 0) (q := nw 1) (k := i - 1) (by omega) (by omega) (by omega) hxz
          rw [show i - 1 + 1 = i by omega] at hcf
          have hstt : 0 ≤ stT (nw 0) (nw 1) (i - 1) ∧ stT (nw 0) (nw 1) (i - 1) ≤ 1000 := by unfold stT; rw [show i - 1 + 1 = i by omega]; split <;> omega
          have hst2 := stS_st (p := nw 0) (q := nw 1) (i := i) (by omega)
          refine lv_aload_n hx hb dX7_loadStandard_75 rfl (lv_at hl 0 rfl) ?_
          refine lv_iload_n hx hb dX7_loadStandard_76 rfl (lv_at hl 2 rfl) ?_
          refine lv_iconst (v := iZ 1) hx hb dX7_loadStandard_77 rfl ?_
          refine z_icmp_ne (tgt := 92) hx hb dX7_loadStandard_78 (by decide) (by omega) (fun c_78 => ?_) (fun c_78 => ?_)
          · refine lv_aload_n hx hb dX7_loadStandard_92 rfl (lv_at hl 0 rfl) ?_
            refine va_get (D := G) (ci := 6) (v := .ref a4) (C := RX7) (T := TX7) (N := 11) hx hb hts (by decide +kernel) hown hK hP 0 rfl rfl 4 (by decide) (hts (.fieldLink RX7 19 "SturmianWordsModel" "terms" "[I") (by decide +kernel)) (fun _ h9 => h9) rfl dX7_loadStandard_93 ?_
            refine lv_iload_n hx hb dX7_loadStandard_96 rfl (lv_at hl 2 rfl) ?_
            refine lv_iconst (v := iZ 1) hx hb dX7_loadStandard_97 rfl ?_
            refine z_isub hx hb dX7_loadStandard_98 ?_
            refine z_iald (D := G) hx hb hK hP 4 0 rfl rfl (by omega) dX7_loadStandard_99 ?_
            refine z_top (b := (stT (nw 0) (nw 1) (i - 1))) (by unfold tmE stT; rw [if_pos (by omega), show i - 1 + 1 = i by omega, if_neg (by omega), Int.sub_zero]) ?_
            have hPc := hP.sub (ws' := (MW cy a0 a1 a2 a3 a4 a5 a6 a7 ed (ntm (nw 0) (nw 1)) o1 l1 nw x1 ps (tmE tm (nw 0) (nw 1) (ntm (nw 0) (nw 1))) d1 e1 pt)) [0, 1, 2, 3, 4, 5, 6, 7] rfl
            have hDc := (hD.sub (ws' := (MW cy a0 a1 a2 a3 a4 a5 a6 a7 ed (ntm (nw 0) (nw 1)) o1 l1 nw x1 ps (tmE tm (nw 0) (nw 1) (ntm (nw 0) (nw 1))) d1 e1 pt)) [0, 1, 2, 3, 4, 5, 6, 7] (by decide) rfl).weaken (B := fun _ => True) (fun _ _ _ _ => trivial)
            have hFc := va_free (wc := (MW cy a0 a1 a2 a3 a4 a5 a6 a7 ed (ntm (nw 0) (nw 1)) o1 l1 nw x1 ps (tmE tm (nw 0) (nw 1) (ntm (nw 0) (nw 1))) d1 e1 pt)) hD hS hA [0, 1, 2, 3, 4, 5, 6, 7] rfl
            refine z_callE (A := A) (va_runV (As := [.int (iZ (stT (nw 0) (nw 1) (i - 1)))]) (rest := []) ⟨hx, hb, hml, hown, hts⟩ (c_X7_further lau G cy a0 a1 a2 a3 a4 a5 a6 a7 H.size ed (ntm (nw 0) (nw 1)) o1 l1 nw x1 ps (tmE tm (nw 0) (nw 1) (ntm (nw 0) (nw 1))) d1 e1 pt (stS (nw 0) (nw 1) (i - 1)).1.1 (stS (nw 0) (nw 1) (i - 1)).1.2 (stS (nw 0) (nw 1) (i - 1)).2.1 (stS (nw 0) (nw 1) (i - 1)).2.2 (stT (nw 0) (nw 1) (i - 1)) (i5.1) (by first | assumption | omega) (i5.2) (by first | assumption | omega) (by first | assumption | omega) (by first | assumption | omega) (i6) (i7) (by first | assumption | omega)) (cwV 1 hts gX7_loadStandard_X7_further rfl rfl rfl (by decide +kernel) ⟨Nat.le_of_ble_eq_true rfl, Nat.le_of_ble_eq_true rfl⟩) ⟨P1_blind, va_recv hK hP (ci := 6) (q0 := 0) rfl rfl, P1_mk hKK (⟨rfl, hPc, hDc⟩)⟩ rfl rfl hl.1 rfl (lv_room (Nat.le_of_ble_eq_true rfl)) dX7_loadStandard_100 ⟨(show 0 + 0 ≤ 0 by omega), (show 0 + 0 ≤ 0 by omega)⟩) hS.2.2 hFc (fun v H1 locs1 hR hL1 => ?_)
            obtain ⟨ol2_100, nl2_100, nx2_100, od2_100, ne2_100, rfl, hq100, hP1, hD1, hF1⟩ := hR
            obtain ⟨hP, hD⟩ := va_join (wr := []) (w1 := (MW cy a0 a1 a2 a3 a4 a5 a6 a7 ed (ntm (nw 0) (nw 1)) ol2_100 nl2_100 nw nx2_100 ps (tmE tm (nw 0) (nw 1) (ntm (nw 0) (nw 1))) od2_100 ne2_100 pt)) hP hD [0, 1, 2, 3, 4, 5, 6, 7] [] rfl rfl (by decide) (by decide) hF1.2 hFc hP1 hD1
            have hS : va_S A s.heap H1 locs1 := Fh.S ((Fh.of hS).tr hF1 (fun q _ h => hFc q h)) hL1
            clear hPc hDc hFc hP1 hD1 hF1 hL1
            generalize H1 = H at hP hS ⊢
            have hP : va_P G vwCl (MW cy a0 a1 a2 a3 a4 a5 a6 a7 ed (ntm (nw 0) (nw 1)) ol2_100 nl2_100 nw nx2_100 ps (tmE tm (nw 0) (nw 1) (ntm (nw 0) (nw 1))) od2_100 ne2_100 pt) H := hP
            have hD : va_D A (MW cy a0 a1 a2 a3 a4 a5 a6 a7 ed (ntm (nw 0) (nw 1)) ol2_100 nl2_100 nw nx2_100 ps (tmE tm (nw 0) (nw 1) (ntm (nw 0) (nw 1))) od2_100 ne2_100 pt) := hD
            refine W.eq (g2 := F0 mt 103 ls [.int (iZ (bv (((stS (nw 0) (nw 1) (i - 1)).1.2 * (stT (nw 0) (nw 1) (i - 1)) + (stS (nw 0) (nw 1) (i - 1)).2.2) ≤ 60)))]) rfl ?_
            refine z_ifB_ne (tgt := 109) hx hb dX7_loadStandard_103 (by decide) (fun c_103 => ?_) (fun c_103 => ?_)
            · refine lv_iinc (v := iZ (i + 1)) (lv' := [(2, .int (iZ (i + 1))), (0, .ref a0), (1, .int (iZ kk))]) hx hb dX7_loadStandard_109 hl (k := 2) rfl (iZ_add _ _) (by decide) rfl (fun ls hl => ?_)
              refine lv_goto (tgt := 70) hx hb dX7_loadStandard_112 (by decide) ?_
              exact ih_70 (i + 1) ol2_100 nl2_100 nx2_100 od2_100 ne2_100 _ _ ⟨⟨(by omega), (fun _ => by rw [show i + 1 - 1 = i by omega, hst2]; exact (hq100 c_103).1), (fun q => by omega), (by rw [show i + 1 - 1 = i by omega, hst2]; have e := hq100 c_103; have e4 := e.2.2.2.1; have hnn := Int.mul_nonneg (show 0 ≤ (stS (nw 0) (nw 1) (i - 1)).1.2 by omega) (show 0 ≤ stT (nw 0) (nw 1) (i - 1) by omega); exact ⟨e.2.2.2.1, e.2.1, by omega, by omega, by omega, by omega⟩), (by rw [show i + 1 - 1 = i by omega, hst2]; exact ⟨(hq100 c_103).1.2.2.1, i5.1⟩), (by rw [show i + 1 - 1 = i by omega, hst2]; exact (hq100 c_103).2.2.2.2), (by rw [show i + 1 - 1 = i by omega, hst2]; exact (hq100 c_103).2.2.1), (fun j q1 q2 => by rcases (show j < i ∨ j = i by omega) with q | q; (· exact i8 j q1 q); (· rw [q, hst2]; exact c_103))⟩, hP, hD, Fh.of hS⟩ hS.2.2 ⟨by omega, by omega⟩ _ (lv_sub hl [1, 2, 0] rfl)
            · exact absurd (by have e := h4 i (by omega) (by omega); rw [hst2] at e; exact e) c_103
          · refine lv_aload_n hx hb dX7_loadStandard_81 rfl (lv_at hl 0 rfl) ?_
            refine va_get (D := G) (ci := 6) (v := .ref a4) (C := RX7) (T := TX7) (N := 11) hx hb hts (by decide +kernel) hown hK hP 0 rfl rfl 4 (by decide) (hts (.fieldLink RX7 19 "SturmianWordsModel" "terms" "[I") (by decide +kernel)) (fun _ h9 => h9) rfl dX7_loadStandard_82 ?_
            refine lv_iconst (v := iZ 0) hx hb dX7_loadStandard_85 rfl ?_
            refine z_iald (D := G) hx hb hK hP 4 0 rfl rfl (by omega) dX7_loadStandard_86 ?_
            refine lv_iconst (v := iZ 1) hx hb dX7_loadStandard_87 rfl ?_
            refine z_isub hx hb dX7_loadStandard_88 ?_
            refine z_top (b := (stT (nw 0) (nw 1) (i - 1))) (by unfold tmE stT; rw [if_pos (by omega), show i - 1 = 0 by omega, if_pos rfl]) ?_
            refine lv_goto (tgt := 100) hx hb dX7_loadStandard_89 (by decide) ?_
            have hPc := hP.sub (ws' := (MW cy a0 a1 a2 a3 a4 a5 a6 a7 ed (ntm (nw 0) (nw 1)) o1 l1 nw x1 ps (tmE tm (nw 0) (nw 1) (ntm (nw 0) (nw 1))) d1 e1 pt)) [0, 1, 2, 3, 4, 5, 6, 7] rfl
            have hDc := (hD.sub (ws' := (MW cy a0 a1 a2 a3 a4 a5 a6 a7 ed (ntm (nw 0) (nw 1)) o1 l1 nw x1 ps (tmE tm (nw 0) (nw 1) (ntm (nw 0) (nw 1))) d1 e1 pt)) [0, 1, 2, 3, 4, 5, 6, 7] (by decide) rfl).weaken (B := fun _ => True) (fun _ _ _ _ => trivial)
            have hFc := va_free (wc := (MW cy a0 a1 a2 a3 a4 a5 a6 a7 ed (ntm (nw 0) (nw 1)) o1 l1 nw x1 ps (tmE tm (nw 0) (nw 1) (ntm (nw 0) (nw 1))) d1 e1 pt)) hD hS hA [0, 1, 2, 3, 4, 5, 6, 7] rfl
            refine z_callE (A := A) (va_runV (As := [.int (iZ (stT (nw 0) (nw 1) (i - 1)))]) (rest := []) ⟨hx, hb, hml, hown, hts⟩ (c_X7_further lau G cy a0 a1 a2 a3 a4 a5 a6 a7 H.size ed (ntm (nw 0) (nw 1)) o1 l1 nw x1 ps (tmE tm (nw 0) (nw 1) (ntm (nw 0) (nw 1))) d1 e1 pt (stS (nw 0) (nw 1) (i - 1)).1.1 (stS (nw 0) (nw 1) (i - 1)).1.2 (stS (nw 0) (nw 1) (i - 1)).2.1 (stS (nw 0) (nw 1) (i - 1)).2.2 (stT (nw 0) (nw 1) (i - 1)) (i5.1) (by first | assumption | omega) (i5.2) (by first | assumption | omega) (by first | assumption | omega) (by first | assumption | omega) (i6) (i7) (by first | assumption | omega)) (cwV 1 hts gX7_loadStandard_X7_further rfl rfl rfl (by decide +kernel) ⟨Nat.le_of_ble_eq_true rfl, Nat.le_of_ble_eq_true rfl⟩) ⟨P1_blind, va_recv hK hP (ci := 6) (q0 := 0) rfl rfl, P1_mk hKK (⟨rfl, hPc, hDc⟩)⟩ rfl rfl hl.1 rfl (lv_room (Nat.le_of_ble_eq_true rfl)) dX7_loadStandard_100 ⟨(show 0 + 0 ≤ 0 by omega), (show 0 + 0 ≤ 0 by omega)⟩) hS.2.2 hFc (fun v H1 locs1 hR hL1 => ?_)
            obtain ⟨ol2_100, nl2_100, nx2_100, od2_100, ne2_100, rfl, hq100, hP1, hD1, hF1⟩ := hR
            obtain ⟨hP, hD⟩ := va_join (wr := []) (w1 := (MW cy a0 a1 a2 a3 a4 a5 a6 a7 ed (ntm (nw 0) (nw 1)) ol2_100 nl2_100 nw nx2_100 ps (tmE tm (nw 0) (nw 1) (ntm (nw 0) (nw 1))) od2_100 ne2_100 pt)) hP hD [0, 1, 2, 3, 4, 5, 6, 7] [] rfl rfl (by decide) (by decide) hF1.2 hFc hP1 hD1
            have hS : va_S A s.heap H1 locs1 := Fh.S ((Fh.of hS).tr hF1 (fun q _ h => hFc q h)) hL1
            clear hPc hDc hFc hP1 hD1 hF1 hL1
            generalize H1 = H at hP hS ⊢
            have hP : va_P G vwCl (MW cy a0 a1 a2 a3 a4 a5 a6 a7 ed (ntm (nw 0) (nw 1)) ol2_100 nl2_100 nw nx2_100 ps (tmE tm (nw 0) (nw 1) (ntm (nw 0) (nw 1))) od2_100 ne2_100 pt) H := hP
            have hD : va_D A (MW cy a0 a1 a2 a3 a4 a5 a6 a7 ed (ntm (nw 0) (nw 1)) ol2_100 nl2_100 nw nx2_100 ps (tmE tm (nw 0) (nw 1) (ntm (nw 0) (nw 1))) od2_100 ne2_100 pt) := hD
            refine W.eq (g2 := F0 mt 103 ls [.int (iZ (bv (((stS (nw 0) (nw 1) (i - 1)).1.2 * (stT (nw 0) (nw 1) (i - 1)) + (stS (nw 0) (nw 1) (i - 1)).2.2) ≤ 60)))]) rfl ?_
            refine z_ifB_ne (tgt := 109) hx hb dX7_loadStandard_103 (by decide) (fun c_103 => ?_) (fun c_103 => ?_)
            · refine lv_iinc (v := iZ (i + 1)) (lv' := [(2, .int (iZ (i + 1))), (0, .ref a0), (1, .int (iZ kk))]) hx hb dX7_loadStandard_109 hl (k := 2) rfl (iZ_add _ _) (by decide) rfl (fun ls hl => ?_)
              refine lv_goto (tgt := 70) hx hb dX7_loadStandard_112 (by decide) ?_
              exact ih_70 (i + 1) ol2_100 nl2_100 nx2_100 od2_100 ne2_100 _ _ ⟨⟨(by omega), (fun _ => by rw [show i + 1 - 1 = i by omega, hst2]; exact (hq100 c_103).1), (fun q => by omega), (by rw [show i + 1 - 1 = i by omega, hst2]; have e := hq100 c_103; have e4 := e.2.2.2.1; have hnn := Int.mul_nonneg (show 0 ≤ (stS (nw 0) (nw 1) (i - 1)).1.2 by omega) (show 0 ≤ stT (nw 0) (nw 1) (i - 1) by omega); exact ⟨e.2.2.2.1, e.2.1, by omega, by omega, by omega, by omega⟩), (by rw [show i + 1 - 1 = i by omega, hst2]; exact ⟨(hq100 c_103).1.2.2.1, i5.1⟩), (by rw [show i + 1 - 1 = i by omega, hst2]; exact (hq100 c_103).2.2.2.2), (by rw [show i + 1 - 1 = i by omega, hst2]; exact (hq100 c_103).2.2.1), (fun j q1 q2 => by rcases (show j < i ∨ j = i by omega) with q | q; (· exact i8 j q1 q); (· rw [q, hst2]; exact c_103))⟩, hP, hD, Fh.of hS⟩ hS.2.2 ⟨by omega, by omega⟩ _ (lv_sub hl [1, 2, 0] rfl)
            · exact absurd (by have e := h4 i (by omega) (by omega); rw [hst2] at e; exact e) c_103
      · refine lv_iconst (v := iZ 1) hx hb dX7_loadStandard_62 rfl ?_
        refine lv_goto (tgt := 67) hx hb dX7_loadStandard_63 (by decide) ?_
        refine z_iast (D := G) hx hb hK hP hD hS 2 0 rfl rfl (by omega) dX7_loadStandard_67 (fun H locs hP hD hS => ?_)
        have hP : va_P G vwCl (MW cy a0 a1 a2 a3 a4 a5 a6 a7 ed (ntm (nw 0) (nw 1)) 1 1 nw (up1 (up1 nx 3 1) 4 1) ps (tmE tm (nw 0) (nw 1) (ntm (nw 0) (nw 1))) (up1 od 0 1) (up1 ne 0 0) pt) H := hP
        have hD : va_D A (MW cy a0 a1 a2 a3 a4 a5 a6 a7 ed (ntm (nw 0) (nw 1)) 1 1 nw (up1 (up1 nx 3 1) 4 1) ps (tmE tm (nw 0) (nw 1) (ntm (nw 0) (nw 1))) (up1 od 0 1) (up1 ne 0 0) pt) := hD
        refine lv_iconst (v := iZ 1) hx hb dX7_loadStandard_68 rfl ?_
        refine lv_istore_n (lv' := [(2, .int (iZ 1)), (0, .ref a0), (1, .int (iZ kk))]) hx hb dX7_loadStandard_69 rfl hl (by decide) rfl (fun ls hl => ?_)
        refine z_loopH6 (nL := 3) (A := A) (fun (i : Int) (o1 : Int) (l1 : Int) (x1 : Int → Int) (d1 : Int → Int) (e1 : Int → Int) => [(0, .ref a0), (1, .int (iZ kk)), (2, .int (iZ i))]) (fun (i : Int) (o1 : Int) (l1 : Int) (x1 : Int → Int) (d1 : Int → Int) (e1 : Int → Int) (H : Heap) => ((1 ≤ i ∧ (i ≤ kk + 1 ∨ i = 1)) ∧ (0 ≤ kk → RowIs x1 (stS (nw 0) (nw 1) (i - 1)).1.1 (stS (nw 0) (nw 1) (i - 1)).1.2) ∧ (kk < 0 → RowIs x1 1 1 ∧ i = 1) ∧ (l1 = (stS (nw 0) (nw 1) (i - 1)).1.2 ∧ o1 = (stS (nw 0) (nw 1) (i - 1)).2.2 ∧ 1 ≤ l1 ∧ l1 ≤ 60 ∧ 1 ≤ o1 ∧ o1 ≤ 60) ∧ ((0 ≤ (stS (nw 0) (nw 1) (i - 1)).1.1 ∧ (stS (nw 0) (nw 1) (i - 1)).1.1 < pw (stS (nw 0) (nw 1) (i - 1)).1.2) ∧ (0 ≤ (stS (nw 0) (nw 1) (i - 1)).2.1 ∧ (stS (nw 0) (nw 1) (i - 1)).2.1 < pw (stS (nw 0) (nw 1) (i - 1)).2.2)) ∧ (∀ j, 0 ≤ j → j < (stS (nw 0) (nw 1) (i - 1)).1.2 → e1 j = ltr (stS (nw 0) (nw 1) (i - 1)).1.1 (stS (nw 0) (nw 1) (i - 1)).1.2 j) ∧ (∀ j, 0 ≤ j → j < (stS (nw 0) (nw 1) (i - 1)).2.2 → d1 j = ltr (stS (nw 0) (nw 1) (i - 1)).2.1 (stS (nw 0) (nw 1) (i - 1)).2.2 j) ∧ (∀ j, 0 ≤ j → j < i → (stS (nw 0) (nw 1) j).1.2 ≤ 60)) ∧ va_P G vwCl (MW cy a0 a1 a2 a3 a4 a5 a6 a7 ed (ntm (nw 0) (nw 1)) o1 l1 nw x1 ps (tmE tm (nw 0) (nw 1) (ntm (nw 0) (nw 1))) d1 e1 pt) H ∧ va_D A (MW cy a0 a1 a2 a3 a4 a5 a6 a7 ed (ntm (nw 0) (nw 1)) o1 l1 nw x1 ps (tmE tm (nw 0) (nw 1) (ntm (nw 0) (nw 1))) d1 e1 pt) ∧ Fh A s.heap H) (fun (i : Int) (o1 : Int) (l1 : Int) (x1 : Int → Int) (d1 : Int → Int) (e1 : Int → Int) => kk + 1 - i) (fun (i : Int) (o1 : Int) (l1 : Int) (x1 : Int → Int) (d1 : Int → Int) (e1 : Int → Int) => 0) (fun (i : Int) (o1 : Int) (l1 : Int) (x1 : Int → Int) (d1 : Int → Int) (e1 : Int → Int) => 0) (a1 := 1) (a2 := 1) (a3 := 1) (a4 := (up1 (up1 nx 3 1) 4 1)) (a5 := (up1 od 0 1)) (a6 := (up1 ne 0 0)) ⟨⟨(by omega), (fun q => by omega), (fun _ => ⟨lsd_1, rfl⟩), (by rw [show (1 : Int) - 1 = 0 by decide, stS_0]; exact ⟨rfl, rfl, by decide, by decide, by decide, by decide⟩), (by rw [show (1 : Int) - 1 = 0 by decide, stS_0]; exact ⟨⟨by decide, by decide⟩, by decide, by decide⟩), (by rw [show (1 : Int) - 1 = 0 by decide, stS_0]; exact fun j q1 q2 => (by have q2 : j < 1 := q2; rw [show j = 0 by omega, up1_s]; rfl)), (by rw [show (1 : Int) - 1 = 0 by decide, stS_0]; exact fun j q1 q2 => (by have q2 : j < 1 := q2; rw [show j = 0 by omega, up1_s]; rfl)), (fun j q1 q2 => by rw [show j = 0 by omega, stS_0]; decide)⟩, hP, hD, Fh.of hS⟩ hS.2.2 (lv_sub hl [1, 2, 0] rfl) ?_
        rintro i o1 l1 x1 d1 e1 H locs ⟨⟨i1, i2, i3, i4, i5, i6, i7, i8⟩, hP, hD, hFr⟩ hLc ih_70 ls hl
        have hS : va_S A s.heap H locs := Fh.S hFr hLc
        refine lv_iload_n hx hb dX7_loadStandard_70 rfl (lv_at hl 2 rfl) ?_
        refine lv_iload_n hx hb dX7_loadStandard_71 rfl (lv_at hl 1 rfl) ?_
        refine z_icmp_gt (tgt := 115) hx hb dX7_loadStandard_72 (by decide) (by omega) (fun c_72 => ?_) (fun c_72 => ?_)
        · refine lv_aload_n hx hb dX7_loadStandard_115 rfl (lv_at hl 0 rfl) ?_
          have hPc := hP.sub (ws' := (MW cy a0 a1 a2 a3 a4 a5 a6 a7 ed (ntm (nw 0) (nw 1)) o1 l1 nw x1 ps (tmE tm (nw 0) (nw 1) (ntm (nw 0) (nw 1))) d1 e1 pt)) [0, 1, 2, 3, 4, 5, 6, 7] rfl
          have hDc := (hD.sub (ws' := (MW cy a0 a1 a2 a3 a4 a5 a6 a7 ed (ntm (nw 0) (nw 1)) o1 l1 nw x1 ps (tmE tm (nw 0) (nw 1) (ntm (nw 0) (nw 1))) d1 e1 pt)) [0, 1, 2, 3, 4, 5, 6, 7] (by decide) rfl).weaken (B := fun _ => True) (fun _ _ _ _ => trivial)
          have hFc := va_free (wc := (MW cy a0 a1 a2 a3 a4 a5 a6 a7 ed (ntm (nw 0) (nw 1)) o1 l1 nw x1 ps (tmE tm (nw 0) (nw 1) (ntm (nw 0) (nw 1))) d1 e1 pt)) hD hS hA [0, 1, 2, 3, 4, 5, 6, 7] rfl
          refine z_callE (A := A) (va_runV (As := []) (rest := []) ⟨hx, hb, hml, hown, hts⟩ (c_X7_take lau G cy a0 a1 a2 a3 a4 a5 a6 a7 H.size ed (ntm (nw 0) (nw 1)) o1 l1 nw x1 ps (tmE tm (nw 0) (nw 1) (ntm (nw 0) (nw 1))) d1 e1 pt (by first | assumption | omega)) (cwV 0 hts gX7_loadStandard_X7_take rfl rfl rfl (by decide +kernel) ⟨Nat.le_of_ble_eq_true rfl, Nat.le_of_ble_eq_true rfl⟩) ⟨P1_blind, va_recv hK hP (ci := 6) (q0 := 0) rfl rfl, P1_mk hKK (⟨rfl, hPc, hDc⟩)⟩ rfl rfl hl.1 rfl (lv_room (Nat.le_of_ble_eq_true rfl)) dX7_loadStandard_116 ⟨(show 0 + 0 ≤ 0 by omega), (show 0 + 0 ≤ 0 by omega)⟩) hS.2.2 hFc (fun v H1 locs1 hR hL1 => ?_)
          obtain ⟨rfl, hq116, hP1, hD1, hF1⟩ := hR
          obtain ⟨hP, hD⟩ := va_join (wr := []) (w1 := (MW cy a0 a1 a2 a3 a4 a5 a6 a7 (svE ed) (ntm (nw 0) (nw 1)) o1 l1 (tkW x1 nw) (tkX x1 nw) (svP ps nw ed) (tmE tm (nw 0) (nw 1) (ntm (nw 0) (nw 1))) d1 e1 pt)) hP hD [0, 1, 2, 3, 4, 5, 6, 7] [] rfl rfl (by decide) (by decide) hF1.2 hFc hP1 hD1
          have hS : va_S A s.heap H1 locs1 := Fh.S ((Fh.of hS).tr hF1 (fun q _ h => hFc q h)) hL1
          clear hPc hDc hFc hP1 hD1 hF1 hL1
          generalize H1 = H at hP hS ⊢
          have hP : va_P G vwCl (MW cy a0 a1 a2 a3 a4 a5 a6 a7 (svE ed) (ntm (nw 0) (nw 1)) o1 l1 (tkW x1 nw) (tkX x1 nw) (svP ps nw ed) (tmE tm (nw 0) (nw 1) (ntm (nw 0) (nw 1))) d1 e1 pt) H := hP
          have hD : va_D A (MW cy a0 a1 a2 a3 a4 a5 a6 a7 (svE ed) (ntm (nw 0) (nw 1)) o1 l1 (tkW x1 nw) (tkX x1 nw) (svP ps nw ed) (tmE tm (nw 0) (nw 1) (ntm (nw 0) (nw 1))) d1 e1 pt) := hD
          refine W.eq (g2 := F0 mt 119 ls []) rfl ?_
          refine lv_aload_n hx hb dX7_loadStandard_119 rfl (lv_at hl 0 rfl) ?_
          refine va_get (D := G) (ci := 6) (v := .ref a1) (C := RX7) (T := TX7) (N := 11) hx hb hts (by decide +kernel) hown hK hP 0 rfl rfl 0 (by decide) (hts (.fieldLink RX7 7 "SturmianWordsModel" "now" "[I") (by decide +kernel)) (fun _ h9 => h9) rfl dX7_loadStandard_120 ?_
          refine lv_iconst (v := iZ 3) hx hb dX7_loadStandard_123 rfl ?_
          refine z_iald (D := G) hx hb hK hP 1 0 rfl rfl (by omega) dX7_loadStandard_124 ?_
          have hfin : RowIs x1 (stW (nw 0) (nw 1) kk).1 (stW (nw 0) (nw 1) kk).2 := by unfold stW; rcases (show kk < 0 ∨ 0 ≤ kk by omega) with q | q; (· rw [if_pos q]; exact (i3 q).1); (· rw [if_neg (by omega)]; have e := i2 q; rwa [show i - 1 = kk by omega] at e)
          exact z_iretE hx hb hr hlocks dX7_loadStandard_125 hS.2.2 ⟨(show 0 ≤ 0 by omega), (show 0 ≤ 0 by omega)⟩ ⟨o1, l1, x1, d1, e1, (sI (by rw [tkW_ge (by omega)]; exact hfin.1)), (hfin), (hP), (hD), Fh.of hS⟩
        · have hxz := hxq.2.2 (i - 1) (by omega) (by omega)
          have hcf := cft_pos (p := nw 0) (q := nw 1) (k := i - 1) (by omega) (by omega) (by omega) hxz
          rw [show i - 1 + 1 = i by omega] at hcf
          have hstt : 0 ≤ stT (nw 0) (nw 1) (i - 1) ∧ stT (nw 0) (nw 1) (i - 1) ≤ 1000 := by unfold stT; rw [show i - 1 + 1 = i by omega]; split <;> omega
          have hst2 := stS_st (p := nw 0) (q := nw 1) (i := i) (by omega)
          refine lv_aload_n hx hb dX7_loadStandard_75 rfl (lv_at hl 0 rfl) ?_
          refine lv_iload_n hx hb dX7_loadStandard_76 rfl (lv_at hl 2 rfl) ?_
          refine lv_iconst (v := iZ 1) hx hb dX7_loadStandard_77 rfl ?_
          refine z_icmp_ne (tgt := 92) hx hb dX7_loadStandard_78 (by decide) (by omega) (fun c_78 => ?_) (fun c_78 => ?_)
          · refine lv_aload_n hx hb dX7_loadStandard_92 rfl (lv_at hl 0 rfl) ?_
            refine va_get (D := G) (ci := 6) (v := .ref a4) (C := RX7) (T := TX7) (N := 11) hx hb hts (by decide +kernel) hown hK hP 0 rfl rfl 4 (by decide) (hts (.fieldLink RX7 19 "SturmianWordsModel" "terms" "[I") (by decide +kernel)) (fun _ h9 => h9) rfl dX7_loadStandard_93 ?_
            refine lv_iload_n hx hb dX7_loadStandard_96 rfl (lv_at hl 2 rfl) ?_
            refine lv_iconst (v := iZ 1) hx hb dX7_loadStandard_97 rfl ?_
            refine z_isub hx hb dX7_loadStandard_98 ?_
            refine z_iald (D := G) hx hb hK hP 4 0 rfl rfl (by omega) dX7_loadStandard_99 ?_
            refine z_top (b := (stT (nw 0) (nw 1) (i - 1))) (by unfold tmE stT; rw [if_pos (by omega), show i - 1 + 1 = i by omega, if_neg (by omega), Int.sub_zero]) ?_
            have hPc := hP.sub (ws' := (MW cy a0 a1 a2 a3 a4 a5 a6 a7 ed (ntm (nw 0) (nw 1)) o1 l1 nw x1 ps (tmE tm (nw 0) (nw 1) (ntm (nw 0) (nw 1))) d1 e1 pt)) [0, 1, 2, 3, 4, 5, 6, 7] rfl
            have hDc := (hD.sub (ws' := (MW cy a0 a1 a2 a3 a4 a5 a6 a7 ed (ntm (nw 0) (nw 1)) o1 l1 nw x1 ps (tmE tm (nw 0) (nw 1) (ntm (nw 0) (nw 1))) d1 e1 pt)) [0, 1, 2, 3, 4, 5, 6, 7] (by decide) rfl).weaken (B := fun _ => True) (fun _ _ _ _ => trivial)
            have hFc := va_free (wc := (MW cy a0 a1 a2 a3 a4 a5 a6 a7 ed (ntm (nw 0) (nw 1)) o1 l1 nw x1 ps (tmE tm (nw 0) (nw 1) (ntm (nw 0) (nw 1))) d1 e1 pt)) hD hS hA [0, 1, 2, 3, 4, 5, 6, 7] rfl
            refine z_callE (A := A) (va_runV (As := [.int (iZ (stT (nw 0) (nw 1) (i - 1)))]) (rest := []) ⟨hx, hb, hml, hown, hts⟩ (c_X7_further lau G cy a0 a1 a2 a3 a4 a5 a6 a7 H.size ed (ntm (nw 0) (nw 1)) o1 l1 nw x1 ps (tmE tm (nw 0) (nw 1) (ntm (nw 0) (nw 1))) d1 e1 pt (stS (nw 0) (nw 1) (i - 1)).1.1 (stS (nw 0) (nw 1) (i - 1)).1.2 (stS (nw 0) (nw 1) (i - 1)).2.1 (stS (nw 0) (nw 1) (i - 1)).2.2 (stT (nw 0) (nw 1) (i - 1)) (i5.1) (by first | assumption | omega) (i5.2) (by first | assumption | omega) (by first | assumption | omega) (by first | assumption | omega) (i6) (i7) (by first | assumption | omega)) (cwV 1 hts gX7_loadStandard_X7_further rfl rfl rfl (by decide +kernel) ⟨Nat.le_of_ble_eq_true rfl, Nat.le_of_ble_eq_true rfl⟩) ⟨P1_blind, va_recv hK hP (ci := 6) (q0 := 0) rfl rfl, P1_mk hKK (⟨rfl, hPc, hDc⟩)⟩ rfl rfl hl.1 rfl (lv_room (Nat.le_of_ble_eq_true rfl)) dX7_loadStandard_100 ⟨(show 0 + 0 ≤ 0 by omega), (show 0 + 0 ≤ 0 by omega)⟩) hS.2.2 hFc (fun v H1 locs1 hR hL1 => ?_)
            obtain ⟨ol2_100, nl2_100, nx2_100, od2_100, ne2_100, rfl, hq100, hP1, hD1, hF1⟩ := hR
            obtain ⟨hP, hD⟩ := va_join (wr := []) (w1 := (MW cy a0 a1 a2 a3 a4 a5 a6 a7 ed (ntm (nw 0) (nw 1)) ol2_100 nl2_100 nw nx2_100 ps (tmE tm (nw 0) (nw 1) (ntm (nw 0) (nw 1))) od2_100 ne2_100 pt)) hP hD [0, 1, 2, 3, 4, 5, 6, 7] [] rfl rfl (by decide) (by decide) hF1.2 hFc hP1 hD1
            have hS : va_S A s.heap H1 locs1 := Fh.S ((Fh.of hS).tr hF1 (fun q _ h => hFc q h)) hL1
            clear hPc hDc hFc hP1 hD1 hF1 hL1
            generalize H1 = H at hP hS ⊢
            have hP : va_P G vwCl (MW cy a0 a1 a2 a3 a4 a5 a6 a7 ed (ntm (nw 0) (nw 1)) ol2_100 nl2_100 nw nx2_100 ps (tmE tm (nw 0) (nw 1) (ntm (nw 0) (nw 1))) od2_100 ne2_100 pt) H := hP
            have hD : va_D A (MW cy a0 a1 a2 a3 a4 a5 a6 a7 ed (ntm (nw 0) (nw 1)) ol2_100 nl2_100 nw nx2_100 ps (tmE tm (nw 0) (nw 1) (ntm (nw 0) (nw 1))) od2_100 ne2_100 pt) := hD
            refine W.eq (g2 := F0 mt 103 ls [.int (iZ (bv (((stS (nw 0) (nw 1) (i - 1)).1.2 * (stT (nw 0) (nw 1) (i - 1)) + (stS (nw 0) (nw 1) (i - 1)).2.2) ≤ 60)))]) rfl ?_
            refine z_ifB_ne (tgt := 109) hx hb dX7_loadStandard_103 (by decide) (fun c_103 => ?_) (fun c_103 => ?_)
            · refine lv_iinc (v := iZ (i + 1)) (lv' := [(2, .int (iZ (i + 1))), (0, .ref a0), (1, .int (iZ kk))]) hx hb dX7_loadStandard_109 hl (k := 2) rfl (iZ_add _ _) (by decide) rfl (fun ls hl => ?_)
              refine lv_goto (tgt := 70) hx hb dX7_loadStandard_112 (by decide) ?_
              exact ih_70 (i + 1) ol2_100 nl2_100 nx2_100 od2_100 ne2_100 _ _ ⟨⟨(by omega), (fun _ => by rw [show i + 1 - 1 = i by omega, hst2]; exact (hq100 c_103).1), (fun q => by omega), (by rw [show i + 1 - 1 = i by omega, hst2]; have e := hq100 c_103; have e4 := e.2.2.2.1; have hnn := Int.mul_nonneg (show 0 ≤ (stS (nw 0) (nw 1) (i - 1)).1.2 by omega) (show 0 ≤ stT (nw 0) (nw 1) (i - 1) by omega); exact ⟨e.2.2.2.1, e.2.1, by omega, by omega, by omega, by omega⟩), (by rw [show i + 1 - 1 = i by omega, hst2]; exact ⟨(hq100 c_103).1.2.2.1, i5.1⟩), (by rw [show i + 1 - 1 = i by omega, hst2]; exact (hq100 c_103).2.2.2.2), (by rw [show i + 1 - 1 = i by omega, hst2]; exact (hq100 c_103).2.2.1), (fun j q1 q2 => by rcases (show j < i ∨ j = i by omega) with q | q; (· exact i8 j q1 q); (· rw [q, hst2]; exact c_103))⟩, hP, hD, Fh.of hS⟩ hS.2.2 ⟨by omega, by omega⟩ _ (lv_sub hl [1, 2, 0] rfl)
            · exact absurd (by have e := h4 i (by omega) (by omega); rw [hst2] at e; exact e) c_103
          · refine lv_aload_n hx hb dX7_loadStandard_81 rfl (lv_at hl 0 rfl) ?_
            refine va_get (D := G) (ci := 6) (v := .ref a4) (C := RX7) (T := TX7) (N := 11) hx hb hts (by decide +kernel) hown hK hP 0 rfl rfl 4 (by decide) (hts (.fieldLink RX7 19 "SturmianWordsModel" "terms" "[I") (by decide +kernel)) (fun _ h9 => h9) rfl dX7_loadStandard_82 ?_
            refine lv_iconst (v := iZ 0) hx hb dX7_loadStandard_85 rfl ?_
            refine z_iald (D := G) hx hb hK hP 4 0 rfl rfl (by omega) dX7_loadStandard_86 ?_
            refine lv_iconst (v := iZ 1) hx hb dX7_loadStandard_87 rfl ?_
            refine z_isub hx hb dX7_loadStandard_88 ?_
            refine z_top (b := (stT (nw 0) (nw 1) (i - 1))) (by unfold tmE stT; rw [if_pos (by omega), show i - 1 = 0 by omega, if_pos rfl]) ?_
            refine lv_goto (tgt := 100) hx hb dX7_loadStandard_89 (by decide) ?_
            have hPc := hP.sub (ws' := (MW cy a0 a1 a2 a3 a4 a5 a6 a7 ed (ntm (nw 0) (nw 1)) o1 l1 nw x1 ps (tmE tm (nw 0) (nw 1) (ntm (nw 0) (nw 1))) d1 e1 pt)) [0, 1, 2, 3, 4, 5, 6, 7] rfl
            have hDc := (hD.sub (ws' := (MW cy a0 a1 a2 a3 a4 a5 a6 a7 ed (ntm (nw 0) (nw 1)) o1 l1 nw x1 ps (tmE tm (nw 0) (nw 1) (ntm (nw 0) (nw 1))) d1 e1 pt)) [0, 1, 2, 3, 4, 5, 6, 7] (by decide) rfl).weaken (B := fun _ => True) (fun _ _ _ _ => trivial)
            have hFc := va_free (wc := (MW cy a0 a1 a2 a3 a4 a5 a6 a7 ed (ntm (nw 0) (nw 1)) o1 l1 nw x1 ps (tmE tm (nw 0) (nw 1) (ntm (nw 0) (nw 1))) d1 e1 pt)) hD hS hA [0, 1, 2, 3, 4, 5, 6, 7] rfl
            refine z_callE (A := A) (va_runV (As := [.int (iZ (stT (nw 0) (nw 1) (i - 1)))]) (rest := []) ⟨hx, hb, hml, hown, hts⟩ (c_X7_further lau G cy a0 a1 a2 a3 a4 a5 a6 a7 H.size ed (ntm (nw 0) (nw 1)) o1 l1 nw x1 ps (tmE tm (nw 0) (nw 1) (ntm (nw 0) (nw 1))) d1 e1 pt (stS (nw 0) (nw 1) (i - 1)).1.1 (stS (nw 0) (nw 1) (i - 1)).1.2 (stS (nw 0) (nw 1) (i - 1)).2.1 (stS (nw 0) (nw 1) (i - 1)).2.2 (stT (nw 0) (nw 1) (i - 1)) (i5.1) (by first | assumption | omega) (i5.2) (by first | assumption | omega) (by first | assumption | omega) (by first | assumption | omega) (i6) (i7) (by first | assumption | omega)) (cwV 1 hts gX7_loadStandard_X7_further rfl rfl rfl (by decide +kernel) ⟨Nat.le_of_ble_eq_true rfl, Nat.le_of_ble_eq_true rfl⟩) ⟨P1_blind, va_recv hK hP (ci := 6) (q0 := 0) rfl rfl, P1_mk hKK (⟨rfl, hPc, hDc⟩)⟩ rfl rfl hl.1 rfl (lv_room (Nat.le_of_ble_eq_true rfl)) dX7_loadStandard_100 ⟨(show 0 + 0 ≤ 0 by omega), (show 0 + 0 ≤ 0 by omega)⟩) hS.2.2 hFc (fun v H1 locs1 hR hL1 => ?_)
            obtain ⟨ol2_100, nl2_100, nx2_100, od2_100, ne2_100, rfl, hq100, hP1, hD1, hF1⟩ := hR
            obtain ⟨hP, hD⟩ := va_join (wr := []) (w1 := (MW cy a0 a1 a2 a3 a4 a5 a6 a7 ed (ntm (nw 0) (nw 1)) ol2_100 nl2_100 nw nx2_100 ps (tmE tm (nw 0) (nw 1) (ntm (nw 0) (nw 1))) od2_100 ne2_100 pt)) hP hD [0, 1, 2, 3, 4, 5, 6, 7] [] rfl rfl (by decide) (by decide) hF1.2 hFc hP1 hD1
            have hS : va_S A s.heap H1 locs1 := Fh.S ((Fh.of hS).tr hF1 (fun q _ h => hFc q h)) hL1
            clear hPc hDc hFc hP1 hD1 hF1 hL1
            generalize H1 = H at hP hS ⊢
            have hP : va_P G vwCl (MW cy a0 a1 a2 a3 a4 a5 a6 a7 ed (ntm (nw 0) (nw 1)) ol2_100 nl2_100 nw nx2_100 ps (tmE tm (nw 0) (nw 1) (ntm (nw 0) (nw 1))) od2_100 ne2_100 pt) H := hP
            have hD : va_D A (MW cy a0 a1 a2 a3 a4 a5 a6 a7 ed (ntm (nw 0) (nw 1)) ol2_100 nl2_100 nw nx2_100 ps (tmE tm (nw 0) (nw 1) (ntm (nw 0) (nw 1))) od2_100 ne2_100 pt) := hD
            refine W.eq (g2 := F0 mt 103 ls [.int (iZ (bv (((stS (nw 0) (nw 1) (i - 1)).1.2 * (stT (nw 0) (nw 1) (i - 1)) + (stS (nw 0) (nw 1) (i - 1)).2.2) ≤ 60)))]) rfl ?_
            refine z_ifB_ne (tgt := 109) hx hb dX7_loadStandard_103 (by decide) (fun c_103 => ?_) (fun c_103 => ?_)
            · refine lv_iinc (v := iZ (i + 1)) (lv' := [(2, .int (iZ (i + 1))), (0, .ref a0), (1, .int (iZ kk))]) hx hb dX7_loadStandard_109 hl (k := 2) rfl (iZ_add _ _) (by decide) rfl (fun ls hl => ?_)
              refine lv_goto (tgt := 70) hx hb dX7_loadStandard_112 (by decide) ?_
              exact ih_70 (i + 1) ol2_100 nl2_100 nx2_100 od2_100 ne2_100 _ _ ⟨⟨(by omega), (fun _ => by rw [show i + 1 - 1 = i by omega, hst2]; exact (hq100 c_103).1), (fun q => by omega), (by rw [show i + 1 - 1 = i by omega, hst2]; have e := hq100 c_103; have e4 := e.2.2.2.1; have hnn := Int.mul_nonneg (show 0 ≤ (stS (nw 0) (nw 1) (i - 1)).1.2 by omega) (show 0 ≤ stT (nw 0) (nw 1) (i - 1) by omega); exact ⟨e.2.2.2.1, e.2.1, by omega, by omega, by omega, by omega⟩), (by rw [show i + 1 - 1 = i by omega, hst2]; exact ⟨(hq100 c_103).1.2.2.1, i5.1⟩), (by rw [show i + 1 - 1 = i by omega, hst2]; exact (hq100 c_103).2.2.2.2), (by rw [show i + 1 - 1 = i by omega, hst2]; exact (hq100 c_103).2.2.1), (fun j q1 q2 => by rcases (show j < i ∨ j = i by omega) with q | q; (· exact i8 j q1 q); (· rw [q, hst2]; exact c_103))⟩, hP, hD, Fh.of hS⟩ hS.2.2 ⟨by omega, by omega⟩ _ (lv_sub hl [1, 2, 0] rfl)
            · exact absurd (by have e := h4 i (by omega) (by omega); rw [hst2] at e; exact e) c_103
    · exfalso; omega
  · exfalso; omega
