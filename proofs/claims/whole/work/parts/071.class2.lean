set_option maxHeartbeats 4000000 in
set_option maxRecDepth 100000 in
theorem c_X5_init (lau : Launch) (G : va_G) (cy : Nat → ClassId) (h0 : Nat) (sz : Nat) (b n : Int)  : Met lau yX5_init wsX5_init ({ frames := 1, cells := 0, slots := 0, locals := 16 }) (P1 G cy [.ref h0, .long (lZ b), .int (iZ n)] (fun H => H.size = sz ∧ va_P G vwCl [(h0, .inr (4, [.long (lZ 0), .int (iZ 0)]))] H ∧ va_D (fun _ => True) [(h0, .inr (4, [.long (lZ 0), .int (iZ 0)]))])) (Q1 (fun rv H0 H1 => rv = none ∧ (True) ∧ va_P G vwCl [(h0, .inr (4, [.long (lZ b), .int (iZ n)]))] H1 ∧ va_D (va_A [(h0, .inr (4, [.long (lZ 0), .int (iZ 0)]))] sz) [(h0, .inr (4, [.long (lZ b), .int (iZ n)]))] ∧ Fh (va_A [(h0, .inr (4, [.long (lZ 0), .int (iZ 0)]))] sz) H0 H1)) 0 0 (va_A [(h0, .inr (4, [.long (lZ 0), .int (iZ 0)]))] sz) := by
  refine z_head (lv := [(0, .ref h0), (1, .long (lZ b)), (3, .int (iZ n))]) RX5 (by decide) rfl rfl (Nat.le_of_ble_eq_true rfl) rfl ?_
  intro pr ev s mt below meth cd ls hx hb hr hlocks hml hown hname hts hKK hP hl
  have hK := hKK.1
  obtain ⟨hsz, hP, hD0⟩ := hP
  subst hsz
  have hD := hD0.self (sz := s.heap.size)
  generalize hAe : va_A [(h0, .inr (4, [.long (lZ 0), .int (iZ 0)]))] s.heap.size = A at hD ⊢
  have hA : ∀ q : Nat, s.heap.size ≤ q → A q := fun q h => by rw [← hAe]; exact Or.inr h
  have hS : va_S A s.heap s.heap [] := va_S.rf
  have hP : va_P G vwCl [(h0, .inr (4, [.long (lZ 0), .int (iZ 0)]))] s.heap := hP
  refine lv_aload_n hx hb dX5_init_0 rfl (lv_at hl 0 rfl) ?_
  refine W.objInit hx hb hown (hts (.methodLink RX5 3 objectInit) (by decide +kernel)) (hts (.instanceMethod objectInit) (by decide +kernel)) (hts _ (List.mem_of_getElem? (i := 3) rfl)) rfl (by rw [hml]; exact hl.1) rfl dX5_init_1 (Nat.le_of_ble_eq_true rfl) (Nat.le_of_ble_eq_true rfl) ?_
  refine W.eq (g2 := F0 mt 4 ls []) rfl ?_
  refine lv_aload_n hx hb dX5_init_4 rfl (lv_at hl 0 rfl) ?_
  refine lv_lload_n hx hb dX5_init_5 rfl (lv_at hl 1 rfl) ?_
  refine va_putF (D := G) (ci := 4) (v := .long (lZ b)) (ty := .long) (C := RX5) (T := TX5) (N := 2) hx hb hts (by decide +kernel) tyX5 tyX5_ok nmX5 hown hK hP hD hS 0 rfl rfl 0 (by decide) (hts (.fieldLink RX5 9 "SturmianWords$Word" "bits" "J") (by decide +kernel)) (fun _ h9 => h9) rfl hname rfl (by decide +kernel) rfl rfl (Nat.le_of_ble_eq_true rfl) dX5_init_6 (fun H locs hP hD hS => ?_)
  have hP : va_P G vwCl [(h0, .inr (4, [.long (lZ b), .int (iZ 0)]))] H := hP
  have hD : va_D A [(h0, .inr (4, [.long (lZ b), .int (iZ 0)]))] := hD
  refine lv_aload_n hx hb dX5_init_9 rfl (lv_at hl 0 rfl) ?_
  refine lv_iload_n hx hb dX5_init_10 rfl (lv_at hl 2 rfl) ?_
  refine va_putF (D := G) (ci := 4) (v := .int (iZ n)) (ty := .int) (C := RX5) (T := TX5) (N := 2) hx hb hts (by decide +kernel) tyX5 tyX5_ok nmX5 hown hK hP hD hS 0 rfl rfl 1 (by decide) (hts (.fieldLink RX5 15 "SturmianWords$Word" "size" "I") (by decide +kernel)) (fun _ h9 => h9) rfl hname rfl (by decide +kernel) rfl rfl (Nat.le_of_ble_eq_true rfl) dX5_init_11 (fun H locs hP hD hS => ?_)
  have hP : va_P G vwCl [(h0, .inr (4, [.long (lZ b), .int (iZ n)]))] H := hP
  have hD : va_D A [(h0, .inr (4, [.long (lZ b), .int (iZ n)]))] := hD
  exact z_vretE hx hb hr hlocks dX5_init_14 hS.2.2 ⟨(show 0 ≤ 0 by omega), (show 0 ≤ 0 by omega)⟩ ⟨(rfl), (trivial), (hP), (hD), Fh.of hS⟩
set_option maxHeartbeats 4000000 in
set_option maxRecDepth 100000 in
theorem c_X3_init (lau : Launch) (G : va_G) (cy : Nat → ClassId) (h0 : Nat) (sz : Nat) (p q c : Int)  : Met lau yX3_init wsX3_init ({ frames := 1, cells := 0, slots := 0, locals := 16 }) (P1 G cy [.ref h0, .int (iZ p), .int (iZ q), .int (iZ c)] (fun H => H.size = sz ∧ va_P G vwCl [(h0, .inr (2, [.int (iZ 0), .int (iZ 0), .int (iZ 0)]))] H ∧ va_D (fun _ => True) [(h0, .inr (2, [.int (iZ 0), .int (iZ 0), .int (iZ 0)]))])) (Q1 (fun rv H0 H1 => rv = none ∧ (True) ∧ va_P G vwCl [(h0, .inr (2, [.int (iZ p), .int (iZ q), .int (iZ c)]))] H1 ∧ va_D (va_A [(h0, .inr (2, [.int (iZ 0), .int (iZ 0), .int (iZ 0)]))] sz) [(h0, .inr (2, [.int (iZ p), .int (iZ q), .int (iZ c)]))] ∧ Fh (va_A [(h0, .inr (2, [.int (iZ 0), .int (iZ 0), .int (iZ 0)]))] sz) H0 H1)) 0 0 (va_A [(h0, .inr (2, [.int (iZ 0), .int (iZ 0), .int (iZ 0)]))] sz) := by
  refine z_head (lv := [(0, .ref h0), (1, .int (iZ p)), (2, .int (iZ q)), (3, .int (iZ c))]) RX3 (by decide) rfl rfl (Nat.le_of_ble_eq_true rfl) rfl ?_
  intro pr ev s mt below meth cd ls hx hb hr hlocks hml hown hname hts hKK hP hl
  have hK := hKK.1
  obtain ⟨hsz, hP, hD0⟩ := hP
  subst hsz
  have hD := hD0.self (sz := s.heap.size)
  generalize hAe : va_A [(h0, .inr (2, [.int (iZ 0), .int (iZ 0), .int (iZ 0)]))] s.heap.size = A at hD ⊢
  have hA : ∀ q : Nat, s.heap.size ≤ q → A q := fun q h => by rw [← hAe]; exact Or.inr h
  have hS : va_S A s.heap s.heap [] := va_S.rf
  have hP : va_P G vwCl [(h0, .inr (2, [.int (iZ 0), .int (iZ 0), .int (iZ 0)]))] s.heap := hP
  refine lv_aload_n hx hb dX3_init_0 rfl (lv_at hl 0 rfl) ?_
  refine W.objInit hx hb hown (hts (.methodLink RX3 3 objectInit) (by decide +kernel)) (hts (.instanceMethod objectInit) (by decide +kernel)) (hts _ (List.mem_of_getElem? (i := 3) rfl)) rfl (by rw [hml]; exact hl.1) rfl dX3_init_1 (Nat.le_of_ble_eq_true rfl) (Nat.le_of_ble_eq_true rfl) ?_
  refine W.eq (g2 := F0 mt 4 ls []) rfl ?_
  refine lv_aload_n hx hb dX3_init_4 rfl (lv_at hl 0 rfl) ?_
  refine lv_iload_n hx hb dX3_init_5 rfl (lv_at hl 1 rfl) ?_
  refine va_putF (D := G) (ci := 2) (v := .int (iZ p)) (ty := .int) (C := RX3) (T := TX3) (N := 3) hx hb hts (by decide +kernel) tyX3 tyX3_ok nmX3 hown hK hP hD hS 0 rfl rfl 0 (by decide) (hts (.fieldLink RX3 9 "SturmianWords$Slope" "numerator" "I") (by decide +kernel)) (fun _ h9 => h9) rfl hname rfl (by decide +kernel) rfl rfl (Nat.le_of_ble_eq_true rfl) dX3_init_6 (fun H locs hP hD hS => ?_)
  have hP : va_P G vwCl [(h0, .inr (2, [.int (iZ p), .int (iZ 0), .int (iZ 0)]))] H := hP
  have hD : va_D A [(h0, .inr (2, [.int (iZ p), .int (iZ 0), .int (iZ 0)]))] := hD
  refine lv_aload_n hx hb dX3_init_9 rfl (lv_at hl 0 rfl) ?_
  refine lv_iload_n hx hb dX3_init_10 rfl (lv_at hl 2 rfl) ?_
  refine va_putF (D := G) (ci := 2) (v := .int (iZ q)) (ty := .int) (C := RX3) (T := TX3) (N := 3) hx hb hts (by decide +kernel) tyX3 tyX3_ok nmX3 hown hK hP hD hS 0 rfl rfl 1 (by decide) (hts (.fieldLink RX3 15 "SturmianWords$Slope" "denominator" "I") (by decide +kernel)) (fun _ h9 => h9) rfl hname rfl (by decide +kernel) rfl rfl (Nat.le_of_ble_eq_true rfl) dX3_init_11 (fun H locs hP hD hS => ?_)
  have hP : va_P G vwCl [(h0, .inr (2, [.int (iZ p), .int (iZ q), .int (iZ 0)]))] H := hP
  have hD : va_D A [(h0, .inr (2, [.int (iZ p), .int (iZ q), .int (iZ 0)]))] := hD
  refine lv_aload_n hx hb dX3_init_14 rfl (lv_at hl 0 rfl) ?_
  refine lv_iload_n hx hb dX3_init_15 rfl (lv_at hl 3 rfl) ?_
  refine va_putF (D := G) (ci := 2) (v := .int (iZ c)) (ty := .int) (C := RX3) (T := TX3) (N := 3) hx hb hts (by decide +kernel) tyX3 tyX3_ok nmX3 hown hK hP hD hS 0 rfl rfl 2 (by decide) (hts (.fieldLink RX3 18 "SturmianWords$Slope" "intercept" "I") (by decide +kernel)) (fun _ h9 => h9) rfl hname rfl (by decide +kernel) rfl rfl (Nat.le_of_ble_eq_true rfl) dX3_init_16 (fun H locs hP hD hS => ?_)
  have hP : va_P G vwCl [(h0, .inr (2, [.int (iZ p), .int (iZ q), .int (iZ c)]))] H := hP
  have hD : va_D A [(h0, .inr (2, [.int (iZ p), .int (iZ q), .int (iZ c)]))] := hD
  exact z_vretE hx hb hr hlocks dX3_init_19 hS.2.2 ⟨(show 0 ≤ 0 by omega), (show 0 ≤ 0 by omega)⟩ ⟨(rfl), (trivial), (hP), (hD), Fh.of hS⟩
set_option maxHeartbeats 4000000 in
set_option maxRecDepth 100000 in
theorem c_X4_init (lau : Launch) (G : va_G) (cy : Nat → ClassId) (h0 sl wo : Nat) (sz : Nat)  : Met lau yX4_init wsX4_init ({ frames := 1, cells := 0, slots := 0, locals := 16 }) (P1 G cy [.ref h0, .ref sl, .ref wo] (fun H => H.size = sz ∧ va_P G vwCl [(h0, .inr (3, [.null, .null]))] H ∧ va_D (fun _ => True) [(h0, .inr (3, [.null, .null]))])) (Q1 (fun rv H0 H1 => rv = none ∧ (True) ∧ va_P G vwCl [(h0, .inr (3, [.ref sl, .ref wo]))] H1 ∧ va_D (va_A [(h0, .inr (3, [.null, .null]))] sz) [(h0, .inr (3, [.ref sl, .ref wo]))] ∧ Fh (va_A [(h0, .inr (3, [.null, .null]))] sz) H0 H1)) 0 0 (va_A [(h0, .inr (3, [.null, .null]))] sz) := by
  refine z_head (lv := [(0, .ref h0), (1, .ref sl), (2, .ref wo)]) RX4 (by decide) rfl rfl (Nat.le_of_ble_eq_true rfl) rfl ?_
  intro pr ev s mt below meth cd ls hx hb hr hlocks hml hown hname hts hKK hP hl
  have hK := hKK.1
  obtain ⟨hsz, hP, hD0⟩ := hP
  subst hsz
  have hD := hD0.self (sz := s.heap.size)
  generalize hAe : va_A [(h0, .inr (3, [.null, .null]))] s.heap.size = A at hD ⊢
  have hA : ∀ q : Nat, s.heap.size ≤ q → A q := fun q h => by rw [← hAe]; exact Or.inr h
  have hS : va_S A s.heap s.heap [] := va_S.rf
  have hP : va_P G vwCl [(h0, .inr (3, [.null, .null]))] s.heap := hP
  refine lv_aload_n hx hb dX4_init_0 rfl (lv_at hl 0 rfl) ?_
  refine W.objInit hx hb hown (hts (.methodLink RX4 1 objectInit) (by decide +kernel)) (hts (.instanceMethod objectInit) (by decide +kernel)) (hts _ (List.mem_of_getElem? (i := 3) rfl)) rfl (by rw [hml]; exact hl.1) rfl dX4_init_1 (Nat.le_of_ble_eq_true rfl) (Nat.le_of_ble_eq_true rfl) ?_
  refine W.eq (g2 := F0 mt 4 ls []) rfl ?_
  refine lv_aload_n hx hb dX4_init_4 rfl (lv_at hl 0 rfl) ?_
  refine lv_aload_n hx hb dX4_init_5 rfl (lv_at hl 1 rfl) ?_
  refine va_putF (D := G) (ci := 3) (v := .ref sl) (ty := .object "SturmianWords$Slope") (C := RX4) (T := TX4) (N := 2) hx hb hts (by decide +kernel) tyX4 tyX4_ok nmX4 hown hK hP hD hS 0 rfl rfl 0 (by decide) (hts (.fieldLink RX4 7 "SturmianWords$State" "slope" "LSturmianWords$Slope;") (by decide +kernel)) (fun _ h9 => h9) rfl hname rfl (by decide +kernel) rfl rfl (Nat.le_of_ble_eq_true rfl) dX4_init_6 (fun H locs hP hD hS => ?_)
  have hP : va_P G vwCl [(h0, .inr (3, [.ref sl, .null]))] H := hP
  have hD : va_D A [(h0, .inr (3, [.ref sl, .null]))] := hD
  refine lv_aload_n hx hb dX4_init_9 rfl (lv_at hl 0 rfl) ?_
  refine lv_aload_n hx hb dX4_init_10 rfl (lv_at hl 2 rfl) ?_
  refine va_putF (D := G) (ci := 3) (v := .ref wo) (ty := .object "SturmianWords$Word") (C := RX4) (T := TX4) (N := 2) hx hb hts (by decide +kernel) tyX4 tyX4_ok nmX4 hown hK hP hD hS 0 rfl rfl 1 (by decide) (hts (.fieldLink RX4 13 "SturmianWords$State" "word" "LSturmianWords$Word;") (by decide +kernel)) (fun _ h9 => h9) rfl hname rfl (by decide +kernel) rfl rfl (Nat.le_of_ble_eq_true rfl) dX4_init_11 (fun H locs hP hD hS => ?_)
  have hP : va_P G vwCl [(h0, .inr (3, [.ref sl, .ref wo]))] H := hP
  have hD : va_D A [(h0, .inr (3, [.ref sl, .ref wo]))] := hD
  exact z_vretE hx hb hr hlocks dX4_init_14 hS.2.2 ⟨(show 0 ≤ 0 by omega), (show 0 ≤ 0 by omega)⟩ ⟨(rfl), (trivial), (hP), (hD), Fh.of hS⟩
set_option maxHeartbeats 4000000 in
set_option maxRecDepth 100000 in
theorem c_X5_reversed (lau : Launch) (G : va_G) (cy : Nat → ClassId) (h0 : Nat) (sz : Nat) (b n : Int) (hn : 0 ≤ n ∧ n ≤ 60) (hw : 0 ≤ b ∧ b < pw n) : Met lau yX5_reversed wsX5_reversed ({ frames := 2, cells := 1, slots := 2, locals := 39 }) (P1 G cy [.ref h0] (fun H => H.size = sz ∧ va_P G vwCl [] H ∧ va_D (fun _ => True) [] ∧ va_P G vwCl [(h0, .inr (4, [.long (lZ b), .int (iZ n)]))] H ∧ NA (va_A [] sz) [(h0, .inr (4, [.long (lZ b), .int (iZ n)]))])) (Q1 (fun rv H0 H1 => ∃ (qo : Nat), rv = some (.ref qo) ∧ (True) ∧ va_P G vwCl [(qo, .inr (4, [.long (lZ (rvB b n)), .int (iZ n)]))] H1 ∧ va_D (va_A [] sz) [(qo, .inr (4, [.long (lZ (rvB b n)), .int (iZ n)]))] ∧ Fh (va_A [] sz) H0 H1)) 1 2 (va_A [] sz) := by
  refine z_head (lv := [(0, .ref h0)]) RX5 (by decide) rfl rfl (Nat.le_of_ble_eq_true rfl) rfl ?_
  intro pr ev s mt below meth cd ls hx hb hr hlocks hml hown hname hts hKK hP hl
  have hK := hKK.1
  obtain ⟨hsz, hP, hD0, hI0, hIA⟩ := hP
  subst hsz
  have hD := hD0.self (sz := s.heap.size)
  generalize hAe : va_A [] s.heap.size = A at hD hIA ⊢
  have hA : ∀ q : Nat, s.heap.size ≤ q → A q := fun q h => by rw [← hAe]; exact Or.inr h
  have hS : va_S A s.heap s.heap [] := va_S.rf
  have hP : va_P G vwCl [] s.heap := hP
  have hI : va_P G vwCl [(h0, .inr (4, [.long (lZ b), .int (iZ n)]))] s.heap := hI0
  have hp61 := pw_61 hn.2
  refine lv_lconst (v := lZ 0) hx hb dX5_reversed_0 rfl ?_
  refine lv_lstore_n (lv' := [(1, .long (lZ 0)), (0, .ref h0)]) hx hb dX5_reversed_1 rfl hl (by decide) rfl (fun ls hl => ?_)
  refine lv_iconst (v := iZ 0) hx hb dX5_reversed_2 rfl ?_
  refine lv_istore_n (lv' := [(3, .int (iZ 0)), (1, .long (lZ 0)), (0, .ref h0)]) hx hb dX5_reversed_3 rfl hl (by decide) rfl (fun ls hl => ?_)
  refine z_loop2 (nL := 4) (fun (r : Int) (k : Int) => [(0, .ref h0), (1, .long (lZ r)), (3, .int (iZ k))]) (fun (r : Int) (k : Int) => (0 ≤ k ∧ k ≤ n) ∧ (r = rvB b k)) (fun (r : Int) (k : Int) => n - k) (a1 := 0) (a2 := 0) ⟨(by omega), ((it_0 (Int.le_refl 0)).symm)⟩ (lv_sub hl [2, 1, 0] rfl) ?_
  rintro r k ⟨i1, i2⟩ ih_4 ls hl
  have hrr := nat_r (P := fun k => 0 ≤ rvB b k ∧ rvB b k < pw k) (rvB_r (b := b)) i1.1
  have hrr : 0 ≤ rvB b k ∧ rvB b k < pw k := hrr
  rw [← i2] at hrr
  have hpk := pw_61 (k := k) (by omega)
  have hp1 : pw 1 = 2 := rfl
  have hlo : r * pw 1 = r * 2 := by rw [pw_1]
  have hpp := pw_pos k
  have hdv := Int.ediv_nonneg (show 0 ≤ b by omega) (Int.le_of_lt hpp)
  have hdl := Int.ediv_le_self (pw k) (show 0 ≤ b by omega)
  have hm1 : 0 ≤ b / pw k % pw 1 ∧ b / pw k % pw 1 < 2 := by rw [pw_1]; omega
  refine lv_iload_n hx hb dX5_reversed_4 rfl (lv_at hl 2 rfl) ?_
  refine lv_aload_n hx hb dX5_reversed_5 rfl (lv_at hl 0 rfl) ?_
  refine va_get (D := G) (ci := 4) (v := .int (iZ n)) (C := RX5) (T := TX5) (N := 2) hx hb hts (by decide +kernel) hown hK hI 0 rfl rfl 1 (by decide) (hts (.fieldLink RX5 15 "SturmianWords$Word" "size" "I") (by decide +kernel)) (fun _ h9 => h9) rfl dX5_reversed_6 ?_
  refine z_icmp_ge (tgt := 31) hx hb dX5_reversed_9 (by decide) (by omega) (fun c_9 => ?_) (fun c_9 => ?_)
  · rw [show k = n by omega] at i2
    refine va_new (D := G) (ci := 4) (fs := [.long (lZ 0), .int (iZ 0)]) (C := RX5) (T := TX5) (N := 2) hx hb hts (by decide +kernel) tyX5 tyX5_ok hown (hts (.classLink RX5 10 RX5) (by decide +kernel)) (hts (.instantiable RX5 2) (by decide +kernel)) (hts (.initialized RX5) (by decide +kernel)) hK hP hD hS hA rfl (fun j hj => by rcases (show j = 0 ∨ j = 1 by omega) with rfl | rfl <;> rfl) (show 0 + 1 ≤ 1 by omega) (show 0 + 2 ≤ 2 by omega) dX5_reversed_31 (fun n31_1 H hP hD hS => ?_)
    have hP : va_P G vwCl [(n31_1, .inr (4, [.long (lZ 0), .int (iZ 0)]))] H := hP
    have hD : va_D A [(n31_1, .inr (4, [.long (lZ 0), .int (iZ 0)]))] := hD
    have hI : va_P G vwCl [(h0, .inr (4, [.long (lZ b), .int (iZ n)]))] H := im_keep2 hI0 hIA (Fh.of hS)
    refine lv_dup hx hb dX5_reversed_34 rfl ?_
    refine lv_lload_n hx hb dX5_reversed_35 rfl (lv_at hl 1 rfl) ?_
    refine lv_aload_n hx hb dX5_reversed_36 rfl (lv_at hl 0 rfl) ?_
    refine va_get (D := G) (ci := 4) (v := .int (iZ n)) (C := RX5) (T := TX5) (N := 2) hx hb hts (by decide +kernel) hown hK hI 0 rfl rfl 1 (by decide) (hts (.fieldLink RX5 15 "SturmianWords$Word" "size" "I") (by decide +kernel)) (fun _ h9 => h9) rfl dX5_reversed_37 ?_
    have hPc := hP.sub (ws' := [(n31_1, .inr (4, [.long (lZ 0), .int (iZ 0)]))]) [0] rfl
    have hDc := (hD.sub (ws' := [(n31_1, .inr (4, [.long (lZ 0), .int (iZ 0)]))]) [0] (by decide) rfl).weaken (B := fun _ => True) (fun _ _ _ _ => trivial)
    have hFc := va_free (wc := [(n31_1, .inr (4, [.long (lZ 0), .int (iZ 0)]))]) hD hS hA [0] rfl
    refine z_callE (A := A) (va_runI (As := [.long (lZ r), .int (iZ n)]) (rest := [.ref n31_1]) ⟨hx, hb, hml, hown, hts⟩ (c_X5_init lau G cy n31_1 H.size r n) (cwI 2 hts gX5_reversed_X5_init rfl rfl rfl (hts (.initialized RX5) (by decide +kernel)) (hts (.methodLink RX5 29 yX5_init) (by decide +kernel)) (hts (.instanceMethod yX5_init) (by decide +kernel)) rfl (by decide +kernel) ⟨Nat.le_of_ble_eq_true rfl, Nat.le_of_ble_eq_true rfl⟩) ⟨P1_blind, P1_mk hKK (⟨rfl, hPc, hDc⟩)⟩ rfl rfl hl.1 rfl (lv_room (Nat.le_of_ble_eq_true rfl)) dX5_reversed_40 ⟨(show 1 + 0 ≤ 1 by omega), (show 2 + 0 ≤ 2 by omega)⟩) hS.2.2 hFc (fun v H1 locs1 hR hL1 => ?_)
    obtain ⟨rfl, hq40, hP1, hD1, hF1⟩ := hR
    obtain ⟨hP, hD⟩ := va_join (wr := []) (w1 := [(n31_1, .inr (4, [.long (lZ r), .int (iZ n)]))]) hP hD [0] [] rfl rfl (by decide) (by decide) hF1.2 hFc hP1 hD1
    have hS : va_S A s.heap H1 locs1 := Fh.S ((Fh.of hS).tr hF1 (fun q _ h => hFc q h)) hL1
    clear hPc hDc hFc hP1 hD1 hF1 hL1
    generalize H1 = H at hP hS ⊢
    have hP : va_P G vwCl [(n31_1, .inr (4, [.long (lZ r), .int (iZ n)]))] H := hP
    have hD : va_D A [(n31_1, .inr (4, [.long (lZ r), .int (iZ n)]))] := hD
    refine W.eq (g2 := F0 mt 43 ls [.ref n31_1]) rfl ?_
    have hI : va_P G vwCl [(h0, .inr (4, [.long (lZ b), .int (iZ n)]))] H := im_keep2 hI0 hIA (Fh.of hS)
    rw [i2] at hP hD
    exact z_aretE hx hb hr (Or.inl ⟨_, rfl⟩) hlocks dX5_reversed_43 (Or.inr ⟨_, rfl⟩) hS.2.2 ⟨(show 1 ≤ 1 by omega), (show 2 ≤ 2 by omega)⟩ ⟨n31_1, (rfl), (trivial), (hP), (hD), Fh.of hS⟩
  · refine lv_lload_n hx hb dX5_reversed_12 rfl (lv_at hl 1 rfl) ?_
    refine lv_iconst (v := iZ 1) hx hb dX5_reversed_13 rfl ?_
    refine z_lshl hx hb dX5_reversed_14 (by omega) ?_
    refine lv_aload_n hx hb dX5_reversed_15 rfl (lv_at hl 0 rfl) ?_
    refine va_get (D := G) (ci := 4) (v := .long (lZ b)) (C := RX5) (T := TX5) (N := 2) hx hb hts (by decide +kernel) hown hK hI 0 rfl rfl 0 (by decide) (hts (.fieldLink RX5 9 "SturmianWords$Word" "bits" "J") (by decide +kernel)) (fun _ h9 => h9) rfl dX5_reversed_16 ?_
    refine lv_iload_n hx hb dX5_reversed_19 rfl (lv_at hl 2 rfl) ?_
    refine z_lushr hx hb dX5_reversed_20 (by omega) ?_
    refine lv_lconst (v := lZ 1) hx hb dX5_reversed_21 rfl ?_
    refine z_mask (k := 1) hx hb dX5_reversed_22 (rfl) (by omega) ?_
    refine z_lor (k := 1) hx hb dX5_reversed_23 (by omega) ?_
    refine lv_lstore_n (lv' := [(1, .long (lZ ((r * pw 1) + ((b / pw k) % pw 1)))), (0, .ref h0), (3, .int (iZ k))]) hx hb dX5_reversed_24 rfl hl (by decide) rfl (fun ls hl => ?_)
    refine lv_iinc (v := iZ (k + 1)) (lv' := [(3, .int (iZ (k + 1))), (1, .long (lZ ((r * pw 1) + ((b / pw k) % pw 1)))), (0, .ref h0)]) hx hb dX5_reversed_25 hl (k := 2) rfl (iZ_add _ _) (by decide) rfl (fun ls hl => ?_)
    refine lv_goto (tgt := 4) hx hb dX5_reversed_28 (by decide) ?_
    exact ih_4 ((r * pw 1) + ((b / pw k) % pw 1)) (k + 1) ⟨(by omega), (by rw [rvB_s i1.1, ← i2]; rfl)⟩ ⟨by omega, by omega⟩ _ (lv_sub hl [2, 1, 0] rfl)
set_option maxHeartbeats 4000000 in
set_option maxRecDepth 100000 in
theorem c_X5_repeatedThen_no (lau : Launch) (G : va_G) (cy : Nat → ClassId) (h0 h1 : Nat) (sz : Nat) (b n t b2 n2 : Int) (hn : 1 ≤ n ∧ n ≤ 60) (hn2 : 1 ≤ n2 ∧ n2 ≤ 60) (ht : 0 ≤ t ∧ t ≤ 1000) (h3 : 60 < n * t + n2) : Met lau yX5_repeatedThen wsX5_repeatedThen ({ frames := 2, cells := 0, slots := 0, locals := 39 }) (P1 G cy [.ref h0, .int (iZ t), .ref h1] (fun H => H.size = sz ∧ va_P G vwCl [] H ∧ va_D (fun _ => True) [] ∧ va_P G vwCl [(h0, .inr (4, [.long (lZ b), .int (iZ n)])), (h1, .inr (4, [.long (lZ b2), .int (iZ n2)]))] H ∧ NA (va_A [] sz) [(h0, .inr (4, [.long (lZ b), .int (iZ n)])), (h1, .inr (4, [.long (lZ b2), .int (iZ n2)]))])) (Q1 (fun rv H0 H1 => rv = some .null ∧ (True) ∧ va_P G vwCl [] H1 ∧ va_D (va_A [] sz) [] ∧ Fh (va_A [] sz) H0 H1)) 0 0 (va_A [] sz) := by
  refine z_head (lv := [(0, .ref h0), (1, .int (iZ t)), (2, .ref h1)]) RX5 (by decide) rfl rfl (Nat.le_of_ble_eq_true rfl) rfl ?_
  intro pr ev s mt below meth cd ls hx hb hr hlocks hml hown hname hts hKK hP hl
  have hK := hKK.1
  obtain ⟨hsz, hP, hD0, hI0, hIA⟩ := hP
  subst hsz
  have hD := hD0.self (sz := s.heap.size)
  generalize hAe : va_A [] s.heap.size = A at hD hIA ⊢
  have hA : ∀ q : Nat, s.heap.size ≤ q → A q := fun q h => by rw [← hAe]; exact Or.inr h
  have hS : va_S A s.heap s.heap [] := va_S.rf
  have hP : va_P G vwCl [] s.heap := hP
  have hI : va_P G vwCl [(h0, .inr (4, [.long (lZ b), .int (iZ n)])), (h1, .inr (4, [.long (lZ b2), .int (iZ n2)]))] s.heap := hI0
  have hm1 : 0 ≤ t * n := Int.mul_nonneg (by omega) (by omega)
  have hm2 : t * n ≤ 1000 * 60 := Int.mul_le_mul (by omega) (by omega) (by omega) (by omega)
  rw [Int.mul_comm] at h3
  refine lv_iload_n hx hb dX5_repeatedThen_0 rfl (lv_at hl 1 rfl) ?_
  refine lv_aload_n hx hb dX5_repeatedThen_1 rfl (lv_at hl 0 rfl) ?_
  refine va_get (D := G) (ci := 4) (v := .int (iZ n)) (C := RX5) (T := TX5) (N := 2) hx hb hts (by decide +kernel) hown hK hI 0 rfl rfl 1 (by decide) (hts (.fieldLink RX5 15 "SturmianWords$Word" "size" "I") (by decide +kernel)) (fun _ h9 => h9) rfl dX5_repeatedThen_2 ?_
  refine z_imul hx hb dX5_repeatedThen_5 ?_
  refine lv_aload_n hx hb dX5_repeatedThen_6 rfl (lv_at hl 2 rfl) ?_
  refine va_get (D := G) (ci := 4) (v := .int (iZ n2)) (C := RX5) (T := TX5) (N := 2) hx hb hts (by decide +kernel) hown hK hI 1 rfl rfl 1 (by decide) (hts (.fieldLink RX5 15 "SturmianWords$Word" "size" "I") (by decide +kernel)) (fun _ h9 => h9) rfl dX5_repeatedThen_7 ?_
  refine z_iadd hx hb dX5_repeatedThen_10 ?_
  refine lv_istore_n (lv' := [(3, .int (iZ ((t * n) + n2))), (0, .ref h0), (1, .int (iZ t)), (2, .ref h1)]) hx hb dX5_repeatedThen_11 rfl hl (by decide) rfl (fun ls hl => ?_)
  refine lv_iload_n hx hb dX5_repeatedThen_12 rfl (lv_at hl 0 rfl) ?_
  refine lv_bipush (v := iZ 60) hx hb dX5_repeatedThen_13 (by decide +kernel) ?_
  refine z_icmp_le (tgt := 20) hx hb dX5_repeatedThen_15 (by decide) (by omega) (fun c_15 => ?_) (fun c_15 => ?_)
  · exfalso; omega
  · refine lv_null hx hb dX5_repeatedThen_18 ?_
    exact z_aretE hx hb hr (Or.inl ⟨_, rfl⟩) hlocks dX5_repeatedThen_19 (Or.inl rfl) hS.2.2 ⟨(show 0 ≤ 0 by omega), (show 0 ≤ 0 by omega)⟩ ⟨(rfl), (trivial), (hP), (hD), Fh.of hS⟩
set_option maxHeartbeats 4000000 in
set_option maxRecDepth 100000 in
theorem c_X5_repeatedThen (lau : Launch) (G : va_G) (cy : Nat → ClassId) (h0 h1 : Nat) (sz : Nat) (b n t b2 n2 : Int) (hn : 1 ≤ n ∧ n ≤ 60) (hw : 0 ≤ b ∧ b < pw n) (hn2 : 1 ≤ n2 ∧ n2 ≤ 60) (hw2 : 0 ≤ b2 ∧ b2 < pw n2) (ht : 0 ≤ t ∧ t ≤ 1000) (h3 : n * t + n2 ≤ 60) : Met lau yX5_repeatedThen wsX5_repeatedThen ({ frames := 2, cells := 1, slots := 2, locals := 39 }) (P1 G cy [.ref h0, .int (iZ t), .ref h1] (fun H => H.size = sz ∧ va_P G vwCl [] H ∧ va_D (fun _ => True) [] ∧ va_P G vwCl [(h0, .inr (4, [.long (lZ b), .int (iZ n)])), (h1, .inr (4, [.long (lZ b2), .int (iZ n2)]))] H ∧ NA (va_A [] sz) [(h0, .inr (4, [.long (lZ b), .int (iZ n)])), (h1, .inr (4, [.long (lZ b2), .int (iZ n2)]))])) (Q1 (fun rv H0 H1 => ∃ (qo : Nat), rv = some (.ref qo) ∧ (True) ∧ va_P G vwCl [(qo, .inr (4, [.long (lZ (rpB b n t * pw n2 + b2)), .int (iZ (n * t + n2))]))] H1 ∧ va_D (va_A [] sz) [(qo, .inr (4, [.long (lZ (rpB b n t * pw n2 + b2)), .int (iZ (n * t + n2))]))] ∧ Fh (va_A [] sz) H0 H1)) 1 2 (va_A [] sz) := by
  refine z_head (lv := [(0, .ref h0), (1, .int (iZ t)), (2, .ref h1)]) RX5 (by decide) rfl rfl (Nat.le_of_ble_eq_true rfl) rfl ?_
  intro pr ev s mt below meth cd ls hx hb hr hlocks hml hown hname hts hKK hP hl
  have hK := hKK.1
  obtain ⟨hsz, hP, hD0, hI0, hIA⟩ := hP
  subst hsz
  have hD := hD0.self (sz := s.heap.size)
  generalize hAe : va_A [] s.heap.size = A at hD hIA ⊢
  have hA : ∀ q : Nat, s.heap.size ≤ q → A q := fun q h => by rw [← hAe]; exact Or.inr h
  have hS : va_S A s.heap s.heap [] := va_S.rf
  have hP : va_P G vwCl [] s.heap := hP
  have hI : va_P G vwCl [(h0, .inr (4, [.long (lZ b), .int (iZ n)])), (h1, .inr (4, [.long (lZ b2), .int (iZ n2)]))] s.heap := hI0
  have hm1 : 0 ≤ n * t := Int.mul_nonneg (by omega) (by omega)
  have hmc : t * n = n * t := Int.mul_comm t n
  refine lv_iload_n hx hb dX5_repeatedThen_0 rfl (lv_at hl 1 rfl) ?_
  refine lv_aload_n hx hb dX5_repeatedThen_1 rfl (lv_at hl 0 rfl) ?_
  refine va_get (D := G) (ci := 4) (v := .int (iZ n)) (C := RX5) (T := TX5) (N := 2) hx hb hts (by decide +kernel) hown hK hI 0 rfl rfl 1 (by decide) (hts (.fieldLink RX5 15 "SturmianWords$Word" "size" "I") (by decide +kernel)) (fun _ h9 => h9) rfl dX5_repeatedThen_2 ?_
  refine z_imul hx hb dX5_repeatedThen_5 ?_
  refine lv_aload_n hx hb dX5_repeatedThen_6 rfl (lv_at hl 2 rfl) ?_
  refine va_get (D := G) (ci := 4) (v := .int (iZ n2)) (C := RX5) (T := TX5) (N := 2) hx hb hts (by decide +kernel) hown hK hI 1 rfl rfl 1 (by decide) (hts (.fieldLink RX5 15 "SturmianWords$Word" "size" "I") (by decide +kernel)) (fun _ h9 => h9) rfl dX5_repeatedThen_7 ?_
  refine z_iadd hx hb dX5_repeatedThen_10 ?_
  refine z_top (b := (n * t + n2)) (by rw [hmc]) ?_
  refine lv_istore_n (lv' := [(3, .int (iZ (n * t + n2))), (0, .ref h0), (1, .int (iZ t)), (2, .ref h1)]) hx hb dX5_repeatedThen_11 rfl hl (by decide) rfl (fun ls hl => ?_)
  refine lv_iload_n hx hb dX5_repeatedThen_12 rfl (lv_at hl 0 rfl) ?_
  refine lv_bipush (v := iZ 60) hx hb dX5_repeatedThen_13 (by decide +kernel) ?_
  refine z_icmp_le (tgt := 20) hx hb dX5_repeatedThen_15 (by decide) (by omega) (fun c_15 => ?_) (fun c_15 => ?_)
  · refine lv_lconst (v := lZ 0) hx hb dX5_repeatedThen_20 rfl ?_
    refine lv_lstore (lv' := [(4, .long (lZ 0)), (3, .int (iZ (n * t + n2))), (0, .ref h0), (1, .int (iZ t)), (2, .ref h1)]) hx hb dX5_repeatedThen_21 hl (by decide) rfl (fun ls hl => ?_)
    refine lv_iconst (v := iZ 0) hx hb dX5_repeatedThen_23 rfl ?_
    refine lv_istore (lv' := [(6, .int (iZ 0)), (4, .long (lZ 0)), (3, .int (iZ (n * t + n2))), (0, .ref h0), (1, .int (iZ t)), (2, .ref h1)]) hx hb dX5_repeatedThen_24 hl (by decide) rfl (fun ls hl => ?_)
    refine z_loop2 (nL := 7) (fun (r : Int) (k : Int) => [(0, .ref h0), (1, .int (iZ t)), (2, .ref h1), (3, .int (iZ (n * t + n2))), (4, .long (lZ r)), (6, .int (iZ k))]) (fun (r : Int) (k : Int) => (0 ≤ k ∧ k ≤ t) ∧ (r = rpB b n k)) (fun (r : Int) (k : Int) => t - k) (a1 := 0) (a2 := 0) ⟨(by omega), ((rpB_0 _ _).symm)⟩ (lv_sub hl [3, 4, 5, 2, 1, 0] rfl) ?_
    rintro r k ⟨i1, i2⟩ ih_26 ls hl
    have hrr := nat_r (P := fun k => 0 ≤ rpB b n k ∧ rpB b n k < pw (n * k)) (rpB_r (by omega) hw) i1.1
    have hrr : 0 ≤ rpB b n k ∧ rpB b n k < pw (n * k) := hrr
    rw [← i2] at hrr
    have hnk : n * k ≤ n * t := Int.mul_le_mul_of_nonneg_left (by omega) (by omega)
    have hnk0 : 0 ≤ n * k := Int.mul_nonneg (by omega) (by omega)
    refine lv_iload hx hb dX5_repeatedThen_26 (lv_at hl 5 rfl) ?_
    refine lv_iload_n hx hb dX5_repeatedThen_28 rfl (lv_at hl 1 rfl) ?_
    refine z_icmp_ge (tgt := 52) hx hb dX5_repeatedThen_29 (by decide) (by omega) (fun c_29 => ?_) (fun c_29 => ?_)
    · have hkt : k = t := by omega
      rw [hkt] at i2 hrr
      have hcr2 := cat_r (na := n * t) (nb := n2) (by omega) (by omega) hrr hw2
      have hp62 := pw_61 (k := n * t + n2) (by omega)
      refine va_new (D := G) (ci := 4) (fs := [.long (lZ 0), .int (iZ 0)]) (C := RX5) (T := TX5) (N := 2) hx hb hts (by decide +kernel) tyX5 tyX5_ok hown (hts (.classLink RX5 10 RX5) (by decide +kernel)) (hts (.instantiable RX5 2) (by decide +kernel)) (hts (.initialized RX5) (by decide +kernel)) hK hP hD hS hA rfl (fun j hj => by rcases (show j = 0 ∨ j = 1 by omega) with rfl | rfl <;> rfl) (show 0 + 1 ≤ 1 by omega) (show 0 + 2 ≤ 2 by omega) dX5_repeatedThen_52 (fun n52_1 H hP hD hS => ?_)
      have hP : va_P G vwCl [(n52_1, .inr (4, [.long (lZ 0), .int (iZ 0)]))] H := hP
      have hD : va_D A [(n52_1, .inr (4, [.long (lZ 0), .int (iZ 0)]))] := hD
      have hI : va_P G vwCl [(h0, .inr (4, [.long (lZ b), .int (iZ n)])), (h1, .inr (4, [.long (lZ b2), .int (iZ n2)]))] H := im_keep2 hI0 hIA (Fh.of hS)
      refine lv_dup hx hb dX5_repeatedThen_55 rfl ?_
      refine lv_lload hx hb dX5_repeatedThen_56 (lv_at hl 4 rfl) ?_
      refine lv_aload_n hx hb dX5_repeatedThen_58 rfl (lv_at hl 2 rfl) ?_
      refine va_get (D := G) (ci := 4) (v := .int (iZ n2)) (C := RX5) (T := TX5) (N := 2) hx hb hts (by decide +kernel) hown hK hI 1 rfl rfl 1 (by decide) (hts (.fieldLink RX5 15 "SturmianWords$Word" "size" "I") (by decide +kernel)) (fun _ h9 => h9) rfl dX5_repeatedThen_59 ?_
      refine z_lshl hx hb dX5_repeatedThen_62 (by omega) ?_
      refine lv_aload_n hx hb dX5_repeatedThen_63 rfl (lv_at hl 2 rfl) ?_
      refine va_get (D := G) (ci := 4) (v := .long (lZ b2)) (C := RX5) (T := TX5) (N := 2) hx hb hts (by decide +kernel) hown hK hI 1 rfl rfl 0 (by decide) (hts (.fieldLink RX5 9 "SturmianWords$Word" "bits" "J") (by decide +kernel)) (fun _ h9 => h9) rfl dX5_repeatedThen_64 ?_
      refine z_lor (k := n2) hx hb dX5_repeatedThen_67 (by omega) ?_
      refine lv_iload_n hx hb dX5_repeatedThen_68 rfl (lv_at hl 3 rfl) ?_
      have hPc := hP.sub (ws' := [(n52_1, .inr (4, [.long (lZ 0), .int (iZ 0)]))]) [0] rfl
      have hDc := (hD.sub (ws' := [(n52_1, .inr (4, [.long (lZ 0), .int (iZ 0)]))]) [0] (by decide) rfl).weaken (B := fun _ => True) (fun _ _ _ _ => trivial)
      have hFc := va_free (wc := [(n52_1, .inr (4, [.long (lZ 0), .int (iZ 0)]))]) hD hS hA [0] rfl
      refine z_callE (A := A) (va_runI (As := [.long (lZ ((r * pw n2) + b2)), .int (iZ (n * t + n2))]) (rest := [.ref n52_1]) ⟨hx, hb, hml, hown, hts⟩ (c_X5_init lau G cy n52_1 H.size ((r * pw n2) + b2) (n * t + n2)) (cwI 2 hts gX5_repeatedThen_X5_init rfl rfl rfl (hts (.initialized RX5) (by decide +kernel)) (hts (.methodLink RX5 29 yX5_init) (by decide +kernel)) (hts (.instanceMethod yX5_init) (by decide +kernel)) rfl (by decide +kernel) ⟨Nat.le_of_ble_eq_true rfl, Nat.le_of_ble_eq_true rfl⟩) ⟨P1_blind, P1_mk hKK (⟨rfl, hPc, hDc⟩)⟩ rfl rfl hl.1 rfl (lv_room (Nat.le_of_ble_eq_true rfl)) dX5_repeatedThen_69 ⟨(show 1 + 0 ≤ 1 by omega), (show 2 + 0 ≤ 2 by omega)⟩) hS.2.2 hFc (fun v H1 locs1 hR hL1 => ?_)
      obtain ⟨rfl, hq69, hP1, hD1, hF1⟩ := hR
      obtain ⟨hP, hD⟩ := va_join (wr := []) (w1 := [(n52_1, .inr (4, [.long (lZ ((r * pw n2) + b2)), .int (iZ (n * t + n2))]))]) hP hD [0] [] rfl rfl (by decide) (by decide) hF1.2 hFc hP1 hD1
      have hS : va_S A s.heap H1 locs1 := Fh.S ((Fh.of hS).tr hF1 (fun q _ h => hFc q h)) hL1
      clear hPc hDc hFc hP1 hD1 hF1 hL1
      generalize H1 = H at hP hS ⊢
      have hP : va_P G vwCl [(n52_1, .inr (4, [.long (lZ ((r * pw n2) + b2)), .int (iZ (n * t + n2))]))] H := hP
      have hD : va_D A [(n52_1, .inr (4, [.long (lZ ((r * pw n2) + b2)), .int (iZ (n * t + n2))]))] := hD
      refine W.eq (g2 := F0 mt 72 ls [.ref n52_1]) rfl ?_
      have hI : va_P G vwCl [(h0, .inr (4, [.long (lZ b), .int (iZ n)])), (h1, .inr (4, [.long (lZ b2), .int (iZ n2)]))] H := im_keep2 hI0 hIA (Fh.of hS)
      rw [i2] at hP hD
      exact z_aretE hx hb hr (Or.inl ⟨_, rfl⟩) hlocks dX5_repeatedThen_72 (Or.inr ⟨_, rfl⟩) hS.2.2 ⟨(show 1 ≤ 1 by omega), (show 2 ≤ 2 by omega)⟩ ⟨n52_1, (rfl), (trivial), (hP), (hD), Fh.of hS⟩
    · have hnk1 : n * (k + 1) ≤ n * t := Int.mul_le_mul_of_nonneg_left (by omega) (by omega)
      rw [Int.mul_add, Int.mul_one] at hnk1
      have hcr := cat_r (na := n * k) (nb := n) (by omega) (by omega) hrr hw
      have hp6 := pw_61 (k := n * k + n) (by omega)
      refine lv_lload hx hb dX5_repeatedThen_32 (lv_at hl 4 rfl) ?_
      refine lv_aload_n hx hb dX5_repeatedThen_34 rfl (lv_at hl 0 rfl) ?_
      refine va_get (D := G) (ci := 4) (v := .int (iZ n)) (C := RX5) (T := TX5) (N := 2) hx hb hts (by decide +kernel) hown hK hI 0 rfl rfl 1 (by decide) (hts (.fieldLink RX5 15 "SturmianWords$Word" "size" "I") (by decide +kernel)) (fun _ h9 => h9) rfl dX5_repeatedThen_35 ?_
      refine z_lshl hx hb dX5_repeatedThen_38 (by omega) ?_
      refine lv_aload_n hx hb dX5_repeatedThen_39 rfl (lv_at hl 0 rfl) ?_
      refine va_get (D := G) (ci := 4) (v := .long (lZ b)) (C := RX5) (T := TX5) (N := 2) hx hb hts (by decide +kernel) hown hK hI 0 rfl rfl 0 (by decide) (hts (.fieldLink RX5 9 "SturmianWords$Word" "bits" "J") (by decide +kernel)) (fun _ h9 => h9) rfl dX5_repeatedThen_40 ?_
      refine z_lor (k := n) hx hb dX5_repeatedThen_43 (by omega) ?_
      refine lv_lstore (lv' := [(4, .long (lZ ((r * pw n) + b))), (0, .ref h0), (1, .int (iZ t)), (2, .ref h1), (3, .int (iZ (n * t + n2))), (6, .int (iZ k))]) hx hb dX5_repeatedThen_44 hl (by decide) rfl (fun ls hl => ?_)
      refine lv_iinc (v := iZ (k + 1)) (lv' := [(6, .int (iZ (k + 1))), (4, .long (lZ ((r * pw n) + b))), (0, .ref h0), (1, .int (iZ t)), (2, .ref h1), (3, .int (iZ (n * t + n2)))]) hx hb dX5_repeatedThen_46 hl (k := 5) rfl (iZ_add _ _) (by decide) rfl (fun ls hl => ?_)
      refine lv_goto (tgt := 26) hx hb dX5_repeatedThen_49 (by decide) ?_
      exact ih_26 ((r * pw n) + b) (k + 1) ⟨(by omega), (by rw [rpB_s i1.1, ← i2])⟩ ⟨by omega, by omega⟩ _ (lv_sub hl [2, 3, 4, 5, 1, 0] rfl)
  · exfalso; omega
set_option maxHeartbeats 4000000 in
set_option maxRecDepth 100000 in
theorem c_X3_firstLetters (lau : Launch) (G : va_G) (cy : Nat → ClassId) (h0 : Nat) (sz : Nat) (p q c n up : Int) (hp : 0 ≤ p ∧ p ≤ q) (hq : 0 < q ∧ q ≤ 1000) (hc : 0 ≤ c ∧ c < q) (hn : 0 ≤ n ∧ n ≤ 60) (hu : 0 ≤ up ∧ up ≤ 1) : Met lau yX3_firstLetters wsX3_firstLetters ({ frames := 2, cells := 1, slots := 2, locals := 49 }) (P1 G cy [.ref h0, .int (iZ n), .int (iZ up)] (fun H => H.size = sz ∧ va_P G vwCl [] H ∧ va_D (fun _ => True) [] ∧ va_P G vwCl [(h0, .inr (2, [.int (iZ p), .int (iZ q), .int (iZ c)]))] H ∧ NA (va_A [] sz) [(h0, .inr (2, [.int (iZ p), .int (iZ q), .int (iZ c)]))])) (Q1 (fun rv H0 H1 => ∃ (qo : Nat), rv = some (.ref qo) ∧ (True) ∧ va_P G vwCl [(qo, .inr (4, [.long (lZ (mlB p q c up n)), .int (iZ n)]))] H1 ∧ va_D (va_A [] sz) [(qo, .inr (4, [.long (lZ (mlB p q c up n)), .int (iZ n)]))] ∧ Fh (va_A [] sz) H0 H1)) 1 2 (va_A [] sz) := by
  refine z_head (lv := [(0, .ref h0), (1, .int (iZ n)), (2, .int (iZ up))]) RX3 (by decide) rfl rfl (Nat.le_of_ble_eq_true rfl) rfl ?_
  intro pr ev s mt below meth cd ls hx hb hr hlocks hml hown hname hts hKK hP hl
  have hK := hKK.1
  obtain ⟨hsz, hP, hD0, hI0, hIA⟩ := hP
  subst hsz
  have hD := hD0.self (sz := s.heap.size)
  generalize hAe : va_A [] s.heap.size = A at hD hIA ⊢
  have hA : ∀ q : Nat, s.heap.size ≤ q → A q := fun q h => by rw [← hAe]; exact Or.inr h
  have hS : va_S A s.heap s.heap [] := va_S.rf
  have hP : va_P G vwCl [] s.heap := hP
  have hI : va_P G vwCl [(h0, .inr (2, [.int (iZ p), .int (iZ q), .int (iZ c)]))] s.heap := hI0
  refine lv_lconst (v := lZ 0) hx hb dX3_firstLetters_0 rfl ?_
  refine lv_lstore_n (lv' := [(3, .long (lZ 0)), (0, .ref h0), (1, .int (iZ n)), (2, .int (iZ up))]) hx hb dX3_firstLetters_1 rfl hl (by decide) rfl (fun ls hl => ?_)
  refine lv_iconst (v := iZ 0) hx hb dX3_firstLetters_2 rfl ?_
  refine lv_istore (lv' := [(5, .int (iZ 0)), (3, .long (lZ 0)), (0, .ref h0), (1, .int (iZ n)), (2, .int (iZ up))]) hx hb dX3_firstLetters_3 hl (by decide) rfl (fun ls hl => ?_)
  refine z_loop2 (nL := 6) (fun (r : Int) (k : Int) => [(0, .ref h0), (1, .int (iZ n)), (2, .int (iZ up)), (3, .long (lZ r)), (5, .int (iZ k))]) (fun (r : Int) (k : Int) => (0 ≤ k ∧ k ≤ n) ∧ (r = mlB p q c up k)) (fun (r : Int) (k : Int) => n - k) (a1 := 0) (a2 := 0) ⟨(by omega), ((it_0 (Int.le_refl 0)).symm)⟩ (lv_sub hl [2, 3, 4, 1, 0] rfl) ?_
  rintro r k ⟨i1, i2⟩ ih_5 ls hl
  have hrr := nat_r (P := fun k => 0 ≤ mlB p q c up k ∧ mlB p q c up k < pw k) (mlB_r hp hq.1) i1.1
  have hrr : 0 ≤ mlB p q c up k ∧ mlB p q c up k < pw k := hrr
  rw [← i2] at hrr
  have hpk := pw_61 (k := k) (by omega)
  have hp1 : pw 1 = 2 := rfl
  have hlo : r * pw 1 = r * 2 := by rw [pw_1]
  have hlr := mlt_r (c := c) (up := up) (n := k) hp hq.1
  refine lv_iload hx hb dX3_firstLetters_5 (lv_at hl 4 rfl) ?_
  refine lv_iload_n hx hb dX3_firstLetters_7 rfl (lv_at hl 1 rfl) ?_
  refine z_icmp_ge (tgt := 30) hx hb dX3_firstLetters_8 (by decide) (by omega) (fun c_8 => ?_) (fun c_8 => ?_)
  · rw [show k = n by omega] at i2
    refine va_new (D := G) (ci := 4) (fs := [.long (lZ 0), .int (iZ 0)]) (C := RX5) (T := TX5) (N := 2) hx hb hts (by decide +kernel) tyX5 tyX5_ok hown (hts (.classLink RX3 29 RX5) (by decide +kernel)) (hts (.instantiable RX5 2) (by decide +kernel)) (hts (.initialized RX5) (by decide +kernel)) hK hP hD hS hA rfl (fun j hj => by rcases (show j = 0 ∨ j = 1 by omega) with rfl | rfl <;> rfl) (show 0 + 1 ≤ 1 by omega) (show 0 + 2 ≤ 2 by omega) dX3_firstLetters_30 (fun n30_1 H hP hD hS => ?_)
    have hP : va_P G vwCl [(n30_1, .inr (4, [.long (lZ 0), .int (iZ 0)]))] H := hP
    have hD : va_D A [(n30_1, .inr (4, [.long (lZ 0), .int (iZ 0)]))] := hD
    have hI : va_P G vwCl [(h0, .inr (2, [.int (iZ p), .int (iZ q), .int (iZ c)]))] H := im_keep2 hI0 hIA (Fh.of hS)
    refine lv_dup hx hb dX3_firstLetters_33 rfl ?_
    refine lv_lload_n hx hb dX3_firstLetters_34 rfl (lv_at hl 3 rfl) ?_
    refine lv_iload_n hx hb dX3_firstLetters_35 rfl (lv_at hl 1 rfl) ?_
    have hPc := hP.sub (ws' := [(n30_1, .inr (4, [.long (lZ 0), .int (iZ 0)]))]) [0] rfl
    have hDc := (hD.sub (ws' := [(n30_1, .inr (4, [.long (lZ 0), .int (iZ 0)]))]) [0] (by decide) rfl).weaken (B := fun _ => True) (fun _ _ _ _ => trivial)
    have hFc := va_free (wc := [(n30_1, .inr (4, [.long (lZ 0), .int (iZ 0)]))]) hD hS hA [0] rfl
    refine z_callE (A := A) (va_runI (As := [.long (lZ r), .int (iZ n)]) (rest := [.ref n30_1]) ⟨hx, hb, hml, hown, hts⟩ (c_X5_init lau G cy n30_1 H.size r n) (cwI 2 hts gX3_firstLetters_X5_init rfl rfl rfl (hts (.initialized RX5) (by decide +kernel)) (hts (.methodLink RX3 31 yX5_init) (by decide +kernel)) (hts (.instanceMethod yX5_init) (by decide +kernel)) rfl (by decide +kernel) ⟨Nat.le_of_ble_eq_true rfl, Nat.le_of_ble_eq_true rfl⟩) ⟨P1_blind, P1_mk hKK (⟨rfl, hPc, hDc⟩)⟩ rfl rfl hl.1 rfl (lv_room (Nat.le_of_ble_eq_true rfl)) dX3_firstLetters_36 ⟨(show 1 + 0 ≤ 1 by omega), (show 2 + 0 ≤ 2 by omega)⟩) hS.2.2 hFc (fun v H1 locs1 hR hL1 => ?_)
    obtain ⟨rfl, hq36, hP1, hD1, hF1⟩ := hR
    obtain ⟨hP, hD⟩ := va_join (wr := []) (w1 := [(n30_1, .inr (4, [.long (lZ r), .int (iZ n)]))]) hP hD [0] [] rfl rfl (by decide) (by decide) hF1.2 hFc hP1 hD1
    have hS : va_S A s.heap H1 locs1 := Fh.S ((Fh.of hS).tr hF1 (fun q _ h => hFc q h)) hL1
    clear hPc hDc hFc hP1 hD1 hF1 hL1
    generalize H1 = H at hP hS ⊢
    have hP : va_P G vwCl [(n30_1, .inr (4, [.long (lZ r), .int (iZ n)]))] H := hP
    have hD : va_D A [(n30_1, .inr (4, [.long (lZ r), .int (iZ n)]))] := hD
    refine W.eq (g2 := F0 mt 39 ls [.ref n30_1]) rfl ?_
    have hI : va_P G vwCl [(h0, .inr (2, [.int (iZ p), .int (iZ q), .int (iZ c)]))] H := im_keep2 hI0 hIA (Fh.of hS)
    rw [i2] at hP hD
    exact z_aretE hx hb hr (Or.inl ⟨_, rfl⟩) hlocks dX3_firstLetters_39 (Or.inr ⟨_, rfl⟩) hS.2.2 ⟨(show 1 ≤ 1 by omega), (show 2 ≤ 2 by omega)⟩ ⟨n30_1, (rfl), (trivial), (hP), (hD), Fh.of hS⟩
  · refine lv_lload_n hx hb dX3_firstLetters_11 rfl (lv_at hl 3 rfl) ?_
    refine lv_iconst (v := iZ 1) hx hb dX3_firstLetters_12 rfl ?_
    refine z_lshl hx hb dX3_firstLetters_13 (by omega) ?_
    refine lv_aload_n hx hb dX3_firstLetters_14 rfl (lv_at hl 0 rfl) ?_
    refine lv_iload hx hb dX3_firstLetters_15 (lv_at hl 4 rfl) ?_
    refine lv_iload_n hx hb dX3_firstLetters_17 rfl (lv_at hl 2 rfl) ?_
    refine z_calli (va_runV (As := [.int (iZ k), .int (iZ up)]) (rest := [.long (lZ (r * pw 1))]) ⟨hx, hb, hml, hown, hts⟩ (c_X3_letter lau G cy h0 p q c k up (by first | assumption | omega) (by first | assumption | omega) (by first | assumption | omega) (by first | assumption | omega) (by first | assumption | omega)) (cwV 2 hts gX3_firstLetters_X3_letter rfl rfl rfl (by decide +kernel) ⟨Nat.le_of_ble_eq_true rfl, Nat.le_of_ble_eq_true rfl⟩) ⟨P1_blind, va_recv hK hI (ci := 2) (q0 := 0) rfl rfl, P1_mk hKK (hI.sub [0] rfl)⟩ rfl rfl hl.1 rfl (lv_room (Nat.le_of_ble_eq_true rfl)) dX3_firstLetters_18 ⟨(show 0 + 0 ≤ 1 by omega), (show 0 + 0 ≤ 2 by omega)⟩) ?_
    refine z_i2l hx hb dX3_firstLetters_21 (by omega) ?_
    refine z_lor (k := 1) hx hb dX3_firstLetters_22 (by omega) ?_
    refine lv_lstore_n (lv' := [(3, .long (lZ ((r * pw 1) + (mlt p q c up k)))), (0, .ref h0), (1, .int (iZ n)), (2, .int (iZ up)), (5, .int (iZ k))]) hx hb dX3_firstLetters_23 rfl hl (by decide) rfl (fun ls hl => ?_)
    refine lv_iinc (v := iZ (k + 1)) (lv' := [(5, .int (iZ (k + 1))), (3, .long (lZ ((r * pw 1) + (mlt p q c up k)))), (0, .ref h0), (1, .int (iZ n)), (2, .int (iZ up))]) hx hb dX3_firstLetters_24 hl (k := 4) rfl (iZ_add _ _) (by decide) rfl (fun ls hl => ?_)
    refine lv_goto (tgt := 5) hx hb dX3_firstLetters_27 (by decide) ?_
    exact ih_5 ((r * pw 1) + (mlt p q c up k)) (k + 1) ⟨(by omega), (by rw [mlB_s i1.1, ← i2]; rfl)⟩ ⟨by omega, by omega⟩ _ (lv_sub hl [2, 3, 4, 1, 0] rfl)
