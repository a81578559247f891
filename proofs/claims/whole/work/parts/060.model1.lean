set_option maxHeartbeats 4000000 in
set_option maxRecDepth 100000 in
theorem c_X7_in (lau : Launch) (G : va_G) (cy : Nat → ClassId) (v lo hi : Int) (h1 : -2147483648 ≤ v ∧ v < 2147483648 ∧ -2147483648 ≤ lo ∧ lo < 2147483648 ∧ -2147483648 ≤ hi ∧ hi < 2147483648) : Met lau yX7_in wsX7_in ({ frames := 0, cells := 0, slots := 0, locals := 0 }) (P1 G cy [.int (iZ v), .int (iZ lo), .int (iZ hi)] (fun _ => True)) (vp_Si (fun r => r = iZ (bv (lo ≤ v ∧ v ≤ hi)))) 0 0 (fun _ => False) := by
  refine z_head (lv := [(0, .int (iZ v)), (1, .int (iZ lo)), (2, .int (iZ hi))]) RX7 (by decide) rfl rfl (Nat.le_of_ble_eq_true rfl) rfl ?_
  intro pr ev s mt below meth cd ls hx hb hr hlocks hml hown hname hts hKK hP hl
  have hK := hKK.1
  refine lv_iload_n hx hb dX7_in_0 rfl (lv_at hl 0 rfl) ?_
  refine lv_iload_n hx hb dX7_in_1 rfl (lv_at hl 1 rfl) ?_
  refine z_icmp_lt (tgt := 14) hx hb dX7_in_2 (by decide) (by omega) (fun c_2 => ?_) (fun c_2 => ?_)
  · refine lv_iconst (v := iZ 0) hx hb dX7_in_14 rfl ?_
    exact z_zretP hx hb hr hlocks dX7_in_15 ((bv_f (by omega)).symm)
  · refine lv_iload_n hx hb dX7_in_5 rfl (lv_at hl 0 rfl) ?_
    refine lv_iload_n hx hb dX7_in_6 rfl (lv_at hl 2 rfl) ?_
    refine z_icmp_gt (tgt := 14) hx hb dX7_in_7 (by decide) (by omega) (fun c_7 => ?_) (fun c_7 => ?_)
    · refine lv_iconst (v := iZ 0) hx hb dX7_in_14 rfl ?_
      exact z_zretP hx hb hr hlocks dX7_in_15 ((bv_f (by omega)).symm)
    · refine lv_iconst (v := iZ 1) hx hb dX7_in_10 rfl ?_
      refine lv_goto (tgt := 15) hx hb dX7_in_11 (by decide) ?_
      exact z_zretP hx hb hr hlocks dX7_in_15 ((bv_t (by omega)).symm)
set_option maxHeartbeats 4000000 in
set_option maxRecDepth 100000 in
theorem c_X7_divisor (lau : Launch) (G : va_G) (cy : Nat → ClassId) (a d : Int) (h1 : 0 ≤ a ∧ a < 2147483648) (h2 : 0 ≤ d ∧ d < 2147483648) : Met lau yX7_divisor wsX7_divisor ({ frames := 0, cells := 0, slots := 0, locals := 0 }) (P1 G cy [.int (iZ a), .int (iZ d)] (fun _ => True)) (vp_Si (fun r => r = iZ ((Int.gcd a d : Int)))) 0 0 (fun _ => False) := by
  refine z_head (lv := [(0, .int (iZ a)), (1, .int (iZ d))]) RX7 (by decide) rfl rfl (Nat.le_of_ble_eq_true rfl) rfl ?_
  intro pr ev s mt below meth cd ls hx hb hr hlocks hml hown hname hts hKK hP hl
  have hK := hKK.1
  refine lv_iload_n hx hb dX7_divisor_0 rfl (lv_at hl 0 rfl) ?_
  refine lv_istore_n (lv' := [(2, .int (iZ a)), (0, .int (iZ a)), (1, .int (iZ d))]) hx hb dX7_divisor_1 rfl hl (by decide) rfl (fun ls hl => ?_)
  refine lv_iload_n hx hb dX7_divisor_2 rfl (lv_at hl 2 rfl) ?_
  refine lv_istore_n (lv' := [(3, .int (iZ d)), (2, .int (iZ a)), (0, .int (iZ a)), (1, .int (iZ d))]) hx hb dX7_divisor_3 rfl hl (by decide) rfl (fun ls hl => ?_)
  refine z_loop2 (nL := 5) (fun (x : Int) (y : Int) => [(0, .int (iZ a)), (1, .int (iZ d)), (2, .int (iZ x)), (3, .int (iZ y))]) (fun (x : Int) (y : Int) => (Int.gcd x y = Int.gcd a d) ∧ (0 ≤ x ∧ x < 2147483648) ∧ (0 ≤ y ∧ y < 2147483648)) (fun (x : Int) (y : Int) => y) (a1 := a) (a2 := d) ⟨(rfl), (by omega), (by omega)⟩ (lv_sub hl [2, 3, 1, 0] rfl) ?_
  rintro x y ⟨i1, i2, i3⟩ ih_4 ls hl
  refine lv_iload_n hx hb dX7_divisor_4 rfl (lv_at hl 3 rfl) ?_
  refine z_if_eq (tgt := 21) hx hb dX7_divisor_5 (by decide) (by omega) (fun c_5 => ?_) (fun c_5 => ?_)
  · refine lv_iload_n hx hb dX7_divisor_21 rfl (lv_at hl 2 rfl) ?_
    exact z_iretP hx hb hr hlocks dX7_divisor_22 (by rw [← i1, c_5, Int.gcd_comm]; exact (cd_0 (by omega)).symm)
  · refine lv_iload_n hx hb dX7_divisor_8 rfl (lv_at hl 2 rfl) ?_
    refine lv_iload_n hx hb dX7_divisor_9 rfl (lv_at hl 3 rfl) ?_
    refine z_irem hx hb dX7_divisor_10 (by omega) ?_
    refine z_tope (fun x11_1 ex11_1 => ?_)
    have e1 := Int.emod_nonneg x (show y ≠ 0 by omega)
    have e2 := Int.emod_lt_of_pos x (show 0 < y by omega)
    refine lv_istore (lv' := [(4, .int (iZ x11_1)), (0, .int (iZ a)), (1, .int (iZ d)), (2, .int (iZ x)), (3, .int (iZ y))]) hx hb dX7_divisor_11 hl (by decide) rfl (fun ls hl => ?_)
    refine lv_iload_n hx hb dX7_divisor_13 rfl (lv_at hl 4 rfl) ?_
    refine lv_istore_n (lv' := [(2, .int (iZ y)), (4, .int (iZ x11_1)), (0, .int (iZ a)), (1, .int (iZ d)), (3, .int (iZ y))]) hx hb dX7_divisor_14 rfl hl (by decide) rfl (fun ls hl => ?_)
    refine lv_iload hx hb dX7_divisor_15 (lv_at hl 1 rfl) ?_
    refine lv_istore_n (lv' := [(3, .int (iZ x11_1)), (2, .int (iZ y)), (4, .int (iZ x11_1)), (0, .int (iZ a)), (1, .int (iZ d))]) hx hb dX7_divisor_17 rfl hl (by decide) rfl (fun ls hl => ?_)
    refine lv_goto (tgt := 4) hx hb dX7_divisor_18 (by decide) ?_
    exact ih_4 y x11_1 ⟨(by rw [ex11_1, Int.gcd_comm, cd_step (by omega) (by omega), Int.gcd_comm y x, i1]), (by omega), (by omega)⟩ ⟨by omega, by omega⟩ _ (lv_sub hl [3, 4, 1, 0] rfl)
set_option maxHeartbeats 4000000 in
set_option maxRecDepth 100000 in
theorem c_X7_roundedUp (lau : Launch) (G : va_G) (cy : Nat → ClassId) (v q : Int) (h1 : 0 ≤ v ∧ v < 2147480000) (h2 : 0 < q ∧ q ≤ 1000) : Met lau yX7_roundedUp wsX7_roundedUp ({ frames := 0, cells := 0, slots := 0, locals := 0 }) (P1 G cy [.int (iZ v), .int (iZ q)] (fun _ => True)) (vp_Si (fun r => r = iZ ((v + q - 1) / q))) 0 0 (fun _ => False) := by
  refine z_head (lv := [(0, .int (iZ v)), (1, .int (iZ q))]) RX7 (by decide) rfl rfl (Nat.le_of_ble_eq_true rfl) rfl ?_
  intro pr ev s mt below meth cd ls hx hb hr hlocks hml hown hname hts hKK hP hl
  have hK := hKK.1
  refine lv_iload_n hx hb dX7_roundedUp_0 rfl (lv_at hl 0 rfl) ?_
  refine lv_iload_n hx hb dX7_roundedUp_1 rfl (lv_at hl 1 rfl) ?_
  refine z_iadd hx hb dX7_roundedUp_2 ?_
  refine lv_iconst (v := iZ 1) hx hb dX7_roundedUp_3 rfl ?_
  refine z_isub hx hb dX7_roundedUp_4 ?_
  refine lv_iload_n hx hb dX7_roundedUp_5 rfl (lv_at hl 1 rfl) ?_
  refine z_idiv hx hb dX7_roundedUp_6 (by omega) ?_
  exact z_iretP hx hb hr hlocks dX7_roundedUp_7 (rfl)
set_option maxHeartbeats 4000000 in
set_option maxRecDepth 100000 in
theorem c_X7_slopeNumerator (lau : Launch) (G : va_G) (cy : Nat → ClassId) (a0 a1 a2 a3 a4 a5 a6 a7 : Nat) (ed tc ol nl : Int) (nw : Int → Int)  : Met lau yX7_slopeNumerator wsX7_slopeNumerator ({ frames := 0, cells := 0, slots := 0, locals := 0 }) (P1 G cy [.ref a0] (fun H => va_P G vwCl [(a0, .inr (6, [.ref a1, .ref a2, .ref a3, .int (iZ ed), .ref a4, .int (iZ tc), .ref a5, .int (iZ ol), .ref a6, .int (iZ nl), .ref a7])), (a1, .inl (cy 0, 64, .inl (zf nw)))] H)) (vp_Si (fun r => r = iZ (nw 0))) 0 0 (fun _ => False) := by
  refine z_head (lv := [(0, .ref a0)]) RX7 (by decide) rfl rfl (Nat.le_of_ble_eq_true rfl) rfl ?_
  intro pr ev s mt below meth cd ls hx hb hr hlocks hml hown hname hts hKK hP hl
  have hK := hKK.1
  have hP : va_P G vwCl [(a0, .inr (6, [.ref a1, .ref a2, .ref a3, .int (iZ ed), .ref a4, .int (iZ tc), .ref a5, .int (iZ ol), .ref a6, .int (iZ nl), .ref a7])), (a1, .inl (cy 0, 64, .inl (zf nw)))] s.heap := hP
  refine lv_aload_n hx hb dX7_slopeNumerator_0 rfl (lv_at hl 0 rfl) ?_
  refine va_get (D := G) (ci := 6) (v := .ref a1) (C := RX7) (T := TX7) (N := 11) hx hb hts (by decide +kernel) hown hK hP 0 rfl rfl 0 (by decide) (hts (.fieldLink RX7 7 "SturmianWordsModel" "now" "[I") (by decide +kernel)) (fun _ h9 => h9) rfl dX7_slopeNumerator_1 ?_
  refine lv_iconst (v := iZ 0) hx hb dX7_slopeNumerator_4 rfl ?_
  refine z_iald (D := G) hx hb hK hP 1 0 rfl rfl (by omega) dX7_slopeNumerator_5 ?_
  exact z_iretP hx hb hr hlocks dX7_slopeNumerator_6 (rfl)
set_option maxHeartbeats 4000000 in
set_option maxRecDepth 100000 in
theorem c_X7_slopeDenominator (lau : Launch) (G : va_G) (cy : Nat → ClassId) (a0 a1 a2 a3 a4 a5 a6 a7 : Nat) (ed tc ol nl : Int) (nw : Int → Int)  : Met lau yX7_slopeDenominator wsX7_slopeDenominator ({ frames := 0, cells := 0, slots := 0, locals := 0 }) (P1 G cy [.ref a0] (fun H => va_P G vwCl [(a0, .inr (6, [.ref a1, .ref a2, .ref a3, .int (iZ ed), .ref a4, .int (iZ tc), .ref a5, .int (iZ ol), .ref a6, .int (iZ nl), .ref a7])), (a1, .inl (cy 0, 64, .inl (zf nw)))] H)) (vp_Si (fun r => r = iZ (nw 1))) 0 0 (fun _ => False) := by
  refine z_head (lv := [(0, .ref a0)]) RX7 (by decide) rfl rfl (Nat.le_of_ble_eq_true rfl) rfl ?_
  intro pr ev s mt below meth cd ls hx hb hr hlocks hml hown hname hts hKK hP hl
  have hK := hKK.1
  have hP : va_P G vwCl [(a0, .inr (6, [.ref a1, .ref a2, .ref a3, .int (iZ ed), .ref a4, .int (iZ tc), .ref a5, .int (iZ ol), .ref a6, .int (iZ nl), .ref a7])), (a1, .inl (cy 0, 64, .inl (zf nw)))] s.heap := hP
  refine lv_aload_n hx hb dX7_slopeDenominator_0 rfl (lv_at hl 0 rfl) ?_
  refine va_get (D := G) (ci := 6) (v := .ref a1) (C := RX7) (T := TX7) (N := 11) hx hb hts (by decide +kernel) hown hK hP 0 rfl rfl 0 (by decide) (hts (.fieldLink RX7 7 "SturmianWordsModel" "now" "[I") (by decide +kernel)) (fun _ h9 => h9) rfl dX7_slopeDenominator_1 ?_
  refine lv_iconst (v := iZ 1) hx hb dX7_slopeDenominator_4 rfl ?_
  refine z_iald (D := G) hx hb hK hP 1 0 rfl rfl (by omega) dX7_slopeDenominator_5 ?_
  exact z_iretP hx hb hr hlocks dX7_slopeDenominator_6 (rfl)
set_option maxHeartbeats 4000000 in
set_option maxRecDepth 100000 in
theorem c_X7_length (lau : Launch) (G : va_G) (cy : Nat → ClassId) (a0 a1 a2 a3 a4 a5 a6 a7 : Nat) (ed tc ol nl : Int) (nw : Int → Int)  : Met lau yX7_length wsX7_length ({ frames := 0, cells := 0, slots := 0, locals := 0 }) (P1 G cy [.ref a0] (fun H => va_P G vwCl [(a0, .inr (6, [.ref a1, .ref a2, .ref a3, .int (iZ ed), .ref a4, .int (iZ tc), .ref a5, .int (iZ ol), .ref a6, .int (iZ nl), .ref a7])), (a1, .inl (cy 0, 64, .inl (zf nw)))] H)) (vp_Si (fun r => r = iZ (nw 3))) 0 0 (fun _ => False) := by
  refine z_head (lv := [(0, .ref a0)]) RX7 (by decide) rfl rfl (Nat.le_of_ble_eq_true rfl) rfl ?_
  intro pr ev s mt below meth cd ls hx hb hr hlocks hml hown hname hts hKK hP hl
  have hK := hKK.1
  have hP : va_P G vwCl [(a0, .inr (6, [.ref a1, .ref a2, .ref a3, .int (iZ ed), .ref a4, .int (iZ tc), .ref a5, .int (iZ ol), .ref a6, .int (iZ nl), .ref a7])), (a1, .inl (cy 0, 64, .inl (zf nw)))] s.heap := hP
  refine lv_aload_n hx hb dX7_length_0 rfl (lv_at hl 0 rfl) ?_
  refine va_get (D := G) (ci := 6) (v := .ref a1) (C := RX7) (T := TX7) (N := 11) hx hb hts (by decide +kernel) hown hK hP 0 rfl rfl 0 (by decide) (hts (.fieldLink RX7 7 "SturmianWordsModel" "now" "[I") (by decide +kernel)) (fun _ h9 => h9) rfl dX7_length_1 ?_
  refine lv_iconst (v := iZ 3) hx hb dX7_length_4 rfl ?_
  refine z_iald (D := G) hx hb hK hP 1 0 rfl rfl (by omega) dX7_length_5 ?_
  exact z_iretP hx hb hr hlocks dX7_length_6 (rfl)
set_option maxHeartbeats 4000000 in
set_option maxRecDepth 100000 in
theorem c_X7_historySize (lau : Launch) (G : va_G) (cy : Nat → ClassId) (a0 a1 a2 a3 a4 a5 a6 a7 : Nat) (ed tc ol nl : Int) (nw : Int → Int)  : Met lau yX7_historySize wsX7_historySize ({ frames := 0, cells := 0, slots := 0, locals := 0 }) (P1 G cy [.ref a0] (fun H => va_P G vwCl [(a0, .inr (6, [.ref a1, .ref a2, .ref a3, .int (iZ ed), .ref a4, .int (iZ tc), .ref a5, .int (iZ ol), .ref a6, .int (iZ nl), .ref a7])), (a1, .inl (cy 0, 64, .inl (zf nw)))] H)) (vp_Si (fun r => r = iZ (ed))) 0 0 (fun _ => False) := by
  refine z_head (lv := [(0, .ref a0)]) RX7 (by decide) rfl rfl (Nat.le_of_ble_eq_true rfl) rfl ?_
  intro pr ev s mt below meth cd ls hx hb hr hlocks hml hown hname hts hKK hP hl
  have hK := hKK.1
  have hP : va_P G vwCl [(a0, .inr (6, [.ref a1, .ref a2, .ref a3, .int (iZ ed), .ref a4, .int (iZ tc), .ref a5, .int (iZ ol), .ref a6, .int (iZ nl), .ref a7])), (a1, .inl (cy 0, 64, .inl (zf nw)))] s.heap := hP
  refine lv_aload_n hx hb dX7_historySize_0 rfl (lv_at hl 0 rfl) ?_
  refine va_get (D := G) (ci := 6) (v := .int (iZ ed)) (C := RX7) (T := TX7) (N := 11) hx hb hts (by decide +kernel) hown hK hP 0 rfl rfl 3 (by decide) (hts (.fieldLink RX7 32 "SturmianWordsModel" "edits" "I") (by decide +kernel)) (fun _ h9 => h9) rfl dX7_historySize_1 ?_
  exact z_iretP hx hb hr hlocks dX7_historySize_4 (rfl)
set_option maxHeartbeats 4000000 in
set_option maxRecDepth 100000 in
theorem c_X7_letterOf (lau : Launch) (G : va_G) (cy : Nat → ClassId) (a0 a1 a2 a3 a4 a5 a6 a7 : Nat) (ed tc ol nl : Int) (nw : Int → Int) (n up : Int) (hQ : 0 ≤ nw 0 ∧ nw 0 ≤ nw 1 ∧ 1 ≤ nw 1 ∧ nw 1 ≤ 1000 ∧ 0 ≤ nw 2 ∧ nw 2 < nw 1) (h3 : 0 ≤ n ∧ n ≤ 1000000) (hu : 0 ≤ up ∧ up ≤ 1) : Met lau yX7_letterOf wsX7_letterOf ({ frames := 1, cells := 0, slots := 0, locals := 21 }) (P1 G cy [.ref a0, .int (iZ n), .int (iZ up)] (fun H => va_P G vwCl [(a0, .inr (6, [.ref a1, .ref a2, .ref a3, .int (iZ ed), .ref a4, .int (iZ tc), .ref a5, .int (iZ ol), .ref a6, .int (iZ nl), .ref a7])), (a1, .inl (cy 0, 64, .inl (zf nw)))] H)) (vp_Si (fun r => r = iZ (mlt (nw 0) (nw 1) (nw 2) up n))) 0 0 (fun _ => False) := by
  refine z_head (lv := [(0, .ref a0), (1, .int (iZ n)), (2, .int (iZ up))]) RX7 (by decide) rfl rfl (Nat.le_of_ble_eq_true rfl) rfl ?_
  intro pr ev s mt below meth cd ls hx hb hr hlocks hml hown hname hts hKK hP hl
  have hK := hKK.1
  have hP : va_P G vwCl [(a0, .inr (6, [.ref a1, .ref a2, .ref a3, .int (iZ ed), .ref a4, .int (iZ tc), .ref a5, .int (iZ ol), .ref a6, .int (iZ nl), .ref a7])), (a1, .inl (cy 0, 64, .inl (zf nw)))] s.heap := hP
  have hnp : 0 ≤ n * nw 0 := Int.mul_nonneg (by omega) (by omega)
  have hnq : n * nw 0 ≤ 1000000 * 1000 := Int.mul_le_mul (by omega) (by omega) (by omega) (by omega)
  refine lv_iload_n hx hb dX7_letterOf_0 rfl (lv_at hl 1 rfl) ?_
  refine lv_aload_n hx hb dX7_letterOf_1 rfl (lv_at hl 0 rfl) ?_
  refine va_get (D := G) (ci := 6) (v := .ref a1) (C := RX7) (T := TX7) (N := 11) hx hb hts (by decide +kernel) hown hK hP 0 rfl rfl 0 (by decide) (hts (.fieldLink RX7 7 "SturmianWordsModel" "now" "[I") (by decide +kernel)) (fun _ h9 => h9) rfl dX7_letterOf_2 ?_
  refine lv_iconst (v := iZ 0) hx hb dX7_letterOf_5 rfl ?_
  refine z_iald (D := G) hx hb hK hP 1 0 rfl rfl (by omega) dX7_letterOf_6 ?_
  refine z_imul hx hb dX7_letterOf_7 ?_
  refine lv_aload_n hx hb dX7_letterOf_8 rfl (lv_at hl 0 rfl) ?_
  refine va_get (D := G) (ci := 6) (v := .ref a1) (C := RX7) (T := TX7) (N := 11) hx hb hts (by decide +kernel) hown hK hP 0 rfl rfl 0 (by decide) (hts (.fieldLink RX7 7 "SturmianWordsModel" "now" "[I") (by decide +kernel)) (fun _ h9 => h9) rfl dX7_letterOf_9 ?_
  refine lv_iconst (v := iZ 2) hx hb dX7_letterOf_12 rfl ?_
  refine z_iald (D := G) hx hb hK hP 1 0 rfl rfl (by omega) dX7_letterOf_13 ?_
  refine z_iadd hx hb dX7_letterOf_14 ?_
  refine lv_istore_n (lv' := [(3, .int (iZ ((n * (nw 0)) + (nw 2)))), (0, .ref a0), (1, .int (iZ n)), (2, .int (iZ up))]) hx hb dX7_letterOf_15 rfl hl (by decide) rfl (fun ls hl => ?_)
  refine lv_iload_n hx hb dX7_letterOf_16 rfl (lv_at hl 0 rfl) ?_
  refine lv_aload_n hx hb dX7_letterOf_17 rfl (lv_at hl 1 rfl) ?_
  refine va_get (D := G) (ci := 6) (v := .ref a1) (C := RX7) (T := TX7) (N := 11) hx hb hts (by decide +kernel) hown hK hP 0 rfl rfl 0 (by decide) (hts (.fieldLink RX7 7 "SturmianWordsModel" "now" "[I") (by decide +kernel)) (fun _ h9 => h9) rfl dX7_letterOf_18 ?_
  refine lv_iconst (v := iZ 0) hx hb dX7_letterOf_21 rfl ?_
  refine z_iald (D := G) hx hb hK hP 1 0 rfl rfl (by omega) dX7_letterOf_22 ?_
  refine z_iadd hx hb dX7_letterOf_23 ?_
  refine lv_istore (lv' := [(4, .int (iZ (((n * (nw 0)) + (nw 2)) + (nw 0)))), (3, .int (iZ ((n * (nw 0)) + (nw 2)))), (0, .ref a0), (1, .int (iZ n)), (2, .int (iZ up))]) hx hb dX7_letterOf_24 hl (by decide) rfl (fun ls hl => ?_)
  refine lv_iload_n hx hb dX7_letterOf_26 rfl (lv_at hl 4 rfl) ?_
  refine z_if_eq (tgt := 55) hx hb dX7_letterOf_27 (by decide) (by omega) (fun c_27 => ?_) (fun c_27 => ?_)
  · refine lv_iload hx hb dX7_letterOf_55 (lv_at hl 0 rfl) ?_
    refine lv_aload_n hx hb dX7_letterOf_57 rfl (lv_at hl 2 rfl) ?_
    refine va_get (D := G) (ci := 6) (v := .ref a1) (C := RX7) (T := TX7) (N := 11) hx hb hts (by decide +kernel) hown hK hP 0 rfl rfl 0 (by decide) (hts (.fieldLink RX7 7 "SturmianWordsModel" "now" "[I") (by decide +kernel)) (fun _ h9 => h9) rfl dX7_letterOf_58 ?_
    refine lv_iconst (v := iZ 1) hx hb dX7_letterOf_61 rfl ?_
    refine z_iald (D := G) hx hb hK hP 1 0 rfl rfl (by omega) dX7_letterOf_62 ?_
    refine z_idiv hx hb dX7_letterOf_63 (by omega) ?_
    refine lv_iload_n hx hb dX7_letterOf_64 rfl (lv_at hl 1 rfl) ?_
    refine lv_aload_n hx hb dX7_letterOf_65 rfl (lv_at hl 2 rfl) ?_
    refine va_get (D := G) (ci := 6) (v := .ref a1) (C := RX7) (T := TX7) (N := 11) hx hb hts (by decide +kernel) hown hK hP 0 rfl rfl 0 (by decide) (hts (.fieldLink RX7 7 "SturmianWordsModel" "now" "[I") (by decide +kernel)) (fun _ h9 => h9) rfl dX7_letterOf_66 ?_
    refine lv_iconst (v := iZ 1) hx hb dX7_letterOf_69 rfl ?_
    refine z_iald (D := G) hx hb hK hP 1 0 rfl rfl (by omega) dX7_letterOf_70 ?_
    refine z_idiv hx hb dX7_letterOf_71 (by omega) ?_
    refine z_isub hx hb dX7_letterOf_72 ?_
    exact z_iretP hx hb hr hlocks dX7_letterOf_73 (by unfold mlt; rw [if_pos c_27, Int.add_zero])
  · refine lv_iload hx hb dX7_letterOf_30 (lv_at hl 0 rfl) ?_
    refine lv_aload_n hx hb dX7_letterOf_32 rfl (lv_at hl 2 rfl) ?_
    refine va_get (D := G) (ci := 6) (v := .ref a1) (C := RX7) (T := TX7) (N := 11) hx hb hts (by decide +kernel) hown hK hP 0 rfl rfl 0 (by decide) (hts (.fieldLink RX7 7 "SturmianWordsModel" "now" "[I") (by decide +kernel)) (fun _ h9 => h9) rfl dX7_letterOf_33 ?_
    refine lv_iconst (v := iZ 1) hx hb dX7_letterOf_36 rfl ?_
    refine z_iald (D := G) hx hb hK hP 1 0 rfl rfl (by omega) dX7_letterOf_37 ?_
    refine z_calli (va_runS (As := [.int (iZ (((n * (nw 0)) + (nw 2)) + (nw 0))), .int (iZ (nw 1))]) (rest := []) ⟨hx, hb, hml, hown, hts⟩ (c_X7_roundedUp lau G cy (((n * (nw 0)) + (nw 2)) + (nw 0)) (nw 1) (by first | assumption | omega) (by first | assumption | omega)) (va_cwS 2 hts gX7_letterOf_X7_roundedUp rfl rfl rfl (by decide +kernel) ⟨Nat.le_of_ble_eq_true rfl, Nat.le_of_ble_eq_true rfl⟩) ⟨P1_blind, P1_mk hKK (trivial)⟩ rfl rfl hl.1 rfl (lv_room (Nat.le_of_ble_eq_true rfl)) dX7_letterOf_38 ⟨Nat.le_refl 0, Nat.le_refl 0⟩) ?_
    refine lv_iload_n hx hb dX7_letterOf_41 rfl (lv_at hl 1 rfl) ?_
    refine lv_aload_n hx hb dX7_letterOf_42 rfl (lv_at hl 2 rfl) ?_
    refine va_get (D := G) (ci := 6) (v := .ref a1) (C := RX7) (T := TX7) (N := 11) hx hb hts (by decide +kernel) hown hK hP 0 rfl rfl 0 (by decide) (hts (.fieldLink RX7 7 "SturmianWordsModel" "now" "[I") (by decide +kernel)) (fun _ h9 => h9) rfl dX7_letterOf_43 ?_
    refine lv_iconst (v := iZ 1) hx hb dX7_letterOf_46 rfl ?_
    refine z_iald (D := G) hx hb hK hP 1 0 rfl rfl (by omega) dX7_letterOf_47 ?_
    refine z_calli (va_runS (As := [.int (iZ ((n * (nw 0)) + (nw 2))), .int (iZ (nw 1))]) (rest := [.int (iZ (((((n * (nw 0)) + (nw 2)) + (nw 0)) + (nw 1) - 1) / (nw 1)))]) ⟨hx, hb, hml, hown, hts⟩ (c_X7_roundedUp lau G cy ((n * (nw 0)) + (nw 2)) (nw 1) (by first | assumption | omega) (by first | assumption | omega)) (va_cwS 2 hts gX7_letterOf_X7_roundedUp rfl rfl rfl (by decide +kernel) ⟨Nat.le_of_ble_eq_true rfl, Nat.le_of_ble_eq_true rfl⟩) ⟨P1_blind, P1_mk hKK (trivial)⟩ rfl rfl hl.1 rfl (lv_room (Nat.le_of_ble_eq_true rfl)) dX7_letterOf_48 ⟨Nat.le_refl 0, Nat.le_refl 0⟩) ?_
    refine z_isub hx hb dX7_letterOf_51 ?_
    refine lv_goto (tgt := 73) hx hb dX7_letterOf_52 (by decide) ?_
    exact z_iretP hx hb hr hlocks dX7_letterOf_73 (by unfold mlt; rw [if_neg c_27, show n * nw 0 + nw 2 + nw 0 + nw 1 - 1 = n * nw 0 + nw 2 + (nw 1 - 1) + nw 0 by omega, show n * nw 0 + nw 2 + nw 1 - 1 = n * nw 0 + nw 2 + (nw 1 - 1) by omega])
set_option maxHeartbeats 4000000 in
set_option maxRecDepth 100000 in
theorem c_X7_mechanicalLetter (lau : Launch) (G : va_G) (cy : Nat → ClassId) (a0 a1 a2 a3 a4 a5 a6 a7 : Nat) (ed tc ol nl : Int) (nw : Int → Int) (n up : Int) (hQ : 0 ≤ nw 0 ∧ nw 0 ≤ nw 1 ∧ 1 ≤ nw 1 ∧ nw 1 ≤ 1000 ∧ 0 ≤ nw 2 ∧ nw 2 < nw 1) (h3 : -2147483648 ≤ n ∧ n < 2147483648) (hu : 0 ≤ up ∧ up ≤ 1) : Met lau yX7_mechanicalLetter wsX7_mechanicalLetter ({ frames := 2, cells := 0, slots := 0, locals := 45 }) (P1 G cy [.ref a0, .int (iZ n), .int (iZ up)] (fun H => va_P G vwCl [(a0, .inr (6, [.ref a1, .ref a2, .ref a3, .int (iZ ed), .ref a4, .int (iZ tc), .ref a5, .int (iZ ol), .ref a6, .int (iZ nl), .ref a7])), (a1, .inl (cy 0, 64, .inl (zf nw)))] H)) (vp_Si (fun r => r = iZ (if 0 ≤ n ∧ n ≤ 1000000 then mlt (nw 0) (nw 1) (nw 2) up n else -1))) 0 0 (fun _ => False) := by
  refine z_head (lv := [(0, .ref a0), (1, .int (iZ n)), (2, .int (iZ up))]) RX7 (by decide) rfl rfl (Nat.le_of_ble_eq_true rfl) rfl ?_
  intro pr ev s mt below meth cd ls hx hb hr hlocks hml hown hname hts hKK hP hl
  have hK := hKK.1
  have hP : va_P G vwCl [(a0, .inr (6, [.ref a1, .ref a2, .ref a3, .int (iZ ed), .ref a4, .int (iZ tc), .ref a5, .int (iZ ol), .ref a6, .int (iZ nl), .ref a7])), (a1, .inl (cy 0, 64, .inl (zf nw)))] s.heap := hP
  refine lv_iload_n hx hb dX7_mechanicalLetter_0 rfl (lv_at hl 1 rfl) ?_
  refine lv_iconst (v := iZ 0) hx hb dX7_mechanicalLetter_1 rfl ?_
  refine lv_ldc (v := iZ 1000000) hx hb hown (hts (.constant RX7 60 1000000) (by decide +kernel)) dX7_mechanicalLetter_2 ?_
  refine z_calli (va_runS (As := [.int (iZ n), .int (iZ 0), .int (iZ 1000000)]) (rest := []) ⟨hx, hb, hml, hown, hts⟩ (c_X7_in lau G cy n 0 1000000 (by first | assumption | omega)) (va_cwS 3 hts gX7_mechanicalLetter_X7_in rfl rfl rfl (by decide +kernel) ⟨Nat.le_of_ble_eq_true rfl, Nat.le_of_ble_eq_true rfl⟩) ⟨P1_blind, P1_mk hKK (trivial)⟩ rfl rfl hl.1 rfl (lv_room (Nat.le_of_ble_eq_true rfl)) dX7_mechanicalLetter_4 ⟨Nat.le_refl 0, Nat.le_refl 0⟩) ?_
  refine z_ifB_eq (tgt := 19) hx hb dX7_mechanicalLetter_7 (by decide) (fun c_7 => ?_) (fun c_7 => ?_)
  · refine lv_iconst (v := iZ (-1)) hx hb dX7_mechanicalLetter_19 rfl ?_
    exact z_iretP hx hb hr hlocks dX7_mechanicalLetter_20 (by rw [if_neg c_7])
  · refine lv_aload_n hx hb dX7_mechanicalLetter_10 rfl (lv_at hl 0 rfl) ?_
    refine lv_iload_n hx hb dX7_mechanicalLetter_11 rfl (lv_at hl 1 rfl) ?_
    refine lv_iload_n hx hb dX7_mechanicalLetter_12 rfl (lv_at hl 2 rfl) ?_
    refine z_calli (va_runV (As := [.int (iZ n), .int (iZ up)]) (rest := []) ⟨hx, hb, hml, hown, hts⟩ (c_X7_letterOf lau G cy a0 a1 a2 a3 a4 a5 a6 a7 ed tc ol nl nw n up (by first | assumption | omega) (by first | assumption | omega) (by first | assumption | omega)) (cwV 2 hts gX7_mechanicalLetter_X7_letterOf rfl rfl rfl (by decide +kernel) ⟨Nat.le_of_ble_eq_true rfl, Nat.le_of_ble_eq_true rfl⟩) ⟨P1_blind, va_recv hK hP (ci := 6) (q0 := 0) rfl rfl, P1_mk hKK (hP.sub [0, 1] rfl)⟩ rfl rfl hl.1 rfl (lv_room (Nat.le_of_ble_eq_true rfl)) dX7_mechanicalLetter_13 ⟨Nat.le_refl 0, Nat.le_refl 0⟩) ?_
    refine lv_goto (tgt := 20) hx hb dX7_mechanicalLetter_16 (by decide) ?_
    exact z_iretP hx hb hr hlocks dX7_mechanicalLetter_20 (by rw [if_pos c_7])
set_option maxHeartbeats 4000000 in
set_option maxRecDepth 100000 in
theorem c_X7_weightOf (lau : Launch) (G : va_G) (cy : Nat → ClassId) (a1 : Nat) (nw : Int → Int) (hN : 0 ≤ nw 3 ∧ nw 3 ≤ 60) (hL : ∀ x, 4 ≤ x → x < 4 + nw 3 → 0 ≤ nw x ∧ nw x ≤ 1) : Met lau yX7_weightOf wsX7_weightOf ({ frames := 0, cells := 0, slots := 0, locals := 0 }) (P1 G cy [.ref a1] (fun H => va_P G vwCl [(a1, .inl (cy 0, 64, .inl (zf nw)))] H)) (vp_Si (fun r => r = iZ (smW nw 0 (nw 3)))) 0 0 (fun _ => False) := by
  refine z_head (lv := [(0, .ref a1)]) RX7 (by decide) rfl rfl (Nat.le_of_ble_eq_true rfl) rfl ?_
  intro pr ev s mt below meth cd ls hx hb hr hlocks hml hown hname hts hKK hP hl
  have hK := hKK.1
  have hP : va_P G vwCl [(a1, .inl (cy 0, 64, .inl (zf nw)))] s.heap := hP
  refine lv_iconst (v := iZ 0) hx hb dX7_weightOf_0 rfl ?_
  refine lv_istore_n (lv' := [(1, .int (iZ 0)), (0, .ref a1)]) hx hb dX7_weightOf_1 rfl hl (by decide) rfl (fun ls hl => ?_)
  refine lv_iconst (v := iZ 0) hx hb dX7_weightOf_2 rfl ?_
  refine lv_istore_n (lv' := [(2, .int (iZ 0)), (1, .int (iZ 0)), (0, .ref a1)]) hx hb dX7_weightOf_3 rfl hl (by decide) rfl (fun ls hl => ?_)
  refine z_loop2 (nL := 3) (fun (t : Int) (k : Int) => [(0, .ref a1), (1, .int (iZ t)), (2, .int (iZ k))]) (fun (t : Int) (k : Int) => (0 ≤ k ∧ k ≤ nw 3) ∧ (t = smW nw 0 k)) (fun (t : Int) (k : Int) => nw 3 - k) (a1 := 0) (a2 := 0) ⟨(by omega), ((it_0 (Int.le_refl 0)).symm)⟩ (lv_sub hl [2, 1, 0] rfl) ?_
  rintro t k ⟨i1, i2⟩ ih_4 ls hl
  refine lv_iload_n hx hb dX7_weightOf_4 rfl (lv_at hl 2 rfl) ?_
  refine lv_aload_n hx hb dX7_weightOf_5 rfl (lv_at hl 0 rfl) ?_
  refine lv_iconst (v := iZ 3) hx hb dX7_weightOf_6 rfl ?_
  refine z_iald (D := G) hx hb hK hP 0 0 rfl rfl (by omega) dX7_weightOf_7 ?_
  refine z_icmp_ge (tgt := 25) hx hb dX7_weightOf_8 (by decide) (by omega) (fun c_8 => ?_) (fun c_8 => ?_)
  · refine lv_iload_n hx hb dX7_weightOf_25 rfl (lv_at hl 1 rfl) ?_
    exact z_iretP hx hb hr hlocks dX7_weightOf_26 (by rw [i2, show k = nw 3 by omega])
  · refine lv_iload_n hx hb dX7_weightOf_11 rfl (lv_at hl 1 rfl) ?_
    refine lv_aload_n hx hb dX7_weightOf_12 rfl (lv_at hl 0 rfl) ?_
    refine lv_iconst (v := iZ 4) hx hb dX7_weightOf_13 rfl ?_
    refine lv_iload_n hx hb dX7_weightOf_14 rfl (lv_at hl 2 rfl) ?_
    refine z_iadd hx hb dX7_weightOf_15 ?_
    refine z_iald (D := G) hx hb hK hP 0 0 rfl rfl (by omega) dX7_weightOf_16 ?_
    refine z_iadd hx hb dX7_weightOf_17 ?_
    refine z_tope (fun x18_1 ex18_1 => ?_)
    refine lv_istore_n (lv' := [(1, .int (iZ x18_1)), (0, .ref a1), (2, .int (iZ k))]) hx hb dX7_weightOf_18 rfl hl (by decide) rfl (fun ls hl => ?_)
    refine lv_iinc (v := iZ (k + 1)) (lv' := [(2, .int (iZ (k + 1))), (1, .int (iZ x18_1)), (0, .ref a1)]) hx hb dX7_weightOf_19 hl (k := 2) rfl (iZ_add _ _) (by decide) rfl (fun ls hl => ?_)
    refine lv_goto (tgt := 4) hx hb dX7_weightOf_22 (by decide) ?_
    exact ih_4 x18_1 (k + 1) ⟨(by omega), (by rw [ex18_1, i2]; exact (it_s (f := fun k r => r + nw (4 + 0 + k)) i1.1).symm)⟩ ⟨by omega, by omega⟩ _ (lv_sub hl [2, 1, 0] rfl)
set_option maxHeartbeats 4000000 in
set_option maxRecDepth 100000 in
theorem c_X7_weight (lau : Launch) (G : va_G) (cy : Nat → ClassId) (a0 a1 a2 a3 a4 a5 a6 a7 : Nat) (ed tc ol nl : Int) (nw : Int → Int) (hN : 0 ≤ nw 3 ∧ nw 3 ≤ 60) (hL : ∀ x, 4 ≤ x → x < 4 + nw 3 → 0 ≤ nw x ∧ nw x ≤ 1) : Met lau yX7_weight wsX7_weight ({ frames := 1, cells := 0, slots := 0, locals := 22 }) (P1 G cy [.ref a0] (fun H => va_P G vwCl [(a0, .inr (6, [.ref a1, .ref a2, .ref a3, .int (iZ ed), .ref a4, .int (iZ tc), .ref a5, .int (iZ ol), .ref a6, .int (iZ nl), .ref a7])), (a1, .inl (cy 0, 64, .inl (zf nw)))] H)) (vp_Si (fun r => r = iZ (smW nw 0 (nw 3)))) 0 0 (fun _ => False) := by
  refine z_head (lv := [(0, .ref a0)]) RX7 (by decide) rfl rfl (Nat.le_of_ble_eq_true rfl) rfl ?_
  intro pr ev s mt below meth cd ls hx hb hr hlocks hml hown hname hts hKK hP hl
  have hK := hKK.1
  have hP : va_P G vwCl [(a0, .inr (6, [.ref a1, .ref a2, .ref a3, .int (iZ ed), .ref a4, .int (iZ tc), .ref a5, .int (iZ ol), .ref a6, .int (iZ nl), .ref a7])), (a1, .inl (cy 0, 64, .inl (zf nw)))] s.heap := hP
  refine lv_aload_n hx hb dX7_weight_0 rfl (lv_at hl 0 rfl) ?_
  refine va_get (D := G) (ci := 6) (v := .ref a1) (C := RX7) (T := TX7) (N := 11) hx hb hts (by decide +kernel) hown hK hP 0 rfl rfl 0 (by decide) (hts (.fieldLink RX7 7 "SturmianWordsModel" "now" "[I") (by decide +kernel)) (fun _ h9 => h9) rfl dX7_weight_1 ?_
  refine z_calli (va_runS (As := [.ref a1]) (rest := []) ⟨hx, hb, hml, hown, hts⟩ (c_X7_weightOf lau G cy a1 nw (by first | assumption | omega) (by first | assumption | omega)) (va_cwS 1 hts gX7_weight_X7_weightOf rfl rfl rfl (by decide +kernel) ⟨Nat.le_of_ble_eq_true rfl, Nat.le_of_ble_eq_true rfl⟩) ⟨P1_blind, P1_mk hKK (hP.sub [1] rfl)⟩ rfl rfl hl.1 rfl (lv_room (Nat.le_of_ble_eq_true rfl)) dX7_weight_4 ⟨Nat.le_refl 0, Nat.le_refl 0⟩) ?_
  exact z_iretP hx hb hr hlocks dX7_weight_7 (rfl)
set_option maxHeartbeats 4000000 in
set_option maxRecDepth 100000 in
theorem c_X7_isPalindrome (lau : Launch) (G : va_G) (cy : Nat → ClassId) (a0 a1 a2 a3 a4 a5 a6 a7 : Nat) (ed tc ol nl : Int) (nw : Int → Int) (f m : Int) (hN : 0 ≤ nw 3 ∧ nw 3 ≤ 60) (hL : ∀ x, 4 ≤ x → x < 4 + nw 3 → 0 ≤ nw x ∧ nw x ≤ 1) (h1 : 0 ≤ f) (h2 : 0 ≤ m) (h3 : f + m ≤ nw 3) : Met lau yX7_isPalindrome wsX7_isPalindrome ({ frames := 0, cells := 0, slots := 0, locals := 0 }) (P1 G cy [.ref a0, .int (iZ f), .int (iZ m)] (fun H => va_P G vwCl [(a0, .inr (6, [.ref a1, .ref a2, .ref a3, .int (iZ ed), .ref a4, .int (iZ tc), .ref a5, .int (iZ ol), .ref a6, .int (iZ nl), .ref a7])), (a1, .inl (cy 0, 64, .inl (zf nw)))] H)) (vp_Si (fun r => r = iZ (bv (palP nw f m)))) 0 0 (fun _ => False) := by
  refine z_head (lv := [(0, .ref a0), (1, .int (iZ f)), (2, .int (iZ m))]) RX7 (by decide) rfl rfl (Nat.le_of_ble_eq_true rfl) rfl ?_
  intro pr ev s mt below meth cd ls hx hb hr hlocks hml hown hname hts hKK hP hl
  have hK := hKK.1
  have hP : va_P G vwCl [(a0, .inr (6, [.ref a1, .ref a2, .ref a3, .int (iZ ed), .ref a4, .int (iZ tc), .ref a5, .int (iZ ol), .ref a6, .int (iZ nl), .ref a7])), (a1, .inl (cy 0, 64, .inl (zf nw)))] s.heap := hP
  refine lv_iconst (v := iZ 0) hx hb dX7_isPalindrome_0 rfl ?_
  refine lv_istore_n (lv' := [(3, .int (iZ 0)), (0, .ref a0), (1, .int (iZ f)), (2, .int (iZ m))]) hx hb dX7_isPalindrome_1 rfl hl (by decide) rfl (fun ls hl => ?_)
  refine z_loop1 (nL := 4) (fun (k : Int) => [(0, .ref a0), (1, .int (iZ f)), (2, .int (iZ m)), (3, .int (iZ k))]) (fun (k : Int) => (0 ≤ k ∧ k ≤ m / 2) ∧ (∀ j : Int, 0 ≤ j → j < k → nw (4 + f + j) = nw (4 + f + m - 1 - j))) (fun (k : Int) => m / 2 - k) (a1 := 0) ⟨(by omega), (fun j q1 q2 => by omega)⟩ (lv_sub hl [1, 2, 3, 0] rfl) ?_
  rintro k ⟨i1, i2⟩ ih_2 ls hl
  refine lv_iload_n hx hb dX7_isPalindrome_2 rfl (lv_at hl 3 rfl) ?_
  refine lv_iload_n hx hb dX7_isPalindrome_3 rfl (lv_at hl 2 rfl) ?_
  refine lv_iconst (v := iZ 2) hx hb dX7_isPalindrome_4 rfl ?_
  refine z_idiv hx hb dX7_isPalindrome_5 (by omega) ?_
  refine z_icmp_ge (tgt := 44) hx hb dX7_isPalindrome_6 (by decide) (by omega) (fun c_6 => ?_) (fun c_6 => ?_)
  · refine lv_iconst (v := iZ 1) hx hb dX7_isPalindrome_44 rfl ?_
    exact z_zretP hx hb hr hlocks dX7_isPalindrome_45 ((bv_t (fun j q1 q2 => i2 j q1 (by omega))).symm)
  · refine lv_aload_n hx hb dX7_isPalindrome_9 rfl (lv_at hl 0 rfl) ?_
    refine va_get (D := G) (ci := 6) (v := .ref a1) (C := RX7) (T := TX7) (N := 11) hx hb hts (by decide +kernel) hown hK hP 0 rfl rfl 0 (by decide) (hts (.fieldLink RX7 7 "SturmianWordsModel" "now" "[I") (by decide +kernel)) (fun _ h9 => h9) rfl dX7_isPalindrome_10 ?_
    refine lv_iconst (v := iZ 4) hx hb dX7_isPalindrome_13 rfl ?_
    refine lv_iload_n hx hb dX7_isPalindrome_14 rfl (lv_at hl 1 rfl) ?_
    refine z_iadd hx hb dX7_isPalindrome_15 ?_
    refine lv_iload_n hx hb dX7_isPalindrome_16 rfl (lv_at hl 3 rfl) ?_
    refine z_iadd hx hb dX7_isPalindrome_17 ?_
    refine z_iald (D := G) hx hb hK hP 1 0 rfl rfl (by omega) dX7_isPalindrome_18 ?_
    refine lv_aload_n hx hb dX7_isPalindrome_19 rfl (lv_at hl 0 rfl) ?_
    refine va_get (D := G) (ci := 6) (v := .ref a1) (C := RX7) (T := TX7) (N := 11) hx hb hts (by decide +kernel) hown hK hP 0 rfl rfl 0 (by decide) (hts (.fieldLink RX7 7 "SturmianWordsModel" "now" "[I") (by decide +kernel)) (fun _ h9 => h9) rfl dX7_isPalindrome_20 ?_
    refine lv_iconst (v := iZ 4) hx hb dX7_isPalindrome_23 rfl ?_
    refine lv_iload_n hx hb dX7_isPalindrome_24 rfl (lv_at hl 1 rfl) ?_
    refine z_iadd hx hb dX7_isPalindrome_25 ?_
    refine lv_iload_n hx hb dX7_isPalindrome_26 rfl (lv_at hl 2 rfl) ?_
    refine z_iadd hx hb dX7_isPalindrome_27 ?_
    refine lv_iconst (v := iZ 1) hx hb dX7_isPalindrome_28 rfl ?_
    refine z_isub hx hb dX7_isPalindrome_29 ?_
    refine lv_iload_n hx hb dX7_isPalindrome_30 rfl (lv_at hl 3 rfl) ?_
    refine z_isub hx hb dX7_isPalindrome_31 ?_
    refine z_iald (D := G) hx hb hK hP 1 0 rfl rfl (by omega) dX7_isPalindrome_32 ?_
    have hL1 := hL (4 + f + k) (by omega) (by omega)
    have hL2 := hL (4 + f + m - 1 - k) (by omega) (by omega)
    refine z_icmp_eq (tgt := 38) hx hb dX7_isPalindrome_33 (by decide) (by omega) (fun c_33 => ?_) (fun c_33 => ?_)
    · refine lv_iinc (v := iZ (k + 1)) (lv' := [(3, .int (iZ (k + 1))), (0, .ref a0), (1, .int (iZ f)), (2, .int (iZ m))]) hx hb dX7_isPalindrome_38 hl (k := 3) rfl (iZ_add _ _) (by decide) rfl (fun ls hl => ?_)
      refine lv_goto (tgt := 2) hx hb dX7_isPalindrome_41 (by decide) ?_
      exact ih_2 (k + 1) ⟨(by omega), (fun j q1 q2 => by rcases (show j < k ∨ j = k by omega) with q | q; (· exact i2 j q1 q); (· rw [q]; omega))⟩ ⟨by omega, by omega⟩ _ (lv_sub hl [1, 2, 3, 0] rfl)
    · refine lv_iconst (v := iZ 0) hx hb dX7_isPalindrome_36 rfl ?_
      exact z_zretP hx hb hr hlocks dX7_isPalindrome_37 ((bv_f (fun z => by have := z k (by omega) (by omega); omega)).symm)
set_option maxHeartbeats 4000000 in
set_option maxRecDepth 100000 in
theorem c_X7_imageOf (lau : Launch) (G : va_G) (cy : Nat → ClassId) (mo x : Int) (h1 : 0 ≤ mo ∧ mo ≤ 4) (h2 : 0 ≤ x ∧ x ≤ 1) : Met lau yX7_imageOf wsX7_imageOf ({ frames := 0, cells := 0, slots := 0, locals := 0 }) (P1 G cy [.int (iZ mo), .int (iZ x)] (fun _ => True)) (vp_Si (fun r => r = iZ (imgS mo x))) 0 0 (fun _ => False) := by
  refine z_head (lv := [(0, .int (iZ mo)), (1, .int (iZ x))]) RX7 (by decide) rfl rfl (Nat.le_of_ble_eq_true rfl) rfl ?_
  intro pr ev s mt below meth cd ls hx hb hr hlocks hml hown hname hts hKK hP hl
  have hK := hKK.1
  refine lv_iload_n hx hb dX7_imageOf_0 rfl (lv_at hl 0 rfl) ?_
  have hsw_r : -2147483648 ≤ mo ∧ mo < 2147483648 := (by omega)
  rcases (show mo = 0 ∨ mo = 1 ∨ mo = 2 ∨ mo = 3 ∨ (mo < 0 ∨ 3 < mo) by omega) with hsw | hsw | hsw | hsw | hsw
  · refine z_tabIn (tgt := 32) (i := 0) hx hb dX7_imageOf_1 (by omega) (by omega) (by omega) rfl (by decide) ?_
    refine lv_bipush (v := iZ 21) hx hb dX7_imageOf_32 (by decide +kernel) ?_
    refine lv_iload_n hx hb dX7_imageOf_34 rfl (lv_at hl 1 rfl) ?_
    refine z_isub hx hb dX7_imageOf_35 ?_
    exact z_iretP hx hb hr hlocks dX7_imageOf_36 (by unfold imgS; split <;> first | omega | (split <;> first | omega | (split <;> first | omega | (split <;> first | omega | (split <;> omega)))))
  · refine z_tabIn (tgt := 37) (i := 1) hx hb dX7_imageOf_1 (by omega) (by omega) (by omega) rfl (by decide) ?_
    refine lv_iload_n hx hb dX7_imageOf_37 rfl (lv_at hl 1 rfl) ?_
    refine z_if_ne (tgt := 47) hx hb dX7_imageOf_38 (by decide) (by omega) (fun c_38 => ?_) (fun c_38 => ?_)
    · refine lv_bipush (v := iZ 20) hx hb dX7_imageOf_47 (by decide +kernel) ?_
      exact z_iretP hx hb hr hlocks dX7_imageOf_49 (by unfold imgS; split <;> first | omega | (split <;> first | omega | (split <;> first | omega | (split <;> first | omega | (split <;> omega)))))
    · refine lv_sipush (v := iZ 201) hx hb dX7_imageOf_41 (by decide +kernel) ?_
      refine lv_goto (tgt := 49) hx hb dX7_imageOf_44 (by decide) ?_
      exact z_iretP hx hb hr hlocks dX7_imageOf_49 (by unfold imgS; split <;> first | omega | (split <;> first | omega | (split <;> first | omega | (split <;> first | omega | (split <;> omega)))))
  · refine z_tabIn (tgt := 50) (i := 2) hx hb dX7_imageOf_1 (by omega) (by omega) (by omega) rfl (by decide) ?_
    refine lv_iload_n hx hb dX7_imageOf_50 rfl (lv_at hl 1 rfl) ?_
    refine z_if_ne (tgt := 60) hx hb dX7_imageOf_51 (by decide) (by omega) (fun c_51 => ?_) (fun c_51 => ?_)
    · refine lv_bipush (v := iZ 20) hx hb dX7_imageOf_60 (by decide +kernel) ?_
      exact z_iretP hx hb hr hlocks dX7_imageOf_62 (by unfold imgS; split <;> first | omega | (split <;> first | omega | (split <;> first | omega | (split <;> first | omega | (split <;> omega)))))
    · refine lv_sipush (v := iZ 210) hx hb dX7_imageOf_54 (by decide +kernel) ?_
      refine lv_goto (tgt := 62) hx hb dX7_imageOf_57 (by decide) ?_
      exact z_iretP hx hb hr hlocks dX7_imageOf_62 (by unfold imgS; split <;> first | omega | (split <;> first | omega | (split <;> first | omega | (split <;> first | omega | (split <;> omega)))))
  · refine z_tabIn (tgt := 63) (i := 3) hx hb dX7_imageOf_1 (by omega) (by omega) (by omega) rfl (by decide) ?_
    refine lv_iload_n hx hb dX7_imageOf_63 rfl (lv_at hl 1 rfl) ?_
    refine z_if_ne (tgt := 72) hx hb dX7_imageOf_64 (by decide) (by omega) (fun c_64 => ?_) (fun c_64 => ?_)
    · refine lv_sipush (v := iZ 201) hx hb dX7_imageOf_72 (by decide +kernel) ?_
      exact z_iretP hx hb hr hlocks dX7_imageOf_75 (by unfold imgS; split <;> first | omega | (split <;> first | omega | (split <;> first | omega | (split <;> first | omega | (split <;> omega)))))
    · refine lv_bipush (v := iZ 20) hx hb dX7_imageOf_67 (by decide +kernel) ?_
      refine lv_goto (tgt := 75) hx hb dX7_imageOf_69 (by decide) ?_
      exact z_iretP hx hb hr hlocks dX7_imageOf_75 (by unfold imgS; split <;> first | omega | (split <;> first | omega | (split <;> first | omega | (split <;> first | omega | (split <;> omega)))))
  · refine z_tabOut (tgt := 76) hx hb dX7_imageOf_1 (by omega) (by omega) (by decide) ?_
    refine lv_iload_n hx hb dX7_imageOf_76 rfl (lv_at hl 1 rfl) ?_
    refine z_if_ne (tgt := 85) hx hb dX7_imageOf_77 (by decide) (by omega) (fun c_77 => ?_) (fun c_77 => ?_)
    · refine lv_sipush (v := iZ 210) hx hb dX7_imageOf_85 (by decide +kernel) ?_
      exact z_iretP hx hb hr hlocks dX7_imageOf_88 (by unfold imgS; split <;> first | omega | (split <;> first | omega | (split <;> first | omega | (split <;> first | omega | (split <;> omega)))))
    · refine lv_bipush (v := iZ 20) hx hb dX7_imageOf_80 (by decide +kernel) ?_
      refine lv_goto (tgt := 88) hx hb dX7_imageOf_82 (by decide) ?_
      exact z_iretP hx hb hr hlocks dX7_imageOf_88 (by unfold imgS; split <;> first | omega | (split <;> first | omega | (split <;> first | omega | (split <;> first | omega | (split <;> omega)))))
set_option maxHeartbeats 4000000 in
set_option maxRecDepth 100000 in
theorem c_X7_stands (lau : Launch) (G : va_G) (cy : Nat → ClassId) (a0 a1 a2 a3 a4 a5 a6 a7 : Nat) (ed tc ol nl : Int) (nw : Int → Int) (im x : Int) (hN : 0 ≤ nw 3 ∧ nw 3 ≤ 60) (hL : ∀ x, 4 ≤ x → x < 4 + nw 3 → 0 ≤ nw x ∧ nw x ≤ 1) (h1 : 20 ≤ im ∧ im ≤ 210) (h2 : 0 ≤ x ∧ x < nw 3) : Met lau yX7_stands wsX7_stands ({ frames := 0, cells := 0, slots := 0, locals := 0 }) (P1 G cy [.ref a0, .int (iZ im), .int (iZ x)] (fun H => va_P G vwCl [(a0, .inr (6, [.ref a1, .ref a2, .ref a3, .int (iZ ed), .ref a4, .int (iZ tc), .ref a5, .int (iZ ol), .ref a6, .int (iZ nl), .ref a7])), (a1, .inl (cy 0, 64, .inl (zf nw)))] H)) (vp_Si (fun r => r = iZ (bv (stdP nw im x)))) 0 0 (fun _ => False) := by
  refine z_head (lv := [(0, .ref a0), (1, .int (iZ im)), (2, .int (iZ x))]) RX7 (by decide) rfl rfl (Nat.le_of_ble_eq_true rfl) rfl ?_
  intro pr ev s mt below meth cd ls hx hb hr hlocks hml hown hname hts hKK hP hl
  have hK := hKK.1
  have hP : va_P G vwCl [(a0, .inr (6, [.ref a1, .ref a2, .ref a3, .int (iZ ed), .ref a4, .int (iZ tc), .ref a5, .int (iZ ol), .ref a6, .int (iZ nl), .ref a7])), (a1, .inl (cy 0, 64, .inl (zf nw)))] s.heap := hP
  have hL1 := hL (4 + x) (by omega) (by omega)
  have hL2 := hL (4 + x + 1) (by omega)
  refine lv_iload_n hx hb dX7_stands_0 rfl (lv_at hl 1 rfl) ?_
  refine lv_bipush (v := iZ 99) hx hb dX7_stands_1 (by decide +kernel) ?_
  refine z_icmp_le (tgt := 59) hx hb dX7_stands_3 (by decide) (by omega) (fun c_3 => ?_) (fun c_3 => ?_)
  · refine lv_aload_n hx hb dX7_stands_59 rfl (lv_at hl 0 rfl) ?_
    refine va_get (D := G) (ci := 6) (v := .ref a1) (C := RX7) (T := TX7) (N := 11) hx hb hts (by decide +kernel) hown hK hP 0 rfl rfl 0 (by decide) (hts (.fieldLink RX7 7 "SturmianWordsModel" "now" "[I") (by decide +kernel)) (fun _ h9 => h9) rfl dX7_stands_60 ?_
    refine lv_iconst (v := iZ 4) hx hb dX7_stands_63 rfl ?_
    refine lv_iload_n hx hb dX7_stands_64 rfl (lv_at hl 2 rfl) ?_
    refine z_iadd hx hb dX7_stands_65 ?_
    refine z_iald (D := G) hx hb hK hP 1 0 rfl rfl (by omega) dX7_stands_66 ?_
    refine lv_iload_n hx hb dX7_stands_67 rfl (lv_at hl 1 rfl) ?_
    refine lv_bipush (v := iZ 10) hx hb dX7_stands_68 (by decide +kernel) ?_
    refine z_irem hx hb dX7_stands_70 (by omega) ?_
    refine z_icmp_ne (tgt := 78) hx hb dX7_stands_71 (by decide) (by omega) (fun c_71 => ?_) (fun c_71 => ?_)
    · refine lv_iconst (v := iZ 0) hx hb dX7_stands_78 rfl ?_
      exact z_zretP hx hb hr hlocks dX7_stands_79 ((bv_f (fun z => by unfold stdP at z; omega)).symm)
    · refine lv_iconst (v := iZ 1) hx hb dX7_stands_74 rfl ?_
      refine lv_goto (tgt := 79) hx hb dX7_stands_75 (by decide) ?_
      exact z_zretP hx hb hr hlocks dX7_stands_79 ((bv_t (by unfold stdP; omega)).symm)
  · refine lv_iload_n hx hb dX7_stands_6 rfl (lv_at hl 2 rfl) ?_
    refine lv_iconst (v := iZ 1) hx hb dX7_stands_7 rfl ?_
    refine z_iadd hx hb dX7_stands_8 ?_
    refine lv_aload_n hx hb dX7_stands_9 rfl (lv_at hl 0 rfl) ?_
    refine va_get (D := G) (ci := 6) (v := .ref a1) (C := RX7) (T := TX7) (N := 11) hx hb hts (by decide +kernel) hown hK hP 0 rfl rfl 0 (by decide) (hts (.fieldLink RX7 7 "SturmianWordsModel" "now" "[I") (by decide +kernel)) (fun _ h9 => h9) rfl dX7_stands_10 ?_
    refine lv_iconst (v := iZ 3) hx hb dX7_stands_13 rfl ?_
    refine z_iald (D := G) hx hb hK hP 1 0 rfl rfl (by omega) dX7_stands_14 ?_
    refine z_icmp_ge (tgt := 57) hx hb dX7_stands_15 (by decide) (by omega) (fun c_15 => ?_) (fun c_15 => ?_)
    · refine lv_iconst (v := iZ 0) hx hb dX7_stands_57 rfl ?_
      exact z_zretP hx hb hr hlocks dX7_stands_58 ((bv_f (fun z => by unfold stdP at z; omega)).symm)
    · refine lv_aload_n hx hb dX7_stands_18 rfl (lv_at hl 0 rfl) ?_
      refine va_get (D := G) (ci := 6) (v := .ref a1) (C := RX7) (T := TX7) (N := 11) hx hb hts (by decide +kernel) hown hK hP 0 rfl rfl 0 (by decide) (hts (.fieldLink RX7 7 "SturmianWordsModel" "now" "[I") (by decide +kernel)) (fun _ h9 => h9) rfl dX7_stands_19 ?_
      refine lv_iconst (v := iZ 4) hx hb dX7_stands_22 rfl ?_
      refine lv_iload_n hx hb dX7_stands_23 rfl (lv_at hl 2 rfl) ?_
      refine z_iadd hx hb dX7_stands_24 ?_
      refine z_iald (D := G) hx hb hK hP 1 0 rfl rfl (by omega) dX7_stands_25 ?_
      refine lv_iload_n hx hb dX7_stands_26 rfl (lv_at hl 1 rfl) ?_
      refine lv_bipush (v := iZ 10) hx hb dX7_stands_27 (by decide +kernel) ?_
      refine z_idiv hx hb dX7_stands_29 (by omega) ?_
      refine lv_bipush (v := iZ 10) hx hb dX7_stands_30 (by decide +kernel) ?_
      refine z_irem hx hb dX7_stands_32 (by omega) ?_
      refine z_icmp_ne (tgt := 57) hx hb dX7_stands_33 (by decide) (by omega) (fun c_33 => ?_) (fun c_33 => ?_)
      · refine lv_iconst (v := iZ 0) hx hb dX7_stands_57 rfl ?_
        exact z_zretP hx hb hr hlocks dX7_stands_58 ((bv_f (fun z => by unfold stdP at z; omega)).symm)
      · refine lv_aload_n hx hb dX7_stands_36 rfl (lv_at hl 0 rfl) ?_
        refine va_get (D := G) (ci := 6) (v := .ref a1) (C := RX7) (T := TX7) (N := 11) hx hb hts (by decide +kernel) hown hK hP 0 rfl rfl 0 (by decide) (hts (.fieldLink RX7 7 "SturmianWordsModel" "now" "[I") (by decide +kernel)) (fun _ h9 => h9) rfl dX7_stands_37 ?_
        refine lv_iconst (v := iZ 4) hx hb dX7_stands_40 rfl ?_
        refine lv_iload_n hx hb dX7_stands_41 rfl (lv_at hl 2 rfl) ?_
        refine z_iadd hx hb dX7_stands_42 ?_
        refine lv_iconst (v := iZ 1) hx hb dX7_stands_43 rfl ?_
        refine z_iadd hx hb dX7_stands_44 ?_
        refine z_iald (D := G) hx hb hK hP 1 0 rfl rfl (by omega) dX7_stands_45 ?_
        refine lv_iload_n hx hb dX7_stands_46 rfl (lv_at hl 1 rfl) ?_
        refine lv_bipush (v := iZ 10) hx hb dX7_stands_47 (by decide +kernel) ?_
        refine z_irem hx hb dX7_stands_49 (by omega) ?_
        refine z_icmp_ne (tgt := 57) hx hb dX7_stands_50 (by decide) (by omega) (fun c_50 => ?_) (fun c_50 => ?_)
        · refine lv_iconst (v := iZ 0) hx hb dX7_stands_57 rfl ?_
          exact z_zretP hx hb hr hlocks dX7_stands_58 ((bv_f (fun z => by unfold stdP at z; omega)).symm)
        · refine lv_iconst (v := iZ 1) hx hb dX7_stands_53 rfl ?_
          refine lv_goto (tgt := 58) hx hb dX7_stands_54 (by decide) ?_
          exact z_zretP hx hb hr hlocks dX7_stands_58 ((bv_t (by unfold stdP; omega)).symm)
set_option maxHeartbeats 4000000 in
set_option maxRecDepth 100000 in
theorem c_X7_compare (lau : Launch) (G : va_G) (cy : Nat → ClassId) (a0 a1 a2 a3 a4 a5 a6 a7 : Nat) (ed tc ol nl : Int) (nw : Int → Int) (x y m : Int) (hN : 0 ≤ nw 3 ∧ nw 3 ≤ 60) (hL : ∀ x, 4 ≤ x → x < 4 + nw 3 → 0 ≤ nw x ∧ nw x ≤ 1) (h1 : 0 ≤ x ∧ 0 ≤ y ∧ 0 ≤ m) (h2 : x + m ≤ nw 3) (h3 : y + m ≤ nw 3) : Met lau yX7_compare wsX7_compare ({ frames := 0, cells := 0, slots := 0, locals := 0 }) (P1 G cy [.ref a0, .int (iZ x), .int (iZ y), .int (iZ m)] (fun H => va_P G vwCl [(a0, .inr (6, [.ref a1, .ref a2, .ref a3, .int (iZ ed), .ref a4, .int (iZ tc), .ref a5, .int (iZ ol), .ref a6, .int (iZ nl), .ref a7])), (a1, .inl (cy 0, 64, .inl (zf nw)))] H)) (vp_Si (fun r => r = iZ (cmpS nw x y m))) 0 0 (fun _ => False) := by
  refine z_head (lv := [(0, .ref a0), (1, .int (iZ x)), (2, .int (iZ y)), (3, .int (iZ m))]) RX7 (by decide) rfl rfl (Nat.le_of_ble_eq_true rfl) rfl ?_
  intro pr ev s mt below meth cd ls hx hb hr hlocks hml hown hname hts hKK hP hl
  have hK := hKK.1
  have hP : va_P G vwCl [(a0, .inr (6, [.ref a1, .ref a2, .ref a3, .int (iZ ed), .ref a4, .int (iZ tc), .ref a5, .int (iZ ol), .ref a6, .int (iZ nl), .ref a7])), (a1, .inl (cy 0, 64, .inl (zf nw)))] s.heap := hP
  refine lv_iconst (v := iZ 0) hx hb dX7_compare_0 rfl ?_
  refine lv_istore (lv' := [(4, .int (iZ 0)), (0, .ref a0), (1, .int (iZ x)), (2, .int (iZ y)), (3, .int (iZ m))]) hx hb dX7_compare_1 hl (by decide) rfl (fun ls hl => ?_)
  refine z_loop1 (nL := 5) (fun (k : Int) => [(0, .ref a0), (1, .int (iZ x)), (2, .int (iZ y)), (3, .int (iZ m)), (4, .int (iZ k))]) (fun (k : Int) => (0 ≤ k ∧ k ≤ m) ∧ (cmpS nw x y k = 0)) (fun (k : Int) => m - k) (a1 := 0) ⟨(by omega), (it_0 (Int.le_refl 0))⟩ (lv_sub hl [1, 2, 3, 4, 0] rfl) ?_
  rintro k ⟨i1, i2⟩ ih_3 ls hl
  refine lv_iload hx hb dX7_compare_3 (lv_at hl 4 rfl) ?_
  refine lv_iload_n hx hb dX7_compare_5 rfl (lv_at hl 3 rfl) ?_
  refine z_icmp_ge (tgt := 64) hx hb dX7_compare_6 (by decide) (by omega) (fun c_6 => ?_) (fun c_6 => ?_)
  · refine lv_iconst (v := iZ 0) hx hb dX7_compare_64 rfl ?_
    exact z_iretP hx hb hr hlocks dX7_compare_65 (by rw [show m = k by omega, i2])
  · refine lv_aload_n hx hb dX7_compare_9 rfl (lv_at hl 0 rfl) ?_
    refine va_get (D := G) (ci := 6) (v := .ref a1) (C := RX7) (T := TX7) (N := 11) hx hb hts (by decide +kernel) hown hK hP 0 rfl rfl 0 (by decide) (hts (.fieldLink RX7 7 "SturmianWordsModel" "now" "[I") (by decide +kernel)) (fun _ h9 => h9) rfl dX7_compare_10 ?_
    refine lv_iconst (v := iZ 4) hx hb dX7_compare_13 rfl ?_
    refine lv_iload_n hx hb dX7_compare_14 rfl (lv_at hl 1 rfl) ?_
    refine z_iadd hx hb dX7_compare_15 ?_
    refine lv_iload hx hb dX7_compare_16 (lv_at hl 4 rfl) ?_
    refine z_iadd hx hb dX7_compare_18 ?_
    refine z_iald (D := G) hx hb hK hP 1 0 rfl rfl (by omega) dX7_compare_19 ?_
    refine lv_aload_n hx hb dX7_compare_20 rfl (lv_at hl 0 rfl) ?_
    refine va_get (D := G) (ci := 6) (v := .ref a1) (C := RX7) (T := TX7) (N := 11) hx hb hts (by decide +kernel) hown hK hP 0 rfl rfl 0 (by decide) (hts (.fieldLink RX7 7 "SturmianWordsModel" "now" "[I") (by decide +kernel)) (fun _ h9 => h9) rfl dX7_compare_21 ?_
    refine lv_iconst (v := iZ 4) hx hb dX7_compare_24 rfl ?_
    refine lv_iload_n hx hb dX7_compare_25 rfl (lv_at hl 2 rfl) ?_
    refine z_iadd hx hb dX7_compare_26 ?_
    refine lv_iload hx hb dX7_compare_27 (lv_at hl 4 rfl) ?_
    refine z_iadd hx hb dX7_compare_29 ?_
    refine z_iald (D := G) hx hb hK hP 1 0 rfl rfl (by omega) dX7_compare_30 ?_
    have hL1 := hL (4 + x + k) (by omega) (by omega)
    have hL2 := hL (4 + y + k) (by omega) (by omega)
    have hcm := cmpS_s i1.1 i2
    refine z_icmp_eq (tgt := 58) hx hb dX7_compare_31 (by decide) (by omega) (fun c_31 => ?_) (fun c_31 => ?_)
    · refine lv_iinc (v := iZ (k + 1)) (lv' := [(4, .int (iZ (k + 1))), (0, .ref a0), (1, .int (iZ x)), (2, .int (iZ y)), (3, .int (iZ m))]) hx hb dX7_compare_58 hl (k := 4) rfl (iZ_add _ _) (by decide) rfl (fun ls hl => ?_)
      refine lv_goto (tgt := 3) hx hb dX7_compare_61 (by decide) ?_
      exact ih_3 (k + 1) ⟨(by omega), (by rw [cmpS_s i1.1 i2]; omega)⟩ ⟨by omega, by omega⟩ _ (lv_sub hl [1, 2, 3, 4, 0] rfl)
    · refine lv_aload_n hx hb dX7_compare_34 rfl (lv_at hl 0 rfl) ?_
      refine va_get (D := G) (ci := 6) (v := .ref a1) (C := RX7) (T := TX7) (N := 11) hx hb hts (by decide +kernel) hown hK hP 0 rfl rfl 0 (by decide) (hts (.fieldLink RX7 7 "SturmianWordsModel" "now" "[I") (by decide +kernel)) (fun _ h9 => h9) rfl dX7_compare_35 ?_
      refine lv_iconst (v := iZ 4) hx hb dX7_compare_38 rfl ?_
      refine lv_iload_n hx hb dX7_compare_39 rfl (lv_at hl 1 rfl) ?_
      refine z_iadd hx hb dX7_compare_40 ?_
      refine lv_iload hx hb dX7_compare_41 (lv_at hl 4 rfl) ?_
      refine z_iadd hx hb dX7_compare_43 ?_
      refine z_iald (D := G) hx hb hK hP 1 0 rfl rfl (by omega) dX7_compare_44 ?_
      refine lv_aload_n hx hb dX7_compare_45 rfl (lv_at hl 0 rfl) ?_
      refine va_get (D := G) (ci := 6) (v := .ref a1) (C := RX7) (T := TX7) (N := 11) hx hb hts (by decide +kernel) hown hK hP 0 rfl rfl 0 (by decide) (hts (.fieldLink RX7 7 "SturmianWordsModel" "now" "[I") (by decide +kernel)) (fun _ h9 => h9) rfl dX7_compare_46 ?_
      refine lv_iconst (v := iZ 4) hx hb dX7_compare_49 rfl ?_
      refine lv_iload_n hx hb dX7_compare_50 rfl (lv_at hl 2 rfl) ?_
      refine z_iadd hx hb dX7_compare_51 ?_
      refine lv_iload hx hb dX7_compare_52 (lv_at hl 4 rfl) ?_
      refine z_iadd hx hb dX7_compare_54 ?_
      refine z_iald (D := G) hx hb hK hP 1 0 rfl rfl (by omega) dX7_compare_55 ?_
      refine z_isub hx hb dX7_compare_56 ?_
      exact z_iretP hx hb hr hlocks dX7_compare_57 (by rw [cmpS_k (i := k + 1) (by omega) (by omega) (by omega), hcm])
set_option maxHeartbeats 4000000 in
set_option maxRecDepth 100000 in
theorem c_X7_isFirst (lau : Launch) (G : va_G) (cy : Nat → ClassId) (a0 a1 a2 a3 a4 a5 a6 a7 : Nat) (ed tc ol nl : Int) (nw : Int → Int) (x m : Int) (hN : 0 ≤ nw 3 ∧ nw 3 ≤ 60) (hL : ∀ x, 4 ≤ x → x < 4 + nw 3 → 0 ≤ nw x ∧ nw x ≤ 1) (h1 : 0 ≤ x ∧ 0 ≤ m) (h2 : x + m ≤ nw 3) : Met lau yX7_isFirst wsX7_isFirst ({ frames := 1, cells := 0, slots := 0, locals := 24 }) (P1 G cy [.ref a0, .int (iZ x), .int (iZ m)] (fun H => va_P G vwCl [(a0, .inr (6, [.ref a1, .ref a2, .ref a3, .int (iZ ed), .ref a4, .int (iZ tc), .ref a5, .int (iZ ol), .ref a6, .int (iZ nl), .ref a7])), (a1, .inl (cy 0, 64, .inl (zf nw)))] H)) (vp_Si (fun r => r = iZ (bv (fstP nw x m)))) 0 0 (fun _ => False) := by
  refine z_head (lv := [(0, .ref a0), (1, .int (iZ x)), (2, .int (iZ m))]) RX7 (by decide) rfl rfl (Nat.le_of_ble_eq_true rfl) rfl ?_
  intro pr ev s mt below meth cd ls hx hb hr hlocks hml hown hname hts hKK hP hl
  have hK := hKK.1
  have hP : va_P G vwCl [(a0, .inr (6, [.ref a1, .ref a2, .ref a3, .int (iZ ed), .ref a4, .int (iZ tc), .ref a5, .int (iZ ol), .ref a6, .int (iZ nl), .ref a7])), (a1, .inl (cy 0, 64, .inl (zf nw)))] s.heap := hP
  refine lv_iconst (v := iZ 0) hx hb dX7_isFirst_0 rfl ?_
  refine lv_istore_n (lv' := [(3, .int (iZ 0)), (0, .ref a0), (1, .int (iZ x)), (2, .int (iZ m))]) hx hb dX7_isFirst_1 rfl hl (by decide) rfl (fun ls hl => ?_)
  refine z_loop1 (nL := 4) (fun (k : Int) => [(0, .ref a0), (1, .int (iZ x)), (2, .int (iZ m)), (3, .int (iZ k))]) (fun (k : Int) => (0 ≤ k ∧ k ≤ x) ∧ (∀ j : Int, 0 ≤ j → j < k → ¬ cmpS nw j x m = 0)) (fun (k : Int) => x - k) (a1 := 0) ⟨(by omega), (fun j q1 q2 => by omega)⟩ (lv_sub hl [1, 2, 3, 0] rfl) ?_
  rintro k ⟨i1, i2⟩ ih_2 ls hl
  refine lv_iload_n hx hb dX7_isFirst_2 rfl (lv_at hl 3 rfl) ?_
  refine lv_iload_n hx hb dX7_isFirst_3 rfl (lv_at hl 1 rfl) ?_
  refine z_icmp_ge (tgt := 25) hx hb dX7_isFirst_4 (by decide) (by omega) (fun c_4 => ?_) (fun c_4 => ?_)
  · refine lv_iconst (v := iZ 1) hx hb dX7_isFirst_25 rfl ?_
    exact z_zretP hx hb hr hlocks dX7_isFirst_26 ((bv_t (fun j q1 q2 => i2 j q1 (by omega))).symm)
  · refine lv_aload_n hx hb dX7_isFirst_7 rfl (lv_at hl 0 rfl) ?_
    refine lv_iload_n hx hb dX7_isFirst_8 rfl (lv_at hl 3 rfl) ?_
    refine lv_iload_n hx hb dX7_isFirst_9 rfl (lv_at hl 1 rfl) ?_
    refine lv_iload_n hx hb dX7_isFirst_10 rfl (lv_at hl 2 rfl) ?_
    refine z_calli (va_runV (As := [.int (iZ k), .int (iZ x), .int (iZ m)]) (rest := []) ⟨hx, hb, hml, hown, hts⟩ (c_X7_compare lau G cy a0 a1 a2 a3 a4 a5 a6 a7 ed tc ol nl nw k x m (by first | assumption | omega) (by first | assumption | omega) (by first | assumption | omega) (by first | assumption | omega) (by first | assumption | omega)) (cwV 3 hts gX7_isFirst_X7_compare rfl rfl rfl (by decide +kernel) ⟨Nat.le_of_ble_eq_true rfl, Nat.le_of_ble_eq_true rfl⟩) ⟨P1_blind, va_recv hK hP (ci := 6) (q0 := 0) rfl rfl, P1_mk hKK (hP.sub [0, 1] rfl)⟩ rfl rfl hl.1 rfl (lv_room (Nat.le_of_ble_eq_true rfl)) dX7_isFirst_11 ⟨Nat.le_refl 0, Nat.le_refl 0⟩) ?_
    have hcr := cmpS_r (w := nw) hL (x := k) (y := x) (m := m) (by omega) (by omega) (by omega)
    refine z_if_ne (tgt := 19) hx hb dX7_isFirst_14 (by decide) (by omega) (fun c_14 => ?_) (fun c_14 => ?_)
    · refine lv_iinc (v := iZ (k + 1)) (lv' := [(3, .int (iZ (k + 1))), (0, .ref a0), (1, .int (iZ x)), (2, .int (iZ m))]) hx hb dX7_isFirst_19 hl (k := 3) rfl (iZ_add _ _) (by decide) rfl (fun ls hl => ?_)
      refine lv_goto (tgt := 2) hx hb dX7_isFirst_22 (by decide) ?_
      exact ih_2 (k + 1) ⟨(by omega), (fun j q1 q2 => by rcases (show j < k ∨ j = k by omega) with q | q; (· exact i2 j q1 q); (· rw [q]; exact c_14))⟩ ⟨by omega, by omega⟩ _ (lv_sub hl [1, 2, 3, 0] rfl)
    · refine lv_iconst (v := iZ 0) hx hb dX7_isFirst_17 rfl ?_
      exact z_zretP hx hb hr hlocks dX7_isFirst_18 ((bv_f (fun z => z k (by omega) (by omega) c_14)).symm)
set_option maxHeartbeats 4000000 in
set_option maxRecDepth 100000 in
theorem c_X7_factorCount (lau : Launch) (G : va_G) (cy : Nat → ClassId) (a0 a1 a2 a3 a4 a5 a6 a7 : Nat) (ed tc ol nl : Int) (nw : Int → Int) (ct : Int) (hN : 0 ≤ nw 3 ∧ nw 3 ≤ 60) (hL : ∀ x, 4 ≤ x → x < 4 + nw 3 → 0 ≤ nw x ∧ nw x ≤ 1) (h1 : -2147483648 ≤ ct ∧ ct < 2147483648) : Met lau yX7_factorCount wsX7_factorCount ({ frames := 2, cells := 0, slots := 0, locals := 47 }) (P1 G cy [.ref a0, .int (iZ ct)] (fun H => va_P G vwCl [(a0, .inr (6, [.ref a1, .ref a2, .ref a3, .int (iZ ed), .ref a4, .int (iZ tc), .ref a5, .int (iZ ol), .ref a6, .int (iZ nl), .ref a7])), (a1, .inl (cy 0, 64, .inl (zf nw)))] H)) (vp_Si (fun r => r = iZ (if ct < 0 then -1 else cnt (fun k => fstP nw k ct) (nw 3 - ct + 1)))) 0 0 (fun _ => False) := by
  refine z_head (lv := [(0, .ref a0), (1, .int (iZ ct))]) RX7 (by decide) rfl rfl (Nat.le_of_ble_eq_true rfl) rfl ?_
  intro pr ev s mt below meth cd ls hx hb hr hlocks hml hown hname hts hKK hP hl
  have hK := hKK.1
  have hP : va_P G vwCl [(a0, .inr (6, [.ref a1, .ref a2, .ref a3, .int (iZ ed), .ref a4, .int (iZ tc), .ref a5, .int (iZ ol), .ref a6, .int (iZ nl), .ref a7])), (a1, .inl (cy 0, 64, .inl (zf nw)))] s.heap := hP
  refine lv_iload_n hx hb dX7_factorCount_0 rfl (lv_at hl 1 rfl) ?_
  refine z_if_ge (tgt := 6) hx hb dX7_factorCount_1 (by decide) (by omega) (fun c_1 => ?_) (fun c_1 => ?_)
  · refine lv_iconst (v := iZ 0) hx hb dX7_factorCount_6 rfl ?_
    refine lv_istore_n (lv' := [(2, .int (iZ 0)), (0, .ref a0), (1, .int (iZ ct))]) hx hb dX7_factorCount_7 rfl hl (by decide) rfl (fun ls hl => ?_)
    refine lv_iconst (v := iZ 0) hx hb dX7_factorCount_8 rfl ?_
    refine lv_istore_n (lv' := [(3, .int (iZ 0)), (2, .int (iZ 0)), (0, .ref a0), (1, .int (iZ ct))]) hx hb dX7_factorCount_9 rfl hl (by decide) rfl (fun ls hl => ?_)
    refine z_loop2 (nL := 4) (fun (fo : Int) (i : Int) => [(0, .ref a0), (1, .int (iZ ct)), (2, .int (iZ fo)), (3, .int (iZ i))]) (fun (fo : Int) (i : Int) => (0 ≤ i ∧ (i ≤ nw 3 - ct + 1 ∨ i = 0)) ∧ (fo = cnt (fun k => fstP nw k ct) i)) (fun (fo : Int) (i : Int) => nw 3 - ct + 1 - i) (a1 := 0) (a2 := 0) ⟨(by omega), ((cnt_0 (Int.le_refl 0)).symm)⟩ (lv_sub hl [2, 3, 1, 0] rfl) ?_
    rintro fo i ⟨i1, i2⟩ ih_10 ls hl
    have hr1 := cnt_le (P := fun k => fstP nw k ct) i1.1
    refine lv_iload_n hx hb dX7_factorCount_10 rfl (lv_at hl 3 rfl) ?_
    refine lv_aload_n hx hb dX7_factorCount_11 rfl (lv_at hl 0 rfl) ?_
    refine va_get (D := G) (ci := 6) (v := .ref a1) (C := RX7) (T := TX7) (N := 11) hx hb hts (by decide +kernel) hown hK hP 0 rfl rfl 0 (by decide) (hts (.fieldLink RX7 7 "SturmianWordsModel" "now" "[I") (by decide +kernel)) (fun _ h9 => h9) rfl dX7_factorCount_12 ?_
    refine lv_iconst (v := iZ 3) hx hb dX7_factorCount_15 rfl ?_
    refine z_iald (D := G) hx hb hK hP 1 0 rfl rfl (by omega) dX7_factorCount_16 ?_
    refine lv_iload_n hx hb dX7_factorCount_17 rfl (lv_at hl 1 rfl) ?_
    refine z_isub hx hb dX7_factorCount_18 ?_
    refine z_icmp_gt (tgt := 45) hx hb dX7_factorCount_19 (by decide) (by omega) (fun c_19 => ?_) (fun c_19 => ?_)
    · refine lv_iload_n hx hb dX7_factorCount_45 rfl (lv_at hl 2 rfl) ?_
      exact z_iretP hx hb hr hlocks dX7_factorCount_46 (by rw [if_neg (by omega)]; rw [i2]; rcases (show i = nw 3 - ct + 1 ∨ nw 3 - ct + 1 ≤ 0 ∧ i = 0 by omega) with q | ⟨q, q2⟩; (· rw [q]); (· rw [q2, cnt_0 (Int.le_refl 0), cnt_0 q]))
    · refine lv_iload_n hx hb dX7_factorCount_22 rfl (lv_at hl 2 rfl) ?_
      refine lv_aload_n hx hb dX7_factorCount_23 rfl (lv_at hl 0 rfl) ?_
      refine lv_iload_n hx hb dX7_factorCount_24 rfl (lv_at hl 3 rfl) ?_
      refine lv_iload_n hx hb dX7_factorCount_25 rfl (lv_at hl 1 rfl) ?_
      refine z_calli (va_runV (As := [.int (iZ i), .int (iZ ct)]) (rest := [.int (iZ fo)]) ⟨hx, hb, hml, hown, hts⟩ (c_X7_isFirst lau G cy a0 a1 a2 a3 a4 a5 a6 a7 ed tc ol nl nw i ct (by first | assumption | omega) (by first | assumption | omega) (by first | assumption | omega) (by first | assumption | omega)) (cwV 2 hts gX7_factorCount_X7_isFirst rfl rfl rfl (by decide +kernel) ⟨Nat.le_of_ble_eq_true rfl, Nat.le_of_ble_eq_true rfl⟩) ⟨P1_blind, va_recv hK hP (ci := 6) (q0 := 0) rfl rfl, P1_mk hKK (hP.sub [0, 1] rfl)⟩ rfl rfl hl.1 rfl (lv_room (Nat.le_of_ble_eq_true rfl)) dX7_factorCount_26 ⟨Nat.le_refl 0, Nat.le_refl 0⟩) ?_
      refine z_ifB_eq (tgt := 36) hx hb dX7_factorCount_29 (by decide) (fun c_29 => ?_) (fun c_29 => ?_)
      · refine lv_iconst (v := iZ 0) hx hb dX7_factorCount_36 rfl ?_
        refine z_iadd hx hb dX7_factorCount_37 ?_
        refine lv_istore_n (lv' := [(2, .int (iZ (fo + 0))), (0, .ref a0), (1, .int (iZ ct)), (3, .int (iZ i))]) hx hb dX7_factorCount_38 rfl hl (by decide) rfl (fun ls hl => ?_)
        refine lv_iinc (v := iZ (i + 1)) (lv' := [(3, .int (iZ (i + 1))), (2, .int (iZ (fo + 0))), (0, .ref a0), (1, .int (iZ ct))]) hx hb dX7_factorCount_39 hl (k := 3) rfl (iZ_add _ _) (by decide) rfl (fun ls hl => ?_)
        refine lv_goto (tgt := 10) hx hb dX7_factorCount_42 (by decide) ?_
        exact ih_10 (fo + 0) (i + 1) ⟨(by omega), (by rw [cnt_f (P := fun k => fstP nw k ct) (by omega) c_29, ← i2]; omega)⟩ ⟨by omega, by omega⟩ _ (lv_sub hl [2, 3, 1, 0] rfl)
      · refine lv_iconst (v := iZ 1) hx hb dX7_factorCount_32 rfl ?_
        refine lv_goto (tgt := 37) hx hb dX7_factorCount_33 (by decide) ?_
        refine z_iadd hx hb dX7_factorCount_37 ?_
        refine lv_istore_n (lv' := [(2, .int (iZ (fo + 1))), (0, .ref a0), (1, .int (iZ ct)), (3, .int (iZ i))]) hx hb dX7_factorCount_38 rfl hl (by decide) rfl (fun ls hl => ?_)
        refine lv_iinc (v := iZ (i + 1)) (lv' := [(3, .int (iZ (i + 1))), (2, .int (iZ (fo + 1))), (0, .ref a0), (1, .int (iZ ct))]) hx hb dX7_factorCount_39 hl (k := 3) rfl (iZ_add _ _) (by decide) rfl (fun ls hl => ?_)
        refine lv_goto (tgt := 10) hx hb dX7_factorCount_42 (by decide) ?_
        exact ih_10 (fo + 1) (i + 1) ⟨(by omega), (by rw [cnt_t (P := fun k => fstP nw k ct) (by omega) c_29, i2])⟩ ⟨by omega, by omega⟩ _ (lv_sub hl [2, 3, 1, 0] rfl)
  · refine lv_iconst (v := iZ (-1)) hx hb dX7_factorCount_4 rfl ?_
    exact z_iretP hx hb hr hlocks dX7_factorCount_5 (by rw [if_pos (by omega)])
set_option maxHeartbeats 4000000 in
set_option maxRecDepth 100000 in
theorem c_X7_numberAt (lau : Launch) (G : va_G) (cy : Nat → ClassId) (a0 a1 a2 a3 a4 a5 a6 a7 : Nat) (ed tc ol nl : Int) (nw : Int → Int) (x m : Int) (hN : 0 ≤ nw 3 ∧ nw 3 ≤ 60) (hL : ∀ x, 4 ≤ x → x < 4 + nw 3 → 0 ≤ nw x ∧ nw x ≤ 1) (h1 : 0 ≤ x ∧ 0 ≤ m) (h2 : x + m ≤ nw 3) : Met lau yX7_numberAt wsX7_numberAt ({ frames := 0, cells := 0, slots := 0, locals := 0 }) (P1 G cy [.ref a0, .int (iZ x), .int (iZ m)] (fun H => va_P G vwCl [(a0, .inr (6, [.ref a1, .ref a2, .ref a3, .int (iZ ed), .ref a4, .int (iZ tc), .ref a5, .int (iZ ol), .ref a6, .int (iZ nl), .ref a7])), (a1, .inl (cy 0, 64, .inl (zf nw)))] H)) (vp_Si (fun r => r = iZ (numS nw x m))) 0 0 (fun _ => False) := by
  refine z_head (lv := [(0, .ref a0), (1, .int (iZ x)), (2, .int (iZ m))]) RX7 (by decide) rfl rfl (Nat.le_of_ble_eq_true rfl) rfl ?_
  intro pr ev s mt below meth cd ls hx hb hr hlocks hml hown hname hts hKK hP hl
  have hK := hKK.1
  have hP : va_P G vwCl [(a0, .inr (6, [.ref a1, .ref a2, .ref a3, .int (iZ ed), .ref a4, .int (iZ tc), .ref a5, .int (iZ ol), .ref a6, .int (iZ nl), .ref a7])), (a1, .inl (cy 0, 64, .inl (zf nw)))] s.heap := hP
  refine lv_iconst (v := iZ 0) hx hb dX7_numberAt_0 rfl ?_
  refine lv_istore_n (lv' := [(3, .int (iZ 0)), (0, .ref a0), (1, .int (iZ x)), (2, .int (iZ m))]) hx hb dX7_numberAt_1 rfl hl (by decide) rfl (fun ls hl => ?_)
  refine lv_iconst (v := iZ 0) hx hb dX7_numberAt_2 rfl ?_
  refine lv_istore (lv' := [(4, .int (iZ 0)), (3, .int (iZ 0)), (0, .ref a0), (1, .int (iZ x)), (2, .int (iZ m))]) hx hb dX7_numberAt_3 hl (by decide) rfl (fun ls hl => ?_)
  refine z_loop2 (nL := 5) (fun (v : Int) (k : Int) => [(0, .ref a0), (1, .int (iZ x)), (2, .int (iZ m)), (3, .int (iZ v)), (4, .int (iZ k))]) (fun (v : Int) (k : Int) => (0 ≤ k ∧ k ≤ m) ∧ (v = numS nw x k)) (fun (v : Int) (k : Int) => m - k) (a1 := 0) (a2 := 0) ⟨(by omega), ((it_0 (Int.le_refl 0)).symm)⟩ (lv_sub hl [2, 3, 4, 1, 0] rfl) ?_
  rintro v k ⟨i1, i2⟩ ih_5 ls hl
  refine lv_iload hx hb dX7_numberAt_5 (lv_at hl 4 rfl) ?_
  refine lv_iload_n hx hb dX7_numberAt_7 rfl (lv_at hl 2 rfl) ?_
  refine z_icmp_ge (tgt := 33) hx hb dX7_numberAt_8 (by decide) (by omega) (fun c_8 => ?_) (fun c_8 => ?_)
  · refine lv_iload_n hx hb dX7_numberAt_33 rfl (lv_at hl 3 rfl) ?_
    exact z_iretP hx hb hr hlocks dX7_numberAt_34 (by rw [i2, show k = m by omega])
  · refine lv_iconst (v := iZ 2) hx hb dX7_numberAt_11 rfl ?_
    refine lv_iload_n hx hb dX7_numberAt_12 rfl (lv_at hl 3 rfl) ?_
    refine z_imul hx hb dX7_numberAt_13 ?_
    refine lv_aload_n hx hb dX7_numberAt_14 rfl (lv_at hl 0 rfl) ?_
    refine va_get (D := G) (ci := 6) (v := .ref a1) (C := RX7) (T := TX7) (N := 11) hx hb hts (by decide +kernel) hown hK hP 0 rfl rfl 0 (by decide) (hts (.fieldLink RX7 7 "SturmianWordsModel" "now" "[I") (by decide +kernel)) (fun _ h9 => h9) rfl dX7_numberAt_15 ?_
    refine lv_iconst (v := iZ 4) hx hb dX7_numberAt_18 rfl ?_
    refine lv_iload_n hx hb dX7_numberAt_19 rfl (lv_at hl 1 rfl) ?_
    refine z_iadd hx hb dX7_numberAt_20 ?_
    refine lv_iload hx hb dX7_numberAt_21 (lv_at hl 4 rfl) ?_
    refine z_iadd hx hb dX7_numberAt_23 ?_
    refine z_iald (D := G) hx hb hK hP 1 0 rfl rfl (by omega) dX7_numberAt_24 ?_
    refine z_iadd hx hb dX7_numberAt_25 ?_
    refine z_tope (fun x26_1 ex26_1 => ?_)
    refine lv_istore_n (lv' := [(3, .int (iZ x26_1)), (0, .ref a0), (1, .int (iZ x)), (2, .int (iZ m)), (4, .int (iZ k))]) hx hb dX7_numberAt_26 rfl hl (by decide) rfl (fun ls hl => ?_)
    refine lv_iinc (v := iZ (k + 1)) (lv' := [(4, .int (iZ (k + 1))), (3, .int (iZ x26_1)), (0, .ref a0), (1, .int (iZ x)), (2, .int (iZ m))]) hx hb dX7_numberAt_27 hl (k := 4) rfl (iZ_add _ _) (by decide) rfl (fun ls hl => ?_)
    refine lv_goto (tgt := 5) hx hb dX7_numberAt_30 (by decide) ?_
    exact ih_5 x26_1 (k + 1) ⟨(by omega), (by rw [ex26_1, i2]; exact (it_s (f := fun k v => 2 * v + nw (4 + x + k)) i1.1).symm)⟩ ⟨by omega, by omega⟩ _ (lv_sub hl [2, 3, 4, 1, 0] rfl)
set_option maxHeartbeats 4000000 in
set_option maxRecDepth 100000 in
theorem c_X7_factorAt (lau : Launch) (G : va_G) (cy : Nat → ClassId) (a0 a1 a2 a3 a4 a5 a6 a7 : Nat) (ed tc ol nl : Int) (nw : Int → Int) (ct ix : Int) (hN : 0 ≤ nw 3 ∧ nw 3 ≤ 60) (hL : ∀ x, 4 ≤ x → x < 4 + nw 3 → 0 ≤ nw x ∧ nw x ≤ 1) (h1 : -2147483648 ≤ ct ∧ ct < 2147483648 ∧ -2147483648 ≤ ix ∧ ix < 2147483648) : Met lau yX7_factorAt wsX7_factorAt ({ frames := 2, cells := 0, slots := 0, locals := 47 }) (P1 G cy [.ref a0, .int (iZ ct), .int (iZ ix)] (fun H => va_P G vwCl [(a0, .inr (6, [.ref a1, .ref a2, .ref a3, .int (iZ ed), .ref a4, .int (iZ tc), .ref a5, .int (iZ ol), .ref a6, .int (iZ nl), .ref a7])), (a1, .inl (cy 0, 64, .inl (zf nw)))] H)) (vp_Si (fun r => r = iZ (if (1 ≤ ct ∧ ct ≤ 30) ∧ 0 ≤ ix then (if fnd (fun x => cnt (fun k => fstP nw k ct ∧ cmpS nw k x ct < 0) (nw 3 - ct + 1) = ix) (nw 3 - ct + 1) = -1 then -3 else numS nw (fnd (fun x => cnt (fun k => fstP nw k ct ∧ cmpS nw k x ct < 0) (nw 3 - ct + 1) = ix) (nw 3 - ct + 1)) ct) else -1))) 0 0 (fun _ => False) := by
  refine z_head (lv := [(0, .ref a0), (1, .int (iZ ct)), (2, .int (iZ ix))]) RX7 (by decide) rfl rfl (Nat.le_of_ble_eq_true rfl) rfl ?_
  intro pr ev s mt below meth cd ls hx hb hr hlocks hml hown hname hts hKK hP hl
  have hK := hKK.1
  have hP : va_P G vwCl [(a0, .inr (6, [.ref a1, .ref a2, .ref a3, .int (iZ ed), .ref a4, .int (iZ tc), .ref a5, .int (iZ ol), .ref a6, .int (iZ nl), .ref a7])), (a1, .inl (cy 0, 64, .inl (zf nw)))] s.heap := hP
  refine lv_iload_n hx hb dX7_factorAt_0 rfl (lv_at hl 1 rfl) ?_
  refine lv_iconst (v := iZ 1) hx hb dX7_factorAt_1 rfl ?_
  refine lv_bipush (v := iZ 30) hx hb dX7_factorAt_2 (by decide +kernel) ?_
  refine z_calli (va_runS (As := [.int (iZ ct), .int (iZ 1), .int (iZ 30)]) (rest := []) ⟨hx, hb, hml, hown, hts⟩ (c_X7_in lau G cy ct 1 30 (by first | assumption | omega)) (va_cwS 3 hts gX7_factorAt_X7_in rfl rfl rfl (by decide +kernel) ⟨Nat.le_of_ble_eq_true rfl, Nat.le_of_ble_eq_true rfl⟩) ⟨P1_blind, P1_mk hKK (trivial)⟩ rfl rfl hl.1 rfl (lv_room (Nat.le_of_ble_eq_true rfl)) dX7_factorAt_4 ⟨Nat.le_refl 0, Nat.le_refl 0⟩) ?_
  refine z_ifB_eq (tgt := 14) hx hb dX7_factorAt_7 (by decide) (fun c_7 => ?_) (fun c_7 => ?_)
  · refine lv_iconst (v := iZ (-1)) hx hb dX7_factorAt_14 rfl ?_
    exact z_iretP hx hb hr hlocks dX7_factorAt_15 (by rw [if_neg (fun z => c_7 z.1)])
  · refine lv_iload_n hx hb dX7_factorAt_10 rfl (lv_at hl 2 rfl) ?_
    refine z_if_ge (tgt := 16) hx hb dX7_factorAt_11 (by decide) (by omega) (fun c_11 => ?_) (fun c_11 => ?_)
    · refine lv_iconst (v := iZ 0) hx hb dX7_factorAt_16 rfl ?_
      refine lv_istore_n (lv' := [(3, .int (iZ 0)), (0, .ref a0), (1, .int (iZ ct)), (2, .int (iZ ix))]) hx hb dX7_factorAt_17 rfl hl (by decide) rfl (fun ls hl => ?_)
      refine z_loop1 (nL := 6) (fun (x : Int) => [(0, .ref a0), (1, .int (iZ ct)), (2, .int (iZ ix)), (3, .int (iZ x))]) (fun (x : Int) => (0 ≤ x ∧ (x ≤ nw 3 - ct + 1 ∨ x = 0)) ∧ (fnd (fun x => cnt (fun k => fstP nw k ct ∧ cmpS nw k x ct < 0) (nw 3 - ct + 1) = ix) x = -1)) (fun (x : Int) => nw 3 - ct + 1 - x) (a1 := 0) ⟨(by omega), (fnd_0 (Int.le_refl 0))⟩ (lv_sub hl [1, 2, 3, 0] rfl) ?_
      rintro x ⟨i1, i2⟩ ih_18 ls hl
      refine lv_iload_n hx hb dX7_factorAt_18 rfl (lv_at hl 3 rfl) ?_
      refine lv_aload_n hx hb dX7_factorAt_19 rfl (lv_at hl 0 rfl) ?_
      refine va_get (D := G) (ci := 6) (v := .ref a1) (C := RX7) (T := TX7) (N := 11) hx hb hts (by decide +kernel) hown hK hP 0 rfl rfl 0 (by decide) (hts (.fieldLink RX7 7 "SturmianWordsModel" "now" "[I") (by decide +kernel)) (fun _ h9 => h9) rfl dX7_factorAt_20 ?_
      refine lv_iconst (v := iZ 3) hx hb dX7_factorAt_23 rfl ?_
      refine z_iald (D := G) hx hb hK hP 1 0 rfl rfl (by omega) dX7_factorAt_24 ?_
      refine lv_iload_n hx hb dX7_factorAt_25 rfl (lv_at hl 1 rfl) ?_
      refine z_isub hx hb dX7_factorAt_26 ?_
      refine z_icmp_gt (tgt := 105) hx hb dX7_factorAt_27 (by decide) (by omega) (fun c_27 => ?_) (fun c_27 => ?_)
      · refine lv_bipush (v := iZ (-3)) hx hb dX7_factorAt_105 (by decide +kernel) ?_
        exact z_iretP hx hb hr hlocks dX7_factorAt_107 (by rw [if_pos ⟨c_7, by omega⟩, show fnd (fun x => cnt (fun k => fstP nw k ct ∧ cmpS nw k x ct < 0) (nw 3 - ct + 1) = ix) (nw 3 - ct + 1) = -1 from (by rcases (show x = nw 3 - ct + 1 ∨ nw 3 - ct + 1 ≤ 0 by omega) with q | q; (· exact fnd_eq i2 q); (· exact fnd_0 q)), if_pos rfl])
      · refine lv_iconst (v := iZ 0) hx hb dX7_factorAt_30 rfl ?_
        refine lv_istore (lv' := [(4, .int (iZ 0)), (0, .ref a0), (1, .int (iZ ct)), (2, .int (iZ ix)), (3, .int (iZ x))]) hx hb dX7_factorAt_31 hl (by decide) rfl (fun ls hl => ?_)
        refine lv_iconst (v := iZ 0) hx hb dX7_factorAt_33 rfl ?_
        refine lv_istore (lv' := [(5, .int (iZ 0)), (4, .int (iZ 0)), (0, .ref a0), (1, .int (iZ ct)), (2, .int (iZ ix)), (3, .int (iZ x))]) hx hb dX7_factorAt_34 hl (by decide) rfl (fun ls hl => ?_)
        refine z_loop2 (nL := 6) (fun (bf : Int) (i : Int) => [(0, .ref a0), (1, .int (iZ ct)), (2, .int (iZ ix)), (3, .int (iZ x)), (4, .int (iZ bf)), (5, .int (iZ i))]) (fun (bf : Int) (i : Int) => (0 ≤ i ∧ i ≤ nw 3 - ct + 1) ∧ (bf = cnt (fun k => fstP nw k ct ∧ cmpS nw k x ct < 0) i)) (fun (bf : Int) (i : Int) => nw 3 - ct + 1 - i) (a1 := 0) (a2 := 0) ⟨(by omega), ((cnt_0 (Int.le_refl 0)).symm)⟩ (lv_sub hl [2, 3, 4, 5, 1, 0] rfl) ?_
        rintro bf i ⟨j1, j2⟩ ih_36 ls hl
        have hr1 := cnt_le (P := fun k => fstP nw k ct ∧ cmpS nw k x ct < 0) j1.1
        refine lv_iload hx hb dX7_factorAt_36 (lv_at hl 5 rfl) ?_
        refine lv_aload_n hx hb dX7_factorAt_38 rfl (lv_at hl 0 rfl) ?_
        refine va_get (D := G) (ci := 6) (v := .ref a1) (C := RX7) (T := TX7) (N := 11) hx hb hts (by decide +kernel) hown hK hP 0 rfl rfl 0 (by decide) (hts (.fieldLink RX7 7 "SturmianWordsModel" "now" "[I") (by decide +kernel)) (fun _ h9 => h9) rfl dX7_factorAt_39 ?_
        refine lv_iconst (v := iZ 3) hx hb dX7_factorAt_42 rfl ?_
        refine z_iald (D := G) hx hb hK hP 1 0 rfl rfl (by omega) dX7_factorAt_43 ?_
        refine lv_iload_n hx hb dX7_factorAt_44 rfl (lv_at hl 1 rfl) ?_
        refine z_isub hx hb dX7_factorAt_45 ?_
        refine z_icmp_gt (tgt := 86) hx hb dX7_factorAt_46 (by decide) (by omega) (fun c_46 => ?_) (fun c_46 => ?_)
        · refine lv_iload hx hb dX7_factorAt_86 (lv_at hl 4 rfl) ?_
          refine lv_iload_n hx hb dX7_factorAt_88 rfl (lv_at hl 2 rfl) ?_
          refine z_icmp_ne (tgt := 99) hx hb dX7_factorAt_89 (by decide) (by omega) (fun c_89 => ?_) (fun c_89 => ?_)
          · refine lv_iinc (v := iZ (x + 1)) (lv' := [(3, .int (iZ (x + 1))), (0, .ref a0), (1, .int (iZ ct)), (2, .int (iZ ix)), (4, .int (iZ bf)), (5, .int (iZ i))]) hx hb dX7_factorAt_99 hl (k := 3) rfl (iZ_add _ _) (by decide) rfl (fun ls hl => ?_)
            refine lv_goto (tgt := 18) hx hb dX7_factorAt_102 (by decide) ?_
            exact ih_18 (x + 1) ⟨(by omega), (fnd_miss i1.1 i2 (by show ¬ cnt (fun k => fstP nw k ct ∧ cmpS nw k x ct < 0) (nw 3 - ct + 1) = ix; rw [← show i = nw 3 - ct + 1 by omega, ← j2]; exact c_89))⟩ ⟨by omega, by omega⟩ _ (lv_sub hl [1, 2, 3, 0] rfl)
          · refine lv_aload_n hx hb dX7_factorAt_92 rfl (lv_at hl 0 rfl) ?_
            refine lv_iload_n hx hb dX7_factorAt_93 rfl (lv_at hl 3 rfl) ?_
            refine lv_iload_n hx hb dX7_factorAt_94 rfl (lv_at hl 1 rfl) ?_
            refine z_calli (va_runV (As := [.int (iZ x), .int (iZ ct)]) (rest := []) ⟨hx, hb, hml, hown, hts⟩ (c_X7_numberAt lau G cy a0 a1 a2 a3 a4 a5 a6 a7 ed tc ol nl nw x ct (by first | assumption | omega) (by first | assumption | omega) (by first | assumption | omega) (by first | assumption | omega)) (cwV 2 hts gX7_factorAt_X7_numberAt rfl rfl rfl (by decide +kernel) ⟨Nat.le_of_ble_eq_true rfl, Nat.le_of_ble_eq_true rfl⟩) ⟨P1_blind, va_recv hK hP (ci := 6) (q0 := 0) rfl rfl, P1_mk hKK (hP.sub [0, 1] rfl)⟩ rfl rfl hl.1 rfl (lv_room (Nat.le_of_ble_eq_true rfl)) dX7_factorAt_95 ⟨Nat.le_refl 0, Nat.le_refl 0⟩) ?_
            exact z_iretP hx hb hr hlocks dX7_factorAt_98 (by rw [if_pos ⟨c_7, by omega⟩, fnd_hit (P := fun x => cnt (fun k => fstP nw k ct ∧ cmpS nw k x ct < 0) (nw 3 - ct + 1) = ix) (i := x) (by omega) i2 (by rw [← show i = nw 3 - ct + 1 by omega, ← j2]; exact c_89) (by omega), if_neg (by omega)])
        · refine lv_iload hx hb dX7_factorAt_49 (lv_at hl 4 rfl) ?_
          refine lv_aload_n hx hb dX7_factorAt_51 rfl (lv_at hl 0 rfl) ?_
          refine lv_iload hx hb dX7_factorAt_52 (lv_at hl 5 rfl) ?_
          refine lv_iload_n hx hb dX7_factorAt_54 rfl (lv_at hl 1 rfl) ?_
          refine z_calli (va_runV (As := [.int (iZ i), .int (iZ ct)]) (rest := [.int (iZ bf)]) ⟨hx, hb, hml, hown, hts⟩ (c_X7_isFirst lau G cy a0 a1 a2 a3 a4 a5 a6 a7 ed tc ol nl nw i ct (by first | assumption | omega) (by first | assumption | omega) (by first | assumption | omega) (by first | assumption | omega)) (cwV 2 hts gX7_factorAt_X7_isFirst rfl rfl rfl (by decide +kernel) ⟨Nat.le_of_ble_eq_true rfl, Nat.le_of_ble_eq_true rfl⟩) ⟨P1_blind, va_recv hK hP (ci := 6) (q0 := 0) rfl rfl, P1_mk hKK (hP.sub [0, 1] rfl)⟩ rfl rfl hl.1 rfl (lv_room (Nat.le_of_ble_eq_true rfl)) dX7_factorAt_55 ⟨Nat.le_refl 0, Nat.le_refl 0⟩) ?_
          refine z_ifB_eq (tgt := 76) hx hb dX7_factorAt_58 (by decide) (fun c_58 => ?_) (fun c_58 => ?_)
          · refine lv_iconst (v := iZ 0) hx hb dX7_factorAt_76 rfl ?_
            refine z_iadd hx hb dX7_factorAt_77 ?_
            refine lv_istore (lv' := [(4, .int (iZ (bf + 0))), (0, .ref a0), (1, .int (iZ ct)), (2, .int (iZ ix)), (3, .int (iZ x)), (5, .int (iZ i))]) hx hb dX7_factorAt_78 hl (by decide) rfl (fun ls hl => ?_)
            refine lv_iinc (v := iZ (i + 1)) (lv' := [(5, .int (iZ (i + 1))), (4, .int (iZ (bf + 0))), (0, .ref a0), (1, .int (iZ ct)), (2, .int (iZ ix)), (3, .int (iZ x))]) hx hb dX7_factorAt_80 hl (k := 5) rfl (iZ_add _ _) (by decide) rfl (fun ls hl => ?_)
            refine lv_goto (tgt := 36) hx hb dX7_factorAt_83 (by decide) ?_
            exact ih_36 (bf + 0) (i + 1) ⟨(by omega), (by rw [cnt_f (P := fun k => fstP nw k ct ∧ cmpS nw k x ct < 0) (by omega) (fun z => c_58 z.1), ← j2]; omega)⟩ ⟨by omega, by omega⟩ _ (lv_sub hl [2, 3, 4, 5, 1, 0] rfl)
          · refine lv_aload_n hx hb dX7_factorAt_61 rfl (lv_at hl 0 rfl) ?_
            refine lv_iload hx hb dX7_factorAt_62 (lv_at hl 5 rfl) ?_
            refine lv_iload_n hx hb dX7_factorAt_64 rfl (lv_at hl 3 rfl) ?_
            refine lv_iload_n hx hb dX7_factorAt_65 rfl (lv_at hl 1 rfl) ?_
            refine z_calli (va_runV (As := [.int (iZ i), .int (iZ x), .int (iZ ct)]) (rest := [.int (iZ bf)]) ⟨hx, hb, hml, hown, hts⟩ (c_X7_compare lau G cy a0 a1 a2 a3 a4 a5 a6 a7 ed tc ol nl nw i x ct (by first | assumption | omega) (by first | assumption | omega) (by first | assumption | omega) (by first | assumption | omega) (by first | assumption | omega)) (cwV 3 hts gX7_factorAt_X7_compare rfl rfl rfl (by decide +kernel) ⟨Nat.le_of_ble_eq_true rfl, Nat.le_of_ble_eq_true rfl⟩) ⟨P1_blind, va_recv hK hP (ci := 6) (q0 := 0) rfl rfl, P1_mk hKK (hP.sub [0, 1] rfl)⟩ rfl rfl hl.1 rfl (lv_room (Nat.le_of_ble_eq_true rfl)) dX7_factorAt_66 ⟨Nat.le_refl 0, Nat.le_refl 0⟩) ?_
            have hcr := cmpS_r (w := nw) hL (x := i) (y := x) (m := ct) (by omega) (by omega) (by omega)
            refine z_if_ge (tgt := 76) hx hb dX7_factorAt_69 (by decide) (by omega) (fun c_69 => ?_) (fun c_69 => ?_)
            · refine lv_iconst (v := iZ 0) hx hb dX7_factorAt_76 rfl ?_
              refine z_iadd hx hb dX7_factorAt_77 ?_
              refine lv_istore (lv' := [(4, .int (iZ (bf + 0))), (0, .ref a0), (1, .int (iZ ct)), (2, .int (iZ ix)), (3, .int (iZ x)), (5, .int (iZ i))]) hx hb dX7_factorAt_78 hl (by decide) rfl (fun ls hl => ?_)
              refine lv_iinc (v := iZ (i + 1)) (lv' := [(5, .int (iZ (i + 1))), (4, .int (iZ (bf + 0))), (0, .ref a0), (1, .int (iZ ct)), (2, .int (iZ ix)), (3, .int (iZ x))]) hx hb dX7_factorAt_80 hl (k := 5) rfl (iZ_add _ _) (by decide) rfl (fun ls hl => ?_)
              refine lv_goto (tgt := 36) hx hb dX7_factorAt_83 (by decide) ?_
              exact ih_36 (bf + 0) (i + 1) ⟨(by omega), (by rw [cnt_f (P := fun k => fstP nw k ct ∧ cmpS nw k x ct < 0) (by omega) (fun z => by have := z.2; omega), ← j2]; omega)⟩ ⟨by omega, by omega⟩ _ (lv_sub hl [2, 3, 4, 5, 1, 0] rfl)
            · refine lv_iconst (v := iZ 1) hx hb dX7_factorAt_72 rfl ?_
              refine lv_goto (tgt := 77) hx hb dX7_factorAt_73 (by decide) ?_
              refine z_iadd hx hb dX7_factorAt_77 ?_
              refine lv_istore (lv' := [(4, .int (iZ (bf + 1))), (0, .ref a0), (1, .int (iZ ct)), (2, .int (iZ ix)), (3, .int (iZ x)), (5, .int (iZ i))]) hx hb dX7_factorAt_78 hl (by decide) rfl (fun ls hl => ?_)
              refine lv_iinc (v := iZ (i + 1)) (lv' := [(5, .int (iZ (i + 1))), (4, .int (iZ (bf + 1))), (0, .ref a0), (1, .int (iZ ct)), (2, .int (iZ ix)), (3, .int (iZ x))]) hx hb dX7_factorAt_80 hl (k := 5) rfl (iZ_add _ _) (by decide) rfl (fun ls hl => ?_)
              refine lv_goto (tgt := 36) hx hb dX7_factorAt_83 (by decide) ?_
              exact ih_36 (bf + 1) (i + 1) ⟨(by omega), (by rw [cnt_t (P := fun k => fstP nw k ct ∧ cmpS nw k x ct < 0) (by omega) ⟨c_58, c_69⟩, ← j2])⟩ ⟨by omega, by omega⟩ _ (lv_sub hl [2, 3, 4, 5, 1, 0] rfl)
    · refine lv_iconst (v := iZ (-1)) hx hb dX7_factorAt_14 rfl ?_
      exact z_iretP hx hb hr hlocks dX7_factorAt_15 (by rw [if_neg (by omega)])
set_option maxHeartbeats 4000000 in
set_option maxRecDepth 100000 in
theorem c_X7_isPeriod (lau : Launch) (G : va_G) (cy : Nat → ClassId) (a0 a1 a2 a3 a4 a5 a6 a7 : Nat) (ed tc ol nl : Int) (nw : Int → Int) (t : Int) (hN : 0 ≤ nw 3 ∧ nw 3 ≤ 60) (hL : ∀ x, 4 ≤ x → x < 4 + nw 3 → 0 ≤ nw x ∧ nw x ≤ 1) (h1 : 0 < t ∧ t ≤ 1000) : Met lau yX7_isPeriod wsX7_isPeriod ({ frames := 0, cells := 0, slots := 0, locals := 0 }) (P1 G cy [.ref a0, .int (iZ t)] (fun H => va_P G vwCl [(a0, .inr (6, [.ref a1, .ref a2, .ref a3, .int (iZ ed), .ref a4, .int (iZ tc), .ref a5, .int (iZ ol), .ref a6, .int (iZ nl), .ref a7])), (a1, .inl (cy 0, 64, .inl (zf nw)))] H)) (vp_Si (fun r => r = iZ (bv (perP nw t)))) 0 0 (fun _ => False) := by
  refine z_head (lv := [(0, .ref a0), (1, .int (iZ t))]) RX7 (by decide) rfl rfl (Nat.le_of_ble_eq_true rfl) rfl ?_
  intro pr ev s mt below meth cd ls hx hb hr hlocks hml hown hname hts hKK hP hl
  have hK := hKK.1
  have hP : va_P G vwCl [(a0, .inr (6, [.ref a1, .ref a2, .ref a3, .int (iZ ed), .ref a4, .int (iZ tc), .ref a5, .int (iZ ol), .ref a6, .int (iZ nl), .ref a7])), (a1, .inl (cy 0, 64, .inl (zf nw)))] s.heap := hP
  refine lv_iconst (v := iZ 0) hx hb dX7_isPeriod_0 rfl ?_
  refine lv_istore_n (lv' := [(2, .int (iZ 0)), (0, .ref a0), (1, .int (iZ t))]) hx hb dX7_isPeriod_1 rfl hl (by decide) rfl (fun ls hl => ?_)
  refine z_loop1 (nL := 3) (fun (k : Int) => [(0, .ref a0), (1, .int (iZ t)), (2, .int (iZ k))]) (fun (k : Int) => (0 ≤ k ∧ k ≤ 60) ∧ (∀ j : Int, 0 ≤ j → j < k → nw (4 + j) = nw (4 + j + t))) (fun (k : Int) => 60 - k) (a1 := 0) ⟨(by omega), (fun j q1 q2 => by omega)⟩ (lv_sub hl [1, 2, 0] rfl) ?_
  rintro k ⟨i1, i2⟩ ih_2 ls hl
  refine lv_iload_n hx hb dX7_isPeriod_2 rfl (lv_at hl 2 rfl) ?_
  refine lv_iload_n hx hb dX7_isPeriod_3 rfl (lv_at hl 1 rfl) ?_
  refine z_iadd hx hb dX7_isPeriod_4 ?_
  refine lv_aload_n hx hb dX7_isPeriod_5 rfl (lv_at hl 0 rfl) ?_
  refine va_get (D := G) (ci := 6) (v := .ref a1) (C := RX7) (T := TX7) (N := 11) hx hb hts (by decide +kernel) hown hK hP 0 rfl rfl 0 (by decide) (hts (.fieldLink RX7 7 "SturmianWordsModel" "now" "[I") (by decide +kernel)) (fun _ h9 => h9) rfl dX7_isPeriod_6 ?_
  refine lv_iconst (v := iZ 3) hx hb dX7_isPeriod_9 rfl ?_
  refine z_iald (D := G) hx hb hK hP 1 0 rfl rfl (by omega) dX7_isPeriod_10 ?_
  refine z_icmp_ge (tgt := 43) hx hb dX7_isPeriod_11 (by decide) (by omega) (fun c_11 => ?_) (fun c_11 => ?_)
  · refine lv_iconst (v := iZ 1) hx hb dX7_isPeriod_43 rfl ?_
    exact z_zretP hx hb hr hlocks dX7_isPeriod_44 ((bv_t (fun j q1 q2 => i2 j q1 (by omega))).symm)
  · refine lv_aload_n hx hb dX7_isPeriod_14 rfl (lv_at hl 0 rfl) ?_
    refine va_get (D := G) (ci := 6) (v := .ref a1) (C := RX7) (T := TX7) (N := 11) hx hb hts (by decide +kernel) hown hK hP 0 rfl rfl 0 (by decide) (hts (.fieldLink RX7 7 "SturmianWordsModel" "now" "[I") (by decide +kernel)) (fun _ h9 => h9) rfl dX7_isPeriod_15 ?_
    refine lv_iconst (v := iZ 4) hx hb dX7_isPeriod_18 rfl ?_
    refine lv_iload_n hx hb dX7_isPeriod_19 rfl (lv_at hl 2 rfl) ?_
    refine z_iadd hx hb dX7_isPeriod_20 ?_
    refine z_iald (D := G) hx hb hK hP 1 0 rfl rfl (by omega) dX7_isPeriod_21 ?_
    refine lv_aload_n hx hb dX7_isPeriod_22 rfl (lv_at hl 0 rfl) ?_
    refine va_get (D := G) (ci := 6) (v := .ref a1) (C := RX7) (T := TX7) (N := 11) hx hb hts (by decide +kernel) hown hK hP 0 rfl rfl 0 (by decide) (hts (.fieldLink RX7 7 "SturmianWordsModel" "now" "[I") (by decide +kernel)) (fun _ h9 => h9) rfl dX7_isPeriod_23 ?_
    refine lv_iconst (v := iZ 4) hx hb dX7_isPeriod_26 rfl ?_
    refine lv_iload_n hx hb dX7_isPeriod_27 rfl (lv_at hl 2 rfl) ?_
    refine z_iadd hx hb dX7_isPeriod_28 ?_
    refine lv_iload_n hx hb dX7_isPeriod_29 rfl (lv_at hl 1 rfl) ?_
    refine z_iadd hx hb dX7_isPeriod_30 ?_
    refine z_iald (D := G) hx hb hK hP 1 0 rfl rfl (by omega) dX7_isPeriod_31 ?_
    have hL1 := hL (4 + k) (by omega) (by omega)
    have hL2 := hL (4 + k + t) (by omega) (by omega)
    refine z_icmp_eq (tgt := 37) hx hb dX7_isPeriod_32 (by decide) (by omega) (fun c_32 => ?_) (fun c_32 => ?_)
    · refine lv_iinc (v := iZ (k + 1)) (lv' := [(2, .int (iZ (k + 1))), (0, .ref a0), (1, .int (iZ t))]) hx hb dX7_isPeriod_37 hl (k := 2) rfl (iZ_add _ _) (by decide) rfl (fun ls hl => ?_)
      refine lv_goto (tgt := 2) hx hb dX7_isPeriod_40 (by decide) ?_
      exact ih_2 (k + 1) ⟨(by omega), (fun j q1 q2 => by rcases (show j < k ∨ j = k by omega) with q | q; (· exact i2 j q1 q); (· rw [q]; omega))⟩ ⟨by omega, by omega⟩ _ (lv_sub hl [1, 2, 0] rfl)
    · refine lv_iconst (v := iZ 0) hx hb dX7_isPeriod_35 rfl ?_
      exact z_zretP hx hb hr hlocks dX7_isPeriod_36 ((bv_f (fun z => by have := z k (by omega) (by omega); omega)).symm)
set_option maxHeartbeats 4000000 in
set_option maxRecDepth 100000 in
theorem c_X7_leastPeriod (lau : Launch) (G : va_G) (cy : Nat → ClassId) (a0 a1 a2 a3 a4 a5 a6 a7 : Nat) (ed tc ol nl : Int) (nw : Int → Int) (hN : 0 ≤ nw 3 ∧ nw 3 ≤ 60) (hL : ∀ x, 4 ≤ x → x < 4 + nw 3 → 0 ≤ nw x ∧ nw x ≤ 1) : Met lau yX7_leastPeriod wsX7_leastPeriod ({ frames := 1, cells := 0, slots := 0, locals := 22 }) (P1 G cy [.ref a0] (fun H => va_P G vwCl [(a0, .inr (6, [.ref a1, .ref a2, .ref a3, .int (iZ ed), .ref a4, .int (iZ tc), .ref a5, .int (iZ ol), .ref a6, .int (iZ nl), .ref a7])), (a1, .inl (cy 0, 64, .inl (zf nw)))] H)) (vp_Si (fun r => r = iZ (if fnd (fun t => 1 ≤ t ∧ perP nw t) (nw 3 + 1) = -1 then -3 else fnd (fun t => 1 ≤ t ∧ perP nw t) (nw 3 + 1)))) 0 0 (fun _ => False) := by
  refine z_head (lv := [(0, .ref a0)]) RX7 (by decide) rfl rfl (Nat.le_of_ble_eq_true rfl) rfl ?_
  intro pr ev s mt below meth cd ls hx hb hr hlocks hml hown hname hts hKK hP hl
  have hK := hKK.1
  have hP : va_P G vwCl [(a0, .inr (6, [.ref a1, .ref a2, .ref a3, .int (iZ ed), .ref a4, .int (iZ tc), .ref a5, .int (iZ ol), .ref a6, .int (iZ nl), .ref a7])), (a1, .inl (cy 0, 64, .inl (zf nw)))] s.heap := hP
  refine lv_iconst (v := iZ 1) hx hb dX7_leastPeriod_0 rfl ?_
  refine lv_istore_n (lv' := [(1, .int (iZ 1)), (0, .ref a0)]) hx hb dX7_leastPeriod_1 rfl hl (by decide) rfl (fun ls hl => ?_)
  refine z_loop1 (nL := 2) (fun (t : Int) => [(0, .ref a0), (1, .int (iZ t))]) (fun (t : Int) => (1 ≤ t ∧ t ≤ nw 3 + 1) ∧ (fnd (fun t => 1 ≤ t ∧ perP nw t) t = -1)) (fun (t : Int) => nw 3 + 1 - t) (a1 := 1) ⟨(by omega), (fnd_miss (i := 0) (Int.le_refl 0) (fnd_0 (Int.le_refl 0)) (by omega))⟩ (lv_sub hl [1, 0] rfl) ?_
  rintro t ⟨i1, i2⟩ ih_2 ls hl
  refine lv_iload_n hx hb dX7_leastPeriod_2 rfl (lv_at hl 1 rfl) ?_
  refine lv_aload_n hx hb dX7_leastPeriod_3 rfl (lv_at hl 0 rfl) ?_
  refine va_get (D := G) (ci := 6) (v := .ref a1) (C := RX7) (T := TX7) (N := 11) hx hb hts (by decide +kernel) hown hK hP 0 rfl rfl 0 (by decide) (hts (.fieldLink RX7 7 "SturmianWordsModel" "now" "[I") (by decide +kernel)) (fun _ h9 => h9) rfl dX7_leastPeriod_4 ?_
  refine lv_iconst (v := iZ 3) hx hb dX7_leastPeriod_7 rfl ?_
  refine z_iald (D := G) hx hb hK hP 1 0 rfl rfl (by omega) dX7_leastPeriod_8 ?_
  refine z_icmp_gt (tgt := 28) hx hb dX7_leastPeriod_9 (by decide) (by omega) (fun c_9 => ?_) (fun c_9 => ?_)
  · refine lv_bipush (v := iZ (-3)) hx hb dX7_leastPeriod_28 (by decide +kernel) ?_
    exact z_iretP hx hb hr hlocks dX7_leastPeriod_30 (by rw [← show t = nw 3 + 1 by omega, if_pos i2])
  · refine lv_aload_n hx hb dX7_leastPeriod_12 rfl (lv_at hl 0 rfl) ?_
    refine lv_iload_n hx hb dX7_leastPeriod_13 rfl (lv_at hl 1 rfl) ?_
    refine z_calli (va_runV (As := [.int (iZ t)]) (rest := []) ⟨hx, hb, hml, hown, hts⟩ (c_X7_isPeriod lau G cy a0 a1 a2 a3 a4 a5 a6 a7 ed tc ol nl nw t (by first | assumption | omega) (by first | assumption | omega) (by first | assumption | omega)) (cwV 1 hts gX7_leastPeriod_X7_isPeriod rfl rfl rfl (by decide +kernel) ⟨Nat.le_of_ble_eq_true rfl, Nat.le_of_ble_eq_true rfl⟩) ⟨P1_blind, va_recv hK hP (ci := 6) (q0 := 0) rfl rfl, P1_mk hKK (hP.sub [0, 1] rfl)⟩ rfl rfl hl.1 rfl (lv_room (Nat.le_of_ble_eq_true rfl)) dX7_leastPeriod_14 ⟨Nat.le_refl 0, Nat.le_refl 0⟩) ?_
    refine z_ifB_eq (tgt := 22) hx hb dX7_leastPeriod_17 (by decide) (fun c_17 => ?_) (fun c_17 => ?_)
    · refine lv_iinc (v := iZ (t + 1)) (lv' := [(1, .int (iZ (t + 1))), (0, .ref a0)]) hx hb dX7_leastPeriod_22 hl (k := 1) rfl (iZ_add _ _) (by decide) rfl (fun ls hl => ?_)
      refine lv_goto (tgt := 2) hx hb dX7_leastPeriod_25 (by decide) ?_
      exact ih_2 (t + 1) ⟨(by omega), (fnd_miss (by omega) i2 (fun z => c_17 z.2))⟩ ⟨by omega, by omega⟩ _ (lv_sub hl [1, 0] rfl)
    · refine lv_iload_n hx hb dX7_leastPeriod_20 rfl (lv_at hl 1 rfl) ?_
      exact z_iretP hx hb hr hlocks dX7_leastPeriod_21 (by rw [fnd_hit (P := fun t => 1 ≤ t ∧ perP nw t) (i := t) (by omega) i2 ⟨by omega, c_17⟩ (by omega), if_neg (by omega)])
set_option maxHeartbeats 4000000 in
set_option maxRecDepth 100000 in
theorem c_X7_isCentral (lau : Launch) (G : va_G) (cy : Nat → ClassId) (a0 a1 a2 a3 a4 a5 a6 a7 : Nat) (ed tc ol nl : Int) (nw : Int → Int) (hN : 0 ≤ nw 3 ∧ nw 3 ≤ 60) (hL : ∀ x, 4 ≤ x → x < 4 + nw 3 → 0 ≤ nw x ∧ nw x ≤ 1) : Met lau yX7_isCentral wsX7_isCentral ({ frames := 1, cells := 0, slots := 0, locals := 24 }) (P1 G cy [.ref a0] (fun H => va_P G vwCl [(a0, .inr (6, [.ref a1, .ref a2, .ref a3, .int (iZ ed), .ref a4, .int (iZ tc), .ref a5, .int (iZ ol), .ref a6, .int (iZ nl), .ref a7])), (a1, .inl (cy 0, 64, .inl (zf nw)))] H)) (vp_Si (fun r => r = iZ (bv (∃ t : Int, t < nw 3 + 2 ∧ (1 ≤ t ∧ (Int.gcd t (nw 3 + 2 - t) : Int) = 1 ∧ perP nw t ∧ perP nw (nw 3 + 2 - t)))))) 0 0 (fun _ => False) := by
  refine z_head (lv := [(0, .ref a0)]) RX7 (by decide) rfl rfl (Nat.le_of_ble_eq_true rfl) rfl ?_
  intro pr ev s mt below meth cd ls hx hb hr hlocks hml hown hname hts hKK hP hl
  have hK := hKK.1
  have hP : va_P G vwCl [(a0, .inr (6, [.ref a1, .ref a2, .ref a3, .int (iZ ed), .ref a4, .int (iZ tc), .ref a5, .int (iZ ol), .ref a6, .int (iZ nl), .ref a7])), (a1, .inl (cy 0, 64, .inl (zf nw)))] s.heap := hP
  refine lv_aload_n hx hb dX7_isCentral_0 rfl (lv_at hl 0 rfl) ?_
  refine va_get (D := G) (ci := 6) (v := .ref a1) (C := RX7) (T := TX7) (N := 11) hx hb hts (by decide +kernel) hown hK hP 0 rfl rfl 0 (by decide) (hts (.fieldLink RX7 7 "SturmianWordsModel" "now" "[I") (by decide +kernel)) (fun _ h9 => h9) rfl dX7_isCentral_1 ?_
  refine lv_iconst (v := iZ 3) hx hb dX7_isCentral_4 rfl ?_
  refine z_iald (D := G) hx hb hK hP 1 0 rfl rfl (by omega) dX7_isCentral_5 ?_
  refine lv_istore_n (lv' := [(1, .int (iZ (nw 3))), (0, .ref a0)]) hx hb dX7_isCentral_6 rfl hl (by decide) rfl (fun ls hl => ?_)
  refine lv_iconst (v := iZ 1) hx hb dX7_isCentral_7 rfl ?_
  refine lv_istore_n (lv' := [(2, .int (iZ 1)), (1, .int (iZ (nw 3))), (0, .ref a0)]) hx hb dX7_isCentral_8 rfl hl (by decide) rfl (fun ls hl => ?_)
  refine z_loop1 (nL := 4) (fun (t : Int) => [(0, .ref a0), (1, .int (iZ (nw 3))), (2, .int (iZ t))]) (fun (t : Int) => (1 ≤ t ∧ t ≤ nw 3 + 2) ∧ (∀ t9 : Int, 1 ≤ t9 → t9 < t → ¬ (1 ≤ t9 ∧ (Int.gcd t9 (nw 3 + 2 - t9) : Int) = 1 ∧ perP nw t9 ∧ perP nw (nw 3 + 2 - t9)))) (fun (t : Int) => nw 3 + 2 - t) (a1 := 1) ⟨(by omega), (fun _ _ _ => by omega)⟩ (lv_sub hl [2, 1, 0] rfl) ?_
  rintro t ⟨i1, i2⟩ ih_9 ls hl
  refine lv_iload_n hx hb dX7_isCentral_9 rfl (lv_at hl 2 rfl) ?_
  refine lv_iload_n hx hb dX7_isCentral_10 rfl (lv_at hl 1 rfl) ?_
  refine lv_iconst (v := iZ 1) hx hb dX7_isCentral_11 rfl ?_
  refine z_iadd hx hb dX7_isCentral_12 ?_
  refine z_icmp_gt (tgt := 55) hx hb dX7_isCentral_13 (by decide) (by omega) (fun c_13 => ?_) (fun c_13 => ?_)
  · refine lv_iconst (v := iZ 0) hx hb dX7_isCentral_55 rfl ?_
    exact z_iretP hx hb hr hlocks dX7_isCentral_56 ((bv_f (fun ⟨t9, q1, q2⟩ => i2 t9 q2.1 (by omega) q2)).symm)
  · refine lv_iload_n hx hb dX7_isCentral_16 rfl (lv_at hl 1 rfl) ?_
    refine lv_iconst (v := iZ 2) hx hb dX7_isCentral_17 rfl ?_
    refine z_iadd hx hb dX7_isCentral_18 ?_
    refine lv_iload_n hx hb dX7_isCentral_19 rfl (lv_at hl 2 rfl) ?_
    refine z_isub hx hb dX7_isCentral_20 ?_
    refine lv_istore_n (lv' := [(3, .int (iZ (((nw 3) + 2) - t))), (0, .ref a0), (1, .int (iZ (nw 3))), (2, .int (iZ t))]) hx hb dX7_isCentral_21 rfl hl (by decide) rfl (fun ls hl => ?_)
    refine lv_iload_n hx hb dX7_isCentral_22 rfl (lv_at hl 3 rfl) ?_
    refine lv_iload_n hx hb dX7_isCentral_23 rfl (lv_at hl 0 rfl) ?_
    refine z_calli (va_runS (As := [.int (iZ t), .int (iZ (((nw 3) + 2) - t))]) (rest := []) ⟨hx, hb, hml, hown, hts⟩ (c_X7_divisor lau G cy t (((nw 3) + 2) - t) (by first | assumption | omega) (by first | assumption | omega)) (va_cwS 2 hts gX7_isCentral_X7_divisor rfl rfl rfl (by decide +kernel) ⟨Nat.le_of_ble_eq_true rfl, Nat.le_of_ble_eq_true rfl⟩) ⟨P1_blind, P1_mk hKK (trivial)⟩ rfl rfl hl.1 rfl (lv_room (Nat.le_of_ble_eq_true rfl)) dX7_isCentral_24 ⟨Nat.le_refl 0, Nat.le_refl 0⟩) ?_
    refine lv_iconst (v := iZ 1) hx hb dX7_isCentral_27 rfl ?_
    have hgr := cd_r (a := t) (d := nw 3 + 2 - t) (by omega)
    refine z_icmp_ne (tgt := 49) hx hb dX7_isCentral_28 (by decide) (by omega) (fun c_28 => ?_) (fun c_28 => ?_)
    · refine lv_iinc (v := iZ (t + 1)) (lv' := [(2, .int (iZ (t + 1))), (3, .int (iZ (((nw 3) + 2) - t))), (0, .ref a0), (1, .int (iZ (nw 3)))]) hx hb dX7_isCentral_49 hl (k := 3) rfl (iZ_add _ _) (by decide) rfl (fun ls hl => ?_)
      refine lv_goto (tgt := 9) hx hb dX7_isCentral_52 (by decide) ?_
      exact ih_9 (t + 1) ⟨(by omega), (fun t9 q1 q2 => by rcases (show t9 < t ∨ t9 = t by omega) with q | q; (· exact i2 t9 q1 q); (· rw [q]; exact fun z => c_28 z.2.1))⟩ ⟨by omega, by omega⟩ _ (lv_sub hl [2, 3, 0] rfl)
    · refine lv_aload_n hx hb dX7_isCentral_31 rfl (lv_at hl 1 rfl) ?_
      refine lv_iload_n hx hb dX7_isCentral_32 rfl (lv_at hl 3 rfl) ?_
      refine z_calli (va_runV (As := [.int (iZ t)]) (rest := []) ⟨hx, hb, hml, hown, hts⟩ (c_X7_isPeriod lau G cy a0 a1 a2 a3 a4 a5 a6 a7 ed tc ol nl nw t (by first | assumption | omega) (by first | assumption | omega) (by first | assumption | omega)) (cwV 1 hts gX7_isCentral_X7_isPeriod rfl rfl rfl (by decide +kernel) ⟨Nat.le_of_ble_eq_true rfl, Nat.le_of_ble_eq_true rfl⟩) ⟨P1_blind, va_recv hK hP (ci := 6) (q0 := 0) rfl rfl, P1_mk hKK (hP.sub [0, 1] rfl)⟩ rfl rfl hl.1 rfl (lv_room (Nat.le_of_ble_eq_true rfl)) dX7_isCentral_33 ⟨Nat.le_refl 0, Nat.le_refl 0⟩) ?_
      refine z_ifB_eq (tgt := 49) hx hb dX7_isCentral_36 (by decide) (fun c_36 => ?_) (fun c_36 => ?_)
      · refine lv_iinc (v := iZ (t + 1)) (lv' := [(2, .int (iZ (t + 1))), (3, .int (iZ (((nw 3) + 2) - t))), (0, .ref a0), (1, .int (iZ (nw 3)))]) hx hb dX7_isCentral_49 hl (k := 3) rfl (iZ_add _ _) (by decide) rfl (fun ls hl => ?_)
        refine lv_goto (tgt := 9) hx hb dX7_isCentral_52 (by decide) ?_
        exact ih_9 (t + 1) ⟨(by omega), (fun t9 q1 q2 => by rcases (show t9 < t ∨ t9 = t by omega) with q | q; (· exact i2 t9 q1 q); (· rw [q]; exact fun z => c_36 z.2.2.1))⟩ ⟨by omega, by omega⟩ _ (lv_sub hl [2, 3, 0] rfl)
      · refine lv_aload_n hx hb dX7_isCentral_39 rfl (lv_at hl 1 rfl) ?_
        refine lv_iload_n hx hb dX7_isCentral_40 rfl (lv_at hl 0 rfl) ?_
        refine z_calli (va_runV (As := [.int (iZ (((nw 3) + 2) - t))]) (rest := []) ⟨hx, hb, hml, hown, hts⟩ (c_X7_isPeriod lau G cy a0 a1 a2 a3 a4 a5 a6 a7 ed tc ol nl nw (((nw 3) + 2) - t) (by first | assumption | omega) (by first | assumption | omega) (by first | assumption | omega)) (cwV 1 hts gX7_isCentral_X7_isPeriod rfl rfl rfl (by decide +kernel) ⟨Nat.le_of_ble_eq_true rfl, Nat.le_of_ble_eq_true rfl⟩) ⟨P1_blind, va_recv hK hP (ci := 6) (q0 := 0) rfl rfl, P1_mk hKK (hP.sub [0, 1] rfl)⟩ rfl rfl hl.1 rfl (lv_room (Nat.le_of_ble_eq_true rfl)) dX7_isCentral_41 ⟨Nat.le_refl 0, Nat.le_refl 0⟩) ?_
        refine z_ifB_eq (tgt := 49) hx hb dX7_isCentral_44 (by decide) (fun c_44 => ?_) (fun c_44 => ?_)
        · refine lv_iinc (v := iZ (t + 1)) (lv' := [(2, .int (iZ (t + 1))), (3, .int (iZ (((nw 3) + 2) - t))), (0, .ref a0), (1, .int (iZ (nw 3)))]) hx hb dX7_isCentral_49 hl (k := 3) rfl (iZ_add _ _) (by decide) rfl (fun ls hl => ?_)
          refine lv_goto (tgt := 9) hx hb dX7_isCentral_52 (by decide) ?_
          exact ih_9 (t + 1) ⟨(by omega), (fun t9 q1 q2 => by rcases (show t9 < t ∨ t9 = t by omega) with q | q; (· exact i2 t9 q1 q); (· rw [q]; exact fun z => c_44 z.2.2.2))⟩ ⟨by omega, by omega⟩ _ (lv_sub hl [2, 3, 0] rfl)
        · refine lv_iconst (v := iZ 1) hx hb dX7_isCentral_47 rfl ?_
          exact z_iretP hx hb hr hlocks dX7_isCentral_48 ((bv_t ⟨t, by omega, by omega, c_28, c_36, c_44⟩).symm)
set_option maxHeartbeats 4000000 in
set_option maxRecDepth 100000 in
theorem c_X7_longestPalindromicPrefix (lau : Launch) (G : va_G) (cy : Nat → ClassId) (a0 a1 a2 a3 a4 a5 a6 a7 : Nat) (ed tc ol nl : Int) (nw : Int → Int) (hN : 0 ≤ nw 3 ∧ nw 3 ≤ 60) (hL : ∀ x, 4 ≤ x → x < 4 + nw 3 → 0 ≤ nw x ∧ nw x ≤ 1) : Met lau yX7_longestPalindromicPrefix wsX7_longestPalindromicPrefix ({ frames := 1, cells := 0, slots := 0, locals := 23 }) (P1 G cy [.ref a0] (fun H => va_P G vwCl [(a0, .inr (6, [.ref a1, .ref a2, .ref a3, .int (iZ ed), .ref a4, .int (iZ tc), .ref a5, .int (iZ ol), .ref a6, .int (iZ nl), .ref a7])), (a1, .inl (cy 0, 64, .inl (zf nw)))] H)) (vp_Si (fun r => r = iZ (nw 3 - fnd (fun k => palP nw 0 (nw 3 - k)) (nw 3 + 1)))) 0 0 (fun _ => False) := by
  refine z_head (lv := [(0, .ref a0)]) RX7 (by decide) rfl rfl (Nat.le_of_ble_eq_true rfl) rfl ?_
  intro pr ev s mt below meth cd ls hx hb hr hlocks hml hown hname hts hKK hP hl
  have hK := hKK.1
  have hP : va_P G vwCl [(a0, .inr (6, [.ref a1, .ref a2, .ref a3, .int (iZ ed), .ref a4, .int (iZ tc), .ref a5, .int (iZ ol), .ref a6, .int (iZ nl), .ref a7])), (a1, .inl (cy 0, 64, .inl (zf nw)))] s.heap := hP
  refine lv_aload_n hx hb dX7_longestPalindromicPrefix_0 rfl (lv_at hl 0 rfl) ?_
  refine va_get (D := G) (ci := 6) (v := .ref a1) (C := RX7) (T := TX7) (N := 11) hx hb hts (by decide +kernel) hown hK hP 0 rfl rfl 0 (by decide) (hts (.fieldLink RX7 7 "SturmianWordsModel" "now" "[I") (by decide +kernel)) (fun _ h9 => h9) rfl dX7_longestPalindromicPrefix_1 ?_
  refine lv_iconst (v := iZ 3) hx hb dX7_longestPalindromicPrefix_4 rfl ?_
  refine z_iald (D := G) hx hb hK hP 1 0 rfl rfl (by omega) dX7_longestPalindromicPrefix_5 ?_
  refine lv_istore_n (lv' := [(1, .int (iZ (nw 3))), (0, .ref a0)]) hx hb dX7_longestPalindromicPrefix_6 rfl hl (by decide) rfl (fun ls hl => ?_)
  refine z_loop1 (nL := 2) (fun (m : Int) => [(0, .ref a0), (1, .int (iZ m))]) (fun (m : Int) => (0 ≤ m ∧ m ≤ nw 3) ∧ (fnd (fun k => palP nw 0 (nw 3 - k)) (nw 3 - m) = -1)) (fun (m : Int) => m) (a1 := (nw 3)) ⟨(by omega), (by rw [Int.sub_self]; exact fnd_0 (Int.le_refl 0))⟩ (lv_sub hl [1, 0] rfl) ?_
  rintro m ⟨i1, i2⟩ ih_7 ls hl
  refine lv_aload_n hx hb dX7_longestPalindromicPrefix_7 rfl (lv_at hl 0 rfl) ?_
  refine lv_iconst (v := iZ 0) hx hb dX7_longestPalindromicPrefix_8 rfl ?_
  refine lv_iload_n hx hb dX7_longestPalindromicPrefix_9 rfl (lv_at hl 1 rfl) ?_
  refine z_calli (va_runV (As := [.int (iZ 0), .int (iZ m)]) (rest := []) ⟨hx, hb, hml, hown, hts⟩ (c_X7_isPalindrome lau G cy a0 a1 a2 a3 a4 a5 a6 a7 ed tc ol nl nw 0 m (by first | assumption | omega) (by first | assumption | omega) (by first | assumption | omega) (by first | assumption | omega) (by first | assumption | omega)) (cwV 2 hts gX7_longestPalindromicPrefix_X7_isPalindrome rfl rfl rfl (by decide +kernel) ⟨Nat.le_of_ble_eq_true rfl, Nat.le_of_ble_eq_true rfl⟩) ⟨P1_blind, va_recv hK hP (ci := 6) (q0 := 0) rfl rfl, P1_mk hKK (hP.sub [0, 1] rfl)⟩ rfl rfl hl.1 rfl (lv_room (Nat.le_of_ble_eq_true rfl)) dX7_longestPalindromicPrefix_10 ⟨Nat.le_refl 0, Nat.le_refl 0⟩) ?_
  refine z_ifB_ne (tgt := 22) hx hb dX7_longestPalindromicPrefix_13 (by decide) (fun c_13 => ?_) (fun c_13 => ?_)
  · refine lv_iload_n hx hb dX7_longestPalindromicPrefix_22 rfl (lv_at hl 1 rfl) ?_
    exact z_iretP hx hb hr hlocks dX7_longestPalindromicPrefix_23 (by rw [fnd_hit (P := fun k => palP nw 0 (nw 3 - k)) (i := nw 3 - m) (by omega) i2 (by rw [show nw 3 - (nw 3 - m) = m by omega]; exact c_13) (by omega)]; omega)
  · have hm1 : 1 ≤ m := by rcases (show 1 ≤ m ∨ m = 0 by omega) with q | q; (· exact q); (· exact absurd (fun k q1 q2 => by omega) (by rw [q] at c_13; exact c_13))
    refine lv_iinc (v := iZ (m + (-1))) (lv' := [(1, .int (iZ (m + (-1)))), (0, .ref a0)]) hx hb dX7_longestPalindromicPrefix_16 hl (k := 1) rfl (iZ_add _ _) (by decide) rfl (fun ls hl => ?_)
    refine lv_goto (tgt := 7) hx hb dX7_longestPalindromicPrefix_19 (by decide) ?_
    exact ih_7 (m + (-1)) ⟨(by omega), (by rw [show nw 3 - (m + -1) = nw 3 - m + 1 by omega]; exact fnd_miss (by omega) i2 (by rw [show nw 3 - (nw 3 - m) = m by omega]; exact c_13))⟩ ⟨by omega, by omega⟩ _ (lv_sub hl [1, 0] rfl)
set_option maxHeartbeats 4000000 in
set_option maxRecDepth 100000 in
theorem c_X7_letterAt (lau : Launch) (G : va_G) (cy : Nat → ClassId) (a0 a1 a2 a3 a4 a5 a6 a7 : Nat) (ed tc ol nl : Int) (nw : Int → Int) (ix : Int) (hN : 0 ≤ nw 3 ∧ nw 3 ≤ 60) (hL : ∀ x, 4 ≤ x → x < 4 + nw 3 → 0 ≤ nw x ∧ nw x ≤ 1) (h1 : -2147483648 ≤ ix ∧ ix < 2147483648) : Met lau yX7_letterAt wsX7_letterAt ({ frames := 0, cells := 0, slots := 0, locals := 0 }) (P1 G cy [.ref a0, .int (iZ ix)] (fun H => va_P G vwCl [(a0, .inr (6, [.ref a1, .ref a2, .ref a3, .int (iZ ed), .ref a4, .int (iZ tc), .ref a5, .int (iZ ol), .ref a6, .int (iZ nl), .ref a7])), (a1, .inl (cy 0, 64, .inl (zf nw)))] H)) (vp_Si (fun r => r = iZ (if ix < 0 then -1 else if ix < nw 3 then nw (4 + ix) else -3))) 0 0 (fun _ => False) := by
  refine z_head (lv := [(0, .ref a0), (1, .int (iZ ix))]) RX7 (by decide) rfl rfl (Nat.le_of_ble_eq_true rfl) rfl ?_
  intro pr ev s mt below meth cd ls hx hb hr hlocks hml hown hname hts hKK hP hl
  have hK := hKK.1
  have hP : va_P G vwCl [(a0, .inr (6, [.ref a1, .ref a2, .ref a3, .int (iZ ed), .ref a4, .int (iZ tc), .ref a5, .int (iZ ol), .ref a6, .int (iZ nl), .ref a7])), (a1, .inl (cy 0, 64, .inl (zf nw)))] s.heap := hP
  refine lv_iload_n hx hb dX7_letterAt_0 rfl (lv_at hl 1 rfl) ?_
  refine z_if_ge (tgt := 6) hx hb dX7_letterAt_1 (by decide) (by omega) (fun c_1 => ?_) (fun c_1 => ?_)
  · refine lv_iload_n hx hb dX7_letterAt_6 rfl (lv_at hl 1 rfl) ?_
    refine lv_aload_n hx hb dX7_letterAt_7 rfl (lv_at hl 0 rfl) ?_
    refine va_get (D := G) (ci := 6) (v := .ref a1) (C := RX7) (T := TX7) (N := 11) hx hb hts (by decide +kernel) hown hK hP 0 rfl rfl 0 (by decide) (hts (.fieldLink RX7 7 "SturmianWordsModel" "now" "[I") (by decide +kernel)) (fun _ h9 => h9) rfl dX7_letterAt_8 ?_
    refine lv_iconst (v := iZ 3) hx hb dX7_letterAt_11 rfl ?_
    refine z_iald (D := G) hx hb hK hP 1 0 rfl rfl (by omega) dX7_letterAt_12 ?_
    refine z_icmp_ge (tgt := 27) hx hb dX7_letterAt_13 (by decide) (by omega) (fun c_13 => ?_) (fun c_13 => ?_)
    · refine lv_bipush (v := iZ (-3)) hx hb dX7_letterAt_27 (by decide +kernel) ?_
      exact z_iretP hx hb hr hlocks dX7_letterAt_29 (by rw [if_neg (by omega), if_neg (by omega)])
    · refine lv_aload_n hx hb dX7_letterAt_16 rfl (lv_at hl 0 rfl) ?_
      refine va_get (D := G) (ci := 6) (v := .ref a1) (C := RX7) (T := TX7) (N := 11) hx hb hts (by decide +kernel) hown hK hP 0 rfl rfl 0 (by decide) (hts (.fieldLink RX7 7 "SturmianWordsModel" "now" "[I") (by decide +kernel)) (fun _ h9 => h9) rfl dX7_letterAt_17 ?_
      refine lv_iconst (v := iZ 4) hx hb dX7_letterAt_20 rfl ?_
      refine lv_iload_n hx hb dX7_letterAt_21 rfl (lv_at hl 1 rfl) ?_
      refine z_iadd hx hb dX7_letterAt_22 ?_
      refine z_iald (D := G) hx hb hK hP 1 0 rfl rfl (by omega) dX7_letterAt_23 ?_
      refine lv_goto (tgt := 29) hx hb dX7_letterAt_24 (by decide) ?_
      exact z_iretP hx hb hr hlocks dX7_letterAt_29 (by rw [if_neg (by omega), if_pos (by omega)])
  · refine lv_iconst (v := iZ (-1)) hx hb dX7_letterAt_4 rfl ?_
    exact z_iretP hx hb hr hlocks dX7_letterAt_5 (by rw [if_pos (by omega)])
set_option maxHeartbeats 4000000 in
set_option maxRecDepth 100000 in
theorem c_X7_palindromeCount (lau : Launch) (G : va_G) (cy : Nat → ClassId) (a0 a1 a2 a3 a4 a5 a6 a7 : Nat) (ed tc ol nl : Int) (nw : Int → Int) (hN : 0 ≤ nw 3 ∧ nw 3 ≤ 60) (hL : ∀ x, 4 ≤ x → x < 4 + nw 3 → 0 ≤ nw x ∧ nw x ≤ 1) : Met lau yX7_palindromeCount wsX7_palindromeCount ({ frames := 2, cells := 0, slots := 0, locals := 47 }) (P1 G cy [.ref a0] (fun H => va_P G vwCl [(a0, .inr (6, [.ref a1, .ref a2, .ref a3, .int (iZ ed), .ref a4, .int (iZ tc), .ref a5, .int (iZ ol), .ref a6, .int (iZ nl), .ref a7])), (a1, .inl (cy 0, 64, .inl (zf nw)))] H)) (vp_Si (fun r => r = iZ (1 + sm (fun f => cnt (fun k => palP nw k (f + 1) ∧ fstP nw k (f + 1)) (nw 3 - f)) (nw 3)))) 0 0 (fun _ => False) := by
  refine z_head (lv := [(0, .ref a0)]) RX7 (by decide) rfl rfl (Nat.le_of_ble_eq_true rfl) rfl ?_
  intro pr ev s mt below meth cd ls hx hb hr hlocks hml hown hname hts hKK hP hl
  have hK := hKK.1
  have hP : va_P G vwCl [(a0, .inr (6, [.ref a1, .ref a2, .ref a3, .int (iZ ed), .ref a4, .int (iZ tc), .ref a5, .int (iZ ol), .ref a6, .int (iZ nl), .ref a7])), (a1, .inl (cy 0, 64, .inl (zf nw)))] s.heap := hP
  refine lv_iconst (v := iZ 1) hx hb dX7_palindromeCount_0 rfl ?_
  refine lv_istore_n (lv' := [(1, .int (iZ 1)), (0, .ref a0)]) hx hb dX7_palindromeCount_1 rfl hl (by decide) rfl (fun ls hl => ?_)
  refine lv_iconst (v := iZ 1) hx hb dX7_palindromeCount_2 rfl ?_
  refine lv_istore_n (lv' := [(2, .int (iZ 1)), (1, .int (iZ 1)), (0, .ref a0)]) hx hb dX7_palindromeCount_3 rfl hl (by decide) rfl (fun ls hl => ?_)
  refine z_loop2 (nL := 4) (fun (n : Int) (f : Int) => [(0, .ref a0), (1, .int (iZ n)), (2, .int (iZ f))]) (fun (n : Int) (f : Int) => (1 ≤ f ∧ f ≤ nw 3 + 1) ∧ (n = 1 + sm (fun f => cnt (fun k => palP nw k (f + 1) ∧ fstP nw k (f + 1)) (nw 3 - f)) (f - 1))) (fun (n : Int) (f : Int) => nw 3 + 1 - f) (a1 := 1) (a2 := 1) ⟨(by omega), (by rw [show (1 : Int) - 1 = 0 by omega, sm_0]; rfl)⟩ (lv_sub hl [2, 1, 0] rfl) ?_
  rintro n f ⟨i1, i2⟩ ih_4 ls hl
  refine lv_iload_n hx hb dX7_palindromeCount_4 rfl (lv_at hl 2 rfl) ?_
  refine lv_aload_n hx hb dX7_palindromeCount_5 rfl (lv_at hl 0 rfl) ?_
  refine va_get (D := G) (ci := 6) (v := .ref a1) (C := RX7) (T := TX7) (N := 11) hx hb hts (by decide +kernel) hown hK hP 0 rfl rfl 0 (by decide) (hts (.fieldLink RX7 7 "SturmianWordsModel" "now" "[I") (by decide +kernel)) (fun _ h9 => h9) rfl dX7_palindromeCount_6 ?_
  refine lv_iconst (v := iZ 3) hx hb dX7_palindromeCount_9 rfl ?_
  refine z_iald (D := G) hx hb hK hP 1 0 rfl rfl (by omega) dX7_palindromeCount_10 ?_
  refine z_icmp_gt (tgt := 66) hx hb dX7_palindromeCount_11 (by decide) (by omega) (fun c_11 => ?_) (fun c_11 => ?_)
  · refine lv_iload_n hx hb dX7_palindromeCount_66 rfl (lv_at hl 1 rfl) ?_
    exact z_iretP hx hb hr hlocks dX7_palindromeCount_67 (by rw [i2, show f - 1 = nw 3 by omega])
  · refine lv_iconst (v := iZ 0) hx hb dX7_palindromeCount_14 rfl ?_
    refine lv_istore_n (lv' := [(3, .int (iZ 0)), (0, .ref a0), (1, .int (iZ n)), (2, .int (iZ f))]) hx hb dX7_palindromeCount_15 rfl hl (by decide) rfl (fun ls hl => ?_)
    refine z_loop2 (nL := 4) (fun (n2 : Int) (i : Int) => [(0, .ref a0), (1, .int (iZ n2)), (2, .int (iZ f)), (3, .int (iZ i))]) (fun (n2 : Int) (i : Int) => (0 ≤ i ∧ i ≤ nw 3 - f + 1) ∧ (n2 = n + cnt (fun k => palP nw k f ∧ fstP nw k f) i)) (fun (n2 : Int) (i : Int) => nw 3 - f + 1 - i) (a1 := n) (a2 := 0) ⟨(by omega), (by rw [cnt_0 (Int.le_refl 0), Int.add_zero])⟩ (lv_sub hl [1, 2, 3, 0] rfl) ?_
    rintro n2 i ⟨j1, j2⟩ ih_16 ls hl
    refine lv_iload_n hx hb dX7_palindromeCount_16 rfl (lv_at hl 3 rfl) ?_
    refine lv_aload_n hx hb dX7_palindromeCount_17 rfl (lv_at hl 0 rfl) ?_
    refine va_get (D := G) (ci := 6) (v := .ref a1) (C := RX7) (T := TX7) (N := 11) hx hb hts (by decide +kernel) hown hK hP 0 rfl rfl 0 (by decide) (hts (.fieldLink RX7 7 "SturmianWordsModel" "now" "[I") (by decide +kernel)) (fun _ h9 => h9) rfl dX7_palindromeCount_18 ?_
    refine lv_iconst (v := iZ 3) hx hb dX7_palindromeCount_21 rfl ?_
    refine z_iald (D := G) hx hb hK hP 1 0 rfl rfl (by omega) dX7_palindromeCount_22 ?_
    refine lv_iload_n hx hb dX7_palindromeCount_23 rfl (lv_at hl 2 rfl) ?_
    refine z_isub hx hb dX7_palindromeCount_24 ?_
    refine z_icmp_gt (tgt := 60) hx hb dX7_palindromeCount_25 (by decide) (by omega) (fun c_25 => ?_) (fun c_25 => ?_)
    · refine lv_iinc (v := iZ (f + 1)) (lv' := [(2, .int (iZ (f + 1))), (0, .ref a0), (1, .int (iZ n2)), (3, .int (iZ i))]) hx hb dX7_palindromeCount_60 hl (k := 2) rfl (iZ_add _ _) (by decide) rfl (fun ls hl => ?_)
      refine lv_goto (tgt := 4) hx hb dX7_palindromeCount_63 (by decide) ?_
      exact ih_4 n2 (f + 1) ⟨(by omega), (by rw [j2, i2, show f + 1 - 1 = f - 1 + 1 by omega, sm_s (by omega), show i = nw 3 - (f - 1) by omega]; simp only [Int.sub_add_cancel]; omega)⟩ ⟨by omega, by omega⟩ _ (lv_sub hl [1, 2, 0] rfl)
    · refine lv_iload_n hx hb dX7_palindromeCount_28 rfl (lv_at hl 1 rfl) ?_
      refine lv_aload_n hx hb dX7_palindromeCount_29 rfl (lv_at hl 0 rfl) ?_
      refine lv_iload_n hx hb dX7_palindromeCount_30 rfl (lv_at hl 3 rfl) ?_
      refine lv_iload_n hx hb dX7_palindromeCount_31 rfl (lv_at hl 2 rfl) ?_
      refine z_calli (va_runV (As := [.int (iZ i), .int (iZ f)]) (rest := [.int (iZ n2)]) ⟨hx, hb, hml, hown, hts⟩ (c_X7_isPalindrome lau G cy a0 a1 a2 a3 a4 a5 a6 a7 ed tc ol nl nw i f (by first | assumption | omega) (by first | assumption | omega) (by first | assumption | omega) (by first | assumption | omega) (by first | assumption | omega)) (cwV 2 hts gX7_palindromeCount_X7_isPalindrome rfl rfl rfl (by decide +kernel) ⟨Nat.le_of_ble_eq_true rfl, Nat.le_of_ble_eq_true rfl⟩) ⟨P1_blind, va_recv hK hP (ci := 6) (q0 := 0) rfl rfl, P1_mk hKK (hP.sub [0, 1] rfl)⟩ rfl rfl hl.1 rfl (lv_room (Nat.le_of_ble_eq_true rfl)) dX7_palindromeCount_32 ⟨Nat.le_refl 0, Nat.le_refl 0⟩) ?_
      refine z_ifB_eq (tgt := 51) hx hb dX7_palindromeCount_35 (by decide) (fun c_35 => ?_) (fun c_35 => ?_)
      · refine lv_iconst (v := iZ 0) hx hb dX7_palindromeCount_51 rfl ?_
        refine z_iadd hx hb dX7_palindromeCount_52 ?_
        refine lv_istore_n (lv' := [(1, .int (iZ (n2 + 0))), (0, .ref a0), (2, .int (iZ f)), (3, .int (iZ i))]) hx hb dX7_palindromeCount_53 rfl hl (by decide) rfl (fun ls hl => ?_)
        refine lv_iinc (v := iZ (i + 1)) (lv' := [(3, .int (iZ (i + 1))), (1, .int (iZ (n2 + 0))), (0, .ref a0), (2, .int (iZ f))]) hx hb dX7_palindromeCount_54 hl (k := 3) rfl (iZ_add _ _) (by decide) rfl (fun ls hl => ?_)
        refine lv_goto (tgt := 16) hx hb dX7_palindromeCount_57 (by decide) ?_
        exact ih_16 (n2 + 0) (i + 1) ⟨(by omega), (by rw [j2, cnt_f (P := fun k => palP nw k f ∧ fstP nw k f) (by omega) (fun z => c_35 z.1)]; omega)⟩ ⟨by omega, by omega⟩ _ (lv_sub hl [2, 1, 3, 0] rfl)
      · refine lv_aload_n hx hb dX7_palindromeCount_38 rfl (lv_at hl 0 rfl) ?_
        refine lv_iload_n hx hb dX7_palindromeCount_39 rfl (lv_at hl 3 rfl) ?_
        refine lv_iload_n hx hb dX7_palindromeCount_40 rfl (lv_at hl 2 rfl) ?_
        refine z_calli (va_runV (As := [.int (iZ i), .int (iZ f)]) (rest := [.int (iZ n2)]) ⟨hx, hb, hml, hown, hts⟩ (c_X7_isFirst lau G cy a0 a1 a2 a3 a4 a5 a6 a7 ed tc ol nl nw i f (by first | assumption | omega) (by first | assumption | omega) (by first | assumption | omega) (by first | assumption | omega)) (cwV 2 hts gX7_palindromeCount_X7_isFirst rfl rfl rfl (by decide +kernel) ⟨Nat.le_of_ble_eq_true rfl, Nat.le_of_ble_eq_true rfl⟩) ⟨P1_blind, va_recv hK hP (ci := 6) (q0 := 0) rfl rfl, P1_mk hKK (hP.sub [0, 1] rfl)⟩ rfl rfl hl.1 rfl (lv_room (Nat.le_of_ble_eq_true rfl)) dX7_palindromeCount_41 ⟨Nat.le_refl 0, Nat.le_refl 0⟩) ?_
        refine z_ifB_eq (tgt := 51) hx hb dX7_palindromeCount_44 (by decide) (fun c_44 => ?_) (fun c_44 => ?_)
        · refine lv_iconst (v := iZ 0) hx hb dX7_palindromeCount_51 rfl ?_
          refine z_iadd hx hb dX7_palindromeCount_52 ?_
          refine lv_istore_n (lv' := [(1, .int (iZ (n2 + 0))), (0, .ref a0), (2, .int (iZ f)), (3, .int (iZ i))]) hx hb dX7_palindromeCount_53 rfl hl (by decide) rfl (fun ls hl => ?_)
          refine lv_iinc (v := iZ (i + 1)) (lv' := [(3, .int (iZ (i + 1))), (1, .int (iZ (n2 + 0))), (0, .ref a0), (2, .int (iZ f))]) hx hb dX7_palindromeCount_54 hl (k := 3) rfl (iZ_add _ _) (by decide) rfl (fun ls hl => ?_)
          refine lv_goto (tgt := 16) hx hb dX7_palindromeCount_57 (by decide) ?_
          exact ih_16 (n2 + 0) (i + 1) ⟨(by omega), (by rw [j2, cnt_f (P := fun k => palP nw k f ∧ fstP nw k f) (by omega) (fun z => c_44 z.2)]; omega)⟩ ⟨by omega, by omega⟩ _ (lv_sub hl [2, 1, 3, 0] rfl)
        · refine lv_iconst (v := iZ 1) hx hb dX7_palindromeCount_47 rfl ?_
          refine lv_goto (tgt := 52) hx hb dX7_palindromeCount_48 (by decide) ?_
          refine z_iadd hx hb dX7_palindromeCount_52 ?_
          refine lv_istore_n (lv' := [(1, .int (iZ (n2 + 1))), (0, .ref a0), (2, .int (iZ f)), (3, .int (iZ i))]) hx hb dX7_palindromeCount_53 rfl hl (by decide) rfl (fun ls hl => ?_)
          refine lv_iinc (v := iZ (i + 1)) (lv' := [(3, .int (iZ (i + 1))), (1, .int (iZ (n2 + 1))), (0, .ref a0), (2, .int (iZ f))]) hx hb dX7_palindromeCount_54 hl (k := 3) rfl (iZ_add _ _) (by decide) rfl (fun ls hl => ?_)
          refine lv_goto (tgt := 16) hx hb dX7_palindromeCount_57 (by decide) ?_
          exact ih_16 (n2 + 1) (i + 1) ⟨(by omega), (by rw [j2, cnt_t (P := fun k => palP nw k f ∧ fstP nw k f) (by omega) ⟨c_35, c_44⟩]; omega)⟩ ⟨by omega, by omega⟩ _ (lv_sub hl [2, 1, 3, 0] rfl)
set_option maxHeartbeats 4000000 in
set_option maxRecDepth 100000 in
theorem c_X7_begins (lau : Launch) (G : va_G) (cy : Nat → ClassId) (a0 a1 a2 a3 a4 a5 a6 a7 : Nat) (ed tc ol nl : Int) (nw : Int → Int) (a b d : Int) (hN : 0 ≤ nw 3 ∧ nw 3 ≤ 60) (hL : ∀ x, 4 ≤ x → x < 4 + nw 3 → 0 ≤ nw x ∧ nw x ≤ 1) (h1 : 0 ≤ a ∧ a ≤ b) (h2 : 0 < b ∧ b ≤ 61) (h3 : 0 ≤ d ∧ d < b) : Met lau yX7_begins wsX7_begins ({ frames := 0, cells := 0, slots := 0, locals := 0 }) (P1 G cy [.ref a0, .int (iZ a), .int (iZ b), .int (iZ d)] (fun H => va_P G vwCl [(a0, .inr (6, [.ref a1, .ref a2, .ref a3, .int (iZ ed), .ref a4, .int (iZ tc), .ref a5, .int (iZ ol), .ref a6, .int (iZ nl), .ref a7])), (a1, .inl (cy 0, 64, .inl (zf nw)))] H)) (vp_Si (fun r => r = iZ (bv (begP nw a b d)))) 0 0 (fun _ => False) := by
  refine z_head (lv := [(0, .ref a0), (1, .int (iZ a)), (2, .int (iZ b)), (3, .int (iZ d))]) RX7 (by decide) rfl rfl (Nat.le_of_ble_eq_true rfl) rfl ?_
  intro pr ev s mt below meth cd ls hx hb hr hlocks hml hown hname hts hKK hP hl
  have hK := hKK.1
  have hP : va_P G vwCl [(a0, .inr (6, [.ref a1, .ref a2, .ref a3, .int (iZ ed), .ref a4, .int (iZ tc), .ref a5, .int (iZ ol), .ref a6, .int (iZ nl), .ref a7])), (a1, .inl (cy 0, 64, .inl (zf nw)))] s.heap := hP
  refine lv_iconst (v := iZ 0) hx hb dX7_begins_0 rfl ?_
  refine lv_istore (lv' := [(4, .int (iZ 0)), (0, .ref a0), (1, .int (iZ a)), (2, .int (iZ b)), (3, .int (iZ d))]) hx hb dX7_begins_1 hl (by decide) rfl (fun ls hl => ?_)
  refine z_loop1 (nL := 5) (fun (k : Int) => [(0, .ref a0), (1, .int (iZ a)), (2, .int (iZ b)), (3, .int (iZ d)), (4, .int (iZ k))]) (fun (k : Int) => (0 ≤ k ∧ k ≤ nw 3) ∧ (∀ j : Int, 0 ≤ j → j < k → ((j + 1) * a + d) / b - (j * a + d) / b = nw (4 + j))) (fun (k : Int) => nw 3 - k) (a1 := 0) ⟨(by omega), (fun j q1 q2 => by omega)⟩ (lv_sub hl [1, 2, 3, 4, 0] rfl) ?_
  rintro k ⟨i1, i2⟩ ih_3 ls hl
  refine lv_iload hx hb dX7_begins_3 (lv_at hl 4 rfl) ?_
  refine lv_aload_n hx hb dX7_begins_5 rfl (lv_at hl 0 rfl) ?_
  refine va_get (D := G) (ci := 6) (v := .ref a1) (C := RX7) (T := TX7) (N := 11) hx hb hts (by decide +kernel) hown hK hP 0 rfl rfl 0 (by decide) (hts (.fieldLink RX7 7 "SturmianWordsModel" "now" "[I") (by decide +kernel)) (fun _ h9 => h9) rfl dX7_begins_6 ?_
  refine lv_iconst (v := iZ 3) hx hb dX7_begins_9 rfl ?_
  refine z_iald (D := G) hx hb hK hP 1 0 rfl rfl (by omega) dX7_begins_10 ?_
  refine z_icmp_ge (tgt := 53) hx hb dX7_begins_11 (by decide) (by omega) (fun c_11 => ?_) (fun c_11 => ?_)
  · refine lv_iconst (v := iZ 1) hx hb dX7_begins_53 rfl ?_
    exact z_zretP hx hb hr hlocks dX7_begins_54 ((bv_t (fun j q1 q2 => i2 j q1 (by omega))).symm)
  · have m1 : 0 ≤ (k + 1) * a := Int.mul_nonneg (by omega) (by omega)
    have m2 : (k + 1) * a ≤ 61 * 61 := Int.mul_le_mul (by omega) (by omega) (by omega) (by omega)
    have m3 : 0 ≤ k * a := Int.mul_nonneg (by omega) (by omega)
    have m4 : k * a ≤ 61 * 61 := Int.mul_le_mul (by omega) (by omega) (by omega) (by omega)
    refine lv_iload hx hb dX7_begins_14 (lv_at hl 4 rfl) ?_
    refine lv_iconst (v := iZ 1) hx hb dX7_begins_16 rfl ?_
    refine z_iadd hx hb dX7_begins_17 ?_
    refine lv_iload_n hx hb dX7_begins_18 rfl (lv_at hl 1 rfl) ?_
    refine z_imul hx hb dX7_begins_19 ?_
    refine lv_iload_n hx hb dX7_begins_20 rfl (lv_at hl 3 rfl) ?_
    refine z_iadd hx hb dX7_begins_21 ?_
    refine lv_iload_n hx hb dX7_begins_22 rfl (lv_at hl 2 rfl) ?_
    refine z_idiv hx hb dX7_begins_23 (by omega) ?_
    refine lv_iload hx hb dX7_begins_24 (lv_at hl 4 rfl) ?_
    refine lv_iload_n hx hb dX7_begins_26 rfl (lv_at hl 1 rfl) ?_
    refine z_imul hx hb dX7_begins_27 ?_
    refine lv_iload_n hx hb dX7_begins_28 rfl (lv_at hl 3 rfl) ?_
    refine z_iadd hx hb dX7_begins_29 ?_
    refine lv_iload_n hx hb dX7_begins_30 rfl (lv_at hl 2 rfl) ?_
    refine z_idiv hx hb dX7_begins_31 (by omega) ?_
    refine z_isub hx hb dX7_begins_32 ?_
    refine lv_aload_n hx hb dX7_begins_33 rfl (lv_at hl 0 rfl) ?_
    refine va_get (D := G) (ci := 6) (v := .ref a1) (C := RX7) (T := TX7) (N := 11) hx hb hts (by decide +kernel) hown hK hP 0 rfl rfl 0 (by decide) (hts (.fieldLink RX7 7 "SturmianWordsModel" "now" "[I") (by decide +kernel)) (fun _ h9 => h9) rfl dX7_begins_34 ?_
    refine lv_iconst (v := iZ 4) hx hb dX7_begins_37 rfl ?_
    refine lv_iload hx hb dX7_begins_38 (lv_at hl 4 rfl) ?_
    refine z_iadd hx hb dX7_begins_40 ?_
    refine z_iald (D := G) hx hb hK hP 1 0 rfl rfl (by omega) dX7_begins_41 ?_
    have hL1 := hL (4 + k) (by omega) (by omega)
    have d1 := Int.ediv_nonneg (show 0 ≤ (k + 1) * a + d by omega) (show 0 ≤ b by omega)
    have d2 := Int.ediv_le_self b (show 0 ≤ (k + 1) * a + d by omega)
    have d3 := Int.ediv_nonneg (show 0 ≤ k * a + d by omega) (show 0 ≤ b by omega)
    have d4 := Int.ediv_le_self b (show 0 ≤ k * a + d by omega)
    refine z_icmp_eq (tgt := 47) hx hb dX7_begins_42 (by decide) (by omega) (fun c_42 => ?_) (fun c_42 => ?_)
    · refine lv_iinc (v := iZ (k + 1)) (lv' := [(4, .int (iZ (k + 1))), (0, .ref a0), (1, .int (iZ a)), (2, .int (iZ b)), (3, .int (iZ d))]) hx hb dX7_begins_47 hl (k := 4) rfl (iZ_add _ _) (by decide) rfl (fun ls hl => ?_)
      refine lv_goto (tgt := 3) hx hb dX7_begins_50 (by decide) ?_
      exact ih_3 (k + 1) ⟨(by omega), (fun j q1 q2 => by rcases (show j < k ∨ j = k by omega) with q | q; (· exact i2 j q1 q); (· rw [q]; exact c_42))⟩ ⟨by omega, by omega⟩ _ (lv_sub hl [1, 2, 3, 4, 0] rfl)
    · refine lv_iconst (v := iZ 0) hx hb dX7_begins_45 rfl ?_
      exact z_zretP hx hb hr hlocks dX7_begins_46 ((bv_f (fun z => c_42 (z k (by omega) (by omega)))).symm)
set_option maxHeartbeats 4000000 in
set_option maxRecDepth 100000 in
theorem c_X7_unbalancedLength (lau : Launch) (G : va_G) (cy : Nat → ClassId) (a0 a1 a2 a3 a4 a5 a6 a7 : Nat) (ed tc ol nl : Int) (nw : Int → Int) (hN : 0 ≤ nw 3 ∧ nw 3 ≤ 60) (hL : ∀ x, 4 ≤ x → x < 4 + nw 3 → 0 ≤ nw x ∧ nw x ≤ 1) : Met lau yX7_unbalancedLength wsX7_unbalancedLength ({ frames := 0, cells := 0, slots := 0, locals := 0 }) (P1 G cy [.ref a0] (fun H => va_P G vwCl [(a0, .inr (6, [.ref a1, .ref a2, .ref a3, .int (iZ ed), .ref a4, .int (iZ tc), .ref a5, .int (iZ ol), .ref a6, .int (iZ nl), .ref a7])), (a1, .inl (cy 0, 64, .inl (zf nw)))] H)) (vp_Si (fun r => r = iZ (if fnd (fun f => 1 ≤ f ∧ 1 < mxW nw f (nw 3 - f + 1) - mnW nw f (nw 3 - f + 1)) (nw 3 + 1) = -1 then -3 else fnd (fun f => 1 ≤ f ∧ 1 < mxW nw f (nw 3 - f + 1) - mnW nw f (nw 3 - f + 1)) (nw 3 + 1)))) 0 0 (fun _ => False) := by
  refine z_head (lv := [(0, .ref a0)]) RX7 (by decide) rfl rfl (Nat.le_of_ble_eq_true rfl) rfl ?_
  intro pr ev s mt below meth cd ls hx hb hr hlocks hml hown hname hts hKK hP hl
  have hK := hKK.1
  have hP : va_P G vwCl [(a0, .inr (6, [.ref a1, .ref a2, .ref a3, .int (iZ ed), .ref a4, .int (iZ tc), .ref a5, .int (iZ ol), .ref a6, .int (iZ nl), .ref a7])), (a1, .inl (cy 0, 64, .inl (zf nw)))] s.heap := hP
  refine lv_iconst (v := iZ 1) hx hb dX7_unbalancedLength_0 rfl ?_
  refine lv_istore_n (lv' := [(1, .int (iZ 1)), (0, .ref a0)]) hx hb dX7_unbalancedLength_1 rfl hl (by decide) rfl (fun ls hl => ?_)
  refine z_loop1 (nL := 7) (fun (f : Int) => [(0, .ref a0), (1, .int (iZ f))]) (fun (f : Int) => (1 ≤ f ∧ f ≤ nw 3 + 1) ∧ (fnd (fun f => 1 ≤ f ∧ 1 < mxW nw f (nw 3 - f + 1) - mnW nw f (nw 3 - f + 1)) f = -1)) (fun (f : Int) => nw 3 + 1 - f) (a1 := 1) ⟨(by omega), (fnd_miss (i := 0) (Int.le_refl 0) (fnd_0 (Int.le_refl 0)) (by omega))⟩ (lv_sub hl [1, 0] rfl) ?_
  rintro f ⟨i1, i2⟩ ih_2 ls hl
  refine lv_iload_n hx hb dX7_unbalancedLength_2 rfl (lv_at hl 1 rfl) ?_
  refine lv_aload_n hx hb dX7_unbalancedLength_3 rfl (lv_at hl 0 rfl) ?_
  refine va_get (D := G) (ci := 6) (v := .ref a1) (C := RX7) (T := TX7) (N := 11) hx hb hts (by decide +kernel) hown hK hP 0 rfl rfl 0 (by decide) (hts (.fieldLink RX7 7 "SturmianWordsModel" "now" "[I") (by decide +kernel)) (fun _ h9 => h9) rfl dX7_unbalancedLength_4 ?_
  refine lv_iconst (v := iZ 3) hx hb dX7_unbalancedLength_7 rfl ?_
  refine z_iald (D := G) hx hb hK hP 1 0 rfl rfl (by omega) dX7_unbalancedLength_8 ?_
  refine z_icmp_gt (tgt := 115) hx hb dX7_unbalancedLength_9 (by decide) (by omega) (fun c_9 => ?_) (fun c_9 => ?_)
  · refine lv_bipush (v := iZ (-3)) hx hb dX7_unbalancedLength_115 (by decide +kernel) ?_
    exact z_iretP hx hb hr hlocks dX7_unbalancedLength_117 (by rw [← show f = nw 3 + 1 by omega, if_pos i2])
  · refine lv_bipush (v := iZ 60) hx hb dX7_unbalancedLength_12 (by decide +kernel) ?_
    refine lv_istore_n (lv' := [(2, .int (iZ 60)), (0, .ref a0), (1, .int (iZ f))]) hx hb dX7_unbalancedLength_14 rfl hl (by decide) rfl (fun ls hl => ?_)
    refine lv_iconst (v := iZ 0) hx hb dX7_unbalancedLength_15 rfl ?_
    refine lv_istore_n (lv' := [(3, .int (iZ 0)), (2, .int (iZ 60)), (0, .ref a0), (1, .int (iZ f))]) hx hb dX7_unbalancedLength_16 rfl hl (by decide) rfl (fun ls hl => ?_)
    refine lv_iconst (v := iZ 0) hx hb dX7_unbalancedLength_17 rfl ?_
    refine lv_istore (lv' := [(4, .int (iZ 0)), (3, .int (iZ 0)), (2, .int (iZ 60)), (0, .ref a0), (1, .int (iZ f))]) hx hb dX7_unbalancedLength_18 hl (by decide) rfl (fun ls hl => ?_)
    refine z_loop3 (nL := 7) (fun (le : Int) (mo : Int) (i : Int) => [(0, .ref a0), (1, .int (iZ f)), (2, .int (iZ le)), (3, .int (iZ mo)), (4, .int (iZ i))]) (fun (le : Int) (mo : Int) (i : Int) => (0 ≤ i ∧ i ≤ nw 3 - f + 1) ∧ (le = mnW nw f i) ∧ (mo = mxW nw f i) ∧ (0 ≤ le ∧ le ≤ 60 ∧ 0 ≤ mo ∧ mo ≤ 60)) (fun (le : Int) (mo : Int) (i : Int) => nw 3 - f + 1 - i) (a1 := 60) (a2 := 0) (a3 := 0) ⟨(by omega), ((it_0 (Int.le_refl 0)).symm), ((it_0 (Int.le_refl 0)).symm), (by omega)⟩ (lv_sub hl [3, 4, 2, 1, 0] rfl) ?_
    rintro le mo i ⟨j1, j2, j3, j4⟩ ih_20 ls hl
    refine lv_iload hx hb dX7_unbalancedLength_20 (lv_at hl 4 rfl) ?_
    refine lv_aload_n hx hb dX7_unbalancedLength_22 rfl (lv_at hl 0 rfl) ?_
    refine va_get (D := G) (ci := 6) (v := .ref a1) (C := RX7) (T := TX7) (N := 11) hx hb hts (by decide +kernel) hown hK hP 0 rfl rfl 0 (by decide) (hts (.fieldLink RX7 7 "SturmianWordsModel" "now" "[I") (by decide +kernel)) (fun _ h9 => h9) rfl dX7_unbalancedLength_23 ?_
    refine lv_iconst (v := iZ 3) hx hb dX7_unbalancedLength_26 rfl ?_
    refine z_iald (D := G) hx hb hK hP 1 0 rfl rfl (by omega) dX7_unbalancedLength_27 ?_
    refine lv_iload_n hx hb dX7_unbalancedLength_28 rfl (lv_at hl 1 rfl) ?_
    refine z_isub hx hb dX7_unbalancedLength_29 ?_
    refine z_icmp_gt (tgt := 100) hx hb dX7_unbalancedLength_30 (by decide) (by omega) (fun c_30 => ?_) (fun c_30 => ?_)
    · refine lv_iload_n hx hb dX7_unbalancedLength_100 rfl (lv_at hl 3 rfl) ?_
      refine lv_iload_n hx hb dX7_unbalancedLength_101 rfl (lv_at hl 2 rfl) ?_
      refine z_isub hx hb dX7_unbalancedLength_102 ?_
      refine lv_iconst (v := iZ 1) hx hb dX7_unbalancedLength_103 rfl ?_
      refine z_icmp_le (tgt := 109) hx hb dX7_unbalancedLength_104 (by decide) (by omega) (fun c_104 => ?_) (fun c_104 => ?_)
      · refine lv_iinc (v := iZ (f + 1)) (lv' := [(1, .int (iZ (f + 1))), (0, .ref a0), (2, .int (iZ le)), (3, .int (iZ mo)), (4, .int (iZ i))]) hx hb dX7_unbalancedLength_109 hl (k := 1) rfl (iZ_add _ _) (by decide) rfl (fun ls hl => ?_)
        refine lv_goto (tgt := 2) hx hb dX7_unbalancedLength_112 (by decide) ?_
        exact ih_2 (f + 1) ⟨(by omega), (fnd_miss (by omega) i2 (by rw [← show i = nw 3 - f + 1 by omega, ← j2, ← j3]; omega))⟩ ⟨by omega, by omega⟩ _ (lv_sub hl [1, 0] rfl)
      · refine lv_iload_n hx hb dX7_unbalancedLength_107 rfl (lv_at hl 1 rfl) ?_
        exact z_iretP hx hb hr hlocks dX7_unbalancedLength_108 (by rw [fnd_hit (P := fun f => 1 ≤ f ∧ 1 < mxW nw f (nw 3 - f + 1) - mnW nw f (nw 3 - f + 1)) (i := f) (by omega) i2 (by rw [← show i = nw 3 - f + 1 by omega, ← j2, ← j3]; omega) (by omega), if_neg (by omega)])
    · refine lv_iconst (v := iZ 0) hx hb dX7_unbalancedLength_33 rfl ?_
      refine lv_istore (lv' := [(5, .int (iZ 0)), (0, .ref a0), (1, .int (iZ f)), (2, .int (iZ le)), (3, .int (iZ mo)), (4, .int (iZ i))]) hx hb dX7_unbalancedLength_34 hl (by decide) rfl (fun ls hl => ?_)
      refine lv_iconst (v := iZ 0) hx hb dX7_unbalancedLength_36 rfl ?_
      refine lv_istore (lv' := [(6, .int (iZ 0)), (5, .int (iZ 0)), (0, .ref a0), (1, .int (iZ f)), (2, .int (iZ le)), (3, .int (iZ mo)), (4, .int (iZ i))]) hx hb dX7_unbalancedLength_37 hl (by decide) rfl (fun ls hl => ?_)
      refine z_loop2 (nL := 7) (fun (x : Int) (j : Int) => [(0, .ref a0), (1, .int (iZ f)), (2, .int (iZ le)), (3, .int (iZ mo)), (4, .int (iZ i)), (5, .int (iZ x)), (6, .int (iZ j))]) (fun (x : Int) (j : Int) => (0 ≤ j ∧ j ≤ f) ∧ (x = smW nw i j) ∧ (0 ≤ x ∧ x ≤ j)) (fun (x : Int) (j : Int) => f - j) (a1 := 0) (a2 := 0) ⟨(by omega), ((it_0 (Int.le_refl 0)).symm), (by omega)⟩ (lv_sub hl [2, 3, 4, 5, 6, 1, 0] rfl) ?_
      rintro x j ⟨k1, k2, k3⟩ ih_39 ls hl
      refine lv_iload hx hb dX7_unbalancedLength_39 (lv_at hl 6 rfl) ?_
      refine lv_iload_n hx hb dX7_unbalancedLength_41 rfl (lv_at hl 1 rfl) ?_
      refine z_icmp_ge (tgt := 68) hx hb dX7_unbalancedLength_42 (by decide) (by omega) (fun c_42 => ?_) (fun c_42 => ?_)
      · rw [show j = f by omega] at k2
        refine lv_iload hx hb dX7_unbalancedLength_68 (lv_at hl 5 rfl) ?_
        refine lv_iload_n hx hb dX7_unbalancedLength_70 rfl (lv_at hl 2 rfl) ?_
        refine z_icmp_ge (tgt := 79) hx hb dX7_unbalancedLength_71 (by decide) (by omega) (fun c_71 => ?_) (fun c_71 => ?_)
        · refine lv_iload_n hx hb dX7_unbalancedLength_79 rfl (lv_at hl 2 rfl) ?_
          refine lv_istore_n (lv' := [(2, .int (iZ le)), (0, .ref a0), (1, .int (iZ f)), (3, .int (iZ mo)), (4, .int (iZ i)), (5, .int (iZ x)), (6, .int (iZ j))]) hx hb dX7_unbalancedLength_80 rfl hl (by decide) rfl (fun ls hl => ?_)
          refine lv_iload hx hb dX7_unbalancedLength_81 (lv_at hl 5 rfl) ?_
          refine lv_iload_n hx hb dX7_unbalancedLength_83 rfl (lv_at hl 3 rfl) ?_
          refine z_icmp_le (tgt := 92) hx hb dX7_unbalancedLength_84 (by decide) (by omega) (fun c_84 => ?_) (fun c_84 => ?_)
          · refine lv_iload_n hx hb dX7_unbalancedLength_92 rfl (lv_at hl 3 rfl) ?_
            refine lv_istore_n (lv' := [(3, .int (iZ mo)), (2, .int (iZ le)), (0, .ref a0), (1, .int (iZ f)), (4, .int (iZ i)), (5, .int (iZ x)), (6, .int (iZ j))]) hx hb dX7_unbalancedLength_93 rfl hl (by decide) rfl (fun ls hl => ?_)
            refine lv_iinc (v := iZ (i + 1)) (lv' := [(4, .int (iZ (i + 1))), (3, .int (iZ mo)), (2, .int (iZ le)), (0, .ref a0), (1, .int (iZ f)), (5, .int (iZ x)), (6, .int (iZ j))]) hx hb dX7_unbalancedLength_94 hl (k := 4) rfl (iZ_add _ _) (by decide) rfl (fun ls hl => ?_)
            refine lv_goto (tgt := 20) hx hb dX7_unbalancedLength_97 (by decide) ?_
            exact ih_20 le mo (i + 1) ⟨(by omega), (by rw [show mnW nw f (i + 1) = _ from it_s (f := fun a r => if smW nw a f < r then smW nw a f else r) j1.1, ← k2]; show _ = if x < mnW nw f i then x else mnW nw f i; rw [← j2]; rw [if_neg (by omega)]), (by rw [show mxW nw f (i + 1) = _ from it_s (f := fun a r => if r < smW nw a f then smW nw a f else r) j1.1, ← k2]; show _ = if mxW nw f i < x then x else mxW nw f i; rw [← j3]; rw [if_neg (by omega)]), (by omega)⟩ ⟨by omega, by omega⟩ _ (lv_sub hl [3, 4, 2, 1, 0] rfl)
          · refine lv_iload hx hb dX7_unbalancedLength_87 (lv_at hl 5 rfl) ?_
            refine lv_goto (tgt := 93) hx hb dX7_unbalancedLength_89 (by decide) ?_
            refine lv_istore_n (lv' := [(3, .int (iZ x)), (2, .int (iZ le)), (0, .ref a0), (1, .int (iZ f)), (4, .int (iZ i)), (5, .int (iZ x)), (6, .int (iZ j))]) hx hb dX7_unbalancedLength_93 rfl hl (by decide) rfl (fun ls hl => ?_)
            refine lv_iinc (v := iZ (i + 1)) (lv' := [(4, .int (iZ (i + 1))), (3, .int (iZ x)), (2, .int (iZ le)), (0, .ref a0), (1, .int (iZ f)), (5, .int (iZ x)), (6, .int (iZ j))]) hx hb dX7_unbalancedLength_94 hl (k := 4) rfl (iZ_add _ _) (by decide) rfl (fun ls hl => ?_)
            refine lv_goto (tgt := 20) hx hb dX7_unbalancedLength_97 (by decide) ?_
            exact ih_20 le x (i + 1) ⟨(by omega), (by rw [show mnW nw f (i + 1) = _ from it_s (f := fun a r => if smW nw a f < r then smW nw a f else r) j1.1, ← k2]; show _ = if x < mnW nw f i then x else mnW nw f i; rw [← j2]; rw [if_neg (by omega)]), (by rw [show mxW nw f (i + 1) = _ from it_s (f := fun a r => if r < smW nw a f then smW nw a f else r) j1.1, ← k2]; show _ = if mxW nw f i < x then x else mxW nw f i; rw [← j3]; rw [if_pos (by omega)]), (by omega)⟩ ⟨by omega, by omega⟩ _ (lv_sub hl [3, 4, 2, 1, 0] rfl)
        · refine lv_iload hx hb dX7_unbalancedLength_74 (lv_at hl 5 rfl) ?_
          refine lv_goto (tgt := 80) hx hb dX7_unbalancedLength_76 (by decide) ?_
          refine lv_istore_n (lv' := [(2, .int (iZ x)), (0, .ref a0), (1, .int (iZ f)), (3, .int (iZ mo)), (4, .int (iZ i)), (5, .int (iZ x)), (6, .int (iZ j))]) hx hb dX7_unbalancedLength_80 rfl hl (by decide) rfl (fun ls hl => ?_)
          refine lv_iload hx hb dX7_unbalancedLength_81 (lv_at hl 5 rfl) ?_
          refine lv_iload_n hx hb dX7_unbalancedLength_83 rfl (lv_at hl 3 rfl) ?_
          refine z_icmp_le (tgt := 92) hx hb dX7_unbalancedLength_84 (by decide) (by omega) (fun c_84 => ?_) (fun c_84 => ?_)
          · refine lv_iload_n hx hb dX7_unbalancedLength_92 rfl (lv_at hl 3 rfl) ?_
            refine lv_istore_n (lv' := [(3, .int (iZ mo)), (2, .int (iZ x)), (0, .ref a0), (1, .int (iZ f)), (4, .int (iZ i)), (5, .int (iZ x)), (6, .int (iZ j))]) hx hb dX7_unbalancedLength_93 rfl hl (by decide) rfl (fun ls hl => ?_)
            refine lv_iinc (v := iZ (i + 1)) (lv' := [(4, .int (iZ (i + 1))), (3, .int (iZ mo)), (2, .int (iZ x)), (0, .ref a0), (1, .int (iZ f)), (5, .int (iZ x)), (6, .int (iZ j))]) hx hb dX7_unbalancedLength_94 hl (k := 4) rfl (iZ_add _ _) (by decide) rfl (fun ls hl => ?_)
            refine lv_goto (tgt := 20) hx hb dX7_unbalancedLength_97 (by decide) ?_
            exact ih_20 x mo (i + 1) ⟨(by omega), (by rw [show mnW nw f (i + 1) = _ from it_s (f := fun a r => if smW nw a f < r then smW nw a f else r) j1.1, ← k2]; show _ = if x < mnW nw f i then x else mnW nw f i; rw [← j2]; rw [if_pos (by omega)]), (by rw [show mxW nw f (i + 1) = _ from it_s (f := fun a r => if r < smW nw a f then smW nw a f else r) j1.1, ← k2]; show _ = if mxW nw f i < x then x else mxW nw f i; rw [← j3]; rw [if_neg (by omega)]), (by omega)⟩ ⟨by omega, by omega⟩ _ (lv_sub hl [3, 4, 2, 1, 0] rfl)
          · refine lv_iload hx hb dX7_unbalancedLength_87 (lv_at hl 5 rfl) ?_
            refine lv_goto (tgt := 93) hx hb dX7_unbalancedLength_89 (by decide) ?_
            refine lv_istore_n (lv' := [(3, .int (iZ x)), (2, .int (iZ x)), (0, .ref a0), (1, .int (iZ f)), (4, .int (iZ i)), (5, .int (iZ x)), (6, .int (iZ j))]) hx hb dX7_unbalancedLength_93 rfl hl (by decide) rfl (fun ls hl => ?_)
            refine lv_iinc (v := iZ (i + 1)) (lv' := [(4, .int (iZ (i + 1))), (3, .int (iZ x)), (2, .int (iZ x)), (0, .ref a0), (1, .int (iZ f)), (5, .int (iZ x)), (6, .int (iZ j))]) hx hb dX7_unbalancedLength_94 hl (k := 4) rfl (iZ_add _ _) (by decide) rfl (fun ls hl => ?_)
            refine lv_goto (tgt := 20) hx hb dX7_unbalancedLength_97 (by decide) ?_
            exact ih_20 x x (i + 1) ⟨(by omega), (by rw [show mnW nw f (i + 1) = _ from it_s (f := fun a r => if smW nw a f < r then smW nw a f else r) j1.1, ← k2]; show _ = if x < mnW nw f i then x else mnW nw f i; rw [← j2]; rw [if_pos (by omega)]), (by rw [show mxW nw f (i + 1) = _ from it_s (f := fun a r => if r < smW nw a f then smW nw a f else r) j1.1, ← k2]; show _ = if mxW nw f i < x then x else mxW nw f i; rw [← j3]; rw [if_pos (by omega)]), (by omega)⟩ ⟨by omega, by omega⟩ _ (lv_sub hl [3, 4, 2, 1, 0] rfl)
      · refine lv_iload hx hb dX7_unbalancedLength_45 (lv_at hl 5 rfl) ?_
        refine lv_aload_n hx hb dX7_unbalancedLength_47 rfl (lv_at hl 0 rfl) ?_
        refine va_get (D := G) (ci := 6) (v := .ref a1) (C := RX7) (T := TX7) (N := 11) hx hb hts (by decide +kernel) hown hK hP 0 rfl rfl 0 (by decide) (hts (.fieldLink RX7 7 "SturmianWordsModel" "now" "[I") (by decide +kernel)) (fun _ h9 => h9) rfl dX7_unbalancedLength_48 ?_
        refine lv_iconst (v := iZ 4) hx hb dX7_unbalancedLength_51 rfl ?_
        refine lv_iload hx hb dX7_unbalancedLength_52 (lv_at hl 4 rfl) ?_
        refine z_iadd hx hb dX7_unbalancedLength_54 ?_
        refine lv_iload hx hb dX7_unbalancedLength_55 (lv_at hl 6 rfl) ?_
        refine z_iadd hx hb dX7_unbalancedLength_57 ?_
        refine z_iald (D := G) hx hb hK hP 1 0 rfl rfl (by omega) dX7_unbalancedLength_58 ?_
        refine z_iadd hx hb dX7_unbalancedLength_59 ?_
        refine z_tope (fun x60_1 ex60_1 => ?_)
        have hL1 := hL (4 + i + j) (by omega) (by omega)
        refine lv_istore (lv' := [(5, .int (iZ x60_1)), (0, .ref a0), (1, .int (iZ f)), (2, .int (iZ le)), (3, .int (iZ mo)), (4, .int (iZ i)), (6, .int (iZ j))]) hx hb dX7_unbalancedLength_60 hl (by decide) rfl (fun ls hl => ?_)
        refine lv_iinc (v := iZ (j + 1)) (lv' := [(6, .int (iZ (j + 1))), (5, .int (iZ x60_1)), (0, .ref a0), (1, .int (iZ f)), (2, .int (iZ le)), (3, .int (iZ mo)), (4, .int (iZ i))]) hx hb dX7_unbalancedLength_62 hl (k := 6) rfl (iZ_add _ _) (by decide) rfl (fun ls hl => ?_)
        refine lv_goto (tgt := 39) hx hb dX7_unbalancedLength_65 (by decide) ?_
        exact ih_39 x60_1 (j + 1) ⟨(by omega), (by rw [ex60_1, k2]; exact (it_s (f := fun k r => r + nw (4 + i + k)) k1.1).symm), (by omega)⟩ ⟨by omega, by omega⟩ _ (lv_sub hl [2, 3, 4, 5, 6, 1, 0] rfl)
