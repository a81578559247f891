set_option maxHeartbeats 4000000 in
set_option maxRecDepth 100000 in
theorem c_X6_quotient (lau : Launch) (G : va_G) (cy : Nat → ClassId) (a d : Int) (h1 : 0 ≤ a ∧ a < 9223372036854775808) (h2 : 0 < d ∧ d < 9223372036854775808) : Met lau yX6_quotient wsX6_quotient ({ frames := 0, cells := 0, slots := 0, locals := 0 }) (P1 G cy [.long (lZ a), .long (lZ d)] (fun _ => True)) (vp_Sl (fun r => r = lZ (a / d))) 0 0 (fun _ => False) := by
  refine z_head (lv := [(0, .long (lZ a)), (2, .long (lZ d))]) RX6 (by decide) rfl rfl (Nat.le_of_ble_eq_true rfl) rfl ?_
  intro pr ev s mt below meth cd ls hx hb hr hlocks hml hown hname hts hKK hP hl
  have hK := hKK.1
  refine lv_lload_n hx hb dX6_quotient_0 rfl (lv_at hl 1 rfl) ?_
  refine lv_lconst (v := lZ 1) hx hb dX6_quotient_1 rfl ?_
  refine z_lcmp hx hb dX6_quotient_2 (by omega) (fun cm2 hcm2 => ?_)
  refine z_if_ge (tgt := 10) hx hb dX6_quotient_3 (by decide) (by omega) (fun c_3 => ?_) (fun c_3 => ?_)
  · refine lv_lload_n hx hb dX6_quotient_10 rfl (lv_at hl 0 rfl) ?_
    refine lv_lload_n hx hb dX6_quotient_11 rfl (lv_at hl 1 rfl) ?_
    refine z_ldiv hx hb dX6_quotient_12 (by omega) ?_
    exact z_lretP hx hb hr hlocks dX6_quotient_13 (rfl)
  · exfalso; omega
set_option maxHeartbeats 4000000 in
set_option maxRecDepth 100000 in
theorem c_X6_commonDivisor (lau : Launch) (G : va_G) (cy : Nat → ClassId) (a d : Int) (h1 : 0 ≤ a ∧ a ≤ 1000) (h2 : 0 < d ∧ d ≤ 1000) : Met lau yX6_commonDivisor wsX6_commonDivisor ({ frames := 1, cells := 0, slots := 0, locals := 23 }) (P1 G cy [.int (iZ a), .int (iZ d)] (fun _ => True)) (vp_Si (fun r => r = iZ ((Int.gcd a d : Int)))) 0 0 (fun _ => False) := by
  refine z_head (lv := [(0, .int (iZ a)), (1, .int (iZ d))]) RX6 (by decide) rfl rfl (Nat.le_of_ble_eq_true rfl) rfl ?_
  intro pr ev s mt below meth cd ls hx hb hr hlocks hml hown hname hts hKK hP hl
  have hK := hKK.1
  refine lv_iload_n hx hb dX6_commonDivisor_0 rfl (lv_at hl 1 rfl) ?_
  refine lv_istore_n (lv' := [(2, .int (iZ d)), (0, .int (iZ a)), (1, .int (iZ d))]) hx hb dX6_commonDivisor_1 rfl hl (by decide) rfl (fun ls hl => ?_)
  refine lv_iload_n hx hb dX6_commonDivisor_2 rfl (lv_at hl 1 rfl) ?_
  refine lv_istore_n (lv' := [(3, .int (iZ a)), (2, .int (iZ d)), (0, .int (iZ a)), (1, .int (iZ d))]) hx hb dX6_commonDivisor_3 rfl hl (by decide) rfl (fun ls hl => ?_)
  refine lv_iconst (v := iZ 0) hx hb dX6_commonDivisor_4 rfl ?_
  refine lv_istore (lv' := [(4, .int (iZ 0)), (3, .int (iZ a)), (2, .int (iZ d)), (0, .int (iZ a)), (1, .int (iZ d))]) hx hb dX6_commonDivisor_5 hl (by decide) rfl (fun ls hl => ?_)
  refine z_loop3 (nL := 6) (fun (la : Int) (sm : Int) (st : Int) => [(0, .int (iZ a)), (1, .int (iZ d)), (2, .int (iZ la)), (3, .int (iZ sm)), (4, .int (iZ st))]) (fun (la : Int) (sm : Int) (st : Int) => (Int.gcd sm la = Int.gcd a d) ∧ (0 ≤ sm ∧ sm ≤ 1000) ∧ (0 < la ∧ la ≤ 1000) ∧ (0 ≤ st ∧ st + sm ≤ 1000)) (fun (la : Int) (sm : Int) (st : Int) => 1000 - st) (a1 := d) (a2 := a) (a3 := 0) ⟨(rfl), (by omega), (by omega), (by omega)⟩ (lv_sub hl [3, 4, 2, 1, 0] rfl) ?_
  rintro la sm st ⟨i1, i2, i3, i4⟩ ih_7 ls hl
  refine lv_iload hx hb dX6_commonDivisor_7 (lv_at hl 4 rfl) ?_
  refine lv_sipush (v := iZ 1000) hx hb dX6_commonDivisor_9 (by decide +kernel) ?_
  refine z_icmp_ge (tgt := 44) hx hb dX6_commonDivisor_12 (by decide) (by omega) (fun c_12 => ?_) (fun c_12 => ?_)
  · refine lv_iload_n hx hb dX6_commonDivisor_44 rfl (lv_at hl 2 rfl) ?_
    exact z_iretP hx hb hr hlocks dX6_commonDivisor_45 (by rw [← i1, show sm = 0 by omega]; exact (cd_0 (by omega)).symm)
  · refine lv_iload_n hx hb dX6_commonDivisor_15 rfl (lv_at hl 3 rfl) ?_
    refine z_if_le (tgt := 44) hx hb dX6_commonDivisor_16 (by decide) (by omega) (fun c_16 => ?_) (fun c_16 => ?_)
    · refine lv_iload_n hx hb dX6_commonDivisor_44 rfl (lv_at hl 2 rfl) ?_
      exact z_iretP hx hb hr hlocks dX6_commonDivisor_45 (by rw [← i1, show sm = 0 by omega]; exact (cd_0 (by omega)).symm)
    · refine lv_iload_n hx hb dX6_commonDivisor_19 rfl (lv_at hl 2 rfl) ?_
      refine lv_iload_n hx hb dX6_commonDivisor_20 rfl (lv_at hl 2 rfl) ?_
      refine z_i2l hx hb dX6_commonDivisor_21 (by omega) ?_
      refine lv_iload_n hx hb dX6_commonDivisor_22 rfl (lv_at hl 3 rfl) ?_
      refine z_i2l hx hb dX6_commonDivisor_23 (by omega) ?_
      refine z_calll (va_runS (As := [.long (lZ la), .long (lZ sm)]) (rest := [.int (iZ la)]) ⟨hx, hb, hml, hown, hts⟩ (c_X6_quotient lau G cy la sm (by omega) (by omega)) (va_cwS 2 hts gX6_commonDivisor_X6_quotient rfl rfl rfl (by decide +kernel) ⟨Nat.le_of_ble_eq_true rfl, Nat.le_of_ble_eq_true rfl⟩) ⟨P1_blind, P1_mk hKK (trivial)⟩ rfl rfl hl.1 rfl (lv_room (Nat.le_of_ble_eq_true rfl)) dX6_commonDivisor_24 ⟨Nat.le_refl 0, Nat.le_refl 0⟩) ?_
      refine z_l2i hx hb dX6_commonDivisor_27 ?_
      refine lv_iload_n hx hb dX6_commonDivisor_28 rfl (lv_at hl 3 rfl) ?_
      refine z_imul hx hb dX6_commonDivisor_29 ?_
      refine z_isub hx hb dX6_commonDivisor_30 ?_
      refine z_top (b := (la % sm)) (sub_mul_div la sm) ?_
      refine z_tope (fun x31_1 ex31_1 => ?_)
      have e1 := Int.emod_nonneg la (show sm ≠ 0 by omega)
      have e2 := Int.emod_lt_of_pos la (show 0 < sm by omega)
      refine lv_istore (lv' := [(5, .int (iZ x31_1)), (0, .int (iZ a)), (1, .int (iZ d)), (2, .int (iZ la)), (3, .int (iZ sm)), (4, .int (iZ st))]) hx hb dX6_commonDivisor_31 hl (by decide) rfl (fun ls hl => ?_)
      refine lv_iload_n hx hb dX6_commonDivisor_33 rfl (lv_at hl 4 rfl) ?_
      refine lv_istore_n (lv' := [(2, .int (iZ sm)), (5, .int (iZ x31_1)), (0, .int (iZ a)), (1, .int (iZ d)), (3, .int (iZ sm)), (4, .int (iZ st))]) hx hb dX6_commonDivisor_34 rfl hl (by decide) rfl (fun ls hl => ?_)
      refine lv_iload hx hb dX6_commonDivisor_35 (lv_at hl 1 rfl) ?_
      refine lv_istore_n (lv' := [(3, .int (iZ x31_1)), (2, .int (iZ sm)), (5, .int (iZ x31_1)), (0, .int (iZ a)), (1, .int (iZ d)), (4, .int (iZ st))]) hx hb dX6_commonDivisor_37 rfl hl (by decide) rfl (fun ls hl => ?_)
      refine lv_iinc (v := iZ (st + 1)) (lv' := [(4, .int (iZ (st + 1))), (3, .int (iZ x31_1)), (2, .int (iZ sm)), (5, .int (iZ x31_1)), (0, .int (iZ a)), (1, .int (iZ d))]) hx hb dX6_commonDivisor_38 hl (k := 5) rfl (iZ_add _ _) (by decide) rfl (fun ls hl => ?_)
      refine lv_goto (tgt := 7) hx hb dX6_commonDivisor_41 (by decide) ?_
      exact ih_7 sm x31_1 (st + 1) ⟨(by rw [← i1, ex31_1]; exact cd_step (by omega) (by omega)), (by omega), (by omega), (by omega)⟩ ⟨by omega, by omega⟩ _ (lv_sub hl [4, 5, 2, 1, 0] rfl)
set_option maxHeartbeats 4000000 in
set_option maxRecDepth 100000 in
theorem c_X3_term (lau : Launch) (G : va_G) (cy : Nat → ClassId) (h0 : Nat) (p q c ix : Int) (hp : 0 ≤ p ∧ p ≤ q) (hq : 0 < q ∧ q ≤ 1000) (hi : 1 ≤ ix ∧ ix < 2147483648) : Met lau yX3_term wsX3_term ({ frames := 1, cells := 0, slots := 0, locals := 23 }) (P1 G cy [.ref h0, .int (iZ ix)] (fun H => va_P G vwCl [(h0, .inr (2, [.int (iZ p), .int (iZ q), .int (iZ c)]))] H)) (vp_Si (fun r => r = iZ (cft p q ix))) 0 0 (fun _ => False) := by
  refine z_head (lv := [(0, .ref h0), (1, .int (iZ ix))]) RX3 (by decide) rfl rfl (Nat.le_of_ble_eq_true rfl) rfl ?_
  intro pr ev s mt below meth cd ls hx hb hr hlocks hml hown hname hts hKK hP hl
  have hK := hKK.1
  have hP : va_P G vwCl [(h0, .inr (2, [.int (iZ p), .int (iZ q), .int (iZ c)]))] s.heap := hP
  refine lv_aload_n hx hb dX3_term_0 rfl (lv_at hl 0 rfl) ?_
  refine va_get (D := G) (ci := 2) (v := .int (iZ q)) (C := RX3) (T := TX3) (N := 3) hx hb hts (by decide +kernel) hown hK hP 0 rfl rfl 1 (by decide) (hts (.fieldLink RX3 15 "SturmianWords$Slope" "denominator" "I") (by decide +kernel)) (fun _ h9 => h9) rfl dX3_term_1 ?_
  refine lv_istore_n (lv' := [(2, .int (iZ q)), (0, .ref h0), (1, .int (iZ ix))]) hx hb dX3_term_4 rfl hl (by decide) rfl (fun ls hl => ?_)
  refine lv_aload_n hx hb dX3_term_5 rfl (lv_at hl 1 rfl) ?_
  refine va_get (D := G) (ci := 2) (v := .int (iZ p)) (C := RX3) (T := TX3) (N := 3) hx hb hts (by decide +kernel) hown hK hP 0 rfl rfl 0 (by decide) (hts (.fieldLink RX3 9 "SturmianWords$Slope" "numerator" "I") (by decide +kernel)) (fun _ h9 => h9) rfl dX3_term_6 ?_
  refine lv_istore_n (lv' := [(3, .int (iZ p)), (2, .int (iZ q)), (0, .ref h0), (1, .int (iZ ix))]) hx hb dX3_term_9 rfl hl (by decide) rfl (fun ls hl => ?_)
  refine lv_iconst (v := iZ 1) hx hb dX3_term_10 rfl ?_
  refine lv_istore (lv' := [(4, .int (iZ 1)), (3, .int (iZ p)), (2, .int (iZ q)), (0, .ref h0), (1, .int (iZ ix))]) hx hb dX3_term_11 hl (by decide) rfl (fun ls hl => ?_)
  refine z_loop3 (nL := 7) (fun (dd : Int) (ds : Int) (i : Int) => [(0, .ref h0), (1, .int (iZ ix)), (2, .int (iZ dd)), (3, .int (iZ ds)), (4, .int (iZ i))]) (fun (dd : Int) (ds : Int) (i : Int) => (eu p q (i - 1) = (dd, ds)) ∧ (0 ≤ ds ∧ ds ≤ 1000) ∧ (0 < dd ∧ dd ≤ 1000) ∧ (1 ≤ i ∧ i - 1 + ds ≤ 1000) ∧ (i ≤ ix)) (fun (dd : Int) (ds : Int) (i : Int) => 1001 - i) (a1 := q) (a2 := p) (a3 := 1) ⟨(eu_0 p q), (by omega), (by omega), (by omega), (by omega)⟩ (lv_sub hl [3, 4, 2, 1, 0] rfl) ?_
  rintro dd ds i ⟨i1, i2, i3, i4, i5⟩ ih_13 ls hl
  refine lv_iload hx hb dX3_term_13 (lv_at hl 4 rfl) ?_
  refine lv_sipush (v := iZ 1000) hx hb dX3_term_15 (by decide +kernel) ?_
  refine z_icmp_gt (tgt := 63) hx hb dX3_term_18 (by decide) (by omega) (fun c_18 => ?_) (fun c_18 => ?_)
  · refine lv_iconst (v := iZ (-1)) hx hb dX3_term_63 rfl ?_
    exact z_iretP hx hb hr hlocks dX3_term_64 (by unfold cft; rw [eu_z (k := i - 1) (by omega) (by rw [i1]; show ds ≤ 0; omega) (by omega), i1, if_neg (by show ¬ 0 < ds; omega)])
  · refine lv_iload_n hx hb dX3_term_21 rfl (lv_at hl 3 rfl) ?_
    refine z_if_le (tgt := 63) hx hb dX3_term_22 (by decide) (by omega) (fun c_22 => ?_) (fun c_22 => ?_)
    · refine lv_iconst (v := iZ (-1)) hx hb dX3_term_63 rfl ?_
      exact z_iretP hx hb hr hlocks dX3_term_64 (by unfold cft; rw [eu_z (k := i - 1) (by omega) (by rw [i1]; show ds ≤ 0; omega) (by omega), i1, if_neg (by show ¬ 0 < ds; omega)])
    · refine lv_iload_n hx hb dX3_term_25 rfl (lv_at hl 2 rfl) ?_
      refine z_i2l hx hb dX3_term_26 (by omega) ?_
      refine lv_iload_n hx hb dX3_term_27 rfl (lv_at hl 3 rfl) ?_
      refine z_i2l hx hb dX3_term_28 (by omega) ?_
      refine z_calll (va_runSN (As := [.long (lZ dd), .long (lZ ds)]) (rest := []) ⟨hx, hb, hml, hown, hts⟩ (c_X6_quotient lau G cy dd ds (by omega) (by omega)) ⟨va_cnB 2 hts gX3_term_X6_quotient_n21 rfl rfl rfl (hKK.2 (.methodLinkNest RX3 21 yX6_quotient "SturmianWords") (by decide +kernel)) (hts (.initialized RX6) (by decide +kernel)) (by decide +kernel) ⟨Nat.le_of_ble_eq_true rfl, Nat.le_of_ble_eq_true rfl⟩, hts (.static yX6_quotient) (by decide +kernel), trivial⟩ ⟨P1_blind, P1_mk hKK (trivial)⟩ rfl rfl hl.1 rfl (lv_room (Nat.le_of_ble_eq_true rfl)) dX3_term_29 ⟨Nat.le_refl 0, Nat.le_refl 0⟩) ?_
      refine z_l2i hx hb dX3_term_32 ?_
      refine z_tope (fun x33_1 ex33_1 => ?_)
      have e3 := Int.ediv_nonneg (show 0 ≤ dd by omega) (show 0 ≤ ds by omega)
      have e4 := Int.ediv_le_self ds (show 0 ≤ dd by omega)
      refine lv_istore (lv' := [(5, .int (iZ x33_1)), (0, .ref h0), (1, .int (iZ ix)), (2, .int (iZ dd)), (3, .int (iZ ds)), (4, .int (iZ i))]) hx hb dX3_term_33 hl (by decide) rfl (fun ls hl => ?_)
      refine lv_iload hx hb dX3_term_35 (lv_at hl 5 rfl) ?_
      refine lv_iload_n hx hb dX3_term_37 rfl (lv_at hl 2 rfl) ?_
      refine z_icmp_ne (tgt := 44) hx hb dX3_term_38 (by decide) (by omega) (fun c_38 => ?_) (fun c_38 => ?_)
      · refine lv_iload_n hx hb dX3_term_44 rfl (lv_at hl 3 rfl) ?_
        refine lv_iload hx hb dX3_term_45 (lv_at hl 0 rfl) ?_
        refine lv_iload_n hx hb dX3_term_47 rfl (lv_at hl 4 rfl) ?_
        refine z_imul hx hb dX3_term_48 ?_
        refine z_isub hx hb dX3_term_49 ?_
        refine z_top (b := (dd % ds)) (by rw [ex33_1]; exact sub_mul_div dd ds) ?_
        refine z_tope (fun x50_2 ex50_2 => ?_)
        have e1 := Int.emod_nonneg dd (show ds ≠ 0 by omega)
        have e2 := Int.emod_lt_of_pos dd (show 0 < ds by omega)
        refine lv_istore (lv' := [(6, .int (iZ x50_2)), (5, .int (iZ x33_1)), (0, .ref h0), (1, .int (iZ ix)), (2, .int (iZ dd)), (3, .int (iZ ds)), (4, .int (iZ i))]) hx hb dX3_term_50 hl (by decide) rfl (fun ls hl => ?_)
        refine lv_iload_n hx hb dX3_term_52 rfl (lv_at hl 5 rfl) ?_
        refine lv_istore_n (lv' := [(2, .int (iZ ds)), (6, .int (iZ x50_2)), (5, .int (iZ x33_1)), (0, .ref h0), (1, .int (iZ ix)), (3, .int (iZ ds)), (4, .int (iZ i))]) hx hb dX3_term_53 rfl hl (by decide) rfl (fun ls hl => ?_)
        refine lv_iload hx hb dX3_term_54 (lv_at hl 1 rfl) ?_
        refine lv_istore_n (lv' := [(3, .int (iZ x50_2)), (2, .int (iZ ds)), (6, .int (iZ x50_2)), (5, .int (iZ x33_1)), (0, .ref h0), (1, .int (iZ ix)), (4, .int (iZ i))]) hx hb dX3_term_56 rfl hl (by decide) rfl (fun ls hl => ?_)
        refine lv_iinc (v := iZ (i + 1)) (lv' := [(4, .int (iZ (i + 1))), (3, .int (iZ x50_2)), (2, .int (iZ ds)), (6, .int (iZ x50_2)), (5, .int (iZ x33_1)), (0, .ref h0), (1, .int (iZ ix))]) hx hb dX3_term_57 hl (k := 6) rfl (iZ_add _ _) (by decide) rfl (fun ls hl => ?_)
        refine lv_goto (tgt := 13) hx hb dX3_term_60 (by decide) ?_
        exact ih_13 ds x50_2 (i + 1) ⟨(by rw [show i + 1 - 1 = i - 1 + 1 by omega, eu_p (by omega) (by rw [i1]; show 0 < ds; omega), i1, ex50_2]), (by omega), (by omega), (by omega), (by omega)⟩ ⟨by omega, by omega⟩ _ (lv_sub hl [5, 6, 2, 1, 0] rfl)
      · refine lv_iload hx hb dX3_term_41 (lv_at hl 0 rfl) ?_
        exact z_iretP hx hb hr hlocks dX3_term_43 (by unfold cft; rw [← c_38, i1, if_pos (by show 0 < ds; omega)]; exact ex33_1)
set_option maxHeartbeats 4000000 in
set_option maxRecDepth 100000 in
theorem c_X3_letter (lau : Launch) (G : va_G) (cy : Nat → ClassId) (h0 : Nat) (p q c n up : Int) (hp : 0 ≤ p ∧ p ≤ q) (hq : 0 < q ∧ q ≤ 1000) (hc : 0 ≤ c ∧ c < q) (h3 : 0 ≤ n ∧ n ≤ 1000000) (hu : 0 ≤ up ∧ up ≤ 1) : Met lau yX3_letter wsX3_letter ({ frames := 1, cells := 0, slots := 0, locals := 23 }) (P1 G cy [.ref h0, .int (iZ n), .int (iZ up)] (fun H => va_P G vwCl [(h0, .inr (2, [.int (iZ p), .int (iZ q), .int (iZ c)]))] H)) (vp_Si (fun r => r = iZ (mlt p q c up n))) 0 0 (fun _ => False) := by
  refine z_head (lv := [(0, .ref h0), (1, .int (iZ n)), (2, .int (iZ up))]) RX3 (by decide) rfl rfl (Nat.le_of_ble_eq_true rfl) rfl ?_
  intro pr ev s mt below meth cd ls hx hb hr hlocks hml hown hname hts hKK hP hl
  have hK := hKK.1
  have hP : va_P G vwCl [(h0, .inr (2, [.int (iZ p), .int (iZ q), .int (iZ c)]))] s.heap := hP
  have hnp : 0 ≤ n * p := Int.mul_nonneg (by omega) (by omega)
  have hnq : n * p ≤ 1000000 * 1000 := Int.mul_le_mul (by omega) (by omega) (by omega) (by omega)
  refine lv_iload_n hx hb dX3_letter_0 rfl (lv_at hl 2 rfl) ?_
  refine z_if_eq (tgt := 14) hx hb dX3_letter_1 (by decide) (by omega) (fun c_1 => ?_) (fun c_1 => ?_)
  · refine lv_lconst (v := lZ 0) hx hb dX3_letter_14 rfl ?_
    refine lv_lstore_n (lv' := [(3, .long (lZ 0)), (0, .ref h0), (1, .int (iZ n)), (2, .int (iZ up))]) hx hb dX3_letter_15 rfl hl (by decide) rfl (fun ls hl => ?_)
    refine lv_iload_n hx hb dX3_letter_16 rfl (lv_at hl 2 rfl) ?_
    refine z_i2l hx hb dX3_letter_17 (by omega) ?_
    refine lv_aload_n hx hb dX3_letter_18 rfl (lv_at hl 1 rfl) ?_
    refine va_get (D := G) (ci := 2) (v := .int (iZ p)) (C := RX3) (T := TX3) (N := 3) hx hb hts (by decide +kernel) hown hK hP 0 rfl rfl 0 (by decide) (hts (.fieldLink RX3 9 "SturmianWords$Slope" "numerator" "I") (by decide +kernel)) (fun _ h9 => h9) rfl dX3_letter_19 ?_
    refine z_i2l hx hb dX3_letter_22 (by omega) ?_
    refine z_lmul hx hb dX3_letter_23 ?_
    refine lv_aload_n hx hb dX3_letter_24 rfl (lv_at hl 1 rfl) ?_
    refine va_get (D := G) (ci := 2) (v := .int (iZ c)) (C := RX3) (T := TX3) (N := 3) hx hb hts (by decide +kernel) hown hK hP 0 rfl rfl 2 (by decide) (hts (.fieldLink RX3 18 "SturmianWords$Slope" "intercept" "I") (by decide +kernel)) (fun _ h9 => h9) rfl dX3_letter_25 ?_
    refine z_i2l hx hb dX3_letter_28 (by omega) ?_
    refine z_ladd hx hb dX3_letter_29 ?_
    refine lv_lload_n hx hb dX3_letter_30 rfl (lv_at hl 0 rfl) ?_
    refine z_ladd hx hb dX3_letter_31 ?_
    refine lv_lstore (lv' := [(5, .long (lZ (((n * p) + c) + 0))), (3, .long (lZ 0)), (0, .ref h0), (1, .int (iZ n)), (2, .int (iZ up))]) hx hb dX3_letter_32 hl (by decide) rfl (fun ls hl => ?_)
    refine lv_lload hx hb dX3_letter_34 (lv_at hl 0 rfl) ?_
    refine lv_aload_n hx hb dX3_letter_36 rfl (lv_at hl 2 rfl) ?_
    refine va_get (D := G) (ci := 2) (v := .int (iZ p)) (C := RX3) (T := TX3) (N := 3) hx hb hts (by decide +kernel) hown hK hP 0 rfl rfl 0 (by decide) (hts (.fieldLink RX3 9 "SturmianWords$Slope" "numerator" "I") (by decide +kernel)) (fun _ h9 => h9) rfl dX3_letter_37 ?_
    refine z_i2l hx hb dX3_letter_40 (by omega) ?_
    refine z_ladd hx hb dX3_letter_41 ?_
    refine lv_aload_n hx hb dX3_letter_42 rfl (lv_at hl 2 rfl) ?_
    refine va_get (D := G) (ci := 2) (v := .int (iZ q)) (C := RX3) (T := TX3) (N := 3) hx hb hts (by decide +kernel) hown hK hP 0 rfl rfl 1 (by decide) (hts (.fieldLink RX3 15 "SturmianWords$Slope" "denominator" "I") (by decide +kernel)) (fun _ h9 => h9) rfl dX3_letter_43 ?_
    refine z_i2l hx hb dX3_letter_46 (by omega) ?_
    refine z_calll (va_runSN (As := [.long (lZ ((((n * p) + c) + 0) + p)), .long (lZ q)]) (rest := []) ⟨hx, hb, hml, hown, hts⟩ (c_X6_quotient lau G cy ((((n * p) + c) + 0) + p) q (by omega) (by omega)) ⟨va_cnB 2 hts gX3_letter_X6_quotient_n21 rfl rfl rfl (hKK.2 (.methodLinkNest RX3 21 yX6_quotient "SturmianWords") (by decide +kernel)) (hts (.initialized RX6) (by decide +kernel)) (by decide +kernel) ⟨Nat.le_of_ble_eq_true rfl, Nat.le_of_ble_eq_true rfl⟩, hts (.static yX6_quotient) (by decide +kernel), trivial⟩ ⟨P1_blind, P1_mk hKK (trivial)⟩ rfl rfl hl.1 rfl (lv_room (Nat.le_of_ble_eq_true rfl)) dX3_letter_47 ⟨Nat.le_refl 0, Nat.le_refl 0⟩) ?_
    refine lv_lload hx hb dX3_letter_50 (lv_at hl 0 rfl) ?_
    refine lv_aload_n hx hb dX3_letter_52 rfl (lv_at hl 2 rfl) ?_
    refine va_get (D := G) (ci := 2) (v := .int (iZ q)) (C := RX3) (T := TX3) (N := 3) hx hb hts (by decide +kernel) hown hK hP 0 rfl rfl 1 (by decide) (hts (.fieldLink RX3 15 "SturmianWords$Slope" "denominator" "I") (by decide +kernel)) (fun _ h9 => h9) rfl dX3_letter_53 ?_
    refine z_i2l hx hb dX3_letter_56 (by omega) ?_
    refine z_calll (va_runSN (As := [.long (lZ (((n * p) + c) + 0)), .long (lZ q)]) (rest := [.long (lZ (((((n * p) + c) + 0) + p) / q))]) ⟨hx, hb, hml, hown, hts⟩ (c_X6_quotient lau G cy (((n * p) + c) + 0) q (by omega) (by omega)) ⟨va_cnB 2 hts gX3_letter_X6_quotient_n21 rfl rfl rfl (hKK.2 (.methodLinkNest RX3 21 yX6_quotient "SturmianWords") (by decide +kernel)) (hts (.initialized RX6) (by decide +kernel)) (by decide +kernel) ⟨Nat.le_of_ble_eq_true rfl, Nat.le_of_ble_eq_true rfl⟩, hts (.static yX6_quotient) (by decide +kernel), trivial⟩ ⟨P1_blind, P1_mk hKK (trivial)⟩ rfl rfl hl.1 rfl (lv_room (Nat.le_of_ble_eq_true rfl)) dX3_letter_57 ⟨Nat.le_refl 0, Nat.le_refl 0⟩) ?_
    refine z_lsub hx hb dX3_letter_60 ?_
    refine z_l2i hx hb dX3_letter_61 ?_
    exact z_iretP hx hb hr hlocks dX3_letter_62 (by unfold mlt; rw [if_pos c_1])
  · refine lv_aload_n hx hb dX3_letter_4 rfl (lv_at hl 0 rfl) ?_
    refine va_get (D := G) (ci := 2) (v := .int (iZ q)) (C := RX3) (T := TX3) (N := 3) hx hb hts (by decide +kernel) hown hK hP 0 rfl rfl 1 (by decide) (hts (.fieldLink RX3 15 "SturmianWords$Slope" "denominator" "I") (by decide +kernel)) (fun _ h9 => h9) rfl dX3_letter_5 ?_
    refine z_i2l hx hb dX3_letter_8 (by omega) ?_
    refine lv_lconst (v := lZ 1) hx hb dX3_letter_9 rfl ?_
    refine z_lsub hx hb dX3_letter_10 ?_
    refine lv_goto (tgt := 15) hx hb dX3_letter_11 (by decide) ?_
    refine lv_lstore_n (lv' := [(3, .long (lZ (q - 1))), (0, .ref h0), (1, .int (iZ n)), (2, .int (iZ up))]) hx hb dX3_letter_15 rfl hl (by decide) rfl (fun ls hl => ?_)
    refine lv_iload_n hx hb dX3_letter_16 rfl (lv_at hl 2 rfl) ?_
    refine z_i2l hx hb dX3_letter_17 (by omega) ?_
    refine lv_aload_n hx hb dX3_letter_18 rfl (lv_at hl 1 rfl) ?_
    refine va_get (D := G) (ci := 2) (v := .int (iZ p)) (C := RX3) (T := TX3) (N := 3) hx hb hts (by decide +kernel) hown hK hP 0 rfl rfl 0 (by decide) (hts (.fieldLink RX3 9 "SturmianWords$Slope" "numerator" "I") (by decide +kernel)) (fun _ h9 => h9) rfl dX3_letter_19 ?_
    refine z_i2l hx hb dX3_letter_22 (by omega) ?_
    refine z_lmul hx hb dX3_letter_23 ?_
    refine lv_aload_n hx hb dX3_letter_24 rfl (lv_at hl 1 rfl) ?_
    refine va_get (D := G) (ci := 2) (v := .int (iZ c)) (C := RX3) (T := TX3) (N := 3) hx hb hts (by decide +kernel) hown hK hP 0 rfl rfl 2 (by decide) (hts (.fieldLink RX3 18 "SturmianWords$Slope" "intercept" "I") (by decide +kernel)) (fun _ h9 => h9) rfl dX3_letter_25 ?_
    refine z_i2l hx hb dX3_letter_28 (by omega) ?_
    refine z_ladd hx hb dX3_letter_29 ?_
    refine lv_lload_n hx hb dX3_letter_30 rfl (lv_at hl 0 rfl) ?_
    refine z_ladd hx hb dX3_letter_31 ?_
    refine lv_lstore (lv' := [(5, .long (lZ (((n * p) + c) + (q - 1)))), (3, .long (lZ (q - 1))), (0, .ref h0), (1, .int (iZ n)), (2, .int (iZ up))]) hx hb dX3_letter_32 hl (by decide) rfl (fun ls hl => ?_)
    refine lv_lload hx hb dX3_letter_34 (lv_at hl 0 rfl) ?_
    refine lv_aload_n hx hb dX3_letter_36 rfl (lv_at hl 2 rfl) ?_
    refine va_get (D := G) (ci := 2) (v := .int (iZ p)) (C := RX3) (T := TX3) (N := 3) hx hb hts (by decide +kernel) hown hK hP 0 rfl rfl 0 (by decide) (hts (.fieldLink RX3 9 "SturmianWords$Slope" "numerator" "I") (by decide +kernel)) (fun _ h9 => h9) rfl dX3_letter_37 ?_
    refine z_i2l hx hb dX3_letter_40 (by omega) ?_
    refine z_ladd hx hb dX3_letter_41 ?_
    refine lv_aload_n hx hb dX3_letter_42 rfl (lv_at hl 2 rfl) ?_
    refine va_get (D := G) (ci := 2) (v := .int (iZ q)) (C := RX3) (T := TX3) (N := 3) hx hb hts (by decide +kernel) hown hK hP 0 rfl rfl 1 (by decide) (hts (.fieldLink RX3 15 "SturmianWords$Slope" "denominator" "I") (by decide +kernel)) (fun _ h9 => h9) rfl dX3_letter_43 ?_
    refine z_i2l hx hb dX3_letter_46 (by omega) ?_
    refine z_calll (va_runSN (As := [.long (lZ ((((n * p) + c) + (q - 1)) + p)), .long (lZ q)]) (rest := []) ⟨hx, hb, hml, hown, hts⟩ (c_X6_quotient lau G cy ((((n * p) + c) + (q - 1)) + p) q (by omega) (by omega)) ⟨va_cnB 2 hts gX3_letter_X6_quotient_n21 rfl rfl rfl (hKK.2 (.methodLinkNest RX3 21 yX6_quotient "SturmianWords") (by decide +kernel)) (hts (.initialized RX6) (by decide +kernel)) (by decide +kernel) ⟨Nat.le_of_ble_eq_true rfl, Nat.le_of_ble_eq_true rfl⟩, hts (.static yX6_quotient) (by decide +kernel), trivial⟩ ⟨P1_blind, P1_mk hKK (trivial)⟩ rfl rfl hl.1 rfl (lv_room (Nat.le_of_ble_eq_true rfl)) dX3_letter_47 ⟨Nat.le_refl 0, Nat.le_refl 0⟩) ?_
    refine lv_lload hx hb dX3_letter_50 (lv_at hl 0 rfl) ?_
    refine lv_aload_n hx hb dX3_letter_52 rfl (lv_at hl 2 rfl) ?_
    refine va_get (D := G) (ci := 2) (v := .int (iZ q)) (C := RX3) (T := TX3) (N := 3) hx hb hts (by decide +kernel) hown hK hP 0 rfl rfl 1 (by decide) (hts (.fieldLink RX3 15 "SturmianWords$Slope" "denominator" "I") (by decide +kernel)) (fun _ h9 => h9) rfl dX3_letter_53 ?_
    refine z_i2l hx hb dX3_letter_56 (by omega) ?_
    refine z_calll (va_runSN (As := [.long (lZ (((n * p) + c) + (q - 1))), .long (lZ q)]) (rest := [.long (lZ (((((n * p) + c) + (q - 1)) + p) / q))]) ⟨hx, hb, hml, hown, hts⟩ (c_X6_quotient lau G cy (((n * p) + c) + (q - 1)) q (by omega) (by omega)) ⟨va_cnB 2 hts gX3_letter_X6_quotient_n21 rfl rfl rfl (hKK.2 (.methodLinkNest RX3 21 yX6_quotient "SturmianWords") (by decide +kernel)) (hts (.initialized RX6) (by decide +kernel)) (by decide +kernel) ⟨Nat.le_of_ble_eq_true rfl, Nat.le_of_ble_eq_true rfl⟩, hts (.static yX6_quotient) (by decide +kernel), trivial⟩ ⟨P1_blind, P1_mk hKK (trivial)⟩ rfl rfl hl.1 rfl (lv_room (Nat.le_of_ble_eq_true rfl)) dX3_letter_57 ⟨Nat.le_refl 0, Nat.le_refl 0⟩) ?_
    refine z_lsub hx hb dX3_letter_60 ?_
    refine z_l2i hx hb dX3_letter_61 ?_
    exact z_iretP hx hb hr hlocks dX3_letter_62 (by unfold mlt; rw [if_neg c_1])
set_option maxHeartbeats 4000000 in
set_option maxRecDepth 100000 in
theorem c_X5_factor (lau : Launch) (G : va_G) (cy : Nat → ClassId) (h0 : Nat) (b n st ct : Int) (hn : 0 ≤ n ∧ n ≤ 60) (hb2 : 0 ≤ b ∧ b < 2305843009213693952) (h1 : 0 ≤ st) (h2 : 0 ≤ ct) (h3 : st + ct ≤ n) : Met lau yX5_factor wsX5_factor ({ frames := 0, cells := 0, slots := 0, locals := 0 }) (P1 G cy [.ref h0, .int (iZ st), .int (iZ ct)] (fun H => va_P G vwCl [(h0, .inr (4, [.long (lZ b), .int (iZ n)]))] H)) (vp_Sl (fun r => r = lZ (fct b n st ct))) 0 0 (fun _ => False) := by
  refine z_head (lv := [(0, .ref h0), (1, .int (iZ st)), (2, .int (iZ ct))]) RX5 (by decide) rfl rfl (Nat.le_of_ble_eq_true rfl) rfl ?_
  intro pr ev s mt below meth cd ls hx hb hr hlocks hml hown hname hts hKK hP hl
  have hK := hKK.1
  have hP : va_P G vwCl [(h0, .inr (4, [.long (lZ b), .int (iZ n)]))] s.heap := hP
  refine lv_aload_n hx hb dX5_factor_0 rfl (lv_at hl 0 rfl) ?_
  refine va_get (D := G) (ci := 4) (v := .long (lZ b)) (C := RX5) (T := TX5) (N := 2) hx hb hts (by decide +kernel) hown hK hP 0 rfl rfl 0 (by decide) (hts (.fieldLink RX5 9 "SturmianWords$Word" "bits" "J") (by decide +kernel)) (fun _ h9 => h9) rfl dX5_factor_1 ?_
  refine lv_aload_n hx hb dX5_factor_4 rfl (lv_at hl 0 rfl) ?_
  refine va_get (D := G) (ci := 4) (v := .int (iZ n)) (C := RX5) (T := TX5) (N := 2) hx hb hts (by decide +kernel) hown hK hP 0 rfl rfl 1 (by decide) (hts (.fieldLink RX5 15 "SturmianWords$Word" "size" "I") (by decide +kernel)) (fun _ h9 => h9) rfl dX5_factor_5 ?_
  refine lv_iload_n hx hb dX5_factor_8 rfl (lv_at hl 1 rfl) ?_
  refine z_isub hx hb dX5_factor_9 ?_
  refine lv_iload_n hx hb dX5_factor_10 rfl (lv_at hl 2 rfl) ?_
  refine z_isub hx hb dX5_factor_11 ?_
  have hpw := pw_pos (n - st - ct)
  have hdv := Int.ediv_nonneg (show 0 ≤ b by omega) (Int.le_of_lt hpw)
  have hdl := Int.ediv_le_self (pw (n - st - ct)) (show 0 ≤ b by omega)
  refine z_lushr hx hb dX5_factor_12 (by omega) ?_
  refine lv_lconst (v := lZ 1) hx hb dX5_factor_13 rfl ?_
  refine lv_iload_n hx hb dX5_factor_14 rfl (lv_at hl 2 rfl) ?_
  refine z_lshl hx hb dX5_factor_15 (by omega) ?_
  refine lv_lconst (v := lZ 1) hx hb dX5_factor_16 rfl ?_
  refine z_lsub hx hb dX5_factor_17 ?_
  refine z_mask (k := ct) hx hb dX5_factor_18 (by rw [Int.one_mul]) (by omega) ?_
  exact z_lretP hx hb hr hlocks dX5_factor_19 (rfl)
set_option maxHeartbeats 4000000 in
set_option maxRecDepth 100000 in
theorem c_X5_letter (lau : Launch) (G : va_G) (cy : Nat → ClassId) (h0 : Nat) (b n j : Int) (hn : 0 ≤ n ∧ n ≤ 60) (hb2 : 0 ≤ b ∧ b < 2305843009213693952) (h1 : 0 ≤ j ∧ j < n) : Met lau yX5_letter wsX5_letter ({ frames := 1, cells := 0, slots := 0, locals := 22 }) (P1 G cy [.ref h0, .int (iZ j)] (fun H => va_P G vwCl [(h0, .inr (4, [.long (lZ b), .int (iZ n)]))] H)) (vp_Si (fun r => r = iZ (ltr b n j))) 0 0 (fun _ => False) := by
  refine z_head (lv := [(0, .ref h0), (1, .int (iZ j))]) RX5 (by decide) rfl rfl (Nat.le_of_ble_eq_true rfl) rfl ?_
  intro pr ev s mt below meth cd ls hx hb hr hlocks hml hown hname hts hKK hP hl
  have hK := hKK.1
  have hP : va_P G vwCl [(h0, .inr (4, [.long (lZ b), .int (iZ n)]))] s.heap := hP
  refine lv_aload_n hx hb dX5_letter_0 rfl (lv_at hl 0 rfl) ?_
  refine lv_iload_n hx hb dX5_letter_1 rfl (lv_at hl 1 rfl) ?_
  refine lv_iconst (v := iZ 1) hx hb dX5_letter_2 rfl ?_
  refine z_calll (va_runV (As := [.int (iZ j), .int (iZ 1)]) (rest := []) ⟨hx, hb, hml, hown, hts⟩ (c_X5_factor lau G cy h0 b n j 1 (by omega) (by omega) (by omega) (by omega) (by omega)) (cwV 2 hts gX5_letter_X5_factor rfl rfl rfl (by decide +kernel) ⟨Nat.le_of_ble_eq_true rfl, Nat.le_of_ble_eq_true rfl⟩) ⟨P1_blind, va_recv hK hP (ci := 4) (q0 := 0) rfl rfl, P1_mk hKK (hP.sub [0] rfl)⟩ rfl rfl hl.1 rfl (lv_room (Nat.le_of_ble_eq_true rfl)) dX5_letter_3 ⟨Nat.le_refl 0, Nat.le_refl 0⟩) ?_
  refine z_l2i hx hb dX5_letter_6 ?_
  exact z_iretP hx hb hr hlocks dX5_letter_7 (rfl)
set_option maxHeartbeats 4000000 in
set_option maxRecDepth 100000 in
theorem c_X5_isNew (lau : Launch) (G : va_G) (cy : Nat → ClassId) (h0 : Nat) (b n st ct : Int) (hn : 0 ≤ n ∧ n ≤ 60) (hb2 : 0 ≤ b ∧ b < 2305843009213693952) (h1 : 0 ≤ st) (h2 : 0 ≤ ct) (h3 : st + ct ≤ n) : Met lau yX5_isNew wsX5_isNew ({ frames := 1, cells := 0, slots := 0, locals := 22 }) (P1 G cy [.ref h0, .int (iZ st), .int (iZ ct)] (fun H => va_P G vwCl [(h0, .inr (4, [.long (lZ b), .int (iZ n)]))] H)) (vp_Si (fun r => r = iZ (bv (newP b n st ct)))) 0 0 (fun _ => False) := by
  refine z_head (lv := [(0, .ref h0), (1, .int (iZ st)), (2, .int (iZ ct))]) RX5 (by decide) rfl rfl (Nat.le_of_ble_eq_true rfl) rfl ?_
  intro pr ev s mt below meth cd ls hx hb hr hlocks hml hown hname hts hKK hP hl
  have hK := hKK.1
  have hP : va_P G vwCl [(h0, .inr (4, [.long (lZ b), .int (iZ n)]))] s.heap := hP
  have hf := fun k => fct_b (b := b) (n := n) (st := k) (show ct ≤ 61 by omega)
  have hf0 := hf st
  refine lv_aload_n hx hb dX5_isNew_0 rfl (lv_at hl 0 rfl) ?_
  refine lv_iload_n hx hb dX5_isNew_1 rfl (lv_at hl 1 rfl) ?_
  refine lv_iload_n hx hb dX5_isNew_2 rfl (lv_at hl 2 rfl) ?_
  refine z_calll (va_runV (As := [.int (iZ st), .int (iZ ct)]) (rest := []) ⟨hx, hb, hml, hown, hts⟩ (c_X5_factor lau G cy h0 b n st ct (by omega) (by omega) (by omega) (by omega) (by omega)) (cwV 2 hts gX5_isNew_X5_factor rfl rfl rfl (by decide +kernel) ⟨Nat.le_of_ble_eq_true rfl, Nat.le_of_ble_eq_true rfl⟩) ⟨P1_blind, va_recv hK hP (ci := 4) (q0 := 0) rfl rfl, P1_mk hKK (hP.sub [0] rfl)⟩ rfl rfl hl.1 rfl (lv_room (Nat.le_of_ble_eq_true rfl)) dX5_isNew_3 ⟨Nat.le_refl 0, Nat.le_refl 0⟩) ?_
  refine lv_lstore_n (lv' := [(3, .long (lZ (fct b n st ct))), (0, .ref h0), (1, .int (iZ st)), (2, .int (iZ ct))]) hx hb dX5_isNew_6 rfl hl (by decide) rfl (fun ls hl => ?_)
  refine lv_iconst (v := iZ 0) hx hb dX5_isNew_7 rfl ?_
  refine lv_istore (lv' := [(5, .int (iZ 0)), (3, .long (lZ (fct b n st ct))), (0, .ref h0), (1, .int (iZ st)), (2, .int (iZ ct))]) hx hb dX5_isNew_8 hl (by decide) rfl (fun ls hl => ?_)
  refine z_loop1 (nL := 6) (fun (i : Int) => [(0, .ref h0), (1, .int (iZ st)), (2, .int (iZ ct)), (3, .long (lZ (fct b n st ct))), (5, .int (iZ i))]) (fun (i : Int) => (0 ≤ i ∧ i ≤ st) ∧ (∀ k : Int, 0 ≤ k → k < i → fct b n k ct ≠ fct b n st ct)) (fun (i : Int) => st - i) (a1 := 0) ⟨(by omega), (fun k h1 h2 => by omega)⟩ (lv_sub hl [2, 3, 4, 1, 0] rfl) ?_
  rintro i ⟨i1, i2⟩ ih_10 ls hl
  have hfi := hf i
  refine lv_iload hx hb dX5_isNew_10 (lv_at hl 4 rfl) ?_
  refine lv_iload_n hx hb dX5_isNew_12 rfl (lv_at hl 1 rfl) ?_
  refine z_icmp_ge (tgt := 36) hx hb dX5_isNew_13 (by decide) (by omega) (fun c_13 => ?_) (fun c_13 => ?_)
  · refine lv_iconst (v := iZ 1) hx hb dX5_isNew_36 rfl ?_
    exact z_zretP hx hb hr hlocks dX5_isNew_37 ((bv_t (fun k q1 q2 => i2 k q1 (by omega))).symm)
  · refine lv_aload_n hx hb dX5_isNew_16 rfl (lv_at hl 0 rfl) ?_
    refine lv_iload hx hb dX5_isNew_17 (lv_at hl 4 rfl) ?_
    refine lv_iload_n hx hb dX5_isNew_19 rfl (lv_at hl 2 rfl) ?_
    refine z_calll (va_runV (As := [.int (iZ i), .int (iZ ct)]) (rest := []) ⟨hx, hb, hml, hown, hts⟩ (c_X5_factor lau G cy h0 b n i ct (by omega) (by omega) (by omega) (by omega) (by omega)) (cwV 2 hts gX5_isNew_X5_factor rfl rfl rfl (by decide +kernel) ⟨Nat.le_of_ble_eq_true rfl, Nat.le_of_ble_eq_true rfl⟩) ⟨P1_blind, va_recv hK hP (ci := 4) (q0 := 0) rfl rfl, P1_mk hKK (hP.sub [0] rfl)⟩ rfl rfl hl.1 rfl (lv_room (Nat.le_of_ble_eq_true rfl)) dX5_isNew_20 ⟨Nat.le_refl 0, Nat.le_refl 0⟩) ?_
    refine lv_lload_n hx hb dX5_isNew_23 rfl (lv_at hl 3 rfl) ?_
    refine z_lcmp hx hb dX5_isNew_24 (by omega) (fun cm24 hcm24 => ?_)
    refine z_if_ne (tgt := 30) hx hb dX5_isNew_25 (by decide) (by omega) (fun c_25 => ?_) (fun c_25 => ?_)
    · refine lv_iinc (v := iZ (i + 1)) (lv' := [(5, .int (iZ (i + 1))), (0, .ref h0), (1, .int (iZ st)), (2, .int (iZ ct)), (3, .long (lZ (fct b n st ct)))]) hx hb dX5_isNew_30 hl (k := 4) rfl (iZ_add _ _) (by decide) rfl (fun ls hl => ?_)
      refine lv_goto (tgt := 10) hx hb dX5_isNew_33 (by decide) ?_
      exact ih_10 (i + 1) ⟨(by omega), (fun k q1 q2 => by rcases (show k < i ∨ k = i by omega) with q | q; (· exact i2 k q1 q); (· rw [q]; omega))⟩ ⟨by omega, by omega⟩ _ (lv_sub hl [1, 2, 3, 4, 0] rfl)
    · refine lv_iconst (v := iZ 0) hx hb dX5_isNew_28 rfl ?_
      exact z_zretP hx hb hr hlocks dX5_isNew_29 ((bv_f (fun q => q i (by omega) (by omega) (by omega))).symm)
set_option maxHeartbeats 4000000 in
set_option maxRecDepth 100000 in
theorem c_X5_differentFactors (lau : Launch) (G : va_G) (cy : Nat → ClassId) (h0 : Nat) (b n ct : Int) (hn : 0 ≤ n ∧ n ≤ 60) (hb2 : 0 ≤ b ∧ b < 2305843009213693952) (h2 : 0 ≤ ct ∧ ct < 2147483648) : Met lau yX5_differentFactors wsX5_differentFactors ({ frames := 2, cells := 0, slots := 0, locals := 47 }) (P1 G cy [.ref h0, .int (iZ ct)] (fun H => va_P G vwCl [(h0, .inr (4, [.long (lZ b), .int (iZ n)]))] H)) (vp_Si (fun r => r = iZ (cnt (fun k => newP b n k ct) (n - ct + 1)))) 0 0 (fun _ => False) := by
  refine z_head (lv := [(0, .ref h0), (1, .int (iZ ct))]) RX5 (by decide) rfl rfl (Nat.le_of_ble_eq_true rfl) rfl ?_
  intro pr ev s mt below meth cd ls hx hb hr hlocks hml hown hname hts hKK hP hl
  have hK := hKK.1
  have hP : va_P G vwCl [(h0, .inr (4, [.long (lZ b), .int (iZ n)]))] s.heap := hP
  refine lv_iconst (v := iZ 0) hx hb dX5_differentFactors_0 rfl ?_
  refine lv_istore_n (lv' := [(2, .int (iZ 0)), (0, .ref h0), (1, .int (iZ ct))]) hx hb dX5_differentFactors_1 rfl hl (by decide) rfl (fun ls hl => ?_)
  refine lv_iconst (v := iZ 0) hx hb dX5_differentFactors_2 rfl ?_
  refine lv_istore_n (lv' := [(3, .int (iZ 0)), (2, .int (iZ 0)), (0, .ref h0), (1, .int (iZ ct))]) hx hb dX5_differentFactors_3 rfl hl (by decide) rfl (fun ls hl => ?_)
  refine z_loop2 (nL := 4) (fun (fo : Int) (i : Int) => [(0, .ref h0), (1, .int (iZ ct)), (2, .int (iZ fo)), (3, .int (iZ i))]) (fun (fo : Int) (i : Int) => (0 ≤ i ∧ (i ≤ n - ct + 1 ∨ i = 0)) ∧ (fo = cnt (fun k => newP b n k ct) i)) (fun (fo : Int) (i : Int) => n - ct + 1 - i) (a1 := 0) (a2 := 0) ⟨(by omega), ((cnt_0 (Int.le_refl 0)).symm)⟩ (lv_sub hl [2, 3, 1, 0] rfl) ?_
  rintro fo i ⟨i1, i2⟩ ih_4 ls hl
  have hr1 := cnt_le (P := fun k => newP b n k ct) i1.1
  refine lv_iload_n hx hb dX5_differentFactors_4 rfl (lv_at hl 3 rfl) ?_
  refine lv_aload_n hx hb dX5_differentFactors_5 rfl (lv_at hl 0 rfl) ?_
  refine va_get (D := G) (ci := 4) (v := .int (iZ n)) (C := RX5) (T := TX5) (N := 2) hx hb hts (by decide +kernel) hown hK hP 0 rfl rfl 1 (by decide) (hts (.fieldLink RX5 15 "SturmianWords$Word" "size" "I") (by decide +kernel)) (fun _ h9 => h9) rfl dX5_differentFactors_6 ?_
  refine lv_iload_n hx hb dX5_differentFactors_9 rfl (lv_at hl 1 rfl) ?_
  refine z_isub hx hb dX5_differentFactors_10 ?_
  refine z_icmp_gt (tgt := 32) hx hb dX5_differentFactors_11 (by decide) (by omega) (fun c_11 => ?_) (fun c_11 => ?_)
  · refine lv_iload_n hx hb dX5_differentFactors_32 rfl (lv_at hl 2 rfl) ?_
    exact z_iretP hx hb hr hlocks dX5_differentFactors_33 (by rw [i2]; rcases (show i = n - ct + 1 ∨ n - ct + 1 ≤ 0 ∧ i = 0 by omega) with q | ⟨q, q2⟩; (· rw [q]); (· rw [q2, cnt_0 (Int.le_refl 0), cnt_0 q]))
  · refine lv_aload_n hx hb dX5_differentFactors_14 rfl (lv_at hl 0 rfl) ?_
    refine lv_iload_n hx hb dX5_differentFactors_15 rfl (lv_at hl 3 rfl) ?_
    refine lv_iload_n hx hb dX5_differentFactors_16 rfl (lv_at hl 1 rfl) ?_
    refine z_calli (va_runV (As := [.int (iZ i), .int (iZ ct)]) (rest := []) ⟨hx, hb, hml, hown, hts⟩ (c_X5_isNew lau G cy h0 b n i ct (by omega) (by omega) (by omega) (by omega) (by omega)) (cwV 2 hts gX5_differentFactors_X5_isNew rfl rfl rfl (by decide +kernel) ⟨Nat.le_of_ble_eq_true rfl, Nat.le_of_ble_eq_true rfl⟩) ⟨P1_blind, va_recv hK hP (ci := 4) (q0 := 0) rfl rfl, P1_mk hKK (hP.sub [0] rfl)⟩ rfl rfl hl.1 rfl (lv_room (Nat.le_of_ble_eq_true rfl)) dX5_differentFactors_17 ⟨Nat.le_refl 0, Nat.le_refl 0⟩) ?_
    refine z_ifB_eq (tgt := 26) hx hb dX5_differentFactors_20 (by decide) (fun c_20 => ?_) (fun c_20 => ?_)
    · refine lv_iinc (v := iZ (i + 1)) (lv' := [(3, .int (iZ (i + 1))), (0, .ref h0), (1, .int (iZ ct)), (2, .int (iZ fo))]) hx hb dX5_differentFactors_26 hl (k := 3) rfl (iZ_add _ _) (by decide) rfl (fun ls hl => ?_)
      refine lv_goto (tgt := 4) hx hb dX5_differentFactors_29 (by decide) ?_
      exact ih_4 fo (i + 1) ⟨(by omega), (by rw [cnt_f (P := fun k => newP b n k ct) (by omega) c_20]; exact i2)⟩ ⟨by omega, by omega⟩ _ (lv_sub hl [1, 2, 3, 0] rfl)
    · refine lv_iinc (v := iZ (fo + 1)) (lv' := [(2, .int (iZ (fo + 1))), (0, .ref h0), (1, .int (iZ ct)), (3, .int (iZ i))]) hx hb dX5_differentFactors_23 hl (k := 2) rfl (iZ_add _ _) (by decide) rfl (fun ls hl => ?_)
      refine lv_iinc (v := iZ (i + 1)) (lv' := [(3, .int (iZ (i + 1))), (2, .int (iZ (fo + 1))), (0, .ref h0), (1, .int (iZ ct))]) hx hb dX5_differentFactors_26 hl (k := 3) rfl (iZ_add _ _) (by decide) rfl (fun ls hl => ?_)
      refine lv_goto (tgt := 4) hx hb dX5_differentFactors_29 (by decide) ?_
      exact ih_4 (fo + 1) (i + 1) ⟨(by omega), (by rw [cnt_t (P := fun k => newP b n k ct) (by omega) c_20, i2])⟩ ⟨by omega, by omega⟩ _ (lv_sub hl [2, 3, 1, 0] rfl)
set_option maxHeartbeats 4000000 in
set_option maxRecDepth 100000 in
theorem c_X5_nextFactor (lau : Launch) (G : va_G) (cy : Nat → ClassId) (h0 : Nat) (b n ct ab : Int) (hn : 0 ≤ n ∧ n ≤ 60) (hb2 : 0 ≤ b ∧ b < 2305843009213693952) (h2 : 1 ≤ ct ∧ ct ≤ 60) (h3 : -1 ≤ ab ∧ ab < 2305843009213693953) : Met lau yX5_nextFactor wsX5_nextFactor ({ frames := 1, cells := 0, slots := 0, locals := 22 }) (P1 G cy [.ref h0, .int (iZ ct), .long (lZ ab)] (fun H => va_P G vwCl [(h0, .inr (4, [.long (lZ b), .int (iZ n)]))] H)) (vp_Sl (fun r => r = lZ (nxt (fun k => fct b n k ct) ab (n - ct + 1)))) 0 0 (fun _ => False) := by
  refine z_head (lv := [(0, .ref h0), (1, .int (iZ ct)), (2, .long (lZ ab))]) RX5 (by decide) rfl rfl (Nat.le_of_ble_eq_true rfl) rfl ?_
  intro pr ev s mt below meth cd ls hx hb hr hlocks hml hown hname hts hKK hP hl
  have hK := hKK.1
  have hP : va_P G vwCl [(h0, .inr (4, [.long (lZ b), .int (iZ n)]))] s.heap := hP
  have hf := fun k => fct_b (b := b) (n := n) (st := k) (show ct ≤ 61 by omega)
  refine lv_ldc2 (v := lZ (-1)) hx hb hown (hts (.constantLong RX5 36 (lZ (-1))) (by decide +kernel)) dX5_nextFactor_0 ?_
  refine lv_lstore (lv' := [(4, .long (lZ (-1))), (0, .ref h0), (1, .int (iZ ct)), (2, .long (lZ ab))]) hx hb dX5_nextFactor_3 hl (by decide) rfl (fun ls hl => ?_)
  refine lv_iconst (v := iZ 0) hx hb dX5_nextFactor_5 rfl ?_
  refine lv_istore (lv' := [(6, .int (iZ 0)), (4, .long (lZ (-1))), (0, .ref h0), (1, .int (iZ ct)), (2, .long (lZ ab))]) hx hb dX5_nextFactor_6 hl (by decide) rfl (fun ls hl => ?_)
  refine z_loop2 (nL := 9) (fun (le : Int) (i : Int) => [(0, .ref h0), (1, .int (iZ ct)), (2, .long (lZ ab)), (4, .long (lZ le)), (6, .int (iZ i))]) (fun (le : Int) (i : Int) => (0 ≤ i ∧ (i ≤ n - ct + 1 ∨ i = 0)) ∧ (le = nxt (fun k => fct b n k ct) ab i) ∧ (-1 ≤ le ∧ le < 2305843009213693953)) (fun (le : Int) (i : Int) => n - ct + 1 - i) (a1 := (-1)) (a2 := 0) ⟨(by omega), ((it_0 (Int.le_refl 0)).symm), (by omega)⟩ (lv_sub hl [2, 3, 4, 1, 0] rfl) ?_
  rintro le i ⟨i1, i2, i3⟩ ih_8 ls hl
  have hfi := hf i
  refine lv_iload hx hb dX5_nextFactor_8 (lv_at hl 4 rfl) ?_
  refine lv_aload_n hx hb dX5_nextFactor_10 rfl (lv_at hl 0 rfl) ?_
  refine va_get (D := G) (ci := 4) (v := .int (iZ n)) (C := RX5) (T := TX5) (N := 2) hx hb hts (by decide +kernel) hown hK hP 0 rfl rfl 1 (by decide) (hts (.fieldLink RX5 15 "SturmianWords$Word" "size" "I") (by decide +kernel)) (fun _ h9 => h9) rfl dX5_nextFactor_11 ?_
  refine lv_iload_n hx hb dX5_nextFactor_14 rfl (lv_at hl 1 rfl) ?_
  refine z_isub hx hb dX5_nextFactor_15 ?_
  refine z_icmp_gt (tgt := 62) hx hb dX5_nextFactor_16 (by decide) (by omega) (fun c_16 => ?_) (fun c_16 => ?_)
  · refine lv_lload hx hb dX5_nextFactor_62 (lv_at hl 3 rfl) ?_
    exact z_lretP hx hb hr hlocks dX5_nextFactor_64 (by rw [i2]; rcases (show i = n - ct + 1 ∨ n - ct + 1 ≤ 0 ∧ i = 0 by omega) with q | ⟨q, q2⟩; (· rw [q]); (· rw [q2]; unfold nxt; rw [it_0 (Int.le_refl 0), it_0 q]))
  · refine lv_aload_n hx hb dX5_nextFactor_19 rfl (lv_at hl 0 rfl) ?_
    refine lv_iload hx hb dX5_nextFactor_20 (lv_at hl 4 rfl) ?_
    refine lv_iload_n hx hb dX5_nextFactor_22 rfl (lv_at hl 1 rfl) ?_
    refine z_calll (va_runV (As := [.int (iZ i), .int (iZ ct)]) (rest := []) ⟨hx, hb, hml, hown, hts⟩ (c_X5_factor lau G cy h0 b n i ct (by omega) (by omega) (by omega) (by omega) (by omega)) (cwV 2 hts gX5_nextFactor_X5_factor rfl rfl rfl (by decide +kernel) ⟨Nat.le_of_ble_eq_true rfl, Nat.le_of_ble_eq_true rfl⟩) ⟨P1_blind, va_recv hK hP (ci := 4) (q0 := 0) rfl rfl, P1_mk hKK (hP.sub [0] rfl)⟩ rfl rfl hl.1 rfl (lv_room (Nat.le_of_ble_eq_true rfl)) dX5_nextFactor_23 ⟨Nat.le_refl 0, Nat.le_refl 0⟩) ?_
    refine lv_lstore (lv' := [(7, .long (lZ (fct b n i ct))), (0, .ref h0), (1, .int (iZ ct)), (2, .long (lZ ab)), (4, .long (lZ le)), (6, .int (iZ i))]) hx hb dX5_nextFactor_26 hl (by decide) rfl (fun ls hl => ?_)
    refine lv_lload hx hb dX5_nextFactor_28 (lv_at hl 0 rfl) ?_
    refine lv_lload_n hx hb dX5_nextFactor_30 rfl (lv_at hl 3 rfl) ?_
    refine z_lcmp hx hb dX5_nextFactor_31 (by omega) (fun cm31 hcm31 => ?_)
    refine z_if_le (tgt := 56) hx hb dX5_nextFactor_32 (by decide) (by omega) (fun c_32 => ?_) (fun c_32 => ?_)
    · refine lv_iinc (v := iZ (i + 1)) (lv' := [(6, .int (iZ (i + 1))), (7, .long (lZ (fct b n i ct))), (0, .ref h0), (1, .int (iZ ct)), (2, .long (lZ ab)), (4, .long (lZ le))]) hx hb dX5_nextFactor_56 hl (k := 5) rfl (iZ_add _ _) (by decide) rfl (fun ls hl => ?_)
      refine lv_goto (tgt := 8) hx hb dX5_nextFactor_59 (by decide) ?_
      exact ih_8 le (i + 1) ⟨(by omega), (nxt_step i1.1 i2 (by omega)), (by omega)⟩ ⟨by omega, by omega⟩ _ (lv_sub hl [2, 3, 4, 5, 0] rfl)
    · refine lv_lload hx hb dX5_nextFactor_35 (lv_at hl 4 rfl) ?_
      refine lv_ldc2 (v := lZ (-1)) hx hb hown (hts (.constantLong RX5 36 (lZ (-1))) (by decide +kernel)) dX5_nextFactor_37 ?_
      refine z_lcmp hx hb dX5_nextFactor_40 (by omega) (fun cm40 hcm40 => ?_)
      refine z_if_eq (tgt := 52) hx hb dX5_nextFactor_41 (by decide) (by omega) (fun c_41 => ?_) (fun c_41 => ?_)
      · refine lv_lload hx hb dX5_nextFactor_52 (lv_at hl 0 rfl) ?_
        refine z_topel (fun x54_1 ex54_1 => ?_)
        refine lv_lstore (lv' := [(4, .long (lZ x54_1)), (7, .long (lZ (fct b n i ct))), (0, .ref h0), (1, .int (iZ ct)), (2, .long (lZ ab)), (6, .int (iZ i))]) hx hb dX5_nextFactor_54 hl (by decide) rfl (fun ls hl => ?_)
        refine lv_iinc (v := iZ (i + 1)) (lv' := [(6, .int (iZ (i + 1))), (4, .long (lZ x54_1)), (7, .long (lZ (fct b n i ct))), (0, .ref h0), (1, .int (iZ ct)), (2, .long (lZ ab))]) hx hb dX5_nextFactor_56 hl (k := 5) rfl (iZ_add _ _) (by decide) rfl (fun ls hl => ?_)
        refine lv_goto (tgt := 8) hx hb dX5_nextFactor_59 (by decide) ?_
        exact ih_8 x54_1 (i + 1) ⟨(by omega), (nxt_step i1.1 i2 (by omega)), (by omega)⟩ ⟨by omega, by omega⟩ _ (lv_sub hl [3, 4, 5, 1, 0] rfl)
      · refine lv_lload hx hb dX5_nextFactor_44 (lv_at hl 0 rfl) ?_
        refine lv_lload hx hb dX5_nextFactor_46 (lv_at hl 4 rfl) ?_
        refine z_lcmp hx hb dX5_nextFactor_48 (by omega) (fun cm48 hcm48 => ?_)
        refine z_if_ge (tgt := 56) hx hb dX5_nextFactor_49 (by decide) (by omega) (fun c_49 => ?_) (fun c_49 => ?_)
        · refine lv_iinc (v := iZ (i + 1)) (lv' := [(6, .int (iZ (i + 1))), (7, .long (lZ (fct b n i ct))), (0, .ref h0), (1, .int (iZ ct)), (2, .long (lZ ab)), (4, .long (lZ le))]) hx hb dX5_nextFactor_56 hl (k := 5) rfl (iZ_add _ _) (by decide) rfl (fun ls hl => ?_)
          refine lv_goto (tgt := 8) hx hb dX5_nextFactor_59 (by decide) ?_
          exact ih_8 le (i + 1) ⟨(by omega), (nxt_step i1.1 i2 (by omega)), (by omega)⟩ ⟨by omega, by omega⟩ _ (lv_sub hl [2, 3, 4, 5, 0] rfl)
        · refine lv_lload hx hb dX5_nextFactor_52 (lv_at hl 0 rfl) ?_
          refine z_topel (fun x54_2 ex54_2 => ?_)
          refine lv_lstore (lv' := [(4, .long (lZ x54_2)), (7, .long (lZ (fct b n i ct))), (0, .ref h0), (1, .int (iZ ct)), (2, .long (lZ ab)), (6, .int (iZ i))]) hx hb dX5_nextFactor_54 hl (by decide) rfl (fun ls hl => ?_)
          refine lv_iinc (v := iZ (i + 1)) (lv' := [(6, .int (iZ (i + 1))), (4, .long (lZ x54_2)), (7, .long (lZ (fct b n i ct))), (0, .ref h0), (1, .int (iZ ct)), (2, .long (lZ ab))]) hx hb dX5_nextFactor_56 hl (k := 5) rfl (iZ_add _ _) (by decide) rfl (fun ls hl => ?_)
          refine lv_goto (tgt := 8) hx hb dX5_nextFactor_59 (by decide) ?_
          exact ih_8 x54_2 (i + 1) ⟨(by omega), (nxt_step i1.1 i2 (by omega)), (by omega)⟩ ⟨by omega, by omega⟩ _ (lv_sub hl [3, 4, 5, 1, 0] rfl)
set_option maxHeartbeats 4000000 in
set_option maxRecDepth 100000 in
theorem c_X5_isPalindrome (lau : Launch) (G : va_G) (cy : Nat → ClassId) (h0 h1 : Nat) (b n st ct b2 : Int) (hn : 0 ≤ n ∧ n ≤ 60) (hb2 : 0 ≤ b ∧ b < 2305843009213693952) (hb3 : 0 ≤ b2 ∧ b2 < 2305843009213693952) (h3 : 0 ≤ st) (h4 : 0 ≤ ct) (h5 : st + ct ≤ n) : Met lau yX5_isPalindrome wsX5_isPalindrome ({ frames := 1, cells := 0, slots := 0, locals := 22 }) (P1 G cy [.ref h0, .int (iZ st), .int (iZ ct), .ref h1] (fun H => va_P G vwCl [(h0, .inr (4, [.long (lZ b), .int (iZ n)])), (h1, .inr (4, [.long (lZ b2), .int (iZ n)]))] H)) (vp_Si (fun r => r = iZ (bv (fct b n st ct = fct b2 n (n - st - ct) ct)))) 0 0 (fun _ => False) := by
  refine z_head (lv := [(0, .ref h0), (1, .int (iZ st)), (2, .int (iZ ct)), (3, .ref h1)]) RX5 (by decide) rfl rfl (Nat.le_of_ble_eq_true rfl) rfl ?_
  intro pr ev s mt below meth cd ls hx hb hr hlocks hml hown hname hts hKK hP hl
  have hK := hKK.1
  have hP : va_P G vwCl [(h0, .inr (4, [.long (lZ b), .int (iZ n)])), (h1, .inr (4, [.long (lZ b2), .int (iZ n)]))] s.heap := hP
  have hf1 := fct_b (b := b) (n := n) (st := st) (show ct ≤ 61 by omega)
  have hf2 := fct_b (b := b2) (n := n) (st := n - st - ct) (show ct ≤ 61 by omega)
  refine lv_aload_n hx hb dX5_isPalindrome_0 rfl (lv_at hl 0 rfl) ?_
  refine lv_iload_n hx hb dX5_isPalindrome_1 rfl (lv_at hl 1 rfl) ?_
  refine lv_iload_n hx hb dX5_isPalindrome_2 rfl (lv_at hl 2 rfl) ?_
  refine z_calll (va_runV (As := [.int (iZ st), .int (iZ ct)]) (rest := []) ⟨hx, hb, hml, hown, hts⟩ (c_X5_factor lau G cy h0 b n st ct (by omega) (by omega) (by omega) (by omega) (by omega)) (cwV 2 hts gX5_isPalindrome_X5_factor rfl rfl rfl (by decide +kernel) ⟨Nat.le_of_ble_eq_true rfl, Nat.le_of_ble_eq_true rfl⟩) ⟨P1_blind, va_recv hK hP (ci := 4) (q0 := 0) rfl rfl, P1_mk hKK (hP.sub [0] rfl)⟩ rfl rfl hl.1 rfl (lv_room (Nat.le_of_ble_eq_true rfl)) dX5_isPalindrome_3 ⟨Nat.le_refl 0, Nat.le_refl 0⟩) ?_
  refine lv_aload_n hx hb dX5_isPalindrome_6 rfl (lv_at hl 3 rfl) ?_
  refine lv_aload_n hx hb dX5_isPalindrome_7 rfl (lv_at hl 0 rfl) ?_
  refine va_get (D := G) (ci := 4) (v := .int (iZ n)) (C := RX5) (T := TX5) (N := 2) hx hb hts (by decide +kernel) hown hK hP 0 rfl rfl 1 (by decide) (hts (.fieldLink RX5 15 "SturmianWords$Word" "size" "I") (by decide +kernel)) (fun _ h9 => h9) rfl dX5_isPalindrome_8 ?_
  refine lv_iload_n hx hb dX5_isPalindrome_11 rfl (lv_at hl 1 rfl) ?_
  refine z_isub hx hb dX5_isPalindrome_12 ?_
  refine lv_iload_n hx hb dX5_isPalindrome_13 rfl (lv_at hl 2 rfl) ?_
  refine z_isub hx hb dX5_isPalindrome_14 ?_
  refine lv_iload_n hx hb dX5_isPalindrome_15 rfl (lv_at hl 2 rfl) ?_
  refine z_calll (va_runV (As := [.int (iZ ((n - st) - ct)), .int (iZ ct)]) (rest := [.long (lZ (fct b n st ct))]) ⟨hx, hb, hml, hown, hts⟩ (c_X5_factor lau G cy h1 b2 n ((n - st) - ct) ct (by omega) (by omega) (by omega) (by omega) (by omega)) (cwV 2 hts gX5_isPalindrome_X5_factor rfl rfl rfl (by decide +kernel) ⟨Nat.le_of_ble_eq_true rfl, Nat.le_of_ble_eq_true rfl⟩) ⟨P1_blind, va_recv hK hP (ci := 4) (q0 := 1) rfl rfl, P1_mk hKK (hP.sub [1] rfl)⟩ rfl rfl hl.1 rfl (lv_room (Nat.le_of_ble_eq_true rfl)) dX5_isPalindrome_16 ⟨Nat.le_refl 0, Nat.le_refl 0⟩) ?_
  refine z_lcmp hx hb dX5_isPalindrome_19 (by omega) (fun cm19 hcm19 => ?_)
  refine z_if_ne (tgt := 27) hx hb dX5_isPalindrome_20 (by decide) (by omega) (fun c_20 => ?_) (fun c_20 => ?_)
  · refine lv_iconst (v := iZ 0) hx hb dX5_isPalindrome_27 rfl ?_
    exact z_zretP hx hb hr hlocks dX5_isPalindrome_28 ((bv_f (by omega)).symm)
  · refine lv_iconst (v := iZ 1) hx hb dX5_isPalindrome_23 rfl ?_
    refine lv_goto (tgt := 28) hx hb dX5_isPalindrome_24 (by decide) ?_
    exact z_zretP hx hb hr hlocks dX5_isPalindrome_28 ((bv_t (by omega)).symm)
set_option maxHeartbeats 4000000 in
set_option maxRecDepth 100000 in
theorem c_X5_hasPeriod (lau : Launch) (G : va_G) (cy : Nat → ClassId) (h0 : Nat) (b n sh : Int) (hn : 0 ≤ n ∧ n ≤ 60) (hb2 : 0 ≤ b ∧ b < 2305843009213693952) (h1 : 0 < sh ∧ sh < 2147483648) : Met lau yX5_hasPeriod wsX5_hasPeriod ({ frames := 1, cells := 0, slots := 0, locals := 22 }) (P1 G cy [.ref h0, .int (iZ sh)] (fun H => va_P G vwCl [(h0, .inr (4, [.long (lZ b), .int (iZ n)]))] H)) (vp_Si (fun r => r = iZ (bv (n < sh ∨ fct b n 0 (n - sh) = fct b n sh (n - sh))))) 0 0 (fun _ => False) := by
  refine z_head (lv := [(0, .ref h0), (1, .int (iZ sh))]) RX5 (by decide) rfl rfl (Nat.le_of_ble_eq_true rfl) rfl ?_
  intro pr ev s mt below meth cd ls hx hb hr hlocks hml hown hname hts hKK hP hl
  have hK := hKK.1
  have hP : va_P G vwCl [(h0, .inr (4, [.long (lZ b), .int (iZ n)]))] s.heap := hP
  have hf1 := fct_b (b := b) (n := n) (st := 0) (show n - sh ≤ 61 by omega)
  have hf2 := fct_b (b := b) (n := n) (st := sh) (show n - sh ≤ 61 by omega)
  refine lv_iload_n hx hb dX5_hasPeriod_0 rfl (lv_at hl 1 rfl) ?_
  refine lv_aload_n hx hb dX5_hasPeriod_1 rfl (lv_at hl 0 rfl) ?_
  refine va_get (D := G) (ci := 4) (v := .int (iZ n)) (C := RX5) (T := TX5) (N := 2) hx hb hts (by decide +kernel) hown hK hP 0 rfl rfl 1 (by decide) (hts (.fieldLink RX5 15 "SturmianWords$Word" "size" "I") (by decide +kernel)) (fun _ h9 => h9) rfl dX5_hasPeriod_2 ?_
  refine z_icmp_gt (tgt := 34) hx hb dX5_hasPeriod_5 (by decide) (by omega) (fun c_5 => ?_) (fun c_5 => ?_)
  · refine lv_iconst (v := iZ 1) hx hb dX5_hasPeriod_34 rfl ?_
    refine lv_goto (tgt := 39) hx hb dX5_hasPeriod_35 (by decide) ?_
    exact z_zretP hx hb hr hlocks dX5_hasPeriod_39 ((bv_t (by omega)).symm)
  · refine lv_aload_n hx hb dX5_hasPeriod_8 rfl (lv_at hl 0 rfl) ?_
    refine lv_iconst (v := iZ 0) hx hb dX5_hasPeriod_9 rfl ?_
    refine lv_aload_n hx hb dX5_hasPeriod_10 rfl (lv_at hl 0 rfl) ?_
    refine va_get (D := G) (ci := 4) (v := .int (iZ n)) (C := RX5) (T := TX5) (N := 2) hx hb hts (by decide +kernel) hown hK hP 0 rfl rfl 1 (by decide) (hts (.fieldLink RX5 15 "SturmianWords$Word" "size" "I") (by decide +kernel)) (fun _ h9 => h9) rfl dX5_hasPeriod_11 ?_
    refine lv_iload_n hx hb dX5_hasPeriod_14 rfl (lv_at hl 1 rfl) ?_
    refine z_isub hx hb dX5_hasPeriod_15 ?_
    refine z_calll (va_runV (As := [.int (iZ 0), .int (iZ (n - sh))]) (rest := []) ⟨hx, hb, hml, hown, hts⟩ (c_X5_factor lau G cy h0 b n 0 (n - sh) (by omega) (by omega) (by omega) (by omega) (by omega)) (cwV 2 hts gX5_hasPeriod_X5_factor rfl rfl rfl (by decide +kernel) ⟨Nat.le_of_ble_eq_true rfl, Nat.le_of_ble_eq_true rfl⟩) ⟨P1_blind, va_recv hK hP (ci := 4) (q0 := 0) rfl rfl, P1_mk hKK (hP.sub [0] rfl)⟩ rfl rfl hl.1 rfl (lv_room (Nat.le_of_ble_eq_true rfl)) dX5_hasPeriod_16 ⟨Nat.le_refl 0, Nat.le_refl 0⟩) ?_
    refine lv_aload_n hx hb dX5_hasPeriod_19 rfl (lv_at hl 0 rfl) ?_
    refine lv_iload_n hx hb dX5_hasPeriod_20 rfl (lv_at hl 1 rfl) ?_
    refine lv_aload_n hx hb dX5_hasPeriod_21 rfl (lv_at hl 0 rfl) ?_
    refine va_get (D := G) (ci := 4) (v := .int (iZ n)) (C := RX5) (T := TX5) (N := 2) hx hb hts (by decide +kernel) hown hK hP 0 rfl rfl 1 (by decide) (hts (.fieldLink RX5 15 "SturmianWords$Word" "size" "I") (by decide +kernel)) (fun _ h9 => h9) rfl dX5_hasPeriod_22 ?_
    refine lv_iload_n hx hb dX5_hasPeriod_25 rfl (lv_at hl 1 rfl) ?_
    refine z_isub hx hb dX5_hasPeriod_26 ?_
    refine z_calll (va_runV (As := [.int (iZ sh), .int (iZ (n - sh))]) (rest := [.long (lZ (fct b n 0 (n - sh)))]) ⟨hx, hb, hml, hown, hts⟩ (c_X5_factor lau G cy h0 b n sh (n - sh) (by omega) (by omega) (by omega) (by omega) (by omega)) (cwV 2 hts gX5_hasPeriod_X5_factor rfl rfl rfl (by decide +kernel) ⟨Nat.le_of_ble_eq_true rfl, Nat.le_of_ble_eq_true rfl⟩) ⟨P1_blind, va_recv hK hP (ci := 4) (q0 := 0) rfl rfl, P1_mk hKK (hP.sub [0] rfl)⟩ rfl rfl hl.1 rfl (lv_room (Nat.le_of_ble_eq_true rfl)) dX5_hasPeriod_27 ⟨Nat.le_refl 0, Nat.le_refl 0⟩) ?_
    refine z_lcmp hx hb dX5_hasPeriod_30 (by omega) (fun cm30 hcm30 => ?_)
    refine z_if_ne (tgt := 38) hx hb dX5_hasPeriod_31 (by decide) (by omega) (fun c_31 => ?_) (fun c_31 => ?_)
    · refine lv_iconst (v := iZ 0) hx hb dX5_hasPeriod_38 rfl ?_
      exact z_zretP hx hb hr hlocks dX5_hasPeriod_39 ((bv_f (by omega)).symm)
    · refine lv_iconst (v := iZ 1) hx hb dX5_hasPeriod_34 rfl ?_
      refine lv_goto (tgt := 39) hx hb dX5_hasPeriod_35 (by decide) ?_
      exact z_zretP hx hb hr hlocks dX5_hasPeriod_39 ((bv_t (by omega)).symm)
set_option maxHeartbeats 4000000 in
set_option maxRecDepth 100000 in
theorem c_X5_listedFactor (lau : Launch) (G : va_G) (cy : Nat → ClassId) (h0 : Nat) (b n ct ix : Int) (hn : 0 ≤ n ∧ n ≤ 60) (hb2 : 0 ≤ b ∧ b < 2305843009213693952) (h2 : 1 ≤ ct ∧ ct ≤ 60) (h3 : 0 ≤ ix ∧ ix < 2147483648) : Met lau yX5_listedFactor wsX5_listedFactor ({ frames := 2, cells := 0, slots := 0, locals := 50 }) (P1 G cy [.ref h0, .int (iZ ct), .int (iZ ix)] (fun H => va_P G vwCl [(h0, .inr (4, [.long (lZ b), .int (iZ n)]))] H)) (vp_Sl (fun r => r = lZ (if n ≤ ix then -1 else lstF (fun k => fct b n k ct) (n - ct + 1) ix))) 0 0 (fun _ => False) := by
  refine z_head (lv := [(0, .ref h0), (1, .int (iZ ct)), (2, .int (iZ ix))]) RX5 (by decide) rfl rfl (Nat.le_of_ble_eq_true rfl) rfl ?_
  intro pr ev s mt below meth cd ls hx hb hr hlocks hml hown hname hts hKK hP hl
  have hK := hKK.1
  have hP : va_P G vwCl [(h0, .inr (4, [.long (lZ b), .int (iZ n)]))] s.heap := hP
  have hx9 := fun a N => nxt_b (f := fun k => fct b n k ct) (a := a) (N := N) (M := 2305843009213693953) (by decide) (fun k => by have := fct_b (b := b) (n := n) (st := k) (show ct ≤ 61 by omega); omega)
  have hx8 := hx9 (-1) (n - ct + 1)
  refine lv_iload_n hx hb dX5_listedFactor_0 rfl (lv_at hl 2 rfl) ?_
  refine lv_aload_n hx hb dX5_listedFactor_1 rfl (lv_at hl 0 rfl) ?_
  refine va_get (D := G) (ci := 4) (v := .int (iZ n)) (C := RX5) (T := TX5) (N := 2) hx hb hts (by decide +kernel) hown hK hP 0 rfl rfl 1 (by decide) (hts (.fieldLink RX5 15 "SturmianWords$Word" "size" "I") (by decide +kernel)) (fun _ h9 => h9) rfl dX5_listedFactor_2 ?_
  refine z_icmp_lt (tgt := 12) hx hb dX5_listedFactor_5 (by decide) (by omega) (fun c_5 => ?_) (fun c_5 => ?_)
  · refine lv_aload_n hx hb dX5_listedFactor_12 rfl (lv_at hl 0 rfl) ?_
    refine lv_iload_n hx hb dX5_listedFactor_13 rfl (lv_at hl 1 rfl) ?_
    refine lv_ldc2 (v := lZ (-1)) hx hb hown (hts (.constantLong RX5 36 (lZ (-1))) (by decide +kernel)) dX5_listedFactor_14 ?_
    refine z_calll (va_runV (As := [.int (iZ ct), .long (lZ (-1))]) (rest := []) ⟨hx, hb, hml, hown, hts⟩ (c_X5_nextFactor lau G cy h0 b n ct (-1) (by omega) (by omega) (by omega) (by omega)) (cwV 2 hts gX5_listedFactor_X5_nextFactor rfl rfl rfl (by decide +kernel) ⟨Nat.le_of_ble_eq_true rfl, Nat.le_of_ble_eq_true rfl⟩) ⟨P1_blind, va_recv hK hP (ci := 4) (q0 := 0) rfl rfl, P1_mk hKK (hP.sub [0] rfl)⟩ rfl rfl hl.1 rfl (lv_room (Nat.le_of_ble_eq_true rfl)) dX5_listedFactor_17 ⟨Nat.le_refl 0, Nat.le_refl 0⟩) ?_
    refine lv_lstore_n (lv' := [(3, .long (lZ (nxt (fun k => fct b n k ct) (-1) (n - ct + 1)))), (0, .ref h0), (1, .int (iZ ct)), (2, .int (iZ ix))]) hx hb dX5_listedFactor_20 rfl hl (by decide) rfl (fun ls hl => ?_)
    refine lv_iconst (v := iZ 0) hx hb dX5_listedFactor_21 rfl ?_
    refine lv_istore (lv' := [(5, .int (iZ 0)), (3, .long (lZ (nxt (fun k => fct b n k ct) (-1) (n - ct + 1)))), (0, .ref h0), (1, .int (iZ ct)), (2, .int (iZ ix))]) hx hb dX5_listedFactor_22 hl (by decide) rfl (fun ls hl => ?_)
    refine z_loop2 (nL := 6) (fun (fa : Int) (i : Int) => [(0, .ref h0), (1, .int (iZ ct)), (2, .int (iZ ix)), (3, .long (lZ fa)), (5, .int (iZ i))]) (fun (fa : Int) (i : Int) => (0 ≤ i ∧ i ≤ ix) ∧ (fa = lstF (fun k => fct b n k ct) (n - ct + 1) i) ∧ (-1 ≤ fa ∧ fa < 2305843009213693953)) (fun (fa : Int) (i : Int) => ix - i) (a1 := (nxt (fun k => fct b n k ct) (-1) (n - ct + 1))) (a2 := 0) ⟨(by omega), ((it_0 (Int.le_refl 0)).symm), (hx8)⟩ (lv_sub hl [2, 3, 4, 1, 0] rfl) ?_
    rintro fa i ⟨i1, i2, i3⟩ ih_24 ls hl
    refine lv_iload hx hb dX5_listedFactor_24 (lv_at hl 4 rfl) ?_
    refine lv_iload_n hx hb dX5_listedFactor_26 rfl (lv_at hl 2 rfl) ?_
    refine z_icmp_ge (tgt := 51) hx hb dX5_listedFactor_27 (by decide) (by omega) (fun c_27 => ?_) (fun c_27 => ?_)
    · refine lv_lload_n hx hb dX5_listedFactor_51 rfl (lv_at hl 3 rfl) ?_
      exact z_lretP hx hb hr hlocks dX5_listedFactor_52 (by rw [if_neg (by omega), i2, show i = ix by omega])
    · refine lv_lload_n hx hb dX5_listedFactor_30 rfl (lv_at hl 3 rfl) ?_
      refine lv_ldc2 (v := lZ (-1)) hx hb hown (hts (.constantLong RX5 36 (lZ (-1))) (by decide +kernel)) dX5_listedFactor_31 ?_
      refine z_lcmp hx hb dX5_listedFactor_34 (by omega) (fun cm34 hcm34 => ?_)
      refine z_if_eq (tgt := 51) hx hb dX5_listedFactor_35 (by decide) (by omega) (fun c_35 => ?_) (fun c_35 => ?_)
      · refine lv_lload_n hx hb dX5_listedFactor_51 rfl (lv_at hl 3 rfl) ?_
        exact z_lretP hx hb hr hlocks dX5_listedFactor_52 (by rw [if_neg (by omega), lstF_m i1.1 (by omega) (show i ≤ ix by omega)]; omega)
      · refine lv_aload_n hx hb dX5_listedFactor_38 rfl (lv_at hl 0 rfl) ?_
        refine lv_iload_n hx hb dX5_listedFactor_39 rfl (lv_at hl 1 rfl) ?_
        refine lv_lload_n hx hb dX5_listedFactor_40 rfl (lv_at hl 3 rfl) ?_
        refine z_calll (va_runV (As := [.int (iZ ct), .long (lZ fa)]) (rest := []) ⟨hx, hb, hml, hown, hts⟩ (c_X5_nextFactor lau G cy h0 b n ct fa (by omega) (by omega) (by omega) (by omega)) (cwV 2 hts gX5_listedFactor_X5_nextFactor rfl rfl rfl (by decide +kernel) ⟨Nat.le_of_ble_eq_true rfl, Nat.le_of_ble_eq_true rfl⟩) ⟨P1_blind, va_recv hK hP (ci := 4) (q0 := 0) rfl rfl, P1_mk hKK (hP.sub [0] rfl)⟩ rfl rfl hl.1 rfl (lv_room (Nat.le_of_ble_eq_true rfl)) dX5_listedFactor_41 ⟨Nat.le_refl 0, Nat.le_refl 0⟩) ?_
        refine lv_lstore_n (lv' := [(3, .long (lZ (nxt (fun k => fct b n k ct) fa (n - ct + 1)))), (0, .ref h0), (1, .int (iZ ct)), (2, .int (iZ ix)), (5, .int (iZ i))]) hx hb dX5_listedFactor_44 rfl hl (by decide) rfl (fun ls hl => ?_)
        refine lv_iinc (v := iZ (i + 1)) (lv' := [(5, .int (iZ (i + 1))), (3, .long (lZ (nxt (fun k => fct b n k ct) fa (n - ct + 1)))), (0, .ref h0), (1, .int (iZ ct)), (2, .int (iZ ix))]) hx hb dX5_listedFactor_45 hl (k := 4) rfl (iZ_add _ _) (by decide) rfl (fun ls hl => ?_)
        refine lv_goto (tgt := 24) hx hb dX5_listedFactor_48 (by decide) ?_
        exact ih_24 (nxt (fun k => fct b n k ct) fa (n - ct + 1)) (i + 1) ⟨(by omega), (lst_step i1.1 i2 (by omega)), (hx9 fa _)⟩ ⟨by omega, by omega⟩ _ (lv_sub hl [2, 3, 4, 1, 0] rfl)
  · refine lv_ldc2 (v := lZ (-1)) hx hb hown (hts (.constantLong RX5 36 (lZ (-1))) (by decide +kernel)) dX5_listedFactor_8 ?_
    exact z_lretP hx hb hr hlocks dX5_listedFactor_11 (by rw [if_pos (by omega)])
