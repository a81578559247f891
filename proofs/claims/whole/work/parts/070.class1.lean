set_option maxHeartbeats 4000000 in
set_option maxRecDepth 100000 in
theorem c_X5_ones (lau : Launch) (G : va_G) (cy : Nat → ClassId) (h0 : Nat) (b n : Int) (hn : 0 ≤ n ∧ n ≤ 60) (hb2 : 0 ≤ b ∧ b < 2305843009213693952) : Met lau yX5_ones wsX5_ones ({ frames := 1, cells := 0, slots := 0, locals := 21 }) (P1 G cy [.ref h0] (fun H => va_P G vwCl [(h0, .inr (4, [.long (lZ b), .int (iZ n)]))] H)) (vp_Si (fun r => r = iZ (ons b))) 0 0 (fun _ => False) := by
  refine z_head (lv := [(0, .ref h0)]) RX5 (by decide) rfl rfl (Nat.le_of_ble_eq_true rfl) rfl ?_
  intro pr ev s mt below meth cd ls hx hb hr hlocks hml hown hname hts hKK hP hl
  have hK := hKK.1
  have hP : va_P G vwCl [(h0, .inr (4, [.long (lZ b), .int (iZ n)]))] s.heap := hP
  refine lv_aload_n hx hb dX5_ones_0 rfl (lv_at hl 0 rfl) ?_
  refine va_get (D := G) (ci := 4) (v := .long (lZ b)) (C := RX5) (T := TX5) (N := 2) hx hb hts (by decide +kernel) hown hK hP 0 rfl rfl 0 (by decide) (hts (.fieldLink RX5 9 "SturmianWords$Word" "bits" "J") (by decide +kernel)) (fun _ h9 => h9) rfl dX5_ones_1 ?_
  refine z_calli (va_runS (As := [.long (lZ b)]) (rest := []) ⟨hx, hb, hml, hown, hts⟩ (c_J13_bitCount_95d88 lau G cy b (by first | omega | assumption)) (va_cwS 1 hts gX5_ones_J13_bitCount_95d88 rfl rfl rfl (by decide +kernel) ⟨Nat.le_of_ble_eq_true rfl, Nat.le_of_ble_eq_true rfl⟩) ⟨P1_blind, P1_mk hKK (trivial)⟩ rfl rfl hl.1 rfl (lv_room (Nat.le_of_ble_eq_true rfl)) dX5_ones_4 ⟨Nat.le_refl 0, Nat.le_refl 0⟩) ?_
  exact z_iretP hx hb hr hlocks dX5_ones_7 (rfl)
set_option maxHeartbeats 4000000 in
set_option maxRecDepth 100000 in
theorem c_X5_weightSpread (lau : Launch) (G : va_G) (cy : Nat → ClassId) (h0 : Nat) (b n ct : Int) (hn : 0 ≤ n ∧ n ≤ 60) (hb2 : 0 ≤ b ∧ b < 2305843009213693952) (h2 : 0 ≤ ct ∧ ct ≤ 60) : Met lau yX5_weightSpread wsX5_weightSpread ({ frames := 1, cells := 0, slots := 0, locals := 22 }) (P1 G cy [.ref h0, .int (iZ ct)] (fun H => va_P G vwCl [(h0, .inr (4, [.long (lZ b), .int (iZ n)]))] H)) (vp_Si (fun r => r = iZ (mxC (fun a => ons (fct b n a ct)) (n - ct + 1) - mnC (fun a => ons (fct b n a ct)) ct (n - ct + 1)))) 0 0 (fun _ => False) := by
  refine z_head (lv := [(0, .ref h0), (1, .int (iZ ct))]) RX5 (by decide) rfl rfl (Nat.le_of_ble_eq_true rfl) rfl ?_
  intro pr ev s mt below meth cd ls hx hb hr hlocks hml hown hname hts hKK hP hl
  have hK := hKK.1
  have hP : va_P G vwCl [(h0, .inr (4, [.long (lZ b), .int (iZ n)]))] s.heap := hP
  have hf := fun k => fct_b (b := b) (n := n) (st := k) (show ct ≤ 61 by omega)
  refine lv_iload_n hx hb dX5_weightSpread_0 rfl (lv_at hl 1 rfl) ?_
  refine lv_istore_n (lv' := [(2, .int (iZ ct)), (0, .ref h0), (1, .int (iZ ct))]) hx hb dX5_weightSpread_1 rfl hl (by decide) rfl (fun ls hl => ?_)
  refine lv_iconst (v := iZ 0) hx hb dX5_weightSpread_2 rfl ?_
  refine lv_istore_n (lv' := [(3, .int (iZ 0)), (2, .int (iZ ct)), (0, .ref h0), (1, .int (iZ ct))]) hx hb dX5_weightSpread_3 rfl hl (by decide) rfl (fun ls hl => ?_)
  refine lv_iconst (v := iZ 0) hx hb dX5_weightSpread_4 rfl ?_
  refine lv_istore (lv' := [(4, .int (iZ 0)), (3, .int (iZ 0)), (2, .int (iZ ct)), (0, .ref h0), (1, .int (iZ ct))]) hx hb dX5_weightSpread_5 hl (by decide) rfl (fun ls hl => ?_)
  refine z_loop3 (nL := 6) (fun (le : Int) (mo : Int) (i : Int) => [(0, .ref h0), (1, .int (iZ ct)), (2, .int (iZ le)), (3, .int (iZ mo)), (4, .int (iZ i))]) (fun (le : Int) (mo : Int) (i : Int) => (0 ≤ i ∧ (i ≤ n - ct + 1 ∨ i = 0)) ∧ (le = mnC (fun a => ons (fct b n a ct)) ct i) ∧ (mo = mxC (fun a => ons (fct b n a ct)) i) ∧ (0 ≤ le ∧ le ≤ 64 ∧ 0 ≤ mo ∧ mo ≤ 64)) (fun (le : Int) (mo : Int) (i : Int) => n - ct + 1 - i) (a1 := ct) (a2 := 0) (a3 := 0) ⟨(by omega), ((it_0 (Int.le_refl 0)).symm), ((it_0 (Int.le_refl 0)).symm), (by omega)⟩ (lv_sub hl [3, 4, 2, 1, 0] rfl) ?_
  rintro le mo i ⟨i1, i2, i3, i4⟩ ih_7 ls hl
  have hfi := hf i
  have hoi := ons_r (fct b n i ct)
  refine lv_iload hx hb dX5_weightSpread_7 (lv_at hl 4 rfl) ?_
  refine lv_aload_n hx hb dX5_weightSpread_9 rfl (lv_at hl 0 rfl) ?_
  refine va_get (D := G) (ci := 4) (v := .int (iZ n)) (C := RX5) (T := TX5) (N := 2) hx hb hts (by decide +kernel) hown hK hP 0 rfl rfl 1 (by decide) (hts (.fieldLink RX5 15 "SturmianWords$Word" "size" "I") (by decide +kernel)) (fun _ h9 => h9) rfl dX5_weightSpread_10 ?_
  refine lv_iload_n hx hb dX5_weightSpread_13 rfl (lv_at hl 1 rfl) ?_
  refine z_isub hx hb dX5_weightSpread_14 ?_
  refine z_icmp_gt (tgt := 50) hx hb dX5_weightSpread_15 (by decide) (by omega) (fun c_15 => ?_) (fun c_15 => ?_)
  · refine lv_iload_n hx hb dX5_weightSpread_50 rfl (lv_at hl 3 rfl) ?_
    refine lv_iload_n hx hb dX5_weightSpread_51 rfl (lv_at hl 2 rfl) ?_
    refine z_isub hx hb dX5_weightSpread_52 ?_
    exact z_iretP hx hb hr hlocks dX5_weightSpread_53 (by rcases (show i = n - ct + 1 ∨ n - ct + 1 ≤ 0 ∧ i = 0 by omega) with q | ⟨q, q2⟩; (· rw [i2, i3, q]); (· rw [i2, i3, q2]; unfold mnC mxC; rw [it_0 (Int.le_refl 0), it_0 q, it_0 (Int.le_refl 0), it_0 q]))
  · refine lv_aload_n hx hb dX5_weightSpread_18 rfl (lv_at hl 0 rfl) ?_
    refine lv_iload hx hb dX5_weightSpread_19 (lv_at hl 4 rfl) ?_
    refine lv_iload_n hx hb dX5_weightSpread_21 rfl (lv_at hl 1 rfl) ?_
    refine z_calll (va_runV (As := [.int (iZ i), .int (iZ ct)]) (rest := []) ⟨hx, hb, hml, hown, hts⟩ (c_X5_factor lau G cy h0 b n i ct (by first | omega | assumption) (by first | omega | assumption) (by first | omega | assumption) (by first | omega | assumption) (by first | omega | assumption)) (cwV 2 hts gX5_weightSpread_X5_factor rfl rfl rfl (by decide +kernel) ⟨Nat.le_of_ble_eq_true rfl, Nat.le_of_ble_eq_true rfl⟩) ⟨P1_blind, va_recv hK hP (ci := 4) (q0 := 0) rfl rfl, P1_mk hKK (hP.sub [0] rfl)⟩ rfl rfl hl.1 rfl (lv_room (Nat.le_of_ble_eq_true rfl)) dX5_weightSpread_22 ⟨Nat.le_refl 0, Nat.le_refl 0⟩) ?_
    refine z_calli (va_runS (As := [.long (lZ (fct b n i ct))]) (rest := []) ⟨hx, hb, hml, hown, hts⟩ (c_J13_bitCount_95d88 lau G cy (fct b n i ct) (by first | omega | assumption)) (va_cwS 1 hts gX5_weightSpread_J13_bitCount_95d88 rfl rfl rfl (by decide +kernel) ⟨Nat.le_of_ble_eq_true rfl, Nat.le_of_ble_eq_true rfl⟩) ⟨P1_blind, P1_mk hKK (trivial)⟩ rfl rfl hl.1 rfl (lv_room (Nat.le_of_ble_eq_true rfl)) dX5_weightSpread_25 ⟨Nat.le_refl 0, Nat.le_refl 0⟩) ?_
    refine lv_istore (lv' := [(5, .int (iZ (ons (fct b n i ct)))), (0, .ref h0), (1, .int (iZ ct)), (2, .int (iZ le)), (3, .int (iZ mo)), (4, .int (iZ i))]) hx hb dX5_weightSpread_28 hl (by decide) rfl (fun ls hl => ?_)
    refine lv_iload_n hx hb dX5_weightSpread_30 rfl (lv_at hl 3 rfl) ?_
    refine lv_iload hx hb dX5_weightSpread_31 (lv_at hl 0 rfl) ?_
    refine z_mmin hx hb (by rw [hml]; exact hl.1.symm) hown (hts (.methodLink RX5 42 Lib.Math.min.name) (by decide +kernel)) (hts (.static Lib.Math.min.name) (by decide +kernel)) (hts (.initialized "java/lang/Math") (by decide +kernel)) (hts (.code Lib.Math.min.name Lib.Math.min.code 2 (some .int)) (by decide +kernel)) (Nat.le_of_ble_eq_true rfl) (Nat.le_of_ble_eq_true rfl) (Nat.zero_le _) (Nat.zero_le _) dX5_weightSpread_33 (by omega) (fun mm33 hmm33 => ?_)
    refine lv_istore_n (lv' := [(2, .int (iZ mm33)), (5, .int (iZ (ons (fct b n i ct)))), (0, .ref h0), (1, .int (iZ ct)), (3, .int (iZ mo)), (4, .int (iZ i))]) hx hb dX5_weightSpread_36 rfl hl (by decide) rfl (fun ls hl => ?_)
    refine lv_iload_n hx hb dX5_weightSpread_37 rfl (lv_at hl 4 rfl) ?_
    refine lv_iload hx hb dX5_weightSpread_38 (lv_at hl 1 rfl) ?_
    refine z_mmax hx hb (by rw [hml]; exact hl.1.symm) hown (hts (.methodLink RX5 48 Lib.Math.max.name) (by decide +kernel)) (hts (.static Lib.Math.max.name) (by decide +kernel)) (hts (.initialized "java/lang/Math") (by decide +kernel)) (hts (.code Lib.Math.max.name Lib.Math.max.code 2 (some .int)) (by decide +kernel)) (Nat.le_of_ble_eq_true rfl) (Nat.le_of_ble_eq_true rfl) (Nat.zero_le _) (Nat.zero_le _) dX5_weightSpread_40 (by omega) (fun mm40 hmm40 => ?_)
    refine lv_istore_n (lv' := [(3, .int (iZ mm40)), (2, .int (iZ mm33)), (5, .int (iZ (ons (fct b n i ct)))), (0, .ref h0), (1, .int (iZ ct)), (4, .int (iZ i))]) hx hb dX5_weightSpread_43 rfl hl (by decide) rfl (fun ls hl => ?_)
    refine lv_iinc (v := iZ (i + 1)) (lv' := [(4, .int (iZ (i + 1))), (3, .int (iZ mm40)), (2, .int (iZ mm33)), (5, .int (iZ (ons (fct b n i ct)))), (0, .ref h0), (1, .int (iZ ct))]) hx hb dX5_weightSpread_44 hl (k := 5) rfl (iZ_add _ _) (by decide) rfl (fun ls hl => ?_)
    refine lv_goto (tgt := 7) hx hb dX5_weightSpread_47 (by decide) ?_
    exact ih_7 mm33 mm40 (i + 1) ⟨(by omega), (mnC_s i1.1 i2 hmm33), (mxC_s i1.1 i3 hmm40), (by omega)⟩ ⟨by omega, by omega⟩ _ (lv_sub hl [4, 5, 2, 1, 0] rfl)
set_option maxHeartbeats 4000000 in
set_option maxRecDepth 100000 in
theorem c_X5_leastIntercept (lau : Launch) (G : va_G) (cy : Nat → ClassId) (h0 : Nat) (b n a q : Int) (hn : 0 ≤ n ∧ n ≤ 60) (hb2 : 0 ≤ b ∧ b < 2305843009213693952) (h1 : 0 ≤ a ∧ a ≤ q) (h2 : 1 ≤ q ∧ q ≤ 61) : Met lau yX5_leastIntercept wsX5_leastIntercept ({ frames := 2, cells := 0, slots := 0, locals := 43 }) (P1 G cy [.ref h0, .int (iZ a), .int (iZ q)] (fun H => va_P G vwCl [(h0, .inr (4, [.long (lZ b), .int (iZ n)]))] H)) (vp_Si (fun r => r = iZ (liR b n a q))) 0 0 (fun _ => False) := by
  refine z_head (lv := [(0, .ref h0), (1, .int (iZ a)), (2, .int (iZ q))]) RX5 (by decide) rfl rfl (Nat.le_of_ble_eq_true rfl) rfl ?_
  intro pr ev s mt below meth cd ls hx hb hr hlocks hml hown hname hts hKK hP hl
  have hK := hKK.1
  have hP : va_P G vwCl [(h0, .inr (4, [.long (lZ b), .int (iZ n)]))] s.heap := hP
  refine lv_iconst (v := iZ 0) hx hb dX5_leastIntercept_0 rfl ?_
  refine lv_istore_n (lv' := [(3, .int (iZ 0)), (0, .ref h0), (1, .int (iZ a)), (2, .int (iZ q))]) hx hb dX5_leastIntercept_1 rfl hl (by decide) rfl (fun ls hl => ?_)
  refine lv_iload_n hx hb dX5_leastIntercept_2 rfl (lv_at hl 3 rfl) ?_
  refine lv_iconst (v := iZ 1) hx hb dX5_leastIntercept_3 rfl ?_
  refine z_isub hx hb dX5_leastIntercept_4 ?_
  refine lv_istore (lv' := [(4, .int (iZ (q - 1))), (3, .int (iZ 0)), (0, .ref h0), (1, .int (iZ a)), (2, .int (iZ q))]) hx hb dX5_leastIntercept_5 hl (by decide) rfl (fun ls hl => ?_)
  refine lv_iconst (v := iZ 0) hx hb dX5_leastIntercept_7 rfl ?_
  refine lv_istore (lv' := [(5, .int (iZ 0)), (4, .int (iZ (q - 1))), (3, .int (iZ 0)), (0, .ref h0), (1, .int (iZ a)), (2, .int (iZ q))]) hx hb dX5_leastIntercept_8 hl (by decide) rfl (fun ls hl => ?_)
  refine lv_iconst (v := iZ 1) hx hb dX5_leastIntercept_10 rfl ?_
  refine lv_istore (lv' := [(6, .int (iZ 1)), (5, .int (iZ 0)), (4, .int (iZ (q - 1))), (3, .int (iZ 0)), (0, .ref h0), (1, .int (iZ a)), (2, .int (iZ q))]) hx hb dX5_leastIntercept_11 hl (by decide) rfl (fun ls hl => ?_)
  refine z_loop4 (nL := 8) (fun (le : Int) (mo : Int) (on : Int) (k : Int) => [(0, .ref h0), (1, .int (iZ a)), (2, .int (iZ q)), (3, .int (iZ le)), (4, .int (iZ mo)), (5, .int (iZ on)), (6, .int (iZ k))]) (fun (le : Int) (mo : Int) (on : Int) (k : Int) => (1 ≤ k ∧ k ≤ n + 1) ∧ (le = liL (ltr b n) a q (k - 1)) ∧ (mo = liH (ltr b n) a q (k - 1)) ∧ (on = sm (ltr b n) (k - 1)) ∧ (le ≤ mo) ∧ (0 ≤ on ∧ on ≤ k - 1) ∧ (0 ≤ le ∧ le ≤ 4000 ∧ mo ≤ 60)) (fun (le : Int) (mo : Int) (on : Int) (k : Int) => n + 1 - k) (a1 := 0) (a2 := (q - 1)) (a3 := 0) (a4 := 1) ⟨(by omega), ((it_0 (Int.le_refl 0)).symm), ((it_0 (Int.le_refl 0)).symm), ((sm_0 _).symm), (by omega), (by omega), (by omega)⟩ (lv_sub hl [4, 5, 6, 3, 2, 1, 0] rfl) ?_
  rintro le mo on k ⟨i1, i2, i3, i4, i5, i6, i7⟩ ih_13 ls hl
  refine lv_iload hx hb dX5_leastIntercept_13 (lv_at hl 6 rfl) ?_
  refine lv_aload_n hx hb dX5_leastIntercept_15 rfl (lv_at hl 0 rfl) ?_
  refine va_get (D := G) (ci := 4) (v := .int (iZ n)) (C := RX5) (T := TX5) (N := 2) hx hb hts (by decide +kernel) hown hK hP 0 rfl rfl 1 (by decide) (hts (.fieldLink RX5 15 "SturmianWords$Word" "size" "I") (by decide +kernel)) (fun _ h9 => h9) rfl dX5_leastIntercept_16 ?_
  refine z_icmp_gt (tgt := 80) hx hb dX5_leastIntercept_19 (by decide) (by omega) (fun c_19 => ?_) (fun c_19 => ?_)
  · refine lv_iload_n hx hb dX5_leastIntercept_80 rfl (lv_at hl 3 rfl) ?_
    exact z_iretP hx hb hr hlocks dX5_leastIntercept_81 (by rw [show k - 1 = n by omega] at i2 i3; unfold liR; rw [if_neg (by omega)]; exact i2)
  · refine lv_iload hx hb dX5_leastIntercept_22 (lv_at hl 5 rfl) ?_
    refine lv_aload_n hx hb dX5_leastIntercept_24 rfl (lv_at hl 0 rfl) ?_
    refine lv_iload hx hb dX5_leastIntercept_25 (lv_at hl 6 rfl) ?_
    refine lv_iconst (v := iZ 1) hx hb dX5_leastIntercept_27 rfl ?_
    refine z_isub hx hb dX5_leastIntercept_28 ?_
    refine z_calli (va_runV (As := [.int (iZ (k - 1))]) (rest := [.int (iZ on)]) ⟨hx, hb, hml, hown, hts⟩ (c_X5_letter lau G cy h0 b n (k - 1) (by first | omega | assumption) (by first | omega | assumption) (by first | omega | assumption)) (cwV 1 hts gX5_leastIntercept_X5_letter rfl rfl rfl (by decide +kernel) ⟨Nat.le_of_ble_eq_true rfl, Nat.le_of_ble_eq_true rfl⟩) ⟨P1_blind, va_recv hK hP (ci := 4) (q0 := 0) rfl rfl, P1_mk hKK (hP.sub [0] rfl)⟩ rfl rfl hl.1 rfl (lv_room (Nat.le_of_ble_eq_true rfl)) dX5_leastIntercept_29 ⟨Nat.le_refl 0, Nat.le_refl 0⟩) ?_
    refine z_iadd hx hb dX5_leastIntercept_32 ?_
    refine lv_istore (lv' := [(5, .int (iZ (on + (ltr b n (k - 1))))), (0, .ref h0), (1, .int (iZ a)), (2, .int (iZ q)), (3, .int (iZ le)), (4, .int (iZ mo)), (6, .int (iZ k))]) hx hb dX5_leastIntercept_33 hl (by decide) rfl (fun ls hl => ?_)
    have hlr := ltr_r b n (k - 1)
    have hm1 : 0 ≤ (on + ltr b n (k - 1)) * q := Int.mul_nonneg (by omega) (by omega)
    have hm2 : (on + ltr b n (k - 1)) * q ≤ 61 * 61 := Int.mul_le_mul (by omega) (by omega) (by omega) (by omega)
    have hm3 : 0 ≤ k * a := Int.mul_nonneg (by omega) (by omega)
    have hm4 : k * a ≤ 61 * 61 := Int.mul_le_mul (by omega) (by omega) (by omega) (by omega)
    have hlx : liX (ltr b n) a q (k - 1) = (on + ltr b n (k - 1)) * q - k * a := by unfold liX; rw [sm_s (by omega), ← i4, show k - 1 + 1 = k by omega]
    refine lv_iload hx hb dX5_leastIntercept_35 (lv_at hl 0 rfl) ?_
    refine lv_iload_n hx hb dX5_leastIntercept_37 rfl (lv_at hl 3 rfl) ?_
    refine z_imul hx hb dX5_leastIntercept_38 ?_
    refine lv_iload hx hb dX5_leastIntercept_39 (lv_at hl 6 rfl) ?_
    refine lv_iload_n hx hb dX5_leastIntercept_41 rfl (lv_at hl 2 rfl) ?_
    refine z_imul hx hb dX5_leastIntercept_42 ?_
    refine z_isub hx hb dX5_leastIntercept_43 ?_
    refine lv_istore (lv' := [(7, .int (iZ (((on + (ltr b n (k - 1))) * q) - (k * a)))), (5, .int (iZ (on + (ltr b n (k - 1))))), (0, .ref h0), (1, .int (iZ a)), (2, .int (iZ q)), (3, .int (iZ le)), (4, .int (iZ mo)), (6, .int (iZ k))]) hx hb dX5_leastIntercept_44 hl (by decide) rfl (fun ls hl => ?_)
    refine lv_iload_n hx hb dX5_leastIntercept_46 rfl (lv_at hl 5 rfl) ?_
    refine lv_iload hx hb dX5_leastIntercept_47 (lv_at hl 0 rfl) ?_
    refine z_mmax hx hb (by rw [hml]; exact hl.1.symm) hown (hts (.methodLink RX5 48 Lib.Math.max.name) (by decide +kernel)) (hts (.static Lib.Math.max.name) (by decide +kernel)) (hts (.initialized "java/lang/Math") (by decide +kernel)) (hts (.code Lib.Math.max.name Lib.Math.max.code 2 (some .int)) (by decide +kernel)) (Nat.le_of_ble_eq_true rfl) (Nat.le_of_ble_eq_true rfl) (Nat.zero_le _) (Nat.zero_le _) dX5_leastIntercept_49 (by omega) (fun mm49 hmm49 => ?_)
    refine lv_istore_n (lv' := [(3, .int (iZ mm49)), (7, .int (iZ (((on + (ltr b n (k - 1))) * q) - (k * a)))), (5, .int (iZ (on + (ltr b n (k - 1))))), (0, .ref h0), (1, .int (iZ a)), (2, .int (iZ q)), (4, .int (iZ mo)), (6, .int (iZ k))]) hx hb dX5_leastIntercept_52 rfl hl (by decide) rfl (fun ls hl => ?_)
    refine lv_iload hx hb dX5_leastIntercept_53 (lv_at hl 6 rfl) ?_
    refine lv_iload hx hb dX5_leastIntercept_55 (lv_at hl 1 rfl) ?_
    refine lv_iload_n hx hb dX5_leastIntercept_57 rfl (lv_at hl 5 rfl) ?_
    refine z_iadd hx hb dX5_leastIntercept_58 ?_
    refine lv_iconst (v := iZ 1) hx hb dX5_leastIntercept_59 rfl ?_
    refine z_isub hx hb dX5_leastIntercept_60 ?_
    refine z_mmin hx hb (by rw [hml]; exact hl.1.symm) hown (hts (.methodLink RX5 42 Lib.Math.min.name) (by decide +kernel)) (hts (.static Lib.Math.min.name) (by decide +kernel)) (hts (.initialized "java/lang/Math") (by decide +kernel)) (hts (.code Lib.Math.min.name Lib.Math.min.code 2 (some .int)) (by decide +kernel)) (Nat.le_of_ble_eq_true rfl) (Nat.le_of_ble_eq_true rfl) (Nat.zero_le _) (Nat.zero_le _) dX5_leastIntercept_61 (by omega) (fun mm61 hmm61 => ?_)
    refine lv_istore (lv' := [(4, .int (iZ mm61)), (3, .int (iZ mm49)), (7, .int (iZ (((on + (ltr b n (k - 1))) * q) - (k * a)))), (5, .int (iZ (on + (ltr b n (k - 1))))), (0, .ref h0), (1, .int (iZ a)), (2, .int (iZ q)), (6, .int (iZ k))]) hx hb dX5_leastIntercept_64 hl (by decide) rfl (fun ls hl => ?_)
    refine lv_iload_n hx hb dX5_leastIntercept_66 rfl (lv_at hl 1 rfl) ?_
    refine lv_iload hx hb dX5_leastIntercept_67 (lv_at hl 0 rfl) ?_
    refine z_icmp_le (tgt := 74) hx hb dX5_leastIntercept_69 (by decide) (by omega) (fun c_69 => ?_) (fun c_69 => ?_)
    · refine lv_iinc (v := iZ (k + 1)) (lv' := [(6, .int (iZ (k + 1))), (4, .int (iZ mm61)), (3, .int (iZ mm49)), (7, .int (iZ (((on + (ltr b n (k - 1))) * q) - (k * a)))), (5, .int (iZ (on + (ltr b n (k - 1))))), (0, .ref h0), (1, .int (iZ a)), (2, .int (iZ q))]) hx hb dX5_leastIntercept_74 hl (k := 7) rfl (iZ_add _ _) (by decide) rfl (fun ls hl => ?_)
      refine lv_goto (tgt := 13) hx hb dX5_leastIntercept_77 (by decide) ?_
      exact ih_13 mm49 mm61 (on + (ltr b n (k - 1))) (k + 1) ⟨(by omega), (by rw [show k + 1 - 1 = k - 1 + 1 by omega]; exact liL_s (by omega) i2 (by rw [hlx]; exact hmm49)), (by rw [show k + 1 - 1 = k - 1 + 1 by omega]; exact liH_s (by omega) i3 (by rw [hlx]; exact hmm61)), (by rw [show k + 1 - 1 = k - 1 + 1 by omega, sm_s (by omega), i4]), (by omega), (by omega), (by omega)⟩ ⟨by omega, by omega⟩ _ (lv_sub hl [5, 6, 7, 2, 1, 4, 0] rfl)
    · refine lv_iconst (v := iZ (-1)) hx hb dX5_leastIntercept_72 rfl ?_
      exact z_iretP hx hb hr hlocks dX5_leastIntercept_73 (by have e1 := liL_s (t := mm49) (by omega) i2 (by rw [hlx]; exact hmm49); have e2 := liH_s (t := mm61) (by omega) i3 (by rw [hlx]; exact hmm61); rw [show k - 1 + 1 = k by omega] at e1 e2; have e3 := liL_m (f := ltr b n) (a := a) (q := q) (i := k) (by omega) (show k ≤ n by omega); have e4 := liH_m (f := ltr b n) (a := a) (q := q) (i := k) (by omega) (show k ≤ n by omega); unfold liR; rw [if_pos (by omega)])
set_option maxHeartbeats 4000000 in
set_option maxRecDepth 100000 in
theorem c_X6_slopeNumerator (lau : Launch) (G : va_G) (cy : Nat → ClassId) (xa hi ci st sl wo : Nat) (p q c b n : Int)  : Met lau yX6_slopeNumerator wsX6_slopeNumerator ({ frames := 0, cells := 0, slots := 0, locals := 0 }) (P1 G cy [.ref xa] (fun H => va_P G vwCl [(xa, .inr (5, [.ref hi, .ref ci, .ref st])), (st, .inr (3, [.ref sl, .ref wo])), (sl, .inr (2, [.int (iZ p), .int (iZ q), .int (iZ c)])), (wo, .inr (4, [.long (lZ b), .int (iZ n)]))] H)) (vp_Si (fun r => r = iZ (p))) 0 0 (fun _ => False) := by
  refine z_head (lv := [(0, .ref xa)]) RX6 (by decide) rfl rfl (Nat.le_of_ble_eq_true rfl) rfl ?_
  intro pr ev s mt below meth cd ls hx hb hr hlocks hml hown hname hts hKK hP hl
  have hK := hKK.1
  have hP : va_P G vwCl [(xa, .inr (5, [.ref hi, .ref ci, .ref st])), (st, .inr (3, [.ref sl, .ref wo])), (sl, .inr (2, [.int (iZ p), .int (iZ q), .int (iZ c)])), (wo, .inr (4, [.long (lZ b), .int (iZ n)]))] s.heap := hP
  refine lv_aload_n hx hb dX6_slopeNumerator_0 rfl (lv_at hl 0 rfl) ?_
  refine va_get (D := G) (ci := 5) (v := .ref st) (C := RX6) (T := TX6) (N := 3) hx hb hts (by decide +kernel) hown hK hP 0 rfl rfl 2 (by decide) (hts (.fieldLink RX6 38 "SturmianWords" "state" "LSturmianWords$State;") (by decide +kernel)) (fun _ h9 => h9) rfl dX6_slopeNumerator_1 ?_
  refine va_getN (D := G) (ci := 3) (v := .ref sl) (C := RX4) (T := TX4) (N := 2) hx hb hts (by decide +kernel) hown hK hP 1 rfl rfl 0 (by decide) (va_Nw.use rfl (hKK.2 (.fieldLinkNest RX6 54 "SturmianWords$State" "slope" "LSturmianWords$Slope;" "SturmianWords") (by decide +kernel))) (fun _ h9 => h9) rfl dX6_slopeNumerator_4 ?_
  refine va_getN (D := G) (ci := 2) (v := .int (iZ p)) (C := RX3) (T := TX3) (N := 3) hx hb hts (by decide +kernel) hown hK hP 2 rfl rfl 0 (by decide) (va_Nw.use rfl (hKK.2 (.fieldLinkNest RX6 62 "SturmianWords$Slope" "numerator" "I" "SturmianWords") (by decide +kernel))) (fun _ h9 => h9) rfl dX6_slopeNumerator_7 ?_
  exact z_iretP hx hb hr hlocks dX6_slopeNumerator_10 (rfl)
set_option maxHeartbeats 4000000 in
set_option maxRecDepth 100000 in
theorem c_X6_slopeDenominator (lau : Launch) (G : va_G) (cy : Nat → ClassId) (xa hi ci st sl wo : Nat) (p q c b n : Int)  : Met lau yX6_slopeDenominator wsX6_slopeDenominator ({ frames := 0, cells := 0, slots := 0, locals := 0 }) (P1 G cy [.ref xa] (fun H => va_P G vwCl [(xa, .inr (5, [.ref hi, .ref ci, .ref st])), (st, .inr (3, [.ref sl, .ref wo])), (sl, .inr (2, [.int (iZ p), .int (iZ q), .int (iZ c)])), (wo, .inr (4, [.long (lZ b), .int (iZ n)]))] H)) (vp_Si (fun r => r = iZ (q))) 0 0 (fun _ => False) := by
  refine z_head (lv := [(0, .ref xa)]) RX6 (by decide) rfl rfl (Nat.le_of_ble_eq_true rfl) rfl ?_
  intro pr ev s mt below meth cd ls hx hb hr hlocks hml hown hname hts hKK hP hl
  have hK := hKK.1
  have hP : va_P G vwCl [(xa, .inr (5, [.ref hi, .ref ci, .ref st])), (st, .inr (3, [.ref sl, .ref wo])), (sl, .inr (2, [.int (iZ p), .int (iZ q), .int (iZ c)])), (wo, .inr (4, [.long (lZ b), .int (iZ n)]))] s.heap := hP
  refine lv_aload_n hx hb dX6_slopeDenominator_0 rfl (lv_at hl 0 rfl) ?_
  refine va_get (D := G) (ci := 5) (v := .ref st) (C := RX6) (T := TX6) (N := 3) hx hb hts (by decide +kernel) hown hK hP 0 rfl rfl 2 (by decide) (hts (.fieldLink RX6 38 "SturmianWords" "state" "LSturmianWords$State;") (by decide +kernel)) (fun _ h9 => h9) rfl dX6_slopeDenominator_1 ?_
  refine va_getN (D := G) (ci := 3) (v := .ref sl) (C := RX4) (T := TX4) (N := 2) hx hb hts (by decide +kernel) hown hK hP 1 rfl rfl 0 (by decide) (va_Nw.use rfl (hKK.2 (.fieldLinkNest RX6 54 "SturmianWords$State" "slope" "LSturmianWords$Slope;" "SturmianWords") (by decide +kernel))) (fun _ h9 => h9) rfl dX6_slopeDenominator_4 ?_
  refine va_getN (D := G) (ci := 2) (v := .int (iZ q)) (C := RX3) (T := TX3) (N := 3) hx hb hts (by decide +kernel) hown hK hP 2 rfl rfl 1 (by decide) (va_Nw.use rfl (hKK.2 (.fieldLinkNest RX6 58 "SturmianWords$Slope" "denominator" "I" "SturmianWords") (by decide +kernel))) (fun _ h9 => h9) rfl dX6_slopeDenominator_7 ?_
  exact z_iretP hx hb hr hlocks dX6_slopeDenominator_10 (rfl)
set_option maxHeartbeats 4000000 in
set_option maxRecDepth 100000 in
theorem c_X6_length (lau : Launch) (G : va_G) (cy : Nat → ClassId) (xa hi ci st sl wo : Nat) (p q c b n : Int)  : Met lau yX6_length wsX6_length ({ frames := 0, cells := 0, slots := 0, locals := 0 }) (P1 G cy [.ref xa] (fun H => va_P G vwCl [(xa, .inr (5, [.ref hi, .ref ci, .ref st])), (st, .inr (3, [.ref sl, .ref wo])), (sl, .inr (2, [.int (iZ p), .int (iZ q), .int (iZ c)])), (wo, .inr (4, [.long (lZ b), .int (iZ n)]))] H)) (vp_Si (fun r => r = iZ (n))) 0 0 (fun _ => False) := by
  refine z_head (lv := [(0, .ref xa)]) RX6 (by decide) rfl rfl (Nat.le_of_ble_eq_true rfl) rfl ?_
  intro pr ev s mt below meth cd ls hx hb hr hlocks hml hown hname hts hKK hP hl
  have hK := hKK.1
  have hP : va_P G vwCl [(xa, .inr (5, [.ref hi, .ref ci, .ref st])), (st, .inr (3, [.ref sl, .ref wo])), (sl, .inr (2, [.int (iZ p), .int (iZ q), .int (iZ c)])), (wo, .inr (4, [.long (lZ b), .int (iZ n)]))] s.heap := hP
  refine lv_aload_n hx hb dX6_length_0 rfl (lv_at hl 0 rfl) ?_
  refine va_get (D := G) (ci := 5) (v := .ref st) (C := RX6) (T := TX6) (N := 3) hx hb hts (by decide +kernel) hown hK hP 0 rfl rfl 2 (by decide) (hts (.fieldLink RX6 38 "SturmianWords" "state" "LSturmianWords$State;") (by decide +kernel)) (fun _ h9 => h9) rfl dX6_length_1 ?_
  refine va_getN (D := G) (ci := 3) (v := .ref wo) (C := RX4) (T := TX4) (N := 2) hx hb hts (by decide +kernel) hown hK hP 1 rfl rfl 1 (by decide) (va_Nw.use rfl (hKK.2 (.fieldLinkNest RX6 96 "SturmianWords$State" "word" "LSturmianWords$Word;" "SturmianWords") (by decide +kernel))) (fun _ h9 => h9) rfl dX6_length_4 ?_
  refine va_getN (D := G) (ci := 4) (v := .int (iZ n)) (C := RX5) (T := TX5) (N := 2) hx hb hts (by decide +kernel) hown hK hP 3 rfl rfl 1 (by decide) (va_Nw.use rfl (hKK.2 (.fieldLinkNest RX6 93 "SturmianWords$Word" "size" "I" "SturmianWords") (by decide +kernel))) (fun _ h9 => h9) rfl dX6_length_7 ?_
  exact z_iretP hx hb hr hlocks dX6_length_10 (rfl)
set_option maxHeartbeats 4000000 in
set_option maxRecDepth 100000 in
theorem c_X6_historySize (lau : Launch) (G : va_G) (cy : Nat → ClassId) (xa hi ci st ra : Nat) (nx kp : Int)  : Met lau yX6_historySize wsX6_historySize ({ frames := 0, cells := 0, slots := 0, locals := 0 }) (P1 G cy [.ref xa] (fun H => va_P G vwCl [(xa, .inr (5, [.ref hi, .ref ci, .ref st])), (hi, .inr (1, [.ref ra, .int (iZ nx), .int (iZ kp)]))] H)) (vp_Si (fun r => r = iZ (kp))) 0 0 (fun _ => False) := by
  refine z_head (lv := [(0, .ref xa)]) RX6 (by decide) rfl rfl (Nat.le_of_ble_eq_true rfl) rfl ?_
  intro pr ev s mt below meth cd ls hx hb hr hlocks hml hown hname hts hKK hP hl
  have hK := hKK.1
  have hP : va_P G vwCl [(xa, .inr (5, [.ref hi, .ref ci, .ref st])), (hi, .inr (1, [.ref ra, .int (iZ nx), .int (iZ kp)]))] s.heap := hP
  refine lv_aload_n hx hb dX6_historySize_0 rfl (lv_at hl 0 rfl) ?_
  refine va_get (D := G) (ci := 5) (v := .ref hi) (C := RX6) (T := TX6) (N := 3) hx hb hts (by decide +kernel) hown hK hP 0 rfl rfl 0 (by decide) (hts (.fieldLink RX6 10 "SturmianWords" "history" "LSturmianWords$History;") (by decide +kernel)) (fun _ h9 => h9) rfl dX6_historySize_1 ?_
  refine va_getN (D := G) (ci := 1) (v := .int (iZ kp)) (C := RX1) (T := TX1) (N := 3) hx hb hts (by decide +kernel) hown hK hP 1 rfl rfl 2 (by decide) (va_Nw.use rfl (hKK.2 (.fieldLinkNest RX6 127 "SturmianWords$History" "kept" "I" "SturmianWords") (by decide +kernel))) (fun _ h9 => h9) rfl dX6_historySize_4 ?_
  exact z_iretP hx hb hr hlocks dX6_historySize_7 (rfl)
set_option maxHeartbeats 4000000 in
set_option maxRecDepth 100000 in
theorem c_X6_weight (lau : Launch) (G : va_G) (cy : Nat → ClassId) (xa hi ci st sl wo : Nat) (p q c b n : Int) (hn : 0 ≤ n ∧ n ≤ 60) (hb2 : 0 ≤ b ∧ b < 2305843009213693952) : Met lau yX6_weight wsX6_weight ({ frames := 2, cells := 0, slots := 0, locals := 41 }) (P1 G cy [.ref xa] (fun H => va_P G vwCl [(xa, .inr (5, [.ref hi, .ref ci, .ref st])), (st, .inr (3, [.ref sl, .ref wo])), (sl, .inr (2, [.int (iZ p), .int (iZ q), .int (iZ c)])), (wo, .inr (4, [.long (lZ b), .int (iZ n)]))] H)) (vp_Si (fun r => r = iZ (ons b))) 0 0 (fun _ => False) := by
  refine z_head (lv := [(0, .ref xa)]) RX6 (by decide) rfl rfl (Nat.le_of_ble_eq_true rfl) rfl ?_
  intro pr ev s mt below meth cd ls hx hb hr hlocks hml hown hname hts hKK hP hl
  have hK := hKK.1
  have hP : va_P G vwCl [(xa, .inr (5, [.ref hi, .ref ci, .ref st])), (st, .inr (3, [.ref sl, .ref wo])), (sl, .inr (2, [.int (iZ p), .int (iZ q), .int (iZ c)])), (wo, .inr (4, [.long (lZ b), .int (iZ n)]))] s.heap := hP
  refine lv_aload_n hx hb dX6_weight_0 rfl (lv_at hl 0 rfl) ?_
  refine va_get (D := G) (ci := 5) (v := .ref st) (C := RX6) (T := TX6) (N := 3) hx hb hts (by decide +kernel) hown hK hP 0 rfl rfl 2 (by decide) (hts (.fieldLink RX6 38 "SturmianWords" "state" "LSturmianWords$State;") (by decide +kernel)) (fun _ h9 => h9) rfl dX6_weight_1 ?_
  refine va_getN (D := G) (ci := 3) (v := .ref wo) (C := RX4) (T := TX4) (N := 2) hx hb hts (by decide +kernel) hown hK hP 1 rfl rfl 1 (by decide) (va_Nw.use rfl (hKK.2 (.fieldLinkNest RX6 96 "SturmianWords$State" "word" "LSturmianWords$Word;" "SturmianWords") (by decide +kernel))) (fun _ h9 => h9) rfl dX6_weight_4 ?_
  refine z_calli (va_runV (As := []) (rest := []) ⟨hx, hb, hml, hown, hts⟩ (c_X5_ones lau G cy wo b n (by first | omega | assumption) (by first | omega | assumption)) (cwV 0 hts gX6_weight_X5_ones rfl rfl rfl (by decide +kernel) ⟨Nat.le_of_ble_eq_true rfl, Nat.le_of_ble_eq_true rfl⟩) ⟨P1_blind, va_recv hK hP (ci := 4) (q0 := 3) rfl rfl, P1_mk hKK (hP.sub [3] rfl)⟩ rfl rfl hl.1 rfl (lv_room (Nat.le_of_ble_eq_true rfl)) dX6_weight_7 ⟨Nat.le_refl 0, Nat.le_refl 0⟩) ?_
  exact z_iretP hx hb hr hlocks dX6_weight_10 (rfl)
set_option maxHeartbeats 4000000 in
set_option maxRecDepth 100000 in
theorem c_X6_continuedFractionTerm (lau : Launch) (G : va_G) (cy : Nat → ClassId) (xa hi ci st sl wo : Nat) (p q c b n : Int) (ix : Int) (hp : 0 ≤ p ∧ p ≤ q) (hq : 0 < q ∧ q ≤ 1000) (h1 : -2147483648 ≤ ix ∧ ix < 2147483648) : Met lau yX6_continuedFractionTerm wsX6_continuedFractionTerm ({ frames := 2, cells := 0, slots := 0, locals := 49 }) (P1 G cy [.ref xa, .int (iZ ix)] (fun H => va_P G vwCl [(xa, .inr (5, [.ref hi, .ref ci, .ref st])), (st, .inr (3, [.ref sl, .ref wo])), (sl, .inr (2, [.int (iZ p), .int (iZ q), .int (iZ c)])), (wo, .inr (4, [.long (lZ b), .int (iZ n)]))] H)) (vp_Si (fun r => r = iZ (if ix < 1 then -1 else cftR p q ix))) 0 0 (fun _ => False) := by
  refine z_head (lv := [(0, .ref xa), (1, .int (iZ ix))]) RX6 (by decide) rfl rfl (Nat.le_of_ble_eq_true rfl) rfl ?_
  intro pr ev s mt below meth cd ls hx hb hr hlocks hml hown hname hts hKK hP hl
  have hK := hKK.1
  have hP : va_P G vwCl [(xa, .inr (5, [.ref hi, .ref ci, .ref st])), (st, .inr (3, [.ref sl, .ref wo])), (sl, .inr (2, [.int (iZ p), .int (iZ q), .int (iZ c)])), (wo, .inr (4, [.long (lZ b), .int (iZ n)]))] s.heap := hP
  refine lv_iload_n hx hb dX6_continuedFractionTerm_0 rfl (lv_at hl 1 rfl) ?_
  refine lv_iconst (v := iZ 1) hx hb dX6_continuedFractionTerm_1 rfl ?_
  refine z_icmp_ge (tgt := 7) hx hb dX6_continuedFractionTerm_2 (by decide) (by omega) (fun c_2 => ?_) (fun c_2 => ?_)
  · refine lv_aload_n hx hb dX6_continuedFractionTerm_7 rfl (lv_at hl 0 rfl) ?_
    refine va_get (D := G) (ci := 5) (v := .ref st) (C := RX6) (T := TX6) (N := 3) hx hb hts (by decide +kernel) hown hK hP 0 rfl rfl 2 (by decide) (hts (.fieldLink RX6 38 "SturmianWords" "state" "LSturmianWords$State;") (by decide +kernel)) (fun _ h9 => h9) rfl dX6_continuedFractionTerm_8 ?_
    refine va_getN (D := G) (ci := 3) (v := .ref sl) (C := RX4) (T := TX4) (N := 2) hx hb hts (by decide +kernel) hown hK hP 1 rfl rfl 0 (by decide) (va_Nw.use rfl (hKK.2 (.fieldLinkNest RX6 54 "SturmianWords$State" "slope" "LSturmianWords$Slope;" "SturmianWords") (by decide +kernel))) (fun _ h9 => h9) rfl dX6_continuedFractionTerm_11 ?_
    refine lv_iload_n hx hb dX6_continuedFractionTerm_14 rfl (lv_at hl 1 rfl) ?_
    refine z_calli (va_runV (As := [.int (iZ ix)]) (rest := []) ⟨hx, hb, hml, hown, hts⟩ (c_X3_term lau G cy sl p q c ix (by first | omega | assumption) (by first | omega | assumption) (by first | omega | assumption)) (cwV 1 hts gX6_continuedFractionTerm_X3_term rfl rfl rfl (by decide +kernel) ⟨Nat.le_of_ble_eq_true rfl, Nat.le_of_ble_eq_true rfl⟩) ⟨P1_blind, va_recv hK hP (ci := 2) (q0 := 2) rfl rfl, P1_mk hKK (hP.sub [2] rfl)⟩ rfl rfl hl.1 rfl (lv_room (Nat.le_of_ble_eq_true rfl)) dX6_continuedFractionTerm_15 ⟨Nat.le_refl 0, Nat.le_refl 0⟩) ?_
    refine lv_istore_n (lv' := [(2, .int (iZ (cft p q ix))), (0, .ref xa), (1, .int (iZ ix))]) hx hb dX6_continuedFractionTerm_18 rfl hl (by decide) rfl (fun ls hl => ?_)
    have hcr := cft_r (p := p) (q := q) (ix := ix) (by omega) (by omega) (by omega)
    refine lv_iload_n hx hb dX6_continuedFractionTerm_19 rfl (lv_at hl 0 rfl) ?_
    refine lv_iconst (v := iZ (-1)) hx hb dX6_continuedFractionTerm_20 rfl ?_
    refine z_icmp_ne (tgt := 29) hx hb dX6_continuedFractionTerm_21 (by decide) (by omega) (fun c_21 => ?_) (fun c_21 => ?_)
    · refine lv_iload_n hx hb dX6_continuedFractionTerm_29 rfl (lv_at hl 0 rfl) ?_
      exact z_iretP hx hb hr hlocks dX6_continuedFractionTerm_30 (by rw [if_neg (by omega)]; unfold cftR; rw [if_neg (by omega)])
    · refine lv_bipush (v := iZ (-3)) hx hb dX6_continuedFractionTerm_24 (by decide +kernel) ?_
      refine lv_goto (tgt := 30) hx hb dX6_continuedFractionTerm_26 (by decide) ?_
      exact z_iretP hx hb hr hlocks dX6_continuedFractionTerm_30 (by rw [if_neg (by omega)]; unfold cftR; rw [if_pos (by omega)])
  · refine lv_iconst (v := iZ (-1)) hx hb dX6_continuedFractionTerm_5 rfl ?_
    exact z_iretP hx hb hr hlocks dX6_continuedFractionTerm_6 (by rw [if_pos (by omega)])
set_option maxHeartbeats 4000000 in
set_option maxRecDepth 100000 in
theorem c_X6_mechanicalLetter (lau : Launch) (G : va_G) (cy : Nat → ClassId) (xa hi ci st sl wo : Nat) (p q c b n : Int) (ix up : Int) (hp : 0 ≤ p ∧ p ≤ q) (hq : 0 < q ∧ q ≤ 1000) (hc : 0 ≤ c ∧ c < q) (h1 : -2147483648 ≤ ix ∧ ix < 2147483648) (hu : 0 ≤ up ∧ up ≤ 1) : Met lau yX6_mechanicalLetter wsX6_mechanicalLetter ({ frames := 2, cells := 0, slots := 0, locals := 49 }) (P1 G cy [.ref xa, .int (iZ ix), .int (iZ up)] (fun H => va_P G vwCl [(xa, .inr (5, [.ref hi, .ref ci, .ref st])), (st, .inr (3, [.ref sl, .ref wo])), (sl, .inr (2, [.int (iZ p), .int (iZ q), .int (iZ c)])), (wo, .inr (4, [.long (lZ b), .int (iZ n)]))] H)) (vp_Si (fun r => r = iZ (if 0 ≤ ix ∧ ix ≤ 1000000 then mlt p q c up ix else -1))) 0 0 (fun _ => False) := by
  refine z_head (lv := [(0, .ref xa), (1, .int (iZ ix)), (2, .int (iZ up))]) RX6 (by decide) rfl rfl (Nat.le_of_ble_eq_true rfl) rfl ?_
  intro pr ev s mt below meth cd ls hx hb hr hlocks hml hown hname hts hKK hP hl
  have hK := hKK.1
  have hP : va_P G vwCl [(xa, .inr (5, [.ref hi, .ref ci, .ref st])), (st, .inr (3, [.ref sl, .ref wo])), (sl, .inr (2, [.int (iZ p), .int (iZ q), .int (iZ c)])), (wo, .inr (4, [.long (lZ b), .int (iZ n)]))] s.heap := hP
  refine lv_iload_n hx hb dX6_mechanicalLetter_0 rfl (lv_at hl 1 rfl) ?_
  refine z_if_lt (tgt := 10) hx hb dX6_mechanicalLetter_1 (by decide) (by omega) (fun c_1 => ?_) (fun c_1 => ?_)
  · refine lv_iconst (v := iZ (-1)) hx hb dX6_mechanicalLetter_10 rfl ?_
    exact z_iretP hx hb hr hlocks dX6_mechanicalLetter_11 (by rw [if_neg (by omega)])
  · refine lv_iload_n hx hb dX6_mechanicalLetter_4 rfl (lv_at hl 1 rfl) ?_
    refine lv_ldc (v := iZ 1000000) hx hb hown (hts (.constant RX6 72 1000000) (by decide +kernel)) dX6_mechanicalLetter_5 ?_
    refine z_icmp_le (tgt := 12) hx hb dX6_mechanicalLetter_7 (by decide) (by omega) (fun c_7 => ?_) (fun c_7 => ?_)
    · refine lv_aload_n hx hb dX6_mechanicalLetter_12 rfl (lv_at hl 0 rfl) ?_
      refine va_get (D := G) (ci := 5) (v := .ref st) (C := RX6) (T := TX6) (N := 3) hx hb hts (by decide +kernel) hown hK hP 0 rfl rfl 2 (by decide) (hts (.fieldLink RX6 38 "SturmianWords" "state" "LSturmianWords$State;") (by decide +kernel)) (fun _ h9 => h9) rfl dX6_mechanicalLetter_13 ?_
      refine va_getN (D := G) (ci := 3) (v := .ref sl) (C := RX4) (T := TX4) (N := 2) hx hb hts (by decide +kernel) hown hK hP 1 rfl rfl 0 (by decide) (va_Nw.use rfl (hKK.2 (.fieldLinkNest RX6 54 "SturmianWords$State" "slope" "LSturmianWords$Slope;" "SturmianWords") (by decide +kernel))) (fun _ h9 => h9) rfl dX6_mechanicalLetter_16 ?_
      refine lv_iload_n hx hb dX6_mechanicalLetter_19 rfl (lv_at hl 1 rfl) ?_
      refine lv_iload_n hx hb dX6_mechanicalLetter_20 rfl (lv_at hl 2 rfl) ?_
      refine z_calli (va_runV (As := [.int (iZ ix), .int (iZ up)]) (rest := []) ⟨hx, hb, hml, hown, hts⟩ (c_X3_letter lau G cy sl p q c ix up (by first | omega | assumption) (by first | omega | assumption) (by first | omega | assumption) (by first | omega | assumption) (by first | omega | assumption)) (cwV 2 hts gX6_mechanicalLetter_X3_letter rfl rfl rfl (by decide +kernel) ⟨Nat.le_of_ble_eq_true rfl, Nat.le_of_ble_eq_true rfl⟩) ⟨P1_blind, va_recv hK hP (ci := 2) (q0 := 2) rfl rfl, P1_mk hKK (hP.sub [2] rfl)⟩ rfl rfl hl.1 rfl (lv_room (Nat.le_of_ble_eq_true rfl)) dX6_mechanicalLetter_21 ⟨Nat.le_refl 0, Nat.le_refl 0⟩) ?_
      exact z_iretP hx hb hr hlocks dX6_mechanicalLetter_24 (by rw [if_pos (by omega)])
    · refine lv_iconst (v := iZ (-1)) hx hb dX6_mechanicalLetter_10 rfl ?_
      exact z_iretP hx hb hr hlocks dX6_mechanicalLetter_11 (by rw [if_neg (by omega)])
set_option maxHeartbeats 4000000 in
set_option maxRecDepth 100000 in
theorem c_X6_letterAt (lau : Launch) (G : va_G) (cy : Nat → ClassId) (xa hi ci st sl wo : Nat) (p q c b n : Int) (ix : Int) (hn : 0 ≤ n ∧ n ≤ 60) (hb2 : 0 ≤ b ∧ b < 2305843009213693952) (h1 : -2147483648 ≤ ix ∧ ix < 2147483648) : Met lau yX6_letterAt wsX6_letterAt ({ frames := 2, cells := 0, slots := 0, locals := 43 }) (P1 G cy [.ref xa, .int (iZ ix)] (fun H => va_P G vwCl [(xa, .inr (5, [.ref hi, .ref ci, .ref st])), (st, .inr (3, [.ref sl, .ref wo])), (sl, .inr (2, [.int (iZ p), .int (iZ q), .int (iZ c)])), (wo, .inr (4, [.long (lZ b), .int (iZ n)]))] H)) (vp_Si (fun r => r = iZ (if ix < 0 then -1 else if ix < n then ltr b n ix else -3))) 0 0 (fun _ => False) := by
  refine z_head (lv := [(0, .ref xa), (1, .int (iZ ix))]) RX6 (by decide) rfl rfl (Nat.le_of_ble_eq_true rfl) rfl ?_
  intro pr ev s mt below meth cd ls hx hb hr hlocks hml hown hname hts hKK hP hl
  have hK := hKK.1
  have hP : va_P G vwCl [(xa, .inr (5, [.ref hi, .ref ci, .ref st])), (st, .inr (3, [.ref sl, .ref wo])), (sl, .inr (2, [.int (iZ p), .int (iZ q), .int (iZ c)])), (wo, .inr (4, [.long (lZ b), .int (iZ n)]))] s.heap := hP
  refine lv_iload_n hx hb dX6_letterAt_0 rfl (lv_at hl 1 rfl) ?_
  refine z_if_ge (tgt := 6) hx hb dX6_letterAt_1 (by decide) (by omega) (fun c_1 => ?_) (fun c_1 => ?_)
  · refine lv_iload_n hx hb dX6_letterAt_6 rfl (lv_at hl 1 rfl) ?_
    refine lv_aload_n hx hb dX6_letterAt_7 rfl (lv_at hl 0 rfl) ?_
    refine va_get (D := G) (ci := 5) (v := .ref st) (C := RX6) (T := TX6) (N := 3) hx hb hts (by decide +kernel) hown hK hP 0 rfl rfl 2 (by decide) (hts (.fieldLink RX6 38 "SturmianWords" "state" "LSturmianWords$State;") (by decide +kernel)) (fun _ h9 => h9) rfl dX6_letterAt_8 ?_
    refine va_getN (D := G) (ci := 3) (v := .ref wo) (C := RX4) (T := TX4) (N := 2) hx hb hts (by decide +kernel) hown hK hP 1 rfl rfl 1 (by decide) (va_Nw.use rfl (hKK.2 (.fieldLinkNest RX6 96 "SturmianWords$State" "word" "LSturmianWords$Word;" "SturmianWords") (by decide +kernel))) (fun _ h9 => h9) rfl dX6_letterAt_11 ?_
    refine va_getN (D := G) (ci := 4) (v := .int (iZ n)) (C := RX5) (T := TX5) (N := 2) hx hb hts (by decide +kernel) hown hK hP 3 rfl rfl 1 (by decide) (va_Nw.use rfl (hKK.2 (.fieldLinkNest RX6 93 "SturmianWords$Word" "size" "I" "SturmianWords") (by decide +kernel))) (fun _ h9 => h9) rfl dX6_letterAt_14 ?_
    refine z_icmp_ge (tgt := 34) hx hb dX6_letterAt_17 (by decide) (by omega) (fun c_17 => ?_) (fun c_17 => ?_)
    · refine lv_bipush (v := iZ (-3)) hx hb dX6_letterAt_34 (by decide +kernel) ?_
      exact z_iretP hx hb hr hlocks dX6_letterAt_36 (by rw [if_neg (by omega), if_neg (by omega)])
    · refine lv_aload_n hx hb dX6_letterAt_20 rfl (lv_at hl 0 rfl) ?_
      refine va_get (D := G) (ci := 5) (v := .ref st) (C := RX6) (T := TX6) (N := 3) hx hb hts (by decide +kernel) hown hK hP 0 rfl rfl 2 (by decide) (hts (.fieldLink RX6 38 "SturmianWords" "state" "LSturmianWords$State;") (by decide +kernel)) (fun _ h9 => h9) rfl dX6_letterAt_21 ?_
      refine va_getN (D := G) (ci := 3) (v := .ref wo) (C := RX4) (T := TX4) (N := 2) hx hb hts (by decide +kernel) hown hK hP 1 rfl rfl 1 (by decide) (va_Nw.use rfl (hKK.2 (.fieldLinkNest RX6 96 "SturmianWords$State" "word" "LSturmianWords$Word;" "SturmianWords") (by decide +kernel))) (fun _ h9 => h9) rfl dX6_letterAt_24 ?_
      refine lv_iload_n hx hb dX6_letterAt_27 rfl (lv_at hl 1 rfl) ?_
      refine z_calli (va_runV (As := [.int (iZ ix)]) (rest := []) ⟨hx, hb, hml, hown, hts⟩ (c_X5_letter lau G cy wo b n ix (by first | omega | assumption) (by first | omega | assumption) (by first | omega | assumption)) (cwV 1 hts gX6_letterAt_X5_letter rfl rfl rfl (by decide +kernel) ⟨Nat.le_of_ble_eq_true rfl, Nat.le_of_ble_eq_true rfl⟩) ⟨P1_blind, va_recv hK hP (ci := 4) (q0 := 3) rfl rfl, P1_mk hKK (hP.sub [3] rfl)⟩ rfl rfl hl.1 rfl (lv_room (Nat.le_of_ble_eq_true rfl)) dX6_letterAt_28 ⟨Nat.le_refl 0, Nat.le_refl 0⟩) ?_
      refine lv_goto (tgt := 36) hx hb dX6_letterAt_31 (by decide) ?_
      exact z_iretP hx hb hr hlocks dX6_letterAt_36 (by rw [if_neg (by omega), if_pos (by omega)])
  · refine lv_iconst (v := iZ (-1)) hx hb dX6_letterAt_4 rfl ?_
    exact z_iretP hx hb hr hlocks dX6_letterAt_5 (by rw [if_pos (by omega)])
set_option maxHeartbeats 4000000 in
set_option maxRecDepth 100000 in
theorem c_X6_factorCount (lau : Launch) (G : va_G) (cy : Nat → ClassId) (xa hi ci st sl wo : Nat) (p q c b n : Int) (ct : Int) (hn : 0 ≤ n ∧ n ≤ 60) (hb2 : 0 ≤ b ∧ b < 2305843009213693952) (h1 : -2147483648 ≤ ct ∧ ct < 2147483648) : Met lau yX6_factorCount wsX6_factorCount ({ frames := 3, cells := 0, slots := 0, locals := 70 }) (P1 G cy [.ref xa, .int (iZ ct)] (fun H => va_P G vwCl [(xa, .inr (5, [.ref hi, .ref ci, .ref st])), (st, .inr (3, [.ref sl, .ref wo])), (sl, .inr (2, [.int (iZ p), .int (iZ q), .int (iZ c)])), (wo, .inr (4, [.long (lZ b), .int (iZ n)]))] H)) (vp_Si (fun r => r = iZ (if ct < 0 then -1 else cnt (fun k => newP b n k ct) (n - ct + 1)))) 0 0 (fun _ => False) := by
  refine z_head (lv := [(0, .ref xa), (1, .int (iZ ct))]) RX6 (by decide) rfl rfl (Nat.le_of_ble_eq_true rfl) rfl ?_
  intro pr ev s mt below meth cd ls hx hb hr hlocks hml hown hname hts hKK hP hl
  have hK := hKK.1
  have hP : va_P G vwCl [(xa, .inr (5, [.ref hi, .ref ci, .ref st])), (st, .inr (3, [.ref sl, .ref wo])), (sl, .inr (2, [.int (iZ p), .int (iZ q), .int (iZ c)])), (wo, .inr (4, [.long (lZ b), .int (iZ n)]))] s.heap := hP
  refine lv_iload_n hx hb dX6_factorCount_0 rfl (lv_at hl 1 rfl) ?_
  refine z_if_ge (tgt := 8) hx hb dX6_factorCount_1 (by decide) (by omega) (fun c_1 => ?_) (fun c_1 => ?_)
  · refine lv_aload_n hx hb dX6_factorCount_8 rfl (lv_at hl 0 rfl) ?_
    refine va_get (D := G) (ci := 5) (v := .ref st) (C := RX6) (T := TX6) (N := 3) hx hb hts (by decide +kernel) hown hK hP 0 rfl rfl 2 (by decide) (hts (.fieldLink RX6 38 "SturmianWords" "state" "LSturmianWords$State;") (by decide +kernel)) (fun _ h9 => h9) rfl dX6_factorCount_9 ?_
    refine va_getN (D := G) (ci := 3) (v := .ref wo) (C := RX4) (T := TX4) (N := 2) hx hb hts (by decide +kernel) hown hK hP 1 rfl rfl 1 (by decide) (va_Nw.use rfl (hKK.2 (.fieldLinkNest RX6 96 "SturmianWords$State" "word" "LSturmianWords$Word;" "SturmianWords") (by decide +kernel))) (fun _ h9 => h9) rfl dX6_factorCount_12 ?_
    refine lv_iload_n hx hb dX6_factorCount_15 rfl (lv_at hl 1 rfl) ?_
    refine z_calli (va_runV (As := [.int (iZ ct)]) (rest := []) ⟨hx, hb, hml, hown, hts⟩ (c_X5_differentFactors lau G cy wo b n ct (by first | omega | assumption) (by first | omega | assumption) (by first | omega | assumption)) (cwV 1 hts gX6_factorCount_X5_differentFactors rfl rfl rfl (by decide +kernel) ⟨Nat.le_of_ble_eq_true rfl, Nat.le_of_ble_eq_true rfl⟩) ⟨P1_blind, va_recv hK hP (ci := 4) (q0 := 3) rfl rfl, P1_mk hKK (hP.sub [3] rfl)⟩ rfl rfl hl.1 rfl (lv_room (Nat.le_of_ble_eq_true rfl)) dX6_factorCount_16 ⟨Nat.le_refl 0, Nat.le_refl 0⟩) ?_
    exact z_iretP hx hb hr hlocks dX6_factorCount_19 (by rw [if_neg (by omega)])
  · refine lv_iconst (v := iZ (-1)) hx hb dX6_factorCount_4 rfl ?_
    refine lv_goto (tgt := 19) hx hb dX6_factorCount_5 (by decide) ?_
    exact z_iretP hx hb hr hlocks dX6_factorCount_19 (by rw [if_pos (by omega)])
set_option maxHeartbeats 4000000 in
set_option maxRecDepth 100000 in
theorem c_X6_factorAt (lau : Launch) (G : va_G) (cy : Nat → ClassId) (xa hi ci st sl wo : Nat) (p q c b n : Int) (ct ix : Int) (hn : 0 ≤ n ∧ n ≤ 60) (hb2 : 0 ≤ b ∧ b < 2305843009213693952) (h1 : -2147483648 ≤ ct ∧ ct < 2147483648 ∧ -2147483648 ≤ ix ∧ ix < 2147483648) : Met lau yX6_factorAt wsX6_factorAt ({ frames := 3, cells := 0, slots := 0, locals := 75 }) (P1 G cy [.ref xa, .int (iZ ct), .int (iZ ix)] (fun H => va_P G vwCl [(xa, .inr (5, [.ref hi, .ref ci, .ref st])), (st, .inr (3, [.ref sl, .ref wo])), (sl, .inr (2, [.int (iZ p), .int (iZ q), .int (iZ c)])), (wo, .inr (4, [.long (lZ b), .int (iZ n)]))] H)) (vp_Si (fun r => r = iZ (if (1 ≤ ct ∧ ct ≤ 30) ∧ 0 ≤ ix then (if (if n ≤ ix then -1 else lstF (fun k => fct b n k ct) (n - ct + 1) ix) = -1 then -3 else (if n ≤ ix then -1 else lstF (fun k => fct b n k ct) (n - ct + 1) ix)) else -1))) 0 0 (fun _ => False) := by
  refine z_head (lv := [(0, .ref xa), (1, .int (iZ ct)), (2, .int (iZ ix))]) RX6 (by decide) rfl rfl (Nat.le_of_ble_eq_true rfl) rfl ?_
  intro pr ev s mt below meth cd ls hx hb hr hlocks hml hown hname hts hKK hP hl
  have hK := hKK.1
  have hP : va_P G vwCl [(xa, .inr (5, [.ref hi, .ref ci, .ref st])), (st, .inr (3, [.ref sl, .ref wo])), (sl, .inr (2, [.int (iZ p), .int (iZ q), .int (iZ c)])), (wo, .inr (4, [.long (lZ b), .int (iZ n)]))] s.heap := hP
  refine lv_iload_n hx hb dX6_factorAt_0 rfl (lv_at hl 1 rfl) ?_
  refine lv_iconst (v := iZ 1) hx hb dX6_factorAt_1 rfl ?_
  refine z_icmp_lt (tgt := 15) hx hb dX6_factorAt_2 (by decide) (by omega) (fun c_2 => ?_) (fun c_2 => ?_)
  · refine lv_iconst (v := iZ (-1)) hx hb dX6_factorAt_15 rfl ?_
    exact z_iretP hx hb hr hlocks dX6_factorAt_16 (by rw [if_neg (by omega)])
  · refine lv_iload_n hx hb dX6_factorAt_5 rfl (lv_at hl 1 rfl) ?_
    refine lv_bipush (v := iZ 30) hx hb dX6_factorAt_6 (by decide +kernel) ?_
    refine z_icmp_gt (tgt := 15) hx hb dX6_factorAt_8 (by decide) (by omega) (fun c_8 => ?_) (fun c_8 => ?_)
    · refine lv_iconst (v := iZ (-1)) hx hb dX6_factorAt_15 rfl ?_
      exact z_iretP hx hb hr hlocks dX6_factorAt_16 (by rw [if_neg (by omega)])
    · refine lv_iload_n hx hb dX6_factorAt_11 rfl (lv_at hl 2 rfl) ?_
      refine z_if_ge (tgt := 17) hx hb dX6_factorAt_12 (by decide) (by omega) (fun c_12 => ?_) (fun c_12 => ?_)
      · refine lv_aload_n hx hb dX6_factorAt_17 rfl (lv_at hl 0 rfl) ?_
        refine va_get (D := G) (ci := 5) (v := .ref st) (C := RX6) (T := TX6) (N := 3) hx hb hts (by decide +kernel) hown hK hP 0 rfl rfl 2 (by decide) (hts (.fieldLink RX6 38 "SturmianWords" "state" "LSturmianWords$State;") (by decide +kernel)) (fun _ h9 => h9) rfl dX6_factorAt_18 ?_
        refine va_getN (D := G) (ci := 3) (v := .ref wo) (C := RX4) (T := TX4) (N := 2) hx hb hts (by decide +kernel) hown hK hP 1 rfl rfl 1 (by decide) (va_Nw.use rfl (hKK.2 (.fieldLinkNest RX6 96 "SturmianWords$State" "word" "LSturmianWords$Word;" "SturmianWords") (by decide +kernel))) (fun _ h9 => h9) rfl dX6_factorAt_21 ?_
        refine lv_iload_n hx hb dX6_factorAt_24 rfl (lv_at hl 1 rfl) ?_
        refine lv_iload_n hx hb dX6_factorAt_25 rfl (lv_at hl 2 rfl) ?_
        refine z_calll (va_runV (As := [.int (iZ ct), .int (iZ ix)]) (rest := []) ⟨hx, hb, hml, hown, hts⟩ (c_X5_listedFactor lau G cy wo b n ct ix (by first | omega | assumption) (by first | omega | assumption) (by first | omega | assumption) (by first | omega | assumption)) (cwV 2 hts gX6_factorAt_X5_listedFactor rfl rfl rfl (by decide +kernel) ⟨Nat.le_of_ble_eq_true rfl, Nat.le_of_ble_eq_true rfl⟩) ⟨P1_blind, va_recv hK hP (ci := 4) (q0 := 3) rfl rfl, P1_mk hKK (hP.sub [3] rfl)⟩ rfl rfl hl.1 rfl (lv_room (Nat.le_of_ble_eq_true rfl)) dX6_factorAt_26 ⟨Nat.le_refl 0, Nat.le_refl 0⟩) ?_
        refine z_topel (fun fa efa => ?_)
        refine lv_lstore_n (lv' := [(3, .long (lZ fa)), (0, .ref xa), (1, .int (iZ ct)), (2, .int (iZ ix))]) hx hb dX6_factorAt_29 rfl hl (by decide) rfl (fun ls hl => ?_)
        have hlr := lstF_b (f := fun k => fct b n k ct) (N := n - ct + 1) (M := 1073741824) (by decide) (fun k => by have h := fct_r b n k ct; have h2 := pw_le (a := ct) (b := 30) (by omega) (by omega); have h3 : pw 30 = 1073741824 := rfl; omega) (i := ix) (by omega)
        have hlr2 : -1 ≤ (if n ≤ ix then -1 else lstF (fun k => fct b n k ct) (n - ct + 1) ix) ∧ (if n ≤ ix then -1 else lstF (fun k => fct b n k ct) (n - ct + 1) ix) < 1073741824 := by split <;> omega
        rw [← efa] at hlr2
        refine lv_lload_n hx hb dX6_factorAt_30 rfl (lv_at hl 0 rfl) ?_
        refine lv_ldc2 (v := lZ (-1)) hx hb hown (hts (.constantLong RX6 137 (lZ (-1))) (by decide +kernel)) dX6_factorAt_31 ?_
        refine z_lcmp hx hb dX6_factorAt_34 (by omega) (fun cm34 hcm34 => ?_)
        refine z_if_ne (tgt := 43) hx hb dX6_factorAt_35 (by decide) (by omega) (fun c_35 => ?_) (fun c_35 => ?_)
        · refine lv_lload_n hx hb dX6_factorAt_43 rfl (lv_at hl 0 rfl) ?_
          refine z_l2i hx hb dX6_factorAt_44 ?_
          exact z_iretP hx hb hr hlocks dX6_factorAt_45 (by rw [if_pos (by omega), ← efa, if_neg (by omega)])
        · refine lv_bipush (v := iZ (-3)) hx hb dX6_factorAt_38 (by decide +kernel) ?_
          refine lv_goto (tgt := 45) hx hb dX6_factorAt_40 (by decide) ?_
          exact z_iretP hx hb hr hlocks dX6_factorAt_45 (by rw [if_pos (by omega), ← efa, if_pos (by omega)])
      · refine lv_iconst (v := iZ (-1)) hx hb dX6_factorAt_15 rfl ?_
        exact z_iretP hx hb hr hlocks dX6_factorAt_16 (by rw [if_neg (by omega)])
set_option maxHeartbeats 4000000 in
set_option maxRecDepth 100000 in
theorem c_X6_unbalancedLength (lau : Launch) (G : va_G) (cy : Nat → ClassId) (xa hi ci st sl wo : Nat) (p q c b n : Int) (hn : 0 ≤ n ∧ n ≤ 60) (hb2 : 0 ≤ b ∧ b < 2305843009213693952) : Met lau yX6_unbalancedLength wsX6_unbalancedLength ({ frames := 2, cells := 0, slots := 0, locals := 47 }) (P1 G cy [.ref xa] (fun H => va_P G vwCl [(xa, .inr (5, [.ref hi, .ref ci, .ref st])), (st, .inr (3, [.ref sl, .ref wo])), (sl, .inr (2, [.int (iZ p), .int (iZ q), .int (iZ c)])), (wo, .inr (4, [.long (lZ b), .int (iZ n)]))] H)) (vp_Si (fun r => r = iZ (if fnd (fun f => 1 ≤ f ∧ 2 ≤ mxC (fun a => ons (fct b n a f)) (n - f + 1) - mnC (fun a => ons (fct b n a f)) f (n - f + 1)) (n + 1) = -1 then -3 else fnd (fun f => 1 ≤ f ∧ 2 ≤ mxC (fun a => ons (fct b n a f)) (n - f + 1) - mnC (fun a => ons (fct b n a f)) f (n - f + 1)) (n + 1)))) 0 0 (fun _ => False) := by
  refine z_head (lv := [(0, .ref xa)]) RX6 (by decide) rfl rfl (Nat.le_of_ble_eq_true rfl) rfl ?_
  intro pr ev s mt below meth cd ls hx hb hr hlocks hml hown hname hts hKK hP hl
  have hK := hKK.1
  have hP : va_P G vwCl [(xa, .inr (5, [.ref hi, .ref ci, .ref st])), (st, .inr (3, [.ref sl, .ref wo])), (sl, .inr (2, [.int (iZ p), .int (iZ q), .int (iZ c)])), (wo, .inr (4, [.long (lZ b), .int (iZ n)]))] s.heap := hP
  refine lv_aload_n hx hb dX6_unbalancedLength_0 rfl (lv_at hl 0 rfl) ?_
  refine va_get (D := G) (ci := 5) (v := .ref st) (C := RX6) (T := TX6) (N := 3) hx hb hts (by decide +kernel) hown hK hP 0 rfl rfl 2 (by decide) (hts (.fieldLink RX6 38 "SturmianWords" "state" "LSturmianWords$State;") (by decide +kernel)) (fun _ h9 => h9) rfl dX6_unbalancedLength_1 ?_
  refine va_getN (D := G) (ci := 3) (v := .ref wo) (C := RX4) (T := TX4) (N := 2) hx hb hts (by decide +kernel) hown hK hP 1 rfl rfl 1 (by decide) (va_Nw.use rfl (hKK.2 (.fieldLinkNest RX6 96 "SturmianWords$State" "word" "LSturmianWords$Word;" "SturmianWords") (by decide +kernel))) (fun _ h9 => h9) rfl dX6_unbalancedLength_4 ?_
  refine lv_astore_n (lv' := [(1, .ref wo), (0, .ref xa)]) hx hb dX6_unbalancedLength_7 rfl hl (by decide) rfl (fun ls hl => ?_)
  refine lv_iconst (v := iZ 1) hx hb dX6_unbalancedLength_8 rfl ?_
  refine lv_istore_n (lv' := [(2, .int (iZ 1)), (1, .ref wo), (0, .ref xa)]) hx hb dX6_unbalancedLength_9 rfl hl (by decide) rfl (fun ls hl => ?_)
  refine z_loop1 (nL := 3) (fun (f : Int) => [(0, .ref xa), (1, .ref wo), (2, .int (iZ f))]) (fun (f : Int) => (1 ≤ f ∧ f ≤ n + 1) ∧ (fnd (fun f => 1 ≤ f ∧ 2 ≤ mxC (fun a => ons (fct b n a f)) (n - f + 1) - mnC (fun a => ons (fct b n a f)) f (n - f + 1)) f = -1)) (fun (f : Int) => n + 1 - f) (a1 := 1) ⟨(by omega), (fnd_miss (i := 0) (Int.le_refl 0) (fnd_0 (Int.le_refl 0)) (by omega))⟩ (lv_sub hl [2, 1, 0] rfl) ?_
  rintro f ⟨i1, i2⟩ ih_10 ls hl
  refine lv_iload_n hx hb dX6_unbalancedLength_10 rfl (lv_at hl 2 rfl) ?_
  refine lv_aload_n hx hb dX6_unbalancedLength_11 rfl (lv_at hl 1 rfl) ?_
  refine va_getN (D := G) (ci := 4) (v := .int (iZ n)) (C := RX5) (T := TX5) (N := 2) hx hb hts (by decide +kernel) hown hK hP 3 rfl rfl 1 (by decide) (va_Nw.use rfl (hKK.2 (.fieldLinkNest RX6 93 "SturmianWords$Word" "size" "I" "SturmianWords") (by decide +kernel))) (fun _ h9 => h9) rfl dX6_unbalancedLength_12 ?_
  refine z_icmp_gt (tgt := 35) hx hb dX6_unbalancedLength_15 (by decide) (by omega) (fun c_15 => ?_) (fun c_15 => ?_)
  · refine lv_bipush (v := iZ (-3)) hx hb dX6_unbalancedLength_35 (by decide +kernel) ?_
    exact z_iretP hx hb hr hlocks dX6_unbalancedLength_37 (by rw [← show f = n + 1 by omega, if_pos i2])
  · refine lv_aload_n hx hb dX6_unbalancedLength_18 rfl (lv_at hl 1 rfl) ?_
    refine lv_iload_n hx hb dX6_unbalancedLength_19 rfl (lv_at hl 2 rfl) ?_
    refine z_calli (va_runV (As := [.int (iZ f)]) (rest := []) ⟨hx, hb, hml, hown, hts⟩ (c_X5_weightSpread lau G cy wo b n f (by first | omega | assumption) (by first | omega | assumption) (by first | omega | assumption)) (cwV 1 hts gX6_unbalancedLength_X5_weightSpread rfl rfl rfl (by decide +kernel) ⟨Nat.le_of_ble_eq_true rfl, Nat.le_of_ble_eq_true rfl⟩) ⟨P1_blind, va_recv hK hP (ci := 4) (q0 := 3) rfl rfl, P1_mk hKK (hP.sub [3] rfl)⟩ rfl rfl hl.1 rfl (lv_room (Nat.le_of_ble_eq_true rfl)) dX6_unbalancedLength_20 ⟨Nat.le_refl 0, Nat.le_refl 0⟩) ?_
    refine lv_iconst (v := iZ 2) hx hb dX6_unbalancedLength_23 rfl ?_
    have hw1 := mxC_b (f := fun a => ons (fct b n a f)) (N := n - f + 1) (fun k => ons_r _)
    have hw2 := mnC_b (f := fun a => ons (fct b n a f)) (c := f) (N := n - f + 1) (by omega) (fun k => ons_r _)
    refine z_icmp_lt (tgt := 29) hx hb dX6_unbalancedLength_24 (by decide) (by omega) (fun c_24 => ?_) (fun c_24 => ?_)
    · refine lv_iinc (v := iZ (f + 1)) (lv' := [(2, .int (iZ (f + 1))), (0, .ref xa), (1, .ref wo)]) hx hb dX6_unbalancedLength_29 hl (k := 2) rfl (iZ_add _ _) (by decide) rfl (fun ls hl => ?_)
      refine lv_goto (tgt := 10) hx hb dX6_unbalancedLength_32 (by decide) ?_
      exact ih_10 (f + 1) ⟨(by omega), (fnd_miss (by omega) i2 (by omega))⟩ ⟨by omega, by omega⟩ _ (lv_sub hl [1, 2, 0] rfl)
    · refine lv_iload_n hx hb dX6_unbalancedLength_27 rfl (lv_at hl 2 rfl) ?_
      exact z_iretP hx hb hr hlocks dX6_unbalancedLength_28 (by rw [fnd_hit (P := fun f => 1 ≤ f ∧ 2 ≤ mxC (fun a => ons (fct b n a f)) (n - f + 1) - mnC (fun a => ons (fct b n a f)) f (n - f + 1)) (i := f) (by omega) i2 (by omega) (by omega), if_neg (by omega)])
set_option maxHeartbeats 4000000 in
set_option maxRecDepth 100000 in
theorem c_X6_leastPeriod (lau : Launch) (G : va_G) (cy : Nat → ClassId) (xa hi ci st sl wo : Nat) (p q c b n : Int) (hn : 0 ≤ n ∧ n ≤ 60) (hb2 : 0 ≤ b ∧ b < 2305843009213693952) : Met lau yX6_leastPeriod wsX6_leastPeriod ({ frames := 2, cells := 0, slots := 0, locals := 43 }) (P1 G cy [.ref xa] (fun H => va_P G vwCl [(xa, .inr (5, [.ref hi, .ref ci, .ref st])), (st, .inr (3, [.ref sl, .ref wo])), (sl, .inr (2, [.int (iZ p), .int (iZ q), .int (iZ c)])), (wo, .inr (4, [.long (lZ b), .int (iZ n)]))] H)) (vp_Si (fun r => r = iZ (if fnd (fun t => 1 ≤ t ∧ (n < t ∨ fct b n 0 (n - t) = fct b n t (n - t))) (n + 1) = -1 then -3 else fnd (fun t => 1 ≤ t ∧ (n < t ∨ fct b n 0 (n - t) = fct b n t (n - t))) (n + 1)))) 0 0 (fun _ => False) := by
  refine z_head (lv := [(0, .ref xa)]) RX6 (by decide) rfl rfl (Nat.le_of_ble_eq_true rfl) rfl ?_
  intro pr ev s mt below meth cd ls hx hb hr hlocks hml hown hname hts hKK hP hl
  have hK := hKK.1
  have hP : va_P G vwCl [(xa, .inr (5, [.ref hi, .ref ci, .ref st])), (st, .inr (3, [.ref sl, .ref wo])), (sl, .inr (2, [.int (iZ p), .int (iZ q), .int (iZ c)])), (wo, .inr (4, [.long (lZ b), .int (iZ n)]))] s.heap := hP
  refine lv_aload_n hx hb dX6_leastPeriod_0 rfl (lv_at hl 0 rfl) ?_
  refine va_get (D := G) (ci := 5) (v := .ref st) (C := RX6) (T := TX6) (N := 3) hx hb hts (by decide +kernel) hown hK hP 0 rfl rfl 2 (by decide) (hts (.fieldLink RX6 38 "SturmianWords" "state" "LSturmianWords$State;") (by decide +kernel)) (fun _ h9 => h9) rfl dX6_leastPeriod_1 ?_
  refine va_getN (D := G) (ci := 3) (v := .ref wo) (C := RX4) (T := TX4) (N := 2) hx hb hts (by decide +kernel) hown hK hP 1 rfl rfl 1 (by decide) (va_Nw.use rfl (hKK.2 (.fieldLinkNest RX6 96 "SturmianWords$State" "word" "LSturmianWords$Word;" "SturmianWords") (by decide +kernel))) (fun _ h9 => h9) rfl dX6_leastPeriod_4 ?_
  refine lv_astore_n (lv' := [(1, .ref wo), (0, .ref xa)]) hx hb dX6_leastPeriod_7 rfl hl (by decide) rfl (fun ls hl => ?_)
  refine lv_iconst (v := iZ 1) hx hb dX6_leastPeriod_8 rfl ?_
  refine lv_istore_n (lv' := [(2, .int (iZ 1)), (1, .ref wo), (0, .ref xa)]) hx hb dX6_leastPeriod_9 rfl hl (by decide) rfl (fun ls hl => ?_)
  refine z_loop1 (nL := 3) (fun (t : Int) => [(0, .ref xa), (1, .ref wo), (2, .int (iZ t))]) (fun (t : Int) => (1 ≤ t ∧ t ≤ n + 1) ∧ (fnd (fun t => 1 ≤ t ∧ (n < t ∨ fct b n 0 (n - t) = fct b n t (n - t))) t = -1)) (fun (t : Int) => n + 1 - t) (a1 := 1) ⟨(by omega), (fnd_miss (i := 0) (Int.le_refl 0) (fnd_0 (Int.le_refl 0)) (by omega))⟩ (lv_sub hl [2, 1, 0] rfl) ?_
  rintro t ⟨i1, i2⟩ ih_10 ls hl
  refine lv_iload_n hx hb dX6_leastPeriod_10 rfl (lv_at hl 2 rfl) ?_
  refine lv_aload_n hx hb dX6_leastPeriod_11 rfl (lv_at hl 1 rfl) ?_
  refine va_getN (D := G) (ci := 4) (v := .int (iZ n)) (C := RX5) (T := TX5) (N := 2) hx hb hts (by decide +kernel) hown hK hP 3 rfl rfl 1 (by decide) (va_Nw.use rfl (hKK.2 (.fieldLinkNest RX6 93 "SturmianWords$Word" "size" "I" "SturmianWords") (by decide +kernel))) (fun _ h9 => h9) rfl dX6_leastPeriod_12 ?_
  refine z_icmp_gt (tgt := 34) hx hb dX6_leastPeriod_15 (by decide) (by omega) (fun c_15 => ?_) (fun c_15 => ?_)
  · refine lv_bipush (v := iZ (-3)) hx hb dX6_leastPeriod_34 (by decide +kernel) ?_
    exact z_iretP hx hb hr hlocks dX6_leastPeriod_36 (by rw [← show t = n + 1 by omega, if_pos i2])
  · refine lv_aload_n hx hb dX6_leastPeriod_18 rfl (lv_at hl 1 rfl) ?_
    refine lv_iload_n hx hb dX6_leastPeriod_19 rfl (lv_at hl 2 rfl) ?_
    refine z_calli (va_runV (As := [.int (iZ t)]) (rest := []) ⟨hx, hb, hml, hown, hts⟩ (c_X5_hasPeriod lau G cy wo b n t (by first | omega | assumption) (by first | omega | assumption) (by first | omega | assumption)) (cwV 1 hts gX6_leastPeriod_X5_hasPeriod rfl rfl rfl (by decide +kernel) ⟨Nat.le_of_ble_eq_true rfl, Nat.le_of_ble_eq_true rfl⟩) ⟨P1_blind, va_recv hK hP (ci := 4) (q0 := 3) rfl rfl, P1_mk hKK (hP.sub [3] rfl)⟩ rfl rfl hl.1 rfl (lv_room (Nat.le_of_ble_eq_true rfl)) dX6_leastPeriod_20 ⟨Nat.le_refl 0, Nat.le_refl 0⟩) ?_
    refine z_ifB_eq (tgt := 28) hx hb dX6_leastPeriod_23 (by decide) (fun c_23 => ?_) (fun c_23 => ?_)
    · refine lv_iinc (v := iZ (t + 1)) (lv' := [(2, .int (iZ (t + 1))), (0, .ref xa), (1, .ref wo)]) hx hb dX6_leastPeriod_28 hl (k := 2) rfl (iZ_add _ _) (by decide) rfl (fun ls hl => ?_)
      refine lv_goto (tgt := 10) hx hb dX6_leastPeriod_31 (by decide) ?_
      exact ih_10 (t + 1) ⟨(by omega), (fnd_miss (by omega) i2 (fun z => c_23 z.2))⟩ ⟨by omega, by omega⟩ _ (lv_sub hl [1, 2, 0] rfl)
    · refine lv_iload_n hx hb dX6_leastPeriod_26 rfl (lv_at hl 2 rfl) ?_
      exact z_iretP hx hb hr hlocks dX6_leastPeriod_27 (by rw [fnd_hit (P := fun t => 1 ≤ t ∧ (n < t ∨ fct b n 0 (n - t) = fct b n t (n - t))) (i := t) (by omega) i2 ⟨by omega, c_23⟩ (by omega), if_neg (by omega)])
set_option maxHeartbeats 4000000 in
set_option maxRecDepth 100000 in
theorem c_X6_isCentral (lau : Launch) (G : va_G) (cy : Nat → ClassId) (xa hi ci st sl wo : Nat) (p q c b n : Int) (hn : 0 ≤ n ∧ n ≤ 60) (hb2 : 0 ≤ b ∧ b < 2305843009213693952) : Met lau yX6_isCentral wsX6_isCentral ({ frames := 2, cells := 0, slots := 0, locals := 48 }) (P1 G cy [.ref xa] (fun H => va_P G vwCl [(xa, .inr (5, [.ref hi, .ref ci, .ref st])), (st, .inr (3, [.ref sl, .ref wo])), (sl, .inr (2, [.int (iZ p), .int (iZ q), .int (iZ c)])), (wo, .inr (4, [.long (lZ b), .int (iZ n)]))] H)) (vp_Si (fun r => r = iZ (bv (∃ t : Int, t < n + 2 ∧ (1 ≤ t ∧ (Int.gcd t (n + 2 - t) : Int) = 1 ∧ (n < t ∨ fct b n 0 (n - t) = fct b n t (n - t)) ∧ (n < (n + 2 - t) ∨ fct b n 0 (n - (n + 2 - t)) = fct b n (n + 2 - t) (n - (n + 2 - t)))))))) 0 0 (fun _ => False) := by
  refine z_head (lv := [(0, .ref xa)]) RX6 (by decide) rfl rfl (Nat.le_of_ble_eq_true rfl) rfl ?_
  intro pr ev s mt below meth cd ls hx hb hr hlocks hml hown hname hts hKK hP hl
  have hK := hKK.1
  have hP : va_P G vwCl [(xa, .inr (5, [.ref hi, .ref ci, .ref st])), (st, .inr (3, [.ref sl, .ref wo])), (sl, .inr (2, [.int (iZ p), .int (iZ q), .int (iZ c)])), (wo, .inr (4, [.long (lZ b), .int (iZ n)]))] s.heap := hP
  refine lv_aload_n hx hb dX6_isCentral_0 rfl (lv_at hl 0 rfl) ?_
  refine va_get (D := G) (ci := 5) (v := .ref st) (C := RX6) (T := TX6) (N := 3) hx hb hts (by decide +kernel) hown hK hP 0 rfl rfl 2 (by decide) (hts (.fieldLink RX6 38 "SturmianWords" "state" "LSturmianWords$State;") (by decide +kernel)) (fun _ h9 => h9) rfl dX6_isCentral_1 ?_
  refine va_getN (D := G) (ci := 3) (v := .ref wo) (C := RX4) (T := TX4) (N := 2) hx hb hts (by decide +kernel) hown hK hP 1 rfl rfl 1 (by decide) (va_Nw.use rfl (hKK.2 (.fieldLinkNest RX6 96 "SturmianWords$State" "word" "LSturmianWords$Word;" "SturmianWords") (by decide +kernel))) (fun _ h9 => h9) rfl dX6_isCentral_4 ?_
  refine lv_astore_n (lv' := [(1, .ref wo), (0, .ref xa)]) hx hb dX6_isCentral_7 rfl hl (by decide) rfl (fun ls hl => ?_)
  refine lv_aload_n hx hb dX6_isCentral_8 rfl (lv_at hl 0 rfl) ?_
  refine va_getN (D := G) (ci := 4) (v := .int (iZ n)) (C := RX5) (T := TX5) (N := 2) hx hb hts (by decide +kernel) hown hK hP 3 rfl rfl 1 (by decide) (va_Nw.use rfl (hKK.2 (.fieldLinkNest RX6 93 "SturmianWords$Word" "size" "I" "SturmianWords") (by decide +kernel))) (fun _ h9 => h9) rfl dX6_isCentral_9 ?_
  refine lv_iconst (v := iZ 2) hx hb dX6_isCentral_12 rfl ?_
  refine z_iadd hx hb dX6_isCentral_13 ?_
  refine lv_istore_n (lv' := [(2, .int (iZ (n + 2))), (1, .ref wo), (0, .ref xa)]) hx hb dX6_isCentral_14 rfl hl (by decide) rfl (fun ls hl => ?_)
  refine lv_iconst (v := iZ 1) hx hb dX6_isCentral_15 rfl ?_
  refine lv_istore_n (lv' := [(3, .int (iZ 1)), (2, .int (iZ (n + 2))), (1, .ref wo), (0, .ref xa)]) hx hb dX6_isCentral_16 rfl hl (by decide) rfl (fun ls hl => ?_)
  refine z_loop1 (nL := 5) (fun (t : Int) => [(0, .ref xa), (1, .ref wo), (2, .int (iZ (n + 2))), (3, .int (iZ t))]) (fun (t : Int) => (1 ≤ t ∧ t ≤ n + 2) ∧ (∀ t9 : Int, 1 ≤ t9 → t9 < t → ¬ (1 ≤ t9 ∧ (Int.gcd t9 (n + 2 - t9) : Int) = 1 ∧ (n < t9 ∨ fct b n 0 (n - t9) = fct b n t9 (n - t9)) ∧ (n < (n + 2 - t9) ∨ fct b n 0 (n - (n + 2 - t9)) = fct b n (n + 2 - t9) (n - (n + 2 - t9)))))) (fun (t : Int) => n + 2 - t) (a1 := 1) ⟨(by omega), (fun _ _ _ => by omega)⟩ (lv_sub hl [3, 2, 1, 0] rfl) ?_
  rintro t ⟨i1, i2⟩ ih_17 ls hl
  refine lv_iload_n hx hb dX6_isCentral_17 rfl (lv_at hl 3 rfl) ?_
  refine lv_iload_n hx hb dX6_isCentral_18 rfl (lv_at hl 2 rfl) ?_
  refine z_icmp_ge (tgt := 62) hx hb dX6_isCentral_19 (by decide) (by omega) (fun c_19 => ?_) (fun c_19 => ?_)
  · refine lv_iconst (v := iZ 0) hx hb dX6_isCentral_62 rfl ?_
    exact z_iretP hx hb hr hlocks dX6_isCentral_63 ((bv_f (fun ⟨t9, q1, q2⟩ => i2 t9 q2.1 (by omega) q2)).symm)
  · refine lv_iload_n hx hb dX6_isCentral_22 rfl (lv_at hl 2 rfl) ?_
    refine lv_iload_n hx hb dX6_isCentral_23 rfl (lv_at hl 3 rfl) ?_
    refine z_isub hx hb dX6_isCentral_24 ?_
    refine lv_istore (lv' := [(4, .int (iZ ((n + 2) - t))), (0, .ref xa), (1, .ref wo), (2, .int (iZ (n + 2))), (3, .int (iZ t))]) hx hb dX6_isCentral_25 hl (by decide) rfl (fun ls hl => ?_)
    refine lv_aload_n hx hb dX6_isCentral_27 rfl (lv_at hl 2 rfl) ?_
    refine lv_iload_n hx hb dX6_isCentral_28 rfl (lv_at hl 4 rfl) ?_
    refine z_calli (va_runV (As := [.int (iZ t)]) (rest := []) ⟨hx, hb, hml, hown, hts⟩ (c_X5_hasPeriod lau G cy wo b n t (by first | omega | assumption) (by first | omega | assumption) (by first | omega | assumption)) (cwV 1 hts gX6_isCentral_X5_hasPeriod rfl rfl rfl (by decide +kernel) ⟨Nat.le_of_ble_eq_true rfl, Nat.le_of_ble_eq_true rfl⟩) ⟨P1_blind, va_recv hK hP (ci := 4) (q0 := 3) rfl rfl, P1_mk hKK (hP.sub [3] rfl)⟩ rfl rfl hl.1 rfl (lv_room (Nat.le_of_ble_eq_true rfl)) dX6_isCentral_29 ⟨Nat.le_refl 0, Nat.le_refl 0⟩) ?_
    refine z_ifB_eq (tgt := 56) hx hb dX6_isCentral_32 (by decide) (fun c_32 => ?_) (fun c_32 => ?_)
    · refine lv_iinc (v := iZ (t + 1)) (lv' := [(3, .int (iZ (t + 1))), (4, .int (iZ ((n + 2) - t))), (0, .ref xa), (1, .ref wo), (2, .int (iZ (n + 2)))]) hx hb dX6_isCentral_56 hl (k := 4) rfl (iZ_add _ _) (by decide) rfl (fun ls hl => ?_)
      refine lv_goto (tgt := 17) hx hb dX6_isCentral_59 (by decide) ?_
      exact ih_17 (t + 1) ⟨(by omega), (fun t9 q1 q2 => by rcases (show t9 < t ∨ t9 = t by omega) with q | q; (· exact i2 t9 q1 q); (· rw [q]; exact fun z => c_32 z.2.2.1))⟩ ⟨by omega, by omega⟩ _ (lv_sub hl [2, 3, 4, 0] rfl)
    · refine lv_aload_n hx hb dX6_isCentral_35 rfl (lv_at hl 2 rfl) ?_
      refine lv_iload hx hb dX6_isCentral_36 (lv_at hl 0 rfl) ?_
      refine z_calli (va_runV (As := [.int (iZ ((n + 2) - t))]) (rest := []) ⟨hx, hb, hml, hown, hts⟩ (c_X5_hasPeriod lau G cy wo b n ((n + 2) - t) (by first | omega | assumption) (by first | omega | assumption) (by first | omega | assumption)) (cwV 1 hts gX6_isCentral_X5_hasPeriod rfl rfl rfl (by decide +kernel) ⟨Nat.le_of_ble_eq_true rfl, Nat.le_of_ble_eq_true rfl⟩) ⟨P1_blind, va_recv hK hP (ci := 4) (q0 := 3) rfl rfl, P1_mk hKK (hP.sub [3] rfl)⟩ rfl rfl hl.1 rfl (lv_room (Nat.le_of_ble_eq_true rfl)) dX6_isCentral_38 ⟨Nat.le_refl 0, Nat.le_refl 0⟩) ?_
      refine z_ifB_eq (tgt := 56) hx hb dX6_isCentral_41 (by decide) (fun c_41 => ?_) (fun c_41 => ?_)
      · refine lv_iinc (v := iZ (t + 1)) (lv' := [(3, .int (iZ (t + 1))), (4, .int (iZ ((n + 2) - t))), (0, .ref xa), (1, .ref wo), (2, .int (iZ (n + 2)))]) hx hb dX6_isCentral_56 hl (k := 4) rfl (iZ_add _ _) (by decide) rfl (fun ls hl => ?_)
        refine lv_goto (tgt := 17) hx hb dX6_isCentral_59 (by decide) ?_
        exact ih_17 (t + 1) ⟨(by omega), (fun t9 q1 q2 => by rcases (show t9 < t ∨ t9 = t by omega) with q | q; (· exact i2 t9 q1 q); (· rw [q]; exact fun z => c_41 z.2.2.2))⟩ ⟨by omega, by omega⟩ _ (lv_sub hl [2, 3, 4, 0] rfl)
      · refine lv_iload_n hx hb dX6_isCentral_44 rfl (lv_at hl 4 rfl) ?_
        refine lv_iload hx hb dX6_isCentral_45 (lv_at hl 0 rfl) ?_
        refine z_calli (va_runS (As := [.int (iZ t), .int (iZ ((n + 2) - t))]) (rest := []) ⟨hx, hb, hml, hown, hts⟩ (c_X6_commonDivisor lau G cy t ((n + 2) - t) (by first | omega | assumption) (by first | omega | assumption)) (va_cwS 2 hts gX6_isCentral_X6_commonDivisor rfl rfl rfl (by decide +kernel) ⟨Nat.le_of_ble_eq_true rfl, Nat.le_of_ble_eq_true rfl⟩) ⟨P1_blind, P1_mk hKK (trivial)⟩ rfl rfl hl.1 rfl (lv_room (Nat.le_of_ble_eq_true rfl)) dX6_isCentral_47 ⟨Nat.le_refl 0, Nat.le_refl 0⟩) ?_
        refine lv_iconst (v := iZ 1) hx hb dX6_isCentral_50 rfl ?_
        have hgr := cd_r (a := t) (d := n + 2 - t) (by omega)
        refine z_icmp_ne (tgt := 56) hx hb dX6_isCentral_51 (by decide) (by omega) (fun c_51 => ?_) (fun c_51 => ?_)
        · refine lv_iinc (v := iZ (t + 1)) (lv' := [(3, .int (iZ (t + 1))), (4, .int (iZ ((n + 2) - t))), (0, .ref xa), (1, .ref wo), (2, .int (iZ (n + 2)))]) hx hb dX6_isCentral_56 hl (k := 4) rfl (iZ_add _ _) (by decide) rfl (fun ls hl => ?_)
          refine lv_goto (tgt := 17) hx hb dX6_isCentral_59 (by decide) ?_
          exact ih_17 (t + 1) ⟨(by omega), (fun t9 q1 q2 => by rcases (show t9 < t ∨ t9 = t by omega) with q | q; (· exact i2 t9 q1 q); (· rw [q]; exact fun z => c_51 z.2.1))⟩ ⟨by omega, by omega⟩ _ (lv_sub hl [2, 3, 4, 0] rfl)
        · refine lv_iconst (v := iZ 1) hx hb dX6_isCentral_54 rfl ?_
          exact z_iretP hx hb hr hlocks dX6_isCentral_55 ((bv_t ⟨t, by omega, by omega, c_51, c_32, c_41⟩).symm)
