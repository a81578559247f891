set_option maxHeartbeats 4000000 in
set_option maxRecDepth 100000 in
theorem c_X0_isPoint (lau : Launch) (G : va_G) (cy : Nat → ClassId) (ci pa ga : Nat) (pt : Int → Int) (x : Int) (hpt : ∀ x, 0 ≤ x → x < 1000 → pt x = 0 ∨ pt x = 1) (h1 : -2147483648 ≤ x ∧ x < 2147483648) : Met lau yX0_isPoint wsX0_isPoint ({ frames := 0, cells := 0, slots := 0, locals := 0 }) (P1 G cy [.ref ci, .int (iZ x)] (fun H => va_P G vwCl [(ci, .inr (0, [.ref pa, .ref ga])), (pa, .inl (cy 1, 1000, .inl (zf pt)))] H)) (vp_Si (fun r => r = iZ (bv ((0 ≤ x ∧ x < 1000) ∧ ¬ pt x = 0)))) 0 0 (fun _ => False) := by
  refine z_head (lv := [(0, .ref ci), (1, .int (iZ x))]) RX0 (by decide) rfl rfl (Nat.le_of_ble_eq_true rfl) rfl ?_
  intro pr ev s mt below meth cd ls hx hb hr hlocks hml hown hname hts hKK hP hl
  have hK := hKK.1
  have hP : va_P G vwCl [(ci, .inr (0, [.ref pa, .ref ga])), (pa, .inl (cy 1, 1000, .inl (zf pt)))] s.heap := hP
  refine lv_iload_n hx hb dX0_isPoint_0 rfl (lv_at hl 1 rfl) ?_
  refine z_if_lt (tgt := 26) hx hb dX0_isPoint_1 (by decide) (by omega) (fun c_1 => ?_) (fun c_1 => ?_)
  · refine lv_iconst (v := iZ 0) hx hb dX0_isPoint_26 rfl ?_
    exact z_zretP hx hb hr hlocks dX0_isPoint_27 ((bv_f (by omega)).symm)
  · refine lv_iload_n hx hb dX0_isPoint_4 rfl (lv_at hl 1 rfl) ?_
    refine lv_aload_n hx hb dX0_isPoint_5 rfl (lv_at hl 0 rfl) ?_
    refine va_get (D := G) (ci := 0) (v := .ref pa) (C := RX0) (T := TX0) (N := 2) hx hb hts (by decide +kernel) hown hK hP 0 rfl rfl 0 (by decide) (hts (.fieldLink RX0 9 "SturmianWords$Circle" "points" "[Z") (by decide +kernel)) (fun _ h9 => h9) rfl dX0_isPoint_6 ?_
    refine va_alen (v := iZ 1000) (D := G) hx hb hK hP 1 1 rfl rfl (show Int32.ofNat 1000 = iZ 1000 by decide +kernel) dX0_isPoint_9 ?_
    refine z_icmp_ge (tgt := 26) hx hb dX0_isPoint_10 (by decide) (by omega) (fun c_10 => ?_) (fun c_10 => ?_)
    · refine lv_iconst (v := iZ 0) hx hb dX0_isPoint_26 rfl ?_
      exact z_zretP hx hb hr hlocks dX0_isPoint_27 ((bv_f (by omega)).symm)
    · refine lv_aload_n hx hb dX0_isPoint_13 rfl (lv_at hl 0 rfl) ?_
      refine va_get (D := G) (ci := 0) (v := .ref pa) (C := RX0) (T := TX0) (N := 2) hx hb hts (by decide +kernel) hown hK hP 0 rfl rfl 0 (by decide) (hts (.fieldLink RX0 9 "SturmianWords$Circle" "points" "[Z") (by decide +kernel)) (fun _ h9 => h9) rfl dX0_isPoint_14 ?_
      refine lv_iload_n hx hb dX0_isPoint_17 rfl (lv_at hl 1 rfl) ?_
      refine z_zald (D := G) hx hb hK hP 1 1 rfl rfl (by omega) dX0_isPoint_18 ?_
      have hx0 := hpt x (by omega) (by omega)
      refine z_if_eq (tgt := 26) hx hb dX0_isPoint_19 (by decide) (by omega) (fun c_19 => ?_) (fun c_19 => ?_)
      · refine lv_iconst (v := iZ 0) hx hb dX0_isPoint_26 rfl ?_
        exact z_zretP hx hb hr hlocks dX0_isPoint_27 ((bv_f (fun z => z.2 c_19)).symm)
      · refine lv_iconst (v := iZ 1) hx hb dX0_isPoint_22 rfl ?_
        refine lv_goto (tgt := 27) hx hb dX0_isPoint_23 (by decide) ?_
        exact z_zretP hx hb hr hlocks dX0_isPoint_27 ((bv_t ⟨by omega, c_19⟩).symm)
set_option maxHeartbeats 4000000 in
set_option maxRecDepth 100000 in
theorem c_X0_gapsWith (lau : Launch) (G : va_G) (cy : Nat → ClassId) (ci pa ga : Nat) (gp : Int → Int) (z : Int) (h1 : -2147483648 ≤ z ∧ z < 2147483648) : Met lau yX0_gapsWith wsX0_gapsWith ({ frames := 0, cells := 0, slots := 0, locals := 0 }) (P1 G cy [.ref ci, .int (iZ z)] (fun H => va_P G vwCl [(ci, .inr (0, [.ref pa, .ref ga])), (ga, .inl (cy 0, 1001, .inl (zf gp)))] H)) (vp_Si (fun r => r = iZ (if 0 ≤ z ∧ z < 1001 then gp z else 0))) 0 0 (fun _ => False) := by
  refine z_head (lv := [(0, .ref ci), (1, .int (iZ z))]) RX0 (by decide) rfl rfl (Nat.le_of_ble_eq_true rfl) rfl ?_
  intro pr ev s mt below meth cd ls hx hb hr hlocks hml hown hname hts hKK hP hl
  have hK := hKK.1
  have hP : va_P G vwCl [(ci, .inr (0, [.ref pa, .ref ga])), (ga, .inl (cy 0, 1001, .inl (zf gp)))] s.heap := hP
  refine lv_iload_n hx hb dX0_gapsWith_0 rfl (lv_at hl 1 rfl) ?_
  refine z_if_lt (tgt := 22) hx hb dX0_gapsWith_1 (by decide) (by omega) (fun c_1 => ?_) (fun c_1 => ?_)
  · refine lv_iconst (v := iZ 0) hx hb dX0_gapsWith_22 rfl ?_
    exact z_iretP hx hb hr hlocks dX0_gapsWith_23 (by first | rw [if_neg (by omega)] | rw [if_pos (by omega)])
  · refine lv_iload_n hx hb dX0_gapsWith_4 rfl (lv_at hl 1 rfl) ?_
    refine lv_aload_n hx hb dX0_gapsWith_5 rfl (lv_at hl 0 rfl) ?_
    refine va_get (D := G) (ci := 0) (v := .ref ga) (C := RX0) (T := TX0) (N := 2) hx hb hts (by decide +kernel) hown hK hP 0 rfl rfl 1 (by decide) (hts (.fieldLink RX0 15 "SturmianWords$Circle" "gaps" "[I") (by decide +kernel)) (fun _ h9 => h9) rfl dX0_gapsWith_6 ?_
    refine va_alen (v := iZ 1001) (D := G) hx hb hK hP 1 0 rfl rfl (show Int32.ofNat 1001 = iZ 1001 by decide +kernel) dX0_gapsWith_9 ?_
    refine z_icmp_ge (tgt := 22) hx hb dX0_gapsWith_10 (by decide) (by omega) (fun c_10 => ?_) (fun c_10 => ?_)
    · refine lv_iconst (v := iZ 0) hx hb dX0_gapsWith_22 rfl ?_
      exact z_iretP hx hb hr hlocks dX0_gapsWith_23 (by first | rw [if_neg (by omega)] | rw [if_pos (by omega)])
    · refine lv_aload_n hx hb dX0_gapsWith_13 rfl (lv_at hl 0 rfl) ?_
      refine va_get (D := G) (ci := 0) (v := .ref ga) (C := RX0) (T := TX0) (N := 2) hx hb hts (by decide +kernel) hown hK hP 0 rfl rfl 1 (by decide) (hts (.fieldLink RX0 15 "SturmianWords$Circle" "gaps" "[I") (by decide +kernel)) (fun _ h9 => h9) rfl dX0_gapsWith_14 ?_
      refine lv_iload_n hx hb dX0_gapsWith_17 rfl (lv_at hl 1 rfl) ?_
      refine z_iald (D := G) hx hb hK hP 1 0 rfl rfl (by omega) dX0_gapsWith_18 ?_
      refine lv_goto (tgt := 23) hx hb dX0_gapsWith_19 (by decide) ?_
      exact z_iretP hx hb hr hlocks dX0_gapsWith_23 (by first | rw [if_neg (by omega)] | rw [if_pos (by omega)])
set_option maxHeartbeats 4000000 in
set_option maxRecDepth 100000 in
theorem c_X0_differentSizes (lau : Launch) (G : va_G) (cy : Nat → ClassId) (ci pa ga : Nat) (gp : Int → Int) (hgp : ∀ z, 0 ≤ z → z < 1001 → 0 ≤ gp z ∧ gp z ≤ 1000) : Met lau yX0_differentSizes wsX0_differentSizes ({ frames := 0, cells := 0, slots := 0, locals := 0 }) (P1 G cy [.ref ci] (fun H => va_P G vwCl [(ci, .inr (0, [.ref pa, .ref ga])), (ga, .inl (cy 0, 1001, .inl (zf gp)))] H)) (vp_Si (fun r => r = iZ (cnt (fun z => 1 ≤ z ∧ 0 < gp z) 1001))) 0 0 (fun _ => False) := by
  refine z_head (lv := [(0, .ref ci)]) RX0 (by decide) rfl rfl (Nat.le_of_ble_eq_true rfl) rfl ?_
  intro pr ev s mt below meth cd ls hx hb hr hlocks hml hown hname hts hKK hP hl
  have hK := hKK.1
  have hP : va_P G vwCl [(ci, .inr (0, [.ref pa, .ref ga])), (ga, .inl (cy 0, 1001, .inl (zf gp)))] s.heap := hP
  refine lv_iconst (v := iZ 0) hx hb dX0_differentSizes_0 rfl ?_
  refine lv_istore_n (lv' := [(1, .int (iZ 0)), (0, .ref ci)]) hx hb dX0_differentSizes_1 rfl hl (by decide) rfl (fun ls hl => ?_)
  refine lv_iconst (v := iZ 1) hx hb dX0_differentSizes_2 rfl ?_
  refine lv_istore_n (lv' := [(2, .int (iZ 1)), (1, .int (iZ 0)), (0, .ref ci)]) hx hb dX0_differentSizes_3 rfl hl (by decide) rfl (fun ls hl => ?_)
  refine z_loop2 (nL := 3) (fun (n : Int) (z : Int) => [(0, .ref ci), (1, .int (iZ n)), (2, .int (iZ z))]) (fun (n : Int) (z : Int) => (1 ≤ z ∧ z ≤ 1001) ∧ (n = cnt (fun z => 1 ≤ z ∧ 0 < gp z) z)) (fun (n : Int) (z : Int) => 1001 - z) (a1 := 0) (a2 := 1) ⟨(by omega), (((cnt_f (P := fun z => 1 ≤ z ∧ 0 < gp z) (N := 0) (Int.le_refl 0) (fun y => by have := y.1; omega)).trans (cnt_0 (Int.le_refl 0))).symm)⟩ (lv_sub hl [2, 1, 0] rfl) ?_
  rintro n z ⟨i1, i2⟩ ih_4 ls hl
  have hr1 := cnt_le (P := fun z => 1 ≤ z ∧ 0 < gp z) (show 0 ≤ z by omega)
  refine lv_iload_n hx hb dX0_differentSizes_4 rfl (lv_at hl 2 rfl) ?_
  refine lv_aload_n hx hb dX0_differentSizes_5 rfl (lv_at hl 0 rfl) ?_
  refine va_get (D := G) (ci := 0) (v := .ref ga) (C := RX0) (T := TX0) (N := 2) hx hb hts (by decide +kernel) hown hK hP 0 rfl rfl 1 (by decide) (hts (.fieldLink RX0 15 "SturmianWords$Circle" "gaps" "[I") (by decide +kernel)) (fun _ h9 => h9) rfl dX0_differentSizes_6 ?_
  refine va_alen (v := iZ 1001) (D := G) hx hb hK hP 1 0 rfl rfl (show Int32.ofNat 1001 = iZ 1001 by decide +kernel) dX0_differentSizes_9 ?_
  refine z_icmp_ge (tgt := 31) hx hb dX0_differentSizes_10 (by decide) (by omega) (fun c_10 => ?_) (fun c_10 => ?_)
  · refine lv_iload_n hx hb dX0_differentSizes_31 rfl (lv_at hl 1 rfl) ?_
    exact z_iretP hx hb hr hlocks dX0_differentSizes_32 (by rw [i2, show z = 1001 by omega])
  · refine lv_aload_n hx hb dX0_differentSizes_13 rfl (lv_at hl 0 rfl) ?_
    refine va_get (D := G) (ci := 0) (v := .ref ga) (C := RX0) (T := TX0) (N := 2) hx hb hts (by decide +kernel) hown hK hP 0 rfl rfl 1 (by decide) (hts (.fieldLink RX0 15 "SturmianWords$Circle" "gaps" "[I") (by decide +kernel)) (fun _ h9 => h9) rfl dX0_differentSizes_14 ?_
    refine lv_iload_n hx hb dX0_differentSizes_17 rfl (lv_at hl 2 rfl) ?_
    refine z_iald (D := G) hx hb hK hP 1 0 rfl rfl (by omega) dX0_differentSizes_18 ?_
    have hg9 := hgp z (by omega) (by omega)
    refine z_if_le (tgt := 25) hx hb dX0_differentSizes_19 (by decide) (by omega) (fun c_19 => ?_) (fun c_19 => ?_)
    · refine lv_iinc (v := iZ (z + 1)) (lv' := [(2, .int (iZ (z + 1))), (0, .ref ci), (1, .int (iZ n))]) hx hb dX0_differentSizes_25 hl (k := 2) rfl (iZ_add _ _) (by decide) rfl (fun ls hl => ?_)
      refine lv_goto (tgt := 4) hx hb dX0_differentSizes_28 (by decide) ?_
      exact ih_4 n (z + 1) ⟨(by omega), (by rw [cnt_f (P := fun z => 1 ≤ z ∧ 0 < gp z) (by omega) (fun y => by have := y.2; omega)]; exact i2)⟩ ⟨by omega, by omega⟩ _ (lv_sub hl [1, 2, 0] rfl)
    · refine lv_iinc (v := iZ (n + 1)) (lv' := [(1, .int (iZ (n + 1))), (0, .ref ci), (2, .int (iZ z))]) hx hb dX0_differentSizes_22 hl (k := 1) rfl (iZ_add _ _) (by decide) rfl (fun ls hl => ?_)
      refine lv_iinc (v := iZ (z + 1)) (lv' := [(2, .int (iZ (z + 1))), (1, .int (iZ (n + 1))), (0, .ref ci)]) hx hb dX0_differentSizes_25 hl (k := 2) rfl (iZ_add _ _) (by decide) rfl (fun ls hl => ?_)
      refine lv_goto (tgt := 4) hx hb dX0_differentSizes_28 (by decide) ?_
      exact ih_4 (n + 1) (z + 1) ⟨(by omega), (by rw [cnt_t (P := fun z => 1 ≤ z ∧ 0 < gp z) (by omega) ⟨by omega, by omega⟩, i2])⟩ ⟨by omega, by omega⟩ _ (lv_sub hl [2, 1, 0] rfl)
set_option maxHeartbeats 4000000 in
set_option maxRecDepth 100000 in
theorem c_X0_listedSize (lau : Launch) (G : va_G) (cy : Nat → ClassId) (ci pa ga : Nat) (gp : Int → Int) (ix : Int) (hgp : ∀ z, 0 ≤ z → z < 1001 → 0 ≤ gp z ∧ gp z ≤ 1000) (h1 : 0 ≤ ix ∧ ix < 2147483648) : Met lau yX0_listedSize wsX0_listedSize ({ frames := 0, cells := 0, slots := 0, locals := 0 }) (P1 G cy [.ref ci, .int (iZ ix)] (fun H => va_P G vwCl [(ci, .inr (0, [.ref pa, .ref ga])), (ga, .inl (cy 0, 1001, .inl (zf gp)))] H)) (vp_Si (fun r => r = iZ (fnd (fun s => (1 ≤ s ∧ 0 < gp s) ∧ cnt (fun z => 1 ≤ z ∧ 0 < gp z) s = ix) 1001))) 0 0 (fun _ => False) := by
  refine z_head (lv := [(0, .ref ci), (1, .int (iZ ix))]) RX0 (by decide) rfl rfl (Nat.le_of_ble_eq_true rfl) rfl ?_
  intro pr ev s mt below meth cd ls hx hb hr hlocks hml hown hname hts hKK hP hl
  have hK := hKK.1
  have hP : va_P G vwCl [(ci, .inr (0, [.ref pa, .ref ga])), (ga, .inl (cy 0, 1001, .inl (zf gp)))] s.heap := hP
  refine lv_iconst (v := iZ 0) hx hb dX0_listedSize_0 rfl ?_
  refine lv_istore_n (lv' := [(2, .int (iZ 0)), (0, .ref ci), (1, .int (iZ ix))]) hx hb dX0_listedSize_1 rfl hl (by decide) rfl (fun ls hl => ?_)
  refine lv_iconst (v := iZ 1) hx hb dX0_listedSize_2 rfl ?_
  refine lv_istore_n (lv' := [(3, .int (iZ 1)), (2, .int (iZ 0)), (0, .ref ci), (1, .int (iZ ix))]) hx hb dX0_listedSize_3 rfl hl (by decide) rfl (fun ls hl => ?_)
  refine z_loop2 (nL := 4) (fun (n : Int) (z : Int) => [(0, .ref ci), (1, .int (iZ ix)), (2, .int (iZ n)), (3, .int (iZ z))]) (fun (n : Int) (z : Int) => (1 ≤ z ∧ z ≤ 1001) ∧ (n = cnt (fun z => 1 ≤ z ∧ 0 < gp z) z) ∧ (fnd (fun s => (1 ≤ s ∧ 0 < gp s) ∧ cnt (fun z => 1 ≤ z ∧ 0 < gp z) s = ix) z = -1)) (fun (n : Int) (z : Int) => 1001 - z) (a1 := 0) (a2 := 1) ⟨(by omega), (((cnt_f (P := fun z => 1 ≤ z ∧ 0 < gp z) (N := 0) (Int.le_refl 0) (fun y => by have := y.1; omega)).trans (cnt_0 (Int.le_refl 0))).symm), (fnd_miss (i := 0) (Int.le_refl 0) (fnd_0 (Int.le_refl 0)) (fun y => by have := y.1.1; omega))⟩ (lv_sub hl [2, 3, 1, 0] rfl) ?_
  rintro n z ⟨i1, i2, i3⟩ ih_4 ls hl
  have hr1 := cnt_le (P := fun z => 1 ≤ z ∧ 0 < gp z) (show 0 ≤ z by omega)
  refine lv_iload_n hx hb dX0_listedSize_4 rfl (lv_at hl 3 rfl) ?_
  refine lv_aload_n hx hb dX0_listedSize_5 rfl (lv_at hl 0 rfl) ?_
  refine va_get (D := G) (ci := 0) (v := .ref ga) (C := RX0) (T := TX0) (N := 2) hx hb hts (by decide +kernel) hown hK hP 0 rfl rfl 1 (by decide) (hts (.fieldLink RX0 15 "SturmianWords$Circle" "gaps" "[I") (by decide +kernel)) (fun _ h9 => h9) rfl dX0_listedSize_6 ?_
  refine va_alen (v := iZ 1001) (D := G) hx hb hK hP 1 0 rfl rfl (show Int32.ofNat 1001 = iZ 1001 by decide +kernel) dX0_listedSize_9 ?_
  refine z_icmp_ge (tgt := 38) hx hb dX0_listedSize_10 (by decide) (by omega) (fun c_10 => ?_) (fun c_10 => ?_)
  · refine lv_iconst (v := iZ (-1)) hx hb dX0_listedSize_38 rfl ?_
    exact z_iretP hx hb hr hlocks dX0_listedSize_39 ((fnd_eq i3 (by omega)).symm)
  · refine lv_aload_n hx hb dX0_listedSize_13 rfl (lv_at hl 0 rfl) ?_
    refine va_get (D := G) (ci := 0) (v := .ref ga) (C := RX0) (T := TX0) (N := 2) hx hb hts (by decide +kernel) hown hK hP 0 rfl rfl 1 (by decide) (hts (.fieldLink RX0 15 "SturmianWords$Circle" "gaps" "[I") (by decide +kernel)) (fun _ h9 => h9) rfl dX0_listedSize_14 ?_
    refine lv_iload_n hx hb dX0_listedSize_17 rfl (lv_at hl 3 rfl) ?_
    refine z_iald (D := G) hx hb hK hP 1 0 rfl rfl (by omega) dX0_listedSize_18 ?_
    have hg9 := hgp z (by omega) (by omega)
    refine z_if_le (tgt := 32) hx hb dX0_listedSize_19 (by decide) (by omega) (fun c_19 => ?_) (fun c_19 => ?_)
    · refine lv_iinc (v := iZ (z + 1)) (lv' := [(3, .int (iZ (z + 1))), (0, .ref ci), (1, .int (iZ ix)), (2, .int (iZ n))]) hx hb dX0_listedSize_32 hl (k := 3) rfl (iZ_add _ _) (by decide) rfl (fun ls hl => ?_)
      refine lv_goto (tgt := 4) hx hb dX0_listedSize_35 (by decide) ?_
      exact ih_4 n (z + 1) ⟨(by omega), (by rw [cnt_f (P := fun z => 1 ≤ z ∧ 0 < gp z) (by omega) (fun y => by have := y.2; omega)]; exact i2), (fnd_miss (by omega) i3 (fun x => by have := x.1.2; omega))⟩ ⟨by omega, by omega⟩ _ (lv_sub hl [1, 2, 3, 0] rfl)
    · refine lv_iload_n hx hb dX0_listedSize_22 rfl (lv_at hl 2 rfl) ?_
      refine lv_iload_n hx hb dX0_listedSize_23 rfl (lv_at hl 1 rfl) ?_
      refine z_icmp_ne (tgt := 29) hx hb dX0_listedSize_24 (by decide) (by omega) (fun c_24 => ?_) (fun c_24 => ?_)
      · refine lv_iinc (v := iZ (n + 1)) (lv' := [(2, .int (iZ (n + 1))), (0, .ref ci), (1, .int (iZ ix)), (3, .int (iZ z))]) hx hb dX0_listedSize_29 hl (k := 2) rfl (iZ_add _ _) (by decide) rfl (fun ls hl => ?_)
        refine lv_iinc (v := iZ (z + 1)) (lv' := [(3, .int (iZ (z + 1))), (2, .int (iZ (n + 1))), (0, .ref ci), (1, .int (iZ ix))]) hx hb dX0_listedSize_32 hl (k := 3) rfl (iZ_add _ _) (by decide) rfl (fun ls hl => ?_)
        refine lv_goto (tgt := 4) hx hb dX0_listedSize_35 (by decide) ?_
        exact ih_4 (n + 1) (z + 1) ⟨(by omega), (by rw [cnt_t (P := fun z => 1 ≤ z ∧ 0 < gp z) (by omega) ⟨by omega, by omega⟩, i2]), (fnd_miss (by omega) i3 (fun x => c_24 (by rw [i2]; exact x.2)))⟩ ⟨by omega, by omega⟩ _ (lv_sub hl [2, 3, 1, 0] rfl)
      · refine lv_iload_n hx hb dX0_listedSize_27 rfl (lv_at hl 3 rfl) ?_
        exact z_iretP hx hb hr hlocks dX0_listedSize_28 (by rw [fnd_hit (P := fun s => (1 ≤ s ∧ 0 < gp s) ∧ cnt (fun z => 1 ≤ z ∧ 0 < gp z) s = ix) (i := z) (by omega) i3 ⟨⟨by omega, by omega⟩, by omega⟩ (by omega)])
set_option maxHeartbeats 4000000 in
set_option maxRecDepth 100000 in
theorem c_X0_addGap (lau : Launch) (G : va_G) (cy : Nat → ClassId) (ci pa ga : Nat) (sz : Nat) (gp : Int → Int) (z : Int) (h1 : 0 ≤ z ∧ z < 1001) : Met lau yX0_addGap wsX0_addGap ({ frames := 0, cells := 0, slots := 0, locals := 0 }) (P1 G cy [.ref ci, .int (iZ z)] (fun H => H.size = sz ∧ va_P G vwCl [(ci, .inr (0, [.ref pa, .ref ga])), (ga, .inl (cy 0, 1001, .inl (zf gp)))] H ∧ va_D (fun _ => True) [(ci, .inr (0, [.ref pa, .ref ga])), (ga, .inl (cy 0, 1001, .inl (zf gp)))])) (Q1 (fun rv H0 H1 => rv = none ∧ (True) ∧ va_P G vwCl [(ci, .inr (0, [.ref pa, .ref ga])), (ga, .inl (cy 0, 1001, .inl (zf (up1 gp z (gp z + 1)))))] H1 ∧ va_D (va_A [(ci, .inr (0, [.ref pa, .ref ga])), (ga, .inl (cy 0, 1001, .inl (zf gp)))] sz) [(ci, .inr (0, [.ref pa, .ref ga])), (ga, .inl (cy 0, 1001, .inl (zf (up1 gp z (gp z + 1)))))] ∧ Fh (va_A [(ci, .inr (0, [.ref pa, .ref ga])), (ga, .inl (cy 0, 1001, .inl (zf gp)))] sz) H0 H1)) 0 0 (va_A [(ci, .inr (0, [.ref pa, .ref ga])), (ga, .inl (cy 0, 1001, .inl (zf gp)))] sz) := by
  refine z_head (lv := [(0, .ref ci), (1, .int (iZ z))]) RX0 (by decide) rfl rfl (Nat.le_of_ble_eq_true rfl) rfl ?_
  intro pr ev s mt below meth cd ls hx hb hr hlocks hml hown hname hts hKK hP hl
  have hK := hKK.1
  obtain ⟨hsz, hP, hD0⟩ := hP
  subst hsz
  have hD := hD0.self (sz := s.heap.size)
  generalize hAe : va_A [(ci, .inr (0, [.ref pa, .ref ga])), (ga, .inl (cy 0, 1001, .inl (zf gp)))] s.heap.size = A at hD ⊢
  have hA : ∀ q : Nat, s.heap.size ≤ q → A q := fun q h => by rw [← hAe]; exact Or.inr h
  have hS : va_S A s.heap s.heap [] := va_S.rf
  have hP : va_P G vwCl [(ci, .inr (0, [.ref pa, .ref ga])), (ga, .inl (cy 0, 1001, .inl (zf gp)))] s.heap := hP
  refine lv_iload_n hx hb dX0_addGap_0 rfl (lv_at hl 1 rfl) ?_
  refine z_if_lt (tgt := 23) hx hb dX0_addGap_1 (by decide) (by omega) (fun c_1 => ?_) (fun c_1 => ?_)
  · exfalso; omega
  · refine lv_iload_n hx hb dX0_addGap_4 rfl (lv_at hl 1 rfl) ?_
    refine lv_aload_n hx hb dX0_addGap_5 rfl (lv_at hl 0 rfl) ?_
    refine va_get (D := G) (ci := 0) (v := .ref ga) (C := RX0) (T := TX0) (N := 2) hx hb hts (by decide +kernel) hown hK hP 0 rfl rfl 1 (by decide) (hts (.fieldLink RX0 15 "SturmianWords$Circle" "gaps" "[I") (by decide +kernel)) (fun _ h9 => h9) rfl dX0_addGap_6 ?_
    refine va_alen (v := iZ 1001) (D := G) hx hb hK hP 1 0 rfl rfl (show Int32.ofNat 1001 = iZ 1001 by decide +kernel) dX0_addGap_9 ?_
    refine z_icmp_ge (tgt := 23) hx hb dX0_addGap_10 (by decide) (by omega) (fun c_10 => ?_) (fun c_10 => ?_)
    · exfalso; omega
    · refine lv_aload_n hx hb dX0_addGap_13 rfl (lv_at hl 0 rfl) ?_
      refine va_get (D := G) (ci := 0) (v := .ref ga) (C := RX0) (T := TX0) (N := 2) hx hb hts (by decide +kernel) hown hK hP 0 rfl rfl 1 (by decide) (hts (.fieldLink RX0 15 "SturmianWords$Circle" "gaps" "[I") (by decide +kernel)) (fun _ h9 => h9) rfl dX0_addGap_14 ?_
      refine lv_iload_n hx hb dX0_addGap_17 rfl (lv_at hl 1 rfl) ?_
      refine lv_dup2_11 hx hb dX0_addGap_18 rfl rfl ?_
      refine z_iald (D := G) hx hb hK hP 1 0 rfl rfl (by omega) dX0_addGap_19 ?_
      refine lv_iconst (v := iZ 1) hx hb dX0_addGap_20 rfl ?_
      refine z_iadd hx hb dX0_addGap_21 ?_
      refine z_iast (D := G) hx hb hK hP hD hS 1 0 rfl rfl (by omega) dX0_addGap_22 (fun H locs hP hD hS => ?_)
      have hP : va_P G vwCl [(ci, .inr (0, [.ref pa, .ref ga])), (ga, .inl (cy 0, 1001, .inl (zf (up1 gp z ((gp z) + 1)))))] H := hP
      have hD : va_D A [(ci, .inr (0, [.ref pa, .ref ga])), (ga, .inl (cy 0, 1001, .inl (zf (up1 gp z ((gp z) + 1)))))] := hD
      exact z_vretE hx hb hr hlocks dX0_addGap_23 hS.2.2 ⟨(show 0 ≤ 0 by omega), (show 0 ≤ 0 by omega)⟩ ⟨(rfl), (trivial), (hP), (hD), Fh.of hS⟩
set_option maxHeartbeats 4000000 in
set_option maxRecDepth 100000 in
theorem c_J7_fill_53178 (lau : Launch) (G : va_G) (cy : Nat → ClassId) (ga : Nat) (sz : Nat) (gp : Int → Int) (v9 : Int)  : Met lau yJ7_fill_53178 wsJ7_fill_53178 ({ frames := 0, cells := 0, slots := 0, locals := 0 }) (P1 G cy [.ref ga, .int (iZ v9)] (fun H => H.size = sz ∧ va_P G vwCl [(ga, .inl (cy 0, 1001, .inl (zf gp)))] H ∧ va_D (fun _ => True) [(ga, .inl (cy 0, 1001, .inl (zf gp)))])) (Q1 (fun rv H0 H1 => rv = none ∧ (True) ∧ va_P G vwCl [(ga, .inl (cy 0, 1001, .inl (zf (flF gp v9 1001))))] H1 ∧ va_D (va_A [(ga, .inl (cy 0, 1001, .inl (zf gp)))] sz) [(ga, .inl (cy 0, 1001, .inl (zf (flF gp v9 1001))))] ∧ Fh (va_A [(ga, .inl (cy 0, 1001, .inl (zf gp)))] sz) H0 H1)) 0 0 (va_A [(ga, .inl (cy 0, 1001, .inl (zf gp)))] sz) := by
  refine z_head (lv := [(0, .ref ga), (1, .int (iZ v9))]) RJ7 (by decide) rfl rfl (Nat.le_of_ble_eq_true rfl) rfl ?_
  intro pr ev s mt below meth cd ls hx hb hr hlocks hml hown hname hts hKK hP hl
  have hK := hKK.1
  obtain ⟨hsz, hP, hD0⟩ := hP
  subst hsz
  have hD := hD0.self (sz := s.heap.size)
  generalize hAe : va_A [(ga, .inl (cy 0, 1001, .inl (zf gp)))] s.heap.size = A at hD ⊢
  have hA : ∀ q : Nat, s.heap.size ≤ q → A q := fun q h => by rw [← hAe]; exact Or.inr h
  have hS : va_S A s.heap s.heap [] := va_S.rf
  have hP : va_P G vwCl [(ga, .inl (cy 0, 1001, .inl (zf gp)))] s.heap := hP
  refine lv_iconst (v := iZ 0) hx hb dJ7_fill_53178_0 rfl ?_
  refine lv_istore_n (lv' := [(2, .int (iZ 0)), (0, .ref ga), (1, .int (iZ v9))]) hx hb dJ7_fill_53178_1 rfl hl (by decide) rfl (fun ls hl => ?_)
  refine lv_aload_n hx hb dJ7_fill_53178_2 rfl (lv_at hl 1 rfl) ?_
  refine va_alen (v := iZ 1001) (D := G) hx hb hK hP 0 0 rfl rfl (show Int32.ofNat 1001 = iZ 1001 by decide +kernel) dJ7_fill_53178_3 ?_
  refine lv_istore_n (lv' := [(3, .int (iZ 1001)), (2, .int (iZ 0)), (0, .ref ga), (1, .int (iZ v9))]) hx hb dJ7_fill_53178_4 rfl hl (by decide) rfl (fun ls hl => ?_)
  rw [← flF_0 gp v9] at hP hD
  refine z_loopH1 (nL := 4) (A := A) (fun (k : Int) => [(0, .ref ga), (1, .int (iZ v9)), (2, .int (iZ k)), (3, .int (iZ 1001))]) (fun (k : Int) (H : Heap) => ((0 ≤ k ∧ k ≤ 1001)) ∧ va_P G vwCl [(ga, .inl (cy 0, 1001, .inl (zf (flF gp v9 k))))] H ∧ va_D A [(ga, .inl (cy 0, 1001, .inl (zf (flF gp v9 k))))] ∧ Fh A s.heap H) (fun (k : Int) => 1001 - k) (fun (k : Int) => 0) (fun (k : Int) => 0) (a1 := 0) ⟨(by omega), hP, hD, Fh.of hS⟩ hS.2.2 (lv_sub hl [2, 3, 1, 0] rfl) ?_
  rintro k H locs ⟨i1, hP, hD, hFr⟩ hLc ih_5 ls hl
  have hS : va_S A s.heap H locs := Fh.S hFr hLc
  refine lv_iload_n hx hb dJ7_fill_53178_5 rfl (lv_at hl 2 rfl) ?_
  refine lv_iload_n hx hb dJ7_fill_53178_6 rfl (lv_at hl 3 rfl) ?_
  refine z_icmp_ge (tgt := 20) hx hb dJ7_fill_53178_7 (by decide) (by omega) (fun c_7 => ?_) (fun c_7 => ?_)
  · rw [show k = 1001 by omega] at hP hD
    exact z_vretE hx hb hr hlocks dJ7_fill_53178_20 hS.2.2 ⟨(show 0 ≤ 0 by omega), (show 0 ≤ 0 by omega)⟩ ⟨(rfl), (trivial), (hP), (hD), Fh.of hS⟩
  · refine lv_aload_n hx hb dJ7_fill_53178_10 rfl (lv_at hl 0 rfl) ?_
    refine lv_iload_n hx hb dJ7_fill_53178_11 rfl (lv_at hl 2 rfl) ?_
    refine lv_iload_n hx hb dJ7_fill_53178_12 rfl (lv_at hl 1 rfl) ?_
    refine z_iast (D := G) hx hb hK hP hD hS 0 0 rfl rfl (by omega) dJ7_fill_53178_13 (fun H locs hP hD hS => ?_)
    have hP : va_P G vwCl [(ga, .inl (cy 0, 1001, .inl (zf (up1 (flF gp v9 k) k v9))))] H := hP
    have hD : va_D A [(ga, .inl (cy 0, 1001, .inl (zf (up1 (flF gp v9 k) k v9))))] := hD
    rw [show (up1 (flF gp v9 k) k v9) = (flF gp v9 (k + 1)) from flF_s (by omega)] at hP hD
    refine lv_iinc (v := iZ (k + 1)) (lv' := [(2, .int (iZ (k + 1))), (0, .ref ga), (1, .int (iZ v9)), (3, .int (iZ 1001))]) hx hb dJ7_fill_53178_14 hl (k := 2) rfl (iZ_add _ _) (by decide) rfl (fun ls hl => ?_)
    refine lv_goto (tgt := 5) hx hb dJ7_fill_53178_17 (by decide) ?_
    exact ih_5 (k + 1) _ _ ⟨(by omega), hP, hD, Fh.of hS⟩ hS.2.2 ⟨by omega, by omega⟩ _ (lv_sub hl [1, 2, 0, 3] rfl)
set_option maxHeartbeats 4000000 in
set_option maxRecDepth 100000 in
theorem c_X0_markPoints (lau : Launch) (G : va_G) (cy : Nat → ClassId) (ci pa ga sl : Nat) (sz : Nat) (p q c : Int) (pt : Int → Int) (m : Int) (hp : 0 ≤ p ∧ p ≤ q) (hq : 0 < q ∧ q ≤ 1000) (h1 : 1 ≤ m ∧ m ≤ 1000) : Met lau yX0_markPoints wsX0_markPoints ({ frames := 0, cells := 0, slots := 0, locals := 0 }) (P1 G cy [.ref ci, .ref sl, .int (iZ m)] (fun H => H.size = sz ∧ va_P G vwCl [(ci, .inr (0, [.ref pa, .ref ga])), (pa, .inl (cy 1, 1000, .inl (zf pt)))] H ∧ va_D (fun _ => True) [(ci, .inr (0, [.ref pa, .ref ga])), (pa, .inl (cy 1, 1000, .inl (zf pt)))] ∧ va_P G vwCl [(sl, .inr (2, [.int (iZ p), .int (iZ q), .int (iZ c)]))] H ∧ NA (va_A [(ci, .inr (0, [.ref pa, .ref ga])), (pa, .inl (cy 1, 1000, .inl (zf pt)))] sz) [(sl, .inr (2, [.int (iZ p), .int (iZ q), .int (iZ c)]))])) (Q1 (fun rv H0 H1 => rv = none ∧ (True) ∧ va_P G vwCl [(ci, .inr (0, [.ref pa, .ref ga])), (pa, .inl (cy 1, 1000, .inl (zf (lyC pt p q m))))] H1 ∧ va_D (va_A [(ci, .inr (0, [.ref pa, .ref ga])), (pa, .inl (cy 1, 1000, .inl (zf pt)))] sz) [(ci, .inr (0, [.ref pa, .ref ga])), (pa, .inl (cy 1, 1000, .inl (zf (lyC pt p q m))))] ∧ Fh (va_A [(ci, .inr (0, [.ref pa, .ref ga])), (pa, .inl (cy 1, 1000, .inl (zf pt)))] sz) H0 H1)) 0 0 (va_A [(ci, .inr (0, [.ref pa, .ref ga])), (pa, .inl (cy 1, 1000, .inl (zf pt)))] sz) := by
  refine z_head (lv := [(0, .ref ci), (1, .ref sl), (2, .int (iZ m))]) RX0 (by decide) rfl rfl (Nat.le_of_ble_eq_true rfl) rfl ?_
  intro pr ev s mt below meth cd ls hx hb hr hlocks hml hown hname hts hKK hP hl
  have hK := hKK.1
  obtain ⟨hsz, hP, hD0, hI0, hIA⟩ := hP
  subst hsz
  have hD := hD0.self (sz := s.heap.size)
  generalize hAe : va_A [(ci, .inr (0, [.ref pa, .ref ga])), (pa, .inl (cy 1, 1000, .inl (zf pt)))] s.heap.size = A at hD hIA ⊢
  have hA : ∀ q : Nat, s.heap.size ≤ q → A q := fun q h => by rw [← hAe]; exact Or.inr h
  have hS : va_S A s.heap s.heap [] := va_S.rf
  have hP : va_P G vwCl [(ci, .inr (0, [.ref pa, .ref ga])), (pa, .inl (cy 1, 1000, .inl (zf pt)))] s.heap := hP
  have hI : va_P G vwCl [(sl, .inr (2, [.int (iZ p), .int (iZ q), .int (iZ c)]))] s.heap := hI0
  refine lv_iconst (v := iZ 0) hx hb dX0_markPoints_0 rfl ?_
  refine lv_istore_n (lv' := [(3, .int (iZ 0)), (0, .ref ci), (1, .ref sl), (2, .int (iZ m))]) hx hb dX0_markPoints_1 rfl hl (by decide) rfl (fun ls hl => ?_)
  rw [← clP_0 pt] at hP hD
  refine z_loopH1 (nL := 5) (A := A) (fun (k : Int) => [(0, .ref ci), (1, .ref sl), (2, .int (iZ m)), (3, .int (iZ k))]) (fun (k : Int) (H : Heap) => ((0 ≤ k ∧ k ≤ 1000)) ∧ va_P G vwCl [(ci, .inr (0, [.ref pa, .ref ga])), (pa, .inl (cy 1, 1000, .inl (zf (clP pt k))))] H ∧ va_D A [(ci, .inr (0, [.ref pa, .ref ga])), (pa, .inl (cy 1, 1000, .inl (zf (clP pt k))))] ∧ Fh A s.heap H) (fun (k : Int) => 1000 - k) (fun (k : Int) => 0) (fun (k : Int) => 0) (a1 := 0) ⟨(by omega), hP, hD, Fh.of hS⟩ hS.2.2 (lv_sub hl [1, 2, 3, 0] rfl) ?_
  rintro k H locs ⟨i1, hP, hD, hFr⟩ hLc ih_2 ls hl
  have hS : va_S A s.heap H locs := Fh.S hFr hLc
  have hI : va_P G vwCl [(sl, .inr (2, [.int (iZ p), .int (iZ q), .int (iZ c)]))] H := im_keep2 hI0 hIA (Fh.of hS)
  refine lv_iload_n hx hb dX0_markPoints_2 rfl (lv_at hl 3 rfl) ?_
  refine lv_aload_n hx hb dX0_markPoints_3 rfl (lv_at hl 0 rfl) ?_
  refine va_get (D := G) (ci := 0) (v := .ref pa) (C := RX0) (T := TX0) (N := 2) hx hb hts (by decide +kernel) hown hK hP 0 rfl rfl 0 (by decide) (hts (.fieldLink RX0 9 "SturmianWords$Circle" "points" "[Z") (by decide +kernel)) (fun _ h9 => h9) rfl dX0_markPoints_4 ?_
  refine va_alen (v := iZ 1000) (D := G) hx hb hK hP 1 1 rfl rfl (show Int32.ofNat 1000 = iZ 1000 by decide +kernel) dX0_markPoints_7 ?_
  refine z_icmp_ge (tgt := 24) hx hb dX0_markPoints_8 (by decide) (by omega) (fun c_8 => ?_) (fun c_8 => ?_)
  · rw [show k = 1000 by omega] at hP hD
    refine lv_iconst (v := iZ 0) hx hb dX0_markPoints_24 rfl ?_
    refine lv_istore_n (lv' := [(3, .int (iZ 0)), (0, .ref ci), (1, .ref sl), (2, .int (iZ m))]) hx hb dX0_markPoints_25 rfl hl (by decide) rfl (fun ls hl => ?_)
    refine lv_iconst (v := iZ 0) hx hb dX0_markPoints_26 rfl ?_
    refine lv_istore (lv' := [(4, .int (iZ 0)), (3, .int (iZ 0)), (0, .ref ci), (1, .ref sl), (2, .int (iZ m))]) hx hb dX0_markPoints_27 hl (by decide) rfl (fun ls hl => ?_)
    rw [← lyC_0 pt p q] at hP hD
    refine z_loopH2 (nL := 5) (A := A) (fun (x : Int) (j : Int) => [(0, .ref ci), (1, .ref sl), (2, .int (iZ m)), (3, .int (iZ x)), (4, .int (iZ j))]) (fun (x : Int) (j : Int) (H : Heap) => ((0 ≤ j ∧ j ≤ m) ∧ (x = j * p % q) ∧ (0 ≤ x ∧ x < q)) ∧ va_P G vwCl [(ci, .inr (0, [.ref pa, .ref ga])), (pa, .inl (cy 1, 1000, .inl (zf (lyC pt p q j))))] H ∧ va_D A [(ci, .inr (0, [.ref pa, .ref ga])), (pa, .inl (cy 1, 1000, .inl (zf (lyC pt p q j))))] ∧ Fh A s.heap H) (fun (x : Int) (j : Int) => m - j) (fun (x : Int) (j : Int) => 0) (fun (x : Int) (j : Int) => 0) (a1 := 0) (a2 := 0) ⟨⟨(by omega), (by rw [Int.zero_mul, Int.zero_emod]), (by omega)⟩, hP, hD, Fh.of hS⟩ hS.2.2 (lv_sub hl [2, 3, 4, 1, 0] rfl) ?_
    rintro x j H locs ⟨⟨j1, j2, j3⟩, hP, hD, hFr⟩ hLc ih_29 ls hl
    have hS : va_S A s.heap H locs := Fh.S hFr hLc
    have hI : va_P G vwCl [(sl, .inr (2, [.int (iZ p), .int (iZ q), .int (iZ c)]))] H := im_keep2 hI0 hIA (Fh.of hS)
    refine lv_iload hx hb dX0_markPoints_29 (lv_at hl 4 rfl) ?_
    refine lv_iload_n hx hb dX0_markPoints_31 rfl (lv_at hl 2 rfl) ?_
    refine z_icmp_ge (tgt := 83) hx hb dX0_markPoints_32 (by decide) (by omega) (fun c_32 => ?_) (fun c_32 => ?_)
    · rw [show j = m by omega] at hP hD
      exact z_vretE hx hb hr hlocks dX0_markPoints_83 hS.2.2 ⟨(show 0 ≤ 0 by omega), (show 0 ≤ 0 by omega)⟩ ⟨(rfl), (trivial), (hP), (hD), Fh.of hS⟩
    · refine lv_iload_n hx hb dX0_markPoints_35 rfl (lv_at hl 3 rfl) ?_
      refine z_if_lt (tgt := 55) hx hb dX0_markPoints_36 (by decide) (by omega) (fun c_36 => ?_) (fun c_36 => ?_)
      · exfalso; omega
      · refine lv_iload_n hx hb dX0_markPoints_39 rfl (lv_at hl 3 rfl) ?_
        refine lv_aload_n hx hb dX0_markPoints_40 rfl (lv_at hl 0 rfl) ?_
        refine va_get (D := G) (ci := 0) (v := .ref pa) (C := RX0) (T := TX0) (N := 2) hx hb hts (by decide +kernel) hown hK hP 0 rfl rfl 0 (by decide) (hts (.fieldLink RX0 9 "SturmianWords$Circle" "points" "[Z") (by decide +kernel)) (fun _ h9 => h9) rfl dX0_markPoints_41 ?_
        refine va_alen (v := iZ 1000) (D := G) hx hb hK hP 1 1 rfl rfl (show Int32.ofNat 1000 = iZ 1000 by decide +kernel) dX0_markPoints_44 ?_
        refine z_icmp_ge (tgt := 55) hx hb dX0_markPoints_45 (by decide) (by omega) (fun c_45 => ?_) (fun c_45 => ?_)
        · exfalso; omega
        · refine lv_aload_n hx hb dX0_markPoints_48 rfl (lv_at hl 0 rfl) ?_
          refine va_get (D := G) (ci := 0) (v := .ref pa) (C := RX0) (T := TX0) (N := 2) hx hb hts (by decide +kernel) hown hK hP 0 rfl rfl 0 (by decide) (hts (.fieldLink RX0 9 "SturmianWords$Circle" "points" "[Z") (by decide +kernel)) (fun _ h9 => h9) rfl dX0_markPoints_49 ?_
          refine lv_iload_n hx hb dX0_markPoints_52 rfl (lv_at hl 3 rfl) ?_
          refine lv_iconst (v := iZ 1) hx hb dX0_markPoints_53 rfl ?_
          refine z_zast (D := G) hx hb hK hP hD hS 1 1 rfl rfl (by omega) (Or.inr rfl) dX0_markPoints_54 (fun H locs hP hD hS => ?_)
          have hP : va_P G vwCl [(ci, .inr (0, [.ref pa, .ref ga])), (pa, .inl (cy 1, 1000, .inl (zf (up1 (lyC pt p q j) x 1))))] H := hP
          have hD : va_D A [(ci, .inr (0, [.ref pa, .ref ga])), (pa, .inl (cy 1, 1000, .inl (zf (up1 (lyC pt p q j) x 1))))] := hD
          have hI : va_P G vwCl [(sl, .inr (2, [.int (iZ p), .int (iZ q), .int (iZ c)]))] H := im_keep2 hI0 hIA (Fh.of hS)
          rw [show (up1 (lyC pt p q j) x 1) = (lyC pt p q (j + 1)) from by rw [j2]; exact lyC_s (by omega)] at hP hD
          refine lv_iload_n hx hb dX0_markPoints_55 rfl (lv_at hl 3 rfl) ?_
          refine lv_aload_n hx hb dX0_markPoints_56 rfl (lv_at hl 1 rfl) ?_
          refine va_getN (D := G) (ci := 2) (v := .int (iZ p)) (C := RX3) (T := TX3) (N := 3) hx hb hts (by decide +kernel) hown hK hI 0 rfl rfl 0 (by decide) (va_Nw.use rfl (hKK.2 (.fieldLinkNest RX0 43 "SturmianWords$Slope" "numerator" "I" "SturmianWords") (by decide +kernel))) (fun _ h9 => h9) rfl dX0_markPoints_57 ?_
          refine z_iadd hx hb dX0_markPoints_60 ?_
          refine lv_istore_n (lv' := [(3, .int (iZ (x + p))), (0, .ref ci), (1, .ref sl), (2, .int (iZ m)), (4, .int (iZ j))]) hx hb dX0_markPoints_61 rfl hl (by decide) rfl (fun ls hl => ?_)
          refine lv_iload_n hx hb dX0_markPoints_62 rfl (lv_at hl 0 rfl) ?_
          refine lv_aload_n hx hb dX0_markPoints_63 rfl (lv_at hl 2 rfl) ?_
          refine va_getN (D := G) (ci := 2) (v := .int (iZ q)) (C := RX3) (T := TX3) (N := 3) hx hb hts (by decide +kernel) hown hK hI 0 rfl rfl 1 (by decide) (va_Nw.use rfl (hKK.2 (.fieldLinkNest RX0 29 "SturmianWords$Slope" "denominator" "I" "SturmianWords") (by decide +kernel))) (fun _ h9 => h9) rfl dX0_markPoints_64 ?_
          refine z_icmp_lt (tgt := 77) hx hb dX0_markPoints_67 (by decide) (by omega) (fun c_67 => ?_) (fun c_67 => ?_)
          · refine lv_iinc (v := iZ (j + 1)) (lv' := [(4, .int (iZ (j + 1))), (3, .int (iZ (x + p))), (0, .ref ci), (1, .ref sl), (2, .int (iZ m))]) hx hb dX0_markPoints_77 hl (k := 4) rfl (iZ_add _ _) (by decide) rfl (fun ls hl => ?_)
            refine lv_goto (tgt := 29) hx hb dX0_markPoints_80 (by decide) ?_
            exact ih_29 (x + p) (j + 1) _ _ ⟨⟨(by omega), (by first | exact (ly_add hp hq.1 j2).1 (by omega) | exact (ly_add hp hq.1 j2).2 (by omega)), (by omega)⟩, hP, hD, Fh.of hS⟩ hS.2.2 ⟨by omega, by omega⟩ _ (lv_sub hl [2, 3, 4, 1, 0] rfl)
          · refine lv_iload_n hx hb dX0_markPoints_70 rfl (lv_at hl 0 rfl) ?_
            refine lv_aload_n hx hb dX0_markPoints_71 rfl (lv_at hl 2 rfl) ?_
            refine va_getN (D := G) (ci := 2) (v := .int (iZ q)) (C := RX3) (T := TX3) (N := 3) hx hb hts (by decide +kernel) hown hK hI 0 rfl rfl 1 (by decide) (va_Nw.use rfl (hKK.2 (.fieldLinkNest RX0 29 "SturmianWords$Slope" "denominator" "I" "SturmianWords") (by decide +kernel))) (fun _ h9 => h9) rfl dX0_markPoints_72 ?_
            refine z_isub hx hb dX0_markPoints_75 ?_
            refine lv_istore_n (lv' := [(3, .int (iZ ((x + p) - q))), (0, .ref ci), (1, .ref sl), (2, .int (iZ m)), (4, .int (iZ j))]) hx hb dX0_markPoints_76 rfl hl (by decide) rfl (fun ls hl => ?_)
            refine lv_iinc (v := iZ (j + 1)) (lv' := [(4, .int (iZ (j + 1))), (3, .int (iZ ((x + p) - q))), (0, .ref ci), (1, .ref sl), (2, .int (iZ m))]) hx hb dX0_markPoints_77 hl (k := 4) rfl (iZ_add _ _) (by decide) rfl (fun ls hl => ?_)
            refine lv_goto (tgt := 29) hx hb dX0_markPoints_80 (by decide) ?_
            exact ih_29 ((x + p) - q) (j + 1) _ _ ⟨⟨(by omega), (by first | exact (ly_add hp hq.1 j2).1 (by omega) | exact (ly_add hp hq.1 j2).2 (by omega)), (by omega)⟩, hP, hD, Fh.of hS⟩ hS.2.2 ⟨by omega, by omega⟩ _ (lv_sub hl [2, 3, 4, 1, 0] rfl)
  · refine lv_aload_n hx hb dX0_markPoints_11 rfl (lv_at hl 0 rfl) ?_
    refine va_get (D := G) (ci := 0) (v := .ref pa) (C := RX0) (T := TX0) (N := 2) hx hb hts (by decide +kernel) hown hK hP 0 rfl rfl 0 (by decide) (hts (.fieldLink RX0 9 "SturmianWords$Circle" "points" "[Z") (by decide +kernel)) (fun _ h9 => h9) rfl dX0_markPoints_12 ?_
    refine lv_iload_n hx hb dX0_markPoints_15 rfl (lv_at hl 3 rfl) ?_
    refine lv_iconst (v := iZ 0) hx hb dX0_markPoints_16 rfl ?_
    refine z_zast (D := G) hx hb hK hP hD hS 1 1 rfl rfl (by omega) (Or.inl rfl) dX0_markPoints_17 (fun H locs hP hD hS => ?_)
    have hP : va_P G vwCl [(ci, .inr (0, [.ref pa, .ref ga])), (pa, .inl (cy 1, 1000, .inl (zf (up1 (clP pt k) k 0))))] H := hP
    have hD : va_D A [(ci, .inr (0, [.ref pa, .ref ga])), (pa, .inl (cy 1, 1000, .inl (zf (up1 (clP pt k) k 0))))] := hD
    have hI : va_P G vwCl [(sl, .inr (2, [.int (iZ p), .int (iZ q), .int (iZ c)]))] H := im_keep2 hI0 hIA (Fh.of hS)
    rw [show (up1 (clP pt k) k 0) = (clP pt (k + 1)) from clP_s (by omega)] at hP hD
    refine lv_iinc (v := iZ (k + 1)) (lv' := [(3, .int (iZ (k + 1))), (0, .ref ci), (1, .ref sl), (2, .int (iZ m))]) hx hb dX0_markPoints_18 hl (k := 3) rfl (iZ_add _ _) (by decide) rfl (fun ls hl => ?_)
    refine lv_goto (tgt := 2) hx hb dX0_markPoints_21 (by decide) ?_
    exact ih_2 (k + 1) _ _ ⟨(by omega), hP, hD, Fh.of hS⟩ hS.2.2 ⟨by omega, by omega⟩ _ (lv_sub hl [1, 2, 3, 0] rfl)
set_option maxHeartbeats 4000000 in
set_option maxRecDepth 100000 in
theorem c_X0_measure (lau : Launch) (G : va_G) (cy : Nat → ClassId) (ci pa ga sl : Nat) (sz : Nat) (p q c : Int) (pt gp : Int → Int) (m : Int) (hp : 0 ≤ p ∧ p ≤ q) (hq : 0 < q ∧ q ≤ 1000) (h1 : 1 ≤ m ∧ m ≤ 1000) : Met lau yX0_measure wsX0_measure ({ frames := 1, cells := 0, slots := 0, locals := 24 }) (P1 G cy [.ref ci, .ref sl, .int (iZ m)] (fun H => H.size = sz ∧ va_P G vwCl [(ci, .inr (0, [.ref pa, .ref ga])), (pa, .inl (cy 1, 1000, .inl (zf pt))), (ga, .inl (cy 0, 1001, .inl (zf gp)))] H ∧ va_D (fun _ => True) [(ci, .inr (0, [.ref pa, .ref ga])), (pa, .inl (cy 1, 1000, .inl (zf pt))), (ga, .inl (cy 0, 1001, .inl (zf gp)))] ∧ va_P G vwCl [(sl, .inr (2, [.int (iZ p), .int (iZ q), .int (iZ c)]))] H ∧ NA (va_A [(ci, .inr (0, [.ref pa, .ref ga])), (pa, .inl (cy 1, 1000, .inl (zf pt))), (ga, .inl (cy 0, 1001, .inl (zf gp)))] sz) [(sl, .inr (2, [.int (iZ p), .int (iZ q), .int (iZ c)]))])) (Q1 (fun rv H0 H1 => rv = none ∧ (True) ∧ va_P G vwCl [(ci, .inr (0, [.ref pa, .ref ga])), (pa, .inl (cy 1, 1000, .inl (zf (lyC pt p q m)))), (ga, .inl (cy 0, 1001, .inl (zf (ms p q m (flF gp 0 1001) q).2)))] H1 ∧ va_D (va_A [(ci, .inr (0, [.ref pa, .ref ga])), (pa, .inl (cy 1, 1000, .inl (zf pt))), (ga, .inl (cy 0, 1001, .inl (zf gp)))] sz) [(ci, .inr (0, [.ref pa, .ref ga])), (pa, .inl (cy 1, 1000, .inl (zf (lyC pt p q m)))), (ga, .inl (cy 0, 1001, .inl (zf (ms p q m (flF gp 0 1001) q).2)))] ∧ Fh (va_A [(ci, .inr (0, [.ref pa, .ref ga])), (pa, .inl (cy 1, 1000, .inl (zf pt))), (ga, .inl (cy 0, 1001, .inl (zf gp)))] sz) H0 H1)) 0 0 (va_A [(ci, .inr (0, [.ref pa, .ref ga])), (pa, .inl (cy 1, 1000, .inl (zf pt))), (ga, .inl (cy 0, 1001, .inl (zf gp)))] sz) := by
  refine z_head (lv := [(0, .ref ci), (1, .ref sl), (2, .int (iZ m))]) RX0 (by decide) rfl rfl (Nat.le_of_ble_eq_true rfl) rfl ?_
  intro pr ev s mt below meth cd ls hx hb hr hlocks hml hown hname hts hKK hP hl
  have hK := hKK.1
  obtain ⟨hsz, hP, hD0, hI0, hIA⟩ := hP
  subst hsz
  have hD := hD0.self (sz := s.heap.size)
  generalize hAe : va_A [(ci, .inr (0, [.ref pa, .ref ga])), (pa, .inl (cy 1, 1000, .inl (zf pt))), (ga, .inl (cy 0, 1001, .inl (zf gp)))] s.heap.size = A at hD hIA ⊢
  have hA : ∀ q : Nat, s.heap.size ≤ q → A q := fun q h => by rw [← hAe]; exact Or.inr h
  have hS : va_S A s.heap s.heap [] := va_S.rf
  have hP : va_P G vwCl [(ci, .inr (0, [.ref pa, .ref ga])), (pa, .inl (cy 1, 1000, .inl (zf pt))), (ga, .inl (cy 0, 1001, .inl (zf gp)))] s.heap := hP
  have hI : va_P G vwCl [(sl, .inr (2, [.int (iZ p), .int (iZ q), .int (iZ c)]))] s.heap := hI0
  have hlb : ∀ x, 0 ≤ x → x < 1000 → lyC pt p q m x = 0 ∨ lyC pt p q m x = 1 := fun x h1 h2 => (lyC_p ⟨h1, h2⟩).1
  refine lv_aload_n hx hb dX0_measure_0 rfl (lv_at hl 0 rfl) ?_
  refine lv_aload_n hx hb dX0_measure_1 rfl (lv_at hl 1 rfl) ?_
  refine lv_iload_n hx hb dX0_measure_2 rfl (lv_at hl 2 rfl) ?_
  have hPc := hP.sub (ws' := [(ci, .inr (0, [.ref pa, .ref ga])), (pa, .inl (cy 1, 1000, .inl (zf pt)))]) [0, 1] rfl
  have hDc := (hD.sub (ws' := [(ci, .inr (0, [.ref pa, .ref ga])), (pa, .inl (cy 1, 1000, .inl (zf pt)))]) [0, 1] (by decide) rfl).weaken (B := fun _ => True) (fun _ _ _ _ => trivial)
  have hFc := va_free (wc := [(ci, .inr (0, [.ref pa, .ref ga])), (pa, .inl (cy 1, 1000, .inl (zf pt)))]) hD hS hA [0, 1] rfl
  have hIc : va_P G vwCl [(sl, .inr (2, [.int (iZ p), .int (iZ q), .int (iZ c)]))] s.heap := (hI.sub (ws' := [(sl, .inr (2, [.int (iZ p), .int (iZ q), .int (iZ c)]))]) [0] rfl)
  have hIAc : NA (va_A [(ci, .inr (0, [.ref pa, .ref ga])), (pa, .inl (cy 1, 1000, .inl (zf pt)))] s.heap.size) [(sl, .inr (2, [.int (iZ p), .int (iZ q), .int (iZ c)]))] := NA.cons (fun z => hIA.at 0 rfl (hFc _ z)) (NA.nil)
  refine z_callE (A := A) (va_runV (As := [.ref sl, .int (iZ m)]) (rest := []) ⟨hx, hb, hml, hown, hts⟩ (c_X0_markPoints lau G cy ci pa ga sl s.heap.size p q c pt m (by first | omega | assumption) (by first | omega | assumption) (by first | omega | assumption)) (cwV 2 hts gX0_measure_X0_markPoints rfl rfl rfl (by decide +kernel) ⟨Nat.le_of_ble_eq_true rfl, Nat.le_of_ble_eq_true rfl⟩) ⟨P1_blind, va_recv hK hP (ci := 0) (q0 := 0) rfl rfl, P1_mk hKK (⟨rfl, hPc, hDc, hIc, hIAc⟩)⟩ rfl rfl hl.1 rfl (lv_room (Nat.le_of_ble_eq_true rfl)) dX0_measure_3 ⟨(show 0 + 0 ≤ 0 by omega), (show 0 + 0 ≤ 0 by omega)⟩) hS.2.2 hFc (fun v H1 locs1 hR hL1 => ?_)
  obtain ⟨rfl, hq3, hP1, hD1, hF1⟩ := hR
  obtain ⟨hP, hD⟩ := va_join (wr := [(ga, .inl (cy 0, 1001, .inl (zf gp)))]) (w1 := [(ci, .inr (0, [.ref pa, .ref ga])), (pa, .inl (cy 1, 1000, .inl (zf (lyC pt p q m))))]) hP hD [0, 1] [2] rfl rfl (by decide) (by decide) hF1.2 hFc hP1 hD1
  have hS : va_S A s.heap H1 locs1 := Fh.S ((Fh.of hS).tr hF1 (fun q _ h => hFc q h)) hL1
  clear hPc hDc hFc hP1 hD1 hF1 hL1 hIc hIAc
  generalize H1 = H at hP hS ⊢
  have hP : va_P G vwCl [(ga, .inl (cy 0, 1001, .inl (zf gp))), (ci, .inr (0, [.ref pa, .ref ga])), (pa, .inl (cy 1, 1000, .inl (zf (lyC pt p q m))))] H := hP
  have hD : va_D A [(ga, .inl (cy 0, 1001, .inl (zf gp))), (ci, .inr (0, [.ref pa, .ref ga])), (pa, .inl (cy 1, 1000, .inl (zf (lyC pt p q m))))] := hD
  have hP := hP.sub (ws' := [(ci, .inr (0, [.ref pa, .ref ga])), (pa, .inl (cy 1, 1000, .inl (zf (lyC pt p q m)))), (ga, .inl (cy 0, 1001, .inl (zf gp)))]) [1, 2, 0] rfl
  have hD := hD.sub (ws' := [(ci, .inr (0, [.ref pa, .ref ga])), (pa, .inl (cy 1, 1000, .inl (zf (lyC pt p q m)))), (ga, .inl (cy 0, 1001, .inl (zf gp)))]) [1, 2, 0] (by decide) rfl
  refine W.eq (g2 := F0 mt 6 ls []) rfl ?_
  have hI : va_P G vwCl [(sl, .inr (2, [.int (iZ p), .int (iZ q), .int (iZ c)]))] H := im_keep2 hI0 hIA (Fh.of hS)
  refine lv_aload_n hx hb dX0_measure_6 rfl (lv_at hl 0 rfl) ?_
  refine va_get (D := G) (ci := 0) (v := .ref ga) (C := RX0) (T := TX0) (N := 2) hx hb hts (by decide +kernel) hown hK hP 0 rfl rfl 1 (by decide) (hts (.fieldLink RX0 15 "SturmianWords$Circle" "gaps" "[I") (by decide +kernel)) (fun _ h9 => h9) rfl dX0_measure_7 ?_
  refine lv_iconst (v := iZ 0) hx hb dX0_measure_10 rfl ?_
  have hPc := hP.sub (ws' := [(ga, .inl (cy 0, 1001, .inl (zf gp)))]) [2] rfl
  have hDc := (hD.sub (ws' := [(ga, .inl (cy 0, 1001, .inl (zf gp)))]) [2] (by decide) rfl).weaken (B := fun _ => True) (fun _ _ _ _ => trivial)
  have hFc := va_free (wc := [(ga, .inl (cy 0, 1001, .inl (zf gp)))]) hD hS hA [2] rfl
  refine z_callE (A := A) (va_runS (As := [.ref ga, .int (iZ 0)]) (rest := []) ⟨hx, hb, hml, hown, hts⟩ (c_J7_fill_53178 lau G cy ga H.size gp 0) (va_cwS 2 hts gX0_measure_J7_fill_53178 rfl rfl rfl (by decide +kernel) ⟨Nat.le_of_ble_eq_true rfl, Nat.le_of_ble_eq_true rfl⟩) ⟨P1_blind, P1_mk hKK (⟨rfl, hPc, hDc⟩)⟩ rfl rfl hl.1 rfl (lv_room (Nat.le_of_ble_eq_true rfl)) dX0_measure_11 ⟨(show 0 + 0 ≤ 0 by omega), (show 0 + 0 ≤ 0 by omega)⟩) hS.2.2 hFc (fun v H1 locs1 hR hL1 => ?_)
  obtain ⟨rfl, hq11, hP1, hD1, hF1⟩ := hR
  obtain ⟨hP, hD⟩ := va_join (wr := [(ci, .inr (0, [.ref pa, .ref ga])), (pa, .inl (cy 1, 1000, .inl (zf (lyC pt p q m))))]) (w1 := [(ga, .inl (cy 0, 1001, .inl (zf (flF gp 0 1001))))]) hP hD [2] [0, 1] rfl rfl (by decide) (by decide) hF1.2 hFc hP1 hD1
  have hS : va_S A s.heap H1 locs1 := Fh.S ((Fh.of hS).tr hF1 (fun q _ h => hFc q h)) hL1
  clear hPc hDc hFc hP1 hD1 hF1 hL1
  generalize H1 = H at hP hS ⊢
  have hP : va_P G vwCl [(ci, .inr (0, [.ref pa, .ref ga])), (pa, .inl (cy 1, 1000, .inl (zf (lyC pt p q m)))), (ga, .inl (cy 0, 1001, .inl (zf (flF gp 0 1001))))] H := hP
  have hD : va_D A [(ci, .inr (0, [.ref pa, .ref ga])), (pa, .inl (cy 1, 1000, .inl (zf (lyC pt p q m)))), (ga, .inl (cy 0, 1001, .inl (zf (flF gp 0 1001))))] := hD
  have hP := hP.sub (ws' := [(ci, .inr (0, [.ref pa, .ref ga])), (pa, .inl (cy 1, 1000, .inl (zf (lyC pt p q m)))), (ga, .inl (cy 0, 1001, .inl (zf (flF gp 0 1001))))]) [0, 1, 2] rfl
  have hD := hD.sub (ws' := [(ci, .inr (0, [.ref pa, .ref ga])), (pa, .inl (cy 1, 1000, .inl (zf (lyC pt p q m)))), (ga, .inl (cy 0, 1001, .inl (zf (flF gp 0 1001))))]) [0, 1, 2] (by decide) rfl
  refine W.eq (g2 := F0 mt 14 ls []) rfl ?_
  have hI : va_P G vwCl [(sl, .inr (2, [.int (iZ p), .int (iZ q), .int (iZ c)]))] H := im_keep2 hI0 hIA (Fh.of hS)
  refine lv_iconst (v := iZ 0) hx hb dX0_measure_14 rfl ?_
  refine lv_istore_n (lv' := [(3, .int (iZ 0)), (0, .ref ci), (1, .ref sl), (2, .int (iZ m))]) hx hb dX0_measure_15 rfl hl (by decide) rfl (fun ls hl => ?_)
  refine lv_iconst (v := iZ 1) hx hb dX0_measure_16 rfl ?_
  refine lv_istore (lv' := [(4, .int (iZ 1)), (3, .int (iZ 0)), (0, .ref ci), (1, .ref sl), (2, .int (iZ m))]) hx hb dX0_measure_17 hl (by decide) rfl (fun ls hl => ?_)
  refine z_loopH3 (nL := 5) (A := A) (fun (la : Int) (i : Int) (g1 : Int → Int) => [(0, .ref ci), (1, .ref sl), (2, .int (iZ m)), (3, .int (iZ la)), (4, .int (iZ i))]) (fun (la : Int) (i : Int) (g1 : Int → Int) (H : Heap) => ((1 ≤ i ∧ i ≤ q + 1) ∧ ((ms p q m (flF gp 0 1001) (i - 1)) = (la, g1)) ∧ (0 ≤ la ∧ la < i)) ∧ va_P G vwCl [(ci, .inr (0, [.ref pa, .ref ga])), (pa, .inl (cy 1, 1000, .inl (zf (lyC pt p q m)))), (ga, .inl (cy 0, 1001, .inl (zf g1)))] H ∧ va_D A [(ci, .inr (0, [.ref pa, .ref ga])), (pa, .inl (cy 1, 1000, .inl (zf (lyC pt p q m)))), (ga, .inl (cy 0, 1001, .inl (zf g1)))] ∧ Fh A s.heap H) (fun (la : Int) (i : Int) (g1 : Int → Int) => q + 1 - i) (fun (la : Int) (i : Int) (g1 : Int → Int) => 0) (fun (la : Int) (i : Int) (g1 : Int → Int) => 0) (a1 := 0) (a2 := 1) (a3 := (flF gp 0 1001)) ⟨⟨(by omega), (ms_0 _ _ _ _), (by omega)⟩, hP, hD, Fh.of hS⟩ hS.2.2 (lv_sub hl [2, 3, 4, 1, 0] rfl) ?_
  rintro la i g1 H locs ⟨⟨i1, i2, i3⟩, hP, hD, hFr⟩ hLc ih_19 ls hl
  have hS : va_S A s.heap H locs := Fh.S hFr hLc
  have hI : va_P G vwCl [(sl, .inr (2, [.int (iZ p), .int (iZ q), .int (iZ c)]))] H := im_keep2 hI0 hIA (Fh.of hS)
  refine lv_iload hx hb dX0_measure_19 (lv_at hl 4 rfl) ?_
  refine lv_aload_n hx hb dX0_measure_21 rfl (lv_at hl 1 rfl) ?_
  refine va_getN (D := G) (ci := 2) (v := .int (iZ q)) (C := RX3) (T := TX3) (N := 3) hx hb hts (by decide +kernel) hown hK hI 0 rfl rfl 1 (by decide) (va_Nw.use rfl (hKK.2 (.fieldLinkNest RX0 29 "SturmianWords$Slope" "denominator" "I" "SturmianWords") (by decide +kernel))) (fun _ h9 => h9) rfl dX0_measure_22 ?_
  refine z_icmp_gt (tgt := 63) hx hb dX0_measure_25 (by decide) (by omega) (fun c_25 => ?_) (fun c_25 => ?_)
  · rw [show i - 1 = q by omega] at i2
    have e1 : g1 = (ms p q m (flF gp 0 1001) q).2 := by rw [i2]
    rw [e1] at hP hD
    exact z_vretE hx hb hr hlocks dX0_measure_63 hS.2.2 ⟨(show 0 ≤ 0 by omega), (show 0 ≤ 0 by omega)⟩ ⟨(rfl), (trivial), (hP), (hD), Fh.of hS⟩
  · refine lv_iload hx hb dX0_measure_28 (lv_at hl 4 rfl) ?_
    refine lv_aload_n hx hb dX0_measure_30 rfl (lv_at hl 1 rfl) ?_
    refine va_getN (D := G) (ci := 2) (v := .int (iZ q)) (C := RX3) (T := TX3) (N := 3) hx hb hts (by decide +kernel) hown hK hI 0 rfl rfl 1 (by decide) (va_Nw.use rfl (hKK.2 (.fieldLinkNest RX0 29 "SturmianWords$Slope" "denominator" "I" "SturmianWords") (by decide +kernel))) (fun _ h9 => h9) rfl dX0_measure_31 ?_
    refine z_icmp_eq (tgt := 46) hx hb dX0_measure_34 (by decide) (by omega) (fun c_34 => ?_) (fun c_34 => ?_)
    · have hpl : plP p q m i := by first | exact Or.inl c_34 | exact Or.inr ((lyC_p c_43.1).2.mp c_43.2)
      have hpt9 : ms p q m (flF gp 0 1001) (i + 1 - 1) = (i, up1 (ms p q m (flF gp 0 1001) (i - 1)).2 (i - (ms p q m (flF gp 0 1001) (i - 1)).1) ((ms p q m (flF gp 0 1001) (i - 1)).2 (i - (ms p q m (flF gp 0 1001) (i - 1)).1) + 1)) := by have e := ms_t (p := p) (q := q) (m := m) (g0 := (flF gp 0 1001)) (N := i - 1) (by omega) (by rw [show i - 1 + 1 = i by omega]; exact hpl); rw [show i - 1 + 1 = i by omega] at e; rw [show i + 1 - 1 = i by omega]; exact e
      refine lv_aload_n hx hb dX0_measure_46 rfl (lv_at hl 0 rfl) ?_
      refine lv_iload hx hb dX0_measure_47 (lv_at hl 4 rfl) ?_
      refine lv_iload_n hx hb dX0_measure_49 rfl (lv_at hl 3 rfl) ?_
      refine z_isub hx hb dX0_measure_50 ?_
      have hPc := hP.sub (ws' := [(ci, .inr (0, [.ref pa, .ref ga])), (ga, .inl (cy 0, 1001, .inl (zf g1)))]) [0, 2] rfl
      have hDc := (hD.sub (ws' := [(ci, .inr (0, [.ref pa, .ref ga])), (ga, .inl (cy 0, 1001, .inl (zf g1)))]) [0, 2] (by decide) rfl).weaken (B := fun _ => True) (fun _ _ _ _ => trivial)
      have hFc := va_free (wc := [(ci, .inr (0, [.ref pa, .ref ga])), (ga, .inl (cy 0, 1001, .inl (zf g1)))]) hD hS hA [0, 2] rfl
      refine z_callE (A := A) (va_runV (As := [.int (iZ (i - la))]) (rest := []) ⟨hx, hb, hml, hown, hts⟩ (c_X0_addGap lau G cy ci pa ga H.size g1 (i - la) (by first | omega | assumption)) (cwV 1 hts gX0_measure_X0_addGap rfl rfl rfl (by decide +kernel) ⟨Nat.le_of_ble_eq_true rfl, Nat.le_of_ble_eq_true rfl⟩) ⟨P1_blind, va_recv hK hP (ci := 0) (q0 := 0) rfl rfl, P1_mk hKK (⟨rfl, hPc, hDc⟩)⟩ rfl rfl hl.1 rfl (lv_room (Nat.le_of_ble_eq_true rfl)) dX0_measure_51 ⟨(show 0 + 0 ≤ 0 by omega), (show 0 + 0 ≤ 0 by omega)⟩) hS.2.2 hFc (fun v H1 locs1 hR hL1 => ?_)
      obtain ⟨rfl, hq51, hP1, hD1, hF1⟩ := hR
      obtain ⟨hP, hD⟩ := va_join (wr := [(pa, .inl (cy 1, 1000, .inl (zf (lyC pt p q m))))]) (w1 := [(ci, .inr (0, [.ref pa, .ref ga])), (ga, .inl (cy 0, 1001, .inl (zf (up1 g1 (i - la) (g1 (i - la) + 1)))))]) hP hD [0, 2] [1] rfl rfl (by decide) (by decide) hF1.2 hFc hP1 hD1
      have hS : va_S A s.heap H1 locs1 := Fh.S ((Fh.of hS).tr hF1 (fun q _ h => hFc q h)) hL1
      clear hPc hDc hFc hP1 hD1 hF1 hL1
      generalize H1 = H at hP hS ⊢
      have hP : va_P G vwCl [(pa, .inl (cy 1, 1000, .inl (zf (lyC pt p q m)))), (ci, .inr (0, [.ref pa, .ref ga])), (ga, .inl (cy 0, 1001, .inl (zf (up1 g1 (i - la) (g1 (i - la) + 1)))))] H := hP
      have hD : va_D A [(pa, .inl (cy 1, 1000, .inl (zf (lyC pt p q m)))), (ci, .inr (0, [.ref pa, .ref ga])), (ga, .inl (cy 0, 1001, .inl (zf (up1 g1 (i - la) (g1 (i - la) + 1)))))] := hD
      have hP := hP.sub (ws' := [(ci, .inr (0, [.ref pa, .ref ga])), (pa, .inl (cy 1, 1000, .inl (zf (lyC pt p q m)))), (ga, .inl (cy 0, 1001, .inl (zf (up1 g1 (i - la) (g1 (i - la) + 1)))))]) [1, 0, 2] rfl
      have hD := hD.sub (ws' := [(ci, .inr (0, [.ref pa, .ref ga])), (pa, .inl (cy 1, 1000, .inl (zf (lyC pt p q m)))), (ga, .inl (cy 0, 1001, .inl (zf (up1 g1 (i - la) (g1 (i - la) + 1)))))]) [1, 0, 2] (by decide) rfl
      refine W.eq (g2 := F0 mt 54 ls []) rfl ?_
      have hI : va_P G vwCl [(sl, .inr (2, [.int (iZ p), .int (iZ q), .int (iZ c)]))] H := im_keep2 hI0 hIA (Fh.of hS)
      refine lv_iload hx hb dX0_measure_54 (lv_at hl 4 rfl) ?_
      refine lv_istore_n (lv' := [(3, .int (iZ i)), (0, .ref ci), (1, .ref sl), (2, .int (iZ m)), (4, .int (iZ i))]) hx hb dX0_measure_56 rfl hl (by decide) rfl (fun ls hl => ?_)
      try have hpf9 : ms p q m (flF gp 0 1001) (i + 1 - 1) = ms p q m (flF gp 0 1001) (i - 1) := by have e := ms_f (p := p) (q := q) (m := m) (g0 := (flF gp 0 1001)) (N := i - 1) (by omega) (by rw [show i - 1 + 1 = i by omega]; exact fun w => w.elim c_34 (fun w => c_43 ⟨by omega, (lyC_p (by omega)).2.mpr w⟩)); rw [show i - 1 + 1 = i by omega] at e; rw [show i + 1 - 1 = i by omega]; exact e
      refine lv_iinc (v := iZ (i + 1)) (lv' := [(4, .int (iZ (i + 1))), (3, .int (iZ i)), (0, .ref ci), (1, .ref sl), (2, .int (iZ m))]) hx hb dX0_measure_57 hl (k := 4) rfl (iZ_add _ _) (by decide) rfl (fun ls hl => ?_)
      refine lv_goto (tgt := 19) hx hb dX0_measure_60 (by decide) ?_
      exact ih_19 i (i + 1) (up1 g1 (i - la) (g1 (i - la) + 1)) _ _ ⟨⟨(by omega), (by first | rw [hpt9, i2] | rw [hpf9, i2]), (by omega)⟩, hP, hD, Fh.of hS⟩ hS.2.2 ⟨by omega, by omega⟩ _ (lv_sub hl [2, 3, 4, 1, 0] rfl)
    · refine lv_aload_n hx hb dX0_measure_37 rfl (lv_at hl 0 rfl) ?_
      refine lv_iload hx hb dX0_measure_38 (lv_at hl 4 rfl) ?_
      refine z_calli (va_runV (As := [.int (iZ i)]) (rest := []) ⟨hx, hb, hml, hown, hts⟩ (c_X0_isPoint lau G cy ci pa ga (lyC pt p q m) i (hlb) (by first | omega | assumption)) (cwV 1 hts gX0_measure_X0_isPoint rfl rfl rfl (by decide +kernel) ⟨Nat.le_of_ble_eq_true rfl, Nat.le_of_ble_eq_true rfl⟩) ⟨P1_blind, va_recv hK hP (ci := 0) (q0 := 0) rfl rfl, P1_mk hKK (hP.sub [0, 1] rfl)⟩ rfl rfl hl.1 rfl (lv_room (Nat.le_of_ble_eq_true rfl)) dX0_measure_40 ⟨(show 0 + 0 ≤ 0 by omega), (show 0 + 0 ≤ 0 by omega)⟩) ?_
      refine z_ifB_eq (tgt := 57) hx hb dX0_measure_43 (by decide) (fun c_43 => ?_) (fun c_43 => ?_)
      · try have hpf9 : ms p q m (flF gp 0 1001) (i + 1 - 1) = ms p q m (flF gp 0 1001) (i - 1) := by have e := ms_f (p := p) (q := q) (m := m) (g0 := (flF gp 0 1001)) (N := i - 1) (by omega) (by rw [show i - 1 + 1 = i by omega]; exact fun w => w.elim c_34 (fun w => c_43 ⟨by omega, (lyC_p (by omega)).2.mpr w⟩)); rw [show i - 1 + 1 = i by omega] at e; rw [show i + 1 - 1 = i by omega]; exact e
        refine lv_iinc (v := iZ (i + 1)) (lv' := [(4, .int (iZ (i + 1))), (0, .ref ci), (1, .ref sl), (2, .int (iZ m)), (3, .int (iZ la))]) hx hb dX0_measure_57 hl (k := 4) rfl (iZ_add _ _) (by decide) rfl (fun ls hl => ?_)
        refine lv_goto (tgt := 19) hx hb dX0_measure_60 (by decide) ?_
        exact ih_19 la (i + 1) g1 _ _ ⟨⟨(by omega), (by first | rw [hpt9, i2] | rw [hpf9, i2]), (by omega)⟩, hP, hD, Fh.of hS⟩ hS.2.2 ⟨by omega, by omega⟩ _ (lv_sub hl [1, 2, 3, 4, 0] rfl)
      · have hpl : plP p q m i := by first | exact Or.inl c_34 | exact Or.inr ((lyC_p c_43.1).2.mp c_43.2)
        have hpt9 : ms p q m (flF gp 0 1001) (i + 1 - 1) = (i, up1 (ms p q m (flF gp 0 1001) (i - 1)).2 (i - (ms p q m (flF gp 0 1001) (i - 1)).1) ((ms p q m (flF gp 0 1001) (i - 1)).2 (i - (ms p q m (flF gp 0 1001) (i - 1)).1) + 1)) := by have e := ms_t (p := p) (q := q) (m := m) (g0 := (flF gp 0 1001)) (N := i - 1) (by omega) (by rw [show i - 1 + 1 = i by omega]; exact hpl); rw [show i - 1 + 1 = i by omega] at e; rw [show i + 1 - 1 = i by omega]; exact e
        refine lv_aload_n hx hb dX0_measure_46 rfl (lv_at hl 0 rfl) ?_
        refine lv_iload hx hb dX0_measure_47 (lv_at hl 4 rfl) ?_
        refine lv_iload_n hx hb dX0_measure_49 rfl (lv_at hl 3 rfl) ?_
        refine z_isub hx hb dX0_measure_50 ?_
        have hPc := hP.sub (ws' := [(ci, .inr (0, [.ref pa, .ref ga])), (ga, .inl (cy 0, 1001, .inl (zf g1)))]) [0, 2] rfl
        have hDc := (hD.sub (ws' := [(ci, .inr (0, [.ref pa, .ref ga])), (ga, .inl (cy 0, 1001, .inl (zf g1)))]) [0, 2] (by decide) rfl).weaken (B := fun _ => True) (fun _ _ _ _ => trivial)
        have hFc := va_free (wc := [(ci, .inr (0, [.ref pa, .ref ga])), (ga, .inl (cy 0, 1001, .inl (zf g1)))]) hD hS hA [0, 2] rfl
        refine z_callE (A := A) (va_runV (As := [.int (iZ (i - la))]) (rest := []) ⟨hx, hb, hml, hown, hts⟩ (c_X0_addGap lau G cy ci pa ga H.size g1 (i - la) (by first | omega | assumption)) (cwV 1 hts gX0_measure_X0_addGap rfl rfl rfl (by decide +kernel) ⟨Nat.le_of_ble_eq_true rfl, Nat.le_of_ble_eq_true rfl⟩) ⟨P1_blind, va_recv hK hP (ci := 0) (q0 := 0) rfl rfl, P1_mk hKK (⟨rfl, hPc, hDc⟩)⟩ rfl rfl hl.1 rfl (lv_room (Nat.le_of_ble_eq_true rfl)) dX0_measure_51 ⟨(show 0 + 0 ≤ 0 by omega), (show 0 + 0 ≤ 0 by omega)⟩) hS.2.2 hFc (fun v H1 locs1 hR hL1 => ?_)
        obtain ⟨rfl, hq51, hP1, hD1, hF1⟩ := hR
        obtain ⟨hP, hD⟩ := va_join (wr := [(pa, .inl (cy 1, 1000, .inl (zf (lyC pt p q m))))]) (w1 := [(ci, .inr (0, [.ref pa, .ref ga])), (ga, .inl (cy 0, 1001, .inl (zf (up1 g1 (i - la) (g1 (i - la) + 1)))))]) hP hD [0, 2] [1] rfl rfl (by decide) (by decide) hF1.2 hFc hP1 hD1
        have hS : va_S A s.heap H1 locs1 := Fh.S ((Fh.of hS).tr hF1 (fun q _ h => hFc q h)) hL1
        clear hPc hDc hFc hP1 hD1 hF1 hL1
        generalize H1 = H at hP hS ⊢
        have hP : va_P G vwCl [(pa, .inl (cy 1, 1000, .inl (zf (lyC pt p q m)))), (ci, .inr (0, [.ref pa, .ref ga])), (ga, .inl (cy 0, 1001, .inl (zf (up1 g1 (i - la) (g1 (i - la) + 1)))))] H := hP
        have hD : va_D A [(pa, .inl (cy 1, 1000, .inl (zf (lyC pt p q m)))), (ci, .inr (0, [.ref pa, .ref ga])), (ga, .inl (cy 0, 1001, .inl (zf (up1 g1 (i - la) (g1 (i - la) + 1)))))] := hD
        have hP := hP.sub (ws' := [(ci, .inr (0, [.ref pa, .ref ga])), (pa, .inl (cy 1, 1000, .inl (zf (lyC pt p q m)))), (ga, .inl (cy 0, 1001, .inl (zf (up1 g1 (i - la) (g1 (i - la) + 1)))))]) [1, 0, 2] rfl
        have hD := hD.sub (ws' := [(ci, .inr (0, [.ref pa, .ref ga])), (pa, .inl (cy 1, 1000, .inl (zf (lyC pt p q m)))), (ga, .inl (cy 0, 1001, .inl (zf (up1 g1 (i - la) (g1 (i - la) + 1)))))]) [1, 0, 2] (by decide) rfl
        refine W.eq (g2 := F0 mt 54 ls []) rfl ?_
        have hI : va_P G vwCl [(sl, .inr (2, [.int (iZ p), .int (iZ q), .int (iZ c)]))] H := im_keep2 hI0 hIA (Fh.of hS)
        refine lv_iload hx hb dX0_measure_54 (lv_at hl 4 rfl) ?_
        refine lv_istore_n (lv' := [(3, .int (iZ i)), (0, .ref ci), (1, .ref sl), (2, .int (iZ m)), (4, .int (iZ i))]) hx hb dX0_measure_56 rfl hl (by decide) rfl (fun ls hl => ?_)
        try have hpf9 : ms p q m (flF gp 0 1001) (i + 1 - 1) = ms p q m (flF gp 0 1001) (i - 1) := by have e := ms_f (p := p) (q := q) (m := m) (g0 := (flF gp 0 1001)) (N := i - 1) (by omega) (by rw [show i - 1 + 1 = i by omega]; exact fun w => w.elim c_34 (fun w => c_43 ⟨by omega, (lyC_p (by omega)).2.mpr w⟩)); rw [show i - 1 + 1 = i by omega] at e; rw [show i + 1 - 1 = i by omega]; exact e
        refine lv_iinc (v := iZ (i + 1)) (lv' := [(4, .int (iZ (i + 1))), (3, .int (iZ i)), (0, .ref ci), (1, .ref sl), (2, .int (iZ m))]) hx hb dX0_measure_57 hl (k := 4) rfl (iZ_add _ _) (by decide) rfl (fun ls hl => ?_)
        refine lv_goto (tgt := 19) hx hb dX0_measure_60 (by decide) ?_
        exact ih_19 i (i + 1) (up1 g1 (i - la) (g1 (i - la) + 1)) _ _ ⟨⟨(by omega), (by first | rw [hpt9, i2] | rw [hpf9, i2]), (by omega)⟩, hP, hD, Fh.of hS⟩ hS.2.2 ⟨by omega, by omega⟩ _ (lv_sub hl [2, 3, 4, 1, 0] rfl)
set_option maxHeartbeats 4000000 in
set_option maxRecDepth 100000 in
theorem c_X6_gapSizeCount_no (lau : Launch) (G : va_G) (cy : Nat → ClassId) (xa hi ci st sl wo pa ga : Nat) (sz : Nat) (p q c : Int) (pt gp : Int → Int) (m : Int) (hp : 0 ≤ p ∧ p ≤ q) (hq : 0 < q ∧ q ≤ 1000) (h1 : -2147483648 ≤ m ∧ m < 2147483648) (h2 : ¬ (1 ≤ m ∧ m ≤ 1000)) : Met lau yX6_gapSizeCount wsX6_gapSizeCount ({ frames := 2, cells := 0, slots := 0, locals := 48 }) (P1 G cy [.ref xa, .int (iZ m)] (fun H => H.size = sz ∧ va_P G vwCl [(ci, .inr (0, [.ref pa, .ref ga])), (pa, .inl (cy 1, 1000, .inl (zf pt))), (ga, .inl (cy 0, 1001, .inl (zf gp)))] H ∧ va_D (fun _ => True) [(ci, .inr (0, [.ref pa, .ref ga])), (pa, .inl (cy 1, 1000, .inl (zf pt))), (ga, .inl (cy 0, 1001, .inl (zf gp)))] ∧ va_P G vwCl [(xa, .inr (5, [.ref hi, .ref ci, .ref st])), (st, .inr (3, [.ref sl, .ref wo])), (sl, .inr (2, [.int (iZ p), .int (iZ q), .int (iZ c)]))] H ∧ NA (va_A [(ci, .inr (0, [.ref pa, .ref ga])), (pa, .inl (cy 1, 1000, .inl (zf pt))), (ga, .inl (cy 0, 1001, .inl (zf gp)))] sz) [(xa, .inr (5, [.ref hi, .ref ci, .ref st])), (st, .inr (3, [.ref sl, .ref wo])), (sl, .inr (2, [.int (iZ p), .int (iZ q), .int (iZ c)]))])) (Q1 (fun rv H0 H1 => rv = some (.int (iZ (-1))) ∧ (True) ∧ va_P G vwCl [(ci, .inr (0, [.ref pa, .ref ga])), (pa, .inl (cy 1, 1000, .inl (zf pt))), (ga, .inl (cy 0, 1001, .inl (zf gp)))] H1 ∧ va_D (va_A [(ci, .inr (0, [.ref pa, .ref ga])), (pa, .inl (cy 1, 1000, .inl (zf pt))), (ga, .inl (cy 0, 1001, .inl (zf gp)))] sz) [(ci, .inr (0, [.ref pa, .ref ga])), (pa, .inl (cy 1, 1000, .inl (zf pt))), (ga, .inl (cy 0, 1001, .inl (zf gp)))] ∧ Fh (va_A [(ci, .inr (0, [.ref pa, .ref ga])), (pa, .inl (cy 1, 1000, .inl (zf pt))), (ga, .inl (cy 0, 1001, .inl (zf gp)))] sz) H0 H1)) 0 0 (va_A [(ci, .inr (0, [.ref pa, .ref ga])), (pa, .inl (cy 1, 1000, .inl (zf pt))), (ga, .inl (cy 0, 1001, .inl (zf gp)))] sz) := by
  refine z_head (lv := [(0, .ref xa), (1, .int (iZ m))]) RX6 (by decide) rfl rfl (Nat.le_of_ble_eq_true rfl) rfl ?_
  intro pr ev s mt below meth cd ls hx hb hr hlocks hml hown hname hts hKK hP hl
  have hK := hKK.1
  obtain ⟨hsz, hP, hD0, hI0, hIA⟩ := hP
  subst hsz
  have hD := hD0.self (sz := s.heap.size)
  generalize hAe : va_A [(ci, .inr (0, [.ref pa, .ref ga])), (pa, .inl (cy 1, 1000, .inl (zf pt))), (ga, .inl (cy 0, 1001, .inl (zf gp)))] s.heap.size = A at hD hIA ⊢
  have hA : ∀ q : Nat, s.heap.size ≤ q → A q := fun q h => by rw [← hAe]; exact Or.inr h
  have hS : va_S A s.heap s.heap [] := va_S.rf
  have hP : va_P G vwCl [(ci, .inr (0, [.ref pa, .ref ga])), (pa, .inl (cy 1, 1000, .inl (zf pt))), (ga, .inl (cy 0, 1001, .inl (zf gp)))] s.heap := hP
  have hI : va_P G vwCl [(xa, .inr (5, [.ref hi, .ref ci, .ref st])), (st, .inr (3, [.ref sl, .ref wo])), (sl, .inr (2, [.int (iZ p), .int (iZ q), .int (iZ c)]))] s.heap := hI0
  refine lv_iload_n hx hb dX6_gapSizeCount_0 rfl (lv_at hl 1 rfl) ?_
  refine lv_iconst (v := iZ 1) hx hb dX6_gapSizeCount_1 rfl ?_
  refine z_icmp_lt (tgt := 12) hx hb dX6_gapSizeCount_2 (by decide) (by omega) (fun c_2 => ?_) (fun c_2 => ?_)
  · refine lv_iconst (v := iZ (-1)) hx hb dX6_gapSizeCount_12 rfl ?_
    exact z_iretE hx hb hr hlocks dX6_gapSizeCount_13 hS.2.2 ⟨(show 0 ≤ 0 by omega), (show 0 ≤ 0 by omega)⟩ ⟨(rfl), (trivial), (hP), (hD), Fh.of hS⟩
  · refine lv_iload_n hx hb dX6_gapSizeCount_5 rfl (lv_at hl 1 rfl) ?_
    refine lv_sipush (v := iZ 1000) hx hb dX6_gapSizeCount_6 (by decide +kernel) ?_
    refine z_icmp_le (tgt := 14) hx hb dX6_gapSizeCount_9 (by decide) (by omega) (fun c_9 => ?_) (fun c_9 => ?_)
    · exfalso; omega
    · refine lv_iconst (v := iZ (-1)) hx hb dX6_gapSizeCount_12 rfl ?_
      exact z_iretE hx hb hr hlocks dX6_gapSizeCount_13 hS.2.2 ⟨(show 0 ≤ 0 by omega), (show 0 ≤ 0 by omega)⟩ ⟨(rfl), (trivial), (hP), (hD), Fh.of hS⟩
set_option maxHeartbeats 4000000 in
set_option maxRecDepth 100000 in
theorem c_X6_gapSizeCount (lau : Launch) (G : va_G) (cy : Nat → ClassId) (xa hi ci st sl wo pa ga : Nat) (sz : Nat) (p q c : Int) (pt gp : Int → Int) (m : Int) (hp : 0 ≤ p ∧ p ≤ q) (hq : 0 < q ∧ q ≤ 1000) (h1 : -2147483648 ≤ m ∧ m < 2147483648) (h2 : 1 ≤ m ∧ m ≤ 1000) : Met lau yX6_gapSizeCount wsX6_gapSizeCount ({ frames := 2, cells := 0, slots := 0, locals := 48 }) (P1 G cy [.ref xa, .int (iZ m)] (fun H => H.size = sz ∧ va_P G vwCl [(ci, .inr (0, [.ref pa, .ref ga])), (pa, .inl (cy 1, 1000, .inl (zf pt))), (ga, .inl (cy 0, 1001, .inl (zf gp)))] H ∧ va_D (fun _ => True) [(ci, .inr (0, [.ref pa, .ref ga])), (pa, .inl (cy 1, 1000, .inl (zf pt))), (ga, .inl (cy 0, 1001, .inl (zf gp)))] ∧ va_P G vwCl [(xa, .inr (5, [.ref hi, .ref ci, .ref st])), (st, .inr (3, [.ref sl, .ref wo])), (sl, .inr (2, [.int (iZ p), .int (iZ q), .int (iZ c)]))] H ∧ NA (va_A [(ci, .inr (0, [.ref pa, .ref ga])), (pa, .inl (cy 1, 1000, .inl (zf pt))), (ga, .inl (cy 0, 1001, .inl (zf gp)))] sz) [(xa, .inr (5, [.ref hi, .ref ci, .ref st])), (st, .inr (3, [.ref sl, .ref wo])), (sl, .inr (2, [.int (iZ p), .int (iZ q), .int (iZ c)]))])) (Q1 (fun rv H0 H1 => rv = some (.int (iZ (cnt (fun z => 1 ≤ z ∧ 0 < (ms p q m (flF gp 0 1001) q).2 z) 1001))) ∧ (True) ∧ va_P G vwCl [(ci, .inr (0, [.ref pa, .ref ga])), (pa, .inl (cy 1, 1000, .inl (zf (lyC pt p q m)))), (ga, .inl (cy 0, 1001, .inl (zf (ms p q m (flF gp 0 1001) q).2)))] H1 ∧ va_D (va_A [(ci, .inr (0, [.ref pa, .ref ga])), (pa, .inl (cy 1, 1000, .inl (zf pt))), (ga, .inl (cy 0, 1001, .inl (zf gp)))] sz) [(ci, .inr (0, [.ref pa, .ref ga])), (pa, .inl (cy 1, 1000, .inl (zf (lyC pt p q m)))), (ga, .inl (cy 0, 1001, .inl (zf (ms p q m (flF gp 0 1001) q).2)))] ∧ Fh (va_A [(ci, .inr (0, [.ref pa, .ref ga])), (pa, .inl (cy 1, 1000, .inl (zf pt))), (ga, .inl (cy 0, 1001, .inl (zf gp)))] sz) H0 H1)) 0 0 (va_A [(ci, .inr (0, [.ref pa, .ref ga])), (pa, .inl (cy 1, 1000, .inl (zf pt))), (ga, .inl (cy 0, 1001, .inl (zf gp)))] sz) := by
  refine z_head (lv := [(0, .ref xa), (1, .int (iZ m))]) RX6 (by decide) rfl rfl (Nat.le_of_ble_eq_true rfl) rfl ?_
  intro pr ev s mt below meth cd ls hx hb hr hlocks hml hown hname hts hKK hP hl
  have hK := hKK.1
  obtain ⟨hsz, hP, hD0, hI0, hIA⟩ := hP
  subst hsz
  have hD := hD0.self (sz := s.heap.size)
  generalize hAe : va_A [(ci, .inr (0, [.ref pa, .ref ga])), (pa, .inl (cy 1, 1000, .inl (zf pt))), (ga, .inl (cy 0, 1001, .inl (zf gp)))] s.heap.size = A at hD hIA ⊢
  have hA : ∀ q : Nat, s.heap.size ≤ q → A q := fun q h => by rw [← hAe]; exact Or.inr h
  have hS : va_S A s.heap s.heap [] := va_S.rf
  have hP : va_P G vwCl [(ci, .inr (0, [.ref pa, .ref ga])), (pa, .inl (cy 1, 1000, .inl (zf pt))), (ga, .inl (cy 0, 1001, .inl (zf gp)))] s.heap := hP
  have hI : va_P G vwCl [(xa, .inr (5, [.ref hi, .ref ci, .ref st])), (st, .inr (3, [.ref sl, .ref wo])), (sl, .inr (2, [.int (iZ p), .int (iZ q), .int (iZ c)]))] s.heap := hI0
  refine lv_iload_n hx hb dX6_gapSizeCount_0 rfl (lv_at hl 1 rfl) ?_
  refine lv_iconst (v := iZ 1) hx hb dX6_gapSizeCount_1 rfl ?_
  refine z_icmp_lt (tgt := 12) hx hb dX6_gapSizeCount_2 (by decide) (by omega) (fun c_2 => ?_) (fun c_2 => ?_)
  · exfalso; omega
  · refine lv_iload_n hx hb dX6_gapSizeCount_5 rfl (lv_at hl 1 rfl) ?_
    refine lv_sipush (v := iZ 1000) hx hb dX6_gapSizeCount_6 (by decide +kernel) ?_
    refine z_icmp_le (tgt := 14) hx hb dX6_gapSizeCount_9 (by decide) (by omega) (fun c_9 => ?_) (fun c_9 => ?_)
    · refine lv_aload_n hx hb dX6_gapSizeCount_14 rfl (lv_at hl 0 rfl) ?_
      refine va_get (D := G) (ci := 5) (v := .ref ci) (C := RX6) (T := TX6) (N := 3) hx hb hts (by decide +kernel) hown hK hI 0 rfl rfl 1 (by decide) (hts (.fieldLink RX6 19 "SturmianWords" "circle" "LSturmianWords$Circle;") (by decide +kernel)) (fun _ h9 => h9) rfl dX6_gapSizeCount_15 ?_
      refine lv_aload_n hx hb dX6_gapSizeCount_18 rfl (lv_at hl 0 rfl) ?_
      refine va_get (D := G) (ci := 5) (v := .ref st) (C := RX6) (T := TX6) (N := 3) hx hb hts (by decide +kernel) hown hK hI 0 rfl rfl 2 (by decide) (hts (.fieldLink RX6 38 "SturmianWords" "state" "LSturmianWords$State;") (by decide +kernel)) (fun _ h9 => h9) rfl dX6_gapSizeCount_19 ?_
      refine va_getN (D := G) (ci := 3) (v := .ref sl) (C := RX4) (T := TX4) (N := 2) hx hb hts (by decide +kernel) hown hK hI 1 rfl rfl 0 (by decide) (va_Nw.use rfl (hKK.2 (.fieldLinkNest RX6 54 "SturmianWords$State" "slope" "LSturmianWords$Slope;" "SturmianWords") (by decide +kernel))) (fun _ h9 => h9) rfl dX6_gapSizeCount_22 ?_
      refine lv_iload_n hx hb dX6_gapSizeCount_25 rfl (lv_at hl 1 rfl) ?_
      have hPc := hP.sub (ws' := [(ci, .inr (0, [.ref pa, .ref ga])), (pa, .inl (cy 1, 1000, .inl (zf pt))), (ga, .inl (cy 0, 1001, .inl (zf gp)))]) [0, 1, 2] rfl
      have hDc := (hD.sub (ws' := [(ci, .inr (0, [.ref pa, .ref ga])), (pa, .inl (cy 1, 1000, .inl (zf pt))), (ga, .inl (cy 0, 1001, .inl (zf gp)))]) [0, 1, 2] (by decide) rfl).weaken (B := fun _ => True) (fun _ _ _ _ => trivial)
      have hFc := va_free (wc := [(ci, .inr (0, [.ref pa, .ref ga])), (pa, .inl (cy 1, 1000, .inl (zf pt))), (ga, .inl (cy 0, 1001, .inl (zf gp)))]) hD hS hA [0, 1, 2] rfl
      have hIc : va_P G vwCl [(sl, .inr (2, [.int (iZ p), .int (iZ q), .int (iZ c)]))] s.heap := (hI.sub (ws' := [(sl, .inr (2, [.int (iZ p), .int (iZ q), .int (iZ c)]))]) [2] rfl)
      have hIAc : NA (va_A [(ci, .inr (0, [.ref pa, .ref ga])), (pa, .inl (cy 1, 1000, .inl (zf pt))), (ga, .inl (cy 0, 1001, .inl (zf gp)))] s.heap.size) [(sl, .inr (2, [.int (iZ p), .int (iZ q), .int (iZ c)]))] := NA.cons (fun z => hIA.at 2 rfl (hFc _ z)) (NA.nil)
      refine z_callE (A := A) (va_runV (As := [.ref sl, .int (iZ m)]) (rest := []) ⟨hx, hb, hml, hown, hts⟩ (c_X0_measure lau G cy ci pa ga sl s.heap.size p q c pt gp m (by first | omega | assumption) (by first | omega | assumption) (by first | omega | assumption)) (cwV 2 hts gX6_gapSizeCount_X0_measure rfl rfl rfl (by decide +kernel) ⟨Nat.le_of_ble_eq_true rfl, Nat.le_of_ble_eq_true rfl⟩) ⟨P1_blind, va_recv hK hP (ci := 0) (q0 := 0) rfl rfl, P1_mk hKK (⟨rfl, hPc, hDc, hIc, hIAc⟩)⟩ rfl rfl hl.1 rfl (lv_room (Nat.le_of_ble_eq_true rfl)) dX6_gapSizeCount_26 ⟨(show 0 + 0 ≤ 0 by omega), (show 0 + 0 ≤ 0 by omega)⟩) hS.2.2 hFc (fun v H1 locs1 hR hL1 => ?_)
      obtain ⟨rfl, hq26, hP1, hD1, hF1⟩ := hR
      obtain ⟨hP, hD⟩ := va_join (wr := []) (w1 := [(ci, .inr (0, [.ref pa, .ref ga])), (pa, .inl (cy 1, 1000, .inl (zf (lyC pt p q m)))), (ga, .inl (cy 0, 1001, .inl (zf (ms p q m (flF gp 0 1001) q).2)))]) hP hD [0, 1, 2] [] rfl rfl (by decide) (by decide) hF1.2 hFc hP1 hD1
      have hS : va_S A s.heap H1 locs1 := Fh.S ((Fh.of hS).tr hF1 (fun q _ h => hFc q h)) hL1
      clear hPc hDc hFc hP1 hD1 hF1 hL1 hIc hIAc
      generalize H1 = H at hP hS ⊢
      have hP : va_P G vwCl [(ci, .inr (0, [.ref pa, .ref ga])), (pa, .inl (cy 1, 1000, .inl (zf (lyC pt p q m)))), (ga, .inl (cy 0, 1001, .inl (zf (ms p q m (flF gp 0 1001) q).2)))] H := hP
      have hD : va_D A [(ci, .inr (0, [.ref pa, .ref ga])), (pa, .inl (cy 1, 1000, .inl (zf (lyC pt p q m)))), (ga, .inl (cy 0, 1001, .inl (zf (ms p q m (flF gp 0 1001) q).2)))] := hD
      refine W.eq (g2 := F0 mt 29 ls []) rfl ?_
      have hI : va_P G vwCl [(xa, .inr (5, [.ref hi, .ref ci, .ref st])), (st, .inr (3, [.ref sl, .ref wo])), (sl, .inr (2, [.int (iZ p), .int (iZ q), .int (iZ c)]))] H := im_keep2 hI0 hIA (Fh.of hS)
      have hmr : ∀ z, 0 ≤ z → z < 1001 → 0 ≤ (ms p q m (flF gp 0 1001) q).2 z ∧ (ms p q m (flF gp 0 1001) q).2 z ≤ 1000 := fun z h1 h2 => by have e := nat_r (P := fun N => 0 ≤ (ms p q m (flF gp 0 1001) N).2 z ∧ (ms p q m (flF gp 0 1001) N).2 z ≤ N) (fun N => ms_r (fun z h1 h2 => if_pos ⟨h1, h2⟩) N z h1 h2) (show 0 ≤ q by omega); have e : 0 ≤ (ms p q m (flF gp 0 1001) q).2 z ∧ (ms p q m (flF gp 0 1001) q).2 z ≤ q := e; omega
      refine lv_aload_n hx hb dX6_gapSizeCount_29 rfl (lv_at hl 0 rfl) ?_
      refine va_get (D := G) (ci := 5) (v := .ref ci) (C := RX6) (T := TX6) (N := 3) hx hb hts (by decide +kernel) hown hK hI 0 rfl rfl 1 (by decide) (hts (.fieldLink RX6 19 "SturmianWords" "circle" "LSturmianWords$Circle;") (by decide +kernel)) (fun _ h9 => h9) rfl dX6_gapSizeCount_30 ?_
      refine z_calli (va_runV (As := []) (rest := []) ⟨hx, hb, hml, hown, hts⟩ (c_X0_differentSizes lau G cy ci pa ga ((ms p q m (flF gp 0 1001) q).2) (hmr)) (cwV 0 hts gX6_gapSizeCount_X0_differentSizes rfl rfl rfl (by decide +kernel) ⟨Nat.le_of_ble_eq_true rfl, Nat.le_of_ble_eq_true rfl⟩) ⟨P1_blind, va_recv hK hP (ci := 0) (q0 := 0) rfl rfl, P1_mk hKK (hP.sub [0, 2] rfl)⟩ rfl rfl hl.1 rfl (lv_room (Nat.le_of_ble_eq_true rfl)) dX6_gapSizeCount_33 ⟨(show 0 + 0 ≤ 0 by omega), (show 0 + 0 ≤ 0 by omega)⟩) ?_
      exact z_iretE hx hb hr hlocks dX6_gapSizeCount_36 hS.2.2 ⟨(show 0 ≤ 0 by omega), (show 0 ≤ 0 by omega)⟩ ⟨(rfl), (trivial), (hP), (hD), Fh.of hS⟩
    · exfalso; omega
set_option maxHeartbeats 4000000 in
set_option maxRecDepth 100000 in
theorem c_X6_gapSize_no (lau : Launch) (G : va_G) (cy : Nat → ClassId) (xa hi ci st sl wo pa ga : Nat) (sz : Nat) (p q c : Int) (pt gp : Int → Int) (m : Int) (ix : Int) (hp : 0 ≤ p ∧ p ≤ q) (hq : 0 < q ∧ q ≤ 1000) (h1 : -2147483648 ≤ m ∧ m < 2147483648 ∧ -2147483648 ≤ ix ∧ ix < 2147483648) (h2 : ¬ ((1 ≤ m ∧ m ≤ 1000) ∧ 0 ≤ ix)) : Met lau yX6_gapSize wsX6_gapSize ({ frames := 2, cells := 0, slots := 0, locals := 48 }) (P1 G cy [.ref xa, .int (iZ m), .int (iZ ix)] (fun H => H.size = sz ∧ va_P G vwCl [(ci, .inr (0, [.ref pa, .ref ga])), (pa, .inl (cy 1, 1000, .inl (zf pt))), (ga, .inl (cy 0, 1001, .inl (zf gp)))] H ∧ va_D (fun _ => True) [(ci, .inr (0, [.ref pa, .ref ga])), (pa, .inl (cy 1, 1000, .inl (zf pt))), (ga, .inl (cy 0, 1001, .inl (zf gp)))] ∧ va_P G vwCl [(xa, .inr (5, [.ref hi, .ref ci, .ref st])), (st, .inr (3, [.ref sl, .ref wo])), (sl, .inr (2, [.int (iZ p), .int (iZ q), .int (iZ c)]))] H ∧ NA (va_A [(ci, .inr (0, [.ref pa, .ref ga])), (pa, .inl (cy 1, 1000, .inl (zf pt))), (ga, .inl (cy 0, 1001, .inl (zf gp)))] sz) [(xa, .inr (5, [.ref hi, .ref ci, .ref st])), (st, .inr (3, [.ref sl, .ref wo])), (sl, .inr (2, [.int (iZ p), .int (iZ q), .int (iZ c)]))])) (Q1 (fun rv H0 H1 => rv = some (.int (iZ (-1))) ∧ (True) ∧ va_P G vwCl [(ci, .inr (0, [.ref pa, .ref ga])), (pa, .inl (cy 1, 1000, .inl (zf pt))), (ga, .inl (cy 0, 1001, .inl (zf gp)))] H1 ∧ va_D (va_A [(ci, .inr (0, [.ref pa, .ref ga])), (pa, .inl (cy 1, 1000, .inl (zf pt))), (ga, .inl (cy 0, 1001, .inl (zf gp)))] sz) [(ci, .inr (0, [.ref pa, .ref ga])), (pa, .inl (cy 1, 1000, .inl (zf pt))), (ga, .inl (cy 0, 1001, .inl (zf gp)))] ∧ Fh (va_A [(ci, .inr (0, [.ref pa, .ref ga])), (pa, .inl (cy 1, 1000, .inl (zf pt))), (ga, .inl (cy 0, 1001, .inl (zf gp)))] sz) H0 H1)) 0 0 (va_A [(ci, .inr (0, [.ref pa, .ref ga])), (pa, .inl (cy 1, 1000, .inl (zf pt))), (ga, .inl (cy 0, 1001, .inl (zf gp)))] sz) := by
  refine z_head (lv := [(0, .ref xa), (1, .int (iZ m)), (2, .int (iZ ix))]) RX6 (by decide) rfl rfl (Nat.le_of_ble_eq_true rfl) rfl ?_
  intro pr ev s mt below meth cd ls hx hb hr hlocks hml hown hname hts hKK hP hl
  have hK := hKK.1
  obtain ⟨hsz, hP, hD0, hI0, hIA⟩ := hP
  subst hsz
  have hD := hD0.self (sz := s.heap.size)
  generalize hAe : va_A [(ci, .inr (0, [.ref pa, .ref ga])), (pa, .inl (cy 1, 1000, .inl (zf pt))), (ga, .inl (cy 0, 1001, .inl (zf gp)))] s.heap.size = A at hD hIA ⊢
  have hA : ∀ q : Nat, s.heap.size ≤ q → A q := fun q h => by rw [← hAe]; exact Or.inr h
  have hS : va_S A s.heap s.heap [] := va_S.rf
  have hP : va_P G vwCl [(ci, .inr (0, [.ref pa, .ref ga])), (pa, .inl (cy 1, 1000, .inl (zf pt))), (ga, .inl (cy 0, 1001, .inl (zf gp)))] s.heap := hP
  have hI : va_P G vwCl [(xa, .inr (5, [.ref hi, .ref ci, .ref st])), (st, .inr (3, [.ref sl, .ref wo])), (sl, .inr (2, [.int (iZ p), .int (iZ q), .int (iZ c)]))] s.heap := hI0
  refine lv_iload_n hx hb dX6_gapSize_0 rfl (lv_at hl 1 rfl) ?_
  refine lv_iconst (v := iZ 1) hx hb dX6_gapSize_1 rfl ?_
  refine z_icmp_lt (tgt := 16) hx hb dX6_gapSize_2 (by decide) (by omega) (fun c_2 => ?_) (fun c_2 => ?_)
  · refine lv_iconst (v := iZ (-1)) hx hb dX6_gapSize_16 rfl ?_
    exact z_iretE hx hb hr hlocks dX6_gapSize_17 hS.2.2 ⟨(show 0 ≤ 0 by omega), (show 0 ≤ 0 by omega)⟩ ⟨(rfl), (trivial), (hP), (hD), Fh.of hS⟩
  · refine lv_iload_n hx hb dX6_gapSize_5 rfl (lv_at hl 1 rfl) ?_
    refine lv_sipush (v := iZ 1000) hx hb dX6_gapSize_6 (by decide +kernel) ?_
    refine z_icmp_gt (tgt := 16) hx hb dX6_gapSize_9 (by decide) (by omega) (fun c_9 => ?_) (fun c_9 => ?_)
    · refine lv_iconst (v := iZ (-1)) hx hb dX6_gapSize_16 rfl ?_
      exact z_iretE hx hb hr hlocks dX6_gapSize_17 hS.2.2 ⟨(show 0 ≤ 0 by omega), (show 0 ≤ 0 by omega)⟩ ⟨(rfl), (trivial), (hP), (hD), Fh.of hS⟩
    · refine lv_iload_n hx hb dX6_gapSize_12 rfl (lv_at hl 2 rfl) ?_
      refine z_if_ge (tgt := 18) hx hb dX6_gapSize_13 (by decide) (by omega) (fun c_13 => ?_) (fun c_13 => ?_)
      · exfalso; omega
      · refine lv_iconst (v := iZ (-1)) hx hb dX6_gapSize_16 rfl ?_
        exact z_iretE hx hb hr hlocks dX6_gapSize_17 hS.2.2 ⟨(show 0 ≤ 0 by omega), (show 0 ≤ 0 by omega)⟩ ⟨(rfl), (trivial), (hP), (hD), Fh.of hS⟩
set_option maxHeartbeats 4000000 in
set_option maxRecDepth 100000 in
theorem c_X6_gapSize (lau : Launch) (G : va_G) (cy : Nat → ClassId) (xa hi ci st sl wo pa ga : Nat) (sz : Nat) (p q c : Int) (pt gp : Int → Int) (m : Int) (ix : Int) (hp : 0 ≤ p ∧ p ≤ q) (hq : 0 < q ∧ q ≤ 1000) (h1 : -2147483648 ≤ m ∧ m < 2147483648 ∧ -2147483648 ≤ ix ∧ ix < 2147483648) (h2 : (1 ≤ m ∧ m ≤ 1000) ∧ 0 ≤ ix) : Met lau yX6_gapSize wsX6_gapSize ({ frames := 2, cells := 0, slots := 0, locals := 48 }) (P1 G cy [.ref xa, .int (iZ m), .int (iZ ix)] (fun H => H.size = sz ∧ va_P G vwCl [(ci, .inr (0, [.ref pa, .ref ga])), (pa, .inl (cy 1, 1000, .inl (zf pt))), (ga, .inl (cy 0, 1001, .inl (zf gp)))] H ∧ va_D (fun _ => True) [(ci, .inr (0, [.ref pa, .ref ga])), (pa, .inl (cy 1, 1000, .inl (zf pt))), (ga, .inl (cy 0, 1001, .inl (zf gp)))] ∧ va_P G vwCl [(xa, .inr (5, [.ref hi, .ref ci, .ref st])), (st, .inr (3, [.ref sl, .ref wo])), (sl, .inr (2, [.int (iZ p), .int (iZ q), .int (iZ c)]))] H ∧ NA (va_A [(ci, .inr (0, [.ref pa, .ref ga])), (pa, .inl (cy 1, 1000, .inl (zf pt))), (ga, .inl (cy 0, 1001, .inl (zf gp)))] sz) [(xa, .inr (5, [.ref hi, .ref ci, .ref st])), (st, .inr (3, [.ref sl, .ref wo])), (sl, .inr (2, [.int (iZ p), .int (iZ q), .int (iZ c)]))])) (Q1 (fun rv H0 H1 => rv = some (.int (iZ (if fnd (fun s => (1 ≤ s ∧ 0 < (ms p q m (flF gp 0 1001) q).2 s) ∧ cnt (fun z => 1 ≤ z ∧ 0 < (ms p q m (flF gp 0 1001) q).2 z) s = ix) 1001 = -1 then -3 else fnd (fun s => (1 ≤ s ∧ 0 < (ms p q m (flF gp 0 1001) q).2 s) ∧ cnt (fun z => 1 ≤ z ∧ 0 < (ms p q m (flF gp 0 1001) q).2 z) s = ix) 1001))) ∧ (True) ∧ va_P G vwCl [(ci, .inr (0, [.ref pa, .ref ga])), (pa, .inl (cy 1, 1000, .inl (zf (lyC pt p q m)))), (ga, .inl (cy 0, 1001, .inl (zf (ms p q m (flF gp 0 1001) q).2)))] H1 ∧ va_D (va_A [(ci, .inr (0, [.ref pa, .ref ga])), (pa, .inl (cy 1, 1000, .inl (zf pt))), (ga, .inl (cy 0, 1001, .inl (zf gp)))] sz) [(ci, .inr (0, [.ref pa, .ref ga])), (pa, .inl (cy 1, 1000, .inl (zf (lyC pt p q m)))), (ga, .inl (cy 0, 1001, .inl (zf (ms p q m (flF gp 0 1001) q).2)))] ∧ Fh (va_A [(ci, .inr (0, [.ref pa, .ref ga])), (pa, .inl (cy 1, 1000, .inl (zf pt))), (ga, .inl (cy 0, 1001, .inl (zf gp)))] sz) H0 H1)) 0 0 (va_A [(ci, .inr (0, [.ref pa, .ref ga])), (pa, .inl (cy 1, 1000, .inl (zf pt))), (ga, .inl (cy 0, 1001, .inl (zf gp)))] sz) := by
  refine z_head (lv := [(0, .ref xa), (1, .int (iZ m)), (2, .int (iZ ix))]) RX6 (by decide) rfl rfl (Nat.le_of_ble_eq_true rfl) rfl ?_
  intro pr ev s mt below meth cd ls hx hb hr hlocks hml hown hname hts hKK hP hl
  have hK := hKK.1
  obtain ⟨hsz, hP, hD0, hI0, hIA⟩ := hP
  subst hsz
  have hD := hD0.self (sz := s.heap.size)
  generalize hAe : va_A [(ci, .inr (0, [.ref pa, .ref ga])), (pa, .inl (cy 1, 1000, .inl (zf pt))), (ga, .inl (cy 0, 1001, .inl (zf gp)))] s.heap.size = A at hD hIA ⊢
  have hA : ∀ q : Nat, s.heap.size ≤ q → A q := fun q h => by rw [← hAe]; exact Or.inr h
  have hS : va_S A s.heap s.heap [] := va_S.rf
  have hP : va_P G vwCl [(ci, .inr (0, [.ref pa, .ref ga])), (pa, .inl (cy 1, 1000, .inl (zf pt))), (ga, .inl (cy 0, 1001, .inl (zf gp)))] s.heap := hP
  have hI : va_P G vwCl [(xa, .inr (5, [.ref hi, .ref ci, .ref st])), (st, .inr (3, [.ref sl, .ref wo])), (sl, .inr (2, [.int (iZ p), .int (iZ q), .int (iZ c)]))] s.heap := hI0
  refine lv_iload_n hx hb dX6_gapSize_0 rfl (lv_at hl 1 rfl) ?_
  refine lv_iconst (v := iZ 1) hx hb dX6_gapSize_1 rfl ?_
  refine z_icmp_lt (tgt := 16) hx hb dX6_gapSize_2 (by decide) (by omega) (fun c_2 => ?_) (fun c_2 => ?_)
  · exfalso; omega
  · refine lv_iload_n hx hb dX6_gapSize_5 rfl (lv_at hl 1 rfl) ?_
    refine lv_sipush (v := iZ 1000) hx hb dX6_gapSize_6 (by decide +kernel) ?_
    refine z_icmp_gt (tgt := 16) hx hb dX6_gapSize_9 (by decide) (by omega) (fun c_9 => ?_) (fun c_9 => ?_)
    · exfalso; omega
    · refine lv_iload_n hx hb dX6_gapSize_12 rfl (lv_at hl 2 rfl) ?_
      refine z_if_ge (tgt := 18) hx hb dX6_gapSize_13 (by decide) (by omega) (fun c_13 => ?_) (fun c_13 => ?_)
      · refine lv_aload_n hx hb dX6_gapSize_18 rfl (lv_at hl 0 rfl) ?_
        refine va_get (D := G) (ci := 5) (v := .ref ci) (C := RX6) (T := TX6) (N := 3) hx hb hts (by decide +kernel) hown hK hI 0 rfl rfl 1 (by decide) (hts (.fieldLink RX6 19 "SturmianWords" "circle" "LSturmianWords$Circle;") (by decide +kernel)) (fun _ h9 => h9) rfl dX6_gapSize_19 ?_
        refine lv_aload_n hx hb dX6_gapSize_22 rfl (lv_at hl 0 rfl) ?_
        refine va_get (D := G) (ci := 5) (v := .ref st) (C := RX6) (T := TX6) (N := 3) hx hb hts (by decide +kernel) hown hK hI 0 rfl rfl 2 (by decide) (hts (.fieldLink RX6 38 "SturmianWords" "state" "LSturmianWords$State;") (by decide +kernel)) (fun _ h9 => h9) rfl dX6_gapSize_23 ?_
        refine va_getN (D := G) (ci := 3) (v := .ref sl) (C := RX4) (T := TX4) (N := 2) hx hb hts (by decide +kernel) hown hK hI 1 rfl rfl 0 (by decide) (va_Nw.use rfl (hKK.2 (.fieldLinkNest RX6 54 "SturmianWords$State" "slope" "LSturmianWords$Slope;" "SturmianWords") (by decide +kernel))) (fun _ h9 => h9) rfl dX6_gapSize_26 ?_
        refine lv_iload_n hx hb dX6_gapSize_29 rfl (lv_at hl 1 rfl) ?_
        have hPc := hP.sub (ws' := [(ci, .inr (0, [.ref pa, .ref ga])), (pa, .inl (cy 1, 1000, .inl (zf pt))), (ga, .inl (cy 0, 1001, .inl (zf gp)))]) [0, 1, 2] rfl
        have hDc := (hD.sub (ws' := [(ci, .inr (0, [.ref pa, .ref ga])), (pa, .inl (cy 1, 1000, .inl (zf pt))), (ga, .inl (cy 0, 1001, .inl (zf gp)))]) [0, 1, 2] (by decide) rfl).weaken (B := fun _ => True) (fun _ _ _ _ => trivial)
        have hFc := va_free (wc := [(ci, .inr (0, [.ref pa, .ref ga])), (pa, .inl (cy 1, 1000, .inl (zf pt))), (ga, .inl (cy 0, 1001, .inl (zf gp)))]) hD hS hA [0, 1, 2] rfl
        have hIc : va_P G vwCl [(sl, .inr (2, [.int (iZ p), .int (iZ q), .int (iZ c)]))] s.heap := (hI.sub (ws' := [(sl, .inr (2, [.int (iZ p), .int (iZ q), .int (iZ c)]))]) [2] rfl)
        have hIAc : NA (va_A [(ci, .inr (0, [.ref pa, .ref ga])), (pa, .inl (cy 1, 1000, .inl (zf pt))), (ga, .inl (cy 0, 1001, .inl (zf gp)))] s.heap.size) [(sl, .inr (2, [.int (iZ p), .int (iZ q), .int (iZ c)]))] := NA.cons (fun z => hIA.at 2 rfl (hFc _ z)) (NA.nil)
        refine z_callE (A := A) (va_runV (As := [.ref sl, .int (iZ m)]) (rest := []) ⟨hx, hb, hml, hown, hts⟩ (c_X0_measure lau G cy ci pa ga sl s.heap.size p q c pt gp m (by first | omega | assumption) (by first | omega | assumption) (by first | omega | assumption)) (cwV 2 hts gX6_gapSize_X0_measure rfl rfl rfl (by decide +kernel) ⟨Nat.le_of_ble_eq_true rfl, Nat.le_of_ble_eq_true rfl⟩) ⟨P1_blind, va_recv hK hP (ci := 0) (q0 := 0) rfl rfl, P1_mk hKK (⟨rfl, hPc, hDc, hIc, hIAc⟩)⟩ rfl rfl hl.1 rfl (lv_room (Nat.le_of_ble_eq_true rfl)) dX6_gapSize_30 ⟨(show 0 + 0 ≤ 0 by omega), (show 0 + 0 ≤ 0 by omega)⟩) hS.2.2 hFc (fun v H1 locs1 hR hL1 => ?_)
        obtain ⟨rfl, hq30, hP1, hD1, hF1⟩ := hR
        obtain ⟨hP, hD⟩ := va_join (wr := []) (w1 := [(ci, .inr (0, [.ref pa, .ref ga])), (pa, .inl (cy 1, 1000, .inl (zf (lyC pt p q m)))), (ga, .inl (cy 0, 1001, .inl (zf (ms p q m (flF gp 0 1001) q).2)))]) hP hD [0, 1, 2] [] rfl rfl (by decide) (by decide) hF1.2 hFc hP1 hD1
        have hS : va_S A s.heap H1 locs1 := Fh.S ((Fh.of hS).tr hF1 (fun q _ h => hFc q h)) hL1
        clear hPc hDc hFc hP1 hD1 hF1 hL1 hIc hIAc
        generalize H1 = H at hP hS ⊢
        have hP : va_P G vwCl [(ci, .inr (0, [.ref pa, .ref ga])), (pa, .inl (cy 1, 1000, .inl (zf (lyC pt p q m)))), (ga, .inl (cy 0, 1001, .inl (zf (ms p q m (flF gp 0 1001) q).2)))] H := hP
        have hD : va_D A [(ci, .inr (0, [.ref pa, .ref ga])), (pa, .inl (cy 1, 1000, .inl (zf (lyC pt p q m)))), (ga, .inl (cy 0, 1001, .inl (zf (ms p q m (flF gp 0 1001) q).2)))] := hD
        refine W.eq (g2 := F0 mt 33 ls []) rfl ?_
        have hI : va_P G vwCl [(xa, .inr (5, [.ref hi, .ref ci, .ref st])), (st, .inr (3, [.ref sl, .ref wo])), (sl, .inr (2, [.int (iZ p), .int (iZ q), .int (iZ c)]))] H := im_keep2 hI0 hIA (Fh.of hS)
        have hmr : ∀ z, 0 ≤ z → z < 1001 → 0 ≤ (ms p q m (flF gp 0 1001) q).2 z ∧ (ms p q m (flF gp 0 1001) q).2 z ≤ 1000 := fun z h1 h2 => by have e := nat_r (P := fun N => 0 ≤ (ms p q m (flF gp 0 1001) N).2 z ∧ (ms p q m (flF gp 0 1001) N).2 z ≤ N) (fun N => ms_r (fun z h1 h2 => if_pos ⟨h1, h2⟩) N z h1 h2) (show 0 ≤ q by omega); have e : 0 ≤ (ms p q m (flF gp 0 1001) q).2 z ∧ (ms p q m (flF gp 0 1001) q).2 z ≤ q := e; omega
        refine lv_aload_n hx hb dX6_gapSize_33 rfl (lv_at hl 0 rfl) ?_
        refine va_get (D := G) (ci := 5) (v := .ref ci) (C := RX6) (T := TX6) (N := 3) hx hb hts (by decide +kernel) hown hK hI 0 rfl rfl 1 (by decide) (hts (.fieldLink RX6 19 "SturmianWords" "circle" "LSturmianWords$Circle;") (by decide +kernel)) (fun _ h9 => h9) rfl dX6_gapSize_34 ?_
        refine lv_iload_n hx hb dX6_gapSize_37 rfl (lv_at hl 2 rfl) ?_
        refine z_calli (va_runV (As := [.int (iZ ix)]) (rest := []) ⟨hx, hb, hml, hown, hts⟩ (c_X0_listedSize lau G cy ci pa ga ((ms p q m (flF gp 0 1001) q).2) ix (hmr) (by first | omega | assumption)) (cwV 1 hts gX6_gapSize_X0_listedSize rfl rfl rfl (by decide +kernel) ⟨Nat.le_of_ble_eq_true rfl, Nat.le_of_ble_eq_true rfl⟩) ⟨P1_blind, va_recv hK hP (ci := 0) (q0 := 0) rfl rfl, P1_mk hKK (hP.sub [0, 2] rfl)⟩ rfl rfl hl.1 rfl (lv_room (Nat.le_of_ble_eq_true rfl)) dX6_gapSize_38 ⟨(show 0 + 0 ≤ 0 by omega), (show 0 + 0 ≤ 0 by omega)⟩) ?_
        refine lv_istore_n (lv' := [(3, .int (iZ (fnd (fun s => (1 ≤ s ∧ 0 < ((ms p q m (flF gp 0 1001) q).2) s) ∧ cnt (fun z => 1 ≤ z ∧ 0 < ((ms p q m (flF gp 0 1001) q).2) z) s = ix) 1001))), (0, .ref xa), (1, .int (iZ m)), (2, .int (iZ ix))]) hx hb dX6_gapSize_41 rfl hl (by decide) rfl (fun ls hl => ?_)
        have hfb := fnd_lt (P := fun s => (1 ≤ s ∧ 0 < (ms p q m (flF gp 0 1001) q).2 s) ∧ cnt (fun z => 1 ≤ z ∧ 0 < (ms p q m (flF gp 0 1001) q).2 z) s = ix) 1001
        have hfr := fnd_ge (P := fun s => (1 ≤ s ∧ 0 < (ms p q m (flF gp 0 1001) q).2 s) ∧ cnt (fun z => 1 ≤ z ∧ 0 < (ms p q m (flF gp 0 1001) q).2 z) s = ix) 1001
        have h1k : ((1001 : Nat) : Int) = 1001 := rfl
        rw [h1k] at hfb hfr
        refine lv_iload_n hx hb dX6_gapSize_42 rfl (lv_at hl 0 rfl) ?_
        refine lv_iconst (v := iZ (-1)) hx hb dX6_gapSize_43 rfl ?_
        refine z_icmp_ne (tgt := 52) hx hb dX6_gapSize_44 (by decide) (by omega) (fun c_44 => ?_) (fun c_44 => ?_)
        · refine lv_iload_n hx hb dX6_gapSize_52 rfl (lv_at hl 0 rfl) ?_
          exact z_iretE hx hb hr hlocks dX6_gapSize_53 hS.2.2 ⟨(show 0 ≤ 0 by omega), (show 0 ≤ 0 by omega)⟩ ⟨(sI (by rw [if_neg (by omega)])), (trivial), (hP), (hD), Fh.of hS⟩
        · refine lv_bipush (v := iZ (-3)) hx hb dX6_gapSize_47 (by decide +kernel) ?_
          refine lv_goto (tgt := 53) hx hb dX6_gapSize_49 (by decide) ?_
          exact z_iretE hx hb hr hlocks dX6_gapSize_53 hS.2.2 ⟨(show 0 ≤ 0 by omega), (show 0 ≤ 0 by omega)⟩ ⟨(sI (by rw [if_pos (by omega)])), (trivial), (hP), (hD), Fh.of hS⟩
      · exfalso; omega
set_option maxHeartbeats 4000000 in
set_option maxRecDepth 100000 in
theorem c_X6_gapsOfSize_no (lau : Launch) (G : va_G) (cy : Nat → ClassId) (xa hi ci st sl wo pa ga : Nat) (sz : Nat) (p q c : Int) (pt gp : Int → Int) (m : Int) (z : Int) (hp : 0 ≤ p ∧ p ≤ q) (hq : 0 < q ∧ q ≤ 1000) (h1 : -2147483648 ≤ m ∧ m < 2147483648 ∧ -2147483648 ≤ z ∧ z < 2147483648) (h2 : ¬ ((1 ≤ m ∧ m ≤ 1000) ∧ 1 ≤ z)) : Met lau yX6_gapsOfSize wsX6_gapsOfSize ({ frames := 2, cells := 0, slots := 0, locals := 48 }) (P1 G cy [.ref xa, .int (iZ m), .int (iZ z)] (fun H => H.size = sz ∧ va_P G vwCl [(ci, .inr (0, [.ref pa, .ref ga])), (pa, .inl (cy 1, 1000, .inl (zf pt))), (ga, .inl (cy 0, 1001, .inl (zf gp)))] H ∧ va_D (fun _ => True) [(ci, .inr (0, [.ref pa, .ref ga])), (pa, .inl (cy 1, 1000, .inl (zf pt))), (ga, .inl (cy 0, 1001, .inl (zf gp)))] ∧ va_P G vwCl [(xa, .inr (5, [.ref hi, .ref ci, .ref st])), (st, .inr (3, [.ref sl, .ref wo])), (sl, .inr (2, [.int (iZ p), .int (iZ q), .int (iZ c)]))] H ∧ NA (va_A [(ci, .inr (0, [.ref pa, .ref ga])), (pa, .inl (cy 1, 1000, .inl (zf pt))), (ga, .inl (cy 0, 1001, .inl (zf gp)))] sz) [(xa, .inr (5, [.ref hi, .ref ci, .ref st])), (st, .inr (3, [.ref sl, .ref wo])), (sl, .inr (2, [.int (iZ p), .int (iZ q), .int (iZ c)]))])) (Q1 (fun rv H0 H1 => rv = some (.int (iZ (-1))) ∧ (True) ∧ va_P G vwCl [(ci, .inr (0, [.ref pa, .ref ga])), (pa, .inl (cy 1, 1000, .inl (zf pt))), (ga, .inl (cy 0, 1001, .inl (zf gp)))] H1 ∧ va_D (va_A [(ci, .inr (0, [.ref pa, .ref ga])), (pa, .inl (cy 1, 1000, .inl (zf pt))), (ga, .inl (cy 0, 1001, .inl (zf gp)))] sz) [(ci, .inr (0, [.ref pa, .ref ga])), (pa, .inl (cy 1, 1000, .inl (zf pt))), (ga, .inl (cy 0, 1001, .inl (zf gp)))] ∧ Fh (va_A [(ci, .inr (0, [.ref pa, .ref ga])), (pa, .inl (cy 1, 1000, .inl (zf pt))), (ga, .inl (cy 0, 1001, .inl (zf gp)))] sz) H0 H1)) 0 0 (va_A [(ci, .inr (0, [.ref pa, .ref ga])), (pa, .inl (cy 1, 1000, .inl (zf pt))), (ga, .inl (cy 0, 1001, .inl (zf gp)))] sz) := by
  refine z_head (lv := [(0, .ref xa), (1, .int (iZ m)), (2, .int (iZ z))]) RX6 (by decide) rfl rfl (Nat.le_of_ble_eq_true rfl) rfl ?_
  intro pr ev s mt below meth cd ls hx hb hr hlocks hml hown hname hts hKK hP hl
  have hK := hKK.1
  obtain ⟨hsz, hP, hD0, hI0, hIA⟩ := hP
  subst hsz
  have hD := hD0.self (sz := s.heap.size)
  generalize hAe : va_A [(ci, .inr (0, [.ref pa, .ref ga])), (pa, .inl (cy 1, 1000, .inl (zf pt))), (ga, .inl (cy 0, 1001, .inl (zf gp)))] s.heap.size = A at hD hIA ⊢
  have hA : ∀ q : Nat, s.heap.size ≤ q → A q := fun q h => by rw [← hAe]; exact Or.inr h
  have hS : va_S A s.heap s.heap [] := va_S.rf
  have hP : va_P G vwCl [(ci, .inr (0, [.ref pa, .ref ga])), (pa, .inl (cy 1, 1000, .inl (zf pt))), (ga, .inl (cy 0, 1001, .inl (zf gp)))] s.heap := hP
  have hI : va_P G vwCl [(xa, .inr (5, [.ref hi, .ref ci, .ref st])), (st, .inr (3, [.ref sl, .ref wo])), (sl, .inr (2, [.int (iZ p), .int (iZ q), .int (iZ c)]))] s.heap := hI0
  refine lv_iload_n hx hb dX6_gapsOfSize_0 rfl (lv_at hl 1 rfl) ?_
  refine lv_iconst (v := iZ 1) hx hb dX6_gapsOfSize_1 rfl ?_
  refine z_icmp_lt (tgt := 17) hx hb dX6_gapsOfSize_2 (by decide) (by omega) (fun c_2 => ?_) (fun c_2 => ?_)
  · refine lv_iconst (v := iZ (-1)) hx hb dX6_gapsOfSize_17 rfl ?_
    exact z_iretE hx hb hr hlocks dX6_gapsOfSize_18 hS.2.2 ⟨(show 0 ≤ 0 by omega), (show 0 ≤ 0 by omega)⟩ ⟨(rfl), (trivial), (hP), (hD), Fh.of hS⟩
  · refine lv_iload_n hx hb dX6_gapsOfSize_5 rfl (lv_at hl 1 rfl) ?_
    refine lv_sipush (v := iZ 1000) hx hb dX6_gapsOfSize_6 (by decide +kernel) ?_
    refine z_icmp_gt (tgt := 17) hx hb dX6_gapsOfSize_9 (by decide) (by omega) (fun c_9 => ?_) (fun c_9 => ?_)
    · refine lv_iconst (v := iZ (-1)) hx hb dX6_gapsOfSize_17 rfl ?_
      exact z_iretE hx hb hr hlocks dX6_gapsOfSize_18 hS.2.2 ⟨(show 0 ≤ 0 by omega), (show 0 ≤ 0 by omega)⟩ ⟨(rfl), (trivial), (hP), (hD), Fh.of hS⟩
    · refine lv_iload_n hx hb dX6_gapsOfSize_12 rfl (lv_at hl 2 rfl) ?_
      refine lv_iconst (v := iZ 1) hx hb dX6_gapsOfSize_13 rfl ?_
      refine z_icmp_ge (tgt := 19) hx hb dX6_gapsOfSize_14 (by decide) (by omega) (fun c_14 => ?_) (fun c_14 => ?_)
      · exfalso; omega
      · refine lv_iconst (v := iZ (-1)) hx hb dX6_gapsOfSize_17 rfl ?_
        exact z_iretE hx hb hr hlocks dX6_gapsOfSize_18 hS.2.2 ⟨(show 0 ≤ 0 by omega), (show 0 ≤ 0 by omega)⟩ ⟨(rfl), (trivial), (hP), (hD), Fh.of hS⟩
set_option maxHeartbeats 4000000 in
set_option maxRecDepth 100000 in
theorem c_X6_gapsOfSize (lau : Launch) (G : va_G) (cy : Nat → ClassId) (xa hi ci st sl wo pa ga : Nat) (sz : Nat) (p q c : Int) (pt gp : Int → Int) (m : Int) (z : Int) (hp : 0 ≤ p ∧ p ≤ q) (hq : 0 < q ∧ q ≤ 1000) (h1 : -2147483648 ≤ m ∧ m < 2147483648 ∧ -2147483648 ≤ z ∧ z < 2147483648) (h2 : (1 ≤ m ∧ m ≤ 1000) ∧ 1 ≤ z) : Met lau yX6_gapsOfSize wsX6_gapsOfSize ({ frames := 2, cells := 0, slots := 0, locals := 48 }) (P1 G cy [.ref xa, .int (iZ m), .int (iZ z)] (fun H => H.size = sz ∧ va_P G vwCl [(ci, .inr (0, [.ref pa, .ref ga])), (pa, .inl (cy 1, 1000, .inl (zf pt))), (ga, .inl (cy 0, 1001, .inl (zf gp)))] H ∧ va_D (fun _ => True) [(ci, .inr (0, [.ref pa, .ref ga])), (pa, .inl (cy 1, 1000, .inl (zf pt))), (ga, .inl (cy 0, 1001, .inl (zf gp)))] ∧ va_P G vwCl [(xa, .inr (5, [.ref hi, .ref ci, .ref st])), (st, .inr (3, [.ref sl, .ref wo])), (sl, .inr (2, [.int (iZ p), .int (iZ q), .int (iZ c)]))] H ∧ NA (va_A [(ci, .inr (0, [.ref pa, .ref ga])), (pa, .inl (cy 1, 1000, .inl (zf pt))), (ga, .inl (cy 0, 1001, .inl (zf gp)))] sz) [(xa, .inr (5, [.ref hi, .ref ci, .ref st])), (st, .inr (3, [.ref sl, .ref wo])), (sl, .inr (2, [.int (iZ p), .int (iZ q), .int (iZ c)]))])) (Q1 (fun rv H0 H1 => rv = some (.int (iZ (if 0 ≤ z ∧ z < 1001 then (ms p q m (flF gp 0 1001) q).2 z else 0))) ∧ (True) ∧ va_P G vwCl [(ci, .inr (0, [.ref pa, .ref ga])), (pa, .inl (cy 1, 1000, .inl (zf (lyC pt p q m)))), (ga, .inl (cy 0, 1001, .inl (zf (ms p q m (flF gp 0 1001) q).2)))] H1 ∧ va_D (va_A [(ci, .inr (0, [.ref pa, .ref ga])), (pa, .inl (cy 1, 1000, .inl (zf pt))), (ga, .inl (cy 0, 1001, .inl (zf gp)))] sz) [(ci, .inr (0, [.ref pa, .ref ga])), (pa, .inl (cy 1, 1000, .inl (zf (lyC pt p q m)))), (ga, .inl (cy 0, 1001, .inl (zf (ms p q m (flF gp 0 1001) q).2)))] ∧ Fh (va_A [(ci, .inr (0, [.ref pa, .ref ga])), (pa, .inl (cy 1, 1000, .inl (zf pt))), (ga, .inl (cy 0, 1001, .inl (zf gp)))] sz) H0 H1)) 0 0 (va_A [(ci, .inr (0, [.ref pa, .ref ga])), (pa, .inl (cy 1, 1000, .inl (zf pt))), (ga, .inl (cy 0, 1001, .inl (zf gp)))] sz) := by
  refine z_head (lv := [(0, .ref xa), (1, .int (iZ m)), (2, .int (iZ z))]) RX6 (by decide) rfl rfl (Nat.le_of_ble_eq_true rfl) rfl ?_
  intro pr ev s mt below meth cd ls hx hb hr hlocks hml hown hname hts hKK hP hl
  have hK := hKK.1
  obtain ⟨hsz, hP, hD0, hI0, hIA⟩ := hP
  subst hsz
  have hD := hD0.self (sz := s.heap.size)
  generalize hAe : va_A [(ci, .inr (0, [.ref pa, .ref ga])), (pa, .inl (cy 1, 1000, .inl (zf pt))), (ga, .inl (cy 0, 1001, .inl (zf gp)))] s.heap.size = A at hD hIA ⊢
  have hA : ∀ q : Nat, s.heap.size ≤ q → A q := fun q h => by rw [← hAe]; exact Or.inr h
  have hS : va_S A s.heap s.heap [] := va_S.rf
  have hP : va_P G vwCl [(ci, .inr (0, [.ref pa, .ref ga])), (pa, .inl (cy 1, 1000, .inl (zf pt))), (ga, .inl (cy 0, 1001, .inl (zf gp)))] s.heap := hP
  have hI : va_P G vwCl [(xa, .inr (5, [.ref hi, .ref ci, .ref st])), (st, .inr (3, [.ref sl, .ref wo])), (sl, .inr (2, [.int (iZ p), .int (iZ q), .int (iZ c)]))] s.heap := hI0
  refine lv_iload_n hx hb dX6_gapsOfSize_0 rfl (lv_at hl 1 rfl) ?_
  refine lv_iconst (v := iZ 1) hx hb dX6_gapsOfSize_1 rfl ?_
  refine z_icmp_lt (tgt := 17) hx hb dX6_gapsOfSize_2 (by decide) (by omega) (fun c_2 => ?_) (fun c_2 => ?_)
  · exfalso; omega
  · refine lv_iload_n hx hb dX6_gapsOfSize_5 rfl (lv_at hl 1 rfl) ?_
    refine lv_sipush (v := iZ 1000) hx hb dX6_gapsOfSize_6 (by decide +kernel) ?_
    refine z_icmp_gt (tgt := 17) hx hb dX6_gapsOfSize_9 (by decide) (by omega) (fun c_9 => ?_) (fun c_9 => ?_)
    · exfalso; omega
    · refine lv_iload_n hx hb dX6_gapsOfSize_12 rfl (lv_at hl 2 rfl) ?_
      refine lv_iconst (v := iZ 1) hx hb dX6_gapsOfSize_13 rfl ?_
      refine z_icmp_ge (tgt := 19) hx hb dX6_gapsOfSize_14 (by decide) (by omega) (fun c_14 => ?_) (fun c_14 => ?_)
      · refine lv_aload_n hx hb dX6_gapsOfSize_19 rfl (lv_at hl 0 rfl) ?_
        refine va_get (D := G) (ci := 5) (v := .ref ci) (C := RX6) (T := TX6) (N := 3) hx hb hts (by decide +kernel) hown hK hI 0 rfl rfl 1 (by decide) (hts (.fieldLink RX6 19 "SturmianWords" "circle" "LSturmianWords$Circle;") (by decide +kernel)) (fun _ h9 => h9) rfl dX6_gapsOfSize_20 ?_
        refine lv_aload_n hx hb dX6_gapsOfSize_23 rfl (lv_at hl 0 rfl) ?_
        refine va_get (D := G) (ci := 5) (v := .ref st) (C := RX6) (T := TX6) (N := 3) hx hb hts (by decide +kernel) hown hK hI 0 rfl rfl 2 (by decide) (hts (.fieldLink RX6 38 "SturmianWords" "state" "LSturmianWords$State;") (by decide +kernel)) (fun _ h9 => h9) rfl dX6_gapsOfSize_24 ?_
        refine va_getN (D := G) (ci := 3) (v := .ref sl) (C := RX4) (T := TX4) (N := 2) hx hb hts (by decide +kernel) hown hK hI 1 rfl rfl 0 (by decide) (va_Nw.use rfl (hKK.2 (.fieldLinkNest RX6 54 "SturmianWords$State" "slope" "LSturmianWords$Slope;" "SturmianWords") (by decide +kernel))) (fun _ h9 => h9) rfl dX6_gapsOfSize_27 ?_
        refine lv_iload_n hx hb dX6_gapsOfSize_30 rfl (lv_at hl 1 rfl) ?_
        have hPc := hP.sub (ws' := [(ci, .inr (0, [.ref pa, .ref ga])), (pa, .inl (cy 1, 1000, .inl (zf pt))), (ga, .inl (cy 0, 1001, .inl (zf gp)))]) [0, 1, 2] rfl
        have hDc := (hD.sub (ws' := [(ci, .inr (0, [.ref pa, .ref ga])), (pa, .inl (cy 1, 1000, .inl (zf pt))), (ga, .inl (cy 0, 1001, .inl (zf gp)))]) [0, 1, 2] (by decide) rfl).weaken (B := fun _ => True) (fun _ _ _ _ => trivial)
        have hFc := va_free (wc := [(ci, .inr (0, [.ref pa, .ref ga])), (pa, .inl (cy 1, 1000, .inl (zf pt))), (ga, .inl (cy 0, 1001, .inl (zf gp)))]) hD hS hA [0, 1, 2] rfl
        have hIc : va_P G vwCl [(sl, .inr (2, [.int (iZ p), .int (iZ q), .int (iZ c)]))] s.heap := (hI.sub (ws' := [(sl, .inr (2, [.int (iZ p), .int (iZ q), .int (iZ c)]))]) [2] rfl)
        have hIAc : NA (va_A [(ci, .inr (0, [.ref pa, .ref ga])), (pa, .inl (cy 1, 1000, .inl (zf pt))), (ga, .inl (cy 0, 1001, .inl (zf gp)))] s.heap.size) [(sl, .inr (2, [.int (iZ p), .int (iZ q), .int (iZ c)]))] := NA.cons (fun z => hIA.at 2 rfl (hFc _ z)) (NA.nil)
        refine z_callE (A := A) (va_runV (As := [.ref sl, .int (iZ m)]) (rest := []) ⟨hx, hb, hml, hown, hts⟩ (c_X0_measure lau G cy ci pa ga sl s.heap.size p q c pt gp m (by first | omega | assumption) (by first | omega | assumption) (by first | omega | assumption)) (cwV 2 hts gX6_gapsOfSize_X0_measure rfl rfl rfl (by decide +kernel) ⟨Nat.le_of_ble_eq_true rfl, Nat.le_of_ble_eq_true rfl⟩) ⟨P1_blind, va_recv hK hP (ci := 0) (q0 := 0) rfl rfl, P1_mk hKK (⟨rfl, hPc, hDc, hIc, hIAc⟩)⟩ rfl rfl hl.1 rfl (lv_room (Nat.le_of_ble_eq_true rfl)) dX6_gapsOfSize_31 ⟨(show 0 + 0 ≤ 0 by omega), (show 0 + 0 ≤ 0 by omega)⟩) hS.2.2 hFc (fun v H1 locs1 hR hL1 => ?_)
        obtain ⟨rfl, hq31, hP1, hD1, hF1⟩ := hR
        obtain ⟨hP, hD⟩ := va_join (wr := []) (w1 := [(ci, .inr (0, [.ref pa, .ref ga])), (pa, .inl (cy 1, 1000, .inl (zf (lyC pt p q m)))), (ga, .inl (cy 0, 1001, .inl (zf (ms p q m (flF gp 0 1001) q).2)))]) hP hD [0, 1, 2] [] rfl rfl (by decide) (by decide) hF1.2 hFc hP1 hD1
        have hS : va_S A s.heap H1 locs1 := Fh.S ((Fh.of hS).tr hF1 (fun q _ h => hFc q h)) hL1
        clear hPc hDc hFc hP1 hD1 hF1 hL1 hIc hIAc
        generalize H1 = H at hP hS ⊢
        have hP : va_P G vwCl [(ci, .inr (0, [.ref pa, .ref ga])), (pa, .inl (cy 1, 1000, .inl (zf (lyC pt p q m)))), (ga, .inl (cy 0, 1001, .inl (zf (ms p q m (flF gp 0 1001) q).2)))] H := hP
        have hD : va_D A [(ci, .inr (0, [.ref pa, .ref ga])), (pa, .inl (cy 1, 1000, .inl (zf (lyC pt p q m)))), (ga, .inl (cy 0, 1001, .inl (zf (ms p q m (flF gp 0 1001) q).2)))] := hD
        refine W.eq (g2 := F0 mt 34 ls []) rfl ?_
        have hI : va_P G vwCl [(xa, .inr (5, [.ref hi, .ref ci, .ref st])), (st, .inr (3, [.ref sl, .ref wo])), (sl, .inr (2, [.int (iZ p), .int (iZ q), .int (iZ c)]))] H := im_keep2 hI0 hIA (Fh.of hS)
        refine lv_aload_n hx hb dX6_gapsOfSize_34 rfl (lv_at hl 0 rfl) ?_
        refine va_get (D := G) (ci := 5) (v := .ref ci) (C := RX6) (T := TX6) (N := 3) hx hb hts (by decide +kernel) hown hK hI 0 rfl rfl 1 (by decide) (hts (.fieldLink RX6 19 "SturmianWords" "circle" "LSturmianWords$Circle;") (by decide +kernel)) (fun _ h9 => h9) rfl dX6_gapsOfSize_35 ?_
        refine lv_iload_n hx hb dX6_gapsOfSize_38 rfl (lv_at hl 2 rfl) ?_
        refine z_calli (va_runV (As := [.int (iZ z)]) (rest := []) ⟨hx, hb, hml, hown, hts⟩ (c_X0_gapsWith lau G cy ci pa ga ((ms p q m (flF gp 0 1001) q).2) z (by first | omega | assumption)) (cwV 1 hts gX6_gapsOfSize_X0_gapsWith rfl rfl rfl (by decide +kernel) ⟨Nat.le_of_ble_eq_true rfl, Nat.le_of_ble_eq_true rfl⟩) ⟨P1_blind, va_recv hK hP (ci := 0) (q0 := 0) rfl rfl, P1_mk hKK (hP.sub [0, 2] rfl)⟩ rfl rfl hl.1 rfl (lv_room (Nat.le_of_ble_eq_true rfl)) dX6_gapsOfSize_39 ⟨(show 0 + 0 ≤ 0 by omega), (show 0 + 0 ≤ 0 by omega)⟩) ?_
        exact z_iretE hx hb hr hlocks dX6_gapsOfSize_42 hS.2.2 ⟨(show 0 ≤ 0 by omega), (show 0 ≤ 0 by omega)⟩ ⟨(rfl), (trivial), (hP), (hD), Fh.of hS⟩
      · exfalso; omega
