set_option maxHeartbeats 4000000 in
set_option maxRecDepth 100000 in
theorem c_X7_simplest (lau : Launch) (G : va_G) (cy : Nat → ClassId) (a0 a1 a2 a3 a4 a5 a6 a7 : Nat) (ed tc ol nl : Int) (nw : Int → Int) (part : Int) (hN : 0 ≤ nw 3 ∧ nw 3 ≤ 60) (hL : ∀ x, 4 ≤ x → x < 4 + nw 3 → 0 ≤ nw x ∧ nw x ≤ 1) (h1 : 0 ≤ part ∧ part ≤ 2) : Met lau yX7_simplest wsX7_simplest ({ frames := 1, cells := 0, slots := 0, locals := 24 }) (P1 G cy [.ref a0, .int (iZ part)] (fun H => va_P G vwCl [(a0, .inr (6, [.ref a1, .ref a2, .ref a3, .int (iZ ed), .ref a4, .int (iZ tc), .ref a5, .int (iZ ol), .ref a6, .int (iZ nl), .ref a7])), (a1, .inl (cy 0, 64, .inl (zf nw)))] H)) (vp_Si (fun r => r = iZ (siR nw part))) 0 0 (fun _ => False) := by
  refine z_head (lv := [(0, .ref a0), (1, .int (iZ part))]) RX7 (by decide) rfl rfl (Nat.le_of_ble_eq_true rfl) rfl ?_
  intro pr ev s mt below meth cd ls hx hb hr hlocks hml hown hname hts hKK hP hl
  have hK := hKK.1
  have hP : va_P G vwCl [(a0, .inr (6, [.ref a1, .ref a2, .ref a3, .int (iZ ed), .ref a4, .int (iZ tc), .ref a5, .int (iZ ol), .ref a6, .int (iZ nl), .ref a7])), (a1, .inl (cy 0, 64, .inl (zf nw)))] s.heap := hP
  refine lv_iconst (v := iZ 1) hx hb dX7_simplest_0 rfl ?_
  refine lv_istore_n (lv' := [(2, .int (iZ 1)), (0, .ref a0), (1, .int (iZ part))]) hx hb dX7_simplest_1 rfl hl (by decide) rfl (fun ls hl => ?_)
  refine z_loop1 (nL := 5) (fun (b : Int) => [(0, .ref a0), (1, .int (iZ part)), (2, .int (iZ b))]) (fun (b : Int) => (1 ≤ b ∧ b ≤ 62) ∧ (fnd (fun b => 1 ≤ b ∧ ¬ siA nw b = -1) b = -1)) (fun (b : Int) => 62 - b) (a1 := 1) ⟨(by omega), (fnd_miss (i := 0) (Int.le_refl 0) (fnd_0 (Int.le_refl 0)) (by omega))⟩ (lv_sub hl [1, 2, 0] rfl) ?_
  rintro b ⟨i1, i2⟩ ih_2 ls hl
  refine lv_iload_n hx hb dX7_simplest_2 rfl (lv_at hl 2 rfl) ?_
  refine lv_bipush (v := iZ 62) hx hb dX7_simplest_3 (by decide +kernel) ?_
  refine z_icmp_ge (tgt := 82) hx hb dX7_simplest_5 (by decide) (by omega) (fun c_5 => ?_) (fun c_5 => ?_)
  · refine lv_bipush (v := iZ (-3)) hx hb dX7_simplest_82 (by decide +kernel) ?_
    exact z_iretP hx hb hr hlocks dX7_simplest_84 (by unfold siR; rw [if_pos (show siB nw = -1 from fnd_eq i2 (by omega))])
  · refine lv_iconst (v := iZ 0) hx hb dX7_simplest_8 rfl ?_
    refine lv_istore_n (lv' := [(3, .int (iZ 0)), (0, .ref a0), (1, .int (iZ part)), (2, .int (iZ b))]) hx hb dX7_simplest_9 rfl hl (by decide) rfl (fun ls hl => ?_)
    refine z_loop1 (nL := 5) (fun (a : Int) => [(0, .ref a0), (1, .int (iZ part)), (2, .int (iZ b)), (3, .int (iZ a))]) (fun (a : Int) => (0 ≤ a ∧ a ≤ b + 1) ∧ (fnd (fun a => ¬ siD nw b a = -1) a = -1)) (fun (a : Int) => b + 1 - a) (a1 := 0) ⟨(by omega), (fnd_0 (Int.le_refl 0))⟩ (lv_sub hl [1, 2, 3, 0] rfl) ?_
    rintro a ⟨j1, j2⟩ ih_10 ls hl
    refine lv_iload_n hx hb dX7_simplest_10 rfl (lv_at hl 3 rfl) ?_
    refine lv_iload_n hx hb dX7_simplest_11 rfl (lv_at hl 2 rfl) ?_
    refine z_icmp_gt (tgt := 76) hx hb dX7_simplest_12 (by decide) (by omega) (fun c_12 => ?_) (fun c_12 => ?_)
    · refine lv_iinc (v := iZ (b + 1)) (lv' := [(2, .int (iZ (b + 1))), (0, .ref a0), (1, .int (iZ part)), (3, .int (iZ a))]) hx hb dX7_simplest_76 hl (k := 2) rfl (iZ_add _ _) (by decide) rfl (fun ls hl => ?_)
      refine lv_goto (tgt := 2) hx hb dX7_simplest_79 (by decide) ?_
      exact ih_2 (b + 1) ⟨(by omega), (fnd_miss (by omega) i2 (fun z => z.2 (fnd_eq j2 (by omega))))⟩ ⟨by omega, by omega⟩ _ (lv_sub hl [1, 2, 0] rfl)
    · refine lv_iconst (v := iZ 0) hx hb dX7_simplest_15 rfl ?_
      refine lv_istore (lv' := [(4, .int (iZ 0)), (0, .ref a0), (1, .int (iZ part)), (2, .int (iZ b)), (3, .int (iZ a))]) hx hb dX7_simplest_16 hl (by decide) rfl (fun ls hl => ?_)
      refine z_loop1 (nL := 5) (fun (d : Int) => [(0, .ref a0), (1, .int (iZ part)), (2, .int (iZ b)), (3, .int (iZ a)), (4, .int (iZ d))]) (fun (d : Int) => (0 ≤ d ∧ d ≤ b) ∧ (fnd (fun d => (Int.gcd a b : Int) = 1 ∧ begP nw a b d) d = -1)) (fun (d : Int) => b - d) (a1 := 0) ⟨(by omega), (fnd_0 (Int.le_refl 0))⟩ (lv_sub hl [1, 2, 3, 4, 0] rfl) ?_
      rintro d ⟨k1, k2⟩ ih_18 ls hl
      refine lv_iload hx hb dX7_simplest_18 (lv_at hl 4 rfl) ?_
      refine lv_iload_n hx hb dX7_simplest_20 rfl (lv_at hl 2 rfl) ?_
      refine z_icmp_ge (tgt := 70) hx hb dX7_simplest_21 (by decide) (by omega) (fun c_21 => ?_) (fun c_21 => ?_)
      · refine lv_iinc (v := iZ (a + 1)) (lv' := [(3, .int (iZ (a + 1))), (0, .ref a0), (1, .int (iZ part)), (2, .int (iZ b)), (4, .int (iZ d))]) hx hb dX7_simplest_70 hl (k := 3) rfl (iZ_add _ _) (by decide) rfl (fun ls hl => ?_)
        refine lv_goto (tgt := 10) hx hb dX7_simplest_73 (by decide) ?_
        exact ih_10 (a + 1) ⟨(by omega), (fnd_miss (by omega) j2 (fun z => z (fnd_eq k2 (by omega))))⟩ ⟨by omega, by omega⟩ _ (lv_sub hl [1, 2, 3, 0] rfl)
      · refine lv_iload_n hx hb dX7_simplest_24 rfl (lv_at hl 3 rfl) ?_
        refine lv_iload_n hx hb dX7_simplest_25 rfl (lv_at hl 2 rfl) ?_
        refine z_calli (va_runS (As := [.int (iZ a), .int (iZ b)]) (rest := []) ⟨hx, hb, hml, hown, hts⟩ (c_X7_divisor lau G cy a b (by first | assumption | omega) (by first | assumption | omega)) (va_cwS 2 hts gX7_simplest_X7_divisor rfl rfl rfl (by decide +kernel) ⟨Nat.le_of_ble_eq_true rfl, Nat.le_of_ble_eq_true rfl⟩) ⟨P1_blind, P1_mk hKK (trivial)⟩ rfl rfl hl.1 rfl (lv_room (Nat.le_of_ble_eq_true rfl)) dX7_simplest_26 ⟨Nat.le_refl 0, Nat.le_refl 0⟩) ?_
        refine lv_iconst (v := iZ 1) hx hb dX7_simplest_29 rfl ?_
        have hgr := cd_r (a := a) (d := b) (by omega)
        refine z_icmp_ne (tgt := 70) hx hb dX7_simplest_30 (by decide) (by omega) (fun c_30 => ?_) (fun c_30 => ?_)
        · refine lv_iinc (v := iZ (a + 1)) (lv' := [(3, .int (iZ (a + 1))), (0, .ref a0), (1, .int (iZ part)), (2, .int (iZ b)), (4, .int (iZ d))]) hx hb dX7_simplest_70 hl (k := 3) rfl (iZ_add _ _) (by decide) rfl (fun ls hl => ?_)
          refine lv_goto (tgt := 10) hx hb dX7_simplest_73 (by decide) ?_
          exact ih_10 (a + 1) ⟨(by omega), (fnd_miss (by omega) j2 (fun z => z (fnd_none (fun _ _ _ y => c_30 y.1))))⟩ ⟨by omega, by omega⟩ _ (lv_sub hl [1, 2, 3, 0] rfl)
        · refine lv_aload_n hx hb dX7_simplest_33 rfl (lv_at hl 0 rfl) ?_
          refine lv_iload_n hx hb dX7_simplest_34 rfl (lv_at hl 3 rfl) ?_
          refine lv_iload_n hx hb dX7_simplest_35 rfl (lv_at hl 2 rfl) ?_
          refine lv_iload hx hb dX7_simplest_36 (lv_at hl 4 rfl) ?_
          refine z_calli (va_runV (As := [.int (iZ a), .int (iZ b), .int (iZ d)]) (rest := []) ⟨hx, hb, hml, hown, hts⟩ (c_X7_begins lau G cy a0 a1 a2 a3 a4 a5 a6 a7 ed tc ol nl nw a b d (by first | assumption | omega) (by first | assumption | omega) (by first | assumption | omega) (by first | assumption | omega) (by first | assumption | omega)) (cwV 3 hts gX7_simplest_X7_begins rfl rfl rfl (by decide +kernel) ⟨Nat.le_of_ble_eq_true rfl, Nat.le_of_ble_eq_true rfl⟩) ⟨P1_blind, va_recv hK hP (ci := 6) (q0 := 0) rfl rfl, P1_mk hKK (hP.sub [0, 1] rfl)⟩ rfl rfl hl.1 rfl (lv_room (Nat.le_of_ble_eq_true rfl)) dX7_simplest_38 ⟨Nat.le_refl 0, Nat.le_refl 0⟩) ?_
          refine z_ifB_eq (tgt := 64) hx hb dX7_simplest_41 (by decide) (fun c_41 => ?_) (fun c_41 => ?_)
          · refine lv_iinc (v := iZ (d + 1)) (lv' := [(4, .int (iZ (d + 1))), (0, .ref a0), (1, .int (iZ part)), (2, .int (iZ b)), (3, .int (iZ a))]) hx hb dX7_simplest_64 hl (k := 4) rfl (iZ_add _ _) (by decide) rfl (fun ls hl => ?_)
            refine lv_goto (tgt := 18) hx hb dX7_simplest_67 (by decide) ?_
            exact ih_18 (d + 1) ⟨(by omega), (fnd_miss (by omega) k2 (fun z => c_41 z.2))⟩ ⟨by omega, by omega⟩ _ (lv_sub hl [1, 2, 3, 4, 0] rfl)
          · refine lv_iload_n hx hb dX7_simplest_44 rfl (lv_at hl 1 rfl) ?_
            refine z_if_ne (tgt := 52) hx hb dX7_simplest_45 (by decide) (by omega) (fun c_45 => ?_) (fun c_45 => ?_)
            · refine lv_iload_n hx hb dX7_simplest_52 rfl (lv_at hl 1 rfl) ?_
              refine lv_iconst (v := iZ 1) hx hb dX7_simplest_53 rfl ?_
              refine z_icmp_ne (tgt := 61) hx hb dX7_simplest_54 (by decide) (by omega) (fun c_54 => ?_) (fun c_54 => ?_)
              · refine lv_iload hx hb dX7_simplest_61 (lv_at hl 4 rfl) ?_
                exact z_iretP hx hb hr hlocks dX7_simplest_63 (by rw [siR_hit (d := d) (a := a) (b := b) (by omega) (by omega) (by omega) i2 j2 k2 ⟨c_30, c_41⟩, if_neg (by omega), if_neg (by omega)])
              · refine lv_iload_n hx hb dX7_simplest_57 rfl (lv_at hl 2 rfl) ?_
                refine lv_goto (tgt := 63) hx hb dX7_simplest_58 (by decide) ?_
                exact z_iretP hx hb hr hlocks dX7_simplest_63 (by rw [siR_hit (d := d) (a := a) (b := b) (by omega) (by omega) (by omega) i2 j2 k2 ⟨c_30, c_41⟩, if_neg (by omega), if_pos (by omega)])
            · refine lv_iload_n hx hb dX7_simplest_48 rfl (lv_at hl 3 rfl) ?_
              refine lv_goto (tgt := 63) hx hb dX7_simplest_49 (by decide) ?_
              exact z_iretP hx hb hr hlocks dX7_simplest_63 (by rw [siR_hit (d := d) (a := a) (b := b) (by omega) (by omega) (by omega) i2 j2 k2 ⟨c_30, c_41⟩, if_pos (by omega)])
set_option maxHeartbeats 4000000 in
set_option maxRecDepth 100000 in
theorem c_X7_simplestSlope (lau : Launch) (G : va_G) (cy : Nat → ClassId) (a0 a1 a2 a3 a4 a5 a6 a7 : Nat) (ed tc ol nl : Int) (nw : Int → Int) (part : Int) (hN : 0 ≤ nw 3 ∧ nw 3 ≤ 60) (hL : ∀ x, 4 ≤ x → x < 4 + nw 3 → 0 ≤ nw x ∧ nw x ≤ 1) (h1 : -2147483648 ≤ part ∧ part < 2147483648) : Met lau yX7_simplestSlope wsX7_simplestSlope ({ frames := 2, cells := 0, slots := 0, locals := 48 }) (P1 G cy [.ref a0, .int (iZ part)] (fun H => va_P G vwCl [(a0, .inr (6, [.ref a1, .ref a2, .ref a3, .int (iZ ed), .ref a4, .int (iZ tc), .ref a5, .int (iZ ol), .ref a6, .int (iZ nl), .ref a7])), (a1, .inl (cy 0, 64, .inl (zf nw)))] H)) (vp_Si (fun r => r = iZ (if 0 ≤ part ∧ part ≤ 2 then siR nw part else -1))) 0 0 (fun _ => False) := by
  refine z_head (lv := [(0, .ref a0), (1, .int (iZ part))]) RX7 (by decide) rfl rfl (Nat.le_of_ble_eq_true rfl) rfl ?_
  intro pr ev s mt below meth cd ls hx hb hr hlocks hml hown hname hts hKK hP hl
  have hK := hKK.1
  have hP : va_P G vwCl [(a0, .inr (6, [.ref a1, .ref a2, .ref a3, .int (iZ ed), .ref a4, .int (iZ tc), .ref a5, .int (iZ ol), .ref a6, .int (iZ nl), .ref a7])), (a1, .inl (cy 0, 64, .inl (zf nw)))] s.heap := hP
  refine lv_iload_n hx hb dX7_simplestSlope_0 rfl (lv_at hl 1 rfl) ?_
  refine lv_iconst (v := iZ 0) hx hb dX7_simplestSlope_1 rfl ?_
  refine lv_iconst (v := iZ 2) hx hb dX7_simplestSlope_2 rfl ?_
  refine z_calli (va_runS (As := [.int (iZ part), .int (iZ 0), .int (iZ 2)]) (rest := []) ⟨hx, hb, hml, hown, hts⟩ (c_X7_in lau G cy part 0 2 (by first | assumption | omega)) (va_cwS 3 hts gX7_simplestSlope_X7_in rfl rfl rfl (by decide +kernel) ⟨Nat.le_of_ble_eq_true rfl, Nat.le_of_ble_eq_true rfl⟩) ⟨P1_blind, P1_mk hKK (trivial)⟩ rfl rfl hl.1 rfl (lv_room (Nat.le_of_ble_eq_true rfl)) dX7_simplestSlope_3 ⟨Nat.le_refl 0, Nat.le_refl 0⟩) ?_
  refine z_ifB_eq (tgt := 17) hx hb dX7_simplestSlope_6 (by decide) (fun c_6 => ?_) (fun c_6 => ?_)
  · refine lv_iconst (v := iZ (-1)) hx hb dX7_simplestSlope_17 rfl ?_
    exact z_iretP hx hb hr hlocks dX7_simplestSlope_18 (by rw [if_neg c_6])
  · refine lv_aload_n hx hb dX7_simplestSlope_9 rfl (lv_at hl 0 rfl) ?_
    refine lv_iload_n hx hb dX7_simplestSlope_10 rfl (lv_at hl 1 rfl) ?_
    refine z_calli (va_runV (As := [.int (iZ part)]) (rest := []) ⟨hx, hb, hml, hown, hts⟩ (c_X7_simplest lau G cy a0 a1 a2 a3 a4 a5 a6 a7 ed tc ol nl nw part (by first | assumption | omega) (by first | assumption | omega) (by first | assumption | omega)) (cwV 1 hts gX7_simplestSlope_X7_simplest rfl rfl rfl (by decide +kernel) ⟨Nat.le_of_ble_eq_true rfl, Nat.le_of_ble_eq_true rfl⟩) ⟨P1_blind, va_recv hK hP (ci := 6) (q0 := 0) rfl rfl, P1_mk hKK (hP.sub [0, 1] rfl)⟩ rfl rfl hl.1 rfl (lv_room (Nat.le_of_ble_eq_true rfl)) dX7_simplestSlope_11 ⟨Nat.le_refl 0, Nat.le_refl 0⟩) ?_
    refine lv_goto (tgt := 18) hx hb dX7_simplestSlope_14 (by decide) ?_
    exact z_iretP hx hb hr hlocks dX7_simplestSlope_18 (by rw [if_pos c_6])
set_option maxHeartbeats 4000000 in
set_option maxRecDepth 100000 in
theorem c_X7_gapsWith (lau : Launch) (G : va_G) (cy : Nat → ClassId) (a0 a1 a2 a3 a4 a5 a6 a7 : Nat) (ed tc ol nl : Int) (nw : Int → Int) (pt : Int → Int) (sz : Int) (hQ : 0 ≤ nw 0 ∧ nw 0 ≤ nw 1 ∧ 1 ≤ nw 1 ∧ nw 1 ≤ 1000) (hpt : ∀ x, 0 ≤ x → x < 1000 → pt x = 0 ∨ pt x = 1) (h1 : -2147483648 ≤ sz ∧ sz < 2147483648) : Met lau yX7_gapsWith wsX7_gapsWith ({ frames := 0, cells := 0, slots := 0, locals := 0 }) (P1 G cy [.ref a0, .int (iZ sz)] (fun H => va_P G vwCl [(a0, .inr (6, [.ref a1, .ref a2, .ref a3, .int (iZ ed), .ref a4, .int (iZ tc), .ref a5, .int (iZ ol), .ref a6, .int (iZ nl), .ref a7])), (a1, .inl (cy 0, 64, .inl (zf nw))), (a7, .inl (cy 1, 1000, .inl (zf pt)))] H)) (vp_Si (fun r => r = iZ (cnt (fun k => ¬ pt k = 0 ∧ nxg pt (nw 1) k = sz) (nw 1)))) 0 0 (fun _ => False) := by
  refine z_head (lv := [(0, .ref a0), (1, .int (iZ sz))]) RX7 (by decide) rfl rfl (Nat.le_of_ble_eq_true rfl) rfl ?_
  intro pr ev s mt below meth cd ls hx hb hr hlocks hml hown hname hts hKK hP hl
  have hK := hKK.1
  have hP : va_P G vwCl [(a0, .inr (6, [.ref a1, .ref a2, .ref a3, .int (iZ ed), .ref a4, .int (iZ tc), .ref a5, .int (iZ ol), .ref a6, .int (iZ nl), .ref a7])), (a1, .inl (cy 0, 64, .inl (zf nw))), (a7, .inl (cy 1, 1000, .inl (zf pt)))] s.heap := hP
  refine lv_iconst (v := iZ 0) hx hb dX7_gapsWith_0 rfl ?_
  refine lv_istore_n (lv' := [(2, .int (iZ 0)), (0, .ref a0), (1, .int (iZ sz))]) hx hb dX7_gapsWith_1 rfl hl (by decide) rfl (fun ls hl => ?_)
  refine lv_iconst (v := iZ 0) hx hb dX7_gapsWith_2 rfl ?_
  refine lv_istore_n (lv' := [(3, .int (iZ 0)), (2, .int (iZ 0)), (0, .ref a0), (1, .int (iZ sz))]) hx hb dX7_gapsWith_3 rfl hl (by decide) rfl (fun ls hl => ?_)
  refine z_loop2 (nL := 5) (fun (n : Int) (k : Int) => [(0, .ref a0), (1, .int (iZ sz)), (2, .int (iZ n)), (3, .int (iZ k))]) (fun (n : Int) (k : Int) => (0 ≤ k ∧ k ≤ nw 1) ∧ (n = cnt (fun k => ¬ pt k = 0 ∧ nxg pt (nw 1) k = sz) k)) (fun (n : Int) (k : Int) => nw 1 - k) (a1 := 0) (a2 := 0) ⟨(by omega), ((cnt_0 (Int.le_refl 0)).symm)⟩ (lv_sub hl [2, 3, 1, 0] rfl) ?_
  rintro n k ⟨i1, i2⟩ ih_4 ls hl
  have hr1 := cnt_le (P := fun k => ¬ pt k = 0 ∧ nxg pt (nw 1) k = sz) i1.1
  refine lv_iload_n hx hb dX7_gapsWith_4 rfl (lv_at hl 3 rfl) ?_
  refine lv_aload_n hx hb dX7_gapsWith_5 rfl (lv_at hl 0 rfl) ?_
  refine va_get (D := G) (ci := 6) (v := .ref a1) (C := RX7) (T := TX7) (N := 11) hx hb hts (by decide +kernel) hown hK hP 0 rfl rfl 0 (by decide) (hts (.fieldLink RX7 7 "SturmianWordsModel" "now" "[I") (by decide +kernel)) (fun _ h9 => h9) rfl dX7_gapsWith_6 ?_
  refine lv_iconst (v := iZ 1) hx hb dX7_gapsWith_9 rfl ?_
  refine z_iald (D := G) hx hb hK hP 1 0 rfl rfl (by omega) dX7_gapsWith_10 ?_
  refine z_icmp_ge (tgt := 71) hx hb dX7_gapsWith_11 (by decide) (by omega) (fun c_11 => ?_) (fun c_11 => ?_)
  · refine lv_iload_n hx hb dX7_gapsWith_71 rfl (lv_at hl 2 rfl) ?_
    exact z_iretP hx hb hr hlocks dX7_gapsWith_72 (by rw [i2, show k = nw 1 by omega])
  · refine lv_aload_n hx hb dX7_gapsWith_14 rfl (lv_at hl 0 rfl) ?_
    refine va_get (D := G) (ci := 6) (v := .ref a7) (C := RX7) (T := TX7) (N := 11) hx hb hts (by decide +kernel) hown hK hP 0 rfl rfl 10 (by decide) (hts (.fieldLink RX7 28 "SturmianWordsModel" "points" "[Z") (by decide +kernel)) (fun _ h9 => h9) rfl dX7_gapsWith_15 ?_
    refine lv_iload_n hx hb dX7_gapsWith_18 rfl (lv_at hl 3 rfl) ?_
    refine z_zald (D := G) hx hb hK hP 2 1 rfl rfl (by omega) dX7_gapsWith_19 ?_
    have hk0 := hpt k (by omega) (by omega)
    refine z_if_eq (tgt := 65) hx hb dX7_gapsWith_20 (by decide) (by omega) (fun c_20 => ?_) (fun c_20 => ?_)
    · refine lv_iinc (v := iZ (k + 1)) (lv' := [(3, .int (iZ (k + 1))), (0, .ref a0), (1, .int (iZ sz)), (2, .int (iZ n))]) hx hb dX7_gapsWith_65 hl (k := 3) rfl (iZ_add _ _) (by decide) rfl (fun ls hl => ?_)
      refine lv_goto (tgt := 4) hx hb dX7_gapsWith_68 (by decide) ?_
      exact ih_4 n (k + 1) ⟨(by omega), (by rw [cnt_f (P := fun k => ¬ pt k = 0 ∧ nxg pt (nw 1) k = sz) (by omega) (fun z => z.1 c_20), ← i2])⟩ ⟨by omega, by omega⟩ _ (lv_sub hl [1, 2, 3, 0] rfl)
    · refine lv_iconst (v := iZ 1) hx hb dX7_gapsWith_23 rfl ?_
      refine lv_istore (lv' := [(4, .int (iZ 1)), (0, .ref a0), (1, .int (iZ sz)), (2, .int (iZ n)), (3, .int (iZ k))]) hx hb dX7_gapsWith_24 hl (by decide) rfl (fun ls hl => ?_)
      refine z_loop1 (nL := 5) (fun (g : Int) => [(0, .ref a0), (1, .int (iZ sz)), (2, .int (iZ n)), (3, .int (iZ k)), (4, .int (iZ g))]) (fun (g : Int) => (1 ≤ g ∧ g ≤ nw 1) ∧ (fnd (fun g => 1 ≤ g ∧ ¬ pt ((k + g) % nw 1) = 0) g = -1)) (fun (g : Int) => nw 1 - g) (a1 := 1) ⟨(by omega), (fnd_miss (i := 0) (Int.le_refl 0) (fnd_0 (Int.le_refl 0)) (by omega))⟩ (lv_sub hl [1, 2, 3, 4, 0] rfl) ?_
      rintro g ⟨j1, j2⟩ ih_26 ls hl
      have e1 := Int.emod_nonneg (k + g) (show nw 1 ≠ 0 by omega)
      have e2 := Int.emod_lt_of_pos (k + g) (show 0 < nw 1 by omega)
      refine lv_aload_n hx hb dX7_gapsWith_26 rfl (lv_at hl 0 rfl) ?_
      refine va_get (D := G) (ci := 6) (v := .ref a7) (C := RX7) (T := TX7) (N := 11) hx hb hts (by decide +kernel) hown hK hP 0 rfl rfl 10 (by decide) (hts (.fieldLink RX7 28 "SturmianWordsModel" "points" "[Z") (by decide +kernel)) (fun _ h9 => h9) rfl dX7_gapsWith_27 ?_
      refine lv_iload_n hx hb dX7_gapsWith_30 rfl (lv_at hl 3 rfl) ?_
      refine lv_iload hx hb dX7_gapsWith_31 (lv_at hl 4 rfl) ?_
      refine z_iadd hx hb dX7_gapsWith_33 ?_
      refine lv_aload_n hx hb dX7_gapsWith_34 rfl (lv_at hl 0 rfl) ?_
      refine va_get (D := G) (ci := 6) (v := .ref a1) (C := RX7) (T := TX7) (N := 11) hx hb hts (by decide +kernel) hown hK hP 0 rfl rfl 0 (by decide) (hts (.fieldLink RX7 7 "SturmianWordsModel" "now" "[I") (by decide +kernel)) (fun _ h9 => h9) rfl dX7_gapsWith_35 ?_
      refine lv_iconst (v := iZ 1) hx hb dX7_gapsWith_38 rfl ?_
      refine z_iald (D := G) hx hb hK hP 1 0 rfl rfl (by omega) dX7_gapsWith_39 ?_
      refine z_irem hx hb dX7_gapsWith_40 (by omega) ?_
      refine z_zald (D := G) hx hb hK hP 2 1 rfl rfl (by omega) dX7_gapsWith_41 ?_
      have hk1 := hpt ((k + g) % nw 1) (by omega) (by omega)
      refine z_if_ne (tgt := 51) hx hb dX7_gapsWith_42 (by decide) (by omega) (fun c_42 => ?_) (fun c_42 => ?_)
      · have hng : nxg pt (nw 1) k = g := fnd_hit (P := fun g => 1 ≤ g ∧ ¬ pt ((k + g) % nw 1) = 0) (by omega) j2 ⟨by omega, c_42⟩ (by omega)
        refine lv_iload_n hx hb dX7_gapsWith_51 rfl (lv_at hl 2 rfl) ?_
        refine lv_iload hx hb dX7_gapsWith_52 (lv_at hl 4 rfl) ?_
        refine lv_iload_n hx hb dX7_gapsWith_54 rfl (lv_at hl 1 rfl) ?_
        refine z_icmp_ne (tgt := 62) hx hb dX7_gapsWith_55 (by decide) (by omega) (fun c_55 => ?_) (fun c_55 => ?_)
        · refine lv_iconst (v := iZ 0) hx hb dX7_gapsWith_62 rfl ?_
          refine z_iadd hx hb dX7_gapsWith_63 ?_
          refine lv_istore_n (lv' := [(2, .int (iZ (n + 0))), (0, .ref a0), (1, .int (iZ sz)), (3, .int (iZ k)), (4, .int (iZ g))]) hx hb dX7_gapsWith_64 rfl hl (by decide) rfl (fun ls hl => ?_)
          refine lv_iinc (v := iZ (k + 1)) (lv' := [(3, .int (iZ (k + 1))), (2, .int (iZ (n + 0))), (0, .ref a0), (1, .int (iZ sz)), (4, .int (iZ g))]) hx hb dX7_gapsWith_65 hl (k := 3) rfl (iZ_add _ _) (by decide) rfl (fun ls hl => ?_)
          refine lv_goto (tgt := 4) hx hb dX7_gapsWith_68 (by decide) ?_
          exact ih_4 (n + 0) (k + 1) ⟨(by omega), (by rw [cnt_f (P := fun k => ¬ pt k = 0 ∧ nxg pt (nw 1) k = sz) (by omega) (fun z => by have := z.2; omega), ← i2]; omega)⟩ ⟨by omega, by omega⟩ _ (lv_sub hl [2, 3, 1, 0] rfl)
        · refine lv_iconst (v := iZ 1) hx hb dX7_gapsWith_58 rfl ?_
          refine lv_goto (tgt := 63) hx hb dX7_gapsWith_59 (by decide) ?_
          refine z_iadd hx hb dX7_gapsWith_63 ?_
          refine lv_istore_n (lv' := [(2, .int (iZ (n + 1))), (0, .ref a0), (1, .int (iZ sz)), (3, .int (iZ k)), (4, .int (iZ g))]) hx hb dX7_gapsWith_64 rfl hl (by decide) rfl (fun ls hl => ?_)
          refine lv_iinc (v := iZ (k + 1)) (lv' := [(3, .int (iZ (k + 1))), (2, .int (iZ (n + 1))), (0, .ref a0), (1, .int (iZ sz)), (4, .int (iZ g))]) hx hb dX7_gapsWith_65 hl (k := 3) rfl (iZ_add _ _) (by decide) rfl (fun ls hl => ?_)
          refine lv_goto (tgt := 4) hx hb dX7_gapsWith_68 (by decide) ?_
          exact ih_4 (n + 1) (k + 1) ⟨(by omega), (by rw [cnt_t (P := fun k => ¬ pt k = 0 ∧ nxg pt (nw 1) k = sz) (by omega) ⟨c_20, by omega⟩, ← i2])⟩ ⟨by omega, by omega⟩ _ (lv_sub hl [2, 3, 1, 0] rfl)
      · have hg : g < nw 1 := by rcases (show g < nw 1 ∨ g = nw 1 by omega) with q | q; (· exact q); (· exfalso; rw [q, Int.add_emod_right, Int.emod_eq_of_lt (by omega) (by omega)] at c_42; exact c_20 c_42)
        refine lv_iinc (v := iZ (g + 1)) (lv' := [(4, .int (iZ (g + 1))), (0, .ref a0), (1, .int (iZ sz)), (2, .int (iZ n)), (3, .int (iZ k))]) hx hb dX7_gapsWith_45 hl (k := 4) rfl (iZ_add _ _) (by decide) rfl (fun ls hl => ?_)
        refine lv_goto (tgt := 26) hx hb dX7_gapsWith_48 (by decide) ?_
        exact ih_26 (g + 1) ⟨(by omega), (fnd_miss (by omega) j2 (fun z => z.2 c_42))⟩ ⟨by omega, by omega⟩ _ (lv_sub hl [1, 2, 3, 4, 0] rfl)
set_option maxHeartbeats 4000000 in
set_option maxRecDepth 100000 in
theorem c_X7_copy (lau : Launch) (G : va_G) (cy : Nat → ClassId) (f0 t0 : Nat) (nf nt : Nat) (sz : Nat) (f t : Int → Int) (i j : Int) (h1 : 0 ≤ i ∧ i + 64 ≤ nf) (h2 : 0 ≤ j ∧ j + 64 ≤ nt) (h3 : nf ≤ 1000 ∧ nt ≤ 1000) : Met lau yX7_copy wsX7_copy ({ frames := 0, cells := 0, slots := 0, locals := 0 }) (P1 G cy [.ref f0, .int (iZ i), .ref t0, .int (iZ j)] (fun H => H.size = sz ∧ va_P G vwCl [(f0, .inl (cy 0, nf, .inl (zf f))), (t0, .inl (cy 0, nt, .inl (zf t)))] H ∧ va_D (fun _ => True) [(f0, .inl (cy 0, nf, .inl (zf f))), (t0, .inl (cy 0, nt, .inl (zf t)))])) (Q1 (fun rv H0 H1 => rv = none ∧ (True) ∧ va_P G vwCl [(f0, .inl (cy 0, nf, .inl (zf f))), (t0, .inl (cy 0, nt, .inl (zf (cpy f i t j 64))))] H1 ∧ va_D (va_A [(f0, .inl (cy 0, nf, .inl (zf f))), (t0, .inl (cy 0, nt, .inl (zf t)))] sz) [(f0, .inl (cy 0, nf, .inl (zf f))), (t0, .inl (cy 0, nt, .inl (zf (cpy f i t j 64))))] ∧ Fh (va_A [(f0, .inl (cy 0, nf, .inl (zf f))), (t0, .inl (cy 0, nt, .inl (zf t)))] sz) H0 H1)) 0 0 (va_A [(f0, .inl (cy 0, nf, .inl (zf f))), (t0, .inl (cy 0, nt, .inl (zf t)))] sz) := by
  refine z_head (lv := [(0, .ref f0), (1, .int (iZ i)), (2, .ref t0), (3, .int (iZ j))]) RX7 (by decide) rfl rfl (Nat.le_of_ble_eq_true rfl) rfl ?_
  intro pr ev s mt below meth cd ls hx hb hr hlocks hml hown hname hts hKK hP hl
  have hK := hKK.1
  obtain ⟨hsz, hP, hD0⟩ := hP
  subst hsz
  have hD := hD0.self (sz := s.heap.size)
  generalize hAe : va_A [(f0, .inl (cy 0, nf, .inl (zf f))), (t0, .inl (cy 0, nt, .inl (zf t)))] s.heap.size = A at hD ⊢
  have hA : ∀ q : Nat, s.heap.size ≤ q → A q := fun q h => by rw [← hAe]; exact Or.inr h
  have hS : va_S A s.heap s.heap [] := va_S.rf
  have hP : va_P G vwCl [(f0, .inl (cy 0, nf, .inl (zf f))), (t0, .inl (cy 0, nt, .inl (zf t)))] s.heap := hP
  refine lv_iconst (v := iZ 0) hx hb dX7_copy_0 rfl ?_
  refine lv_istore (lv' := [(4, .int (iZ 0)), (0, .ref f0), (1, .int (iZ i)), (2, .ref t0), (3, .int (iZ j))]) hx hb dX7_copy_1 hl (by decide) rfl (fun ls hl => ?_)
  rw [← cpy_0 f i t j] at hP hD
  refine z_loopH1 (nL := 5) (A := A) (fun (k : Int) => [(0, .ref f0), (1, .int (iZ i)), (2, .ref t0), (3, .int (iZ j)), (4, .int (iZ k))]) (fun (k : Int) (H : Heap) => ((0 ≤ k ∧ k ≤ 64)) ∧ va_P G vwCl [(f0, .inl (cy 0, nf, .inl (zf f))), (t0, .inl (cy 0, nt, .inl (zf (cpy f i t j k))))] H ∧ va_D A [(f0, .inl (cy 0, nf, .inl (zf f))), (t0, .inl (cy 0, nt, .inl (zf (cpy f i t j k))))] ∧ Fh A s.heap H) (fun (k : Int) => 64 - k) (fun (k : Int) => 0) (fun (k : Int) => 0) (a1 := 0) ⟨(by omega), hP, hD, Fh.of hS⟩ hS.2.2 (lv_sub hl [1, 2, 3, 4, 0] rfl) ?_
  rintro k H locs ⟨i1, hP, hD, hFr⟩ hLc ih_3 ls hl
  have hS : va_S A s.heap H locs := Fh.S hFr hLc
  refine lv_iload hx hb dX7_copy_3 (lv_at hl 4 rfl) ?_
  refine lv_bipush (v := iZ 64) hx hb dX7_copy_5 (by decide +kernel) ?_
  refine z_icmp_ge (tgt := 28) hx hb dX7_copy_7 (by decide) (by omega) (fun c_7 => ?_) (fun c_7 => ?_)
  · rw [show k = 64 by omega] at hP hD
    exact z_vretE hx hb hr hlocks dX7_copy_28 hS.2.2 ⟨(show 0 ≤ 0 by omega), (show 0 ≤ 0 by omega)⟩ ⟨(rfl), (trivial), (hP), (hD), Fh.of hS⟩
  · refine lv_aload_n hx hb dX7_copy_10 rfl (lv_at hl 2 rfl) ?_
    refine lv_iload_n hx hb dX7_copy_11 rfl (lv_at hl 3 rfl) ?_
    refine lv_iload hx hb dX7_copy_12 (lv_at hl 4 rfl) ?_
    refine z_iadd hx hb dX7_copy_14 ?_
    refine lv_aload_n hx hb dX7_copy_15 rfl (lv_at hl 0 rfl) ?_
    refine lv_iload_n hx hb dX7_copy_16 rfl (lv_at hl 1 rfl) ?_
    refine lv_iload hx hb dX7_copy_17 (lv_at hl 4 rfl) ?_
    refine z_iadd hx hb dX7_copy_19 ?_
    refine z_iald (D := G) hx hb hK hP 0 0 rfl rfl (by omega) dX7_copy_20 ?_
    refine z_iast (D := G) hx hb hK hP hD hS 1 0 rfl rfl (by omega) dX7_copy_21 (fun H locs hP hD hS => ?_)
    have hP : va_P G vwCl [(f0, .inl (cy 0, nf, .inl (zf f))), (t0, .inl (cy 0, nt, .inl (zf (up1 (cpy f i t j k) (j + k) (f (i + k))))))] H := hP
    have hD : va_D A [(f0, .inl (cy 0, nf, .inl (zf f))), (t0, .inl (cy 0, nt, .inl (zf (up1 (cpy f i t j k) (j + k) (f (i + k))))))] := hD
    rw [show (up1 (cpy f i t j k) (j + k) (f (i + k))) = (cpy f i t j (k + 1)) from cpy_s (by omega)] at hP hD
    refine lv_iinc (v := iZ (k + 1)) (lv' := [(4, .int (iZ (k + 1))), (0, .ref f0), (1, .int (iZ i)), (2, .ref t0), (3, .int (iZ j))]) hx hb dX7_copy_22 hl (k := 4) rfl (iZ_add _ _) (by decide) rfl (fun ls hl => ?_)
    refine lv_goto (tgt := 3) hx hb dX7_copy_25 (by decide) ?_
    exact ih_3 (k + 1) _ _ ⟨(by omega), hP, hD, Fh.of hS⟩ hS.2.2 ⟨by omega, by omega⟩ _ (lv_sub hl [1, 2, 3, 4, 0] rfl)
set_option maxHeartbeats 4000000 in
set_option maxRecDepth 100000 in
theorem c_X7_save (lau : Launch) (G : va_G) (cy : Nat → ClassId) (a0 a1 a2 a3 a4 a5 a6 a7 : Nat) (sz : Nat) (ed tc ol nl : Int) (nw nx ps tm od ne pt : Int → Int) (he : 0 ≤ ed ∧ ed ≤ 6) : Met lau yX7_save wsX7_save ({ frames := 1, cells := 0, slots := 0, locals := 24 }) (P1 G cy [.ref a0] (fun H => H.size = sz ∧ va_P G vwCl (MW cy a0 a1 a2 a3 a4 a5 a6 a7 ed tc ol nl nw nx ps tm od ne pt) H ∧ va_D (fun _ => True) (MW cy a0 a1 a2 a3 a4 a5 a6 a7 ed tc ol nl nw nx ps tm od ne pt))) (Q1 (fun rv H0 H1 => rv = none ∧ (True) ∧ va_P G vwCl (MW cy a0 a1 a2 a3 a4 a5 a6 a7 (svE ed) tc ol nl nw nx (svP ps nw ed) tm od ne pt) H1 ∧ va_D (va_A (MW cy a0 a1 a2 a3 a4 a5 a6 a7 ed tc ol nl nw nx ps tm od ne pt) sz) (MW cy a0 a1 a2 a3 a4 a5 a6 a7 (svE ed) tc ol nl nw nx (svP ps nw ed) tm od ne pt) ∧ Fh (va_A (MW cy a0 a1 a2 a3 a4 a5 a6 a7 ed tc ol nl nw nx ps tm od ne pt) sz) H0 H1)) 0 0 (va_A (MW cy a0 a1 a2 a3 a4 a5 a6 a7 ed tc ol nl nw nx ps tm od ne pt) sz) := by
  refine z_head (lv := [(0, .ref a0)]) RX7 (by decide) rfl rfl (Nat.le_of_ble_eq_true rfl) rfl ?_
  intro pr ev s mt below meth cd ls hx hb hr hlocks hml hown hname hts hKK hP hl
  have hK := hKK.1
  obtain ⟨hsz, hP, hD0⟩ := hP
  subst hsz
  have hD := hD0.self (sz := s.heap.size)
  generalize hAe : va_A (MW cy a0 a1 a2 a3 a4 a5 a6 a7 ed tc ol nl nw nx ps tm od ne pt) s.heap.size = A at hD ⊢
  have hA : ∀ q : Nat, s.heap.size ≤ q → A q := fun q h => by rw [← hAe]; exact Or.inr h
  have hS : va_S A s.heap s.heap [] := va_S.rf
  have hP : va_P G vwCl (MW cy a0 a1 a2 a3 a4 a5 a6 a7 ed tc ol nl nw nx ps tm od ne pt) s.heap := hP
  refine lv_aload_n hx hb dX7_save_0 rfl (lv_at hl 0 rfl) ?_
  refine va_get (D := G) (ci := 6) (v := .int (iZ ed)) (C := RX7) (T := TX7) (N := 11) hx hb hts (by decide +kernel) hown hK hP 0 rfl rfl 3 (by decide) (hts (.fieldLink RX7 32 "SturmianWordsModel" "edits" "I") (by decide +kernel)) (fun _ h9 => h9) rfl dX7_save_1 ?_
  refine lv_bipush (v := iZ 6) hx hb dX7_save_4 (by decide +kernel) ?_
  refine z_icmp_ne (tgt := 49) hx hb dX7_save_6 (by decide) (by omega) (fun c_6 => ?_) (fun c_6 => ?_)
  · refine lv_aload_n hx hb dX7_save_49 rfl (lv_at hl 0 rfl) ?_
    refine va_get (D := G) (ci := 6) (v := .ref a1) (C := RX7) (T := TX7) (N := 11) hx hb hts (by decide +kernel) hown hK hP 0 rfl rfl 0 (by decide) (hts (.fieldLink RX7 7 "SturmianWordsModel" "now" "[I") (by decide +kernel)) (fun _ h9 => h9) rfl dX7_save_50 ?_
    refine lv_iconst (v := iZ 0) hx hb dX7_save_53 rfl ?_
    refine lv_aload_n hx hb dX7_save_54 rfl (lv_at hl 0 rfl) ?_
    refine va_get (D := G) (ci := 6) (v := .ref a3) (C := RX7) (T := TX7) (N := 11) hx hb hts (by decide +kernel) hown hK hP 0 rfl rfl 2 (by decide) (hts (.fieldLink RX7 16 "SturmianWordsModel" "past" "[I") (by decide +kernel)) (fun _ h9 => h9) rfl dX7_save_55 ?_
    refine lv_bipush (v := iZ 64) hx hb dX7_save_58 (by decide +kernel) ?_
    refine lv_aload_n hx hb dX7_save_60 rfl (lv_at hl 0 rfl) ?_
    refine va_get (D := G) (ci := 6) (v := .int (iZ ed)) (C := RX7) (T := TX7) (N := 11) hx hb hts (by decide +kernel) hown hK hP 0 rfl rfl 3 (by decide) (hts (.fieldLink RX7 32 "SturmianWordsModel" "edits" "I") (by decide +kernel)) (fun _ h9 => h9) rfl dX7_save_61 ?_
    refine z_imul hx hb dX7_save_64 ?_
    have hPc := hP.sub (ws' := [(a1, .inl (cy 0, 64, .inl (zf nw))), (a3, .inl (cy 0, 384, .inl (zf ps)))]) [1, 3] rfl
    have hDc := (hD.sub (ws' := [(a1, .inl (cy 0, 64, .inl (zf nw))), (a3, .inl (cy 0, 384, .inl (zf ps)))]) [1, 3] (by decide) rfl).weaken (B := fun _ => True) (fun _ _ _ _ => trivial)
    have hFc := va_free (wc := [(a1, .inl (cy 0, 64, .inl (zf nw))), (a3, .inl (cy 0, 384, .inl (zf ps)))]) hD hS hA [1, 3] rfl
    refine z_callE (A := A) (va_runS (As := [.ref a1, .int (iZ 0), .ref a3, .int (iZ (64 * ed))]) (rest := []) ⟨hx, hb, hml, hown, hts⟩ (c_X7_copy lau G cy a1 a3 64 384 s.heap.size nw ps 0 (64 * ed) (by first | assumption | omega) (by first | assumption | omega) (by first | assumption | omega)) (va_cwS 4 hts gX7_save_X7_copy rfl rfl rfl (by decide +kernel) ⟨Nat.le_of_ble_eq_true rfl, Nat.le_of_ble_eq_true rfl⟩) ⟨P1_blind, P1_mk hKK (⟨rfl, hPc, hDc⟩)⟩ rfl rfl hl.1 rfl (lv_room (Nat.le_of_ble_eq_true rfl)) dX7_save_65 ⟨(show 0 + 0 ≤ 0 by omega), (show 0 + 0 ≤ 0 by omega)⟩) hS.2.2 hFc (fun v H1 locs1 hR hL1 => ?_)
    obtain ⟨rfl, hq65, hP1, hD1, hF1⟩ := hR
    obtain ⟨hP, hD⟩ := va_join (wr := [(a0, .inr (6, [.ref a1, .ref a2, .ref a3, .int (iZ ed), .ref a4, .int (iZ tc), .ref a5, .int (iZ ol), .ref a6, .int (iZ nl), .ref a7])), (a2, .inl (cy 0, 64, .inl (zf nx))), (a4, .inl (cy 0, 20, .inl (zf tm))), (a5, .inl (cy 0, 60, .inl (zf od))), (a6, .inl (cy 0, 60, .inl (zf ne))), (a7, .inl (cy 1, 1000, .inl (zf pt)))]) (w1 := [(a1, .inl (cy 0, 64, .inl (zf nw))), (a3, .inl (cy 0, 384, .inl (zf (cpy nw 0 ps (64 * ed) 64))))]) hP hD [1, 3] [0, 2, 4, 5, 6, 7] rfl rfl (by decide) (by decide) hF1.2 hFc hP1 hD1
    have hS : va_S A s.heap H1 locs1 := Fh.S ((Fh.of hS).tr hF1 (fun q _ h => hFc q h)) hL1
    clear hPc hDc hFc hP1 hD1 hF1 hL1
    generalize H1 = H at hP hS ⊢
    have hP : va_P G vwCl [(a0, .inr (6, [.ref a1, .ref a2, .ref a3, .int (iZ ed), .ref a4, .int (iZ tc), .ref a5, .int (iZ ol), .ref a6, .int (iZ nl), .ref a7])), (a2, .inl (cy 0, 64, .inl (zf nx))), (a4, .inl (cy 0, 20, .inl (zf tm))), (a5, .inl (cy 0, 60, .inl (zf od))), (a6, .inl (cy 0, 60, .inl (zf ne))), (a7, .inl (cy 1, 1000, .inl (zf pt))), (a1, .inl (cy 0, 64, .inl (zf nw))), (a3, .inl (cy 0, 384, .inl (zf (cpy nw 0 ps (64 * ed) 64))))] H := hP
    have hD : va_D A [(a0, .inr (6, [.ref a1, .ref a2, .ref a3, .int (iZ ed), .ref a4, .int (iZ tc), .ref a5, .int (iZ ol), .ref a6, .int (iZ nl), .ref a7])), (a2, .inl (cy 0, 64, .inl (zf nx))), (a4, .inl (cy 0, 20, .inl (zf tm))), (a5, .inl (cy 0, 60, .inl (zf od))), (a6, .inl (cy 0, 60, .inl (zf ne))), (a7, .inl (cy 1, 1000, .inl (zf pt))), (a1, .inl (cy 0, 64, .inl (zf nw))), (a3, .inl (cy 0, 384, .inl (zf (cpy nw 0 ps (64 * ed) 64))))] := hD
    have hP := hP.sub (ws' := (MW cy a0 a1 a2 a3 a4 a5 a6 a7 ed tc ol nl nw nx (cpy nw 0 ps (64 * ed) 64) tm od ne pt)) [0, 6, 1, 7, 2, 3, 4, 5] rfl
    have hD := hD.sub (ws' := (MW cy a0 a1 a2 a3 a4 a5 a6 a7 ed tc ol nl nw nx (cpy nw 0 ps (64 * ed) 64) tm od ne pt)) [0, 6, 1, 7, 2, 3, 4, 5] (by decide) rfl
    refine W.eq (g2 := F0 mt 68 ls []) rfl ?_
    refine lv_aload_n hx hb dX7_save_68 rfl (lv_at hl 0 rfl) ?_
    refine lv_dup hx hb dX7_save_69 rfl ?_
    refine va_get (D := G) (ci := 6) (v := .int (iZ ed)) (C := RX7) (T := TX7) (N := 11) hx hb hts (by decide +kernel) hown hK hP 0 rfl rfl 3 (by decide) (hts (.fieldLink RX7 32 "SturmianWordsModel" "edits" "I") (by decide +kernel)) (fun _ h9 => h9) rfl dX7_save_70 ?_
    refine lv_iconst (v := iZ 1) hx hb dX7_save_73 rfl ?_
    refine z_iadd hx hb dX7_save_74 ?_
    refine va_put (D := G) (ci := 6) (v := .int (iZ (ed + 1))) (ty := .int) (C := RX7) (T := TX7) (N := 11) hx hb hts (by decide +kernel) tyX7 tyX7_ok nmX7 hown hK hP hD hS 0 rfl rfl 3 (by decide) (hts (.fieldLink RX7 32 "SturmianWordsModel" "edits" "I") (by decide +kernel)) (fun _ h9 => h9) rfl (by decide +kernel) rfl rfl (Nat.le_of_ble_eq_true rfl) dX7_save_75 (fun H locs hP hD hS => ?_)
    have hP : va_P G vwCl (MW cy a0 a1 a2 a3 a4 a5 a6 a7 (ed + 1) tc ol nl nw nx (cpy nw 0 ps (64 * ed) 64) tm od ne pt) H := hP
    have hD : va_D A (MW cy a0 a1 a2 a3 a4 a5 a6 a7 (ed + 1) tc ol nl nw nx (cpy nw 0 ps (64 * ed) 64) tm od ne pt) := hD
    have e1 : svP ps nw ed = cpy nw 0 ps (64 * ed) 64 := by unfold svP; rw [if_neg c_6, if_neg c_6]
    have e2 : svE ed = ed + 1 := by unfold svE; rw [if_neg c_6]
    rw [← e1, ← e2] at hP hD
    exact z_vretE hx hb hr hlocks dX7_save_78 hS.2.2 ⟨(show 0 ≤ 0 by omega), (show 0 ≤ 0 by omega)⟩ ⟨(rfl), (trivial), (hP), (hD), Fh.of hS⟩
  · refine lv_iconst (v := iZ 0) hx hb dX7_save_9 rfl ?_
    refine lv_istore_n (lv' := [(1, .int (iZ 0)), (0, .ref a0)]) hx hb dX7_save_10 rfl hl (by decide) rfl (fun ls hl => ?_)
    rw [← shd_0 ps] at hP hD
    refine z_loopH1 (nL := 2) (A := A) (fun (k : Int) => [(0, .ref a0), (1, .int (iZ k))]) (fun (k : Int) (H : Heap) => ((0 ≤ k ∧ k ≤ 320)) ∧ va_P G vwCl (MW cy a0 a1 a2 a3 a4 a5 a6 a7 ed tc ol nl nw nx (shd ps k) tm od ne pt) H ∧ va_D A (MW cy a0 a1 a2 a3 a4 a5 a6 a7 ed tc ol nl nw nx (shd ps k) tm od ne pt) ∧ Fh A s.heap H) (fun (k : Int) => 320 - k) (fun (k : Int) => 0) (fun (k : Int) => 0) (a1 := 0) ⟨(by omega), hP, hD, Fh.of hS⟩ hS.2.2 (lv_sub hl [1, 0] rfl) ?_
    rintro k H locs ⟨i1, hP, hD, hFr⟩ hLc ih_11 ls hl
    have hS : va_S A s.heap H locs := Fh.S hFr hLc
    refine lv_iload_n hx hb dX7_save_11 rfl (lv_at hl 1 rfl) ?_
    refine lv_sipush (v := iZ 320) hx hb dX7_save_12 (by decide +kernel) ?_
    refine z_icmp_ge (tgt := 39) hx hb dX7_save_15 (by decide) (by omega) (fun c_15 => ?_) (fun c_15 => ?_)
    · rw [show k = 320 by omega] at hP hD
      refine lv_aload_n hx hb dX7_save_39 rfl (lv_at hl 0 rfl) ?_
      refine lv_dup hx hb dX7_save_40 rfl ?_
      refine va_get (D := G) (ci := 6) (v := .int (iZ ed)) (C := RX7) (T := TX7) (N := 11) hx hb hts (by decide +kernel) hown hK hP 0 rfl rfl 3 (by decide) (hts (.fieldLink RX7 32 "SturmianWordsModel" "edits" "I") (by decide +kernel)) (fun _ h9 => h9) rfl dX7_save_41 ?_
      refine lv_iconst (v := iZ 1) hx hb dX7_save_44 rfl ?_
      refine z_isub hx hb dX7_save_45 ?_
      refine va_put (D := G) (ci := 6) (v := .int (iZ (ed - 1))) (ty := .int) (C := RX7) (T := TX7) (N := 11) hx hb hts (by decide +kernel) tyX7 tyX7_ok nmX7 hown hK hP hD hS 0 rfl rfl 3 (by decide) (hts (.fieldLink RX7 32 "SturmianWordsModel" "edits" "I") (by decide +kernel)) (fun _ h9 => h9) rfl (by decide +kernel) rfl rfl (Nat.le_of_ble_eq_true rfl) dX7_save_46 (fun H locs hP hD hS => ?_)
      have hP : va_P G vwCl (MW cy a0 a1 a2 a3 a4 a5 a6 a7 (ed - 1) tc ol nl nw nx (shd ps 320) tm od ne pt) H := hP
      have hD : va_D A (MW cy a0 a1 a2 a3 a4 a5 a6 a7 (ed - 1) tc ol nl nw nx (shd ps 320) tm od ne pt) := hD
      refine lv_aload_n hx hb dX7_save_49 rfl (lv_at hl 0 rfl) ?_
      refine va_get (D := G) (ci := 6) (v := .ref a1) (C := RX7) (T := TX7) (N := 11) hx hb hts (by decide +kernel) hown hK hP 0 rfl rfl 0 (by decide) (hts (.fieldLink RX7 7 "SturmianWordsModel" "now" "[I") (by decide +kernel)) (fun _ h9 => h9) rfl dX7_save_50 ?_
      refine lv_iconst (v := iZ 0) hx hb dX7_save_53 rfl ?_
      refine lv_aload_n hx hb dX7_save_54 rfl (lv_at hl 0 rfl) ?_
      refine va_get (D := G) (ci := 6) (v := .ref a3) (C := RX7) (T := TX7) (N := 11) hx hb hts (by decide +kernel) hown hK hP 0 rfl rfl 2 (by decide) (hts (.fieldLink RX7 16 "SturmianWordsModel" "past" "[I") (by decide +kernel)) (fun _ h9 => h9) rfl dX7_save_55 ?_
      refine lv_bipush (v := iZ 64) hx hb dX7_save_58 (by decide +kernel) ?_
      refine lv_aload_n hx hb dX7_save_60 rfl (lv_at hl 0 rfl) ?_
      refine va_get (D := G) (ci := 6) (v := .int (iZ (ed - 1))) (C := RX7) (T := TX7) (N := 11) hx hb hts (by decide +kernel) hown hK hP 0 rfl rfl 3 (by decide) (hts (.fieldLink RX7 32 "SturmianWordsModel" "edits" "I") (by decide +kernel)) (fun _ h9 => h9) rfl dX7_save_61 ?_
      refine z_imul hx hb dX7_save_64 ?_
      have hPc := hP.sub (ws' := [(a1, .inl (cy 0, 64, .inl (zf nw))), (a3, .inl (cy 0, 384, .inl (zf (shd ps 320))))]) [1, 3] rfl
      have hDc := (hD.sub (ws' := [(a1, .inl (cy 0, 64, .inl (zf nw))), (a3, .inl (cy 0, 384, .inl (zf (shd ps 320))))]) [1, 3] (by decide) rfl).weaken (B := fun _ => True) (fun _ _ _ _ => trivial)
      have hFc := va_free (wc := [(a1, .inl (cy 0, 64, .inl (zf nw))), (a3, .inl (cy 0, 384, .inl (zf (shd ps 320))))]) hD hS hA [1, 3] rfl
      refine z_callE (A := A) (va_runS (As := [.ref a1, .int (iZ 0), .ref a3, .int (iZ (64 * (ed - 1)))]) (rest := []) ⟨hx, hb, hml, hown, hts⟩ (c_X7_copy lau G cy a1 a3 64 384 H.size nw (shd ps 320) 0 (64 * (ed - 1)) (by first | assumption | omega) (by first | assumption | omega) (by first | assumption | omega)) (va_cwS 4 hts gX7_save_X7_copy rfl rfl rfl (by decide +kernel) ⟨Nat.le_of_ble_eq_true rfl, Nat.le_of_ble_eq_true rfl⟩) ⟨P1_blind, P1_mk hKK (⟨rfl, hPc, hDc⟩)⟩ rfl rfl hl.1 rfl (lv_room (Nat.le_of_ble_eq_true rfl)) dX7_save_65 ⟨(show 0 + 0 ≤ 0 by omega), (show 0 + 0 ≤ 0 by omega)⟩) hS.2.2 hFc (fun v H1 locs1 hR hL1 => ?_)
      obtain ⟨rfl, hq65, hP1, hD1, hF1⟩ := hR
      obtain ⟨hP, hD⟩ := va_join (wr := [(a0, .inr (6, [.ref a1, .ref a2, .ref a3, .int (iZ (ed - 1)), .ref a4, .int (iZ tc), .ref a5, .int (iZ ol), .ref a6, .int (iZ nl), .ref a7])), (a2, .inl (cy 0, 64, .inl (zf nx))), (a4, .inl (cy 0, 20, .inl (zf tm))), (a5, .inl (cy 0, 60, .inl (zf od))), (a6, .inl (cy 0, 60, .inl (zf ne))), (a7, .inl (cy 1, 1000, .inl (zf pt)))]) (w1 := [(a1, .inl (cy 0, 64, .inl (zf nw))), (a3, .inl (cy 0, 384, .inl (zf (cpy nw 0 (shd ps 320) (64 * (ed - 1)) 64))))]) hP hD [1, 3] [0, 2, 4, 5, 6, 7] rfl rfl (by decide) (by decide) hF1.2 hFc hP1 hD1
      have hS : va_S A s.heap H1 locs1 := Fh.S ((Fh.of hS).tr hF1 (fun q _ h => hFc q h)) hL1
      clear hPc hDc hFc hP1 hD1 hF1 hL1
      generalize H1 = H at hP hS ⊢
      have hP : va_P G vwCl [(a0, .inr (6, [.ref a1, .ref a2, .ref a3, .int (iZ (ed - 1)), .ref a4, .int (iZ tc), .ref a5, .int (iZ ol), .ref a6, .int (iZ nl), .ref a7])), (a2, .inl (cy 0, 64, .inl (zf nx))), (a4, .inl (cy 0, 20, .inl (zf tm))), (a5, .inl (cy 0, 60, .inl (zf od))), (a6, .inl (cy 0, 60, .inl (zf ne))), (a7, .inl (cy 1, 1000, .inl (zf pt))), (a1, .inl (cy 0, 64, .inl (zf nw))), (a3, .inl (cy 0, 384, .inl (zf (cpy nw 0 (shd ps 320) (64 * (ed - 1)) 64))))] H := hP
      have hD : va_D A [(a0, .inr (6, [.ref a1, .ref a2, .ref a3, .int (iZ (ed - 1)), .ref a4, .int (iZ tc), .ref a5, .int (iZ ol), .ref a6, .int (iZ nl), .ref a7])), (a2, .inl (cy 0, 64, .inl (zf nx))), (a4, .inl (cy 0, 20, .inl (zf tm))), (a5, .inl (cy 0, 60, .inl (zf od))), (a6, .inl (cy 0, 60, .inl (zf ne))), (a7, .inl (cy 1, 1000, .inl (zf pt))), (a1, .inl (cy 0, 64, .inl (zf nw))), (a3, .inl (cy 0, 384, .inl (zf (cpy nw 0 (shd ps 320) (64 * (ed - 1)) 64))))] := hD
      have hP := hP.sub (ws' := (MW cy a0 a1 a2 a3 a4 a5 a6 a7 (ed - 1) tc ol nl nw nx (cpy nw 0 (shd ps 320) (64 * (ed - 1)) 64) tm od ne pt)) [0, 6, 1, 7, 2, 3, 4, 5] rfl
      have hD := hD.sub (ws' := (MW cy a0 a1 a2 a3 a4 a5 a6 a7 (ed - 1) tc ol nl nw nx (cpy nw 0 (shd ps 320) (64 * (ed - 1)) 64) tm od ne pt)) [0, 6, 1, 7, 2, 3, 4, 5] (by decide) rfl
      refine W.eq (g2 := F0 mt 68 ls []) rfl ?_
      refine lv_aload_n hx hb dX7_save_68 rfl (lv_at hl 0 rfl) ?_
      refine lv_dup hx hb dX7_save_69 rfl ?_
      refine va_get (D := G) (ci := 6) (v := .int (iZ (ed - 1))) (C := RX7) (T := TX7) (N := 11) hx hb hts (by decide +kernel) hown hK hP 0 rfl rfl 3 (by decide) (hts (.fieldLink RX7 32 "SturmianWordsModel" "edits" "I") (by decide +kernel)) (fun _ h9 => h9) rfl dX7_save_70 ?_
      refine lv_iconst (v := iZ 1) hx hb dX7_save_73 rfl ?_
      refine z_iadd hx hb dX7_save_74 ?_
      refine va_put (D := G) (ci := 6) (v := .int (iZ ((ed - 1) + 1))) (ty := .int) (C := RX7) (T := TX7) (N := 11) hx hb hts (by decide +kernel) tyX7 tyX7_ok nmX7 hown hK hP hD hS 0 rfl rfl 3 (by decide) (hts (.fieldLink RX7 32 "SturmianWordsModel" "edits" "I") (by decide +kernel)) (fun _ h9 => h9) rfl (by decide +kernel) rfl rfl (Nat.le_of_ble_eq_true rfl) dX7_save_75 (fun H locs hP hD hS => ?_)
      have hP : va_P G vwCl (MW cy a0 a1 a2 a3 a4 a5 a6 a7 ((ed - 1) + 1) tc ol nl nw nx (cpy nw 0 (shd ps 320) (64 * (ed - 1)) 64) tm od ne pt) H := hP
      have hD : va_D A (MW cy a0 a1 a2 a3 a4 a5 a6 a7 ((ed - 1) + 1) tc ol nl nw nx (cpy nw 0 (shd ps 320) (64 * (ed - 1)) 64) tm od ne pt) := hD
      have e1 : svP ps nw ed = cpy nw 0 (shd ps 320) (64 * (ed - 1)) 64 := by unfold svP; rw [if_pos c_6, if_pos c_6, show ed - 1 = 5 by omega]
      have e2 : svE ed = ed - 1 + 1 := by unfold svE; rw [if_pos c_6]; omega
      rw [← e1, ← e2] at hP hD
      exact z_vretE hx hb hr hlocks dX7_save_78 hS.2.2 ⟨(show 0 ≤ 0 by omega), (show 0 ≤ 0 by omega)⟩ ⟨(rfl), (trivial), (hP), (hD), Fh.of hS⟩
    · refine lv_aload_n hx hb dX7_save_18 rfl (lv_at hl 0 rfl) ?_
      refine va_get (D := G) (ci := 6) (v := .ref a3) (C := RX7) (T := TX7) (N := 11) hx hb hts (by decide +kernel) hown hK hP 0 rfl rfl 2 (by decide) (hts (.fieldLink RX7 16 "SturmianWordsModel" "past" "[I") (by decide +kernel)) (fun _ h9 => h9) rfl dX7_save_19 ?_
      refine lv_iload_n hx hb dX7_save_22 rfl (lv_at hl 1 rfl) ?_
      refine lv_aload_n hx hb dX7_save_23 rfl (lv_at hl 0 rfl) ?_
      refine va_get (D := G) (ci := 6) (v := .ref a3) (C := RX7) (T := TX7) (N := 11) hx hb hts (by decide +kernel) hown hK hP 0 rfl rfl 2 (by decide) (hts (.fieldLink RX7 16 "SturmianWordsModel" "past" "[I") (by decide +kernel)) (fun _ h9 => h9) rfl dX7_save_24 ?_
      refine lv_iload_n hx hb dX7_save_27 rfl (lv_at hl 1 rfl) ?_
      refine lv_bipush (v := iZ 64) hx hb dX7_save_28 (by decide +kernel) ?_
      refine z_iadd hx hb dX7_save_30 ?_
      refine z_iald (D := G) hx hb hK hP 3 0 rfl rfl (by omega) dX7_save_31 ?_
      refine z_top (b := (ps (k + 64))) (shd_g (by omega)) ?_
      refine z_iast (D := G) hx hb hK hP hD hS 3 0 rfl rfl (by omega) dX7_save_32 (fun H locs hP hD hS => ?_)
      have hP : va_P G vwCl (MW cy a0 a1 a2 a3 a4 a5 a6 a7 ed tc ol nl nw nx (up1 (shd ps k) k (ps (k + 64))) tm od ne pt) H := hP
      have hD : va_D A (MW cy a0 a1 a2 a3 a4 a5 a6 a7 ed tc ol nl nw nx (up1 (shd ps k) k (ps (k + 64))) tm od ne pt) := hD
      rw [show (up1 (shd ps k) k (ps (k + 64))) = (shd ps (k + 1)) from shd_s (by omega)] at hP hD
      refine lv_iinc (v := iZ (k + 1)) (lv' := [(1, .int (iZ (k + 1))), (0, .ref a0)]) hx hb dX7_save_33 hl (k := 1) rfl (iZ_add _ _) (by decide) rfl (fun ls hl => ?_)
      refine lv_goto (tgt := 11) hx hb dX7_save_36 (by decide) ?_
      exact ih_11 (k + 1) _ _ ⟨(by omega), hP, hD, Fh.of hS⟩ hS.2.2 ⟨by omega, by omega⟩ _ (lv_sub hl [1, 0] rfl)
