set_option maxHeartbeats 4000000 in
set_option maxRecDepth 100000 in
theorem c_X2_bitsOf (lau : Launch) (G : va_G) (cy : Nat → ClassId) (ad : Nat → Nat) (mi : Nat) (x : Int) (hmi : mi < 5) (h2 : 0 ≤ x ∧ x ≤ 1) : Met lau yX2_bitsOf wsX2_bitsOf ({ frames := 0, cells := 0, slots := 0, locals := 0 }) (P2 G cy ad (fun _ => False) [.ref (ad mi), .int (iZ x)] (fun _ => True)) (vp_Si (fun r => r = iZ (mB (mi : Int) x))) 0 0 (fun _ => False) := by
  refine z_head2 (lv := [(0, .ref (ad mi)), (1, .int (iZ x))]) RX2 (by decide) rfl rfl (Nat.le_of_ble_eq_true rfl) rfl ?_
  intro pr ev s mt below meth cd ls hx hb hr hlocks hml hown hname hts hKK hEN hP hl
  have hK := hKK.1
  refine lv_iload_n hx hb dX2_bitsOf_0 rfl (lv_at hl 1 rfl) ?_
  refine z_if_ne (tgt := 11) hx hb dX2_bitsOf_1 (by decide) (by omega) (fun c_1 => ?_) (fun c_1 => ?_)
  · refine lv_aload_n hx hb dX2_bitsOf_11 rfl (lv_at hl 0 rfl) ?_
    refine z_getE (z := mB (mi : Int) 1) hx hb hEN hmi va_S.rf hown ("SturmianWords$Morphism", "bitsOfOne", "I", [0, 0, 0, 1, 2]) (List.mem_of_getElem? (i := 2) rfl) (hts (.fieldLink RX2 47 "SturmianWords$Morphism" "bitsOfOne" "I") (by decide +kernel)) (fun _ h9 => h9) ((en_v mi hmi).2.2.1) dX2_bitsOf_12 ?_
    exact z_iretP hx hb hr hlocks dX2_bitsOf_15 (by rw [show x = 1 by omega])
  · refine lv_aload_n hx hb dX2_bitsOf_4 rfl (lv_at hl 0 rfl) ?_
    refine z_getE (z := mB (mi : Int) 0) hx hb hEN hmi va_S.rf hown ("SturmianWords$Morphism", "bitsOfZero", "I", [1, 1, 2, 0, 0]) (List.mem_of_getElem? (i := 0) rfl) (hts (.fieldLink RX2 40 "SturmianWords$Morphism" "bitsOfZero" "I") (by decide +kernel)) (fun _ h9 => h9) ((en_v mi hmi).1) dX2_bitsOf_5 ?_
    refine lv_goto (tgt := 15) hx hb dX2_bitsOf_8 (by decide) ?_
    exact z_iretP hx hb hr hlocks dX2_bitsOf_15 (by rw [show x = 0 by omega])
set_option maxHeartbeats 4000000 in
set_option maxRecDepth 100000 in
theorem c_X2_sizeOf (lau : Launch) (G : va_G) (cy : Nat → ClassId) (ad : Nat → Nat) (mi : Nat) (x : Int) (hmi : mi < 5) (h2 : 0 ≤ x ∧ x ≤ 1) : Met lau yX2_sizeOf wsX2_sizeOf ({ frames := 0, cells := 0, slots := 0, locals := 0 }) (P2 G cy ad (fun _ => False) [.ref (ad mi), .int (iZ x)] (fun _ => True)) (vp_Si (fun r => r = iZ (mN (mi : Int) x))) 0 0 (fun _ => False) := by
  refine z_head2 (lv := [(0, .ref (ad mi)), (1, .int (iZ x))]) RX2 (by decide) rfl rfl (Nat.le_of_ble_eq_true rfl) rfl ?_
  intro pr ev s mt below meth cd ls hx hb hr hlocks hml hown hname hts hKK hEN hP hl
  have hK := hKK.1
  refine lv_iload_n hx hb dX2_sizeOf_0 rfl (lv_at hl 1 rfl) ?_
  refine z_if_ne (tgt := 11) hx hb dX2_sizeOf_1 (by decide) (by omega) (fun c_1 => ?_) (fun c_1 => ?_)
  · refine lv_aload_n hx hb dX2_sizeOf_11 rfl (lv_at hl 0 rfl) ?_
    refine z_getE (z := mN (mi : Int) 1) hx hb hEN hmi va_S.rf hown ("SturmianWords$Morphism", "sizeOfOne", "I", [1, 1, 1, 2, 2]) (List.mem_of_getElem? (i := 3) rfl) (hts (.fieldLink RX2 50 "SturmianWords$Morphism" "sizeOfOne" "I") (by decide +kernel)) (fun _ h9 => h9) ((en_v mi hmi).2.2.2) dX2_sizeOf_12 ?_
    exact z_iretP hx hb hr hlocks dX2_sizeOf_15 (by rw [show x = 1 by omega])
  · refine lv_aload_n hx hb dX2_sizeOf_4 rfl (lv_at hl 0 rfl) ?_
    refine z_getE (z := mN (mi : Int) 0) hx hb hEN hmi va_S.rf hown ("SturmianWords$Morphism", "sizeOfZero", "I", [1, 2, 2, 1, 1]) (List.mem_of_getElem? (i := 1) rfl) (hts (.fieldLink RX2 44 "SturmianWords$Morphism" "sizeOfZero" "I") (by decide +kernel)) (fun _ h9 => h9) ((en_v mi hmi).2.1) dX2_sizeOf_5 ?_
    refine lv_goto (tgt := 15) hx hb dX2_sizeOf_8 (by decide) ?_
    exact z_iretP hx hb hr hlocks dX2_sizeOf_15 (by rw [show x = 0 by omega])
set_option maxHeartbeats 4000000 in
set_option maxRecDepth 100000 in
theorem c_X2_hasImageAt (lau : Launch) (G : va_G) (cy : Nat → ClassId) (ad : Nat → Nat) (mi : Nat) (h1 : Nat) (b n x v : Int) (hmi : mi < 5) (hn : 0 ≤ n ∧ n ≤ 60) (hb2 : 0 ≤ b ∧ b < 2305843009213693952) (h3 : 0 ≤ x ∧ x ≤ 1000) (h4 : 0 ≤ v ∧ v ≤ 1) : Met lau yX2_hasImageAt wsX2_hasImageAt ({ frames := 1, cells := 0, slots := 0, locals := 22 }) (P2 G cy ad (fun _ => False) [.ref (ad mi), .ref h1, .int (iZ x), .int (iZ v)] (fun H => va_P G vwCl [(h1, .inr (4, [.long (lZ b), .int (iZ n)]))] H)) (vp_Si (fun r => r = iZ (bv (hasI (mi : Int) b n x v)))) 0 0 (fun _ => False) := by
  refine z_head2 (lv := [(0, .ref (ad mi)), (1, .ref h1), (2, .int (iZ x)), (3, .int (iZ v))]) RX2 (by decide) rfl rfl (Nat.le_of_ble_eq_true rfl) rfl ?_
  intro pr ev s mt below meth cd ls hx hb hr hlocks hml hown hname hts hKK hEN hP hl
  have hK := hKK.1
  have hP : va_P G vwCl [(h1, .inr (4, [.long (lZ b), .int (iZ n)]))] s.heap := hP
  refine lv_aload_n hx hb dX2_hasImageAt_0 rfl (lv_at hl 0 rfl) ?_
  refine lv_iload_n hx hb dX2_hasImageAt_1 rfl (lv_at hl 3 rfl) ?_
  refine z_calli (va_runV (As := [.int (iZ v)]) (rest := []) ⟨hx, hb, hml, hown, hts⟩ (c_X2_sizeOf lau G cy ad mi v (by first | omega | assumption) (by first | omega | assumption)) (cwV 1 hts gX2_hasImageAt_X2_sizeOf rfl rfl rfl (by decide +kernel) ⟨Nat.le_of_ble_eq_true rfl, Nat.le_of_ble_eq_true rfl⟩) ⟨P2_blind, va_recvE hEN hmi va_S.rf, P2_mk hKK hEN (trivial)⟩ rfl rfl hl.1 rfl (lv_room (Nat.le_of_ble_eq_true rfl)) dX2_hasImageAt_2 ⟨Nat.le_refl 0, Nat.le_refl 0⟩) ?_
  refine lv_istore (lv' := [(4, .int (iZ (mN (mi : Int) v))), (0, .ref (ad mi)), (1, .ref h1), (2, .int (iZ x)), (3, .int (iZ v))]) hx hb dX2_hasImageAt_5 hl (by decide) rfl (fun ls hl => ?_)
  have hmr := mN_r (mi : Int) v
  refine lv_iload_n hx hb dX2_hasImageAt_7 rfl (lv_at hl 3 rfl) ?_
  refine lv_iload hx hb dX2_hasImageAt_8 (lv_at hl 0 rfl) ?_
  refine z_iadd hx hb dX2_hasImageAt_10 ?_
  refine lv_aload_n hx hb dX2_hasImageAt_11 rfl (lv_at hl 2 rfl) ?_
  refine va_getN (D := G) (ci := 4) (v := .int (iZ n)) (C := RX5) (T := TX5) (N := 2) hx hb hts (by decide +kernel) hown hK hP 0 rfl rfl 1 (by decide) (va_Nw.use rfl (hKK.2 (.fieldLinkNest RX2 53 "SturmianWords$Word" "size" "I" "SturmianWords") (by decide +kernel))) (fun _ h9 => h9) rfl dX2_hasImageAt_12 ?_
  refine z_icmp_gt (tgt := 39) hx hb dX2_hasImageAt_15 (by decide) (by omega) (fun c_15 => ?_) (fun c_15 => ?_)
  · refine lv_iconst (v := iZ 0) hx hb dX2_hasImageAt_39 rfl ?_
    exact z_zretP hx hb hr hlocks dX2_hasImageAt_40 ((bv_f (fun z => by have := z.1; omega)).symm)
  · refine lv_aload_n hx hb dX2_hasImageAt_18 rfl (lv_at hl 2 rfl) ?_
    refine lv_iload_n hx hb dX2_hasImageAt_19 rfl (lv_at hl 3 rfl) ?_
    refine lv_iload hx hb dX2_hasImageAt_20 (lv_at hl 0 rfl) ?_
    refine z_calll (va_runV (As := [.int (iZ x), .int (iZ (mN (mi : Int) v))]) (rest := []) ⟨hx, hb, hml, hown, hts⟩ (c_X5_factor lau G cy h1 b n x (mN (mi : Int) v) (by first | omega | assumption) (by first | omega | assumption) (by first | omega | assumption) (by first | omega | assumption) (by first | omega | assumption)) (cwV 2 hts gX2_hasImageAt_X5_factor rfl rfl rfl (by decide +kernel) ⟨Nat.le_of_ble_eq_true rfl, Nat.le_of_ble_eq_true rfl⟩) ⟨P1_blind, va_recv hK hP (ci := 4) (q0 := 0) rfl rfl, P1_mk hKK (hP.sub [0] rfl)⟩ rfl rfl hl.1 rfl (lv_room (Nat.le_of_ble_eq_true rfl)) dX2_hasImageAt_22 ⟨Nat.le_refl 0, Nat.le_refl 0⟩) ?_
    refine lv_aload_n hx hb dX2_hasImageAt_25 rfl (lv_at hl 1 rfl) ?_
    refine lv_iload_n hx hb dX2_hasImageAt_26 rfl (lv_at hl 4 rfl) ?_
    refine z_calli (va_runV (As := [.int (iZ v)]) (rest := [.long (lZ (fct b n x (mN (mi : Int) v)))]) ⟨hx, hb, hml, hown, hts⟩ (c_X2_bitsOf lau G cy ad mi v (by first | omega | assumption) (by first | omega | assumption)) (cwV 1 hts gX2_hasImageAt_X2_bitsOf rfl rfl rfl (by decide +kernel) ⟨Nat.le_of_ble_eq_true rfl, Nat.le_of_ble_eq_true rfl⟩) ⟨P2_blind, va_recvE hEN hmi va_S.rf, P2_mk hKK hEN (trivial)⟩ rfl rfl hl.1 rfl (lv_room (Nat.le_of_ble_eq_true rfl)) dX2_hasImageAt_27 ⟨Nat.le_refl 0, Nat.le_refl 0⟩) ?_
    have hmb0 := mB_r (mi : Int) v
    have hp40 := pw_le (a := mN (mi : Int) v) (b := 2) (by omega) (by omega)
    have hp50 : pw 2 = 4 := rfl
    refine z_i2l hx hb dX2_hasImageAt_30 (by omega) ?_
    have hf9 := fct_b (b := b) (n := n) (st := x) (ct := mN (mi : Int) v) (by omega)
    have hmb := mB_r (mi : Int) v
    have hp4 := pw_le (a := mN (mi : Int) v) (b := 2) (by omega) (by omega)
    have hp5 : pw 2 = 4 := rfl
    refine z_lcmp hx hb dX2_hasImageAt_31 (by omega) (fun cm31 hcm31 => ?_)
    refine z_if_ne (tgt := 39) hx hb dX2_hasImageAt_32 (by decide) (by omega) (fun c_32 => ?_) (fun c_32 => ?_)
    · refine lv_iconst (v := iZ 0) hx hb dX2_hasImageAt_39 rfl ?_
      exact z_zretP hx hb hr hlocks dX2_hasImageAt_40 ((bv_f (fun z => by have := z.2; omega)).symm)
    · refine lv_iconst (v := iZ 1) hx hb dX2_hasImageAt_35 rfl ?_
      refine lv_goto (tgt := 40) hx hb dX2_hasImageAt_36 (by decide) ?_
      exact z_zretP hx hb hr hlocks dX2_hasImageAt_40 ((bv_t ⟨by omega, by omega⟩).symm)
set_option maxHeartbeats 4000000 in
set_option maxRecDepth 100000 in
theorem c_X2_letterBehind (lau : Launch) (G : va_G) (cy : Nat → ClassId) (ad : Nat → Nat) (mi : Nat) (h1 : Nat) (b n x : Int) (hmi : mi < 5) (hn : 0 ≤ n ∧ n ≤ 60) (hb2 : 0 ≤ b ∧ b < 2305843009213693952) (h3 : 0 ≤ x ∧ x ≤ 1000) : Met lau yX2_letterBehind wsX2_letterBehind ({ frames := 2, cells := 0, slots := 0, locals := 46 }) (P2 G cy ad (fun _ => False) [.ref (ad mi), .ref h1, .int (iZ x)] (fun H => va_P G vwCl [(h1, .inr (4, [.long (lZ b), .int (iZ n)]))] H)) (vp_Si (fun r => r = iZ (lbI (mi : Int) b n x))) 0 0 (fun _ => False) := by
  refine z_head2 (lv := [(0, .ref (ad mi)), (1, .ref h1), (2, .int (iZ x))]) RX2 (by decide) rfl rfl (Nat.le_of_ble_eq_true rfl) rfl ?_
  intro pr ev s mt below meth cd ls hx hb hr hlocks hml hown hname hts hKK hEN hP hl
  have hK := hKK.1
  have hP : va_P G vwCl [(h1, .inr (4, [.long (lZ b), .int (iZ n)]))] s.heap := hP
  refine lv_aload_n hx hb dX2_letterBehind_0 rfl (lv_at hl 0 rfl) ?_
  refine z_getE (z := mN (mi : Int) 1) hx hb hEN hmi va_S.rf hown ("SturmianWords$Morphism", "sizeOfOne", "I", [1, 1, 1, 2, 2]) (List.mem_of_getElem? (i := 3) rfl) (hts (.fieldLink RX2 50 "SturmianWords$Morphism" "sizeOfOne" "I") (by decide +kernel)) (fun _ h9 => h9) ((en_v mi hmi).2.2.2) dX2_letterBehind_1 ?_
  refine lv_aload_n hx hb dX2_letterBehind_4 rfl (lv_at hl 0 rfl) ?_
  refine z_getE (z := mN (mi : Int) 0) hx hb hEN hmi va_S.rf hown ("SturmianWords$Morphism", "sizeOfZero", "I", [1, 2, 2, 1, 1]) (List.mem_of_getElem? (i := 1) rfl) (hts (.fieldLink RX2 44 "SturmianWords$Morphism" "sizeOfZero" "I") (by decide +kernel)) (fun _ h9 => h9) ((en_v mi hmi).2.1) dX2_letterBehind_5 ?_
  have hm1 := mN_r (mi : Int) 1
  have hm0 := mN_r (mi : Int) 0
  refine z_icmp_le (tgt := 15) hx hb dX2_letterBehind_8 (by decide) (by omega) (fun c_8 => ?_) (fun c_8 => ?_)
  · refine lv_iconst (v := iZ 0) hx hb dX2_letterBehind_15 rfl ?_
    refine z_tope (fun lo elo => ?_)
    refine lv_istore_n (lv' := [(3, .int (iZ lo)), (0, .ref (ad mi)), (1, .ref h1), (2, .int (iZ x))]) hx hb dX2_letterBehind_16 rfl hl (by decide) rfl (fun ls hl => ?_)
    have hlo : lgI (mi : Int) = lo := by rw [lgI_v]; split <;> omega
    refine lv_aload_n hx hb dX2_letterBehind_17 rfl (lv_at hl 1 rfl) ?_
    refine lv_aload_n hx hb dX2_letterBehind_18 rfl (lv_at hl 2 rfl) ?_
    refine lv_iload_n hx hb dX2_letterBehind_19 rfl (lv_at hl 3 rfl) ?_
    refine lv_iload_n hx hb dX2_letterBehind_20 rfl (lv_at hl 0 rfl) ?_
    refine z_calli (va_runV (As := [.ref h1, .int (iZ x), .int (iZ lo)]) (rest := []) ⟨hx, hb, hml, hown, hts⟩ (c_X2_hasImageAt lau G cy ad mi h1 b n x lo (by first | omega | assumption) (by first | omega | assumption) (by first | omega | assumption) (by first | omega | assumption) (by first | omega | assumption)) (cwV 3 hts gX2_letterBehind_X2_hasImageAt rfl rfl rfl (by decide +kernel) ⟨Nat.le_of_ble_eq_true rfl, Nat.le_of_ble_eq_true rfl⟩) ⟨P2_blind, va_recvE hEN hmi va_S.rf, P2_mk hKK hEN (hP.sub [0] rfl)⟩ rfl rfl hl.1 rfl (lv_room (Nat.le_of_ble_eq_true rfl)) dX2_letterBehind_21 ⟨Nat.le_refl 0, Nat.le_refl 0⟩) ?_
    refine z_ifB_eq (tgt := 29) hx hb dX2_letterBehind_24 (by decide) (fun c_24 => ?_) (fun c_24 => ?_)
    · refine lv_aload_n hx hb dX2_letterBehind_29 rfl (lv_at hl 1 rfl) ?_
      refine lv_aload_n hx hb dX2_letterBehind_30 rfl (lv_at hl 2 rfl) ?_
      refine lv_iload_n hx hb dX2_letterBehind_31 rfl (lv_at hl 3 rfl) ?_
      refine lv_iconst (v := iZ 1) hx hb dX2_letterBehind_32 rfl ?_
      refine lv_iload_n hx hb dX2_letterBehind_33 rfl (lv_at hl 0 rfl) ?_
      refine z_isub hx hb dX2_letterBehind_34 ?_
      refine z_calli (va_runV (As := [.ref h1, .int (iZ x), .int (iZ (1 - lo))]) (rest := []) ⟨hx, hb, hml, hown, hts⟩ (c_X2_hasImageAt lau G cy ad mi h1 b n x (1 - lo) (by first | omega | assumption) (by first | omega | assumption) (by first | omega | assumption) (by first | omega | assumption) (by first | omega | assumption)) (cwV 3 hts gX2_letterBehind_X2_hasImageAt rfl rfl rfl (by decide +kernel) ⟨Nat.le_of_ble_eq_true rfl, Nat.le_of_ble_eq_true rfl⟩) ⟨P2_blind, va_recvE hEN hmi va_S.rf, P2_mk hKK hEN (hP.sub [0] rfl)⟩ rfl rfl hl.1 rfl (lv_room (Nat.le_of_ble_eq_true rfl)) dX2_letterBehind_35 ⟨Nat.le_refl 0, Nat.le_refl 0⟩) ?_
      refine z_ifB_eq (tgt := 47) hx hb dX2_letterBehind_38 (by decide) (fun c_38 => ?_) (fun c_38 => ?_)
      · refine lv_iconst (v := iZ (-1)) hx hb dX2_letterBehind_47 rfl ?_
        exact z_iretP hx hb hr hlocks dX2_letterBehind_48 (by unfold lbI; rw [hlo, if_neg c_24, if_neg c_38])
      · refine lv_iconst (v := iZ 1) hx hb dX2_letterBehind_41 rfl ?_
        refine lv_iload_n hx hb dX2_letterBehind_42 rfl (lv_at hl 0 rfl) ?_
        refine z_isub hx hb dX2_letterBehind_43 ?_
        refine lv_goto (tgt := 48) hx hb dX2_letterBehind_44 (by decide) ?_
        exact z_iretP hx hb hr hlocks dX2_letterBehind_48 (by unfold lbI; rw [hlo, if_neg c_24, if_pos c_38])
    · refine lv_iload_n hx hb dX2_letterBehind_27 rfl (lv_at hl 0 rfl) ?_
      exact z_iretP hx hb hr hlocks dX2_letterBehind_28 (by unfold lbI; rw [hlo, if_pos c_24])
  · refine lv_iconst (v := iZ 1) hx hb dX2_letterBehind_11 rfl ?_
    refine lv_goto (tgt := 16) hx hb dX2_letterBehind_12 (by decide) ?_
    refine z_tope (fun lo elo => ?_)
    refine lv_istore_n (lv' := [(3, .int (iZ lo)), (0, .ref (ad mi)), (1, .ref h1), (2, .int (iZ x))]) hx hb dX2_letterBehind_16 rfl hl (by decide) rfl (fun ls hl => ?_)
    have hlo : lgI (mi : Int) = lo := by rw [lgI_v]; split <;> omega
    refine lv_aload_n hx hb dX2_letterBehind_17 rfl (lv_at hl 1 rfl) ?_
    refine lv_aload_n hx hb dX2_letterBehind_18 rfl (lv_at hl 2 rfl) ?_
    refine lv_iload_n hx hb dX2_letterBehind_19 rfl (lv_at hl 3 rfl) ?_
    refine lv_iload_n hx hb dX2_letterBehind_20 rfl (lv_at hl 0 rfl) ?_
    refine z_calli (va_runV (As := [.ref h1, .int (iZ x), .int (iZ lo)]) (rest := []) ⟨hx, hb, hml, hown, hts⟩ (c_X2_hasImageAt lau G cy ad mi h1 b n x lo (by first | omega | assumption) (by first | omega | assumption) (by first | omega | assumption) (by first | omega | assumption) (by first | omega | assumption)) (cwV 3 hts gX2_letterBehind_X2_hasImageAt rfl rfl rfl (by decide +kernel) ⟨Nat.le_of_ble_eq_true rfl, Nat.le_of_ble_eq_true rfl⟩) ⟨P2_blind, va_recvE hEN hmi va_S.rf, P2_mk hKK hEN (hP.sub [0] rfl)⟩ rfl rfl hl.1 rfl (lv_room (Nat.le_of_ble_eq_true rfl)) dX2_letterBehind_21 ⟨Nat.le_refl 0, Nat.le_refl 0⟩) ?_
    refine z_ifB_eq (tgt := 29) hx hb dX2_letterBehind_24 (by decide) (fun c_24 => ?_) (fun c_24 => ?_)
    · refine lv_aload_n hx hb dX2_letterBehind_29 rfl (lv_at hl 1 rfl) ?_
      refine lv_aload_n hx hb dX2_letterBehind_30 rfl (lv_at hl 2 rfl) ?_
      refine lv_iload_n hx hb dX2_letterBehind_31 rfl (lv_at hl 3 rfl) ?_
      refine lv_iconst (v := iZ 1) hx hb dX2_letterBehind_32 rfl ?_
      refine lv_iload_n hx hb dX2_letterBehind_33 rfl (lv_at hl 0 rfl) ?_
      refine z_isub hx hb dX2_letterBehind_34 ?_
      refine z_calli (va_runV (As := [.ref h1, .int (iZ x), .int (iZ (1 - lo))]) (rest := []) ⟨hx, hb, hml, hown, hts⟩ (c_X2_hasImageAt lau G cy ad mi h1 b n x (1 - lo) (by first | omega | assumption) (by first | omega | assumption) (by first | omega | assumption) (by first | omega | assumption) (by first | omega | assumption)) (cwV 3 hts gX2_letterBehind_X2_hasImageAt rfl rfl rfl (by decide +kernel) ⟨Nat.le_of_ble_eq_true rfl, Nat.le_of_ble_eq_true rfl⟩) ⟨P2_blind, va_recvE hEN hmi va_S.rf, P2_mk hKK hEN (hP.sub [0] rfl)⟩ rfl rfl hl.1 rfl (lv_room (Nat.le_of_ble_eq_true rfl)) dX2_letterBehind_35 ⟨Nat.le_refl 0, Nat.le_refl 0⟩) ?_
      refine z_ifB_eq (tgt := 47) hx hb dX2_letterBehind_38 (by decide) (fun c_38 => ?_) (fun c_38 => ?_)
      · refine lv_iconst (v := iZ (-1)) hx hb dX2_letterBehind_47 rfl ?_
        exact z_iretP hx hb hr hlocks dX2_letterBehind_48 (by unfold lbI; rw [hlo, if_neg c_24, if_neg c_38])
      · refine lv_iconst (v := iZ 1) hx hb dX2_letterBehind_41 rfl ?_
        refine lv_iload_n hx hb dX2_letterBehind_42 rfl (lv_at hl 0 rfl) ?_
        refine z_isub hx hb dX2_letterBehind_43 ?_
        refine lv_goto (tgt := 48) hx hb dX2_letterBehind_44 (by decide) ?_
        exact z_iretP hx hb hr hlocks dX2_letterBehind_48 (by unfold lbI; rw [hlo, if_neg c_24, if_pos c_38])
    · refine lv_iload_n hx hb dX2_letterBehind_27 rfl (lv_at hl 0 rfl) ?_
      exact z_iretP hx hb hr hlocks dX2_letterBehind_28 (by unfold lbI; rw [hlo, if_pos c_24])
set_option maxHeartbeats 4000000 in
set_option maxRecDepth 100000 in
theorem c_X2_numbered_no (lau : Launch) (G : va_G) (cy : Nat → ClassId) (ad : Nat → Nat) (sz : Nat) (mo : Int) (h1 : -2147483648 ≤ mo ∧ mo < 2147483648) (h2 : ¬ (0 ≤ mo ∧ mo ≤ 4)) : Met lau yX2_numbered wsX2_numbered ({ frames := 0, cells := 0, slots := 0, locals := 0 }) (P2 G cy ad (va_A [] sz) [.int (iZ mo)] (fun H => H.size = sz ∧ va_P G vwCl [] H ∧ va_D (fun _ => True) [])) (Q1 (fun rv H0 H1 => rv = some .null ∧ (True) ∧ va_P G vwCl [] H1 ∧ va_D (va_A [] sz) [] ∧ Fh (va_A [] sz) H0 H1)) 0 0 (va_A [] sz) := by
  refine z_head2 (lv := [(0, .int (iZ mo))]) RX2 (by decide) rfl rfl (Nat.le_of_ble_eq_true rfl) rfl ?_
  intro pr ev s mt below meth cd ls hx hb hr hlocks hml hown hname hts hKK hEN hP hl
  have hK := hKK.1
  obtain ⟨hsz, hP, hD0⟩ := hP
  subst hsz
  have hD := hD0.self (sz := s.heap.size)
  generalize hAe : va_A [] s.heap.size = A at hD hEN ⊢
  have hA : ∀ q : Nat, s.heap.size ≤ q → A q := fun q h => by rw [← hAe]; exact Or.inr h
  have hS : va_S A s.heap s.heap [] := va_S.rf
  have hP : va_P G vwCl [] s.heap := hP
  refine lv_iload_n hx hb dX2_numbered_0 rfl (lv_at hl 0 rfl) ?_
  have hsw_r : -2147483648 ≤ mo ∧ mo < 2147483648 := (by omega)
  rcases (show mo = 0 ∨ mo = 1 ∨ mo = 2 ∨ mo = 3 ∨ mo = 4 ∨ (mo < 0 ∨ 4 < mo) by omega) with hsw | hsw | hsw | hsw | hsw | hsw
  · exfalso; omega
  · exfalso; omega
  · exfalso; omega
  · exfalso; omega
  · exfalso; omega
  · refine z_tabOut (tgt := 56) hx hb dX2_numbered_1 (by omega) (by omega) (by decide) ?_
    refine lv_null hx hb dX2_numbered_56 ?_
    exact z_aretE hx hb hr (Or.inl ⟨_, rfl⟩) hlocks dX2_numbered_57 (Or.inl rfl) hS.2.2 ⟨(show 0 ≤ 0 by omega), (show 0 ≤ 0 by omega)⟩ ⟨(rfl), (trivial), (hP), (hD), Fh.of hS⟩
set_option maxHeartbeats 4000000 in
set_option maxRecDepth 100000 in
theorem c_X2_numbered (lau : Launch) (G : va_G) (cy : Nat → ClassId) (ad : Nat → Nat) (mi : Nat) (sz : Nat) (mo : Int) (hmi : mi < 5) (hmo : mo = (mi : Int)) : Met lau yX2_numbered wsX2_numbered ({ frames := 0, cells := 0, slots := 0, locals := 0 }) (P2 G cy ad (va_A [] sz) [.int (iZ mo)] (fun H => H.size = sz ∧ va_P G vwCl [] H ∧ va_D (fun _ => True) [])) (Q1 (fun rv H0 H1 => rv = some (.ref (ad mi)) ∧ (True) ∧ va_P G vwCl [] H1 ∧ va_D (va_A [] sz) [] ∧ Fh (va_A [] sz) H0 H1)) 0 0 (va_A [] sz) := by
  refine z_head2 (lv := [(0, .int (iZ mo))]) RX2 (by decide) rfl rfl (Nat.le_of_ble_eq_true rfl) rfl ?_
  intro pr ev s mt below meth cd ls hx hb hr hlocks hml hown hname hts hKK hEN hP hl
  have hK := hKK.1
  obtain ⟨hsz, hP, hD0⟩ := hP
  subst hsz
  have hD := hD0.self (sz := s.heap.size)
  generalize hAe : va_A [] s.heap.size = A at hD hEN ⊢
  have hA : ∀ q : Nat, s.heap.size ≤ q → A q := fun q h => by rw [← hAe]; exact Or.inr h
  have hS : va_S A s.heap s.heap [] := va_S.rf
  have hP : va_P G vwCl [] s.heap := hP
  refine lv_iload_n hx hb dX2_numbered_0 rfl (lv_at hl 0 rfl) ?_
  have hsw_r : -2147483648 ≤ mo ∧ mo < 2147483648 := (by omega)
  rcases (show mo = 0 ∨ mo = 1 ∨ mo = 2 ∨ mo = 3 ∨ mo = 4 ∨ (mo < 0 ∨ 4 < mo) by omega) with hsw | hsw | hsw | hsw | hsw | hsw
  · refine z_tabIn (tgt := 36) (i := 0) hx hb dX2_numbered_1 (by omega) (by omega) (by omega) rfl (by decide) ?_
    refine va_gets (v := .ref (ad 0)) hx hb (hEN.1 0 (by decide)).1 hS hown (hts (.fieldLink RX2 5 "SturmianWords$Morphism" "EXCHANGE" "LSturmianWords$Morphism;") (by decide +kernel)) (fun _ h9 => h9) dX2_numbered_36 ?_
    exact z_aretE hx hb hr (Or.inl ⟨_, rfl⟩) hlocks dX2_numbered_39 (Or.inr ⟨_, rfl⟩) hS.2.2 ⟨(show 0 ≤ 0 by omega), (show 0 ≤ 0 by omega)⟩ ⟨(by rw [show mi = 0 by omega]), (trivial), (hP), (hD), Fh.of hS⟩
  · refine z_tabIn (tgt := 40) (i := 1) hx hb dX2_numbered_1 (by omega) (by omega) (by omega) rfl (by decide) ?_
    refine va_gets (v := .ref (ad 1)) hx hb (hEN.1 1 (by decide)).1 hS hown (hts (.fieldLink RX2 9 "SturmianWords$Morphism" "ZERO_TO_01" "LSturmianWords$Morphism;") (by decide +kernel)) (fun _ h9 => h9) dX2_numbered_40 ?_
    exact z_aretE hx hb hr (Or.inl ⟨_, rfl⟩) hlocks dX2_numbered_43 (Or.inr ⟨_, rfl⟩) hS.2.2 ⟨(show 0 ≤ 0 by omega), (show 0 ≤ 0 by omega)⟩ ⟨(by rw [show mi = 1 by omega]), (trivial), (hP), (hD), Fh.of hS⟩
  · refine z_tabIn (tgt := 44) (i := 2) hx hb dX2_numbered_1 (by omega) (by omega) (by omega) rfl (by decide) ?_
    refine va_gets (v := .ref (ad 2)) hx hb (hEN.1 2 (by decide)).1 hS hown (hts (.fieldLink RX2 12 "SturmianWords$Morphism" "ZERO_TO_10" "LSturmianWords$Morphism;") (by decide +kernel)) (fun _ h9 => h9) dX2_numbered_44 ?_
    exact z_aretE hx hb hr (Or.inl ⟨_, rfl⟩) hlocks dX2_numbered_47 (Or.inr ⟨_, rfl⟩) hS.2.2 ⟨(show 0 ≤ 0 by omega), (show 0 ≤ 0 by omega)⟩ ⟨(by rw [show mi = 2 by omega]), (trivial), (hP), (hD), Fh.of hS⟩
  · refine z_tabIn (tgt := 48) (i := 3) hx hb dX2_numbered_1 (by omega) (by omega) (by omega) rfl (by decide) ?_
    refine va_gets (v := .ref (ad 3)) hx hb (hEN.1 3 (by decide)).1 hS hown (hts (.fieldLink RX2 15 "SturmianWords$Morphism" "ONE_TO_01" "LSturmianWords$Morphism;") (by decide +kernel)) (fun _ h9 => h9) dX2_numbered_48 ?_
    exact z_aretE hx hb hr (Or.inl ⟨_, rfl⟩) hlocks dX2_numbered_51 (Or.inr ⟨_, rfl⟩) hS.2.2 ⟨(show 0 ≤ 0 by omega), (show 0 ≤ 0 by omega)⟩ ⟨(by rw [show mi = 3 by omega]), (trivial), (hP), (hD), Fh.of hS⟩
  · refine z_tabIn (tgt := 52) (i := 4) hx hb dX2_numbered_1 (by omega) (by omega) (by omega) rfl (by decide) ?_
    refine va_gets (v := .ref (ad 4)) hx hb (hEN.1 4 (by decide)).1 hS hown (hts (.fieldLink RX2 18 "SturmianWords$Morphism" "ONE_TO_10" "LSturmianWords$Morphism;") (by decide +kernel)) (fun _ h9 => h9) dX2_numbered_52 ?_
    exact z_aretE hx hb hr (Or.inl ⟨_, rfl⟩) hlocks dX2_numbered_55 (Or.inr ⟨_, rfl⟩) hS.2.2 ⟨(show 0 ≤ 0 by omega), (show 0 ≤ 0 by omega)⟩ ⟨(by rw [show mi = 4 by omega]), (trivial), (hP), (hD), Fh.of hS⟩
  · exfalso; omega
set_option maxHeartbeats 4000000 in
set_option maxRecDepth 100000 in
theorem c_X2_imageOf (lau : Launch) (G : va_G) (cy : Nat → ClassId) (ad : Nat → Nat) (mi : Nat) (h1 : Nat) (sz : Nat) (b n : Int) (hmi : mi < 5) (hn : 0 ≤ n ∧ n ≤ 60) (hw : 0 ≤ b ∧ b < pw n) (h3 : (imI (mi : Int) b n n).2 ≤ 60) : Met lau yX2_imageOf wsX2_imageOf ({ frames := 2, cells := 1, slots := 2, locals := 43 }) (P2 G cy ad (va_A [] sz) [.ref (ad mi), .ref h1] (fun H => H.size = sz ∧ va_P G vwCl [] H ∧ va_D (fun _ => True) [] ∧ va_P G vwCl [(h1, .inr (4, [.long (lZ b), .int (iZ n)]))] H ∧ NA (va_A [] sz) [(h1, .inr (4, [.long (lZ b), .int (iZ n)]))])) (Q1 (fun rv H0 H1 => ∃ (qo : Nat), rv = some (.ref qo) ∧ (True) ∧ va_P G vwCl [(qo, .inr (4, [.long (lZ (imI (mi : Int) b n n).1), .int (iZ (imI (mi : Int) b n n).2)]))] H1 ∧ va_D (va_A [] sz) [(qo, .inr (4, [.long (lZ (imI (mi : Int) b n n).1), .int (iZ (imI (mi : Int) b n n).2)]))] ∧ Fh (va_A [] sz) H0 H1)) 1 2 (va_A [] sz) := by
  refine z_head2 (lv := [(0, .ref (ad mi)), (1, .ref h1)]) RX2 (by decide) rfl rfl (Nat.le_of_ble_eq_true rfl) rfl ?_
  intro pr ev s mt below meth cd ls hx hb hr hlocks hml hown hname hts hKK hEN hP hl
  have hK := hKK.1
  obtain ⟨hsz, hP, hD0, hI0, hIA⟩ := hP
  subst hsz
  have hD := hD0.self (sz := s.heap.size)
  generalize hAe : va_A [] s.heap.size = A at hD hIA hEN ⊢
  have hA : ∀ q : Nat, s.heap.size ≤ q → A q := fun q h => by rw [← hAe]; exact Or.inr h
  have hS : va_S A s.heap s.heap [] := va_S.rf
  have hP : va_P G vwCl [] s.heap := hP
  have hI : va_P G vwCl [(h1, .inr (4, [.long (lZ b), .int (iZ n)]))] s.heap := hI0
  have hp61 := pw_61 hn.2
  refine lv_lconst (v := lZ 0) hx hb dX2_imageOf_0 rfl ?_
  refine lv_lstore_n (lv' := [(2, .long (lZ 0)), (0, .ref (ad mi)), (1, .ref h1)]) hx hb dX2_imageOf_1 rfl hl (by decide) rfl (fun ls hl => ?_)
  refine lv_iconst (v := iZ 0) hx hb dX2_imageOf_2 rfl ?_
  refine lv_istore (lv' := [(4, .int (iZ 0)), (2, .long (lZ 0)), (0, .ref (ad mi)), (1, .ref h1)]) hx hb dX2_imageOf_3 hl (by decide) rfl (fun ls hl => ?_)
  refine lv_iconst (v := iZ 0) hx hb dX2_imageOf_5 rfl ?_
  refine lv_istore (lv' := [(5, .int (iZ 0)), (4, .int (iZ 0)), (2, .long (lZ 0)), (0, .ref (ad mi)), (1, .ref h1)]) hx hb dX2_imageOf_6 hl (by decide) rfl (fun ls hl => ?_)
  refine z_loop3 (nL := 7) (fun (r : Int) (u : Int) (k : Int) => [(0, .ref (ad mi)), (1, .ref h1), (2, .long (lZ r)), (4, .int (iZ u)), (5, .int (iZ k))]) (fun (r : Int) (u : Int) (k : Int) => (0 ≤ k ∧ k ≤ n) ∧ (imI (mi : Int) b n k = (r, u)) ∧ (0 ≤ u ∧ u ≤ 60 ∧ 0 ≤ r ∧ r < pw u)) (fun (r : Int) (u : Int) (k : Int) => n - k) (a1 := 0) (a2 := 0) (a3 := 0) ⟨(by omega), (imI_0 _ _ _), (⟨by decide, by decide, by decide, by show (0 : Int) < 1; decide⟩)⟩ (lv_sub hl [3, 4, 2, 1, 0] rfl) ?_
  rintro r u k ⟨i1, i2, i3⟩ ih_8 ls hl
  refine lv_iload hx hb dX2_imageOf_8 (lv_at hl 4 rfl) ?_
  refine lv_aload_n hx hb dX2_imageOf_10 rfl (lv_at hl 1 rfl) ?_
  refine va_getN (D := G) (ci := 4) (v := .int (iZ n)) (C := RX5) (T := TX5) (N := 2) hx hb hts (by decide +kernel) hown hK hI 0 rfl rfl 1 (by decide) (va_Nw.use rfl (hKK.2 (.fieldLinkNest RX2 53 "SturmianWords$Word" "size" "I" "SturmianWords") (by decide +kernel))) (fun _ h9 => h9) rfl dX2_imageOf_11 ?_
  refine z_icmp_ge (tgt := 68) hx hb dX2_imageOf_14 (by decide) (by omega) (fun c_14 => ?_) (fun c_14 => ?_)
  · rw [show k = n by omega] at i2
    refine va_new (D := G) (ci := 4) (fs := [.long (lZ 0), .int (iZ 0)]) (C := RX5) (T := TX5) (N := 2) hx hb hts (by decide +kernel) tyX5 tyX5_ok hown (hts (.classLink RX2 54 RX5) (by decide +kernel)) (hts (.instantiable RX5 2) (by decide +kernel)) (hts (.initialized RX5) (by decide +kernel)) hK hP hD hS hA rfl (fun j hj => by rcases (show j = 0 ∨ j = 1 by omega) with rfl | rfl <;> rfl) (show 0 + 1 ≤ 1 by omega) (show 0 + 2 ≤ 2 by omega) dX2_imageOf_68 (fun n68_1 H hP hD hS => ?_)
    have hP : va_P G vwCl [(n68_1, .inr (4, [.long (lZ 0), .int (iZ 0)]))] H := hP
    have hD : va_D A [(n68_1, .inr (4, [.long (lZ 0), .int (iZ 0)]))] := hD
    have hI : va_P G vwCl [(h1, .inr (4, [.long (lZ b), .int (iZ n)]))] H := im_keep2 hI0 hIA (Fh.of hS)
    refine lv_dup hx hb dX2_imageOf_71 rfl ?_
    refine lv_lload_n hx hb dX2_imageOf_72 rfl (lv_at hl 2 rfl) ?_
    refine lv_iload hx hb dX2_imageOf_73 (lv_at hl 3 rfl) ?_
    have hPc := hP.sub (ws' := [(n68_1, .inr (4, [.long (lZ 0), .int (iZ 0)]))]) [0] rfl
    have hDc := (hD.sub (ws' := [(n68_1, .inr (4, [.long (lZ 0), .int (iZ 0)]))]) [0] (by decide) rfl).weaken (B := fun _ => True) (fun _ _ _ _ => trivial)
    have hFc := va_free (wc := [(n68_1, .inr (4, [.long (lZ 0), .int (iZ 0)]))]) hD hS hA [0] rfl
    refine z_callE (A := A) (va_runI (As := [.long (lZ r), .int (iZ u)]) (rest := [.ref n68_1]) ⟨hx, hb, hml, hown, hts⟩ (c_X5_init lau G cy n68_1 H.size r u) (cwI 2 hts gX2_imageOf_X5_init rfl rfl rfl (hts (.initialized RX5) (by decide +kernel)) (hts (.methodLink RX2 68 yX5_init) (by decide +kernel)) (hts (.instanceMethod yX5_init) (by decide +kernel)) rfl (by decide +kernel) ⟨Nat.le_of_ble_eq_true rfl, Nat.le_of_ble_eq_true rfl⟩) ⟨P1_blind, P1_mk hKK (⟨rfl, hPc, hDc⟩)⟩ rfl rfl hl.1 rfl (lv_room (Nat.le_of_ble_eq_true rfl)) dX2_imageOf_75 ⟨(show 1 + 0 ≤ 1 by omega), (show 2 + 0 ≤ 2 by omega)⟩) hS.2.2 hFc (fun v H1 locs1 hR hL1 => ?_)
    obtain ⟨rfl, hq75, hP1, hD1, hF1⟩ := hR
    obtain ⟨hP, hD⟩ := va_join (wr := []) (w1 := [(n68_1, .inr (4, [.long (lZ r), .int (iZ u)]))]) hP hD [0] [] rfl rfl (by decide) (by decide) hF1.2 hFc hP1 hD1
    have hS : va_S A s.heap H1 locs1 := Fh.S ((Fh.of hS).tr hF1 (fun q _ h => hFc q h)) hL1
    clear hPc hDc hFc hP1 hD1 hF1 hL1
    generalize H1 = H at hP hS ⊢
    have hP : va_P G vwCl [(n68_1, .inr (4, [.long (lZ r), .int (iZ u)]))] H := hP
    have hD : va_D A [(n68_1, .inr (4, [.long (lZ r), .int (iZ u)]))] := hD
    refine W.eq (g2 := F0 mt 78 ls [.ref n68_1]) rfl ?_
    have hI : va_P G vwCl [(h1, .inr (4, [.long (lZ b), .int (iZ n)]))] H := im_keep2 hI0 hIA (Fh.of hS)
    exact z_aretE hx hb hr (Or.inl ⟨_, rfl⟩) hlocks dX2_imageOf_78 (Or.inr ⟨_, rfl⟩) hS.2.2 ⟨(show 1 ≤ 1 by omega), (show 2 ≤ 2 by omega)⟩ ⟨n68_1, (rfl), (trivial), (by rw [i2]; exact hP), (by rw [i2]; exact hD), Fh.of hS⟩
  · refine lv_aload_n hx hb dX2_imageOf_17 rfl (lv_at hl 1 rfl) ?_
    refine lv_iload hx hb dX2_imageOf_18 (lv_at hl 4 rfl) ?_
    have hlr := ltr_r b n k
    refine z_calli (va_runV (As := [.int (iZ k)]) (rest := []) ⟨hx, hb, hml, hown, hts⟩ (c_X5_letter lau G cy h1 b n k (by first | omega | assumption) (by first | omega | assumption) (by first | omega | assumption)) (cwV 1 hts gX2_imageOf_X5_letter rfl rfl rfl (by decide +kernel) ⟨Nat.le_of_ble_eq_true rfl, Nat.le_of_ble_eq_true rfl⟩) ⟨P1_blind, va_recv hK hI (ci := 4) (q0 := 0) rfl rfl, P1_mk hKK (hI.sub [0] rfl)⟩ rfl rfl hl.1 rfl (lv_room (Nat.le_of_ble_eq_true rfl)) dX2_imageOf_20 ⟨(show 0 + 0 ≤ 1 by omega), (show 0 + 0 ≤ 2 by omega)⟩) ?_
    refine lv_istore (lv' := [(6, .int (iZ (ltr b n k))), (0, .ref (ad mi)), (1, .ref h1), (2, .long (lZ r)), (4, .int (iZ u)), (5, .int (iZ k))]) hx hb dX2_imageOf_23 hl (by decide) rfl (fun ls hl => ?_)
    refine lv_lload_n hx hb dX2_imageOf_25 rfl (lv_at hl 3 rfl) ?_
    refine lv_aload_n hx hb dX2_imageOf_26 rfl (lv_at hl 1 rfl) ?_
    refine lv_iload hx hb dX2_imageOf_27 (lv_at hl 0 rfl) ?_
    refine z_calli (va_runV (As := [.int (iZ (ltr b n k))]) (rest := [.long (lZ r)]) ⟨hx, hb, hml, hown, hts⟩ (c_X2_sizeOf lau G cy ad mi (ltr b n k) (by first | omega | assumption) (by first | omega | assumption)) (cwV 1 hts gX2_imageOf_X2_sizeOf rfl rfl rfl (by decide +kernel) ⟨Nat.le_of_ble_eq_true rfl, Nat.le_of_ble_eq_true rfl⟩) ⟨P2_blind, va_recvE hEN hmi hS, P2_mk hKK (va_En.narrow (va_En.kept hEN hS.2.1) (fun _ z => z.elim)) (trivial)⟩ rfl rfl hl.1 rfl (lv_room (Nat.le_of_ble_eq_true rfl)) dX2_imageOf_29 ⟨(show 0 + 0 ≤ 1 by omega), (show 0 + 0 ≤ 2 by omega)⟩) ?_
    have hmr := mN_r (mi : Int) (ltr b n k)
    have hmb := mB_r (mi : Int) (ltr b n k)
    have hp4 := pw_le (a := mN (mi : Int) (ltr b n k)) (b := 2) (by omega) (by omega)
    have hp5 : pw 2 = 4 := rfl
    have hcr := cat_r (na := u) (nb := mN (mi : Int) (ltr b n k)) i3.1 (by omega) i3.2.2 hmb
    have hp7 := pw_62 (a := u) (by omega)
    have hp8 : pw (u + mN (mi : Int) (ltr b n k)) ≤ 4611686018427387904 := by have e := pw_le (a := u + mN (mi : Int) (ltr b n k)) (b := 62) (by omega) (by omega); have e2 : pw 62 = 4611686018427387904 := rfl; omega
    refine z_lshl hx hb dX2_imageOf_32 (by omega) ?_
    refine lv_aload_n hx hb dX2_imageOf_33 rfl (lv_at hl 1 rfl) ?_
    refine lv_iload hx hb dX2_imageOf_34 (lv_at hl 0 rfl) ?_
    refine z_calli (va_runV (As := [.int (iZ (ltr b n k))]) (rest := [.long (lZ (r * pw (mN (mi : Int) (ltr b n k))))]) ⟨hx, hb, hml, hown, hts⟩ (c_X2_bitsOf lau G cy ad mi (ltr b n k) (by first | omega | assumption) (by first | omega | assumption)) (cwV 1 hts gX2_imageOf_X2_bitsOf rfl rfl rfl (by decide +kernel) ⟨Nat.le_of_ble_eq_true rfl, Nat.le_of_ble_eq_true rfl⟩) ⟨P2_blind, va_recvE hEN hmi hS, P2_mk hKK (va_En.narrow (va_En.kept hEN hS.2.1) (fun _ z => z.elim)) (trivial)⟩ rfl rfl hl.1 rfl (lv_room (Nat.le_of_ble_eq_true rfl)) dX2_imageOf_36 ⟨(show 0 + 0 ≤ 1 by omega), (show 0 + 0 ≤ 2 by omega)⟩) ?_
    refine z_i2l hx hb dX2_imageOf_39 (by omega) ?_
    refine z_lor (k := (mN (mi : Int) (ltr b n k))) hx hb dX2_imageOf_40 (by omega) ?_
    refine lv_lstore_n (lv' := [(2, .long (lZ ((r * pw (mN (mi : Int) (ltr b n k))) + (mB (mi : Int) (ltr b n k))))), (6, .int (iZ (ltr b n k))), (0, .ref (ad mi)), (1, .ref h1), (4, .int (iZ u)), (5, .int (iZ k))]) hx hb dX2_imageOf_41 rfl hl (by decide) rfl (fun ls hl => ?_)
    refine lv_iload hx hb dX2_imageOf_42 (lv_at hl 4 rfl) ?_
    refine lv_aload_n hx hb dX2_imageOf_44 rfl (lv_at hl 2 rfl) ?_
    refine lv_iload hx hb dX2_imageOf_45 (lv_at hl 1 rfl) ?_
    refine z_calli (va_runV (As := [.int (iZ (ltr b n k))]) (rest := [.int (iZ u)]) ⟨hx, hb, hml, hown, hts⟩ (c_X2_sizeOf lau G cy ad mi (ltr b n k) (by first | omega | assumption) (by first | omega | assumption)) (cwV 1 hts gX2_imageOf_X2_sizeOf rfl rfl rfl (by decide +kernel) ⟨Nat.le_of_ble_eq_true rfl, Nat.le_of_ble_eq_true rfl⟩) ⟨P2_blind, va_recvE hEN hmi hS, P2_mk hKK (va_En.narrow (va_En.kept hEN hS.2.1) (fun _ z => z.elim)) (trivial)⟩ rfl rfl hl.1 rfl (lv_room (Nat.le_of_ble_eq_true rfl)) dX2_imageOf_47 ⟨(show 0 + 0 ≤ 1 by omega), (show 0 + 0 ≤ 2 by omega)⟩) ?_
    refine z_iadd hx hb dX2_imageOf_50 ?_
    refine lv_istore (lv' := [(4, .int (iZ (u + (mN (mi : Int) (ltr b n k))))), (2, .long (lZ ((r * pw (mN (mi : Int) (ltr b n k))) + (mB (mi : Int) (ltr b n k))))), (6, .int (iZ (ltr b n k))), (0, .ref (ad mi)), (1, .ref h1), (5, .int (iZ k))]) hx hb dX2_imageOf_51 hl (by decide) rfl (fun ls hl => ?_)
    refine lv_iload hx hb dX2_imageOf_53 (lv_at hl 0 rfl) ?_
    refine lv_bipush (v := iZ 60) hx hb dX2_imageOf_55 (by decide +kernel) ?_
    refine z_icmp_le (tgt := 62) hx hb dX2_imageOf_57 (by decide) (by omega) (fun c_57 => ?_) (fun c_57 => ?_)
    · refine lv_iinc (v := iZ (k + 1)) (lv' := [(5, .int (iZ (k + 1))), (4, .int (iZ (u + (mN (mi : Int) (ltr b n k))))), (2, .long (lZ ((r * pw (mN (mi : Int) (ltr b n k))) + (mB (mi : Int) (ltr b n k))))), (6, .int (iZ (ltr b n k))), (0, .ref (ad mi)), (1, .ref h1)]) hx hb dX2_imageOf_62 hl (k := 5) rfl (iZ_add _ _) (by decide) rfl (fun ls hl => ?_)
      refine lv_goto (tgt := 8) hx hb dX2_imageOf_65 (by decide) ?_
      exact ih_8 ((r * pw (mN (mi : Int) (ltr b n k))) + (mB (mi : Int) (ltr b n k))) (u + (mN (mi : Int) (ltr b n k))) (k + 1) ⟨(by omega), (by rw [imI_s i1.1, i2]), (⟨by omega, by omega, cat_r i3.1 (by omega) i3.2.2 hmb⟩)⟩ ⟨by omega, by omega⟩ _ (lv_sub hl [4, 5, 2, 1, 0] rfl)
    · have e := imI_m (mo := (mi : Int)) (b := b) (n := n) (i := k + 1) (by omega) (show k + 1 ≤ n by omega); rw [imI_s i1.1, i2] at e; have e : u + mN (mi : Int) (ltr b n k) ≤ (imI (mi : Int) b n n).2 := e; omega
set_option maxHeartbeats 4000000 in
set_option maxRecDepth 100000 in
theorem c_X2_imageOf_no (lau : Launch) (G : va_G) (cy : Nat → ClassId) (ad : Nat → Nat) (mi : Nat) (h1 : Nat) (sz : Nat) (b n : Int) (hmi : mi < 5) (hn : 0 ≤ n ∧ n ≤ 60) (hw : 0 ≤ b ∧ b < pw n) (h3 : 60 < (imI (mi : Int) b n n).2) : Met lau yX2_imageOf wsX2_imageOf ({ frames := 2, cells := 1, slots := 2, locals := 43 }) (P2 G cy ad (va_A [] sz) [.ref (ad mi), .ref h1] (fun H => H.size = sz ∧ va_P G vwCl [] H ∧ va_D (fun _ => True) [] ∧ va_P G vwCl [(h1, .inr (4, [.long (lZ b), .int (iZ n)]))] H ∧ NA (va_A [] sz) [(h1, .inr (4, [.long (lZ b), .int (iZ n)]))])) (Q1 (fun rv H0 H1 => rv = some .null ∧ (True) ∧ va_P G vwCl [] H1 ∧ va_D (va_A [] sz) [] ∧ Fh (va_A [] sz) H0 H1)) 1 2 (va_A [] sz) := by
  refine z_head2 (lv := [(0, .ref (ad mi)), (1, .ref h1)]) RX2 (by decide) rfl rfl (Nat.le_of_ble_eq_true rfl) rfl ?_
  intro pr ev s mt below meth cd ls hx hb hr hlocks hml hown hname hts hKK hEN hP hl
  have hK := hKK.1
  obtain ⟨hsz, hP, hD0, hI0, hIA⟩ := hP
  subst hsz
  have hD := hD0.self (sz := s.heap.size)
  generalize hAe : va_A [] s.heap.size = A at hD hIA hEN ⊢
  have hA : ∀ q : Nat, s.heap.size ≤ q → A q := fun q h => by rw [← hAe]; exact Or.inr h
  have hS : va_S A s.heap s.heap [] := va_S.rf
  have hP : va_P G vwCl [] s.heap := hP
  have hI : va_P G vwCl [(h1, .inr (4, [.long (lZ b), .int (iZ n)]))] s.heap := hI0
  have hp61 := pw_61 hn.2
  refine lv_lconst (v := lZ 0) hx hb dX2_imageOf_0 rfl ?_
  refine lv_lstore_n (lv' := [(2, .long (lZ 0)), (0, .ref (ad mi)), (1, .ref h1)]) hx hb dX2_imageOf_1 rfl hl (by decide) rfl (fun ls hl => ?_)
  refine lv_iconst (v := iZ 0) hx hb dX2_imageOf_2 rfl ?_
  refine lv_istore (lv' := [(4, .int (iZ 0)), (2, .long (lZ 0)), (0, .ref (ad mi)), (1, .ref h1)]) hx hb dX2_imageOf_3 hl (by decide) rfl (fun ls hl => ?_)
  refine lv_iconst (v := iZ 0) hx hb dX2_imageOf_5 rfl ?_
  refine lv_istore (lv' := [(5, .int (iZ 0)), (4, .int (iZ 0)), (2, .long (lZ 0)), (0, .ref (ad mi)), (1, .ref h1)]) hx hb dX2_imageOf_6 hl (by decide) rfl (fun ls hl => ?_)
  refine z_loop3 (nL := 7) (fun (r : Int) (u : Int) (k : Int) => [(0, .ref (ad mi)), (1, .ref h1), (2, .long (lZ r)), (4, .int (iZ u)), (5, .int (iZ k))]) (fun (r : Int) (u : Int) (k : Int) => (0 ≤ k ∧ k ≤ n) ∧ (imI (mi : Int) b n k = (r, u)) ∧ (0 ≤ u ∧ u ≤ 60 ∧ 0 ≤ r ∧ r < pw u)) (fun (r : Int) (u : Int) (k : Int) => n - k) (a1 := 0) (a2 := 0) (a3 := 0) ⟨(by omega), (imI_0 _ _ _), (⟨by decide, by decide, by decide, by show (0 : Int) < 1; decide⟩)⟩ (lv_sub hl [3, 4, 2, 1, 0] rfl) ?_
  rintro r u k ⟨i1, i2, i3⟩ ih_8 ls hl
  refine lv_iload hx hb dX2_imageOf_8 (lv_at hl 4 rfl) ?_
  refine lv_aload_n hx hb dX2_imageOf_10 rfl (lv_at hl 1 rfl) ?_
  refine va_getN (D := G) (ci := 4) (v := .int (iZ n)) (C := RX5) (T := TX5) (N := 2) hx hb hts (by decide +kernel) hown hK hI 0 rfl rfl 1 (by decide) (va_Nw.use rfl (hKK.2 (.fieldLinkNest RX2 53 "SturmianWords$Word" "size" "I" "SturmianWords") (by decide +kernel))) (fun _ h9 => h9) rfl dX2_imageOf_11 ?_
  refine z_icmp_ge (tgt := 68) hx hb dX2_imageOf_14 (by decide) (by omega) (fun c_14 => ?_) (fun c_14 => ?_)
  · rw [show k = n by omega] at i2; rw [i2] at h3; have h3 : 60 < u := h3; omega
  · refine lv_aload_n hx hb dX2_imageOf_17 rfl (lv_at hl 1 rfl) ?_
    refine lv_iload hx hb dX2_imageOf_18 (lv_at hl 4 rfl) ?_
    have hlr := ltr_r b n k
    refine z_calli (va_runV (As := [.int (iZ k)]) (rest := []) ⟨hx, hb, hml, hown, hts⟩ (c_X5_letter lau G cy h1 b n k (by first | omega | assumption) (by first | omega | assumption) (by first | omega | assumption)) (cwV 1 hts gX2_imageOf_X5_letter rfl rfl rfl (by decide +kernel) ⟨Nat.le_of_ble_eq_true rfl, Nat.le_of_ble_eq_true rfl⟩) ⟨P1_blind, va_recv hK hI (ci := 4) (q0 := 0) rfl rfl, P1_mk hKK (hI.sub [0] rfl)⟩ rfl rfl hl.1 rfl (lv_room (Nat.le_of_ble_eq_true rfl)) dX2_imageOf_20 ⟨(show 0 + 0 ≤ 1 by omega), (show 0 + 0 ≤ 2 by omega)⟩) ?_
    refine lv_istore (lv' := [(6, .int (iZ (ltr b n k))), (0, .ref (ad mi)), (1, .ref h1), (2, .long (lZ r)), (4, .int (iZ u)), (5, .int (iZ k))]) hx hb dX2_imageOf_23 hl (by decide) rfl (fun ls hl => ?_)
    refine lv_lload_n hx hb dX2_imageOf_25 rfl (lv_at hl 3 rfl) ?_
    refine lv_aload_n hx hb dX2_imageOf_26 rfl (lv_at hl 1 rfl) ?_
    refine lv_iload hx hb dX2_imageOf_27 (lv_at hl 0 rfl) ?_
    refine z_calli (va_runV (As := [.int (iZ (ltr b n k))]) (rest := [.long (lZ r)]) ⟨hx, hb, hml, hown, hts⟩ (c_X2_sizeOf lau G cy ad mi (ltr b n k) (by first | omega | assumption) (by first | omega | assumption)) (cwV 1 hts gX2_imageOf_X2_sizeOf rfl rfl rfl (by decide +kernel) ⟨Nat.le_of_ble_eq_true rfl, Nat.le_of_ble_eq_true rfl⟩) ⟨P2_blind, va_recvE hEN hmi hS, P2_mk hKK (va_En.narrow (va_En.kept hEN hS.2.1) (fun _ z => z.elim)) (trivial)⟩ rfl rfl hl.1 rfl (lv_room (Nat.le_of_ble_eq_true rfl)) dX2_imageOf_29 ⟨(show 0 + 0 ≤ 1 by omega), (show 0 + 0 ≤ 2 by omega)⟩) ?_
    have hmr := mN_r (mi : Int) (ltr b n k)
    have hmb := mB_r (mi : Int) (ltr b n k)
    have hp4 := pw_le (a := mN (mi : Int) (ltr b n k)) (b := 2) (by omega) (by omega)
    have hp5 : pw 2 = 4 := rfl
    have hcr := cat_r (na := u) (nb := mN (mi : Int) (ltr b n k)) i3.1 (by omega) i3.2.2 hmb
    have hp7 := pw_62 (a := u) (by omega)
    have hp8 : pw (u + mN (mi : Int) (ltr b n k)) ≤ 4611686018427387904 := by have e := pw_le (a := u + mN (mi : Int) (ltr b n k)) (b := 62) (by omega) (by omega); have e2 : pw 62 = 4611686018427387904 := rfl; omega
    refine z_lshl hx hb dX2_imageOf_32 (by omega) ?_
    refine lv_aload_n hx hb dX2_imageOf_33 rfl (lv_at hl 1 rfl) ?_
    refine lv_iload hx hb dX2_imageOf_34 (lv_at hl 0 rfl) ?_
    refine z_calli (va_runV (As := [.int (iZ (ltr b n k))]) (rest := [.long (lZ (r * pw (mN (mi : Int) (ltr b n k))))]) ⟨hx, hb, hml, hown, hts⟩ (c_X2_bitsOf lau G cy ad mi (ltr b n k) (by first | omega | assumption) (by first | omega | assumption)) (cwV 1 hts gX2_imageOf_X2_bitsOf rfl rfl rfl (by decide +kernel) ⟨Nat.le_of_ble_eq_true rfl, Nat.le_of_ble_eq_true rfl⟩) ⟨P2_blind, va_recvE hEN hmi hS, P2_mk hKK (va_En.narrow (va_En.kept hEN hS.2.1) (fun _ z => z.elim)) (trivial)⟩ rfl rfl hl.1 rfl (lv_room (Nat.le_of_ble_eq_true rfl)) dX2_imageOf_36 ⟨(show 0 + 0 ≤ 1 by omega), (show 0 + 0 ≤ 2 by omega)⟩) ?_
    refine z_i2l hx hb dX2_imageOf_39 (by omega) ?_
    refine z_lor (k := (mN (mi : Int) (ltr b n k))) hx hb dX2_imageOf_40 (by omega) ?_
    refine lv_lstore_n (lv' := [(2, .long (lZ ((r * pw (mN (mi : Int) (ltr b n k))) + (mB (mi : Int) (ltr b n k))))), (6, .int (iZ (ltr b n k))), (0, .ref (ad mi)), (1, .ref h1), (4, .int (iZ u)), (5, .int (iZ k))]) hx hb dX2_imageOf_41 rfl hl (by decide) rfl (fun ls hl => ?_)
    refine lv_iload hx hb dX2_imageOf_42 (lv_at hl 4 rfl) ?_
    refine lv_aload_n hx hb dX2_imageOf_44 rfl (lv_at hl 2 rfl) ?_
    refine lv_iload hx hb dX2_imageOf_45 (lv_at hl 1 rfl) ?_
    refine z_calli (va_runV (As := [.int (iZ (ltr b n k))]) (rest := [.int (iZ u)]) ⟨hx, hb, hml, hown, hts⟩ (c_X2_sizeOf lau G cy ad mi (ltr b n k) (by first | omega | assumption) (by first | omega | assumption)) (cwV 1 hts gX2_imageOf_X2_sizeOf rfl rfl rfl (by decide +kernel) ⟨Nat.le_of_ble_eq_true rfl, Nat.le_of_ble_eq_true rfl⟩) ⟨P2_blind, va_recvE hEN hmi hS, P2_mk hKK (va_En.narrow (va_En.kept hEN hS.2.1) (fun _ z => z.elim)) (trivial)⟩ rfl rfl hl.1 rfl (lv_room (Nat.le_of_ble_eq_true rfl)) dX2_imageOf_47 ⟨(show 0 + 0 ≤ 1 by omega), (show 0 + 0 ≤ 2 by omega)⟩) ?_
    refine z_iadd hx hb dX2_imageOf_50 ?_
    refine lv_istore (lv' := [(4, .int (iZ (u + (mN (mi : Int) (ltr b n k))))), (2, .long (lZ ((r * pw (mN (mi : Int) (ltr b n k))) + (mB (mi : Int) (ltr b n k))))), (6, .int (iZ (ltr b n k))), (0, .ref (ad mi)), (1, .ref h1), (5, .int (iZ k))]) hx hb dX2_imageOf_51 hl (by decide) rfl (fun ls hl => ?_)
    refine lv_iload hx hb dX2_imageOf_53 (lv_at hl 0 rfl) ?_
    refine lv_bipush (v := iZ 60) hx hb dX2_imageOf_55 (by decide +kernel) ?_
    refine z_icmp_le (tgt := 62) hx hb dX2_imageOf_57 (by decide) (by omega) (fun c_57 => ?_) (fun c_57 => ?_)
    · refine lv_iinc (v := iZ (k + 1)) (lv' := [(5, .int (iZ (k + 1))), (4, .int (iZ (u + (mN (mi : Int) (ltr b n k))))), (2, .long (lZ ((r * pw (mN (mi : Int) (ltr b n k))) + (mB (mi : Int) (ltr b n k))))), (6, .int (iZ (ltr b n k))), (0, .ref (ad mi)), (1, .ref h1)]) hx hb dX2_imageOf_62 hl (k := 5) rfl (iZ_add _ _) (by decide) rfl (fun ls hl => ?_)
      refine lv_goto (tgt := 8) hx hb dX2_imageOf_65 (by decide) ?_
      exact ih_8 ((r * pw (mN (mi : Int) (ltr b n k))) + (mB (mi : Int) (ltr b n k))) (u + (mN (mi : Int) (ltr b n k))) (k + 1) ⟨(by omega), (by rw [imI_s i1.1, i2]), (⟨by omega, by omega, cat_r i3.1 (by omega) i3.2.2 hmb⟩)⟩ ⟨by omega, by omega⟩ _ (lv_sub hl [4, 5, 2, 1, 0] rfl)
    · refine lv_null hx hb dX2_imageOf_60 ?_
      exact z_aretE hx hb hr (Or.inl ⟨_, rfl⟩) hlocks dX2_imageOf_61 (Or.inl rfl) hS.2.2 ⟨(show 0 ≤ 1 by omega), (show 0 ≤ 2 by omega)⟩ ⟨(rfl), (trivial), (hP), (hD), Fh.of hS⟩
set_option maxHeartbeats 4000000 in
set_option maxRecDepth 100000 in
theorem c_X2_originOf (lau : Launch) (G : va_G) (cy : Nat → ClassId) (ad : Nat → Nat) (mi : Nat) (h1 : Nat) (sz : Nat) (b n : Int) (hmi : mi < 5) (hn : 0 ≤ n ∧ n ≤ 60) (hw : 0 ≤ b ∧ b < pw n) (h3 : 0 ≤ (pI (mi : Int) b n 61).1) : Met lau yX2_originOf wsX2_originOf ({ frames := 3, cells := 1, slots := 2, locals := 69 }) (P2 G cy ad (va_A [] sz) [.ref (ad mi), .ref h1] (fun H => H.size = sz ∧ va_P G vwCl [] H ∧ va_D (fun _ => True) [] ∧ va_P G vwCl [(h1, .inr (4, [.long (lZ b), .int (iZ n)]))] H ∧ NA (va_A [] sz) [(h1, .inr (4, [.long (lZ b), .int (iZ n)]))])) (Q1 (fun rv H0 H1 => ∃ (qo : Nat), rv = some (.ref qo) ∧ (True) ∧ va_P G vwCl [(qo, .inr (4, [.long (lZ (pI (mi : Int) b n 61).2.1), .int (iZ (pI (mi : Int) b n 61).2.2)]))] H1 ∧ va_D (va_A [] sz) [(qo, .inr (4, [.long (lZ (pI (mi : Int) b n 61).2.1), .int (iZ (pI (mi : Int) b n 61).2.2)]))] ∧ Fh (va_A [] sz) H0 H1)) 1 2 (va_A [] sz) := by
  refine z_head2 (lv := [(0, .ref (ad mi)), (1, .ref h1)]) RX2 (by decide) rfl rfl (Nat.le_of_ble_eq_true rfl) rfl ?_
  intro pr ev s mt below meth cd ls hx hb hr hlocks hml hown hname hts hKK hEN hP hl
  have hK := hKK.1
  obtain ⟨hsz, hP, hD0, hI0, hIA⟩ := hP
  subst hsz
  have hD := hD0.self (sz := s.heap.size)
  generalize hAe : va_A [] s.heap.size = A at hD hIA hEN ⊢
  have hA : ∀ q : Nat, s.heap.size ≤ q → A q := fun q h => by rw [← hAe]; exact Or.inr h
  have hS : va_S A s.heap s.heap [] := va_S.rf
  have hP : va_P G vwCl [] s.heap := hP
  have hI : va_P G vwCl [(h1, .inr (4, [.long (lZ b), .int (iZ n)]))] s.heap := hI0
  have hp61 := pw_61 hn.2
  refine lv_lconst (v := lZ 0) hx hb dX2_originOf_0 rfl ?_
  refine lv_lstore_n (lv' := [(2, .long (lZ 0)), (0, .ref (ad mi)), (1, .ref h1)]) hx hb dX2_originOf_1 rfl hl (by decide) rfl (fun ls hl => ?_)
  refine lv_iconst (v := iZ 0) hx hb dX2_originOf_2 rfl ?_
  refine lv_istore (lv' := [(4, .int (iZ 0)), (2, .long (lZ 0)), (0, .ref (ad mi)), (1, .ref h1)]) hx hb dX2_originOf_3 hl (by decide) rfl (fun ls hl => ?_)
  refine lv_iconst (v := iZ 0) hx hb dX2_originOf_5 rfl ?_
  refine lv_istore (lv' := [(5, .int (iZ 0)), (4, .int (iZ 0)), (2, .long (lZ 0)), (0, .ref (ad mi)), (1, .ref h1)]) hx hb dX2_originOf_6 hl (by decide) rfl (fun ls hl => ?_)
  refine z_loop4 (nL := 7) (fun (ob : Int) (oc : Int) (x : Int) (k : Int) => [(0, .ref (ad mi)), (1, .ref h1), (2, .long (lZ ob)), (4, .int (iZ oc)), (5, .int (iZ x))]) (fun (ob : Int) (oc : Int) (x : Int) (k : Int) => (pI (mi : Int) b n k = (x, ob, oc)) ∧ ((0 ≤ k ∧ k ≤ x ∧ x ≤ 61 ∧ oc = k) ∧ (0 ≤ ob ∧ ob < pw oc))) (fun (ob : Int) (oc : Int) (x : Int) (k : Int) => 61 - x) (a1 := 0) (a2 := 0) (a3 := 0) (a4 := 0) ⟨(pI_0 _ _ _), (⟨by omega, by decide, by show (0 : Int) < 1; decide⟩)⟩ (lv_sub hl [3, 4, 2, 1, 0] rfl) ?_
  rintro ob oc x k ⟨i1, i2⟩ ih_8 ls hl
  refine lv_iload hx hb dX2_originOf_8 (lv_at hl 4 rfl) ?_
  refine lv_aload_n hx hb dX2_originOf_10 rfl (lv_at hl 1 rfl) ?_
  refine va_getN (D := G) (ci := 4) (v := .int (iZ n)) (C := RX5) (T := TX5) (N := 2) hx hb hts (by decide +kernel) hown hK hI 0 rfl rfl 1 (by decide) (va_Nw.use rfl (hKK.2 (.fieldLinkNest RX2 53 "SturmianWords$Word" "size" "I" "SturmianWords") (by decide +kernel))) (fun _ h9 => h9) rfl dX2_originOf_11 ?_
  refine z_icmp_ge (tgt := 64) hx hb dX2_originOf_14 (by decide) (by omega) (fun c_14 => ?_) (fun c_14 => ?_)
  · have hpe : pI (mi : Int) b n 61 = (x, ob, oc) := (by rw [pI_st (k := k) (j := 61) (by omega) (by rw [i1]; exact Or.inr (by show n ≤ x; omega)) (by omega), i1])
    refine va_new (D := G) (ci := 4) (fs := [.long (lZ 0), .int (iZ 0)]) (C := RX5) (T := TX5) (N := 2) hx hb hts (by decide +kernel) tyX5 tyX5_ok hown (hts (.classLink RX2 54 RX5) (by decide +kernel)) (hts (.instantiable RX5 2) (by decide +kernel)) (hts (.initialized RX5) (by decide +kernel)) hK hP hD hS hA rfl (fun j hj => by rcases (show j = 0 ∨ j = 1 by omega) with rfl | rfl <;> rfl) (show 0 + 1 ≤ 1 by omega) (show 0 + 2 ≤ 2 by omega) dX2_originOf_64 (fun n64_1 H hP hD hS => ?_)
    have hP : va_P G vwCl [(n64_1, .inr (4, [.long (lZ 0), .int (iZ 0)]))] H := hP
    have hD : va_D A [(n64_1, .inr (4, [.long (lZ 0), .int (iZ 0)]))] := hD
    have hI : va_P G vwCl [(h1, .inr (4, [.long (lZ b), .int (iZ n)]))] H := im_keep2 hI0 hIA (Fh.of hS)
    refine lv_dup hx hb dX2_originOf_67 rfl ?_
    refine lv_lload_n hx hb dX2_originOf_68 rfl (lv_at hl 2 rfl) ?_
    refine lv_iload hx hb dX2_originOf_69 (lv_at hl 3 rfl) ?_
    have hPc := hP.sub (ws' := [(n64_1, .inr (4, [.long (lZ 0), .int (iZ 0)]))]) [0] rfl
    have hDc := (hD.sub (ws' := [(n64_1, .inr (4, [.long (lZ 0), .int (iZ 0)]))]) [0] (by decide) rfl).weaken (B := fun _ => True) (fun _ _ _ _ => trivial)
    have hFc := va_free (wc := [(n64_1, .inr (4, [.long (lZ 0), .int (iZ 0)]))]) hD hS hA [0] rfl
    refine z_callE (A := A) (va_runI (As := [.long (lZ ob), .int (iZ oc)]) (rest := [.ref n64_1]) ⟨hx, hb, hml, hown, hts⟩ (c_X5_init lau G cy n64_1 H.size ob oc) (cwI 2 hts gX2_originOf_X5_init rfl rfl rfl (hts (.initialized RX5) (by decide +kernel)) (hts (.methodLink RX2 68 yX5_init) (by decide +kernel)) (hts (.instanceMethod yX5_init) (by decide +kernel)) rfl (by decide +kernel) ⟨Nat.le_of_ble_eq_true rfl, Nat.le_of_ble_eq_true rfl⟩) ⟨P1_blind, P1_mk hKK (⟨rfl, hPc, hDc⟩)⟩ rfl rfl hl.1 rfl (lv_room (Nat.le_of_ble_eq_true rfl)) dX2_originOf_71 ⟨(show 1 + 0 ≤ 1 by omega), (show 2 + 0 ≤ 2 by omega)⟩) hS.2.2 hFc (fun v H1 locs1 hR hL1 => ?_)
    obtain ⟨rfl, hq71, hP1, hD1, hF1⟩ := hR
    obtain ⟨hP, hD⟩ := va_join (wr := []) (w1 := [(n64_1, .inr (4, [.long (lZ ob), .int (iZ oc)]))]) hP hD [0] [] rfl rfl (by decide) (by decide) hF1.2 hFc hP1 hD1
    have hS : va_S A s.heap H1 locs1 := Fh.S ((Fh.of hS).tr hF1 (fun q _ h => hFc q h)) hL1
    clear hPc hDc hFc hP1 hD1 hF1 hL1
    generalize H1 = H at hP hS ⊢
    have hP : va_P G vwCl [(n64_1, .inr (4, [.long (lZ ob), .int (iZ oc)]))] H := hP
    have hD : va_D A [(n64_1, .inr (4, [.long (lZ ob), .int (iZ oc)]))] := hD
    refine W.eq (g2 := F0 mt 74 ls [.ref n64_1]) rfl ?_
    have hI : va_P G vwCl [(h1, .inr (4, [.long (lZ b), .int (iZ n)]))] H := im_keep2 hI0 hIA (Fh.of hS)
    exact z_aretE hx hb hr (Or.inl ⟨_, rfl⟩) hlocks dX2_originOf_74 (Or.inr ⟨_, rfl⟩) hS.2.2 ⟨(show 1 ≤ 1 by omega), (show 2 ≤ 2 by omega)⟩ ⟨n64_1, (rfl), (trivial), (by rw [hpe]; exact hP), (by rw [hpe]; exact hD), Fh.of hS⟩
  · refine lv_aload_n hx hb dX2_originOf_17 rfl (lv_at hl 0 rfl) ?_
    refine lv_aload_n hx hb dX2_originOf_18 rfl (lv_at hl 1 rfl) ?_
    refine lv_iload hx hb dX2_originOf_19 (lv_at hl 4 rfl) ?_
    refine z_calli (va_runV (As := [.ref h1, .int (iZ x)]) (rest := []) ⟨hx, hb, hml, hown, hts⟩ (c_X2_letterBehind lau G cy ad mi h1 b n x (by first | omega | assumption) (by first | omega | assumption) (by first | omega | assumption) (by first | omega | assumption)) (cwV 2 hts gX2_originOf_X2_letterBehind rfl rfl rfl (by decide +kernel) ⟨Nat.le_of_ble_eq_true rfl, Nat.le_of_ble_eq_true rfl⟩) ⟨P2_blind, va_recvE hEN hmi hS, P2_mk hKK (va_En.narrow (va_En.kept hEN hS.2.1) (fun _ z => z.elim)) (hI.sub [0] rfl)⟩ rfl rfl hl.1 rfl (lv_room (Nat.le_of_ble_eq_true rfl)) dX2_originOf_21 ⟨(show 0 + 0 ≤ 1 by omega), (show 0 + 0 ≤ 2 by omega)⟩) ?_
    refine z_tope (fun lt elt => ?_)
    refine lv_istore (lv' := [(6, .int (iZ lt)), (0, .ref (ad mi)), (1, .ref h1), (2, .long (lZ ob)), (4, .int (iZ oc)), (5, .int (iZ x))]) hx hb dX2_originOf_24 hl (by decide) rfl (fun ls hl => ?_)
    have hlb := lbI_r (mi : Int) b n x
    refine lv_iload hx hb dX2_originOf_26 (lv_at hl 0 rfl) ?_
    refine lv_iconst (v := iZ (-1)) hx hb dX2_originOf_28 rfl ?_
    refine z_icmp_ne (tgt := 34) hx hb dX2_originOf_29 (by decide) (by omega) (fun c_29 => ?_) (fun c_29 => ?_)
    · refine lv_lload_n hx hb dX2_originOf_34 rfl (lv_at hl 3 rfl) ?_
      refine lv_iconst (v := iZ 1) hx hb dX2_originOf_35 rfl ?_
      have hpo := pw_61 (k := oc) (by omega)
      refine z_lshl hx hb dX2_originOf_36 (by omega) ?_
      refine lv_iload hx hb dX2_originOf_37 (lv_at hl 0 rfl) ?_
      have hlo : ob * pw 1 = ob * 2 := by rw [pw_1]
      have hp1 : pw 1 = 2 := rfl
      refine z_i2l hx hb dX2_originOf_39 (by omega) ?_
      refine z_lor (k := 1) hx hb dX2_originOf_40 (by omega) ?_
      refine lv_lstore_n (lv' := [(2, .long (lZ ((ob * pw 1) + lt))), (6, .int (iZ lt)), (0, .ref (ad mi)), (1, .ref h1), (4, .int (iZ oc)), (5, .int (iZ x))]) hx hb dX2_originOf_41 rfl hl (by decide) rfl (fun ls hl => ?_)
      refine lv_iinc (v := iZ (oc + 1)) (lv' := [(4, .int (iZ (oc + 1))), (2, .long (lZ ((ob * pw 1) + lt))), (6, .int (iZ lt)), (0, .ref (ad mi)), (1, .ref h1), (5, .int (iZ x))]) hx hb dX2_originOf_42 hl (k := 4) rfl (iZ_add _ _) (by decide) rfl (fun ls hl => ?_)
      refine lv_aload_n hx hb dX2_originOf_45 rfl (lv_at hl 3 rfl) ?_
      refine lv_iload hx hb dX2_originOf_46 (lv_at hl 2 rfl) ?_
      have hmr := mN_r (mi : Int) lt
      refine z_calli (va_runV (As := [.int (iZ lt)]) (rest := []) ⟨hx, hb, hml, hown, hts⟩ (c_X2_sizeOf lau G cy ad mi lt (by first | omega | assumption) (by first | omega | assumption)) (cwV 1 hts gX2_originOf_X2_sizeOf rfl rfl rfl (by decide +kernel) ⟨Nat.le_of_ble_eq_true rfl, Nat.le_of_ble_eq_true rfl⟩) ⟨P2_blind, va_recvE hEN hmi hS, P2_mk hKK (va_En.narrow (va_En.kept hEN hS.2.1) (fun _ z => z.elim)) (trivial)⟩ rfl rfl hl.1 rfl (lv_room (Nat.le_of_ble_eq_true rfl)) dX2_originOf_48 ⟨(show 0 + 0 ≤ 1 by omega), (show 0 + 0 ≤ 2 by omega)⟩) ?_
      refine lv_iconst (v := iZ 2) hx hb dX2_originOf_51 rfl ?_
      refine z_icmp_ne (tgt := 58) hx hb dX2_originOf_52 (by decide) (by omega) (fun c_52 => ?_) (fun c_52 => ?_)
      · refine lv_iinc (v := iZ (x + 1)) (lv' := [(5, .int (iZ (x + 1))), (4, .int (iZ (oc + 1))), (2, .long (lZ ((ob * pw 1) + lt))), (6, .int (iZ lt)), (0, .ref (ad mi)), (1, .ref h1)]) hx hb dX2_originOf_58 hl (k := 5) rfl (iZ_add _ _) (by decide) rfl (fun ls hl => ?_)
        refine lv_goto (tgt := 8) hx hb dX2_originOf_61 (by decide) ?_
        exact ih_8 ((ob * pw 1) + lt) (oc + 1) (x + 1) (k + 1) ⟨(by rw [pI_go (by omega) i1 (by omega) (by rw [← elt]; exact c_29), ← elt, show mN (mi : Int) lt = 1 by omega, show 2 * ob + lt = ob * pw 1 + lt by rw [pw_1]; omega]), (⟨by omega, by rw [pw_s (by omega), show ob * pw 1 = ob * 2 by rw [pw_1]]; omega⟩)⟩ ⟨by omega, by omega⟩ _ (lv_sub hl [4, 5, 2, 1, 0] rfl)
      · refine lv_iinc (v := iZ (x + 1)) (lv' := [(5, .int (iZ (x + 1))), (4, .int (iZ (oc + 1))), (2, .long (lZ ((ob * pw 1) + lt))), (6, .int (iZ lt)), (0, .ref (ad mi)), (1, .ref h1)]) hx hb dX2_originOf_55 hl (k := 5) rfl (iZ_add _ _) (by decide) rfl (fun ls hl => ?_)
        refine lv_iinc (v := iZ ((x + 1) + 1)) (lv' := [(5, .int (iZ ((x + 1) + 1))), (4, .int (iZ (oc + 1))), (2, .long (lZ ((ob * pw 1) + lt))), (6, .int (iZ lt)), (0, .ref (ad mi)), (1, .ref h1)]) hx hb dX2_originOf_58 hl (k := 0) rfl (iZ_add _ _) (by decide) rfl (fun ls hl => ?_)
        refine lv_goto (tgt := 8) hx hb dX2_originOf_61 (by decide) ?_
        exact ih_8 ((ob * pw 1) + lt) (oc + 1) ((x + 1) + 1) (k + 1) ⟨(by rw [pI_go (by omega) i1 (by omega) (by rw [← elt]; exact c_29), ← elt, show mN (mi : Int) lt = 2 by omega, show 2 * ob + lt = ob * pw 1 + lt by rw [pw_1]; omega, show x + 2 = x + 1 + 1 by omega]), (⟨by omega, by rw [pw_s (by omega), show ob * pw 1 = ob * 2 by rw [pw_1]]; omega⟩)⟩ ⟨by omega, by omega⟩ _ (lv_sub hl [4, 5, 2, 1, 0] rfl)
    · exfalso; have hl9 : lbI (mi : Int) b n x = -1 := (by rw [← elt]; exact c_29); have e := pI_st (mo := (mi : Int)) (b := b) (n := n) (k := k + 1) (j := 61) (by omega) (by rw [pI_no (by omega) i1 (by omega) hl9]; exact Or.inl (by decide)) (by omega); rw [pI_no (by omega) i1 (by omega) hl9] at e; rw [e] at h3; exact absurd h3 (by decide)
set_option maxHeartbeats 4000000 in
set_option maxRecDepth 100000 in
theorem c_X2_originOf_no (lau : Launch) (G : va_G) (cy : Nat → ClassId) (ad : Nat → Nat) (mi : Nat) (h1 : Nat) (sz : Nat) (b n : Int) (hmi : mi < 5) (hn : 0 ≤ n ∧ n ≤ 60) (hw : 0 ≤ b ∧ b < pw n) (h3 : (pI (mi : Int) b n 61).1 < 0) : Met lau yX2_originOf wsX2_originOf ({ frames := 3, cells := 1, slots := 2, locals := 69 }) (P2 G cy ad (va_A [] sz) [.ref (ad mi), .ref h1] (fun H => H.size = sz ∧ va_P G vwCl [] H ∧ va_D (fun _ => True) [] ∧ va_P G vwCl [(h1, .inr (4, [.long (lZ b), .int (iZ n)]))] H ∧ NA (va_A [] sz) [(h1, .inr (4, [.long (lZ b), .int (iZ n)]))])) (Q1 (fun rv H0 H1 => rv = some .null ∧ (True) ∧ va_P G vwCl [] H1 ∧ va_D (va_A [] sz) [] ∧ Fh (va_A [] sz) H0 H1)) 1 2 (va_A [] sz) := by
  refine z_head2 (lv := [(0, .ref (ad mi)), (1, .ref h1)]) RX2 (by decide) rfl rfl (Nat.le_of_ble_eq_true rfl) rfl ?_
  intro pr ev s mt below meth cd ls hx hb hr hlocks hml hown hname hts hKK hEN hP hl
  have hK := hKK.1
  obtain ⟨hsz, hP, hD0, hI0, hIA⟩ := hP
  subst hsz
  have hD := hD0.self (sz := s.heap.size)
  generalize hAe : va_A [] s.heap.size = A at hD hIA hEN ⊢
  have hA : ∀ q : Nat, s.heap.size ≤ q → A q := fun q h => by rw [← hAe]; exact Or.inr h
  have hS : va_S A s.heap s.heap [] := va_S.rf
  have hP : va_P G vwCl [] s.heap := hP
  have hI : va_P G vwCl [(h1, .inr (4, [.long (lZ b), .int (iZ n)]))] s.heap := hI0
  have hp61 := pw_61 hn.2
  refine lv_lconst (v := lZ 0) hx hb dX2_originOf_0 rfl ?_
  refine lv_lstore_n (lv' := [(2, .long (lZ 0)), (0, .ref (ad mi)), (1, .ref h1)]) hx hb dX2_originOf_1 rfl hl (by decide) rfl (fun ls hl => ?_)
  refine lv_iconst (v := iZ 0) hx hb dX2_originOf_2 rfl ?_
  refine lv_istore (lv' := [(4, .int (iZ 0)), (2, .long (lZ 0)), (0, .ref (ad mi)), (1, .ref h1)]) hx hb dX2_originOf_3 hl (by decide) rfl (fun ls hl => ?_)
  refine lv_iconst (v := iZ 0) hx hb dX2_originOf_5 rfl ?_
  refine lv_istore (lv' := [(5, .int (iZ 0)), (4, .int (iZ 0)), (2, .long (lZ 0)), (0, .ref (ad mi)), (1, .ref h1)]) hx hb dX2_originOf_6 hl (by decide) rfl (fun ls hl => ?_)
  refine z_loop4 (nL := 7) (fun (ob : Int) (oc : Int) (x : Int) (k : Int) => [(0, .ref (ad mi)), (1, .ref h1), (2, .long (lZ ob)), (4, .int (iZ oc)), (5, .int (iZ x))]) (fun (ob : Int) (oc : Int) (x : Int) (k : Int) => (pI (mi : Int) b n k = (x, ob, oc)) ∧ ((0 ≤ k ∧ k ≤ x ∧ x ≤ 61 ∧ oc = k) ∧ (0 ≤ ob ∧ ob < pw oc))) (fun (ob : Int) (oc : Int) (x : Int) (k : Int) => 61 - x) (a1 := 0) (a2 := 0) (a3 := 0) (a4 := 0) ⟨(pI_0 _ _ _), (⟨by omega, by decide, by show (0 : Int) < 1; decide⟩)⟩ (lv_sub hl [3, 4, 2, 1, 0] rfl) ?_
  rintro ob oc x k ⟨i1, i2⟩ ih_8 ls hl
  refine lv_iload hx hb dX2_originOf_8 (lv_at hl 4 rfl) ?_
  refine lv_aload_n hx hb dX2_originOf_10 rfl (lv_at hl 1 rfl) ?_
  refine va_getN (D := G) (ci := 4) (v := .int (iZ n)) (C := RX5) (T := TX5) (N := 2) hx hb hts (by decide +kernel) hown hK hI 0 rfl rfl 1 (by decide) (va_Nw.use rfl (hKK.2 (.fieldLinkNest RX2 53 "SturmianWords$Word" "size" "I" "SturmianWords") (by decide +kernel))) (fun _ h9 => h9) rfl dX2_originOf_11 ?_
  refine z_icmp_ge (tgt := 64) hx hb dX2_originOf_14 (by decide) (by omega) (fun c_14 => ?_) (fun c_14 => ?_)
  · exfalso; have hpe : pI (mi : Int) b n 61 = (x, ob, oc) := (by rw [pI_st (k := k) (j := 61) (by omega) (by rw [i1]; exact Or.inr (by show n ≤ x; omega)) (by omega), i1]); rw [hpe] at h3; have h3 : x < 0 := h3; omega
  · refine lv_aload_n hx hb dX2_originOf_17 rfl (lv_at hl 0 rfl) ?_
    refine lv_aload_n hx hb dX2_originOf_18 rfl (lv_at hl 1 rfl) ?_
    refine lv_iload hx hb dX2_originOf_19 (lv_at hl 4 rfl) ?_
    refine z_calli (va_runV (As := [.ref h1, .int (iZ x)]) (rest := []) ⟨hx, hb, hml, hown, hts⟩ (c_X2_letterBehind lau G cy ad mi h1 b n x (by first | omega | assumption) (by first | omega | assumption) (by first | omega | assumption) (by first | omega | assumption)) (cwV 2 hts gX2_originOf_X2_letterBehind rfl rfl rfl (by decide +kernel) ⟨Nat.le_of_ble_eq_true rfl, Nat.le_of_ble_eq_true rfl⟩) ⟨P2_blind, va_recvE hEN hmi hS, P2_mk hKK (va_En.narrow (va_En.kept hEN hS.2.1) (fun _ z => z.elim)) (hI.sub [0] rfl)⟩ rfl rfl hl.1 rfl (lv_room (Nat.le_of_ble_eq_true rfl)) dX2_originOf_21 ⟨(show 0 + 0 ≤ 1 by omega), (show 0 + 0 ≤ 2 by omega)⟩) ?_
    refine z_tope (fun lt elt => ?_)
    refine lv_istore (lv' := [(6, .int (iZ lt)), (0, .ref (ad mi)), (1, .ref h1), (2, .long (lZ ob)), (4, .int (iZ oc)), (5, .int (iZ x))]) hx hb dX2_originOf_24 hl (by decide) rfl (fun ls hl => ?_)
    have hlb := lbI_r (mi : Int) b n x
    refine lv_iload hx hb dX2_originOf_26 (lv_at hl 0 rfl) ?_
    refine lv_iconst (v := iZ (-1)) hx hb dX2_originOf_28 rfl ?_
    refine z_icmp_ne (tgt := 34) hx hb dX2_originOf_29 (by decide) (by omega) (fun c_29 => ?_) (fun c_29 => ?_)
    · refine lv_lload_n hx hb dX2_originOf_34 rfl (lv_at hl 3 rfl) ?_
      refine lv_iconst (v := iZ 1) hx hb dX2_originOf_35 rfl ?_
      have hpo := pw_61 (k := oc) (by omega)
      refine z_lshl hx hb dX2_originOf_36 (by omega) ?_
      refine lv_iload hx hb dX2_originOf_37 (lv_at hl 0 rfl) ?_
      have hlo : ob * pw 1 = ob * 2 := by rw [pw_1]
      have hp1 : pw 1 = 2 := rfl
      refine z_i2l hx hb dX2_originOf_39 (by omega) ?_
      refine z_lor (k := 1) hx hb dX2_originOf_40 (by omega) ?_
      refine lv_lstore_n (lv' := [(2, .long (lZ ((ob * pw 1) + lt))), (6, .int (iZ lt)), (0, .ref (ad mi)), (1, .ref h1), (4, .int (iZ oc)), (5, .int (iZ x))]) hx hb dX2_originOf_41 rfl hl (by decide) rfl (fun ls hl => ?_)
      refine lv_iinc (v := iZ (oc + 1)) (lv' := [(4, .int (iZ (oc + 1))), (2, .long (lZ ((ob * pw 1) + lt))), (6, .int (iZ lt)), (0, .ref (ad mi)), (1, .ref h1), (5, .int (iZ x))]) hx hb dX2_originOf_42 hl (k := 4) rfl (iZ_add _ _) (by decide) rfl (fun ls hl => ?_)
      refine lv_aload_n hx hb dX2_originOf_45 rfl (lv_at hl 3 rfl) ?_
      refine lv_iload hx hb dX2_originOf_46 (lv_at hl 2 rfl) ?_
      have hmr := mN_r (mi : Int) lt
      refine z_calli (va_runV (As := [.int (iZ lt)]) (rest := []) ⟨hx, hb, hml, hown, hts⟩ (c_X2_sizeOf lau G cy ad mi lt (by first | omega | assumption) (by first | omega | assumption)) (cwV 1 hts gX2_originOf_X2_sizeOf rfl rfl rfl (by decide +kernel) ⟨Nat.le_of_ble_eq_true rfl, Nat.le_of_ble_eq_true rfl⟩) ⟨P2_blind, va_recvE hEN hmi hS, P2_mk hKK (va_En.narrow (va_En.kept hEN hS.2.1) (fun _ z => z.elim)) (trivial)⟩ rfl rfl hl.1 rfl (lv_room (Nat.le_of_ble_eq_true rfl)) dX2_originOf_48 ⟨(show 0 + 0 ≤ 1 by omega), (show 0 + 0 ≤ 2 by omega)⟩) ?_
      refine lv_iconst (v := iZ 2) hx hb dX2_originOf_51 rfl ?_
      refine z_icmp_ne (tgt := 58) hx hb dX2_originOf_52 (by decide) (by omega) (fun c_52 => ?_) (fun c_52 => ?_)
      · refine lv_iinc (v := iZ (x + 1)) (lv' := [(5, .int (iZ (x + 1))), (4, .int (iZ (oc + 1))), (2, .long (lZ ((ob * pw 1) + lt))), (6, .int (iZ lt)), (0, .ref (ad mi)), (1, .ref h1)]) hx hb dX2_originOf_58 hl (k := 5) rfl (iZ_add _ _) (by decide) rfl (fun ls hl => ?_)
        refine lv_goto (tgt := 8) hx hb dX2_originOf_61 (by decide) ?_
        exact ih_8 ((ob * pw 1) + lt) (oc + 1) (x + 1) (k + 1) ⟨(by rw [pI_go (by omega) i1 (by omega) (by rw [← elt]; exact c_29), ← elt, show mN (mi : Int) lt = 1 by omega, show 2 * ob + lt = ob * pw 1 + lt by rw [pw_1]; omega]), (⟨by omega, by rw [pw_s (by omega), show ob * pw 1 = ob * 2 by rw [pw_1]]; omega⟩)⟩ ⟨by omega, by omega⟩ _ (lv_sub hl [4, 5, 2, 1, 0] rfl)
      · refine lv_iinc (v := iZ (x + 1)) (lv' := [(5, .int (iZ (x + 1))), (4, .int (iZ (oc + 1))), (2, .long (lZ ((ob * pw 1) + lt))), (6, .int (iZ lt)), (0, .ref (ad mi)), (1, .ref h1)]) hx hb dX2_originOf_55 hl (k := 5) rfl (iZ_add _ _) (by decide) rfl (fun ls hl => ?_)
        refine lv_iinc (v := iZ ((x + 1) + 1)) (lv' := [(5, .int (iZ ((x + 1) + 1))), (4, .int (iZ (oc + 1))), (2, .long (lZ ((ob * pw 1) + lt))), (6, .int (iZ lt)), (0, .ref (ad mi)), (1, .ref h1)]) hx hb dX2_originOf_58 hl (k := 0) rfl (iZ_add _ _) (by decide) rfl (fun ls hl => ?_)
        refine lv_goto (tgt := 8) hx hb dX2_originOf_61 (by decide) ?_
        exact ih_8 ((ob * pw 1) + lt) (oc + 1) ((x + 1) + 1) (k + 1) ⟨(by rw [pI_go (by omega) i1 (by omega) (by rw [← elt]; exact c_29), ← elt, show mN (mi : Int) lt = 2 by omega, show 2 * ob + lt = ob * pw 1 + lt by rw [pw_1]; omega, show x + 2 = x + 1 + 1 by omega]), (⟨by omega, by rw [pw_s (by omega), show ob * pw 1 = ob * 2 by rw [pw_1]]; omega⟩)⟩ ⟨by omega, by omega⟩ _ (lv_sub hl [4, 5, 2, 1, 0] rfl)
    · refine lv_null hx hb dX2_originOf_32 ?_
      exact z_aretE hx hb hr (Or.inl ⟨_, rfl⟩) hlocks dX2_originOf_33 (Or.inl rfl) hS.2.2 ⟨(show 0 ≤ 1 by omega), (show 0 ≤ 2 by omega)⟩ ⟨(rfl), (trivial), (hP), (hD), Fh.of hS⟩
set_option maxHeartbeats 4000000 in
set_option maxRecDepth 100000 in
theorem c_X6_applyMorphism_no (lau : Launch) (G : va_G) (cy : Nat → ClassId) (ad : Nat → Nat) (xa hi ci st ra sl wo : Nat) (sz : Nat) (nx kp : Int) (rw9 : Int → Option Nat) (p q c b n : Int) (mo : Int) (h1 : -2147483648 ≤ mo ∧ mo < 2147483648) (h2 : ¬ (0 ≤ mo ∧ mo ≤ 4)) : Met lau yX6_applyMorphism wsX6_applyMorphism ({ frames := 3, cells := 0, slots := 0, locals := 69 }) (P2 G cy ad (va_A [(xa, .inr (5, [.ref hi, .ref ci, .ref st])), (hi, .inr (1, [.ref ra, .int (iZ nx), .int (iZ kp)])), (ra, .inl (cy 2, 6, .inr (.inr (.inr (.inr (qf rw9))))))] sz) [.ref xa, .int (iZ mo)] (fun H => H.size = sz ∧ va_P G vwCl [(xa, .inr (5, [.ref hi, .ref ci, .ref st])), (hi, .inr (1, [.ref ra, .int (iZ nx), .int (iZ kp)])), (ra, .inl (cy 2, 6, .inr (.inr (.inr (.inr (qf rw9))))))] H ∧ va_D (fun _ => True) [(xa, .inr (5, [.ref hi, .ref ci, .ref st])), (hi, .inr (1, [.ref ra, .int (iZ nx), .int (iZ kp)])), (ra, .inl (cy 2, 6, .inr (.inr (.inr (.inr (qf rw9))))))] ∧ va_P G vwCl [(st, .inr (3, [.ref sl, .ref wo])), (sl, .inr (2, [.int (iZ p), .int (iZ q), .int (iZ c)])), (wo, .inr (4, [.long (lZ b), .int (iZ n)]))] H ∧ NA (va_A [(xa, .inr (5, [.ref hi, .ref ci, .ref st])), (hi, .inr (1, [.ref ra, .int (iZ nx), .int (iZ kp)])), (ra, .inl (cy 2, 6, .inr (.inr (.inr (.inr (qf rw9))))))] sz) [(st, .inr (3, [.ref sl, .ref wo])), (sl, .inr (2, [.int (iZ p), .int (iZ q), .int (iZ c)])), (wo, .inr (4, [.long (lZ b), .int (iZ n)]))])) (Q1 (fun rv H0 H1 => rv = some (.int (iZ (-1))) ∧ (True) ∧ va_P G vwCl [(xa, .inr (5, [.ref hi, .ref ci, .ref st])), (hi, .inr (1, [.ref ra, .int (iZ nx), .int (iZ kp)])), (ra, .inl (cy 2, 6, .inr (.inr (.inr (.inr (qf rw9))))))] H1 ∧ va_D (va_A [(xa, .inr (5, [.ref hi, .ref ci, .ref st])), (hi, .inr (1, [.ref ra, .int (iZ nx), .int (iZ kp)])), (ra, .inl (cy 2, 6, .inr (.inr (.inr (.inr (qf rw9))))))] sz) [(xa, .inr (5, [.ref hi, .ref ci, .ref st])), (hi, .inr (1, [.ref ra, .int (iZ nx), .int (iZ kp)])), (ra, .inl (cy 2, 6, .inr (.inr (.inr (.inr (qf rw9))))))] ∧ Fh (va_A [(xa, .inr (5, [.ref hi, .ref ci, .ref st])), (hi, .inr (1, [.ref ra, .int (iZ nx), .int (iZ kp)])), (ra, .inl (cy 2, 6, .inr (.inr (.inr (.inr (qf rw9))))))] sz) H0 H1)) 0 0 (va_A [(xa, .inr (5, [.ref hi, .ref ci, .ref st])), (hi, .inr (1, [.ref ra, .int (iZ nx), .int (iZ kp)])), (ra, .inl (cy 2, 6, .inr (.inr (.inr (.inr (qf rw9))))))] sz) := by
  refine z_head2 (lv := [(0, .ref xa), (1, .int (iZ mo))]) RX6 (by decide) rfl rfl (Nat.le_of_ble_eq_true rfl) rfl ?_
  intro pr ev s mt below meth cd ls hx hb hr hlocks hml hown hname hts hKK hEN hP hl
  have hK := hKK.1
  obtain ⟨hsz, hP, hD0, hI0, hIA⟩ := hP
  subst hsz
  have hD := hD0.self (sz := s.heap.size)
  generalize hAe : va_A [(xa, .inr (5, [.ref hi, .ref ci, .ref st])), (hi, .inr (1, [.ref ra, .int (iZ nx), .int (iZ kp)])), (ra, .inl (cy 2, 6, .inr (.inr (.inr (.inr (qf rw9))))))] s.heap.size = A at hD hIA hEN ⊢
  have hA : ∀ q : Nat, s.heap.size ≤ q → A q := fun q h => by rw [← hAe]; exact Or.inr h
  have hS : va_S A s.heap s.heap [] := va_S.rf
  have hP : va_P G vwCl [(xa, .inr (5, [.ref hi, .ref ci, .ref st])), (hi, .inr (1, [.ref ra, .int (iZ nx), .int (iZ kp)])), (ra, .inl (cy 2, 6, .inr (.inr (.inr (.inr (qf rw9))))))] s.heap := hP
  have hI : va_P G vwCl [(st, .inr (3, [.ref sl, .ref wo])), (sl, .inr (2, [.int (iZ p), .int (iZ q), .int (iZ c)])), (wo, .inr (4, [.long (lZ b), .int (iZ n)]))] s.heap := hI0
  refine lv_iload_n hx hb dX6_applyMorphism_0 rfl (lv_at hl 1 rfl) ?_
  have hPc := hP.sub (ws' := []) [] rfl
  have hDc := (hD.sub (ws' := []) [] (by decide) rfl).weaken (B := fun _ => True) (fun _ _ _ _ => trivial)
  have hFc := va_free (wc := []) hD hS hA [] rfl
  refine z_callE (A := A) (va_runS (As := [.int (iZ mo)]) (rest := []) ⟨hx, hb, hml, hown, hts⟩ (c_X2_numbered_no lau G cy ad s.heap.size mo (by first | omega | assumption) (by first | omega | assumption)) (va_cwS 1 hts gX6_applyMorphism_X2_numbered rfl rfl rfl (by decide +kernel) ⟨Nat.le_of_ble_eq_true rfl, Nat.le_of_ble_eq_true rfl⟩) ⟨P2_blind, P2_mk hKK (va_En.narrow (va_En.kept hEN hS.2.1) hFc) (⟨rfl, hPc, hDc⟩)⟩ rfl rfl hl.1 rfl (lv_room (Nat.le_of_ble_eq_true rfl)) dX6_applyMorphism_1 ⟨(show 0 + 0 ≤ 0 by omega), (show 0 + 0 ≤ 0 by omega)⟩) hS.2.2 hFc (fun v H1 locs1 hR hL1 => ?_)
  obtain ⟨rfl, hq1, hP1, hD1, hF1⟩ := hR
  obtain ⟨hP, hD⟩ := va_join (wr := [(xa, .inr (5, [.ref hi, .ref ci, .ref st])), (hi, .inr (1, [.ref ra, .int (iZ nx), .int (iZ kp)])), (ra, .inl (cy 2, 6, .inr (.inr (.inr (.inr (qf rw9))))))]) (w1 := []) hP hD [] [0, 1, 2] rfl rfl (by decide) (by decide) hF1.2 hFc hP1 hD1
  have hS : va_S A s.heap H1 locs1 := Fh.S ((Fh.of hS).tr hF1 (fun q _ h => hFc q h)) hL1
  clear hPc hDc hFc hP1 hD1 hF1 hL1
  generalize H1 = H at hP hS ⊢
  have hP : va_P G vwCl [(xa, .inr (5, [.ref hi, .ref ci, .ref st])), (hi, .inr (1, [.ref ra, .int (iZ nx), .int (iZ kp)])), (ra, .inl (cy 2, 6, .inr (.inr (.inr (.inr (qf rw9))))))] H := hP
  have hD : va_D A [(xa, .inr (5, [.ref hi, .ref ci, .ref st])), (hi, .inr (1, [.ref ra, .int (iZ nx), .int (iZ kp)])), (ra, .inl (cy 2, 6, .inr (.inr (.inr (.inr (qf rw9))))))] := hD
  have hP := hP.sub (ws' := [(xa, .inr (5, [.ref hi, .ref ci, .ref st])), (hi, .inr (1, [.ref ra, .int (iZ nx), .int (iZ kp)])), (ra, .inl (cy 2, 6, .inr (.inr (.inr (.inr (qf rw9))))))]) [0, 1, 2] rfl
  have hD := hD.sub (ws' := [(xa, .inr (5, [.ref hi, .ref ci, .ref st])), (hi, .inr (1, [.ref ra, .int (iZ nx), .int (iZ kp)])), (ra, .inl (cy 2, 6, .inr (.inr (.inr (.inr (qf rw9))))))]) [0, 1, 2] (by decide) rfl
  refine W.eq (g2 := F0 mt 4 ls [.null]) rfl ?_
  have hI : va_P G vwCl [(st, .inr (3, [.ref sl, .ref wo])), (sl, .inr (2, [.int (iZ p), .int (iZ q), .int (iZ c)])), (wo, .inr (4, [.long (lZ b), .int (iZ n)]))] H := im_keep2 hI0 hIA (Fh.of hS)
  refine lv_astore_nN (lv' := [(2, .null), (0, .ref xa), (1, .int (iZ mo))]) hx hb dX6_applyMorphism_4 rfl hl (by decide) rfl (fun ls hl => ?_)
  refine lv_aload_nN hx hb dX6_applyMorphism_5 rfl (lv_at hl 0 rfl) ?_
  refine lv_ifnonnullN hx hb dX6_applyMorphism_6 ?_
  refine lv_iconst (v := iZ (-1)) hx hb dX6_applyMorphism_9 rfl ?_
  exact z_iretE hx hb hr hlocks dX6_applyMorphism_10 hS.2.2 ⟨(show 0 ≤ 0 by omega), (show 0 ≤ 0 by omega)⟩ ⟨(rfl), (trivial), (hP), (hD), Fh.of hS⟩
set_option maxHeartbeats 4000000 in
set_option maxRecDepth 100000 in
theorem c_X6_applyMorphism_no2 (lau : Launch) (G : va_G) (cy : Nat → ClassId) (ad : Nat → Nat) (mi : Nat) (xa hi ci st ra sl wo : Nat) (sz : Nat) (nx kp : Int) (rw9 : Int → Option Nat) (p q c b n : Int) (mo : Int) (hmi : mi < 5) (hmo : mo = (mi : Int)) (hn : 0 ≤ n ∧ n ≤ 60) (hw : 0 ≤ b ∧ b < pw n) (h3 : 60 < (imI (mi : Int) b n n).2) : Met lau yX6_applyMorphism wsX6_applyMorphism ({ frames := 3, cells := 1, slots := 2, locals := 69 }) (P2 G cy ad (va_A [(xa, .inr (5, [.ref hi, .ref ci, .ref st])), (hi, .inr (1, [.ref ra, .int (iZ nx), .int (iZ kp)])), (ra, .inl (cy 2, 6, .inr (.inr (.inr (.inr (qf rw9))))))] sz) [.ref xa, .int (iZ mo)] (fun H => H.size = sz ∧ va_P G vwCl [(xa, .inr (5, [.ref hi, .ref ci, .ref st])), (hi, .inr (1, [.ref ra, .int (iZ nx), .int (iZ kp)])), (ra, .inl (cy 2, 6, .inr (.inr (.inr (.inr (qf rw9))))))] H ∧ va_D (fun _ => True) [(xa, .inr (5, [.ref hi, .ref ci, .ref st])), (hi, .inr (1, [.ref ra, .int (iZ nx), .int (iZ kp)])), (ra, .inl (cy 2, 6, .inr (.inr (.inr (.inr (qf rw9))))))] ∧ va_P G vwCl [(st, .inr (3, [.ref sl, .ref wo])), (sl, .inr (2, [.int (iZ p), .int (iZ q), .int (iZ c)])), (wo, .inr (4, [.long (lZ b), .int (iZ n)]))] H ∧ NA (va_A [(xa, .inr (5, [.ref hi, .ref ci, .ref st])), (hi, .inr (1, [.ref ra, .int (iZ nx), .int (iZ kp)])), (ra, .inl (cy 2, 6, .inr (.inr (.inr (.inr (qf rw9))))))] sz) [(st, .inr (3, [.ref sl, .ref wo])), (sl, .inr (2, [.int (iZ p), .int (iZ q), .int (iZ c)])), (wo, .inr (4, [.long (lZ b), .int (iZ n)]))])) (Q1 (fun rv H0 H1 => rv = some (.int (iZ (-2))) ∧ (True) ∧ va_P G vwCl [(xa, .inr (5, [.ref hi, .ref ci, .ref st])), (hi, .inr (1, [.ref ra, .int (iZ nx), .int (iZ kp)])), (ra, .inl (cy 2, 6, .inr (.inr (.inr (.inr (qf rw9))))))] H1 ∧ va_D (va_A [(xa, .inr (5, [.ref hi, .ref ci, .ref st])), (hi, .inr (1, [.ref ra, .int (iZ nx), .int (iZ kp)])), (ra, .inl (cy 2, 6, .inr (.inr (.inr (.inr (qf rw9))))))] sz) [(xa, .inr (5, [.ref hi, .ref ci, .ref st])), (hi, .inr (1, [.ref ra, .int (iZ nx), .int (iZ kp)])), (ra, .inl (cy 2, 6, .inr (.inr (.inr (.inr (qf rw9))))))] ∧ Fh (va_A [(xa, .inr (5, [.ref hi, .ref ci, .ref st])), (hi, .inr (1, [.ref ra, .int (iZ nx), .int (iZ kp)])), (ra, .inl (cy 2, 6, .inr (.inr (.inr (.inr (qf rw9))))))] sz) H0 H1)) 1 2 (va_A [(xa, .inr (5, [.ref hi, .ref ci, .ref st])), (hi, .inr (1, [.ref ra, .int (iZ nx), .int (iZ kp)])), (ra, .inl (cy 2, 6, .inr (.inr (.inr (.inr (qf rw9))))))] sz) := by
  refine z_head2 (lv := [(0, .ref xa), (1, .int (iZ mo))]) RX6 (by decide) rfl rfl (Nat.le_of_ble_eq_true rfl) rfl ?_
  intro pr ev s mt below meth cd ls hx hb hr hlocks hml hown hname hts hKK hEN hP hl
  have hK := hKK.1
  obtain ⟨hsz, hP, hD0, hI0, hIA⟩ := hP
  subst hsz
  have hD := hD0.self (sz := s.heap.size)
  generalize hAe : va_A [(xa, .inr (5, [.ref hi, .ref ci, .ref st])), (hi, .inr (1, [.ref ra, .int (iZ nx), .int (iZ kp)])), (ra, .inl (cy 2, 6, .inr (.inr (.inr (.inr (qf rw9))))))] s.heap.size = A at hD hIA hEN ⊢
  have hA : ∀ q : Nat, s.heap.size ≤ q → A q := fun q h => by rw [← hAe]; exact Or.inr h
  have hS : va_S A s.heap s.heap [] := va_S.rf
  have hP : va_P G vwCl [(xa, .inr (5, [.ref hi, .ref ci, .ref st])), (hi, .inr (1, [.ref ra, .int (iZ nx), .int (iZ kp)])), (ra, .inl (cy 2, 6, .inr (.inr (.inr (.inr (qf rw9))))))] s.heap := hP
  have hI : va_P G vwCl [(st, .inr (3, [.ref sl, .ref wo])), (sl, .inr (2, [.int (iZ p), .int (iZ q), .int (iZ c)])), (wo, .inr (4, [.long (lZ b), .int (iZ n)]))] s.heap := hI0
  refine lv_iload_n hx hb dX6_applyMorphism_0 rfl (lv_at hl 1 rfl) ?_
  have hPc := hP.sub (ws' := []) [] rfl
  have hDc := (hD.sub (ws' := []) [] (by decide) rfl).weaken (B := fun _ => True) (fun _ _ _ _ => trivial)
  have hFc := va_free (wc := []) hD hS hA [] rfl
  refine z_callE (A := A) (va_runS (As := [.int (iZ mo)]) (rest := []) ⟨hx, hb, hml, hown, hts⟩ (c_X2_numbered lau G cy ad mi s.heap.size mo (by first | omega | assumption) (by first | omega | assumption)) (va_cwS 1 hts gX6_applyMorphism_X2_numbered rfl rfl rfl (by decide +kernel) ⟨Nat.le_of_ble_eq_true rfl, Nat.le_of_ble_eq_true rfl⟩) ⟨P2_blind, P2_mk hKK (va_En.narrow (va_En.kept hEN hS.2.1) hFc) (⟨rfl, hPc, hDc⟩)⟩ rfl rfl hl.1 rfl (lv_room (Nat.le_of_ble_eq_true rfl)) dX6_applyMorphism_1 ⟨(show 0 + 0 ≤ 1 by omega), (show 0 + 0 ≤ 2 by omega)⟩) hS.2.2 hFc (fun v H1 locs1 hR hL1 => ?_)
  obtain ⟨rfl, hq1, hP1, hD1, hF1⟩ := hR
  obtain ⟨hP, hD⟩ := va_join (wr := [(xa, .inr (5, [.ref hi, .ref ci, .ref st])), (hi, .inr (1, [.ref ra, .int (iZ nx), .int (iZ kp)])), (ra, .inl (cy 2, 6, .inr (.inr (.inr (.inr (qf rw9))))))]) (w1 := []) hP hD [] [0, 1, 2] rfl rfl (by decide) (by decide) hF1.2 hFc hP1 hD1
  have hS : va_S A s.heap H1 locs1 := Fh.S ((Fh.of hS).tr hF1 (fun q _ h => hFc q h)) hL1
  clear hPc hDc hFc hP1 hD1 hF1 hL1
  generalize H1 = H at hP hS ⊢
  have hP : va_P G vwCl [(xa, .inr (5, [.ref hi, .ref ci, .ref st])), (hi, .inr (1, [.ref ra, .int (iZ nx), .int (iZ kp)])), (ra, .inl (cy 2, 6, .inr (.inr (.inr (.inr (qf rw9))))))] H := hP
  have hD : va_D A [(xa, .inr (5, [.ref hi, .ref ci, .ref st])), (hi, .inr (1, [.ref ra, .int (iZ nx), .int (iZ kp)])), (ra, .inl (cy 2, 6, .inr (.inr (.inr (.inr (qf rw9))))))] := hD
  have hP := hP.sub (ws' := [(xa, .inr (5, [.ref hi, .ref ci, .ref st])), (hi, .inr (1, [.ref ra, .int (iZ nx), .int (iZ kp)])), (ra, .inl (cy 2, 6, .inr (.inr (.inr (.inr (qf rw9))))))]) [0, 1, 2] rfl
  have hD := hD.sub (ws' := [(xa, .inr (5, [.ref hi, .ref ci, .ref st])), (hi, .inr (1, [.ref ra, .int (iZ nx), .int (iZ kp)])), (ra, .inl (cy 2, 6, .inr (.inr (.inr (.inr (qf rw9))))))]) [0, 1, 2] (by decide) rfl
  refine W.eq (g2 := F0 mt 4 ls [.ref (ad mi)]) rfl ?_
  have hI : va_P G vwCl [(st, .inr (3, [.ref sl, .ref wo])), (sl, .inr (2, [.int (iZ p), .int (iZ q), .int (iZ c)])), (wo, .inr (4, [.long (lZ b), .int (iZ n)]))] H := im_keep2 hI0 hIA (Fh.of hS)
  refine lv_astore_n (lv' := [(2, .ref (ad mi)), (0, .ref xa), (1, .int (iZ mo))]) hx hb dX6_applyMorphism_4 rfl hl (by decide) rfl (fun ls hl => ?_)
  refine lv_aload_n hx hb dX6_applyMorphism_5 rfl (lv_at hl 0 rfl) ?_
  refine lv_ifnonnull (tgt := 11) hx hb dX6_applyMorphism_6 (by decide) ?_
  refine lv_aload_n hx hb dX6_applyMorphism_11 rfl (lv_at hl 0 rfl) ?_
  refine lv_aload_n hx hb dX6_applyMorphism_12 rfl (lv_at hl 1 rfl) ?_
  refine va_get (D := G) (ci := 5) (v := .ref st) (C := RX6) (T := TX6) (N := 3) hx hb hts (by decide +kernel) hown hK hP 0 rfl rfl 2 (by decide) (hts (.fieldLink RX6 38 "SturmianWords" "state" "LSturmianWords$State;") (by decide +kernel)) (fun _ h9 => h9) rfl dX6_applyMorphism_13 ?_
  refine va_getN (D := G) (ci := 3) (v := .ref wo) (C := RX4) (T := TX4) (N := 2) hx hb hts (by decide +kernel) hown hK hI 0 rfl rfl 1 (by decide) (va_Nw.use rfl (hKK.2 (.fieldLinkNest RX6 96 "SturmianWords$State" "word" "LSturmianWords$Word;" "SturmianWords") (by decide +kernel))) (fun _ h9 => h9) rfl dX6_applyMorphism_16 ?_
  have hPc := hP.sub (ws' := []) [] rfl
  have hDc := (hD.sub (ws' := []) [] (by decide) rfl).weaken (B := fun _ => True) (fun _ _ _ _ => trivial)
  have hFc := va_free (wc := []) hD hS hA [] rfl
  have hIc : va_P G vwCl [(wo, .inr (4, [.long (lZ b), .int (iZ n)]))] H := (hI.sub (ws' := [(wo, .inr (4, [.long (lZ b), .int (iZ n)]))]) [2] rfl)
  have hIAc : NA (va_A [] H.size) [(wo, .inr (4, [.long (lZ b), .int (iZ n)]))] := NA.cons (fun z => hIA.at 2 rfl (hFc _ z)) (NA.nil)
  refine z_callE (A := A) (va_runV (As := [.ref wo]) (rest := []) ⟨hx, hb, hml, hown, hts⟩ (c_X2_imageOf_no lau G cy ad mi wo H.size b n (by first | omega | assumption) (by first | omega | assumption) (by first | omega | assumption) (by first | omega | assumption)) (cwV 1 hts gX6_applyMorphism_X2_imageOf rfl rfl rfl (by decide +kernel) ⟨Nat.le_of_ble_eq_true rfl, Nat.le_of_ble_eq_true rfl⟩) ⟨P2_blind, va_recvE hEN hmi hS, P2_mk hKK (va_En.narrow (va_En.kept hEN hS.2.1) hFc) (⟨rfl, hPc, hDc, hIc, hIAc⟩)⟩ rfl rfl hl.1 rfl (lv_room (Nat.le_of_ble_eq_true rfl)) dX6_applyMorphism_19 ⟨(show 0 + 1 ≤ 1 by omega), (show 0 + 2 ≤ 2 by omega)⟩) hS.2.2 hFc (fun v H1 locs1 hR hL1 => ?_)
  obtain ⟨rfl, hq19, hP1, hD1, hF1⟩ := hR
  obtain ⟨hP, hD⟩ := va_join (wr := [(xa, .inr (5, [.ref hi, .ref ci, .ref st])), (hi, .inr (1, [.ref ra, .int (iZ nx), .int (iZ kp)])), (ra, .inl (cy 2, 6, .inr (.inr (.inr (.inr (qf rw9))))))]) (w1 := []) hP hD [] [0, 1, 2] rfl rfl (by decide) (by decide) hF1.2 hFc hP1 hD1
  have hS : va_S A s.heap H1 locs1 := Fh.S ((Fh.of hS).tr hF1 (fun q _ h => hFc q h)) hL1
  clear hPc hDc hFc hP1 hD1 hF1 hL1 hIc hIAc
  generalize H1 = H at hP hS ⊢
  have hP : va_P G vwCl [(xa, .inr (5, [.ref hi, .ref ci, .ref st])), (hi, .inr (1, [.ref ra, .int (iZ nx), .int (iZ kp)])), (ra, .inl (cy 2, 6, .inr (.inr (.inr (.inr (qf rw9))))))] H := hP
  have hD : va_D A [(xa, .inr (5, [.ref hi, .ref ci, .ref st])), (hi, .inr (1, [.ref ra, .int (iZ nx), .int (iZ kp)])), (ra, .inl (cy 2, 6, .inr (.inr (.inr (.inr (qf rw9))))))] := hD
  have hP := hP.sub (ws' := [(xa, .inr (5, [.ref hi, .ref ci, .ref st])), (hi, .inr (1, [.ref ra, .int (iZ nx), .int (iZ kp)])), (ra, .inl (cy 2, 6, .inr (.inr (.inr (.inr (qf rw9))))))]) [0, 1, 2] rfl
  have hD := hD.sub (ws' := [(xa, .inr (5, [.ref hi, .ref ci, .ref st])), (hi, .inr (1, [.ref ra, .int (iZ nx), .int (iZ kp)])), (ra, .inl (cy 2, 6, .inr (.inr (.inr (.inr (qf rw9))))))]) [0, 1, 2] (by decide) rfl
  refine W.eq (g2 := F0 mt 22 ls [.null]) rfl ?_
  have hI : va_P G vwCl [(st, .inr (3, [.ref sl, .ref wo])), (sl, .inr (2, [.int (iZ p), .int (iZ q), .int (iZ c)])), (wo, .inr (4, [.long (lZ b), .int (iZ n)]))] H := im_keep2 hI0 hIA (Fh.of hS)
  refine lv_astore_nN (lv' := [(3, .null), (2, .ref (ad mi)), (0, .ref xa), (1, .int (iZ mo))]) hx hb dX6_applyMorphism_22 rfl hl (by decide) rfl (fun ls hl => ?_)
  refine lv_aload_nN hx hb dX6_applyMorphism_23 rfl (lv_at hl 0 rfl) ?_
  refine lv_ifnonnullN hx hb dX6_applyMorphism_24 ?_
  refine lv_bipush (v := iZ (-2)) hx hb dX6_applyMorphism_27 (by decide +kernel) ?_
  exact z_iretE hx hb hr hlocks dX6_applyMorphism_29 hS.2.2 ⟨(show 1 ≤ 1 by omega), (show 2 ≤ 2 by omega)⟩ ⟨(rfl), (trivial), (hP), (hD), Fh.of hS⟩
set_option maxHeartbeats 4000000 in
set_option maxRecDepth 100000 in
theorem c_X6_applyMorphism (lau : Launch) (G : va_G) (cy : Nat → ClassId) (ad : Nat → Nat) (mi : Nat) (xa hi ci st ra sl wo : Nat) (sz : Nat) (nx kp : Int) (rw9 : Int → Option Nat) (p q c b n : Int) (mo : Int) (hnx : 0 ≤ nx ∧ nx < 6) (hkp : 0 ≤ kp ∧ kp ≤ 6) (hmi : mi < 5) (hmo : mo = (mi : Int)) (hn : 0 ≤ n ∧ n ≤ 60) (hw : 0 ≤ b ∧ b < pw n) (h3 : (imI (mi : Int) b n n).2 ≤ 60) : Met lau yX6_applyMorphism wsX6_applyMorphism ({ frames := 3, cells := 2, slots := 4, locals := 69 }) (P2 G cy ad (va_A [(xa, .inr (5, [.ref hi, .ref ci, .ref st])), (hi, .inr (1, [.ref ra, .int (iZ nx), .int (iZ kp)])), (ra, .inl (cy 2, 6, .inr (.inr (.inr (.inr (qf rw9))))))] sz) [.ref xa, .int (iZ mo)] (fun H => H.size = sz ∧ va_P G vwCl [(xa, .inr (5, [.ref hi, .ref ci, .ref st])), (hi, .inr (1, [.ref ra, .int (iZ nx), .int (iZ kp)])), (ra, .inl (cy 2, 6, .inr (.inr (.inr (.inr (qf rw9))))))] H ∧ va_D (fun _ => True) [(xa, .inr (5, [.ref hi, .ref ci, .ref st])), (hi, .inr (1, [.ref ra, .int (iZ nx), .int (iZ kp)])), (ra, .inl (cy 2, 6, .inr (.inr (.inr (.inr (qf rw9))))))] ∧ va_P G vwCl [(st, .inr (3, [.ref sl, .ref wo])), (sl, .inr (2, [.int (iZ p), .int (iZ q), .int (iZ c)])), (wo, .inr (4, [.long (lZ b), .int (iZ n)]))] H ∧ NA (va_A [(xa, .inr (5, [.ref hi, .ref ci, .ref st])), (hi, .inr (1, [.ref ra, .int (iZ nx), .int (iZ kp)])), (ra, .inl (cy 2, 6, .inr (.inr (.inr (.inr (qf rw9))))))] sz) [(st, .inr (3, [.ref sl, .ref wo])), (sl, .inr (2, [.int (iZ p), .int (iZ q), .int (iZ c)])), (wo, .inr (4, [.long (lZ b), .int (iZ n)]))])) (Q1 (fun rv H0 H1 => ∃ (ns nq : Nat), rv = some (.int (iZ ((imI (mi : Int) b n n).2))) ∧ (True) ∧ va_P G vwCl [(xa, .inr (5, [.ref hi, .ref ci, .ref ns])), (hi, .inr (1, [.ref ra, .int (iZ (nxF nx)), .int (iZ (kpF kp))])), (ra, .inl (cy 2, 6, .inr (.inr (.inr (.inr (qf (upq rw9 nx (some st)))))))), (ns, .inr (3, [.ref sl, .ref nq])), (nq, .inr (4, [.long (lZ (imI (mi : Int) b n n).1), .int (iZ (imI (mi : Int) b n n).2)]))] H1 ∧ va_D (va_A [(xa, .inr (5, [.ref hi, .ref ci, .ref st])), (hi, .inr (1, [.ref ra, .int (iZ nx), .int (iZ kp)])), (ra, .inl (cy 2, 6, .inr (.inr (.inr (.inr (qf rw9))))))] sz) [(xa, .inr (5, [.ref hi, .ref ci, .ref ns])), (hi, .inr (1, [.ref ra, .int (iZ (nxF nx)), .int (iZ (kpF kp))])), (ra, .inl (cy 2, 6, .inr (.inr (.inr (.inr (qf (upq rw9 nx (some st)))))))), (ns, .inr (3, [.ref sl, .ref nq])), (nq, .inr (4, [.long (lZ (imI (mi : Int) b n n).1), .int (iZ (imI (mi : Int) b n n).2)]))] ∧ Fh (va_A [(xa, .inr (5, [.ref hi, .ref ci, .ref st])), (hi, .inr (1, [.ref ra, .int (iZ nx), .int (iZ kp)])), (ra, .inl (cy 2, 6, .inr (.inr (.inr (.inr (qf rw9))))))] sz) H0 H1)) 2 4 (va_A [(xa, .inr (5, [.ref hi, .ref ci, .ref st])), (hi, .inr (1, [.ref ra, .int (iZ nx), .int (iZ kp)])), (ra, .inl (cy 2, 6, .inr (.inr (.inr (.inr (qf rw9))))))] sz) := by
  refine z_head2 (lv := [(0, .ref xa), (1, .int (iZ mo))]) RX6 (by decide) rfl rfl (Nat.le_of_ble_eq_true rfl) rfl ?_
  intro pr ev s mt below meth cd ls hx hb hr hlocks hml hown hname hts hKK hEN hP hl
  have hK := hKK.1
  obtain ⟨hsz, hP, hD0, hI0, hIA⟩ := hP
  subst hsz
  have hD := hD0.self (sz := s.heap.size)
  generalize hAe : va_A [(xa, .inr (5, [.ref hi, .ref ci, .ref st])), (hi, .inr (1, [.ref ra, .int (iZ nx), .int (iZ kp)])), (ra, .inl (cy 2, 6, .inr (.inr (.inr (.inr (qf rw9))))))] s.heap.size = A at hD hIA hEN ⊢
  have hA : ∀ q : Nat, s.heap.size ≤ q → A q := fun q h => by rw [← hAe]; exact Or.inr h
  have hS : va_S A s.heap s.heap [] := va_S.rf
  have hP : va_P G vwCl [(xa, .inr (5, [.ref hi, .ref ci, .ref st])), (hi, .inr (1, [.ref ra, .int (iZ nx), .int (iZ kp)])), (ra, .inl (cy 2, 6, .inr (.inr (.inr (.inr (qf rw9))))))] s.heap := hP
  have hI : va_P G vwCl [(st, .inr (3, [.ref sl, .ref wo])), (sl, .inr (2, [.int (iZ p), .int (iZ q), .int (iZ c)])), (wo, .inr (4, [.long (lZ b), .int (iZ n)]))] s.heap := hI0
  refine lv_iload_n hx hb dX6_applyMorphism_0 rfl (lv_at hl 1 rfl) ?_
  have hPc := hP.sub (ws' := []) [] rfl
  have hDc := (hD.sub (ws' := []) [] (by decide) rfl).weaken (B := fun _ => True) (fun _ _ _ _ => trivial)
  have hFc := va_free (wc := []) hD hS hA [] rfl
  refine z_callE (A := A) (va_runS (As := [.int (iZ mo)]) (rest := []) ⟨hx, hb, hml, hown, hts⟩ (c_X2_numbered lau G cy ad mi s.heap.size mo (by first | omega | assumption) (by first | omega | assumption)) (va_cwS 1 hts gX6_applyMorphism_X2_numbered rfl rfl rfl (by decide +kernel) ⟨Nat.le_of_ble_eq_true rfl, Nat.le_of_ble_eq_true rfl⟩) ⟨P2_blind, P2_mk hKK (va_En.narrow (va_En.kept hEN hS.2.1) hFc) (⟨rfl, hPc, hDc⟩)⟩ rfl rfl hl.1 rfl (lv_room (Nat.le_of_ble_eq_true rfl)) dX6_applyMorphism_1 ⟨(show 0 + 0 ≤ 2 by omega), (show 0 + 0 ≤ 4 by omega)⟩) hS.2.2 hFc (fun v H1 locs1 hR hL1 => ?_)
  obtain ⟨rfl, hq1, hP1, hD1, hF1⟩ := hR
  obtain ⟨hP, hD⟩ := va_join (wr := [(xa, .inr (5, [.ref hi, .ref ci, .ref st])), (hi, .inr (1, [.ref ra, .int (iZ nx), .int (iZ kp)])), (ra, .inl (cy 2, 6, .inr (.inr (.inr (.inr (qf rw9))))))]) (w1 := []) hP hD [] [0, 1, 2] rfl rfl (by decide) (by decide) hF1.2 hFc hP1 hD1
  have hS : va_S A s.heap H1 locs1 := Fh.S ((Fh.of hS).tr hF1 (fun q _ h => hFc q h)) hL1
  clear hPc hDc hFc hP1 hD1 hF1 hL1
  generalize H1 = H at hP hS ⊢
  have hP : va_P G vwCl [(xa, .inr (5, [.ref hi, .ref ci, .ref st])), (hi, .inr (1, [.ref ra, .int (iZ nx), .int (iZ kp)])), (ra, .inl (cy 2, 6, .inr (.inr (.inr (.inr (qf rw9))))))] H := hP
  have hD : va_D A [(xa, .inr (5, [.ref hi, .ref ci, .ref st])), (hi, .inr (1, [.ref ra, .int (iZ nx), .int (iZ kp)])), (ra, .inl (cy 2, 6, .inr (.inr (.inr (.inr (qf rw9))))))] := hD
  have hP := hP.sub (ws' := [(xa, .inr (5, [.ref hi, .ref ci, .ref st])), (hi, .inr (1, [.ref ra, .int (iZ nx), .int (iZ kp)])), (ra, .inl (cy 2, 6, .inr (.inr (.inr (.inr (qf rw9))))))]) [0, 1, 2] rfl
  have hD := hD.sub (ws' := [(xa, .inr (5, [.ref hi, .ref ci, .ref st])), (hi, .inr (1, [.ref ra, .int (iZ nx), .int (iZ kp)])), (ra, .inl (cy 2, 6, .inr (.inr (.inr (.inr (qf rw9))))))]) [0, 1, 2] (by decide) rfl
  refine W.eq (g2 := F0 mt 4 ls [.ref (ad mi)]) rfl ?_
  have hI : va_P G vwCl [(st, .inr (3, [.ref sl, .ref wo])), (sl, .inr (2, [.int (iZ p), .int (iZ q), .int (iZ c)])), (wo, .inr (4, [.long (lZ b), .int (iZ n)]))] H := im_keep2 hI0 hIA (Fh.of hS)
  refine lv_astore_n (lv' := [(2, .ref (ad mi)), (0, .ref xa), (1, .int (iZ mo))]) hx hb dX6_applyMorphism_4 rfl hl (by decide) rfl (fun ls hl => ?_)
  refine lv_aload_n hx hb dX6_applyMorphism_5 rfl (lv_at hl 0 rfl) ?_
  refine lv_ifnonnull (tgt := 11) hx hb dX6_applyMorphism_6 (by decide) ?_
  refine lv_aload_n hx hb dX6_applyMorphism_11 rfl (lv_at hl 0 rfl) ?_
  refine lv_aload_n hx hb dX6_applyMorphism_12 rfl (lv_at hl 1 rfl) ?_
  refine va_get (D := G) (ci := 5) (v := .ref st) (C := RX6) (T := TX6) (N := 3) hx hb hts (by decide +kernel) hown hK hP 0 rfl rfl 2 (by decide) (hts (.fieldLink RX6 38 "SturmianWords" "state" "LSturmianWords$State;") (by decide +kernel)) (fun _ h9 => h9) rfl dX6_applyMorphism_13 ?_
  refine va_getN (D := G) (ci := 3) (v := .ref wo) (C := RX4) (T := TX4) (N := 2) hx hb hts (by decide +kernel) hown hK hI 0 rfl rfl 1 (by decide) (va_Nw.use rfl (hKK.2 (.fieldLinkNest RX6 96 "SturmianWords$State" "word" "LSturmianWords$Word;" "SturmianWords") (by decide +kernel))) (fun _ h9 => h9) rfl dX6_applyMorphism_16 ?_
  have hPc := hP.sub (ws' := []) [] rfl
  have hDc := (hD.sub (ws' := []) [] (by decide) rfl).weaken (B := fun _ => True) (fun _ _ _ _ => trivial)
  have hFc := va_free (wc := []) hD hS hA [] rfl
  have hIc : va_P G vwCl [(wo, .inr (4, [.long (lZ b), .int (iZ n)]))] H := (hI.sub (ws' := [(wo, .inr (4, [.long (lZ b), .int (iZ n)]))]) [2] rfl)
  have hIAc : NA (va_A [] H.size) [(wo, .inr (4, [.long (lZ b), .int (iZ n)]))] := NA.cons (fun z => hIA.at 2 rfl (hFc _ z)) (NA.nil)
  refine z_callE (A := A) (va_runV (As := [.ref wo]) (rest := []) ⟨hx, hb, hml, hown, hts⟩ (c_X2_imageOf lau G cy ad mi wo H.size b n (by first | omega | assumption) (by first | omega | assumption) (by first | omega | assumption) (by first | omega | assumption)) (cwV 1 hts gX6_applyMorphism_X2_imageOf rfl rfl rfl (by decide +kernel) ⟨Nat.le_of_ble_eq_true rfl, Nat.le_of_ble_eq_true rfl⟩) ⟨P2_blind, va_recvE hEN hmi hS, P2_mk hKK (va_En.narrow (va_En.kept hEN hS.2.1) hFc) (⟨rfl, hPc, hDc, hIc, hIAc⟩)⟩ rfl rfl hl.1 rfl (lv_room (Nat.le_of_ble_eq_true rfl)) dX6_applyMorphism_19 ⟨(show 0 + 1 ≤ 2 by omega), (show 0 + 2 ≤ 4 by omega)⟩) hS.2.2 hFc (fun v H1 locs1 hR hL1 => ?_)
  obtain ⟨qo_19, rfl, hq19, hP1, hD1, hF1⟩ := hR
  obtain ⟨hP, hD⟩ := va_join (wr := [(xa, .inr (5, [.ref hi, .ref ci, .ref st])), (hi, .inr (1, [.ref ra, .int (iZ nx), .int (iZ kp)])), (ra, .inl (cy 2, 6, .inr (.inr (.inr (.inr (qf rw9))))))]) (w1 := [(qo_19, .inr (4, [.long (lZ (imI (mi : Int) b n n).1), .int (iZ (imI (mi : Int) b n n).2)]))]) hP hD [] [0, 1, 2] rfl rfl (by decide) (by decide) hF1.2 hFc hP1 hD1
  have hS : va_S A s.heap H1 locs1 := Fh.S ((Fh.of hS).tr hF1 (fun q _ h => hFc q h)) hL1
  clear hPc hDc hFc hP1 hD1 hF1 hL1 hIc hIAc
  generalize H1 = H at hP hS ⊢
  have hP : va_P G vwCl [(xa, .inr (5, [.ref hi, .ref ci, .ref st])), (hi, .inr (1, [.ref ra, .int (iZ nx), .int (iZ kp)])), (ra, .inl (cy 2, 6, .inr (.inr (.inr (.inr (qf rw9)))))), (qo_19, .inr (4, [.long (lZ (imI (mi : Int) b n n).1), .int (iZ (imI (mi : Int) b n n).2)]))] H := hP
  have hD : va_D A [(xa, .inr (5, [.ref hi, .ref ci, .ref st])), (hi, .inr (1, [.ref ra, .int (iZ nx), .int (iZ kp)])), (ra, .inl (cy 2, 6, .inr (.inr (.inr (.inr (qf rw9)))))), (qo_19, .inr (4, [.long (lZ (imI (mi : Int) b n n).1), .int (iZ (imI (mi : Int) b n n).2)]))] := hD
  refine W.eq (g2 := F0 mt 22 ls [.ref qo_19]) rfl ?_
  have hI : va_P G vwCl [(st, .inr (3, [.ref sl, .ref wo])), (sl, .inr (2, [.int (iZ p), .int (iZ q), .int (iZ c)])), (wo, .inr (4, [.long (lZ b), .int (iZ n)]))] H := im_keep2 hI0 hIA (Fh.of hS)
  refine lv_astore_n (lv' := [(3, .ref qo_19), (2, .ref (ad mi)), (0, .ref xa), (1, .int (iZ mo))]) hx hb dX6_applyMorphism_22 rfl hl (by decide) rfl (fun ls hl => ?_)
  refine lv_aload_n hx hb dX6_applyMorphism_23 rfl (lv_at hl 0 rfl) ?_
  refine lv_ifnonnull (tgt := 30) hx hb dX6_applyMorphism_24 (by decide) ?_
  refine lv_aload_n hx hb dX6_applyMorphism_30 rfl (lv_at hl 2 rfl) ?_
  refine lv_aload_n hx hb dX6_applyMorphism_31 rfl (lv_at hl 0 rfl) ?_
  have hPc := hP.sub (ws' := [(xa, .inr (5, [.ref hi, .ref ci, .ref st])), (hi, .inr (1, [.ref ra, .int (iZ nx), .int (iZ kp)])), (ra, .inl (cy 2, 6, .inr (.inr (.inr (.inr (qf rw9))))))]) [0, 1, 2] rfl
  have hDc := (hD.sub (ws' := [(xa, .inr (5, [.ref hi, .ref ci, .ref st])), (hi, .inr (1, [.ref ra, .int (iZ nx), .int (iZ kp)])), (ra, .inl (cy 2, 6, .inr (.inr (.inr (.inr (qf rw9))))))]) [0, 1, 2] (by decide) rfl).weaken (B := fun _ => True) (fun _ _ _ _ => trivial)
  have hFc := va_free (wc := [(xa, .inr (5, [.ref hi, .ref ci, .ref st])), (hi, .inr (1, [.ref ra, .int (iZ nx), .int (iZ kp)])), (ra, .inl (cy 2, 6, .inr (.inr (.inr (.inr (qf rw9))))))]) hD hS hA [0, 1, 2] rfl
  have hIc : va_P G vwCl [(st, .inr (3, [.ref sl, .ref wo]))] H := (hI.sub (ws' := [(st, .inr (3, [.ref sl, .ref wo]))]) [0] rfl)
  have hIAc : NA (va_A [(xa, .inr (5, [.ref hi, .ref ci, .ref st])), (hi, .inr (1, [.ref ra, .int (iZ nx), .int (iZ kp)])), (ra, .inl (cy 2, 6, .inr (.inr (.inr (.inr (qf rw9))))))] H.size) [(st, .inr (3, [.ref sl, .ref wo]))] := NA.cons (fun z => hIA.at 0 rfl (hFc _ z)) (NA.nil)
  refine z_callE (A := A) (va_runV (As := [.ref qo_19]) (rest := []) ⟨hx, hb, hml, hown, hts⟩ (c_X6_changeWord lau G cy xa hi ci st ra sl wo qo_19 H.size nx kp rw9 (by first | omega | assumption) (by first | omega | assumption)) (cwV 1 hts gX6_applyMorphism_X6_changeWord rfl rfl rfl (by decide +kernel) ⟨Nat.le_of_ble_eq_true rfl, Nat.le_of_ble_eq_true rfl⟩) ⟨P1_blind, va_recv hK hP (ci := 5) (q0 := 0) rfl rfl, P1_mk hKK (⟨rfl, hPc, hDc, hIc, hIAc⟩)⟩ rfl rfl hl.1 rfl (lv_room (Nat.le_of_ble_eq_true rfl)) dX6_applyMorphism_32 ⟨(show 1 + 1 ≤ 2 by omega), (show 2 + 2 ≤ 4 by omega)⟩) hS.2.2 hFc (fun v H1 locs1 hR hL1 => ?_)
  obtain ⟨ns_32, rfl, hq32, hP1, hD1, hF1⟩ := hR
  obtain ⟨hP, hD⟩ := va_join (wr := [(qo_19, .inr (4, [.long (lZ (imI (mi : Int) b n n).1), .int (iZ (imI (mi : Int) b n n).2)]))]) (w1 := [(xa, .inr (5, [.ref hi, .ref ci, .ref ns_32])), (hi, .inr (1, [.ref ra, .int (iZ (nxF nx)), .int (iZ (kpF kp))])), (ra, .inl (cy 2, 6, .inr (.inr (.inr (.inr (qf (upq rw9 nx (some st)))))))), (ns_32, .inr (3, [.ref sl, .ref qo_19]))]) hP hD [0, 1, 2] [3] rfl rfl (by decide) (by decide) hF1.2 hFc hP1 hD1
  have hS : va_S A s.heap H1 locs1 := Fh.S ((Fh.of hS).tr hF1 (fun q _ h => hFc q h)) hL1
  clear hPc hDc hFc hP1 hD1 hF1 hL1 hIc hIAc
  generalize H1 = H at hP hS ⊢
  have hP : va_P G vwCl [(qo_19, .inr (4, [.long (lZ (imI (mi : Int) b n n).1), .int (iZ (imI (mi : Int) b n n).2)])), (xa, .inr (5, [.ref hi, .ref ci, .ref ns_32])), (hi, .inr (1, [.ref ra, .int (iZ (nxF nx)), .int (iZ (kpF kp))])), (ra, .inl (cy 2, 6, .inr (.inr (.inr (.inr (qf (upq rw9 nx (some st)))))))), (ns_32, .inr (3, [.ref sl, .ref qo_19]))] H := hP
  have hD : va_D A [(qo_19, .inr (4, [.long (lZ (imI (mi : Int) b n n).1), .int (iZ (imI (mi : Int) b n n).2)])), (xa, .inr (5, [.ref hi, .ref ci, .ref ns_32])), (hi, .inr (1, [.ref ra, .int (iZ (nxF nx)), .int (iZ (kpF kp))])), (ra, .inl (cy 2, 6, .inr (.inr (.inr (.inr (qf (upq rw9 nx (some st)))))))), (ns_32, .inr (3, [.ref sl, .ref qo_19]))] := hD
  refine W.eq (g2 := F0 mt 35 ls []) rfl ?_
  have hI : va_P G vwCl [(st, .inr (3, [.ref sl, .ref wo])), (sl, .inr (2, [.int (iZ p), .int (iZ q), .int (iZ c)])), (wo, .inr (4, [.long (lZ b), .int (iZ n)]))] H := im_keep2 hI0 hIA (Fh.of hS)
  refine lv_aload_n hx hb dX6_applyMorphism_35 rfl (lv_at hl 0 rfl) ?_
  refine va_getN (D := G) (ci := 4) (v := .int (iZ (imI (mi : Int) b n n).2)) (C := RX5) (T := TX5) (N := 2) hx hb hts (by decide +kernel) hown hK hP 0 rfl rfl 1 (by decide) (va_Nw.use rfl (hKK.2 (.fieldLinkNest RX6 93 "SturmianWords$Word" "size" "I" "SturmianWords") (by decide +kernel))) (fun _ h9 => h9) rfl dX6_applyMorphism_36 ?_
  have hP := hP.sub (ws' := [(xa, .inr (5, [.ref hi, .ref ci, .ref ns_32])), (hi, .inr (1, [.ref ra, .int (iZ (nxF nx)), .int (iZ (kpF kp))])), (ra, .inl (cy 2, 6, .inr (.inr (.inr (.inr (qf (upq rw9 nx (some st)))))))), (ns_32, .inr (3, [.ref sl, .ref qo_19])), (qo_19, .inr (4, [.long (lZ (imI (mi : Int) b n n).1), .int (iZ (imI (mi : Int) b n n).2)]))]) [1, 2, 3, 4, 0] rfl
  have hD := hD.sub (ws' := [(xa, .inr (5, [.ref hi, .ref ci, .ref ns_32])), (hi, .inr (1, [.ref ra, .int (iZ (nxF nx)), .int (iZ (kpF kp))])), (ra, .inl (cy 2, 6, .inr (.inr (.inr (.inr (qf (upq rw9 nx (some st)))))))), (ns_32, .inr (3, [.ref sl, .ref qo_19])), (qo_19, .inr (4, [.long (lZ (imI (mi : Int) b n n).1), .int (iZ (imI (mi : Int) b n n).2)]))]) [1, 2, 3, 4, 0] (by decide) rfl
  exact z_iretE hx hb hr hlocks dX6_applyMorphism_39 hS.2.2 ⟨(show 2 ≤ 2 by omega), (show 4 ≤ 4 by omega)⟩ ⟨ns_32, qo_19, (rfl), (trivial), (hP), (hD), Fh.of hS⟩
set_option maxHeartbeats 4000000 in
set_option maxRecDepth 100000 in
theorem c_X6_invertMorphism_no (lau : Launch) (G : va_G) (cy : Nat → ClassId) (ad : Nat → Nat) (xa hi ci st ra sl wo : Nat) (sz : Nat) (nx kp : Int) (rw9 : Int → Option Nat) (p q c b n : Int) (mo : Int) (h1 : -2147483648 ≤ mo ∧ mo < 2147483648) (h2 : ¬ (0 ≤ mo ∧ mo ≤ 4)) : Met lau yX6_invertMorphism wsX6_invertMorphism ({ frames := 4, cells := 0, slots := 0, locals := 95 }) (P2 G cy ad (va_A [(xa, .inr (5, [.ref hi, .ref ci, .ref st])), (hi, .inr (1, [.ref ra, .int (iZ nx), .int (iZ kp)])), (ra, .inl (cy 2, 6, .inr (.inr (.inr (.inr (qf rw9))))))] sz) [.ref xa, .int (iZ mo)] (fun H => H.size = sz ∧ va_P G vwCl [(xa, .inr (5, [.ref hi, .ref ci, .ref st])), (hi, .inr (1, [.ref ra, .int (iZ nx), .int (iZ kp)])), (ra, .inl (cy 2, 6, .inr (.inr (.inr (.inr (qf rw9))))))] H ∧ va_D (fun _ => True) [(xa, .inr (5, [.ref hi, .ref ci, .ref st])), (hi, .inr (1, [.ref ra, .int (iZ nx), .int (iZ kp)])), (ra, .inl (cy 2, 6, .inr (.inr (.inr (.inr (qf rw9))))))] ∧ va_P G vwCl [(st, .inr (3, [.ref sl, .ref wo])), (sl, .inr (2, [.int (iZ p), .int (iZ q), .int (iZ c)])), (wo, .inr (4, [.long (lZ b), .int (iZ n)]))] H ∧ NA (va_A [(xa, .inr (5, [.ref hi, .ref ci, .ref st])), (hi, .inr (1, [.ref ra, .int (iZ nx), .int (iZ kp)])), (ra, .inl (cy 2, 6, .inr (.inr (.inr (.inr (qf rw9))))))] sz) [(st, .inr (3, [.ref sl, .ref wo])), (sl, .inr (2, [.int (iZ p), .int (iZ q), .int (iZ c)])), (wo, .inr (4, [.long (lZ b), .int (iZ n)]))])) (Q1 (fun rv H0 H1 => rv = some (.int (iZ (-1))) ∧ (True) ∧ va_P G vwCl [(xa, .inr (5, [.ref hi, .ref ci, .ref st])), (hi, .inr (1, [.ref ra, .int (iZ nx), .int (iZ kp)])), (ra, .inl (cy 2, 6, .inr (.inr (.inr (.inr (qf rw9))))))] H1 ∧ va_D (va_A [(xa, .inr (5, [.ref hi, .ref ci, .ref st])), (hi, .inr (1, [.ref ra, .int (iZ nx), .int (iZ kp)])), (ra, .inl (cy 2, 6, .inr (.inr (.inr (.inr (qf rw9))))))] sz) [(xa, .inr (5, [.ref hi, .ref ci, .ref st])), (hi, .inr (1, [.ref ra, .int (iZ nx), .int (iZ kp)])), (ra, .inl (cy 2, 6, .inr (.inr (.inr (.inr (qf rw9))))))] ∧ Fh (va_A [(xa, .inr (5, [.ref hi, .ref ci, .ref st])), (hi, .inr (1, [.ref ra, .int (iZ nx), .int (iZ kp)])), (ra, .inl (cy 2, 6, .inr (.inr (.inr (.inr (qf rw9))))))] sz) H0 H1)) 0 0 (va_A [(xa, .inr (5, [.ref hi, .ref ci, .ref st])), (hi, .inr (1, [.ref ra, .int (iZ nx), .int (iZ kp)])), (ra, .inl (cy 2, 6, .inr (.inr (.inr (.inr (qf rw9))))))] sz) := by
  refine z_head2 (lv := [(0, .ref xa), (1, .int (iZ mo))]) RX6 (by decide) rfl rfl (Nat.le_of_ble_eq_true rfl) rfl ?_
  intro pr ev s mt below meth cd ls hx hb hr hlocks hml hown hname hts hKK hEN hP hl
  have hK := hKK.1
  obtain ⟨hsz, hP, hD0, hI0, hIA⟩ := hP
  subst hsz
  have hD := hD0.self (sz := s.heap.size)
  generalize hAe : va_A [(xa, .inr (5, [.ref hi, .ref ci, .ref st])), (hi, .inr (1, [.ref ra, .int (iZ nx), .int (iZ kp)])), (ra, .inl (cy 2, 6, .inr (.inr (.inr (.inr (qf rw9))))))] s.heap.size = A at hD hIA hEN ⊢
  have hA : ∀ q : Nat, s.heap.size ≤ q → A q := fun q h => by rw [← hAe]; exact Or.inr h
  have hS : va_S A s.heap s.heap [] := va_S.rf
  have hP : va_P G vwCl [(xa, .inr (5, [.ref hi, .ref ci, .ref st])), (hi, .inr (1, [.ref ra, .int (iZ nx), .int (iZ kp)])), (ra, .inl (cy 2, 6, .inr (.inr (.inr (.inr (qf rw9))))))] s.heap := hP
  have hI : va_P G vwCl [(st, .inr (3, [.ref sl, .ref wo])), (sl, .inr (2, [.int (iZ p), .int (iZ q), .int (iZ c)])), (wo, .inr (4, [.long (lZ b), .int (iZ n)]))] s.heap := hI0
  refine lv_iload_n hx hb dX6_invertMorphism_0 rfl (lv_at hl 1 rfl) ?_
  have hPc := hP.sub (ws' := []) [] rfl
  have hDc := (hD.sub (ws' := []) [] (by decide) rfl).weaken (B := fun _ => True) (fun _ _ _ _ => trivial)
  have hFc := va_free (wc := []) hD hS hA [] rfl
  refine z_callE (A := A) (va_runS (As := [.int (iZ mo)]) (rest := []) ⟨hx, hb, hml, hown, hts⟩ (c_X2_numbered_no lau G cy ad s.heap.size mo (by first | omega | assumption) (by first | omega | assumption)) (va_cwS 1 hts gX6_invertMorphism_X2_numbered rfl rfl rfl (by decide +kernel) ⟨Nat.le_of_ble_eq_true rfl, Nat.le_of_ble_eq_true rfl⟩) ⟨P2_blind, P2_mk hKK (va_En.narrow (va_En.kept hEN hS.2.1) hFc) (⟨rfl, hPc, hDc⟩)⟩ rfl rfl hl.1 rfl (lv_room (Nat.le_of_ble_eq_true rfl)) dX6_invertMorphism_1 ⟨(show 0 + 0 ≤ 0 by omega), (show 0 + 0 ≤ 0 by omega)⟩) hS.2.2 hFc (fun v H1 locs1 hR hL1 => ?_)
  obtain ⟨rfl, hq1, hP1, hD1, hF1⟩ := hR
  obtain ⟨hP, hD⟩ := va_join (wr := [(xa, .inr (5, [.ref hi, .ref ci, .ref st])), (hi, .inr (1, [.ref ra, .int (iZ nx), .int (iZ kp)])), (ra, .inl (cy 2, 6, .inr (.inr (.inr (.inr (qf rw9))))))]) (w1 := []) hP hD [] [0, 1, 2] rfl rfl (by decide) (by decide) hF1.2 hFc hP1 hD1
  have hS : va_S A s.heap H1 locs1 := Fh.S ((Fh.of hS).tr hF1 (fun q _ h => hFc q h)) hL1
  clear hPc hDc hFc hP1 hD1 hF1 hL1
  generalize H1 = H at hP hS ⊢
  have hP : va_P G vwCl [(xa, .inr (5, [.ref hi, .ref ci, .ref st])), (hi, .inr (1, [.ref ra, .int (iZ nx), .int (iZ kp)])), (ra, .inl (cy 2, 6, .inr (.inr (.inr (.inr (qf rw9))))))] H := hP
  have hD : va_D A [(xa, .inr (5, [.ref hi, .ref ci, .ref st])), (hi, .inr (1, [.ref ra, .int (iZ nx), .int (iZ kp)])), (ra, .inl (cy 2, 6, .inr (.inr (.inr (.inr (qf rw9))))))] := hD
  have hP := hP.sub (ws' := [(xa, .inr (5, [.ref hi, .ref ci, .ref st])), (hi, .inr (1, [.ref ra, .int (iZ nx), .int (iZ kp)])), (ra, .inl (cy 2, 6, .inr (.inr (.inr (.inr (qf rw9))))))]) [0, 1, 2] rfl
  have hD := hD.sub (ws' := [(xa, .inr (5, [.ref hi, .ref ci, .ref st])), (hi, .inr (1, [.ref ra, .int (iZ nx), .int (iZ kp)])), (ra, .inl (cy 2, 6, .inr (.inr (.inr (.inr (qf rw9))))))]) [0, 1, 2] (by decide) rfl
  refine W.eq (g2 := F0 mt 4 ls [.null]) rfl ?_
  have hI : va_P G vwCl [(st, .inr (3, [.ref sl, .ref wo])), (sl, .inr (2, [.int (iZ p), .int (iZ q), .int (iZ c)])), (wo, .inr (4, [.long (lZ b), .int (iZ n)]))] H := im_keep2 hI0 hIA (Fh.of hS)
  refine lv_astore_nN (lv' := [(2, .null), (0, .ref xa), (1, .int (iZ mo))]) hx hb dX6_invertMorphism_4 rfl hl (by decide) rfl (fun ls hl => ?_)
  refine lv_aload_nN hx hb dX6_invertMorphism_5 rfl (lv_at hl 0 rfl) ?_
  refine lv_ifnonnullN hx hb dX6_invertMorphism_6 ?_
  refine lv_iconst (v := iZ (-1)) hx hb dX6_invertMorphism_9 rfl ?_
  exact z_iretE hx hb hr hlocks dX6_invertMorphism_10 hS.2.2 ⟨(show 0 ≤ 0 by omega), (show 0 ≤ 0 by omega)⟩ ⟨(rfl), (trivial), (hP), (hD), Fh.of hS⟩
set_option maxHeartbeats 4000000 in
set_option maxRecDepth 100000 in
theorem c_X6_invertMorphism_no2 (lau : Launch) (G : va_G) (cy : Nat → ClassId) (ad : Nat → Nat) (mi : Nat) (xa hi ci st ra sl wo : Nat) (sz : Nat) (nx kp : Int) (rw9 : Int → Option Nat) (p q c b n : Int) (mo : Int) (hmi : mi < 5) (hmo : mo = (mi : Int)) (hn : 0 ≤ n ∧ n ≤ 60) (hw : 0 ≤ b ∧ b < pw n) (h3 : (pI (mi : Int) b n 61).1 < 0) : Met lau yX6_invertMorphism wsX6_invertMorphism ({ frames := 4, cells := 1, slots := 2, locals := 95 }) (P2 G cy ad (va_A [(xa, .inr (5, [.ref hi, .ref ci, .ref st])), (hi, .inr (1, [.ref ra, .int (iZ nx), .int (iZ kp)])), (ra, .inl (cy 2, 6, .inr (.inr (.inr (.inr (qf rw9))))))] sz) [.ref xa, .int (iZ mo)] (fun H => H.size = sz ∧ va_P G vwCl [(xa, .inr (5, [.ref hi, .ref ci, .ref st])), (hi, .inr (1, [.ref ra, .int (iZ nx), .int (iZ kp)])), (ra, .inl (cy 2, 6, .inr (.inr (.inr (.inr (qf rw9))))))] H ∧ va_D (fun _ => True) [(xa, .inr (5, [.ref hi, .ref ci, .ref st])), (hi, .inr (1, [.ref ra, .int (iZ nx), .int (iZ kp)])), (ra, .inl (cy 2, 6, .inr (.inr (.inr (.inr (qf rw9))))))] ∧ va_P G vwCl [(st, .inr (3, [.ref sl, .ref wo])), (sl, .inr (2, [.int (iZ p), .int (iZ q), .int (iZ c)])), (wo, .inr (4, [.long (lZ b), .int (iZ n)]))] H ∧ NA (va_A [(xa, .inr (5, [.ref hi, .ref ci, .ref st])), (hi, .inr (1, [.ref ra, .int (iZ nx), .int (iZ kp)])), (ra, .inl (cy 2, 6, .inr (.inr (.inr (.inr (qf rw9))))))] sz) [(st, .inr (3, [.ref sl, .ref wo])), (sl, .inr (2, [.int (iZ p), .int (iZ q), .int (iZ c)])), (wo, .inr (4, [.long (lZ b), .int (iZ n)]))])) (Q1 (fun rv H0 H1 => rv = some (.int (iZ (-3))) ∧ (True) ∧ va_P G vwCl [(xa, .inr (5, [.ref hi, .ref ci, .ref st])), (hi, .inr (1, [.ref ra, .int (iZ nx), .int (iZ kp)])), (ra, .inl (cy 2, 6, .inr (.inr (.inr (.inr (qf rw9))))))] H1 ∧ va_D (va_A [(xa, .inr (5, [.ref hi, .ref ci, .ref st])), (hi, .inr (1, [.ref ra, .int (iZ nx), .int (iZ kp)])), (ra, .inl (cy 2, 6, .inr (.inr (.inr (.inr (qf rw9))))))] sz) [(xa, .inr (5, [.ref hi, .ref ci, .ref st])), (hi, .inr (1, [.ref ra, .int (iZ nx), .int (iZ kp)])), (ra, .inl (cy 2, 6, .inr (.inr (.inr (.inr (qf rw9))))))] ∧ Fh (va_A [(xa, .inr (5, [.ref hi, .ref ci, .ref st])), (hi, .inr (1, [.ref ra, .int (iZ nx), .int (iZ kp)])), (ra, .inl (cy 2, 6, .inr (.inr (.inr (.inr (qf rw9))))))] sz) H0 H1)) 1 2 (va_A [(xa, .inr (5, [.ref hi, .ref ci, .ref st])), (hi, .inr (1, [.ref ra, .int (iZ nx), .int (iZ kp)])), (ra, .inl (cy 2, 6, .inr (.inr (.inr (.inr (qf rw9))))))] sz) := by
  refine z_head2 (lv := [(0, .ref xa), (1, .int (iZ mo))]) RX6 (by decide) rfl rfl (Nat.le_of_ble_eq_true rfl) rfl ?_
  intro pr ev s mt below meth cd ls hx hb hr hlocks hml hown hname hts hKK hEN hP hl
  have hK := hKK.1
  obtain ⟨hsz, hP, hD0, hI0, hIA⟩ := hP
  subst hsz
  have hD := hD0.self (sz := s.heap.size)
  generalize hAe : va_A [(xa, .inr (5, [.ref hi, .ref ci, .ref st])), (hi, .inr (1, [.ref ra, .int (iZ nx), .int (iZ kp)])), (ra, .inl (cy 2, 6, .inr (.inr (.inr (.inr (qf rw9))))))] s.heap.size = A at hD hIA hEN ⊢
  have hA : ∀ q : Nat, s.heap.size ≤ q → A q := fun q h => by rw [← hAe]; exact Or.inr h
  have hS : va_S A s.heap s.heap [] := va_S.rf
  have hP : va_P G vwCl [(xa, .inr (5, [.ref hi, .ref ci, .ref st])), (hi, .inr (1, [.ref ra, .int (iZ nx), .int (iZ kp)])), (ra, .inl (cy 2, 6, .inr (.inr (.inr (.inr (qf rw9))))))] s.heap := hP
  have hI : va_P G vwCl [(st, .inr (3, [.ref sl, .ref wo])), (sl, .inr (2, [.int (iZ p), .int (iZ q), .int (iZ c)])), (wo, .inr (4, [.long (lZ b), .int (iZ n)]))] s.heap := hI0
  refine lv_iload_n hx hb dX6_invertMorphism_0 rfl (lv_at hl 1 rfl) ?_
  have hPc := hP.sub (ws' := []) [] rfl
  have hDc := (hD.sub (ws' := []) [] (by decide) rfl).weaken (B := fun _ => True) (fun _ _ _ _ => trivial)
  have hFc := va_free (wc := []) hD hS hA [] rfl
  refine z_callE (A := A) (va_runS (As := [.int (iZ mo)]) (rest := []) ⟨hx, hb, hml, hown, hts⟩ (c_X2_numbered lau G cy ad mi s.heap.size mo (by first | omega | assumption) (by first | omega | assumption)) (va_cwS 1 hts gX6_invertMorphism_X2_numbered rfl rfl rfl (by decide +kernel) ⟨Nat.le_of_ble_eq_true rfl, Nat.le_of_ble_eq_true rfl⟩) ⟨P2_blind, P2_mk hKK (va_En.narrow (va_En.kept hEN hS.2.1) hFc) (⟨rfl, hPc, hDc⟩)⟩ rfl rfl hl.1 rfl (lv_room (Nat.le_of_ble_eq_true rfl)) dX6_invertMorphism_1 ⟨(show 0 + 0 ≤ 1 by omega), (show 0 + 0 ≤ 2 by omega)⟩) hS.2.2 hFc (fun v H1 locs1 hR hL1 => ?_)
  obtain ⟨rfl, hq1, hP1, hD1, hF1⟩ := hR
  obtain ⟨hP, hD⟩ := va_join (wr := [(xa, .inr (5, [.ref hi, .ref ci, .ref st])), (hi, .inr (1, [.ref ra, .int (iZ nx), .int (iZ kp)])), (ra, .inl (cy 2, 6, .inr (.inr (.inr (.inr (qf rw9))))))]) (w1 := []) hP hD [] [0, 1, 2] rfl rfl (by decide) (by decide) hF1.2 hFc hP1 hD1
  have hS : va_S A s.heap H1 locs1 := Fh.S ((Fh.of hS).tr hF1 (fun q _ h => hFc q h)) hL1
  clear hPc hDc hFc hP1 hD1 hF1 hL1
  generalize H1 = H at hP hS ⊢
  have hP : va_P G vwCl [(xa, .inr (5, [.ref hi, .ref ci, .ref st])), (hi, .inr (1, [.ref ra, .int (iZ nx), .int (iZ kp)])), (ra, .inl (cy 2, 6, .inr (.inr (.inr (.inr (qf rw9))))))] H := hP
  have hD : va_D A [(xa, .inr (5, [.ref hi, .ref ci, .ref st])), (hi, .inr (1, [.ref ra, .int (iZ nx), .int (iZ kp)])), (ra, .inl (cy 2, 6, .inr (.inr (.inr (.inr (qf rw9))))))] := hD
  have hP := hP.sub (ws' := [(xa, .inr (5, [.ref hi, .ref ci, .ref st])), (hi, .inr (1, [.ref ra, .int (iZ nx), .int (iZ kp)])), (ra, .inl (cy 2, 6, .inr (.inr (.inr (.inr (qf rw9))))))]) [0, 1, 2] rfl
  have hD := hD.sub (ws' := [(xa, .inr (5, [.ref hi, .ref ci, .ref st])), (hi, .inr (1, [.ref ra, .int (iZ nx), .int (iZ kp)])), (ra, .inl (cy 2, 6, .inr (.inr (.inr (.inr (qf rw9))))))]) [0, 1, 2] (by decide) rfl
  refine W.eq (g2 := F0 mt 4 ls [.ref (ad mi)]) rfl ?_
  have hI : va_P G vwCl [(st, .inr (3, [.ref sl, .ref wo])), (sl, .inr (2, [.int (iZ p), .int (iZ q), .int (iZ c)])), (wo, .inr (4, [.long (lZ b), .int (iZ n)]))] H := im_keep2 hI0 hIA (Fh.of hS)
  refine lv_astore_n (lv' := [(2, .ref (ad mi)), (0, .ref xa), (1, .int (iZ mo))]) hx hb dX6_invertMorphism_4 rfl hl (by decide) rfl (fun ls hl => ?_)
  refine lv_aload_n hx hb dX6_invertMorphism_5 rfl (lv_at hl 0 rfl) ?_
  refine lv_ifnonnull (tgt := 11) hx hb dX6_invertMorphism_6 (by decide) ?_
  refine lv_aload_n hx hb dX6_invertMorphism_11 rfl (lv_at hl 0 rfl) ?_
  refine lv_aload_n hx hb dX6_invertMorphism_12 rfl (lv_at hl 1 rfl) ?_
  refine va_get (D := G) (ci := 5) (v := .ref st) (C := RX6) (T := TX6) (N := 3) hx hb hts (by decide +kernel) hown hK hP 0 rfl rfl 2 (by decide) (hts (.fieldLink RX6 38 "SturmianWords" "state" "LSturmianWords$State;") (by decide +kernel)) (fun _ h9 => h9) rfl dX6_invertMorphism_13 ?_
  refine va_getN (D := G) (ci := 3) (v := .ref wo) (C := RX4) (T := TX4) (N := 2) hx hb hts (by decide +kernel) hown hK hI 0 rfl rfl 1 (by decide) (va_Nw.use rfl (hKK.2 (.fieldLinkNest RX6 96 "SturmianWords$State" "word" "LSturmianWords$Word;" "SturmianWords") (by decide +kernel))) (fun _ h9 => h9) rfl dX6_invertMorphism_16 ?_
  have hPc := hP.sub (ws' := []) [] rfl
  have hDc := (hD.sub (ws' := []) [] (by decide) rfl).weaken (B := fun _ => True) (fun _ _ _ _ => trivial)
  have hFc := va_free (wc := []) hD hS hA [] rfl
  have hIc : va_P G vwCl [(wo, .inr (4, [.long (lZ b), .int (iZ n)]))] H := (hI.sub (ws' := [(wo, .inr (4, [.long (lZ b), .int (iZ n)]))]) [2] rfl)
  have hIAc : NA (va_A [] H.size) [(wo, .inr (4, [.long (lZ b), .int (iZ n)]))] := NA.cons (fun z => hIA.at 2 rfl (hFc _ z)) (NA.nil)
  refine z_callE (A := A) (va_runV (As := [.ref wo]) (rest := []) ⟨hx, hb, hml, hown, hts⟩ (c_X2_originOf_no lau G cy ad mi wo H.size b n (by first | omega | assumption) (by first | omega | assumption) (by first | omega | assumption) (by first | omega | assumption)) (cwV 1 hts gX6_invertMorphism_X2_originOf rfl rfl rfl (by decide +kernel) ⟨Nat.le_of_ble_eq_true rfl, Nat.le_of_ble_eq_true rfl⟩) ⟨P2_blind, va_recvE hEN hmi hS, P2_mk hKK (va_En.narrow (va_En.kept hEN hS.2.1) hFc) (⟨rfl, hPc, hDc, hIc, hIAc⟩)⟩ rfl rfl hl.1 rfl (lv_room (Nat.le_of_ble_eq_true rfl)) dX6_invertMorphism_19 ⟨(show 0 + 1 ≤ 1 by omega), (show 0 + 2 ≤ 2 by omega)⟩) hS.2.2 hFc (fun v H1 locs1 hR hL1 => ?_)
  obtain ⟨rfl, hq19, hP1, hD1, hF1⟩ := hR
  obtain ⟨hP, hD⟩ := va_join (wr := [(xa, .inr (5, [.ref hi, .ref ci, .ref st])), (hi, .inr (1, [.ref ra, .int (iZ nx), .int (iZ kp)])), (ra, .inl (cy 2, 6, .inr (.inr (.inr (.inr (qf rw9))))))]) (w1 := []) hP hD [] [0, 1, 2] rfl rfl (by decide) (by decide) hF1.2 hFc hP1 hD1
  have hS : va_S A s.heap H1 locs1 := Fh.S ((Fh.of hS).tr hF1 (fun q _ h => hFc q h)) hL1
  clear hPc hDc hFc hP1 hD1 hF1 hL1 hIc hIAc
  generalize H1 = H at hP hS ⊢
  have hP : va_P G vwCl [(xa, .inr (5, [.ref hi, .ref ci, .ref st])), (hi, .inr (1, [.ref ra, .int (iZ nx), .int (iZ kp)])), (ra, .inl (cy 2, 6, .inr (.inr (.inr (.inr (qf rw9))))))] H := hP
  have hD : va_D A [(xa, .inr (5, [.ref hi, .ref ci, .ref st])), (hi, .inr (1, [.ref ra, .int (iZ nx), .int (iZ kp)])), (ra, .inl (cy 2, 6, .inr (.inr (.inr (.inr (qf rw9))))))] := hD
  have hP := hP.sub (ws' := [(xa, .inr (5, [.ref hi, .ref ci, .ref st])), (hi, .inr (1, [.ref ra, .int (iZ nx), .int (iZ kp)])), (ra, .inl (cy 2, 6, .inr (.inr (.inr (.inr (qf rw9))))))]) [0, 1, 2] rfl
  have hD := hD.sub (ws' := [(xa, .inr (5, [.ref hi, .ref ci, .ref st])), (hi, .inr (1, [.ref ra, .int (iZ nx), .int (iZ kp)])), (ra, .inl (cy 2, 6, .inr (.inr (.inr (.inr (qf rw9))))))]) [0, 1, 2] (by decide) rfl
  refine W.eq (g2 := F0 mt 22 ls [.null]) rfl ?_
  have hI : va_P G vwCl [(st, .inr (3, [.ref sl, .ref wo])), (sl, .inr (2, [.int (iZ p), .int (iZ q), .int (iZ c)])), (wo, .inr (4, [.long (lZ b), .int (iZ n)]))] H := im_keep2 hI0 hIA (Fh.of hS)
  refine lv_astore_nN (lv' := [(3, .null), (2, .ref (ad mi)), (0, .ref xa), (1, .int (iZ mo))]) hx hb dX6_invertMorphism_22 rfl hl (by decide) rfl (fun ls hl => ?_)
  refine lv_aload_nN hx hb dX6_invertMorphism_23 rfl (lv_at hl 0 rfl) ?_
  refine lv_ifnonnullN hx hb dX6_invertMorphism_24 ?_
  refine lv_bipush (v := iZ (-3)) hx hb dX6_invertMorphism_27 (by decide +kernel) ?_
  exact z_iretE hx hb hr hlocks dX6_invertMorphism_29 hS.2.2 ⟨(show 1 ≤ 1 by omega), (show 2 ≤ 2 by omega)⟩ ⟨(rfl), (trivial), (hP), (hD), Fh.of hS⟩
set_option maxHeartbeats 4000000 in
set_option maxRecDepth 100000 in
theorem c_X6_invertMorphism (lau : Launch) (G : va_G) (cy : Nat → ClassId) (ad : Nat → Nat) (mi : Nat) (xa hi ci st ra sl wo : Nat) (sz : Nat) (nx kp : Int) (rw9 : Int → Option Nat) (p q c b n : Int) (mo : Int) (hnx : 0 ≤ nx ∧ nx < 6) (hkp : 0 ≤ kp ∧ kp ≤ 6) (hmi : mi < 5) (hmo : mo = (mi : Int)) (hn : 0 ≤ n ∧ n ≤ 60) (hw : 0 ≤ b ∧ b < pw n) (h3 : 0 ≤ (pI (mi : Int) b n 61).1) : Met lau yX6_invertMorphism wsX6_invertMorphism ({ frames := 4, cells := 2, slots := 4, locals := 95 }) (P2 G cy ad (va_A [(xa, .inr (5, [.ref hi, .ref ci, .ref st])), (hi, .inr (1, [.ref ra, .int (iZ nx), .int (iZ kp)])), (ra, .inl (cy 2, 6, .inr (.inr (.inr (.inr (qf rw9))))))] sz) [.ref xa, .int (iZ mo)] (fun H => H.size = sz ∧ va_P G vwCl [(xa, .inr (5, [.ref hi, .ref ci, .ref st])), (hi, .inr (1, [.ref ra, .int (iZ nx), .int (iZ kp)])), (ra, .inl (cy 2, 6, .inr (.inr (.inr (.inr (qf rw9))))))] H ∧ va_D (fun _ => True) [(xa, .inr (5, [.ref hi, .ref ci, .ref st])), (hi, .inr (1, [.ref ra, .int (iZ nx), .int (iZ kp)])), (ra, .inl (cy 2, 6, .inr (.inr (.inr (.inr (qf rw9))))))] ∧ va_P G vwCl [(st, .inr (3, [.ref sl, .ref wo])), (sl, .inr (2, [.int (iZ p), .int (iZ q), .int (iZ c)])), (wo, .inr (4, [.long (lZ b), .int (iZ n)]))] H ∧ NA (va_A [(xa, .inr (5, [.ref hi, .ref ci, .ref st])), (hi, .inr (1, [.ref ra, .int (iZ nx), .int (iZ kp)])), (ra, .inl (cy 2, 6, .inr (.inr (.inr (.inr (qf rw9))))))] sz) [(st, .inr (3, [.ref sl, .ref wo])), (sl, .inr (2, [.int (iZ p), .int (iZ q), .int (iZ c)])), (wo, .inr (4, [.long (lZ b), .int (iZ n)]))])) (Q1 (fun rv H0 H1 => ∃ (ns nq : Nat), rv = some (.int (iZ ((pI (mi : Int) b n 61).2.2))) ∧ (True) ∧ va_P G vwCl [(xa, .inr (5, [.ref hi, .ref ci, .ref ns])), (hi, .inr (1, [.ref ra, .int (iZ (nxF nx)), .int (iZ (kpF kp))])), (ra, .inl (cy 2, 6, .inr (.inr (.inr (.inr (qf (upq rw9 nx (some st)))))))), (ns, .inr (3, [.ref sl, .ref nq])), (nq, .inr (4, [.long (lZ (pI (mi : Int) b n 61).2.1), .int (iZ (pI (mi : Int) b n 61).2.2)]))] H1 ∧ va_D (va_A [(xa, .inr (5, [.ref hi, .ref ci, .ref st])), (hi, .inr (1, [.ref ra, .int (iZ nx), .int (iZ kp)])), (ra, .inl (cy 2, 6, .inr (.inr (.inr (.inr (qf rw9))))))] sz) [(xa, .inr (5, [.ref hi, .ref ci, .ref ns])), (hi, .inr (1, [.ref ra, .int (iZ (nxF nx)), .int (iZ (kpF kp))])), (ra, .inl (cy 2, 6, .inr (.inr (.inr (.inr (qf (upq rw9 nx (some st)))))))), (ns, .inr (3, [.ref sl, .ref nq])), (nq, .inr (4, [.long (lZ (pI (mi : Int) b n 61).2.1), .int (iZ (pI (mi : Int) b n 61).2.2)]))] ∧ Fh (va_A [(xa, .inr (5, [.ref hi, .ref ci, .ref st])), (hi, .inr (1, [.ref ra, .int (iZ nx), .int (iZ kp)])), (ra, .inl (cy 2, 6, .inr (.inr (.inr (.inr (qf rw9))))))] sz) H0 H1)) 2 4 (va_A [(xa, .inr (5, [.ref hi, .ref ci, .ref st])), (hi, .inr (1, [.ref ra, .int (iZ nx), .int (iZ kp)])), (ra, .inl (cy 2, 6, .inr (.inr (.inr (.inr (qf rw9))))))] sz) := by
  refine z_head2 (lv := [(0, .ref xa), (1, .int (iZ mo))]) RX6 (by decide) rfl rfl (Nat.le_of_ble_eq_true rfl) rfl ?_
  intro pr ev s mt below meth cd ls hx hb hr hlocks hml hown hname hts hKK hEN hP hl
  have hK := hKK.1
  obtain ⟨hsz, hP, hD0, hI0, hIA⟩ := hP
  subst hsz
  have hD := hD0.self (sz := s.heap.size)
  generalize hAe : va_A [(xa, .inr (5, [.ref hi, .ref ci, .ref st])), (hi, .inr (1, [.ref ra, .int (iZ nx), .int (iZ kp)])), (ra, .inl (cy 2, 6, .inr (.inr (.inr (.inr (qf rw9))))))] s.heap.size = A at hD hIA hEN ⊢
  have hA : ∀ q : Nat, s.heap.size ≤ q → A q := fun q h => by rw [← hAe]; exact Or.inr h
  have hS : va_S A s.heap s.heap [] := va_S.rf
  have hP : va_P G vwCl [(xa, .inr (5, [.ref hi, .ref ci, .ref st])), (hi, .inr (1, [.ref ra, .int (iZ nx), .int (iZ kp)])), (ra, .inl (cy 2, 6, .inr (.inr (.inr (.inr (qf rw9))))))] s.heap := hP
  have hI : va_P G vwCl [(st, .inr (3, [.ref sl, .ref wo])), (sl, .inr (2, [.int (iZ p), .int (iZ q), .int (iZ c)])), (wo, .inr (4, [.long (lZ b), .int (iZ n)]))] s.heap := hI0
  refine lv_iload_n hx hb dX6_invertMorphism_0 rfl (lv_at hl 1 rfl) ?_
  have hPc := hP.sub (ws' := []) [] rfl
  have hDc := (hD.sub (ws' := []) [] (by decide) rfl).weaken (B := fun _ => True) (fun _ _ _ _ => trivial)
  have hFc := va_free (wc := []) hD hS hA [] rfl
  refine z_callE (A := A) (va_runS (As := [.int (iZ mo)]) (rest := []) ⟨hx, hb, hml, hown, hts⟩ (c_X2_numbered lau G cy ad mi s.heap.size mo (by first | omega | assumption) (by first | omega | assumption)) (va_cwS 1 hts gX6_invertMorphism_X2_numbered rfl rfl rfl (by decide +kernel) ⟨Nat.le_of_ble_eq_true rfl, Nat.le_of_ble_eq_true rfl⟩) ⟨P2_blind, P2_mk hKK (va_En.narrow (va_En.kept hEN hS.2.1) hFc) (⟨rfl, hPc, hDc⟩)⟩ rfl rfl hl.1 rfl (lv_room (Nat.le_of_ble_eq_true rfl)) dX6_invertMorphism_1 ⟨(show 0 + 0 ≤ 2 by omega), (show 0 + 0 ≤ 4 by omega)⟩) hS.2.2 hFc (fun v H1 locs1 hR hL1 => ?_)
  obtain ⟨rfl, hq1, hP1, hD1, hF1⟩ := hR
  obtain ⟨hP, hD⟩ := va_join (wr := [(xa, .inr (5, [.ref hi, .ref ci, .ref st])), (hi, .inr (1, [.ref ra, .int (iZ nx), .int (iZ kp)])), (ra, .inl (cy 2, 6, .inr (.inr (.inr (.inr (qf rw9))))))]) (w1 := []) hP hD [] [0, 1, 2] rfl rfl (by decide) (by decide) hF1.2 hFc hP1 hD1
  have hS : va_S A s.heap H1 locs1 := Fh.S ((Fh.of hS).tr hF1 (fun q _ h => hFc q h)) hL1
  clear hPc hDc hFc hP1 hD1 hF1 hL1
  generalize H1 = H at hP hS ⊢
  have hP : va_P G vwCl [(xa, .inr (5, [.ref hi, .ref ci, .ref st])), (hi, .inr (1, [.ref ra, .int (iZ nx), .int (iZ kp)])), (ra, .inl (cy 2, 6, .inr (.inr (.inr (.inr (qf rw9))))))] H := hP
  have hD : va_D A [(xa, .inr (5, [.ref hi, .ref ci, .ref st])), (hi, .inr (1, [.ref ra, .int (iZ nx), .int (iZ kp)])), (ra, .inl (cy 2, 6, .inr (.inr (.inr (.inr (qf rw9))))))] := hD
  have hP := hP.sub (ws' := [(xa, .inr (5, [.ref hi, .ref ci, .ref st])), (hi, .inr (1, [.ref ra, .int (iZ nx), .int (iZ kp)])), (ra, .inl (cy 2, 6, .inr (.inr (.inr (.inr (qf rw9))))))]) [0, 1, 2] rfl
  have hD := hD.sub (ws' := [(xa, .inr (5, [.ref hi, .ref ci, .ref st])), (hi, .inr (1, [.ref ra, .int (iZ nx), .int (iZ kp)])), (ra, .inl (cy 2, 6, .inr (.inr (.inr (.inr (qf rw9))))))]) [0, 1, 2] (by decide) rfl
  refine W.eq (g2 := F0 mt 4 ls [.ref (ad mi)]) rfl ?_
  have hI : va_P G vwCl [(st, .inr (3, [.ref sl, .ref wo])), (sl, .inr (2, [.int (iZ p), .int (iZ q), .int (iZ c)])), (wo, .inr (4, [.long (lZ b), .int (iZ n)]))] H := im_keep2 hI0 hIA (Fh.of hS)
  refine lv_astore_n (lv' := [(2, .ref (ad mi)), (0, .ref xa), (1, .int (iZ mo))]) hx hb dX6_invertMorphism_4 rfl hl (by decide) rfl (fun ls hl => ?_)
  refine lv_aload_n hx hb dX6_invertMorphism_5 rfl (lv_at hl 0 rfl) ?_
  refine lv_ifnonnull (tgt := 11) hx hb dX6_invertMorphism_6 (by decide) ?_
  refine lv_aload_n hx hb dX6_invertMorphism_11 rfl (lv_at hl 0 rfl) ?_
  refine lv_aload_n hx hb dX6_invertMorphism_12 rfl (lv_at hl 1 rfl) ?_
  refine va_get (D := G) (ci := 5) (v := .ref st) (C := RX6) (T := TX6) (N := 3) hx hb hts (by decide +kernel) hown hK hP 0 rfl rfl 2 (by decide) (hts (.fieldLink RX6 38 "SturmianWords" "state" "LSturmianWords$State;") (by decide +kernel)) (fun _ h9 => h9) rfl dX6_invertMorphism_13 ?_
  refine va_getN (D := G) (ci := 3) (v := .ref wo) (C := RX4) (T := TX4) (N := 2) hx hb hts (by decide +kernel) hown hK hI 0 rfl rfl 1 (by decide) (va_Nw.use rfl (hKK.2 (.fieldLinkNest RX6 96 "SturmianWords$State" "word" "LSturmianWords$Word;" "SturmianWords") (by decide +kernel))) (fun _ h9 => h9) rfl dX6_invertMorphism_16 ?_
  have hPc := hP.sub (ws' := []) [] rfl
  have hDc := (hD.sub (ws' := []) [] (by decide) rfl).weaken (B := fun _ => True) (fun _ _ _ _ => trivial)
  have hFc := va_free (wc := []) hD hS hA [] rfl
  have hIc : va_P G vwCl [(wo, .inr (4, [.long (lZ b), .int (iZ n)]))] H := (hI.sub (ws' := [(wo, .inr (4, [.long (lZ b), .int (iZ n)]))]) [2] rfl)
  have hIAc : NA (va_A [] H.size) [(wo, .inr (4, [.long (lZ b), .int (iZ n)]))] := NA.cons (fun z => hIA.at 2 rfl (hFc _ z)) (NA.nil)
  refine z_callE (A := A) (va_runV (As := [.ref wo]) (rest := []) ⟨hx, hb, hml, hown, hts⟩ (c_X2_originOf lau G cy ad mi wo H.size b n (by first | omega | assumption) (by first | omega | assumption) (by first | omega | assumption) (by first | omega | assumption)) (cwV 1 hts gX6_invertMorphism_X2_originOf rfl rfl rfl (by decide +kernel) ⟨Nat.le_of_ble_eq_true rfl, Nat.le_of_ble_eq_true rfl⟩) ⟨P2_blind, va_recvE hEN hmi hS, P2_mk hKK (va_En.narrow (va_En.kept hEN hS.2.1) hFc) (⟨rfl, hPc, hDc, hIc, hIAc⟩)⟩ rfl rfl hl.1 rfl (lv_room (Nat.le_of_ble_eq_true rfl)) dX6_invertMorphism_19 ⟨(show 0 + 1 ≤ 2 by omega), (show 0 + 2 ≤ 4 by omega)⟩) hS.2.2 hFc (fun v H1 locs1 hR hL1 => ?_)
  obtain ⟨qo_19, rfl, hq19, hP1, hD1, hF1⟩ := hR
  obtain ⟨hP, hD⟩ := va_join (wr := [(xa, .inr (5, [.ref hi, .ref ci, .ref st])), (hi, .inr (1, [.ref ra, .int (iZ nx), .int (iZ kp)])), (ra, .inl (cy 2, 6, .inr (.inr (.inr (.inr (qf rw9))))))]) (w1 := [(qo_19, .inr (4, [.long (lZ (pI (mi : Int) b n 61).2.1), .int (iZ (pI (mi : Int) b n 61).2.2)]))]) hP hD [] [0, 1, 2] rfl rfl (by decide) (by decide) hF1.2 hFc hP1 hD1
  have hS : va_S A s.heap H1 locs1 := Fh.S ((Fh.of hS).tr hF1 (fun q _ h => hFc q h)) hL1
  clear hPc hDc hFc hP1 hD1 hF1 hL1 hIc hIAc
  generalize H1 = H at hP hS ⊢
  have hP : va_P G vwCl [(xa, .inr (5, [.ref hi, .ref ci, .ref st])), (hi, .inr (1, [.ref ra, .int (iZ nx), .int (iZ kp)])), (ra, .inl (cy 2, 6, .inr (.inr (.inr (.inr (qf rw9)))))), (qo_19, .inr (4, [.long (lZ (pI (mi : Int) b n 61).2.1), .int (iZ (pI (mi : Int) b n 61).2.2)]))] H := hP
  have hD : va_D A [(xa, .inr (5, [.ref hi, .ref ci, .ref st])), (hi, .inr (1, [.ref ra, .int (iZ nx), .int (iZ kp)])), (ra, .inl (cy 2, 6, .inr (.inr (.inr (.inr (qf rw9)))))), (qo_19, .inr (4, [.long (lZ (pI (mi : Int) b n 61).2.1), .int (iZ (pI (mi : Int) b n 61).2.2)]))] := hD
  refine W.eq (g2 := F0 mt 22 ls [.ref qo_19]) rfl ?_
  have hI : va_P G vwCl [(st, .inr (3, [.ref sl, .ref wo])), (sl, .inr (2, [.int (iZ p), .int (iZ q), .int (iZ c)])), (wo, .inr (4, [.long (lZ b), .int (iZ n)]))] H := im_keep2 hI0 hIA (Fh.of hS)
  refine lv_astore_n (lv' := [(3, .ref qo_19), (2, .ref (ad mi)), (0, .ref xa), (1, .int (iZ mo))]) hx hb dX6_invertMorphism_22 rfl hl (by decide) rfl (fun ls hl => ?_)
  refine lv_aload_n hx hb dX6_invertMorphism_23 rfl (lv_at hl 0 rfl) ?_
  refine lv_ifnonnull (tgt := 30) hx hb dX6_invertMorphism_24 (by decide) ?_
  refine lv_aload_n hx hb dX6_invertMorphism_30 rfl (lv_at hl 2 rfl) ?_
  refine lv_aload_n hx hb dX6_invertMorphism_31 rfl (lv_at hl 0 rfl) ?_
  have hPc := hP.sub (ws' := [(xa, .inr (5, [.ref hi, .ref ci, .ref st])), (hi, .inr (1, [.ref ra, .int (iZ nx), .int (iZ kp)])), (ra, .inl (cy 2, 6, .inr (.inr (.inr (.inr (qf rw9))))))]) [0, 1, 2] rfl
  have hDc := (hD.sub (ws' := [(xa, .inr (5, [.ref hi, .ref ci, .ref st])), (hi, .inr (1, [.ref ra, .int (iZ nx), .int (iZ kp)])), (ra, .inl (cy 2, 6, .inr (.inr (.inr (.inr (qf rw9))))))]) [0, 1, 2] (by decide) rfl).weaken (B := fun _ => True) (fun _ _ _ _ => trivial)
  have hFc := va_free (wc := [(xa, .inr (5, [.ref hi, .ref ci, .ref st])), (hi, .inr (1, [.ref ra, .int (iZ nx), .int (iZ kp)])), (ra, .inl (cy 2, 6, .inr (.inr (.inr (.inr (qf rw9))))))]) hD hS hA [0, 1, 2] rfl
  have hIc : va_P G vwCl [(st, .inr (3, [.ref sl, .ref wo]))] H := (hI.sub (ws' := [(st, .inr (3, [.ref sl, .ref wo]))]) [0] rfl)
  have hIAc : NA (va_A [(xa, .inr (5, [.ref hi, .ref ci, .ref st])), (hi, .inr (1, [.ref ra, .int (iZ nx), .int (iZ kp)])), (ra, .inl (cy 2, 6, .inr (.inr (.inr (.inr (qf rw9))))))] H.size) [(st, .inr (3, [.ref sl, .ref wo]))] := NA.cons (fun z => hIA.at 0 rfl (hFc _ z)) (NA.nil)
  refine z_callE (A := A) (va_runV (As := [.ref qo_19]) (rest := []) ⟨hx, hb, hml, hown, hts⟩ (c_X6_changeWord lau G cy xa hi ci st ra sl wo qo_19 H.size nx kp rw9 (by first | omega | assumption) (by first | omega | assumption)) (cwV 1 hts gX6_invertMorphism_X6_changeWord rfl rfl rfl (by decide +kernel) ⟨Nat.le_of_ble_eq_true rfl, Nat.le_of_ble_eq_true rfl⟩) ⟨P1_blind, va_recv hK hP (ci := 5) (q0 := 0) rfl rfl, P1_mk hKK (⟨rfl, hPc, hDc, hIc, hIAc⟩)⟩ rfl rfl hl.1 rfl (lv_room (Nat.le_of_ble_eq_true rfl)) dX6_invertMorphism_32 ⟨(show 1 + 1 ≤ 2 by omega), (show 2 + 2 ≤ 4 by omega)⟩) hS.2.2 hFc (fun v H1 locs1 hR hL1 => ?_)
  obtain ⟨ns_32, rfl, hq32, hP1, hD1, hF1⟩ := hR
  obtain ⟨hP, hD⟩ := va_join (wr := [(qo_19, .inr (4, [.long (lZ (pI (mi : Int) b n 61).2.1), .int (iZ (pI (mi : Int) b n 61).2.2)]))]) (w1 := [(xa, .inr (5, [.ref hi, .ref ci, .ref ns_32])), (hi, .inr (1, [.ref ra, .int (iZ (nxF nx)), .int (iZ (kpF kp))])), (ra, .inl (cy 2, 6, .inr (.inr (.inr (.inr (qf (upq rw9 nx (some st)))))))), (ns_32, .inr (3, [.ref sl, .ref qo_19]))]) hP hD [0, 1, 2] [3] rfl rfl (by decide) (by decide) hF1.2 hFc hP1 hD1
  have hS : va_S A s.heap H1 locs1 := Fh.S ((Fh.of hS).tr hF1 (fun q _ h => hFc q h)) hL1
  clear hPc hDc hFc hP1 hD1 hF1 hL1 hIc hIAc
  generalize H1 = H at hP hS ⊢
  have hP : va_P G vwCl [(qo_19, .inr (4, [.long (lZ (pI (mi : Int) b n 61).2.1), .int (iZ (pI (mi : Int) b n 61).2.2)])), (xa, .inr (5, [.ref hi, .ref ci, .ref ns_32])), (hi, .inr (1, [.ref ra, .int (iZ (nxF nx)), .int (iZ (kpF kp))])), (ra, .inl (cy 2, 6, .inr (.inr (.inr (.inr (qf (upq rw9 nx (some st)))))))), (ns_32, .inr (3, [.ref sl, .ref qo_19]))] H := hP
  have hD : va_D A [(qo_19, .inr (4, [.long (lZ (pI (mi : Int) b n 61).2.1), .int (iZ (pI (mi : Int) b n 61).2.2)])), (xa, .inr (5, [.ref hi, .ref ci, .ref ns_32])), (hi, .inr (1, [.ref ra, .int (iZ (nxF nx)), .int (iZ (kpF kp))])), (ra, .inl (cy 2, 6, .inr (.inr (.inr (.inr (qf (upq rw9 nx (some st)))))))), (ns_32, .inr (3, [.ref sl, .ref qo_19]))] := hD
  refine W.eq (g2 := F0 mt 35 ls []) rfl ?_
  have hI : va_P G vwCl [(st, .inr (3, [.ref sl, .ref wo])), (sl, .inr (2, [.int (iZ p), .int (iZ q), .int (iZ c)])), (wo, .inr (4, [.long (lZ b), .int (iZ n)]))] H := im_keep2 hI0 hIA (Fh.of hS)
  refine lv_aload_n hx hb dX6_invertMorphism_35 rfl (lv_at hl 0 rfl) ?_
  refine va_getN (D := G) (ci := 4) (v := .int (iZ (pI (mi : Int) b n 61).2.2)) (C := RX5) (T := TX5) (N := 2) hx hb hts (by decide +kernel) hown hK hP 0 rfl rfl 1 (by decide) (va_Nw.use rfl (hKK.2 (.fieldLinkNest RX6 93 "SturmianWords$Word" "size" "I" "SturmianWords") (by decide +kernel))) (fun _ h9 => h9) rfl dX6_invertMorphism_36 ?_
  have hP := hP.sub (ws' := [(xa, .inr (5, [.ref hi, .ref ci, .ref ns_32])), (hi, .inr (1, [.ref ra, .int (iZ (nxF nx)), .int (iZ (kpF kp))])), (ra, .inl (cy 2, 6, .inr (.inr (.inr (.inr (qf (upq rw9 nx (some st)))))))), (ns_32, .inr (3, [.ref sl, .ref qo_19])), (qo_19, .inr (4, [.long (lZ (pI (mi : Int) b n 61).2.1), .int (iZ (pI (mi : Int) b n 61).2.2)]))]) [1, 2, 3, 4, 0] rfl
  have hD := hD.sub (ws' := [(xa, .inr (5, [.ref hi, .ref ci, .ref ns_32])), (hi, .inr (1, [.ref ra, .int (iZ (nxF nx)), .int (iZ (kpF kp))])), (ra, .inl (cy 2, 6, .inr (.inr (.inr (.inr (qf (upq rw9 nx (some st)))))))), (ns_32, .inr (3, [.ref sl, .ref qo_19])), (qo_19, .inr (4, [.long (lZ (pI (mi : Int) b n 61).2.1), .int (iZ (pI (mi : Int) b n 61).2.2)]))]) [1, 2, 3, 4, 0] (by decide) rfl
  exact z_iretE hx hb hr hlocks dX6_invertMorphism_39 hS.2.2 ⟨(show 2 ≤ 2 by omega), (show 4 ≤ 4 by omega)⟩ ⟨ns_32, qo_19, (rfl), (trivial), (hP), (hD), Fh.of hS⟩
