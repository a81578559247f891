set_option maxHeartbeats 4000000 in
set_option maxRecDepth 100000 in
theorem c_X5_differentPalindromes (lau : Launch) (G : va_G) (cy : Nat → ClassId) (h0 : Nat) (sz : Nat) (b n : Int) (hn : 0 ≤ n ∧ n ≤ 60) (hw : 0 ≤ b ∧ b < pw n) : Met lau yX5_differentPalindromes wsX5_differentPalindromes ({ frames := 3, cells := 1, slots := 2, locals := 62 }) (P1 G cy [.ref h0] (fun H => H.size = sz ∧ va_P G vwCl [] H ∧ va_D (fun _ => True) [] ∧ va_P G vwCl [(h0, .inr (4, [.long (lZ b), .int (iZ n)]))] H ∧ NA (va_A [] sz) [(h0, .inr (4, [.long (lZ b), .int (iZ n)]))])) (Q1 (fun rv H0 H1 => rv = some (.int (iZ (1 + sm (fun f => cnt (fun k => palC b n k (f + 1) ∧ newP b n k (f + 1)) (n - f)) n))) ∧ (True) ∧ va_P G vwCl [] H1 ∧ va_D (va_A [] sz) [] ∧ Fh (va_A [] sz) H0 H1)) 1 2 (va_A [] sz) := by
  refine z_head (lv := [(0, .ref h0)]) RX5 (by decide) rfl rfl (Nat.le_of_ble_eq_true rfl) rfl ?_
  intro pr ev s mt below meth cd ls hx hb hr hlocks hml hown hname hts hKK hP hl
  have hK := hKK.1
  obtain ⟨hsz, hP, hD0, hI0, hIA⟩ := hP
  subst hsz
  have hD := hD0.self (sz := s.heap.size)
  generalize hAe : va_A [] s.heap.size = A at hD hIA ⊢
  have hA : ∀ q : Nat, s.heap.size ≤ q → A q := fun q h => by rw [← hAe]; exact Or.inr h
  have hS : va_S A s.heap s.heap [] := va_S.rf
  have hP : va_P G vwCl [] s.heap := hP
  have hI : va_P G vwCl [(h0, .inr (4, [.long (lZ b), .int (iZ n)]))] s.heap := hI0
  have hp61 := pw_61 hn.2
  have hrv : 0 ≤ rvB b n ∧ rvB b n < pw n := nat_r (P := fun k => 0 ≤ rvB b k ∧ rvB b k < pw k) (rvB_r (b := b)) hn.1
  refine lv_aload_n hx hb dX5_differentPalindromes_0 rfl (lv_at hl 0 rfl) ?_
  have hPc := hP.sub (ws' := []) [] rfl
  have hDc := (hD.sub (ws' := []) [] (by decide) rfl).weaken (B := fun _ => True) (fun _ _ _ _ => trivial)
  have hFc := va_free (wc := []) hD hS hA [] rfl
  have hIc : va_P G vwCl [(h0, .inr (4, [.long (lZ b), .int (iZ n)]))] s.heap := (hI.sub (ws' := [(h0, .inr (4, [.long (lZ b), .int (iZ n)]))]) [0] rfl)
  have hIAc : NA (va_A [] s.heap.size) [(h0, .inr (4, [.long (lZ b), .int (iZ n)]))] := NA.cons (fun z => hIA.at 0 rfl (hFc _ z)) (NA.nil)
  refine z_callE (A := A) (va_runV (As := []) (rest := []) ⟨hx, hb, hml, hown, hts⟩ (c_X5_reversed lau G cy h0 s.heap.size b n (by first | assumption | omega) (by first | assumption | omega)) (cwV 0 hts gX5_differentPalindromes_X5_reversed rfl rfl rfl (by decide +kernel) ⟨Nat.le_of_ble_eq_true rfl, Nat.le_of_ble_eq_true rfl⟩) ⟨P1_blind, va_recv hK hI (ci := 4) (q0 := 0) rfl rfl, P1_mk hKK (⟨rfl, hPc, hDc, hIc, hIAc⟩)⟩ rfl rfl hl.1 rfl (lv_room (Nat.le_of_ble_eq_true rfl)) dX5_differentPalindromes_1 ⟨(show 0 + 1 ≤ 1 by omega), (show 0 + 2 ≤ 2 by omega)⟩) hS.2.2 hFc (fun v H1 locs1 hR hL1 => ?_)
  obtain ⟨qo_1, rfl, hq1, hP1, hD1, hF1⟩ := hR
  obtain ⟨hP, hD⟩ := va_join (wr := []) (w1 := [(qo_1, .inr (4, [.long (lZ (rvB b n)), .int (iZ n)]))]) hP hD [] [] rfl rfl (by decide) (by decide) hF1.2 hFc hP1 hD1
  have hS : va_S A s.heap H1 locs1 := Fh.S ((Fh.of hS).tr hF1 (fun q _ h => hFc q h)) hL1
  clear hPc hDc hFc hP1 hD1 hF1 hL1 hIc hIAc
  generalize H1 = H at hP hS ⊢
  have hP : va_P G vwCl [(qo_1, .inr (4, [.long (lZ (rvB b n)), .int (iZ n)]))] H := hP
  have hD : va_D A [(qo_1, .inr (4, [.long (lZ (rvB b n)), .int (iZ n)]))] := hD
  refine W.eq (g2 := F0 mt 4 ls [.ref qo_1]) rfl ?_
  have hI : va_P G vwCl [(h0, .inr (4, [.long (lZ b), .int (iZ n)]))] H := im_keep2 hI0 hIA (Fh.of hS)
  refine lv_astore_n (lv' := [(1, .ref qo_1), (0, .ref h0)]) hx hb dX5_differentPalindromes_4 rfl hl (by decide) rfl (fun ls hl => ?_)
  refine lv_iconst (v := iZ 1) hx hb dX5_differentPalindromes_5 rfl ?_
  refine lv_istore_n (lv' := [(2, .int (iZ 1)), (1, .ref qo_1), (0, .ref h0)]) hx hb dX5_differentPalindromes_6 rfl hl (by decide) rfl (fun ls hl => ?_)
  refine lv_iconst (v := iZ 1) hx hb dX5_differentPalindromes_7 rfl ?_
  refine lv_istore_n (lv' := [(3, .int (iZ 1)), (2, .int (iZ 1)), (1, .ref qo_1), (0, .ref h0)]) hx hb dX5_differentPalindromes_8 rfl hl (by decide) rfl (fun ls hl => ?_)
  refine z_loop2 (nL := 5) (fun (m : Int) (f : Int) => [(0, .ref h0), (1, .ref qo_1), (2, .int (iZ m)), (3, .int (iZ f))]) (fun (m : Int) (f : Int) => (1 ≤ f ∧ f ≤ n + 1) ∧ (m = 1 + sm (fun f => cnt (fun k => palC b n k (f + 1) ∧ newP b n k (f + 1)) (n - f)) (f - 1))) (fun (m : Int) (f : Int) => n + 1 - f) (a1 := 1) (a2 := 1) ⟨(by omega), (by rw [show (1 : Int) - 1 = 0 by omega, sm_0]; rfl)⟩ (lv_sub hl [3, 2, 1, 0] rfl) ?_
  rintro m f ⟨i1, i2⟩ ih_9 ls hl
  refine lv_iload_n hx hb dX5_differentPalindromes_9 rfl (lv_at hl 3 rfl) ?_
  refine lv_aload_n hx hb dX5_differentPalindromes_10 rfl (lv_at hl 0 rfl) ?_
  refine va_get (D := G) (ci := 4) (v := .int (iZ n)) (C := RX5) (T := TX5) (N := 2) hx hb hts (by decide +kernel) hown hK hI 0 rfl rfl 1 (by decide) (hts (.fieldLink RX5 15 "SturmianWords$Word" "size" "I") (by decide +kernel)) (fun _ h9 => h9) rfl dX5_differentPalindromes_11 ?_
  refine z_icmp_gt (tgt := 67) hx hb dX5_differentPalindromes_14 (by decide) (by omega) (fun c_14 => ?_) (fun c_14 => ?_)
  · refine lv_iload_n hx hb dX5_differentPalindromes_67 rfl (lv_at hl 2 rfl) ?_
    have hP := hP.sub (ws' := []) [] rfl
    have hD := hD.sub (ws' := []) [] (by decide) rfl
    exact z_iretE hx hb hr hlocks dX5_differentPalindromes_68 hS.2.2 ⟨(show 1 ≤ 1 by omega), (show 2 ≤ 2 by omega)⟩ ⟨(sI (by rw [i2, show f - 1 = n by omega])), (trivial), (hP), (hD), Fh.of hS⟩
  · refine lv_iconst (v := iZ 0) hx hb dX5_differentPalindromes_17 rfl ?_
    refine lv_istore (lv' := [(4, .int (iZ 0)), (0, .ref h0), (1, .ref qo_1), (2, .int (iZ m)), (3, .int (iZ f))]) hx hb dX5_differentPalindromes_18 hl (by decide) rfl (fun ls hl => ?_)
    refine z_loop2 (nL := 5) (fun (m2 : Int) (i : Int) => [(0, .ref h0), (1, .ref qo_1), (2, .int (iZ m2)), (3, .int (iZ f)), (4, .int (iZ i))]) (fun (m2 : Int) (i : Int) => (0 ≤ i ∧ i ≤ n - f + 1) ∧ (m2 = m + cnt (fun k => palC b n k f ∧ newP b n k f) i)) (fun (m2 : Int) (i : Int) => n - f + 1 - i) (a1 := m) (a2 := 0) ⟨(by omega), (by rw [cnt_0 (Int.le_refl 0), Int.add_zero])⟩ (lv_sub hl [1, 2, 3, 4, 0] rfl) ?_
    rintro m2 i ⟨j1, j2⟩ ih_20 ls hl
    refine lv_iload hx hb dX5_differentPalindromes_20 (lv_at hl 4 rfl) ?_
    refine lv_aload_n hx hb dX5_differentPalindromes_22 rfl (lv_at hl 0 rfl) ?_
    refine va_get (D := G) (ci := 4) (v := .int (iZ n)) (C := RX5) (T := TX5) (N := 2) hx hb hts (by decide +kernel) hown hK hI 0 rfl rfl 1 (by decide) (hts (.fieldLink RX5 15 "SturmianWords$Word" "size" "I") (by decide +kernel)) (fun _ h9 => h9) rfl dX5_differentPalindromes_23 ?_
    refine lv_iload_n hx hb dX5_differentPalindromes_26 rfl (lv_at hl 3 rfl) ?_
    refine z_isub hx hb dX5_differentPalindromes_27 ?_
    refine z_icmp_gt (tgt := 61) hx hb dX5_differentPalindromes_28 (by decide) (by omega) (fun c_28 => ?_) (fun c_28 => ?_)
    · refine lv_iinc (v := iZ (f + 1)) (lv' := [(3, .int (iZ (f + 1))), (0, .ref h0), (1, .ref qo_1), (2, .int (iZ m2)), (4, .int (iZ i))]) hx hb dX5_differentPalindromes_61 hl (k := 3) rfl (iZ_add _ _) (by decide) rfl (fun ls hl => ?_)
      refine lv_goto (tgt := 9) hx hb dX5_differentPalindromes_64 (by decide) ?_
      exact ih_9 m2 (f + 1) ⟨(by omega), (by rw [j2, i2, show f + 1 - 1 = f - 1 + 1 by omega, sm_s (by omega), show i = n - (f - 1) by omega]; simp only [Int.sub_add_cancel]; omega)⟩ ⟨by omega, by omega⟩ _ (lv_sub hl [1, 2, 3, 0] rfl)
    · refine lv_aload_n hx hb dX5_differentPalindromes_31 rfl (lv_at hl 0 rfl) ?_
      refine lv_iload hx hb dX5_differentPalindromes_32 (lv_at hl 4 rfl) ?_
      refine lv_iload_n hx hb dX5_differentPalindromes_34 rfl (lv_at hl 3 rfl) ?_
      refine lv_aload_n hx hb dX5_differentPalindromes_35 rfl (lv_at hl 1 rfl) ?_
      refine z_calli (va_runV (As := [.int (iZ i), .int (iZ f), .ref qo_1]) (rest := []) ⟨hx, hb, hml, hown, hts⟩ (c_X5_isPalindrome lau G cy h0 qo_1 b n i f (rvB b n) (by first | assumption | omega) (by first | assumption | omega) (by first | assumption | omega) (by first | assumption | omega) (by first | assumption | omega) (by first | assumption | omega)) (cwV 3 hts gX5_differentPalindromes_X5_isPalindrome rfl rfl rfl (by decide +kernel) ⟨Nat.le_of_ble_eq_true rfl, Nat.le_of_ble_eq_true rfl⟩) ⟨P1_blind, va_recv hK hI (ci := 4) (q0 := 0) rfl rfl, P1_mk hKK (((hI.sub (ws' := [(h0, .inr (4, [.long (lZ b), .int (iZ n)]))]) [0] rfl).app (hP.sub (ws' := [(qo_1, .inr (4, [.long (lZ (rvB b n)), .int (iZ n)]))]) [0] rfl)))⟩ rfl rfl hl.1 rfl (lv_room (Nat.le_of_ble_eq_true rfl)) dX5_differentPalindromes_36 ⟨(show 1 + 0 ≤ 1 by omega), (show 2 + 0 ≤ 2 by omega)⟩) ?_
      refine z_ifB_eq (tgt := 55) hx hb dX5_differentPalindromes_39 (by decide) (fun c_39 => ?_) (fun c_39 => ?_)
      · refine lv_iinc (v := iZ (i + 1)) (lv' := [(4, .int (iZ (i + 1))), (0, .ref h0), (1, .ref qo_1), (2, .int (iZ m2)), (3, .int (iZ f))]) hx hb dX5_differentPalindromes_55 hl (k := 4) rfl (iZ_add _ _) (by decide) rfl (fun ls hl => ?_)
        refine lv_goto (tgt := 20) hx hb dX5_differentPalindromes_58 (by decide) ?_
        exact ih_20 m2 (i + 1) ⟨(by omega), (by rw [j2, cnt_f (P := fun k => palC b n k f ∧ newP b n k f) (by omega) (fun z => c_39 z.1)])⟩ ⟨by omega, by omega⟩ _ (lv_sub hl [1, 2, 3, 4, 0] rfl)
      · refine lv_aload_n hx hb dX5_differentPalindromes_42 rfl (lv_at hl 0 rfl) ?_
        refine lv_iload hx hb dX5_differentPalindromes_43 (lv_at hl 4 rfl) ?_
        refine lv_iload_n hx hb dX5_differentPalindromes_45 rfl (lv_at hl 3 rfl) ?_
        refine z_calli (va_runV (As := [.int (iZ i), .int (iZ f)]) (rest := []) ⟨hx, hb, hml, hown, hts⟩ (c_X5_isNew lau G cy h0 b n i f (by first | assumption | omega) (by first | assumption | omega) (by first | assumption | omega) (by first | assumption | omega) (by first | assumption | omega)) (cwV 2 hts gX5_differentPalindromes_X5_isNew rfl rfl rfl (by decide +kernel) ⟨Nat.le_of_ble_eq_true rfl, Nat.le_of_ble_eq_true rfl⟩) ⟨P1_blind, va_recv hK hI (ci := 4) (q0 := 0) rfl rfl, P1_mk hKK (hI.sub [0] rfl)⟩ rfl rfl hl.1 rfl (lv_room (Nat.le_of_ble_eq_true rfl)) dX5_differentPalindromes_46 ⟨(show 1 + 0 ≤ 1 by omega), (show 2 + 0 ≤ 2 by omega)⟩) ?_
        refine z_ifB_eq (tgt := 55) hx hb dX5_differentPalindromes_49 (by decide) (fun c_49 => ?_) (fun c_49 => ?_)
        · refine lv_iinc (v := iZ (i + 1)) (lv' := [(4, .int (iZ (i + 1))), (0, .ref h0), (1, .ref qo_1), (2, .int (iZ m2)), (3, .int (iZ f))]) hx hb dX5_differentPalindromes_55 hl (k := 4) rfl (iZ_add _ _) (by decide) rfl (fun ls hl => ?_)
          refine lv_goto (tgt := 20) hx hb dX5_differentPalindromes_58 (by decide) ?_
          exact ih_20 m2 (i + 1) ⟨(by omega), (by rw [j2, cnt_f (P := fun k => palC b n k f ∧ newP b n k f) (by omega) (fun z => c_49 z.2)])⟩ ⟨by omega, by omega⟩ _ (lv_sub hl [1, 2, 3, 4, 0] rfl)
        · refine lv_iinc (v := iZ (m2 + 1)) (lv' := [(2, .int (iZ (m2 + 1))), (0, .ref h0), (1, .ref qo_1), (3, .int (iZ f)), (4, .int (iZ i))]) hx hb dX5_differentPalindromes_52 hl (k := 2) rfl (iZ_add _ _) (by decide) rfl (fun ls hl => ?_)
          refine lv_iinc (v := iZ (i + 1)) (lv' := [(4, .int (iZ (i + 1))), (2, .int (iZ (m2 + 1))), (0, .ref h0), (1, .ref qo_1), (3, .int (iZ f))]) hx hb dX5_differentPalindromes_55 hl (k := 4) rfl (iZ_add _ _) (by decide) rfl (fun ls hl => ?_)
          refine lv_goto (tgt := 20) hx hb dX5_differentPalindromes_58 (by decide) ?_
          exact ih_20 (m2 + 1) (i + 1) ⟨(by omega), (by rw [j2, cnt_t (P := fun k => palC b n k f ∧ newP b n k f) (by omega) ⟨c_39, c_49⟩]; omega)⟩ ⟨by omega, by omega⟩ _ (lv_sub hl [2, 3, 1, 4, 0] rfl)
set_option maxHeartbeats 4000000 in
set_option maxRecDepth 100000 in
theorem c_X3_standardWord (lau : Launch) (G : va_G) (cy : Nat → ClassId) (h0 : Nat) (sz : Nat) (p q c kk : Int) (hp : 0 ≤ p ∧ p ≤ q) (hq : 0 < q ∧ q ≤ 1000) (h1 : -1 ≤ kk ∧ kk ≤ ntm p q ∧ kk ≤ 19) (h4 : ∀ j, 0 ≤ j → j ≤ kk → (stS p q j).1.2 ≤ 60) : Met lau yX3_standardWord wsX3_standardWord ({ frames := 3, cells := 22, slots := 44, locals := 65 }) (P1 G cy [.ref h0, .int (iZ kk)] (fun H => H.size = sz ∧ va_P G vwCl [] H ∧ va_D (fun _ => True) [] ∧ va_P G vwCl [(h0, .inr (2, [.int (iZ p), .int (iZ q), .int (iZ c)]))] H ∧ NA (va_A [] sz) [(h0, .inr (2, [.int (iZ p), .int (iZ q), .int (iZ c)]))])) (Q1 (fun rv H0 H1 => ∃ (qo : Nat), rv = some (.ref qo) ∧ (True) ∧ va_P G vwCl [(qo, .inr (4, [.long (lZ (stW p q kk).1), .int (iZ (stW p q kk).2)]))] H1 ∧ va_D (va_A [] sz) [(qo, .inr (4, [.long (lZ (stW p q kk).1), .int (iZ (stW p q kk).2)]))] ∧ Fh (va_A [] sz) H0 H1)) 22 44 (va_A [] sz) := by
  refine z_head (lv := [(0, .ref h0), (1, .int (iZ kk))]) RX3 (by decide) rfl rfl (Nat.le_of_ble_eq_true rfl) rfl ?_
  intro pr ev s mt below meth cd ls hx hb hr hlocks hml hown hname hts hKK hP hl
  have hK := hKK.1
  obtain ⟨hsz, hP, hD0, hI0, hIA⟩ := hP
  subst hsz
  have hD := hD0.self (sz := s.heap.size)
  generalize hAe : va_A [] s.heap.size = A at hD hIA ⊢
  have hA : ∀ q : Nat, s.heap.size ≤ q → A q := fun q h => by rw [← hAe]; exact Or.inr h
  have hS : va_S A s.heap s.heap [] := va_S.rf
  have hP : va_P G vwCl [] s.heap := hP
  have hI : va_P G vwCl [(h0, .inr (2, [.int (iZ p), .int (iZ q), .int (iZ c)]))] s.heap := hI0
  refine va_new (D := G) (ci := 4) (fs := [.long (lZ 0), .int (iZ 0)]) (C := RX5) (T := TX5) (N := 2) hx hb hts (by decide +kernel) tyX5 tyX5_ok hown (hts (.classLink RX3 29 RX5) (by decide +kernel)) (hts (.instantiable RX5 2) (by decide +kernel)) (hts (.initialized RX5) (by decide +kernel)) hK hP hD hS hA rfl (fun j hj => by rcases (show j = 0 ∨ j = 1 by omega) with rfl | rfl <;> rfl) (show 0 + 1 ≤ 22 by omega) (show 0 + 2 ≤ 44 by omega) dX3_standardWord_0 (fun n0_1 H hP hD hS => ?_)
  have hP : va_P G vwCl [(n0_1, .inr (4, [.long (lZ 0), .int (iZ 0)]))] H := hP
  have hD : va_D A [(n0_1, .inr (4, [.long (lZ 0), .int (iZ 0)]))] := hD
  have hI : va_P G vwCl [(h0, .inr (2, [.int (iZ p), .int (iZ q), .int (iZ c)]))] H := im_keep2 hI0 hIA (Fh.of hS)
  refine lv_dup hx hb dX3_standardWord_3 rfl ?_
  refine lv_lconst (v := lZ 1) hx hb dX3_standardWord_4 rfl ?_
  refine lv_iconst (v := iZ 1) hx hb dX3_standardWord_5 rfl ?_
  have hPc := hP.sub (ws' := [(n0_1, .inr (4, [.long (lZ 0), .int (iZ 0)]))]) [0] rfl
  have hDc := (hD.sub (ws' := [(n0_1, .inr (4, [.long (lZ 0), .int (iZ 0)]))]) [0] (by decide) rfl).weaken (B := fun _ => True) (fun _ _ _ _ => trivial)
  have hFc := va_free (wc := [(n0_1, .inr (4, [.long (lZ 0), .int (iZ 0)]))]) hD hS hA [0] rfl
  refine z_callE (A := A) (va_runI (As := [.long (lZ 1), .int (iZ 1)]) (rest := [.ref n0_1]) ⟨hx, hb, hml, hown, hts⟩ (c_X5_init lau G cy n0_1 H.size 1 1) (cwI 2 hts gX3_standardWord_X5_init rfl rfl rfl (hts (.initialized RX5) (by decide +kernel)) (hts (.methodLink RX3 31 yX5_init) (by decide +kernel)) (hts (.instanceMethod yX5_init) (by decide +kernel)) rfl (by decide +kernel) ⟨Nat.le_of_ble_eq_true rfl, Nat.le_of_ble_eq_true rfl⟩) ⟨P1_blind, P1_mk hKK (⟨rfl, hPc, hDc⟩)⟩ rfl rfl hl.1 rfl (lv_room (Nat.le_of_ble_eq_true rfl)) dX3_standardWord_6 ⟨(show 1 + 0 ≤ 22 by omega), (show 2 + 0 ≤ 44 by omega)⟩) hS.2.2 hFc (fun v H1 locs1 hR hL1 => ?_)
  obtain ⟨rfl, hq6, hP1, hD1, hF1⟩ := hR
  obtain ⟨hP, hD⟩ := va_join (wr := []) (w1 := [(n0_1, .inr (4, [.long (lZ 1), .int (iZ 1)]))]) hP hD [0] [] rfl rfl (by decide) (by decide) hF1.2 hFc hP1 hD1
  have hS : va_S A s.heap H1 locs1 := Fh.S ((Fh.of hS).tr hF1 (fun q _ h => hFc q h)) hL1
  clear hPc hDc hFc hP1 hD1 hF1 hL1
  generalize H1 = H at hP hS ⊢
  have hP : va_P G vwCl [(n0_1, .inr (4, [.long (lZ 1), .int (iZ 1)]))] H := hP
  have hD : va_D A [(n0_1, .inr (4, [.long (lZ 1), .int (iZ 1)]))] := hD
  refine W.eq (g2 := F0 mt 9 ls [.ref n0_1]) rfl ?_
  have hI : va_P G vwCl [(h0, .inr (2, [.int (iZ p), .int (iZ q), .int (iZ c)]))] H := im_keep2 hI0 hIA (Fh.of hS)
  refine lv_astore_n (lv' := [(2, .ref n0_1), (0, .ref h0), (1, .int (iZ kk))]) hx hb dX3_standardWord_9 rfl hl (by decide) rfl (fun ls hl => ?_)
  refine va_new (D := G) (ci := 4) (fs := [.long (lZ 0), .int (iZ 0)]) (C := RX5) (T := TX5) (N := 2) hx hb hts (by decide +kernel) tyX5 tyX5_ok hown (hts (.classLink RX3 29 RX5) (by decide +kernel)) (hts (.instantiable RX5 2) (by decide +kernel)) (hts (.initialized RX5) (by decide +kernel)) hK hP hD hS hA rfl (fun j hj => by rcases (show j = 0 ∨ j = 1 by omega) with rfl | rfl <;> rfl) (show 1 + 1 ≤ 22 by omega) (show 2 + 2 ≤ 44 by omega) dX3_standardWord_10 (fun n10_2 H hP hD hS => ?_)
  have hP : va_P G vwCl [(n0_1, .inr (4, [.long (lZ 1), .int (iZ 1)])), (n10_2, .inr (4, [.long (lZ 0), .int (iZ 0)]))] H := hP
  have hD : va_D A [(n0_1, .inr (4, [.long (lZ 1), .int (iZ 1)])), (n10_2, .inr (4, [.long (lZ 0), .int (iZ 0)]))] := hD
  have hI : va_P G vwCl [(h0, .inr (2, [.int (iZ p), .int (iZ q), .int (iZ c)]))] H := im_keep2 hI0 hIA (Fh.of hS)
  refine lv_dup hx hb dX3_standardWord_13 rfl ?_
  refine lv_lconst (v := lZ 0) hx hb dX3_standardWord_14 rfl ?_
  refine lv_iconst (v := iZ 1) hx hb dX3_standardWord_15 rfl ?_
  have hPc := hP.sub (ws' := [(n10_2, .inr (4, [.long (lZ 0), .int (iZ 0)]))]) [1] rfl
  have hDc := (hD.sub (ws' := [(n10_2, .inr (4, [.long (lZ 0), .int (iZ 0)]))]) [1] (by decide) rfl).weaken (B := fun _ => True) (fun _ _ _ _ => trivial)
  have hFc := va_free (wc := [(n10_2, .inr (4, [.long (lZ 0), .int (iZ 0)]))]) hD hS hA [1] rfl
  refine z_callE (A := A) (va_runI (As := [.long (lZ 0), .int (iZ 1)]) (rest := [.ref n10_2]) ⟨hx, hb, hml, hown, hts⟩ (c_X5_init lau G cy n10_2 H.size 0 1) (cwI 2 hts gX3_standardWord_X5_init rfl rfl rfl (hts (.initialized RX5) (by decide +kernel)) (hts (.methodLink RX3 31 yX5_init) (by decide +kernel)) (hts (.instanceMethod yX5_init) (by decide +kernel)) rfl (by decide +kernel) ⟨Nat.le_of_ble_eq_true rfl, Nat.le_of_ble_eq_true rfl⟩) ⟨P1_blind, P1_mk hKK (⟨rfl, hPc, hDc⟩)⟩ rfl rfl hl.1 rfl (lv_room (Nat.le_of_ble_eq_true rfl)) dX3_standardWord_16 ⟨(show 2 + 0 ≤ 22 by omega), (show 4 + 0 ≤ 44 by omega)⟩) hS.2.2 hFc (fun v H1 locs1 hR hL1 => ?_)
  obtain ⟨rfl, hq16, hP1, hD1, hF1⟩ := hR
  obtain ⟨hP, hD⟩ := va_join (wr := [(n0_1, .inr (4, [.long (lZ 1), .int (iZ 1)]))]) (w1 := [(n10_2, .inr (4, [.long (lZ 0), .int (iZ 1)]))]) hP hD [1] [0] rfl rfl (by decide) (by decide) hF1.2 hFc hP1 hD1
  have hS : va_S A s.heap H1 locs1 := Fh.S ((Fh.of hS).tr hF1 (fun q _ h => hFc q h)) hL1
  clear hPc hDc hFc hP1 hD1 hF1 hL1
  generalize H1 = H at hP hS ⊢
  have hP : va_P G vwCl [(n0_1, .inr (4, [.long (lZ 1), .int (iZ 1)])), (n10_2, .inr (4, [.long (lZ 0), .int (iZ 1)]))] H := hP
  have hD : va_D A [(n0_1, .inr (4, [.long (lZ 1), .int (iZ 1)])), (n10_2, .inr (4, [.long (lZ 0), .int (iZ 1)]))] := hD
  have hP := hP.sub (ws' := [(n0_1, .inr (4, [.long (lZ 1), .int (iZ 1)])), (n10_2, .inr (4, [.long (lZ 0), .int (iZ 1)]))]) [0, 1] rfl
  have hD := hD.sub (ws' := [(n0_1, .inr (4, [.long (lZ 1), .int (iZ 1)])), (n10_2, .inr (4, [.long (lZ 0), .int (iZ 1)]))]) [0, 1] (by decide) rfl
  refine W.eq (g2 := F0 mt 19 ls [.ref n10_2]) rfl ?_
  have hI : va_P G vwCl [(h0, .inr (2, [.int (iZ p), .int (iZ q), .int (iZ c)]))] H := im_keep2 hI0 hIA (Fh.of hS)
  refine lv_astore_n (lv' := [(3, .ref n10_2), (2, .ref n0_1), (0, .ref h0), (1, .int (iZ kk))]) hx hb dX3_standardWord_19 rfl hl (by decide) rfl (fun ls hl => ?_)
  refine lv_iload_n hx hb dX3_standardWord_20 rfl (lv_at hl 3 rfl) ?_
  refine z_if_ge (tgt := 26) hx hb dX3_standardWord_21 (by decide) (by omega) (fun c_21 => ?_) (fun c_21 => ?_)
  · refine lv_iconst (v := iZ 1) hx hb dX3_standardWord_26 rfl ?_
    refine lv_istore (lv' := [(4, .int (iZ 1)), (3, .ref n10_2), (2, .ref n0_1), (0, .ref h0), (1, .int (iZ kk))]) hx hb dX3_standardWord_27 hl (by decide) rfl (fun ls hl => ?_)
    refine z_loopH7 (nL := 7) (A := A) (fun (i : Int) (bw : Nat) (wd : Nat) (wb : Int) (wn : Int) (vb : Int) (vn : Int) => [(0, .ref h0), (1, .int (iZ kk)), (2, .ref bw), (3, .ref wd), (4, .int (iZ i))]) (fun (i : Int) (bw : Nat) (wd : Nat) (wb : Int) (wn : Int) (vb : Int) (vn : Int) (H : Heap) => ((1 ≤ i ∧ i ≤ kk + 1) ∧ (stS p q (i - 1) = ((wb, wn), (vb, vn))) ∧ ((1 ≤ wn ∧ wn ≤ 60) ∧ (0 ≤ wb ∧ wb < pw wn)) ∧ ((1 ≤ vn ∧ vn ≤ 60) ∧ (0 ≤ vb ∧ vb < pw vn)) ∧ (∀ j, 0 ≤ j → j < i → (stS p q j).1.2 ≤ 60)) ∧ va_P G vwCl [(bw, .inr (4, [.long (lZ vb), .int (iZ vn)])), (wd, .inr (4, [.long (lZ wb), .int (iZ wn)]))] H ∧ va_D A [(bw, .inr (4, [.long (lZ vb), .int (iZ vn)])), (wd, .inr (4, [.long (lZ wb), .int (iZ wn)]))] ∧ Fh A s.heap H) (fun (i : Int) (bw : Nat) (wd : Nat) (wb : Int) (wn : Int) (vb : Int) (vn : Int) => kk + 1 - i) (fun (i : Int) (bw : Nat) (wd : Nat) (wb : Int) (wn : Int) (vb : Int) (vn : Int) => (2 + (i - 1).toNat)) (fun (i : Int) (bw : Nat) (wd : Nat) (wb : Int) (wn : Int) (vb : Int) (vn : Int) => (4 + 2 * (i - 1).toNat)) (a1 := 1) (a2 := n0_1) (a3 := n10_2) (a4 := 0) (a5 := 1) (a6 := 1) (a7 := 1) ⟨⟨(by omega), (by rw [show (1 : Int) - 1 = 0 by decide, stS_0]), (⟨by decide, by decide⟩), (⟨by decide, by decide⟩), (fun j q1 q2 => by rw [show j = 0 by omega, stS_0]; decide)⟩, hP, hD, Fh.of hS⟩ hS.2.2 (lv_sub hl [3, 4, 2, 1, 0] rfl) ?_
    rintro i bw wd wb wn vb vn H locs ⟨⟨i1, i2, i3, i4, i8⟩, hP, hD, hFr⟩ hLc ih_29 ls hl
    have hS : va_S A s.heap H locs := Fh.S hFr hLc
    have hI : va_P G vwCl [(h0, .inr (2, [.int (iZ p), .int (iZ q), .int (iZ c)]))] H := im_keep2 hI0 hIA (Fh.of hS)
    refine lv_iload hx hb dX3_standardWord_29 (lv_at hl 4 rfl) ?_
    refine lv_iload_n hx hb dX3_standardWord_31 rfl (lv_at hl 1 rfl) ?_
    refine z_icmp_gt (tgt := 87) hx hb dX3_standardWord_32 (by decide) (by omega) (fun c_32 => ?_) (fun c_32 => ?_)
    · refine lv_aload_n hx hb dX3_standardWord_87 rfl (lv_at hl 3 rfl) ?_
      have e1 : stW p q kk = (wb, wn) := by unfold stW; rw [if_neg (by omega), show kk = i - 1 by omega, i2]
      have hP := hP.sub (ws' := [(wd, .inr (4, [.long (lZ wb), .int (iZ wn)]))]) [1] rfl
      have hD := hD.sub (ws' := [(wd, .inr (4, [.long (lZ wb), .int (iZ wn)]))]) [1] (by decide) rfl
      exact z_aretE hx hb hr (Or.inl ⟨_, rfl⟩) hlocks dX3_standardWord_88 (Or.inr ⟨_, rfl⟩) hS.2.2 ⟨(show (2 + (i - 1).toNat) ≤ 22 by omega), (show (4 + 2 * (i - 1).toNat) ≤ 44 by omega)⟩ ⟨wd, (rfl), (trivial), (by rw [e1]; exact hP), (by rw [e1]; exact hD), Fh.of hS⟩
    · have hxz := ntm_pos (p := p) (q := q) (j := i - 1) (by omega) (by omega)
      have hcf := cft_pos (p := p) (q := q) (k := i - 1) hp hq.1 (by omega) hxz
      rw [show i - 1 + 1 = i by omega] at hcf
      refine lv_iload hx hb dX3_standardWord_35 (lv_at hl 4 rfl) ?_
      refine lv_iconst (v := iZ 1) hx hb dX3_standardWord_37 rfl ?_
      refine z_icmp_ne (tgt := 52) hx hb dX3_standardWord_38 (by decide) (by omega) (fun c_38 => ?_) (fun c_38 => ?_)
      · refine lv_aload_n hx hb dX3_standardWord_52 rfl (lv_at hl 0 rfl) ?_
        refine lv_iload hx hb dX3_standardWord_53 (lv_at hl 4 rfl) ?_
        refine z_calli (va_runV (As := [.int (iZ i)]) (rest := []) ⟨hx, hb, hml, hown, hts⟩ (c_X3_term lau G cy h0 p q c i (by first | assumption | omega) (by first | assumption | omega) (by first | assumption | omega)) (cwV 1 hts gX3_standardWord_X3_term rfl rfl rfl (by decide +kernel) ⟨Nat.le_of_ble_eq_true rfl, Nat.le_of_ble_eq_true rfl⟩) ⟨P1_blind, va_recv hK hI (ci := 2) (q0 := 0) rfl rfl, P1_mk hKK (hI.sub [0] rfl)⟩ rfl rfl hl.1 rfl (lv_room (Nat.le_of_ble_eq_true rfl)) dX3_standardWord_55 ⟨(show (2 + (i - 1).toNat) + 0 ≤ 22 by omega), (show (4 + 2 * (i - 1).toNat) + 0 ≤ 44 by omega)⟩) ?_
        refine z_tope (fun tt ett => ?_)
        refine lv_istore (lv' := [(5, .int (iZ tt)), (0, .ref h0), (1, .int (iZ kk)), (2, .ref bw), (3, .ref wd), (4, .int (iZ i))]) hx hb dX3_standardWord_58 hl (by decide) rfl (fun ls hl => ?_)
        have htt : tt = stT p q (i - 1) := by unfold stT; rw [show i - 1 + 1 = i by omega]; split <;> omega
        have hnn : 0 ≤ wn * tt := Int.mul_nonneg (by omega) (by omega)
        have hsm : wn * tt + vn ≤ 60 := by have e := h4 i (by omega) (by omega); rw [stS_st (by omega), i2, ← htt] at e; exact e
        refine lv_aload_n hx hb dX3_standardWord_60 rfl (lv_at hl 4 rfl) ?_
        refine lv_iload hx hb dX3_standardWord_61 (lv_at hl 0 rfl) ?_
        refine lv_aload_n hx hb dX3_standardWord_63 rfl (lv_at hl 3 rfl) ?_
        have hPc := hP.sub (ws' := []) [] rfl
        have hDc := (hD.sub (ws' := []) [] (by decide) rfl).weaken (B := fun _ => True) (fun _ _ _ _ => trivial)
        have hFc := va_free (wc := []) hD hS hA [] rfl
        have hIc : va_P G vwCl [(wd, .inr (4, [.long (lZ wb), .int (iZ wn)])), (bw, .inr (4, [.long (lZ vb), .int (iZ vn)]))] H := ((hP.sub (ws' := [(wd, .inr (4, [.long (lZ wb), .int (iZ wn)]))]) [1] rfl).app (hP.sub (ws' := [(bw, .inr (4, [.long (lZ vb), .int (iZ vn)]))]) [0] rfl))
        have hIAc : NA (va_A [] H.size) [(wd, .inr (4, [.long (lZ wb), .int (iZ wn)])), (bw, .inr (4, [.long (lZ vb), .int (iZ vn)]))] := NA.cons (z_nA hP hD [] rfl 1 rfl (by decide)) (NA.cons (z_nA hP hD [] rfl 0 rfl (by decide)) (NA.nil))
        refine z_callE (A := A) (va_runV (As := [.int (iZ tt), .ref bw]) (rest := []) ⟨hx, hb, hml, hown, hts⟩ (c_X5_repeatedThen lau G cy wd bw H.size wb wn tt vb vn (by first | assumption | omega) (by first | assumption | omega) (by first | assumption | omega) (by first | assumption | omega) (by first | assumption | omega) (by first | assumption | omega)) (cwV 2 hts gX3_standardWord_X5_repeatedThen rfl rfl rfl (by decide +kernel) ⟨Nat.le_of_ble_eq_true rfl, Nat.le_of_ble_eq_true rfl⟩) ⟨P1_blind, va_recv hK hP (ci := 4) (q0 := 1) rfl rfl, P1_mk hKK (⟨rfl, hPc, hDc, hIc, hIAc⟩)⟩ rfl rfl hl.1 rfl (lv_room (Nat.le_of_ble_eq_true rfl)) dX3_standardWord_64 ⟨(show (2 + (i - 1).toNat) + 1 ≤ 22 by omega), (show (4 + 2 * (i - 1).toNat) + 2 ≤ 44 by omega)⟩) hS.2.2 hFc (fun v H1 locs1 hR hL1 => ?_)
        obtain ⟨qo_64, rfl, hq64, hP1, hD1, hF1⟩ := hR
        obtain ⟨hP, hD⟩ := va_join (wr := [(bw, .inr (4, [.long (lZ vb), .int (iZ vn)])), (wd, .inr (4, [.long (lZ wb), .int (iZ wn)]))]) (w1 := [(qo_64, .inr (4, [.long (lZ (rpB wb wn tt * pw vn + vb)), .int (iZ (wn * tt + vn))]))]) hP hD [] [0, 1] rfl rfl (by decide) (by decide) hF1.2 hFc hP1 hD1
        have hS : va_S A s.heap H1 locs1 := Fh.S ((Fh.of hS).tr hF1 (fun q _ h => hFc q h)) hL1
        clear hPc hDc hFc hP1 hD1 hF1 hL1 hIc hIAc
        generalize H1 = H at hP hS ⊢
        have hP : va_P G vwCl [(bw, .inr (4, [.long (lZ vb), .int (iZ vn)])), (wd, .inr (4, [.long (lZ wb), .int (iZ wn)])), (qo_64, .inr (4, [.long (lZ (rpB wb wn tt * pw vn + vb)), .int (iZ (wn * tt + vn))]))] H := hP
        have hD : va_D A [(bw, .inr (4, [.long (lZ vb), .int (iZ vn)])), (wd, .inr (4, [.long (lZ wb), .int (iZ wn)])), (qo_64, .inr (4, [.long (lZ (rpB wb wn tt * pw vn + vb)), .int (iZ (wn * tt + vn))]))] := hD
        refine W.eq (g2 := F0 mt 67 ls [.ref qo_64]) rfl ?_
        have hI : va_P G vwCl [(h0, .inr (2, [.int (iZ p), .int (iZ q), .int (iZ c)]))] H := im_keep2 hI0 hIA (Fh.of hS)
        refine lv_astore (lv' := [(6, .ref qo_64), (5, .int (iZ tt)), (0, .ref h0), (1, .int (iZ kk)), (2, .ref bw), (3, .ref wd), (4, .int (iZ i))]) hx hb dX3_standardWord_67 hl (by decide) rfl (fun ls hl => ?_)
        refine lv_aload hx hb dX3_standardWord_69 (lv_at hl 0 rfl) ?_
        refine lv_ifnonnull (tgt := 76) hx hb dX3_standardWord_71 (by decide) ?_
        refine lv_aload_n hx hb dX3_standardWord_76 rfl (lv_at hl 5 rfl) ?_
        refine lv_astore_n (lv' := [(2, .ref wd), (6, .ref qo_64), (5, .int (iZ tt)), (0, .ref h0), (1, .int (iZ kk)), (3, .ref wd), (4, .int (iZ i))]) hx hb dX3_standardWord_77 rfl hl (by decide) rfl (fun ls hl => ?_)
        refine lv_aload hx hb dX3_standardWord_78 (lv_at hl 1 rfl) ?_
        refine lv_astore_n (lv' := [(3, .ref qo_64), (2, .ref wd), (6, .ref qo_64), (5, .int (iZ tt)), (0, .ref h0), (1, .int (iZ kk)), (4, .int (iZ i))]) hx hb dX3_standardWord_80 rfl hl (by decide) rfl (fun ls hl => ?_)
        refine lv_iinc (v := iZ (i + 1)) (lv' := [(4, .int (iZ (i + 1))), (3, .ref qo_64), (2, .ref wd), (6, .ref qo_64), (5, .int (iZ tt)), (0, .ref h0), (1, .int (iZ kk))]) hx hb dX3_standardWord_81 hl (k := 6) rfl (iZ_add _ _) (by decide) rfl (fun ls hl => ?_)
        refine lv_goto (tgt := 29) hx hb dX3_standardWord_84 (by decide) ?_
        have hP := hP.sub (ws' := [(wd, .inr (4, [.long (lZ wb), .int (iZ wn)])), (qo_64, .inr (4, [.long (lZ (rpB wb wn tt * pw vn + vb)), .int (iZ (wn * tt + vn))]))]) [1, 2] rfl
        have hD := hD.sub (ws' := [(wd, .inr (4, [.long (lZ wb), .int (iZ wn)])), (qo_64, .inr (4, [.long (lZ (rpB wb wn tt * pw vn + vb)), .int (iZ (wn * tt + vn))]))]) [1, 2] (by decide) rfl
        refine W.widen (k := 2 + (i + 1 - 1).toNat) (n := 4 + 2 * (i + 1 - 1).toNat) (by omega) (by omega) ?_
        exact ih_29 (i + 1) wd qo_64 (rpB wb wn tt * pw vn + vb) (wn * tt + vn) wb wn _ _ ⟨⟨(by omega), (by rw [show i + 1 - 1 = i by omega, stS_st (by omega), i2, ← htt]), (⟨by omega, cat_r (by omega) (by omega) (nat_r (P := fun k => 0 ≤ rpB wb wn k ∧ rpB wb wn k < pw (wn * k)) (rpB_r (by omega) i3.2) (by omega)) i4.2⟩), (i3), (fun j q1 q2 => by rcases (show j < i ∨ j = i by omega) with q | q; (· exact i8 j q1 q); (· rw [q, stS_st (by omega), i2, ← htt]; exact hsm))⟩, hP, hD, Fh.of hS⟩ hS.2.2 ⟨by omega, by omega⟩ _ (lv_sub hl [5, 6, 2, 1, 0] rfl)
      · refine lv_aload_n hx hb dX3_standardWord_41 rfl (lv_at hl 0 rfl) ?_
        refine lv_iload hx hb dX3_standardWord_42 (lv_at hl 4 rfl) ?_
        refine z_calli (va_runV (As := [.int (iZ i)]) (rest := []) ⟨hx, hb, hml, hown, hts⟩ (c_X3_term lau G cy h0 p q c i (by first | assumption | omega) (by first | assumption | omega) (by first | assumption | omega)) (cwV 1 hts gX3_standardWord_X3_term rfl rfl rfl (by decide +kernel) ⟨Nat.le_of_ble_eq_true rfl, Nat.le_of_ble_eq_true rfl⟩) ⟨P1_blind, va_recv hK hI (ci := 2) (q0 := 0) rfl rfl, P1_mk hKK (hI.sub [0] rfl)⟩ rfl rfl hl.1 rfl (lv_room (Nat.le_of_ble_eq_true rfl)) dX3_standardWord_44 ⟨(show (2 + (i - 1).toNat) + 0 ≤ 22 by omega), (show (4 + 2 * (i - 1).toNat) + 0 ≤ 44 by omega)⟩) ?_
        refine lv_iconst (v := iZ 1) hx hb dX3_standardWord_47 rfl ?_
        refine z_isub hx hb dX3_standardWord_48 ?_
        refine lv_goto (tgt := 58) hx hb dX3_standardWord_49 (by decide) ?_
        refine z_tope (fun tt ett => ?_)
        refine lv_istore (lv' := [(5, .int (iZ tt)), (0, .ref h0), (1, .int (iZ kk)), (2, .ref bw), (3, .ref wd), (4, .int (iZ i))]) hx hb dX3_standardWord_58 hl (by decide) rfl (fun ls hl => ?_)
        have htt : tt = stT p q (i - 1) := by unfold stT; rw [show i - 1 + 1 = i by omega]; split <;> omega
        have hnn : 0 ≤ wn * tt := Int.mul_nonneg (by omega) (by omega)
        have hsm : wn * tt + vn ≤ 60 := by have e := h4 i (by omega) (by omega); rw [stS_st (by omega), i2, ← htt] at e; exact e
        refine lv_aload_n hx hb dX3_standardWord_60 rfl (lv_at hl 4 rfl) ?_
        refine lv_iload hx hb dX3_standardWord_61 (lv_at hl 0 rfl) ?_
        refine lv_aload_n hx hb dX3_standardWord_63 rfl (lv_at hl 3 rfl) ?_
        have hPc := hP.sub (ws' := []) [] rfl
        have hDc := (hD.sub (ws' := []) [] (by decide) rfl).weaken (B := fun _ => True) (fun _ _ _ _ => trivial)
        have hFc := va_free (wc := []) hD hS hA [] rfl
        have hIc : va_P G vwCl [(wd, .inr (4, [.long (lZ wb), .int (iZ wn)])), (bw, .inr (4, [.long (lZ vb), .int (iZ vn)]))] H := ((hP.sub (ws' := [(wd, .inr (4, [.long (lZ wb), .int (iZ wn)]))]) [1] rfl).app (hP.sub (ws' := [(bw, .inr (4, [.long (lZ vb), .int (iZ vn)]))]) [0] rfl))
        have hIAc : NA (va_A [] H.size) [(wd, .inr (4, [.long (lZ wb), .int (iZ wn)])), (bw, .inr (4, [.long (lZ vb), .int (iZ vn)]))] := NA.cons (z_nA hP hD [] rfl 1 rfl (by decide)) (NA.cons (z_nA hP hD [] rfl 0 rfl (by decide)) (NA.nil))
        refine z_callE (A := A) (va_runV (As := [.int (iZ tt), .ref bw]) (rest := []) ⟨hx, hb, hml, hown, hts⟩ (c_X5_repeatedThen lau G cy wd bw H.size wb wn tt vb vn (by first | assumption | omega) (by first | assumption | omega) (by first | assumption | omega) (by first | assumption | omega) (by first | assumption | omega) (by first | assumption | omega)) (cwV 2 hts gX3_standardWord_X5_repeatedThen rfl rfl rfl (by decide +kernel) ⟨Nat.le_of_ble_eq_true rfl, Nat.le_of_ble_eq_true rfl⟩) ⟨P1_blind, va_recv hK hP (ci := 4) (q0 := 1) rfl rfl, P1_mk hKK (⟨rfl, hPc, hDc, hIc, hIAc⟩)⟩ rfl rfl hl.1 rfl (lv_room (Nat.le_of_ble_eq_true rfl)) dX3_standardWord_64 ⟨(show (2 + (i - 1).toNat) + 1 ≤ 22 by omega), (show (4 + 2 * (i - 1).toNat) + 2 ≤ 44 by omega)⟩) hS.2.2 hFc (fun v H1 locs1 hR hL1 => ?_)
        obtain ⟨qo_64, rfl, hq64, hP1, hD1, hF1⟩ := hR
        obtain ⟨hP, hD⟩ := va_join (wr := [(bw, .inr (4, [.long (lZ vb), .int (iZ vn)])), (wd, .inr (4, [.long (lZ wb), .int (iZ wn)]))]) (w1 := [(qo_64, .inr (4, [.long (lZ (rpB wb wn tt * pw vn + vb)), .int (iZ (wn * tt + vn))]))]) hP hD [] [0, 1] rfl rfl (by decide) (by decide) hF1.2 hFc hP1 hD1
        have hS : va_S A s.heap H1 locs1 := Fh.S ((Fh.of hS).tr hF1 (fun q _ h => hFc q h)) hL1
        clear hPc hDc hFc hP1 hD1 hF1 hL1 hIc hIAc
        generalize H1 = H at hP hS ⊢
        have hP : va_P G vwCl [(bw, .inr (4, [.long (lZ vb), .int (iZ vn)])), (wd, .inr (4, [.long (lZ wb), .int (iZ wn)])), (qo_64, .inr (4, [.long (lZ (rpB wb wn tt * pw vn + vb)), .int (iZ (wn * tt + vn))]))] H := hP
        have hD : va_D A [(bw, .inr (4, [.long (lZ vb), .int (iZ vn)])), (wd, .inr (4, [.long (lZ wb), .int (iZ wn)])), (qo_64, .inr (4, [.long (lZ (rpB wb wn tt * pw vn + vb)), .int (iZ (wn * tt + vn))]))] := hD
        refine W.eq (g2 := F0 mt 67 ls [.ref qo_64]) rfl ?_
        have hI : va_P G vwCl [(h0, .inr (2, [.int (iZ p), .int (iZ q), .int (iZ c)]))] H := im_keep2 hI0 hIA (Fh.of hS)
        refine lv_astore (lv' := [(6, .ref qo_64), (5, .int (iZ tt)), (0, .ref h0), (1, .int (iZ kk)), (2, .ref bw), (3, .ref wd), (4, .int (iZ i))]) hx hb dX3_standardWord_67 hl (by decide) rfl (fun ls hl => ?_)
        refine lv_aload hx hb dX3_standardWord_69 (lv_at hl 0 rfl) ?_
        refine lv_ifnonnull (tgt := 76) hx hb dX3_standardWord_71 (by decide) ?_
        refine lv_aload_n hx hb dX3_standardWord_76 rfl (lv_at hl 5 rfl) ?_
        refine lv_astore_n (lv' := [(2, .ref wd), (6, .ref qo_64), (5, .int (iZ tt)), (0, .ref h0), (1, .int (iZ kk)), (3, .ref wd), (4, .int (iZ i))]) hx hb dX3_standardWord_77 rfl hl (by decide) rfl (fun ls hl => ?_)
        refine lv_aload hx hb dX3_standardWord_78 (lv_at hl 1 rfl) ?_
        refine lv_astore_n (lv' := [(3, .ref qo_64), (2, .ref wd), (6, .ref qo_64), (5, .int (iZ tt)), (0, .ref h0), (1, .int (iZ kk)), (4, .int (iZ i))]) hx hb dX3_standardWord_80 rfl hl (by decide) rfl (fun ls hl => ?_)
        refine lv_iinc (v := iZ (i + 1)) (lv' := [(4, .int (iZ (i + 1))), (3, .ref qo_64), (2, .ref wd), (6, .ref qo_64), (5, .int (iZ tt)), (0, .ref h0), (1, .int (iZ kk))]) hx hb dX3_standardWord_81 hl (k := 6) rfl (iZ_add _ _) (by decide) rfl (fun ls hl => ?_)
        refine lv_goto (tgt := 29) hx hb dX3_standardWord_84 (by decide) ?_
        have hP := hP.sub (ws' := [(wd, .inr (4, [.long (lZ wb), .int (iZ wn)])), (qo_64, .inr (4, [.long (lZ (rpB wb wn tt * pw vn + vb)), .int (iZ (wn * tt + vn))]))]) [1, 2] rfl
        have hD := hD.sub (ws' := [(wd, .inr (4, [.long (lZ wb), .int (iZ wn)])), (qo_64, .inr (4, [.long (lZ (rpB wb wn tt * pw vn + vb)), .int (iZ (wn * tt + vn))]))]) [1, 2] (by decide) rfl
        refine W.widen (k := 2 + (i + 1 - 1).toNat) (n := 4 + 2 * (i + 1 - 1).toNat) (by omega) (by omega) ?_
        exact ih_29 (i + 1) wd qo_64 (rpB wb wn tt * pw vn + vb) (wn * tt + vn) wb wn _ _ ⟨⟨(by omega), (by rw [show i + 1 - 1 = i by omega, stS_st (by omega), i2, ← htt]), (⟨by omega, cat_r (by omega) (by omega) (nat_r (P := fun k => 0 ≤ rpB wb wn k ∧ rpB wb wn k < pw (wn * k)) (rpB_r (by omega) i3.2) (by omega)) i4.2⟩), (i3), (fun j q1 q2 => by rcases (show j < i ∨ j = i by omega) with q | q; (· exact i8 j q1 q); (· rw [q, stS_st (by omega), i2, ← htt]; exact hsm))⟩, hP, hD, Fh.of hS⟩ hS.2.2 ⟨by omega, by omega⟩ _ (lv_sub hl [5, 6, 2, 1, 0] rfl)
  · refine lv_aload_n hx hb dX3_standardWord_24 rfl (lv_at hl 1 rfl) ?_
    have e1 : stW p q kk = (1, 1) := by unfold stW; rw [if_pos c_21]
    have hP := hP.sub (ws' := [(n0_1, .inr (4, [.long (lZ 1), .int (iZ 1)]))]) [0] rfl
    have hD := hD.sub (ws' := [(n0_1, .inr (4, [.long (lZ 1), .int (iZ 1)]))]) [0] (by decide) rfl
    exact z_aretE hx hb hr (Or.inl ⟨_, rfl⟩) hlocks dX3_standardWord_25 (Or.inr ⟨_, rfl⟩) hS.2.2 ⟨(show 2 ≤ 22 by omega), (show 4 ≤ 44 by omega)⟩ ⟨n0_1, (rfl), (trivial), (by rw [e1]; exact hP), (by rw [e1]; exact hD), Fh.of hS⟩
set_option maxHeartbeats 4000000 in
set_option maxRecDepth 100000 in
theorem c_X3_standardWord_no (lau : Launch) (G : va_G) (cy : Nat → ClassId) (h0 : Nat) (sz : Nat) (p q c kk : Int) (hp : 0 ≤ p ∧ p ≤ q) (hq : 0 < q ∧ q ≤ 1000) (h1 : -1 ≤ kk ∧ kk ≤ ntm p q ∧ kk ≤ 19) (h4 : ¬ ∀ j, 0 ≤ j → j ≤ kk → (stS p q j).1.2 ≤ 60) : Met lau yX3_standardWord wsX3_standardWord ({ frames := 3, cells := 22, slots := 44, locals := 65 }) (P1 G cy [.ref h0, .int (iZ kk)] (fun H => H.size = sz ∧ va_P G vwCl [] H ∧ va_D (fun _ => True) [] ∧ va_P G vwCl [(h0, .inr (2, [.int (iZ p), .int (iZ q), .int (iZ c)]))] H ∧ NA (va_A [] sz) [(h0, .inr (2, [.int (iZ p), .int (iZ q), .int (iZ c)]))])) (Q1 (fun rv H0 H1 => rv = some .null ∧ (True) ∧ va_P G vwCl [] H1 ∧ va_D (va_A [] sz) [] ∧ Fh (va_A [] sz) H0 H1)) 22 44 (va_A [] sz) := by
  refine z_head (lv := [(0, .ref h0), (1, .int (iZ kk))]) RX3 (by decide) rfl rfl (Nat.le_of_ble_eq_true rfl) rfl ?_
  intro pr ev s mt below meth cd ls hx hb hr hlocks hml hown hname hts hKK hP hl
  have hK := hKK.1
  obtain ⟨hsz, hP, hD0, hI0, hIA⟩ := hP
  subst hsz
  have hD := hD0.self (sz := s.heap.size)
  generalize hAe : va_A [] s.heap.size = A at hD hIA ⊢
  have hA : ∀ q : Nat, s.heap.size ≤ q → A q := fun q h => by rw [← hAe]; exact Or.inr h
  have hS : va_S A s.heap s.heap [] := va_S.rf
  have hP : va_P G vwCl [] s.heap := hP
  have hI : va_P G vwCl [(h0, .inr (2, [.int (iZ p), .int (iZ q), .int (iZ c)]))] s.heap := hI0
  refine va_new (D := G) (ci := 4) (fs := [.long (lZ 0), .int (iZ 0)]) (C := RX5) (T := TX5) (N := 2) hx hb hts (by decide +kernel) tyX5 tyX5_ok hown (hts (.classLink RX3 29 RX5) (by decide +kernel)) (hts (.instantiable RX5 2) (by decide +kernel)) (hts (.initialized RX5) (by decide +kernel)) hK hP hD hS hA rfl (fun j hj => by rcases (show j = 0 ∨ j = 1 by omega) with rfl | rfl <;> rfl) (show 0 + 1 ≤ 22 by omega) (show 0 + 2 ≤ 44 by omega) dX3_standardWord_0 (fun n0_1 H hP hD hS => ?_)
  have hP : va_P G vwCl [(n0_1, .inr (4, [.long (lZ 0), .int (iZ 0)]))] H := hP
  have hD : va_D A [(n0_1, .inr (4, [.long (lZ 0), .int (iZ 0)]))] := hD
  have hI : va_P G vwCl [(h0, .inr (2, [.int (iZ p), .int (iZ q), .int (iZ c)]))] H := im_keep2 hI0 hIA (Fh.of hS)
  refine lv_dup hx hb dX3_standardWord_3 rfl ?_
  refine lv_lconst (v := lZ 1) hx hb dX3_standardWord_4 rfl ?_
  refine lv_iconst (v := iZ 1) hx hb dX3_standardWord_5 rfl ?_
  have hPc := hP.sub (ws' := [(n0_1, .inr (4, [.long (lZ 0), .int (iZ 0)]))]) [0] rfl
  have hDc := (hD.sub (ws' := [(n0_1, .inr (4, [.long (lZ 0), .int (iZ 0)]))]) [0] (by decide) rfl).weaken (B := fun _ => True) (fun _ _ _ _ => trivial)
  have hFc := va_free (wc := [(n0_1, .inr (4, [.long (lZ 0), .int (iZ 0)]))]) hD hS hA [0] rfl
  refine z_callE (A := A) (va_runI (As := [.long (lZ 1), .int (iZ 1)]) (rest := [.ref n0_1]) ⟨hx, hb, hml, hown, hts⟩ (c_X5_init lau G cy n0_1 H.size 1 1) (cwI 2 hts gX3_standardWord_X5_init rfl rfl rfl (hts (.initialized RX5) (by decide +kernel)) (hts (.methodLink RX3 31 yX5_init) (by decide +kernel)) (hts (.instanceMethod yX5_init) (by decide +kernel)) rfl (by decide +kernel) ⟨Nat.le_of_ble_eq_true rfl, Nat.le_of_ble_eq_true rfl⟩) ⟨P1_blind, P1_mk hKK (⟨rfl, hPc, hDc⟩)⟩ rfl rfl hl.1 rfl (lv_room (Nat.le_of_ble_eq_true rfl)) dX3_standardWord_6 ⟨(show 1 + 0 ≤ 22 by omega), (show 2 + 0 ≤ 44 by omega)⟩) hS.2.2 hFc (fun v H1 locs1 hR hL1 => ?_)
  obtain ⟨rfl, hq6, hP1, hD1, hF1⟩ := hR
  obtain ⟨hP, hD⟩ := va_join (wr := []) (w1 := [(n0_1, .inr (4, [.long (lZ 1), .int (iZ 1)]))]) hP hD [0] [] rfl rfl (by decide) (by decide) hF1.2 hFc hP1 hD1
  have hS : va_S A s.heap H1 locs1 := Fh.S ((Fh.of hS).tr hF1 (fun q _ h => hFc q h)) hL1
  clear hPc hDc hFc hP1 hD1 hF1 hL1
  generalize H1 = H at hP hS ⊢
  have hP : va_P G vwCl [(n0_1, .inr (4, [.long (lZ 1), .int (iZ 1)]))] H := hP
  have hD : va_D A [(n0_1, .inr (4, [.long (lZ 1), .int (iZ 1)]))] := hD
  refine W.eq (g2 := F0 mt 9 ls [.ref n0_1]) rfl ?_
  have hI : va_P G vwCl [(h0, .inr (2, [.int (iZ p), .int (iZ q), .int (iZ c)]))] H := im_keep2 hI0 hIA (Fh.of hS)
  refine lv_astore_n (lv' := [(2, .ref n0_1), (0, .ref h0), (1, .int (iZ kk))]) hx hb dX3_standardWord_9 rfl hl (by decide) rfl (fun ls hl => ?_)
  refine va_new (D := G) (ci := 4) (fs := [.long (lZ 0), .int (iZ 0)]) (C := RX5) (T := TX5) (N := 2) hx hb hts (by decide +kernel) tyX5 tyX5_ok hown (hts (.classLink RX3 29 RX5) (by decide +kernel)) (hts (.instantiable RX5 2) (by decide +kernel)) (hts (.initialized RX5) (by decide +kernel)) hK hP hD hS hA rfl (fun j hj => by rcases (show j = 0 ∨ j = 1 by omega) with rfl | rfl <;> rfl) (show 1 + 1 ≤ 22 by omega) (show 2 + 2 ≤ 44 by omega) dX3_standardWord_10 (fun n10_2 H hP hD hS => ?_)
  have hP : va_P G vwCl [(n0_1, .inr (4, [.long (lZ 1), .int (iZ 1)])), (n10_2, .inr (4, [.long (lZ 0), .int (iZ 0)]))] H := hP
  have hD : va_D A [(n0_1, .inr (4, [.long (lZ 1), .int (iZ 1)])), (n10_2, .inr (4, [.long (lZ 0), .int (iZ 0)]))] := hD
  have hI : va_P G vwCl [(h0, .inr (2, [.int (iZ p), .int (iZ q), .int (iZ c)]))] H := im_keep2 hI0 hIA (Fh.of hS)
  refine lv_dup hx hb dX3_standardWord_13 rfl ?_
  refine lv_lconst (v := lZ 0) hx hb dX3_standardWord_14 rfl ?_
  refine lv_iconst (v := iZ 1) hx hb dX3_standardWord_15 rfl ?_
  have hPc := hP.sub (ws' := [(n10_2, .inr (4, [.long (lZ 0), .int (iZ 0)]))]) [1] rfl
  have hDc := (hD.sub (ws' := [(n10_2, .inr (4, [.long (lZ 0), .int (iZ 0)]))]) [1] (by decide) rfl).weaken (B := fun _ => True) (fun _ _ _ _ => trivial)
  have hFc := va_free (wc := [(n10_2, .inr (4, [.long (lZ 0), .int (iZ 0)]))]) hD hS hA [1] rfl
  refine z_callE (A := A) (va_runI (As := [.long (lZ 0), .int (iZ 1)]) (rest := [.ref n10_2]) ⟨hx, hb, hml, hown, hts⟩ (c_X5_init lau G cy n10_2 H.size 0 1) (cwI 2 hts gX3_standardWord_X5_init rfl rfl rfl (hts (.initialized RX5) (by decide +kernel)) (hts (.methodLink RX3 31 yX5_init) (by decide +kernel)) (hts (.instanceMethod yX5_init) (by decide +kernel)) rfl (by decide +kernel) ⟨Nat.le_of_ble_eq_true rfl, Nat.le_of_ble_eq_true rfl⟩) ⟨P1_blind, P1_mk hKK (⟨rfl, hPc, hDc⟩)⟩ rfl rfl hl.1 rfl (lv_room (Nat.le_of_ble_eq_true rfl)) dX3_standardWord_16 ⟨(show 2 + 0 ≤ 22 by omega), (show 4 + 0 ≤ 44 by omega)⟩) hS.2.2 hFc (fun v H1 locs1 hR hL1 => ?_)
  obtain ⟨rfl, hq16, hP1, hD1, hF1⟩ := hR
  obtain ⟨hP, hD⟩ := va_join (wr := [(n0_1, .inr (4, [.long (lZ 1), .int (iZ 1)]))]) (w1 := [(n10_2, .inr (4, [.long (lZ 0), .int (iZ 1)]))]) hP hD [1] [0] rfl rfl (by decide) (by decide) hF1.2 hFc hP1 hD1
  have hS : va_S A s.heap H1 locs1 := Fh.S ((Fh.of hS).tr hF1 (fun q _ h => hFc q h)) hL1
  clear hPc hDc hFc hP1 hD1 hF1 hL1
  generalize H1 = H at hP hS ⊢
  have hP : va_P G vwCl [(n0_1, .inr (4, [.long (lZ 1), .int (iZ 1)])), (n10_2, .inr (4, [.long (lZ 0), .int (iZ 1)]))] H := hP
  have hD : va_D A [(n0_1, .inr (4, [.long (lZ 1), .int (iZ 1)])), (n10_2, .inr (4, [.long (lZ 0), .int (iZ 1)]))] := hD
  have hP := hP.sub (ws' := [(n0_1, .inr (4, [.long (lZ 1), .int (iZ 1)])), (n10_2, .inr (4, [.long (lZ 0), .int (iZ 1)]))]) [0, 1] rfl
  have hD := hD.sub (ws' := [(n0_1, .inr (4, [.long (lZ 1), .int (iZ 1)])), (n10_2, .inr (4, [.long (lZ 0), .int (iZ 1)]))]) [0, 1] (by decide) rfl
  refine W.eq (g2 := F0 mt 19 ls [.ref n10_2]) rfl ?_
  have hI : va_P G vwCl [(h0, .inr (2, [.int (iZ p), .int (iZ q), .int (iZ c)]))] H := im_keep2 hI0 hIA (Fh.of hS)
  refine lv_astore_n (lv' := [(3, .ref n10_2), (2, .ref n0_1), (0, .ref h0), (1, .int (iZ kk))]) hx hb dX3_standardWord_19 rfl hl (by decide) rfl (fun ls hl => ?_)
  refine lv_iload_n hx hb dX3_standardWord_20 rfl (lv_at hl 3 rfl) ?_
  refine z_if_ge (tgt := 26) hx hb dX3_standardWord_21 (by decide) (by omega) (fun c_21 => ?_) (fun c_21 => ?_)
  · refine lv_iconst (v := iZ 1) hx hb dX3_standardWord_26 rfl ?_
    refine lv_istore (lv' := [(4, .int (iZ 1)), (3, .ref n10_2), (2, .ref n0_1), (0, .ref h0), (1, .int (iZ kk))]) hx hb dX3_standardWord_27 hl (by decide) rfl (fun ls hl => ?_)
    refine z_loopH7 (nL := 7) (A := A) (fun (i : Int) (bw : Nat) (wd : Nat) (wb : Int) (wn : Int) (vb : Int) (vn : Int) => [(0, .ref h0), (1, .int (iZ kk)), (2, .ref bw), (3, .ref wd), (4, .int (iZ i))]) (fun (i : Int) (bw : Nat) (wd : Nat) (wb : Int) (wn : Int) (vb : Int) (vn : Int) (H : Heap) => ((1 ≤ i ∧ i ≤ kk + 1) ∧ (stS p q (i - 1) = ((wb, wn), (vb, vn))) ∧ ((1 ≤ wn ∧ wn ≤ 60) ∧ (0 ≤ wb ∧ wb < pw wn)) ∧ ((1 ≤ vn ∧ vn ≤ 60) ∧ (0 ≤ vb ∧ vb < pw vn)) ∧ (∀ j, 0 ≤ j → j < i → (stS p q j).1.2 ≤ 60)) ∧ va_P G vwCl [(bw, .inr (4, [.long (lZ vb), .int (iZ vn)])), (wd, .inr (4, [.long (lZ wb), .int (iZ wn)]))] H ∧ va_D A [(bw, .inr (4, [.long (lZ vb), .int (iZ vn)])), (wd, .inr (4, [.long (lZ wb), .int (iZ wn)]))] ∧ Fh A s.heap H) (fun (i : Int) (bw : Nat) (wd : Nat) (wb : Int) (wn : Int) (vb : Int) (vn : Int) => kk + 1 - i) (fun (i : Int) (bw : Nat) (wd : Nat) (wb : Int) (wn : Int) (vb : Int) (vn : Int) => (2 + (i - 1).toNat)) (fun (i : Int) (bw : Nat) (wd : Nat) (wb : Int) (wn : Int) (vb : Int) (vn : Int) => (4 + 2 * (i - 1).toNat)) (a1 := 1) (a2 := n0_1) (a3 := n10_2) (a4 := 0) (a5 := 1) (a6 := 1) (a7 := 1) ⟨⟨(by omega), (by rw [show (1 : Int) - 1 = 0 by decide, stS_0]), (⟨by decide, by decide⟩), (⟨by decide, by decide⟩), (fun j q1 q2 => by rw [show j = 0 by omega, stS_0]; decide)⟩, hP, hD, Fh.of hS⟩ hS.2.2 (lv_sub hl [3, 4, 2, 1, 0] rfl) ?_
    rintro i bw wd wb wn vb vn H locs ⟨⟨i1, i2, i3, i4, i8⟩, hP, hD, hFr⟩ hLc ih_29 ls hl
    have hS : va_S A s.heap H locs := Fh.S hFr hLc
    have hI : va_P G vwCl [(h0, .inr (2, [.int (iZ p), .int (iZ q), .int (iZ c)]))] H := im_keep2 hI0 hIA (Fh.of hS)
    refine lv_iload hx hb dX3_standardWord_29 (lv_at hl 4 rfl) ?_
    refine lv_iload_n hx hb dX3_standardWord_31 rfl (lv_at hl 1 rfl) ?_
    refine z_icmp_gt (tgt := 87) hx hb dX3_standardWord_32 (by decide) (by omega) (fun c_32 => ?_) (fun c_32 => ?_)
    · exact absurd (fun j q1 q2 => i8 j q1 (by omega)) h4
    · have hxz := ntm_pos (p := p) (q := q) (j := i - 1) (by omega) (by omega)
      have hcf := cft_pos (p := p) (q := q) (k := i - 1) hp hq.1 (by omega) hxz
      rw [show i - 1 + 1 = i by omega] at hcf
      refine lv_iload hx hb dX3_standardWord_35 (lv_at hl 4 rfl) ?_
      refine lv_iconst (v := iZ 1) hx hb dX3_standardWord_37 rfl ?_
      refine z_icmp_ne (tgt := 52) hx hb dX3_standardWord_38 (by decide) (by omega) (fun c_38 => ?_) (fun c_38 => ?_)
      · refine lv_aload_n hx hb dX3_standardWord_52 rfl (lv_at hl 0 rfl) ?_
        refine lv_iload hx hb dX3_standardWord_53 (lv_at hl 4 rfl) ?_
        refine z_calli (va_runV (As := [.int (iZ i)]) (rest := []) ⟨hx, hb, hml, hown, hts⟩ (c_X3_term lau G cy h0 p q c i (by first | assumption | omega) (by first | assumption | omega) (by first | assumption | omega)) (cwV 1 hts gX3_standardWord_X3_term rfl rfl rfl (by decide +kernel) ⟨Nat.le_of_ble_eq_true rfl, Nat.le_of_ble_eq_true rfl⟩) ⟨P1_blind, va_recv hK hI (ci := 2) (q0 := 0) rfl rfl, P1_mk hKK (hI.sub [0] rfl)⟩ rfl rfl hl.1 rfl (lv_room (Nat.le_of_ble_eq_true rfl)) dX3_standardWord_55 ⟨(show (2 + (i - 1).toNat) + 0 ≤ 22 by omega), (show (4 + 2 * (i - 1).toNat) + 0 ≤ 44 by omega)⟩) ?_
        refine z_tope (fun tt ett => ?_)
        refine lv_istore (lv' := [(5, .int (iZ tt)), (0, .ref h0), (1, .int (iZ kk)), (2, .ref bw), (3, .ref wd), (4, .int (iZ i))]) hx hb dX3_standardWord_58 hl (by decide) rfl (fun ls hl => ?_)
        have htt : tt = stT p q (i - 1) := by unfold stT; rw [show i - 1 + 1 = i by omega]; split <;> omega
        have hnn : 0 ≤ wn * tt := Int.mul_nonneg (by omega) (by omega)
        refine lv_aload_n hx hb dX3_standardWord_60 rfl (lv_at hl 4 rfl) ?_
        refine lv_iload hx hb dX3_standardWord_61 (lv_at hl 0 rfl) ?_
        refine lv_aload_n hx hb dX3_standardWord_63 rfl (lv_at hl 3 rfl) ?_
        rcases Classical.em (wn * tt + vn ≤ 60) with hsp64 | hsp64
        · have hPc := hP.sub (ws' := []) [] rfl
          have hDc := (hD.sub (ws' := []) [] (by decide) rfl).weaken (B := fun _ => True) (fun _ _ _ _ => trivial)
          have hFc := va_free (wc := []) hD hS hA [] rfl
          have hIc : va_P G vwCl [(wd, .inr (4, [.long (lZ wb), .int (iZ wn)])), (bw, .inr (4, [.long (lZ vb), .int (iZ vn)]))] H := ((hP.sub (ws' := [(wd, .inr (4, [.long (lZ wb), .int (iZ wn)]))]) [1] rfl).app (hP.sub (ws' := [(bw, .inr (4, [.long (lZ vb), .int (iZ vn)]))]) [0] rfl))
          have hIAc : NA (va_A [] H.size) [(wd, .inr (4, [.long (lZ wb), .int (iZ wn)])), (bw, .inr (4, [.long (lZ vb), .int (iZ vn)]))] := NA.cons (z_nA hP hD [] rfl 1 rfl (by decide)) (NA.cons (z_nA hP hD [] rfl 0 rfl (by decide)) (NA.nil))
          refine z_callE (A := A) (va_runV (As := [.int (iZ tt), .ref bw]) (rest := []) ⟨hx, hb, hml, hown, hts⟩ (c_X5_repeatedThen lau G cy wd bw H.size wb wn tt vb vn (by first | assumption | omega) (by first | assumption | omega) (by first | assumption | omega) (by first | assumption | omega) (by first | assumption | omega) (by first | assumption | omega)) (cwV 2 hts gX3_standardWord_X5_repeatedThen rfl rfl rfl (by decide +kernel) ⟨Nat.le_of_ble_eq_true rfl, Nat.le_of_ble_eq_true rfl⟩) ⟨P1_blind, va_recv hK hP (ci := 4) (q0 := 1) rfl rfl, P1_mk hKK (⟨rfl, hPc, hDc, hIc, hIAc⟩)⟩ rfl rfl hl.1 rfl (lv_room (Nat.le_of_ble_eq_true rfl)) dX3_standardWord_64 ⟨(show (2 + (i - 1).toNat) + 1 ≤ 22 by omega), (show (4 + 2 * (i - 1).toNat) + 2 ≤ 44 by omega)⟩) hS.2.2 hFc (fun v H1 locs1 hR hL1 => ?_)
          obtain ⟨qo_64, rfl, hq64, hP1, hD1, hF1⟩ := hR
          obtain ⟨hP, hD⟩ := va_join (wr := [(bw, .inr (4, [.long (lZ vb), .int (iZ vn)])), (wd, .inr (4, [.long (lZ wb), .int (iZ wn)]))]) (w1 := [(qo_64, .inr (4, [.long (lZ (rpB wb wn tt * pw vn + vb)), .int (iZ (wn * tt + vn))]))]) hP hD [] [0, 1] rfl rfl (by decide) (by decide) hF1.2 hFc hP1 hD1
          have hS : va_S A s.heap H1 locs1 := Fh.S ((Fh.of hS).tr hF1 (fun q _ h => hFc q h)) hL1
          clear hPc hDc hFc hP1 hD1 hF1 hL1 hIc hIAc
          generalize H1 = H at hP hS ⊢
          have hP : va_P G vwCl [(bw, .inr (4, [.long (lZ vb), .int (iZ vn)])), (wd, .inr (4, [.long (lZ wb), .int (iZ wn)])), (qo_64, .inr (4, [.long (lZ (rpB wb wn tt * pw vn + vb)), .int (iZ (wn * tt + vn))]))] H := hP
          have hD : va_D A [(bw, .inr (4, [.long (lZ vb), .int (iZ vn)])), (wd, .inr (4, [.long (lZ wb), .int (iZ wn)])), (qo_64, .inr (4, [.long (lZ (rpB wb wn tt * pw vn + vb)), .int (iZ (wn * tt + vn))]))] := hD
          refine W.eq (g2 := F0 mt 67 ls [.ref qo_64]) rfl ?_
          have hI : va_P G vwCl [(h0, .inr (2, [.int (iZ p), .int (iZ q), .int (iZ c)]))] H := im_keep2 hI0 hIA (Fh.of hS)
          try have hsm := hsp64
          refine lv_astore (lv' := [(6, .ref qo_64), (5, .int (iZ tt)), (0, .ref h0), (1, .int (iZ kk)), (2, .ref bw), (3, .ref wd), (4, .int (iZ i))]) hx hb dX3_standardWord_67 hl (by decide) rfl (fun ls hl => ?_)
          refine lv_aload hx hb dX3_standardWord_69 (lv_at hl 0 rfl) ?_
          refine lv_ifnonnull (tgt := 76) hx hb dX3_standardWord_71 (by decide) ?_
          refine lv_aload_n hx hb dX3_standardWord_76 rfl (lv_at hl 5 rfl) ?_
          refine lv_astore_n (lv' := [(2, .ref wd), (6, .ref qo_64), (5, .int (iZ tt)), (0, .ref h0), (1, .int (iZ kk)), (3, .ref wd), (4, .int (iZ i))]) hx hb dX3_standardWord_77 rfl hl (by decide) rfl (fun ls hl => ?_)
          refine lv_aload hx hb dX3_standardWord_78 (lv_at hl 1 rfl) ?_
          refine lv_astore_n (lv' := [(3, .ref qo_64), (2, .ref wd), (6, .ref qo_64), (5, .int (iZ tt)), (0, .ref h0), (1, .int (iZ kk)), (4, .int (iZ i))]) hx hb dX3_standardWord_80 rfl hl (by decide) rfl (fun ls hl => ?_)
          refine lv_iinc (v := iZ (i + 1)) (lv' := [(4, .int (iZ (i + 1))), (3, .ref qo_64), (2, .ref wd), (6, .ref qo_64), (5, .int (iZ tt)), (0, .ref h0), (1, .int (iZ kk))]) hx hb dX3_standardWord_81 hl (k := 6) rfl (iZ_add _ _) (by decide) rfl (fun ls hl => ?_)
          refine lv_goto (tgt := 29) hx hb dX3_standardWord_84 (by decide) ?_
          have hP := hP.sub (ws' := [(wd, .inr (4, [.long (lZ wb), .int (iZ wn)])), (qo_64, .inr (4, [.long (lZ (rpB wb wn tt * pw vn + vb)), .int (iZ (wn * tt + vn))]))]) [1, 2] rfl
          have hD := hD.sub (ws' := [(wd, .inr (4, [.long (lZ wb), .int (iZ wn)])), (qo_64, .inr (4, [.long (lZ (rpB wb wn tt * pw vn + vb)), .int (iZ (wn * tt + vn))]))]) [1, 2] (by decide) rfl
          refine W.widen (k := 2 + (i + 1 - 1).toNat) (n := 4 + 2 * (i + 1 - 1).toNat) (by omega) (by omega) ?_
          exact ih_29 (i + 1) wd qo_64 (rpB wb wn tt * pw vn + vb) (wn * tt + vn) wb wn _ _ ⟨⟨(by omega), (by rw [show i + 1 - 1 = i by omega, stS_st (by omega), i2, ← htt]), (⟨by omega, cat_r (by omega) (by omega) (nat_r (P := fun k => 0 ≤ rpB wb wn k ∧ rpB wb wn k < pw (wn * k)) (rpB_r (by omega) i3.2) (by omega)) i4.2⟩), (i3), (fun j q1 q2 => by rcases (show j < i ∨ j = i by omega) with q | q; (· exact i8 j q1 q); (· rw [q, stS_st (by omega), i2, ← htt]; exact hsm))⟩, hP, hD, Fh.of hS⟩ hS.2.2 ⟨by omega, by omega⟩ _ (lv_sub hl [5, 6, 2, 1, 0] rfl)
        · have hPc := hP.sub (ws' := []) [] rfl
          have hDc := (hD.sub (ws' := []) [] (by decide) rfl).weaken (B := fun _ => True) (fun _ _ _ _ => trivial)
          have hFc := va_free (wc := []) hD hS hA [] rfl
          have hIc : va_P G vwCl [(wd, .inr (4, [.long (lZ wb), .int (iZ wn)])), (bw, .inr (4, [.long (lZ vb), .int (iZ vn)]))] H := ((hP.sub (ws' := [(wd, .inr (4, [.long (lZ wb), .int (iZ wn)]))]) [1] rfl).app (hP.sub (ws' := [(bw, .inr (4, [.long (lZ vb), .int (iZ vn)]))]) [0] rfl))
          have hIAc : NA (va_A [] H.size) [(wd, .inr (4, [.long (lZ wb), .int (iZ wn)])), (bw, .inr (4, [.long (lZ vb), .int (iZ vn)]))] := NA.cons (z_nA hP hD [] rfl 1 rfl (by decide)) (NA.cons (z_nA hP hD [] rfl 0 rfl (by decide)) (NA.nil))
          refine z_callE (A := A) (va_runV (As := [.int (iZ tt), .ref bw]) (rest := []) ⟨hx, hb, hml, hown, hts⟩ (c_X5_repeatedThen_no lau G cy wd bw H.size wb wn tt vb vn (by first | assumption | omega) (by first | assumption | omega) (by first | assumption | omega) (by first | assumption | omega)) (cwV 2 hts gX3_standardWord_X5_repeatedThen rfl rfl rfl (by decide +kernel) ⟨Nat.le_of_ble_eq_true rfl, Nat.le_of_ble_eq_true rfl⟩) ⟨P1_blind, va_recv hK hP (ci := 4) (q0 := 1) rfl rfl, P1_mk hKK (⟨rfl, hPc, hDc, hIc, hIAc⟩)⟩ rfl rfl hl.1 rfl (lv_room (Nat.le_of_ble_eq_true rfl)) dX3_standardWord_64 ⟨(show (2 + (i - 1).toNat) + 0 ≤ 22 by omega), (show (4 + 2 * (i - 1).toNat) + 0 ≤ 44 by omega)⟩) hS.2.2 hFc (fun v H1 locs1 hR hL1 => ?_)
          obtain ⟨rfl, hq64, hP1, hD1, hF1⟩ := hR
          obtain ⟨hP, hD⟩ := va_join (wr := [(bw, .inr (4, [.long (lZ vb), .int (iZ vn)])), (wd, .inr (4, [.long (lZ wb), .int (iZ wn)]))]) (w1 := []) hP hD [] [0, 1] rfl rfl (by decide) (by decide) hF1.2 hFc hP1 hD1
          have hS : va_S A s.heap H1 locs1 := Fh.S ((Fh.of hS).tr hF1 (fun q _ h => hFc q h)) hL1
          clear hPc hDc hFc hP1 hD1 hF1 hL1 hIc hIAc
          generalize H1 = H at hP hS ⊢
          have hP : va_P G vwCl [(bw, .inr (4, [.long (lZ vb), .int (iZ vn)])), (wd, .inr (4, [.long (lZ wb), .int (iZ wn)]))] H := hP
          have hD : va_D A [(bw, .inr (4, [.long (lZ vb), .int (iZ vn)])), (wd, .inr (4, [.long (lZ wb), .int (iZ wn)]))] := hD
          have hP := hP.sub (ws' := [(bw, .inr (4, [.long (lZ vb), .int (iZ vn)])), (wd, .inr (4, [.long (lZ wb), .int (iZ wn)]))]) [0, 1] rfl
          have hD := hD.sub (ws' := [(bw, .inr (4, [.long (lZ vb), .int (iZ vn)])), (wd, .inr (4, [.long (lZ wb), .int (iZ wn)]))]) [0, 1] (by decide) rfl
          refine W.eq (g2 := F0 mt 67 ls [.null]) rfl ?_
          have hI : va_P G vwCl [(h0, .inr (2, [.int (iZ p), .int (iZ q), .int (iZ c)]))] H := im_keep2 hI0 hIA (Fh.of hS)
          try have hsm := hsp64
          refine lv_astoreN (lv' := [(6, .null), (5, .int (iZ tt)), (0, .ref h0), (1, .int (iZ kk)), (2, .ref bw), (3, .ref wd), (4, .int (iZ i))]) hx hb dX3_standardWord_67 hl (by decide) rfl (fun ls hl => ?_)
          refine lv_aloadN hx hb dX3_standardWord_69 (lv_at hl 0 rfl) ?_
          refine lv_ifnonnullN hx hb dX3_standardWord_71 ?_
          refine lv_null hx hb dX3_standardWord_74 ?_
          have hP := hP.sub (ws' := []) [] rfl
          have hD := hD.sub (ws' := []) [] (by decide) rfl
          exact z_aretE hx hb hr (Or.inl ⟨_, rfl⟩) hlocks dX3_standardWord_75 (Or.inl rfl) hS.2.2 ⟨(show ((2 + (i - 1).toNat) + 0) ≤ 22 by omega), (show ((4 + 2 * (i - 1).toNat) + 0) ≤ 44 by omega)⟩ ⟨(rfl), (trivial), (hP), (hD), Fh.of hS⟩
      · refine lv_aload_n hx hb dX3_standardWord_41 rfl (lv_at hl 0 rfl) ?_
        refine lv_iload hx hb dX3_standardWord_42 (lv_at hl 4 rfl) ?_
        refine z_calli (va_runV (As := [.int (iZ i)]) (rest := []) ⟨hx, hb, hml, hown, hts⟩ (c_X3_term lau G cy h0 p q c i (by first | assumption | omega) (by first | assumption | omega) (by first | assumption | omega)) (cwV 1 hts gX3_standardWord_X3_term rfl rfl rfl (by decide +kernel) ⟨Nat.le_of_ble_eq_true rfl, Nat.le_of_ble_eq_true rfl⟩) ⟨P1_blind, va_recv hK hI (ci := 2) (q0 := 0) rfl rfl, P1_mk hKK (hI.sub [0] rfl)⟩ rfl rfl hl.1 rfl (lv_room (Nat.le_of_ble_eq_true rfl)) dX3_standardWord_44 ⟨(show (2 + (i - 1).toNat) + 0 ≤ 22 by omega), (show (4 + 2 * (i - 1).toNat) + 0 ≤ 44 by omega)⟩) ?_
        refine lv_iconst (v := iZ 1) hx hb dX3_standardWord_47 rfl ?_
        refine z_isub hx hb dX3_standardWord_48 ?_
        refine lv_goto (tgt := 58) hx hb dX3_standardWord_49 (by decide) ?_
        refine z_tope (fun tt ett => ?_)
        refine lv_istore (lv' := [(5, .int (iZ tt)), (0, .ref h0), (1, .int (iZ kk)), (2, .ref bw), (3, .ref wd), (4, .int (iZ i))]) hx hb dX3_standardWord_58 hl (by decide) rfl (fun ls hl => ?_)
        have htt : tt = stT p q (i - 1) := by unfold stT; rw [show i - 1 + 1 = i by omega]; split <;> omega
        have hnn : 0 ≤ wn * tt := Int.mul_nonneg (by omega) (by omega)
        refine lv_aload_n hx hb dX3_standardWord_60 rfl (lv_at hl 4 rfl) ?_
        refine lv_iload hx hb dX3_standardWord_61 (lv_at hl 0 rfl) ?_
        refine lv_aload_n hx hb dX3_standardWord_63 rfl (lv_at hl 3 rfl) ?_
        rcases Classical.em (wn * tt + vn ≤ 60) with hsp64 | hsp64
        · have hPc := hP.sub (ws' := []) [] rfl
          have hDc := (hD.sub (ws' := []) [] (by decide) rfl).weaken (B := fun _ => True) (fun _ _ _ _ => trivial)
          have hFc := va_free (wc := []) hD hS hA [] rfl
          have hIc : va_P G vwCl [(wd, .inr (4, [.long (lZ wb), .int (iZ wn)])), (bw, .inr (4, [.long (lZ vb), .int (iZ vn)]))] H := ((hP.sub (ws' := [(wd, .inr (4, [.long (lZ wb), .int (iZ wn)]))]) [1] rfl).app (hP.sub (ws' := [(bw, .inr (4, [.long (lZ vb), .int (iZ vn)]))]) [0] rfl))
          have hIAc : NA (va_A [] H.size) [(wd, .inr (4, [.long (lZ wb), .int (iZ wn)])), (bw, .inr (4, [.long (lZ vb), .int (iZ vn)]))] := NA.cons (z_nA hP hD [] rfl 1 rfl (by decide)) (NA.cons (z_nA hP hD [] rfl 0 rfl (by decide)) (NA.nil))
          refine z_callE (A := A) (va_runV (As := [.int (iZ tt), .ref bw]) (rest := []) ⟨hx, hb, hml, hown, hts⟩ (c_X5_repeatedThen lau G cy wd bw H.size wb wn tt vb vn (by first | assumption | omega) (by first | assumption | omega) (by first | assumption | omega) (by first | assumption | omega) (by first | assumption | omega) (by first | assumption | omega)) (cwV 2 hts gX3_standardWord_X5_repeatedThen rfl rfl rfl (by decide +kernel) ⟨Nat.le_of_ble_eq_true rfl, Nat.le_of_ble_eq_true rfl⟩) ⟨P1_blind, va_recv hK hP (ci := 4) (q0 := 1) rfl rfl, P1_mk hKK (⟨rfl, hPc, hDc, hIc, hIAc⟩)⟩ rfl rfl hl.1 rfl (lv_room (Nat.le_of_ble_eq_true rfl)) dX3_standardWord_64 ⟨(show (2 + (i - 1).toNat) + 1 ≤ 22 by omega), (show (4 + 2 * (i - 1).toNat) + 2 ≤ 44 by omega)⟩) hS.2.2 hFc (fun v H1 locs1 hR hL1 => ?_)
          obtain ⟨qo_64, rfl, hq64, hP1, hD1, hF1⟩ := hR
          obtain ⟨hP, hD⟩ := va_join (wr := [(bw, .inr (4, [.long (lZ vb), .int (iZ vn)])), (wd, .inr (4, [.long (lZ wb), .int (iZ wn)]))]) (w1 := [(qo_64, .inr (4, [.long (lZ (rpB wb wn tt * pw vn + vb)), .int (iZ (wn * tt + vn))]))]) hP hD [] [0, 1] rfl rfl (by decide) (by decide) hF1.2 hFc hP1 hD1
          have hS : va_S A s.heap H1 locs1 := Fh.S ((Fh.of hS).tr hF1 (fun q _ h => hFc q h)) hL1
          clear hPc hDc hFc hP1 hD1 hF1 hL1 hIc hIAc
          generalize H1 = H at hP hS ⊢
          have hP : va_P G vwCl [(bw, .inr (4, [.long (lZ vb), .int (iZ vn)])), (wd, .inr (4, [.long (lZ wb), .int (iZ wn)])), (qo_64, .inr (4, [.long (lZ (rpB wb wn tt * pw vn + vb)), .int (iZ (wn * tt + vn))]))] H := hP
          have hD : va_D A [(bw, .inr (4, [.long (lZ vb), .int (iZ vn)])), (wd, .inr (4, [.long (lZ wb), .int (iZ wn)])), (qo_64, .inr (4, [.long (lZ (rpB wb wn tt * pw vn + vb)), .int (iZ (wn * tt + vn))]))] := hD
          refine W.eq (g2 := F0 mt 67 ls [.ref qo_64]) rfl ?_
          have hI : va_P G vwCl [(h0, .inr (2, [.int (iZ p), .int (iZ q), .int (iZ c)]))] H := im_keep2 hI0 hIA (Fh.of hS)
          try have hsm := hsp64
          refine lv_astore (lv' := [(6, .ref qo_64), (5, .int (iZ tt)), (0, .ref h0), (1, .int (iZ kk)), (2, .ref bw), (3, .ref wd), (4, .int (iZ i))]) hx hb dX3_standardWord_67 hl (by decide) rfl (fun ls hl => ?_)
          refine lv_aload hx hb dX3_standardWord_69 (lv_at hl 0 rfl) ?_
          refine lv_ifnonnull (tgt := 76) hx hb dX3_standardWord_71 (by decide) ?_
          refine lv_aload_n hx hb dX3_standardWord_76 rfl (lv_at hl 5 rfl) ?_
          refine lv_astore_n (lv' := [(2, .ref wd), (6, .ref qo_64), (5, .int (iZ tt)), (0, .ref h0), (1, .int (iZ kk)), (3, .ref wd), (4, .int (iZ i))]) hx hb dX3_standardWord_77 rfl hl (by decide) rfl (fun ls hl => ?_)
          refine lv_aload hx hb dX3_standardWord_78 (lv_at hl 1 rfl) ?_
          refine lv_astore_n (lv' := [(3, .ref qo_64), (2, .ref wd), (6, .ref qo_64), (5, .int (iZ tt)), (0, .ref h0), (1, .int (iZ kk)), (4, .int (iZ i))]) hx hb dX3_standardWord_80 rfl hl (by decide) rfl (fun ls hl => ?_)
          refine lv_iinc (v := iZ (i + 1)) (lv' := [(4, .int (iZ (i + 1))), (3, .ref qo_64), (2, .ref wd), (6, .ref qo_64), (5, .int (iZ tt)), (0, .ref h0), (1, .int (iZ kk))]) hx hb dX3_standardWord_81 hl (k := 6) rfl (iZ_add _ _) (by decide) rfl (fun ls hl => ?_)
          refine lv_goto (tgt := 29) hx hb dX3_standardWord_84 (by decide) ?_
          have hP := hP.sub (ws' := [(wd, .inr (4, [.long (lZ wb), .int (iZ wn)])), (qo_64, .inr (4, [.long (lZ (rpB wb wn tt * pw vn + vb)), .int (iZ (wn * tt + vn))]))]) [1, 2] rfl
          have hD := hD.sub (ws' := [(wd, .inr (4, [.long (lZ wb), .int (iZ wn)])), (qo_64, .inr (4, [.long (lZ (rpB wb wn tt * pw vn + vb)), .int (iZ (wn * tt + vn))]))]) [1, 2] (by decide) rfl
          refine W.widen (k := 2 + (i + 1 - 1).toNat) (n := 4 + 2 * (i + 1 - 1).toNat) (by omega) (by omega) ?_
          exact ih_29 (i + 1) wd qo_64 (rpB wb wn tt * pw vn + vb) (wn * tt + vn) wb wn _ _ ⟨⟨(by omega), (by rw [show i + 1 - 1 = i by omega, stS_st (by omega), i2, ← htt]), (⟨by omega, cat_r (by omega) (by omega) (nat_r (P := fun k => 0 ≤ rpB wb wn k ∧ rpB wb wn k < pw (wn * k)) (rpB_r (by omega) i3.2) (by omega)) i4.2⟩), (i3), (fun j q1 q2 => by rcases (show j < i ∨ j = i by omega) with q | q; (· exact i8 j q1 q); (· rw [q, stS_st (by omega), i2, ← htt]; exact hsm))⟩, hP, hD, Fh.of hS⟩ hS.2.2 ⟨by omega, by omega⟩ _ (lv_sub hl [5, 6, 2, 1, 0] rfl)
        · have hPc := hP.sub (ws' := []) [] rfl
          have hDc := (hD.sub (ws' := []) [] (by decide) rfl).weaken (B := fun _ => True) (fun _ _ _ _ => trivial)
          have hFc := va_free (wc := []) hD hS hA [] rfl
          have hIc : va_P G vwCl [(wd, .inr (4, [.long (lZ wb), .int (iZ wn)])), (bw, .inr (4, [.long (lZ vb), .int (iZ vn)]))] H := ((hP.sub (ws' := [(wd, .inr (4, [.long (lZ wb), .int (iZ wn)]))]) [1] rfl).app (hP.sub (ws' := [(bw, .inr (4, [.long (lZ vb), .int (iZ vn)]))]) [0] rfl))
          have hIAc : NA (va_A [] H.size) [(wd, .inr (4, [.long (lZ wb), .int (iZ wn)])), (bw, .inr (4, [.long (lZ vb), .int (iZ vn)]))] := NA.cons (z_nA hP hD [] rfl 1 rfl (by decide)) (NA.cons (z_nA hP hD [] rfl 0 rfl (by decide)) (NA.nil))
          refine z_callE (A := A) (va_runV (As := [.int (iZ tt), .ref bw]) (rest := []) ⟨hx, hb, hml, hown, hts⟩ (c_X5_repeatedThen_no lau G cy wd bw H.size wb wn tt vb vn (by first | assumption | omega) (by first | assumption | omega) (by first | assumption | omega) (by first | assumption | omega)) (cwV 2 hts gX3_standardWord_X5_repeatedThen rfl rfl rfl (by decide +kernel) ⟨Nat.le_of_ble_eq_true rfl, Nat.le_of_ble_eq_true rfl⟩) ⟨P1_blind, va_recv hK hP (ci := 4) (q0 := 1) rfl rfl, P1_mk hKK (⟨rfl, hPc, hDc, hIc, hIAc⟩)⟩ rfl rfl hl.1 rfl (lv_room (Nat.le_of_ble_eq_true rfl)) dX3_standardWord_64 ⟨(show (2 + (i - 1).toNat) + 0 ≤ 22 by omega), (show (4 + 2 * (i - 1).toNat) + 0 ≤ 44 by omega)⟩) hS.2.2 hFc (fun v H1 locs1 hR hL1 => ?_)
          obtain ⟨rfl, hq64, hP1, hD1, hF1⟩ := hR
          obtain ⟨hP, hD⟩ := va_join (wr := [(bw, .inr (4, [.long (lZ vb), .int (iZ vn)])), (wd, .inr (4, [.long (lZ wb), .int (iZ wn)]))]) (w1 := []) hP hD [] [0, 1] rfl rfl (by decide) (by decide) hF1.2 hFc hP1 hD1
          have hS : va_S A s.heap H1 locs1 := Fh.S ((Fh.of hS).tr hF1 (fun q _ h => hFc q h)) hL1
          clear hPc hDc hFc hP1 hD1 hF1 hL1 hIc hIAc
          generalize H1 = H at hP hS ⊢
          have hP : va_P G vwCl [(bw, .inr (4, [.long (lZ vb), .int (iZ vn)])), (wd, .inr (4, [.long (lZ wb), .int (iZ wn)]))] H := hP
          have hD : va_D A [(bw, .inr (4, [.long (lZ vb), .int (iZ vn)])), (wd, .inr (4, [.long (lZ wb), .int (iZ wn)]))] := hD
          have hP := hP.sub (ws' := [(bw, .inr (4, [.long (lZ vb), .int (iZ vn)])), (wd, .inr (4, [.long (lZ wb), .int (iZ wn)]))]) [0, 1] rfl
          have hD := hD.sub (ws' := [(bw, .inr (4, [.long (lZ vb), .int (iZ vn)])), (wd, .inr (4, [.long (lZ wb), .int (iZ wn)]))]) [0, 1] (by decide) rfl
          refine W.eq (g2 := F0 mt 67 ls [.null]) rfl ?_
          have hI : va_P G vwCl [(h0, .inr (2, [.int (iZ p), .int (iZ q), .int (iZ c)]))] H := im_keep2 hI0 hIA (Fh.of hS)
          try have hsm := hsp64
          refine lv_astoreN (lv' := [(6, .null), (5, .int (iZ tt)), (0, .ref h0), (1, .int (iZ kk)), (2, .ref bw), (3, .ref wd), (4, .int (iZ i))]) hx hb dX3_standardWord_67 hl (by decide) rfl (fun ls hl => ?_)
          refine lv_aloadN hx hb dX3_standardWord_69 (lv_at hl 0 rfl) ?_
          refine lv_ifnonnullN hx hb dX3_standardWord_71 ?_
          refine lv_null hx hb dX3_standardWord_74 ?_
          have hP := hP.sub (ws' := []) [] rfl
          have hD := hD.sub (ws' := []) [] (by decide) rfl
          exact z_aretE hx hb hr (Or.inl ⟨_, rfl⟩) hlocks dX3_standardWord_75 (Or.inl rfl) hS.2.2 ⟨(show ((2 + (i - 1).toNat) + 0) ≤ 22 by omega), (show ((4 + 2 * (i - 1).toNat) + 0) ≤ 44 by omega)⟩ ⟨(rfl), (trivial), (hP), (hD), Fh.of hS⟩
  · exact absurd (fun j q1 q2 => by omega) h4
set_option maxHeartbeats 4000000 in
set_option maxRecDepth 100000 in
theorem c_X5_simplest (lau : Launch) (G : va_G) (cy : Nat → ClassId) (h0 : Nat) (sz : Nat) (b n : Int) (hn : 0 ≤ n ∧ n ≤ 60) (hb2 : 0 ≤ b ∧ b < 2305843009213693952) (h1 : ¬ ciB b n = -1) : Met lau yX5_simplest wsX5_simplest ({ frames := 3, cells := 1, slots := 3, locals := 70 }) (P1 G cy [.ref h0] (fun H => H.size = sz ∧ va_P G vwCl [] H ∧ va_D (fun _ => True) [] ∧ va_P G vwCl [(h0, .inr (4, [.long (lZ b), .int (iZ n)]))] H ∧ NA (va_A [] sz) [(h0, .inr (4, [.long (lZ b), .int (iZ n)]))])) (Q1 (fun rv H0 H1 => ∃ (qo : Nat), rv = some (.ref qo) ∧ (True) ∧ va_P G vwCl [(qo, .inr (2, [.int (iZ (ciA b n (ciB b n))), .int (iZ (ciB b n)), .int (iZ (liR b n (ciA b n (ciB b n)) (ciB b n)))]))] H1 ∧ va_D (va_A [] sz) [(qo, .inr (2, [.int (iZ (ciA b n (ciB b n))), .int (iZ (ciB b n)), .int (iZ (liR b n (ciA b n (ciB b n)) (ciB b n)))]))] ∧ Fh (va_A [] sz) H0 H1)) 1 3 (va_A [] sz) := by
  refine z_head (lv := [(0, .ref h0)]) RX5 (by decide) rfl rfl (Nat.le_of_ble_eq_true rfl) rfl ?_
  intro pr ev s mt below meth cd ls hx hb hr hlocks hml hown hname hts hKK hP hl
  have hK := hKK.1
  obtain ⟨hsz, hP, hD0, hI0, hIA⟩ := hP
  subst hsz
  have hD := hD0.self (sz := s.heap.size)
  generalize hAe : va_A [] s.heap.size = A at hD hIA ⊢
  have hA : ∀ q : Nat, s.heap.size ≤ q → A q := fun q h => by rw [← hAe]; exact Or.inr h
  have hS : va_S A s.heap s.heap [] := va_S.rf
  have hP : va_P G vwCl [] s.heap := hP
  have hI : va_P G vwCl [(h0, .inr (4, [.long (lZ b), .int (iZ n)]))] s.heap := hI0
  refine lv_iconst (v := iZ 1) hx hb dX5_simplest_0 rfl ?_
  refine lv_istore_n (lv' := [(1, .int (iZ 1)), (0, .ref h0)]) hx hb dX5_simplest_1 rfl hl (by decide) rfl (fun ls hl => ?_)
  refine z_loop1 (nL := 4) (fun (w : Int) => [(0, .ref h0), (1, .int (iZ w))]) (fun (w : Int) => (1 ≤ w ∧ w ≤ 62) ∧ (fnd (fun q => 1 ≤ q ∧ ¬ ciA b n q = -1) w = -1)) (fun (w : Int) => 62 - w) (a1 := 1) ⟨(by omega), (fnd_miss (i := 0) (Int.le_refl 0) (fnd_0 (Int.le_refl 0)) (by omega))⟩ (lv_sub hl [1, 0] rfl) ?_
  rintro w ⟨i1, i2⟩ ih_2 ls hl
  refine lv_iload_n hx hb dX5_simplest_2 rfl (lv_at hl 1 rfl) ?_
  refine lv_bipush (v := iZ 61) hx hb dX5_simplest_3 (by decide +kernel) ?_
  refine z_icmp_gt (tgt := 59) hx hb dX5_simplest_5 (by decide) (by omega) (fun c_5 => ?_) (fun c_5 => ?_)
  · have hB9 : ciB b n = -1 := fnd_eq i2 (by omega); exact absurd hB9 h1
  · refine lv_iconst (v := iZ 0) hx hb dX5_simplest_8 rfl ?_
    refine lv_istore_n (lv' := [(2, .int (iZ 0)), (0, .ref h0), (1, .int (iZ w))]) hx hb dX5_simplest_9 rfl hl (by decide) rfl (fun ls hl => ?_)
    refine z_loop1 (nL := 4) (fun (a : Int) => [(0, .ref h0), (1, .int (iZ w)), (2, .int (iZ a))]) (fun (a : Int) => (0 ≤ a ∧ a ≤ w + 1) ∧ (fnd (fun a => ¬ liR b n a w = -1 ∧ (Int.gcd a w : Int) = 1) a = -1)) (fun (a : Int) => w + 1 - a) (a1 := 0) ⟨(by omega), (fnd_0 (Int.le_refl 0))⟩ (lv_sub hl [1, 2, 0] rfl) ?_
    rintro a ⟨j1, j2⟩ ih_10 ls hl
    refine lv_iload_n hx hb dX5_simplest_10 rfl (lv_at hl 2 rfl) ?_
    refine lv_iload_n hx hb dX5_simplest_11 rfl (lv_at hl 1 rfl) ?_
    refine z_icmp_gt (tgt := 53) hx hb dX5_simplest_12 (by decide) (by omega) (fun c_12 => ?_) (fun c_12 => ?_)
    · refine lv_iinc (v := iZ (w + 1)) (lv' := [(1, .int (iZ (w + 1))), (0, .ref h0), (2, .int (iZ a))]) hx hb dX5_simplest_53 hl (k := 1) rfl (iZ_add _ _) (by decide) rfl (fun ls hl => ?_)
      refine lv_goto (tgt := 2) hx hb dX5_simplest_56 (by decide) ?_
      exact ih_2 (w + 1) ⟨(by omega), (fnd_miss (by omega) i2 (fun z => z.2 (fnd_eq j2 (by omega))))⟩ ⟨by omega, by omega⟩ _ (lv_sub hl [1, 0] rfl)
    · refine lv_aload_n hx hb dX5_simplest_15 rfl (lv_at hl 0 rfl) ?_
      refine lv_iload_n hx hb dX5_simplest_16 rfl (lv_at hl 2 rfl) ?_
      refine lv_iload_n hx hb dX5_simplest_17 rfl (lv_at hl 1 rfl) ?_
      refine z_calli (va_runV (As := [.int (iZ a), .int (iZ w)]) (rest := []) ⟨hx, hb, hml, hown, hts⟩ (c_X5_leastIntercept lau G cy h0 b n a w (by first | assumption | omega) (by first | assumption | omega) (by first | assumption | omega) (by first | assumption | omega)) (cwV 2 hts gX5_simplest_X5_leastIntercept rfl rfl rfl (by decide +kernel) ⟨Nat.le_of_ble_eq_true rfl, Nat.le_of_ble_eq_true rfl⟩) ⟨P1_blind, va_recv hK hI (ci := 4) (q0 := 0) rfl rfl, P1_mk hKK (hI.sub [0] rfl)⟩ rfl rfl hl.1 rfl (lv_room (Nat.le_of_ble_eq_true rfl)) dX5_simplest_18 ⟨(show 0 + 0 ≤ 1 by omega), (show 0 + 0 ≤ 3 by omega)⟩) ?_
      refine lv_istore_n (lv' := [(3, .int (iZ (liR b n a w))), (0, .ref h0), (1, .int (iZ w)), (2, .int (iZ a))]) hx hb dX5_simplest_21 rfl hl (by decide) rfl (fun ls hl => ?_)
      refine lv_iload_n hx hb dX5_simplest_22 rfl (lv_at hl 0 rfl) ?_
      refine lv_iconst (v := iZ (-1)) hx hb dX5_simplest_23 rfl ?_
      have hlr := liR_r (b := b) (n := n) (a := a) (q := w) (by omega) (by omega) (by omega)
      refine z_icmp_eq (tgt := 47) hx hb dX5_simplest_24 (by decide) (by omega) (fun c_24 => ?_) (fun c_24 => ?_)
      · refine lv_iinc (v := iZ (a + 1)) (lv' := [(2, .int (iZ (a + 1))), (3, .int (iZ (liR b n a w))), (0, .ref h0), (1, .int (iZ w))]) hx hb dX5_simplest_47 hl (k := 3) rfl (iZ_add _ _) (by decide) rfl (fun ls hl => ?_)
        refine lv_goto (tgt := 10) hx hb dX5_simplest_50 (by decide) ?_
        exact ih_10 (a + 1) ⟨(by omega), (fnd_miss (by omega) j2 (fun z => z.1 c_24))⟩ ⟨by omega, by omega⟩ _ (lv_sub hl [2, 3, 0] rfl)
      · refine lv_iload_n hx hb dX5_simplest_27 rfl (lv_at hl 3 rfl) ?_
        refine lv_iload_n hx hb dX5_simplest_28 rfl (lv_at hl 2 rfl) ?_
        refine z_calli (va_runSN (As := [.int (iZ a), .int (iZ w)]) (rest := []) ⟨hx, hb, hml, hown, hts⟩ (c_X6_commonDivisor lau G cy a w (by first | assumption | omega) (by first | assumption | omega)) ⟨va_cnB 2 hts gX5_simplest_X6_commonDivisor_n62 rfl rfl rfl (hKK.2 (.methodLinkNest RX5 62 yX6_commonDivisor "SturmianWords") (by decide +kernel)) (hts (.initialized RX6) (by decide +kernel)) (by decide +kernel) ⟨Nat.le_of_ble_eq_true rfl, Nat.le_of_ble_eq_true rfl⟩, hts (.static yX6_commonDivisor) (by decide +kernel), trivial⟩ ⟨P1_blind, P1_mk hKK (trivial)⟩ rfl rfl hl.1 rfl (lv_room (Nat.le_of_ble_eq_true rfl)) dX5_simplest_29 ⟨(show 0 + 0 ≤ 1 by omega), (show 0 + 0 ≤ 3 by omega)⟩) ?_
        refine lv_iconst (v := iZ 1) hx hb dX5_simplest_32 rfl ?_
        have hgr := cd_r (a := a) (d := w) (by omega)
        refine z_icmp_ne (tgt := 47) hx hb dX5_simplest_33 (by decide) (by omega) (fun c_33 => ?_) (fun c_33 => ?_)
        · refine lv_iinc (v := iZ (a + 1)) (lv' := [(2, .int (iZ (a + 1))), (3, .int (iZ (liR b n a w))), (0, .ref h0), (1, .int (iZ w))]) hx hb dX5_simplest_47 hl (k := 3) rfl (iZ_add _ _) (by decide) rfl (fun ls hl => ?_)
          refine lv_goto (tgt := 10) hx hb dX5_simplest_50 (by decide) ?_
          exact ih_10 (a + 1) ⟨(by omega), (fnd_miss (by omega) j2 (fun z => c_33 z.2))⟩ ⟨by omega, by omega⟩ _ (lv_sub hl [2, 3, 0] rfl)
        · have hA9 : ciA b n w = a := fnd_hit (P := fun a => ¬ liR b n a w = -1 ∧ (Int.gcd a w : Int) = 1) (by omega) j2 ⟨c_24, c_33⟩ (by omega)
          have hB9 : ciB b n = w := fnd_hit (P := fun q => 1 ≤ q ∧ ¬ ciA b n q = -1) (by omega) i2 ⟨by omega, by omega⟩ (by omega)
          refine va_new (D := G) (ci := 2) (fs := [.int (iZ 0), .int (iZ 0), .int (iZ 0)]) (C := RX3) (T := TX3) (N := 3) hx hb hts (by decide +kernel) tyX3 tyX3_ok hown (hts (.classLink RX5 65 RX3) (by decide +kernel)) (hts (.instantiable RX3 3) (by decide +kernel)) (hts (.initialized RX3) (by decide +kernel)) hK hP hD hS hA rfl (fun j hj => by rcases (show j = 0 ∨ j = 1 ∨ j = 2 by omega) with rfl | rfl | rfl <;> rfl) (show 0 + 1 ≤ 1 by omega) (show 0 + 3 ≤ 3 by omega) dX5_simplest_36 (fun n36_1 H hP hD hS => ?_)
          have hP : va_P G vwCl [(n36_1, .inr (2, [.int (iZ 0), .int (iZ 0), .int (iZ 0)]))] H := hP
          have hD : va_D A [(n36_1, .inr (2, [.int (iZ 0), .int (iZ 0), .int (iZ 0)]))] := hD
          have hI : va_P G vwCl [(h0, .inr (4, [.long (lZ b), .int (iZ n)]))] H := im_keep2 hI0 hIA (Fh.of hS)
          refine lv_dup hx hb dX5_simplest_39 rfl ?_
          refine lv_iload_n hx hb dX5_simplest_40 rfl (lv_at hl 3 rfl) ?_
          refine lv_iload_n hx hb dX5_simplest_41 rfl (lv_at hl 2 rfl) ?_
          refine lv_iload_n hx hb dX5_simplest_42 rfl (lv_at hl 0 rfl) ?_
          have hPc := hP.sub (ws' := [(n36_1, .inr (2, [.int (iZ 0), .int (iZ 0), .int (iZ 0)]))]) [0] rfl
          have hDc := (hD.sub (ws' := [(n36_1, .inr (2, [.int (iZ 0), .int (iZ 0), .int (iZ 0)]))]) [0] (by decide) rfl).weaken (B := fun _ => True) (fun _ _ _ _ => trivial)
          have hFc := va_free (wc := [(n36_1, .inr (2, [.int (iZ 0), .int (iZ 0), .int (iZ 0)]))]) hD hS hA [0] rfl
          refine z_callE (A := A) (va_runI (As := [.int (iZ a), .int (iZ w), .int (iZ (liR b n a w))]) (rest := [.ref n36_1]) ⟨hx, hb, hml, hown, hts⟩ (c_X3_init lau G cy n36_1 H.size a w (liR b n a w)) (cwI 3 hts gX5_simplest_X3_init rfl rfl rfl (hts (.initialized RX3) (by decide +kernel)) (hts (.methodLink RX5 67 yX3_init) (by decide +kernel)) (hts (.instanceMethod yX3_init) (by decide +kernel)) rfl (by decide +kernel) ⟨Nat.le_of_ble_eq_true rfl, Nat.le_of_ble_eq_true rfl⟩) ⟨P1_blind, P1_mk hKK (⟨rfl, hPc, hDc⟩)⟩ rfl rfl hl.1 rfl (lv_room (Nat.le_of_ble_eq_true rfl)) dX5_simplest_43 ⟨(show 1 + 0 ≤ 1 by omega), (show 3 + 0 ≤ 3 by omega)⟩) hS.2.2 hFc (fun v H1 locs1 hR hL1 => ?_)
          obtain ⟨rfl, hq43, hP1, hD1, hF1⟩ := hR
          obtain ⟨hP, hD⟩ := va_join (wr := []) (w1 := [(n36_1, .inr (2, [.int (iZ a), .int (iZ w), .int (iZ (liR b n a w))]))]) hP hD [0] [] rfl rfl (by decide) (by decide) hF1.2 hFc hP1 hD1
          have hS : va_S A s.heap H1 locs1 := Fh.S ((Fh.of hS).tr hF1 (fun q _ h => hFc q h)) hL1
          clear hPc hDc hFc hP1 hD1 hF1 hL1
          generalize H1 = H at hP hS ⊢
          have hP : va_P G vwCl [(n36_1, .inr (2, [.int (iZ a), .int (iZ w), .int (iZ (liR b n a w))]))] H := hP
          have hD : va_D A [(n36_1, .inr (2, [.int (iZ a), .int (iZ w), .int (iZ (liR b n a w))]))] := hD
          refine W.eq (g2 := F0 mt 46 ls [.ref n36_1]) rfl ?_
          have hI : va_P G vwCl [(h0, .inr (4, [.long (lZ b), .int (iZ n)]))] H := im_keep2 hI0 hIA (Fh.of hS)
          exact z_aretE hx hb hr (Or.inl ⟨_, rfl⟩) hlocks dX5_simplest_46 (Or.inr ⟨_, rfl⟩) hS.2.2 ⟨(show 1 ≤ 1 by omega), (show 3 ≤ 3 by omega)⟩ ⟨n36_1, (rfl), (trivial), (by rw [hB9, hA9]; exact hP), (by rw [hB9, hA9]; exact hD), Fh.of hS⟩
set_option maxHeartbeats 4000000 in
set_option maxRecDepth 100000 in
theorem c_X5_simplest_no (lau : Launch) (G : va_G) (cy : Nat → ClassId) (h0 : Nat) (sz : Nat) (b n : Int) (hn : 0 ≤ n ∧ n ≤ 60) (hb2 : 0 ≤ b ∧ b < 2305843009213693952) (h1 : ciB b n = -1) : Met lau yX5_simplest wsX5_simplest ({ frames := 3, cells := 1, slots := 3, locals := 70 }) (P1 G cy [.ref h0] (fun H => H.size = sz ∧ va_P G vwCl [] H ∧ va_D (fun _ => True) [] ∧ va_P G vwCl [(h0, .inr (4, [.long (lZ b), .int (iZ n)]))] H ∧ NA (va_A [] sz) [(h0, .inr (4, [.long (lZ b), .int (iZ n)]))])) (Q1 (fun rv H0 H1 => rv = some .null ∧ (True) ∧ va_P G vwCl [] H1 ∧ va_D (va_A [] sz) [] ∧ Fh (va_A [] sz) H0 H1)) 1 3 (va_A [] sz) := by
  refine z_head (lv := [(0, .ref h0)]) RX5 (by decide) rfl rfl (Nat.le_of_ble_eq_true rfl) rfl ?_
  intro pr ev s mt below meth cd ls hx hb hr hlocks hml hown hname hts hKK hP hl
  have hK := hKK.1
  obtain ⟨hsz, hP, hD0, hI0, hIA⟩ := hP
  subst hsz
  have hD := hD0.self (sz := s.heap.size)
  generalize hAe : va_A [] s.heap.size = A at hD hIA ⊢
  have hA : ∀ q : Nat, s.heap.size ≤ q → A q := fun q h => by rw [← hAe]; exact Or.inr h
  have hS : va_S A s.heap s.heap [] := va_S.rf
  have hP : va_P G vwCl [] s.heap := hP
  have hI : va_P G vwCl [(h0, .inr (4, [.long (lZ b), .int (iZ n)]))] s.heap := hI0
  refine lv_iconst (v := iZ 1) hx hb dX5_simplest_0 rfl ?_
  refine lv_istore_n (lv' := [(1, .int (iZ 1)), (0, .ref h0)]) hx hb dX5_simplest_1 rfl hl (by decide) rfl (fun ls hl => ?_)
  refine z_loop1 (nL := 4) (fun (w : Int) => [(0, .ref h0), (1, .int (iZ w))]) (fun (w : Int) => (1 ≤ w ∧ w ≤ 62) ∧ (fnd (fun q => 1 ≤ q ∧ ¬ ciA b n q = -1) w = -1)) (fun (w : Int) => 62 - w) (a1 := 1) ⟨(by omega), (fnd_miss (i := 0) (Int.le_refl 0) (fnd_0 (Int.le_refl 0)) (by omega))⟩ (lv_sub hl [1, 0] rfl) ?_
  rintro w ⟨i1, i2⟩ ih_2 ls hl
  refine lv_iload_n hx hb dX5_simplest_2 rfl (lv_at hl 1 rfl) ?_
  refine lv_bipush (v := iZ 61) hx hb dX5_simplest_3 (by decide +kernel) ?_
  refine z_icmp_gt (tgt := 59) hx hb dX5_simplest_5 (by decide) (by omega) (fun c_5 => ?_) (fun c_5 => ?_)
  · have hB9 : ciB b n = -1 := fnd_eq i2 (by omega)
    refine lv_null hx hb dX5_simplest_59 ?_
    exact z_aretE hx hb hr (Or.inl ⟨_, rfl⟩) hlocks dX5_simplest_60 (Or.inl rfl) hS.2.2 ⟨(show 0 ≤ 1 by omega), (show 0 ≤ 3 by omega)⟩ ⟨(rfl), (trivial), (hP), (hD), Fh.of hS⟩
  · refine lv_iconst (v := iZ 0) hx hb dX5_simplest_8 rfl ?_
    refine lv_istore_n (lv' := [(2, .int (iZ 0)), (0, .ref h0), (1, .int (iZ w))]) hx hb dX5_simplest_9 rfl hl (by decide) rfl (fun ls hl => ?_)
    refine z_loop1 (nL := 4) (fun (a : Int) => [(0, .ref h0), (1, .int (iZ w)), (2, .int (iZ a))]) (fun (a : Int) => (0 ≤ a ∧ a ≤ w + 1) ∧ (fnd (fun a => ¬ liR b n a w = -1 ∧ (Int.gcd a w : Int) = 1) a = -1)) (fun (a : Int) => w + 1 - a) (a1 := 0) ⟨(by omega), (fnd_0 (Int.le_refl 0))⟩ (lv_sub hl [1, 2, 0] rfl) ?_
    rintro a ⟨j1, j2⟩ ih_10 ls hl
    refine lv_iload_n hx hb dX5_simplest_10 rfl (lv_at hl 2 rfl) ?_
    refine lv_iload_n hx hb dX5_simplest_11 rfl (lv_at hl 1 rfl) ?_
    refine z_icmp_gt (tgt := 53) hx hb dX5_simplest_12 (by decide) (by omega) (fun c_12 => ?_) (fun c_12 => ?_)
    · refine lv_iinc (v := iZ (w + 1)) (lv' := [(1, .int (iZ (w + 1))), (0, .ref h0), (2, .int (iZ a))]) hx hb dX5_simplest_53 hl (k := 1) rfl (iZ_add _ _) (by decide) rfl (fun ls hl => ?_)
      refine lv_goto (tgt := 2) hx hb dX5_simplest_56 (by decide) ?_
      exact ih_2 (w + 1) ⟨(by omega), (fnd_miss (by omega) i2 (fun z => z.2 (fnd_eq j2 (by omega))))⟩ ⟨by omega, by omega⟩ _ (lv_sub hl [1, 0] rfl)
    · refine lv_aload_n hx hb dX5_simplest_15 rfl (lv_at hl 0 rfl) ?_
      refine lv_iload_n hx hb dX5_simplest_16 rfl (lv_at hl 2 rfl) ?_
      refine lv_iload_n hx hb dX5_simplest_17 rfl (lv_at hl 1 rfl) ?_
      refine z_calli (va_runV (As := [.int (iZ a), .int (iZ w)]) (rest := []) ⟨hx, hb, hml, hown, hts⟩ (c_X5_leastIntercept lau G cy h0 b n a w (by first | assumption | omega) (by first | assumption | omega) (by first | assumption | omega) (by first | assumption | omega)) (cwV 2 hts gX5_simplest_X5_leastIntercept rfl rfl rfl (by decide +kernel) ⟨Nat.le_of_ble_eq_true rfl, Nat.le_of_ble_eq_true rfl⟩) ⟨P1_blind, va_recv hK hI (ci := 4) (q0 := 0) rfl rfl, P1_mk hKK (hI.sub [0] rfl)⟩ rfl rfl hl.1 rfl (lv_room (Nat.le_of_ble_eq_true rfl)) dX5_simplest_18 ⟨(show 0 + 0 ≤ 1 by omega), (show 0 + 0 ≤ 3 by omega)⟩) ?_
      refine lv_istore_n (lv' := [(3, .int (iZ (liR b n a w))), (0, .ref h0), (1, .int (iZ w)), (2, .int (iZ a))]) hx hb dX5_simplest_21 rfl hl (by decide) rfl (fun ls hl => ?_)
      refine lv_iload_n hx hb dX5_simplest_22 rfl (lv_at hl 0 rfl) ?_
      refine lv_iconst (v := iZ (-1)) hx hb dX5_simplest_23 rfl ?_
      have hlr := liR_r (b := b) (n := n) (a := a) (q := w) (by omega) (by omega) (by omega)
      refine z_icmp_eq (tgt := 47) hx hb dX5_simplest_24 (by decide) (by omega) (fun c_24 => ?_) (fun c_24 => ?_)
      · refine lv_iinc (v := iZ (a + 1)) (lv' := [(2, .int (iZ (a + 1))), (3, .int (iZ (liR b n a w))), (0, .ref h0), (1, .int (iZ w))]) hx hb dX5_simplest_47 hl (k := 3) rfl (iZ_add _ _) (by decide) rfl (fun ls hl => ?_)
        refine lv_goto (tgt := 10) hx hb dX5_simplest_50 (by decide) ?_
        exact ih_10 (a + 1) ⟨(by omega), (fnd_miss (by omega) j2 (fun z => z.1 c_24))⟩ ⟨by omega, by omega⟩ _ (lv_sub hl [2, 3, 0] rfl)
      · refine lv_iload_n hx hb dX5_simplest_27 rfl (lv_at hl 3 rfl) ?_
        refine lv_iload_n hx hb dX5_simplest_28 rfl (lv_at hl 2 rfl) ?_
        refine z_calli (va_runSN (As := [.int (iZ a), .int (iZ w)]) (rest := []) ⟨hx, hb, hml, hown, hts⟩ (c_X6_commonDivisor lau G cy a w (by first | assumption | omega) (by first | assumption | omega)) ⟨va_cnB 2 hts gX5_simplest_X6_commonDivisor_n62 rfl rfl rfl (hKK.2 (.methodLinkNest RX5 62 yX6_commonDivisor "SturmianWords") (by decide +kernel)) (hts (.initialized RX6) (by decide +kernel)) (by decide +kernel) ⟨Nat.le_of_ble_eq_true rfl, Nat.le_of_ble_eq_true rfl⟩, hts (.static yX6_commonDivisor) (by decide +kernel), trivial⟩ ⟨P1_blind, P1_mk hKK (trivial)⟩ rfl rfl hl.1 rfl (lv_room (Nat.le_of_ble_eq_true rfl)) dX5_simplest_29 ⟨(show 0 + 0 ≤ 1 by omega), (show 0 + 0 ≤ 3 by omega)⟩) ?_
        refine lv_iconst (v := iZ 1) hx hb dX5_simplest_32 rfl ?_
        have hgr := cd_r (a := a) (d := w) (by omega)
        refine z_icmp_ne (tgt := 47) hx hb dX5_simplest_33 (by decide) (by omega) (fun c_33 => ?_) (fun c_33 => ?_)
        · refine lv_iinc (v := iZ (a + 1)) (lv' := [(2, .int (iZ (a + 1))), (3, .int (iZ (liR b n a w))), (0, .ref h0), (1, .int (iZ w))]) hx hb dX5_simplest_47 hl (k := 3) rfl (iZ_add _ _) (by decide) rfl (fun ls hl => ?_)
          refine lv_goto (tgt := 10) hx hb dX5_simplest_50 (by decide) ?_
          exact ih_10 (a + 1) ⟨(by omega), (fnd_miss (by omega) j2 (fun z => c_33 z.2))⟩ ⟨by omega, by omega⟩ _ (lv_sub hl [2, 3, 0] rfl)
        · exfalso; have hA9 : ciA b n w = a := fnd_hit (P := fun a => ¬ liR b n a w = -1 ∧ (Int.gcd a w : Int) = 1) (by omega) j2 ⟨c_24, c_33⟩ (by omega); have hB9 : ciB b n = w := fnd_hit (P := fun q => 1 ≤ q ∧ ¬ ciA b n q = -1) (by omega) i2 ⟨by omega, by omega⟩ (by omega); omega
set_option maxHeartbeats 4000000 in
set_option maxRecDepth 100000 in
theorem c_X1_keep (lau : Launch) (G : va_G) (cy : Nat → ClassId) (hi ra st sl wo : Nat) (sz : Nat) (nx kp : Int) (rw9 : Int → Option Nat) (hnx : 0 ≤ nx ∧ nx < 6) (hkp : 0 ≤ kp ∧ kp ≤ 6) : Met lau yX1_keep wsX1_keep ({ frames := 1, cells := 0, slots := 0, locals := 21 }) (P1 G cy [.ref hi, .ref st] (fun H => H.size = sz ∧ va_P G vwCl [(hi, .inr (1, [.ref ra, .int (iZ nx), .int (iZ kp)])), (ra, .inl (cy 2, 6, .inr (.inr (.inr (.inr (qf rw9))))))] H ∧ va_D (fun _ => True) [(hi, .inr (1, [.ref ra, .int (iZ nx), .int (iZ kp)])), (ra, .inl (cy 2, 6, .inr (.inr (.inr (.inr (qf rw9))))))] ∧ va_P G vwCl [(st, .inr (3, [.ref sl, .ref wo]))] H ∧ NA (va_A [(hi, .inr (1, [.ref ra, .int (iZ nx), .int (iZ kp)])), (ra, .inl (cy 2, 6, .inr (.inr (.inr (.inr (qf rw9))))))] sz) [(st, .inr (3, [.ref sl, .ref wo]))])) (Q1 (fun rv H0 H1 => rv = none ∧ (True) ∧ va_P G vwCl [(hi, .inr (1, [.ref ra, .int (iZ (nxF nx)), .int (iZ (kpF kp))])), (ra, .inl (cy 2, 6, .inr (.inr (.inr (.inr (qf (upq rw9 nx (some st))))))))] H1 ∧ va_D (va_A [(hi, .inr (1, [.ref ra, .int (iZ nx), .int (iZ kp)])), (ra, .inl (cy 2, 6, .inr (.inr (.inr (.inr (qf rw9))))))] sz) [(hi, .inr (1, [.ref ra, .int (iZ (nxF nx)), .int (iZ (kpF kp))])), (ra, .inl (cy 2, 6, .inr (.inr (.inr (.inr (qf (upq rw9 nx (some st))))))))] ∧ Fh (va_A [(hi, .inr (1, [.ref ra, .int (iZ nx), .int (iZ kp)])), (ra, .inl (cy 2, 6, .inr (.inr (.inr (.inr (qf rw9))))))] sz) H0 H1)) 0 0 (va_A [(hi, .inr (1, [.ref ra, .int (iZ nx), .int (iZ kp)])), (ra, .inl (cy 2, 6, .inr (.inr (.inr (.inr (qf rw9))))))] sz) := by
  refine z_head (lv := [(0, .ref hi), (1, .ref st)]) RX1 (by decide) rfl rfl (Nat.le_of_ble_eq_true rfl) rfl ?_
  intro pr ev s mt below meth cd ls hx hb hr hlocks hml hown hname hts hKK hP hl
  have hK := hKK.1
  obtain ⟨hsz, hP, hD0, hI0, hIA⟩ := hP
  subst hsz
  have hD := hD0.self (sz := s.heap.size)
  generalize hAe : va_A [(hi, .inr (1, [.ref ra, .int (iZ nx), .int (iZ kp)])), (ra, .inl (cy 2, 6, .inr (.inr (.inr (.inr (qf rw9))))))] s.heap.size = A at hD hIA ⊢
  have hA : ∀ q : Nat, s.heap.size ≤ q → A q := fun q h => by rw [← hAe]; exact Or.inr h
  have hS : va_S A s.heap s.heap [] := va_S.rf
  have hP : va_P G vwCl [(hi, .inr (1, [.ref ra, .int (iZ nx), .int (iZ kp)])), (ra, .inl (cy 2, 6, .inr (.inr (.inr (.inr (qf rw9))))))] s.heap := hP
  have hI : va_P G vwCl [(st, .inr (3, [.ref sl, .ref wo]))] s.heap := hI0
  refine lv_aload_n hx hb dX1_keep_0 rfl (lv_at hl 0 rfl) ?_
  refine va_get (D := G) (ci := 1) (v := .int (iZ nx)) (C := RX1) (T := TX1) (N := 3) hx hb hts (by decide +kernel) hown hK hP 0 rfl rfl 1 (by decide) (hts (.fieldLink RX1 17 "SturmianWords$History" "next" "I") (by decide +kernel)) (fun _ h9 => h9) rfl dX1_keep_1 ?_
  refine z_if_lt (tgt := 19) hx hb dX1_keep_4 (by decide) (by omega) (fun c_4 => ?_) (fun c_4 => ?_)
  · exfalso; omega
  · refine lv_aload_n hx hb dX1_keep_7 rfl (lv_at hl 0 rfl) ?_
    refine va_get (D := G) (ci := 1) (v := .int (iZ nx)) (C := RX1) (T := TX1) (N := 3) hx hb hts (by decide +kernel) hown hK hP 0 rfl rfl 1 (by decide) (hts (.fieldLink RX1 17 "SturmianWords$History" "next" "I") (by decide +kernel)) (fun _ h9 => h9) rfl dX1_keep_8 ?_
    refine lv_aload_n hx hb dX1_keep_11 rfl (lv_at hl 0 rfl) ?_
    refine va_get (D := G) (ci := 1) (v := .ref ra) (C := RX1) (T := TX1) (N := 3) hx hb hts (by decide +kernel) hown hK hP 0 rfl rfl 0 (by decide) (hts (.fieldLink RX1 11 "SturmianWords$History" "rows" "[LSturmianWords$State;") (by decide +kernel)) (fun _ h9 => h9) rfl dX1_keep_12 ?_
    refine va_alen (v := iZ 6) (D := G) hx hb hK hP 1 2 rfl rfl (show Int32.ofNat 6 = iZ 6 by decide +kernel) dX1_keep_15 ?_
    refine z_icmp_lt (tgt := 20) hx hb dX1_keep_16 (by decide) (by omega) (fun c_16 => ?_) (fun c_16 => ?_)
    · refine lv_aload_n hx hb dX1_keep_20 rfl (lv_at hl 0 rfl) ?_
      refine va_get (D := G) (ci := 1) (v := .ref ra) (C := RX1) (T := TX1) (N := 3) hx hb hts (by decide +kernel) hown hK hP 0 rfl rfl 0 (by decide) (hts (.fieldLink RX1 11 "SturmianWords$History" "rows" "[LSturmianWords$State;") (by decide +kernel)) (fun _ h9 => h9) rfl dX1_keep_21 ?_
      refine lv_aload_n hx hb dX1_keep_24 rfl (lv_at hl 0 rfl) ?_
      refine va_get (D := G) (ci := 1) (v := .int (iZ nx)) (C := RX1) (T := TX1) (N := 3) hx hb hts (by decide +kernel) hown hK hP 0 rfl rfl 1 (by decide) (hts (.fieldLink RX1 17 "SturmianWords$History" "next" "I") (by decide +kernel)) (fun _ h9 => h9) rfl dX1_keep_25 ?_
      refine lv_aload_n hx hb dX1_keep_28 rfl (lv_at hl 1 rfl) ?_
      refine z_aast (D := G) hx hb hK hP hD hS 1 2 0 3 hI rfl rfl rfl rfl (by omega) dX1_keep_29 (fun H locs hP hD hS => ?_)
      have hP : va_P G vwCl [(hi, .inr (1, [.ref ra, .int (iZ nx), .int (iZ kp)])), (ra, .inl (cy 2, 6, .inr (.inr (.inr (.inr (qf (upq rw9 nx (some st))))))))] H := hP
      have hD : va_D A [(hi, .inr (1, [.ref ra, .int (iZ nx), .int (iZ kp)])), (ra, .inl (cy 2, 6, .inr (.inr (.inr (.inr (qf (upq rw9 nx (some st))))))))] := hD
      have hI : va_P G vwCl [(st, .inr (3, [.ref sl, .ref wo]))] H := im_keep2 hI0 hIA (Fh.of hS)
      refine lv_aload_n hx hb dX1_keep_30 rfl (lv_at hl 0 rfl) ?_
      refine lv_aload_n hx hb dX1_keep_31 rfl (lv_at hl 0 rfl) ?_
      refine va_get (D := G) (ci := 1) (v := .int (iZ nx)) (C := RX1) (T := TX1) (N := 3) hx hb hts (by decide +kernel) hown hK hP 0 rfl rfl 1 (by decide) (hts (.fieldLink RX1 17 "SturmianWords$History" "next" "I") (by decide +kernel)) (fun _ h9 => h9) rfl dX1_keep_32 ?_
      refine lv_iconst (v := iZ 1) hx hb dX1_keep_35 rfl ?_
      refine z_iadd hx hb dX1_keep_36 ?_
      refine lv_aload_n hx hb dX1_keep_37 rfl (lv_at hl 0 rfl) ?_
      refine va_get (D := G) (ci := 1) (v := .ref ra) (C := RX1) (T := TX1) (N := 3) hx hb hts (by decide +kernel) hown hK hP 0 rfl rfl 0 (by decide) (hts (.fieldLink RX1 11 "SturmianWords$History" "rows" "[LSturmianWords$State;") (by decide +kernel)) (fun _ h9 => h9) rfl dX1_keep_38 ?_
      refine va_alen (v := iZ 6) (D := G) hx hb hK hP 1 2 rfl rfl (show Int32.ofNat 6 = iZ 6 by decide +kernel) dX1_keep_41 ?_
      refine z_icmp_ge (tgt := 54) hx hb dX1_keep_42 (by decide) (by omega) (fun c_42 => ?_) (fun c_42 => ?_)
      · have e1 : nxF nx = 0 := by unfold nxF; rw [if_neg (by omega)]
        refine lv_iconst (v := iZ 0) hx hb dX1_keep_54 rfl ?_
        refine z_top (b := (nxF nx)) (e1.symm) ?_
        refine va_put (D := G) (ci := 1) (v := .int (iZ (nxF nx))) (ty := .int) (C := RX1) (T := TX1) (N := 3) hx hb hts (by decide +kernel) tyX1 tyX1_ok nmX1 hown hK hP hD hS 0 rfl rfl 1 (by decide) (hts (.fieldLink RX1 17 "SturmianWords$History" "next" "I") (by decide +kernel)) (fun _ h9 => h9) rfl (by decide +kernel) rfl rfl (Nat.le_of_ble_eq_true rfl) dX1_keep_55 (fun H locs hP hD hS => ?_)
        have hP : va_P G vwCl [(hi, .inr (1, [.ref ra, .int (iZ (nxF nx)), .int (iZ kp)])), (ra, .inl (cy 2, 6, .inr (.inr (.inr (.inr (qf (upq rw9 nx (some st))))))))] H := hP
        have hD : va_D A [(hi, .inr (1, [.ref ra, .int (iZ (nxF nx)), .int (iZ kp)])), (ra, .inl (cy 2, 6, .inr (.inr (.inr (.inr (qf (upq rw9 nx (some st))))))))] := hD
        have hI : va_P G vwCl [(st, .inr (3, [.ref sl, .ref wo]))] H := im_keep2 hI0 hIA (Fh.of hS)
        refine lv_aload_n hx hb dX1_keep_58 rfl (lv_at hl 0 rfl) ?_
        refine lv_aload_n hx hb dX1_keep_59 rfl (lv_at hl 0 rfl) ?_
        refine va_get (D := G) (ci := 1) (v := .int (iZ kp)) (C := RX1) (T := TX1) (N := 3) hx hb hts (by decide +kernel) hown hK hP 0 rfl rfl 2 (by decide) (hts (.fieldLink RX1 21 "SturmianWords$History" "kept" "I") (by decide +kernel)) (fun _ h9 => h9) rfl dX1_keep_60 ?_
        refine lv_iconst (v := iZ 1) hx hb dX1_keep_63 rfl ?_
        refine z_iadd hx hb dX1_keep_64 ?_
        refine lv_aload_n hx hb dX1_keep_65 rfl (lv_at hl 0 rfl) ?_
        refine va_get (D := G) (ci := 1) (v := .ref ra) (C := RX1) (T := TX1) (N := 3) hx hb hts (by decide +kernel) hown hK hP 0 rfl rfl 0 (by decide) (hts (.fieldLink RX1 11 "SturmianWords$History" "rows" "[LSturmianWords$State;") (by decide +kernel)) (fun _ h9 => h9) rfl dX1_keep_66 ?_
        refine va_alen (v := iZ 6) (D := G) hx hb hK hP 1 2 rfl rfl (show Int32.ofNat 6 = iZ 6 by decide +kernel) dX1_keep_69 ?_
        refine z_mmin hx hb (by rw [hml]; exact hl.1.symm) hown (hts (.methodLink RX1 24 Lib.Math.min.name) (by decide +kernel)) (hts (.static Lib.Math.min.name) (by decide +kernel)) (hts (.initialized "java/lang/Math") (by decide +kernel)) (hts (.code Lib.Math.min.name Lib.Math.min.code 2 (some .int)) (by decide +kernel)) (Nat.le_of_ble_eq_true rfl) (Nat.le_of_ble_eq_true rfl) (by omega) (by omega) dX1_keep_70 (by omega) (fun mm70 hmm70 => ?_)
        refine va_put (D := G) (ci := 1) (v := .int (iZ mm70)) (ty := .int) (C := RX1) (T := TX1) (N := 3) hx hb hts (by decide +kernel) tyX1 tyX1_ok nmX1 hown hK hP hD hS 0 rfl rfl 2 (by decide) (hts (.fieldLink RX1 21 "SturmianWords$History" "kept" "I") (by decide +kernel)) (fun _ h9 => h9) rfl (by decide +kernel) rfl rfl (Nat.le_of_ble_eq_true rfl) dX1_keep_73 (fun H locs hP hD hS => ?_)
        have hP : va_P G vwCl [(hi, .inr (1, [.ref ra, .int (iZ (nxF nx)), .int (iZ mm70)])), (ra, .inl (cy 2, 6, .inr (.inr (.inr (.inr (qf (upq rw9 nx (some st))))))))] H := hP
        have hD : va_D A [(hi, .inr (1, [.ref ra, .int (iZ (nxF nx)), .int (iZ mm70)])), (ra, .inl (cy 2, 6, .inr (.inr (.inr (.inr (qf (upq rw9 nx (some st))))))))] := hD
        have hI : va_P G vwCl [(st, .inr (3, [.ref sl, .ref wo]))] H := im_keep2 hI0 hIA (Fh.of hS)
        have e2 : kpF kp = mm70 := by unfold kpF; split <;> omega
        rw [← e2] at hP hD
        exact z_vretE hx hb hr hlocks dX1_keep_76 hS.2.2 ⟨(show 0 ≤ 0 by omega), (show 0 ≤ 0 by omega)⟩ ⟨(rfl), (trivial), (hP), (hD), Fh.of hS⟩
      · have e1 : nxF nx = nx + 1 := by unfold nxF; rw [if_pos (by omega)]
        refine lv_aload_n hx hb dX1_keep_45 rfl (lv_at hl 0 rfl) ?_
        refine va_get (D := G) (ci := 1) (v := .int (iZ nx)) (C := RX1) (T := TX1) (N := 3) hx hb hts (by decide +kernel) hown hK hP 0 rfl rfl 1 (by decide) (hts (.fieldLink RX1 17 "SturmianWords$History" "next" "I") (by decide +kernel)) (fun _ h9 => h9) rfl dX1_keep_46 ?_
        refine lv_iconst (v := iZ 1) hx hb dX1_keep_49 rfl ?_
        refine z_iadd hx hb dX1_keep_50 ?_
        refine z_top (b := (nxF nx)) (e1.symm) ?_
        refine lv_goto (tgt := 55) hx hb dX1_keep_51 (by decide) ?_
        refine va_put (D := G) (ci := 1) (v := .int (iZ (nxF nx))) (ty := .int) (C := RX1) (T := TX1) (N := 3) hx hb hts (by decide +kernel) tyX1 tyX1_ok nmX1 hown hK hP hD hS 0 rfl rfl 1 (by decide) (hts (.fieldLink RX1 17 "SturmianWords$History" "next" "I") (by decide +kernel)) (fun _ h9 => h9) rfl (by decide +kernel) rfl rfl (Nat.le_of_ble_eq_true rfl) dX1_keep_55 (fun H locs hP hD hS => ?_)
        have hP : va_P G vwCl [(hi, .inr (1, [.ref ra, .int (iZ (nxF nx)), .int (iZ kp)])), (ra, .inl (cy 2, 6, .inr (.inr (.inr (.inr (qf (upq rw9 nx (some st))))))))] H := hP
        have hD : va_D A [(hi, .inr (1, [.ref ra, .int (iZ (nxF nx)), .int (iZ kp)])), (ra, .inl (cy 2, 6, .inr (.inr (.inr (.inr (qf (upq rw9 nx (some st))))))))] := hD
        have hI : va_P G vwCl [(st, .inr (3, [.ref sl, .ref wo]))] H := im_keep2 hI0 hIA (Fh.of hS)
        refine lv_aload_n hx hb dX1_keep_58 rfl (lv_at hl 0 rfl) ?_
        refine lv_aload_n hx hb dX1_keep_59 rfl (lv_at hl 0 rfl) ?_
        refine va_get (D := G) (ci := 1) (v := .int (iZ kp)) (C := RX1) (T := TX1) (N := 3) hx hb hts (by decide +kernel) hown hK hP 0 rfl rfl 2 (by decide) (hts (.fieldLink RX1 21 "SturmianWords$History" "kept" "I") (by decide +kernel)) (fun _ h9 => h9) rfl dX1_keep_60 ?_
        refine lv_iconst (v := iZ 1) hx hb dX1_keep_63 rfl ?_
        refine z_iadd hx hb dX1_keep_64 ?_
        refine lv_aload_n hx hb dX1_keep_65 rfl (lv_at hl 0 rfl) ?_
        refine va_get (D := G) (ci := 1) (v := .ref ra) (C := RX1) (T := TX1) (N := 3) hx hb hts (by decide +kernel) hown hK hP 0 rfl rfl 0 (by decide) (hts (.fieldLink RX1 11 "SturmianWords$History" "rows" "[LSturmianWords$State;") (by decide +kernel)) (fun _ h9 => h9) rfl dX1_keep_66 ?_
        refine va_alen (v := iZ 6) (D := G) hx hb hK hP 1 2 rfl rfl (show Int32.ofNat 6 = iZ 6 by decide +kernel) dX1_keep_69 ?_
        refine z_mmin hx hb (by rw [hml]; exact hl.1.symm) hown (hts (.methodLink RX1 24 Lib.Math.min.name) (by decide +kernel)) (hts (.static Lib.Math.min.name) (by decide +kernel)) (hts (.initialized "java/lang/Math") (by decide +kernel)) (hts (.code Lib.Math.min.name Lib.Math.min.code 2 (some .int)) (by decide +kernel)) (Nat.le_of_ble_eq_true rfl) (Nat.le_of_ble_eq_true rfl) (by omega) (by omega) dX1_keep_70 (by omega) (fun mm70 hmm70 => ?_)
        refine va_put (D := G) (ci := 1) (v := .int (iZ mm70)) (ty := .int) (C := RX1) (T := TX1) (N := 3) hx hb hts (by decide +kernel) tyX1 tyX1_ok nmX1 hown hK hP hD hS 0 rfl rfl 2 (by decide) (hts (.fieldLink RX1 21 "SturmianWords$History" "kept" "I") (by decide +kernel)) (fun _ h9 => h9) rfl (by decide +kernel) rfl rfl (Nat.le_of_ble_eq_true rfl) dX1_keep_73 (fun H locs hP hD hS => ?_)
        have hP : va_P G vwCl [(hi, .inr (1, [.ref ra, .int (iZ (nxF nx)), .int (iZ mm70)])), (ra, .inl (cy 2, 6, .inr (.inr (.inr (.inr (qf (upq rw9 nx (some st))))))))] H := hP
        have hD : va_D A [(hi, .inr (1, [.ref ra, .int (iZ (nxF nx)), .int (iZ mm70)])), (ra, .inl (cy 2, 6, .inr (.inr (.inr (.inr (qf (upq rw9 nx (some st))))))))] := hD
        have hI : va_P G vwCl [(st, .inr (3, [.ref sl, .ref wo]))] H := im_keep2 hI0 hIA (Fh.of hS)
        have e2 : kpF kp = mm70 := by unfold kpF; split <;> omega
        rw [← e2] at hP hD
        exact z_vretE hx hb hr hlocks dX1_keep_76 hS.2.2 ⟨(show 0 ≤ 0 by omega), (show 0 ≤ 0 by omega)⟩ ⟨(rfl), (trivial), (hP), (hD), Fh.of hS⟩
    · exfalso; omega
set_option maxHeartbeats 4000000 in
set_option maxRecDepth 100000 in
theorem c_X1_takeLatest_no (lau : Launch) (G : va_G) (cy : Nat → ClassId) (hi ra : Nat) (sz : Nat) (nx kp : Int) (rw9 : Int → Option Nat) (hnx : 0 ≤ nx ∧ nx < 6) (hkp : kp = 0) : Met lau yX1_takeLatest wsX1_takeLatest ({ frames := 0, cells := 0, slots := 0, locals := 0 }) (P1 G cy [.ref hi] (fun H => H.size = sz ∧ va_P G vwCl [(hi, .inr (1, [.ref ra, .int (iZ nx), .int (iZ kp)])), (ra, .inl (cy 2, 6, .inr (.inr (.inr (.inr (qf rw9))))))] H ∧ va_D (fun _ => True) [(hi, .inr (1, [.ref ra, .int (iZ nx), .int (iZ kp)])), (ra, .inl (cy 2, 6, .inr (.inr (.inr (.inr (qf rw9))))))])) (Q1 (fun rv H0 H1 => rv = some .null ∧ (True) ∧ va_P G vwCl [(hi, .inr (1, [.ref ra, .int (iZ nx), .int (iZ kp)])), (ra, .inl (cy 2, 6, .inr (.inr (.inr (.inr (qf rw9))))))] H1 ∧ va_D (va_A [(hi, .inr (1, [.ref ra, .int (iZ nx), .int (iZ kp)])), (ra, .inl (cy 2, 6, .inr (.inr (.inr (.inr (qf rw9))))))] sz) [(hi, .inr (1, [.ref ra, .int (iZ nx), .int (iZ kp)])), (ra, .inl (cy 2, 6, .inr (.inr (.inr (.inr (qf rw9))))))] ∧ Fh (va_A [(hi, .inr (1, [.ref ra, .int (iZ nx), .int (iZ kp)])), (ra, .inl (cy 2, 6, .inr (.inr (.inr (.inr (qf rw9))))))] sz) H0 H1)) 0 0 (va_A [(hi, .inr (1, [.ref ra, .int (iZ nx), .int (iZ kp)])), (ra, .inl (cy 2, 6, .inr (.inr (.inr (.inr (qf rw9))))))] sz) := by
  refine z_head (lv := [(0, .ref hi)]) RX1 (by decide) rfl rfl (Nat.le_of_ble_eq_true rfl) rfl ?_
  intro pr ev s mt below meth cd ls hx hb hr hlocks hml hown hname hts hKK hP hl
  have hK := hKK.1
  obtain ⟨hsz, hP, hD0⟩ := hP
  subst hsz
  have hD := hD0.self (sz := s.heap.size)
  generalize hAe : va_A [(hi, .inr (1, [.ref ra, .int (iZ nx), .int (iZ kp)])), (ra, .inl (cy 2, 6, .inr (.inr (.inr (.inr (qf rw9))))))] s.heap.size = A at hD ⊢
  have hA : ∀ q : Nat, s.heap.size ≤ q → A q := fun q h => by rw [← hAe]; exact Or.inr h
  have hS : va_S A s.heap s.heap [] := va_S.rf
  have hP : va_P G vwCl [(hi, .inr (1, [.ref ra, .int (iZ nx), .int (iZ kp)])), (ra, .inl (cy 2, 6, .inr (.inr (.inr (.inr (qf rw9))))))] s.heap := hP
  refine lv_aload_n hx hb dX1_takeLatest_0 rfl (lv_at hl 0 rfl) ?_
  refine va_get (D := G) (ci := 1) (v := .int (iZ nx)) (C := RX1) (T := TX1) (N := 3) hx hb hts (by decide +kernel) hown hK hP 0 rfl rfl 1 (by decide) (hts (.fieldLink RX1 17 "SturmianWords$History" "next" "I") (by decide +kernel)) (fun _ h9 => h9) rfl dX1_takeLatest_1 ?_
  refine z_if_le (tgt := 16) hx hb dX1_takeLatest_4 (by decide) (by omega) (fun c_4 => ?_) (fun c_4 => ?_)
  · refine lv_aload_n hx hb dX1_takeLatest_16 rfl (lv_at hl 0 rfl) ?_
    refine va_get (D := G) (ci := 1) (v := .ref ra) (C := RX1) (T := TX1) (N := 3) hx hb hts (by decide +kernel) hown hK hP 0 rfl rfl 0 (by decide) (hts (.fieldLink RX1 11 "SturmianWords$History" "rows" "[LSturmianWords$State;") (by decide +kernel)) (fun _ h9 => h9) rfl dX1_takeLatest_17 ?_
    refine va_alen (v := iZ 6) (D := G) hx hb hK hP 1 2 rfl rfl (show Int32.ofNat 6 = iZ 6 by decide +kernel) dX1_takeLatest_20 ?_
    refine lv_iconst (v := iZ 1) hx hb dX1_takeLatest_21 rfl ?_
    refine z_isub hx hb dX1_takeLatest_22 ?_
    refine z_tope (fun x23_1 ex23_1 => ?_)
    refine lv_istore_n (lv' := [(1, .int (iZ x23_1)), (0, .ref hi)]) hx hb dX1_takeLatest_23 rfl hl (by decide) rfl (fun ls hl => ?_)
    refine lv_aload_n hx hb dX1_takeLatest_24 rfl (lv_at hl 1 rfl) ?_
    refine va_get (D := G) (ci := 1) (v := .int (iZ kp)) (C := RX1) (T := TX1) (N := 3) hx hb hts (by decide +kernel) hown hK hP 0 rfl rfl 2 (by decide) (hts (.fieldLink RX1 21 "SturmianWords$History" "kept" "I") (by decide +kernel)) (fun _ h9 => h9) rfl dX1_takeLatest_25 ?_
    refine lv_iconst (v := iZ 1) hx hb dX1_takeLatest_28 rfl ?_
    refine z_icmp_lt (tgt := 45) hx hb dX1_takeLatest_29 (by decide) (by omega) (fun c_29 => ?_) (fun c_29 => ?_)
    · refine lv_null hx hb dX1_takeLatest_45 ?_
      exact z_aretE hx hb hr (Or.inl ⟨_, rfl⟩) hlocks dX1_takeLatest_46 (Or.inl rfl) hS.2.2 ⟨(show 0 ≤ 0 by omega), (show 0 ≤ 0 by omega)⟩ ⟨(rfl), (trivial), (hP), (hD), Fh.of hS⟩
    · exfalso; omega
  · refine lv_aload_n hx hb dX1_takeLatest_7 rfl (lv_at hl 0 rfl) ?_
    refine va_get (D := G) (ci := 1) (v := .int (iZ nx)) (C := RX1) (T := TX1) (N := 3) hx hb hts (by decide +kernel) hown hK hP 0 rfl rfl 1 (by decide) (hts (.fieldLink RX1 17 "SturmianWords$History" "next" "I") (by decide +kernel)) (fun _ h9 => h9) rfl dX1_takeLatest_8 ?_
    refine lv_iconst (v := iZ 1) hx hb dX1_takeLatest_11 rfl ?_
    refine z_isub hx hb dX1_takeLatest_12 ?_
    refine lv_goto (tgt := 23) hx hb dX1_takeLatest_13 (by decide) ?_
    refine z_tope (fun x23_2 ex23_2 => ?_)
    refine lv_istore_n (lv' := [(1, .int (iZ x23_2)), (0, .ref hi)]) hx hb dX1_takeLatest_23 rfl hl (by decide) rfl (fun ls hl => ?_)
    refine lv_aload_n hx hb dX1_takeLatest_24 rfl (lv_at hl 1 rfl) ?_
    refine va_get (D := G) (ci := 1) (v := .int (iZ kp)) (C := RX1) (T := TX1) (N := 3) hx hb hts (by decide +kernel) hown hK hP 0 rfl rfl 2 (by decide) (hts (.fieldLink RX1 21 "SturmianWords$History" "kept" "I") (by decide +kernel)) (fun _ h9 => h9) rfl dX1_takeLatest_25 ?_
    refine lv_iconst (v := iZ 1) hx hb dX1_takeLatest_28 rfl ?_
    refine z_icmp_lt (tgt := 45) hx hb dX1_takeLatest_29 (by decide) (by omega) (fun c_29 => ?_) (fun c_29 => ?_)
    · refine lv_null hx hb dX1_takeLatest_45 ?_
      exact z_aretE hx hb hr (Or.inl ⟨_, rfl⟩) hlocks dX1_takeLatest_46 (Or.inl rfl) hS.2.2 ⟨(show 0 ≤ 0 by omega), (show 0 ≤ 0 by omega)⟩ ⟨(rfl), (trivial), (hP), (hD), Fh.of hS⟩
    · exfalso; omega
set_option maxHeartbeats 4000000 in
set_option maxRecDepth 100000 in
theorem c_X1_takeLatest (lau : Launch) (G : va_G) (cy : Nat → ClassId) (hi ra a : Nat) (sz : Nat) (nx kp : Int) (rw9 : Int → Option Nat) (hnx : 0 ≤ nx ∧ nx < 6) (hkp : 1 ≤ kp ∧ kp ≤ 6) (hr9 : rw9 (pvF nx) = some a) : Met lau yX1_takeLatest wsX1_takeLatest ({ frames := 0, cells := 0, slots := 0, locals := 0 }) (P1 G cy [.ref hi] (fun H => H.size = sz ∧ va_P G vwCl [(hi, .inr (1, [.ref ra, .int (iZ nx), .int (iZ kp)])), (ra, .inl (cy 2, 6, .inr (.inr (.inr (.inr (qf rw9))))))] H ∧ va_D (fun _ => True) [(hi, .inr (1, [.ref ra, .int (iZ nx), .int (iZ kp)])), (ra, .inl (cy 2, 6, .inr (.inr (.inr (.inr (qf rw9))))))])) (Q1 (fun rv H0 H1 => rv = some (.ref a) ∧ (True) ∧ va_P G vwCl [(hi, .inr (1, [.ref ra, .int (iZ (pvF nx)), .int (iZ (kp - 1))])), (ra, .inl (cy 2, 6, .inr (.inr (.inr (.inr (qf rw9))))))] H1 ∧ va_D (va_A [(hi, .inr (1, [.ref ra, .int (iZ nx), .int (iZ kp)])), (ra, .inl (cy 2, 6, .inr (.inr (.inr (.inr (qf rw9))))))] sz) [(hi, .inr (1, [.ref ra, .int (iZ (pvF nx)), .int (iZ (kp - 1))])), (ra, .inl (cy 2, 6, .inr (.inr (.inr (.inr (qf rw9))))))] ∧ Fh (va_A [(hi, .inr (1, [.ref ra, .int (iZ nx), .int (iZ kp)])), (ra, .inl (cy 2, 6, .inr (.inr (.inr (.inr (qf rw9))))))] sz) H0 H1)) 0 0 (va_A [(hi, .inr (1, [.ref ra, .int (iZ nx), .int (iZ kp)])), (ra, .inl (cy 2, 6, .inr (.inr (.inr (.inr (qf rw9))))))] sz) := by
  refine z_head (lv := [(0, .ref hi)]) RX1 (by decide) rfl rfl (Nat.le_of_ble_eq_true rfl) rfl ?_
  intro pr ev s mt below meth cd ls hx hb hr hlocks hml hown hname hts hKK hP hl
  have hK := hKK.1
  obtain ⟨hsz, hP, hD0⟩ := hP
  subst hsz
  have hD := hD0.self (sz := s.heap.size)
  generalize hAe : va_A [(hi, .inr (1, [.ref ra, .int (iZ nx), .int (iZ kp)])), (ra, .inl (cy 2, 6, .inr (.inr (.inr (.inr (qf rw9))))))] s.heap.size = A at hD ⊢
  have hA : ∀ q : Nat, s.heap.size ≤ q → A q := fun q h => by rw [← hAe]; exact Or.inr h
  have hS : va_S A s.heap s.heap [] := va_S.rf
  have hP : va_P G vwCl [(hi, .inr (1, [.ref ra, .int (iZ nx), .int (iZ kp)])), (ra, .inl (cy 2, 6, .inr (.inr (.inr (.inr (qf rw9))))))] s.heap := hP
  refine lv_aload_n hx hb dX1_takeLatest_0 rfl (lv_at hl 0 rfl) ?_
  refine va_get (D := G) (ci := 1) (v := .int (iZ nx)) (C := RX1) (T := TX1) (N := 3) hx hb hts (by decide +kernel) hown hK hP 0 rfl rfl 1 (by decide) (hts (.fieldLink RX1 17 "SturmianWords$History" "next" "I") (by decide +kernel)) (fun _ h9 => h9) rfl dX1_takeLatest_1 ?_
  refine z_if_le (tgt := 16) hx hb dX1_takeLatest_4 (by decide) (by omega) (fun c_4 => ?_) (fun c_4 => ?_)
  · refine lv_aload_n hx hb dX1_takeLatest_16 rfl (lv_at hl 0 rfl) ?_
    refine va_get (D := G) (ci := 1) (v := .ref ra) (C := RX1) (T := TX1) (N := 3) hx hb hts (by decide +kernel) hown hK hP 0 rfl rfl 0 (by decide) (hts (.fieldLink RX1 11 "SturmianWords$History" "rows" "[LSturmianWords$State;") (by decide +kernel)) (fun _ h9 => h9) rfl dX1_takeLatest_17 ?_
    refine va_alen (v := iZ 6) (D := G) hx hb hK hP 1 2 rfl rfl (show Int32.ofNat 6 = iZ 6 by decide +kernel) dX1_takeLatest_20 ?_
    refine lv_iconst (v := iZ 1) hx hb dX1_takeLatest_21 rfl ?_
    refine z_isub hx hb dX1_takeLatest_22 ?_
    refine z_tope (fun lt9 elt9 => ?_)
    refine lv_istore_n (lv' := [(1, .int (iZ lt9)), (0, .ref hi)]) hx hb dX1_takeLatest_23 rfl hl (by decide) rfl (fun ls hl => ?_)
    have hl9 : lt9 = pvF nx := by unfold pvF; split <;> omega
    refine lv_aload_n hx hb dX1_takeLatest_24 rfl (lv_at hl 1 rfl) ?_
    refine va_get (D := G) (ci := 1) (v := .int (iZ kp)) (C := RX1) (T := TX1) (N := 3) hx hb hts (by decide +kernel) hown hK hP 0 rfl rfl 2 (by decide) (hts (.fieldLink RX1 21 "SturmianWords$History" "kept" "I") (by decide +kernel)) (fun _ h9 => h9) rfl dX1_takeLatest_25 ?_
    refine lv_iconst (v := iZ 1) hx hb dX1_takeLatest_28 rfl ?_
    refine z_icmp_lt (tgt := 45) hx hb dX1_takeLatest_29 (by decide) (by omega) (fun c_29 => ?_) (fun c_29 => ?_)
    · exfalso; omega
    · refine lv_iload_n hx hb dX1_takeLatest_32 rfl (lv_at hl 0 rfl) ?_
      refine z_if_lt (tgt := 45) hx hb dX1_takeLatest_33 (by decide) (by omega) (fun c_33 => ?_) (fun c_33 => ?_)
      · exfalso; omega
      · refine lv_iload_n hx hb dX1_takeLatest_36 rfl (lv_at hl 0 rfl) ?_
        refine lv_aload_n hx hb dX1_takeLatest_37 rfl (lv_at hl 1 rfl) ?_
        refine va_get (D := G) (ci := 1) (v := .ref ra) (C := RX1) (T := TX1) (N := 3) hx hb hts (by decide +kernel) hown hK hP 0 rfl rfl 0 (by decide) (hts (.fieldLink RX1 11 "SturmianWords$History" "rows" "[LSturmianWords$State;") (by decide +kernel)) (fun _ h9 => h9) rfl dX1_takeLatest_38 ?_
        refine va_alen (v := iZ 6) (D := G) hx hb hK hP 1 2 rfl rfl (show Int32.ofNat 6 = iZ 6 by decide +kernel) dX1_takeLatest_41 ?_
        refine z_icmp_lt (tgt := 47) hx hb dX1_takeLatest_42 (by decide) (by omega) (fun c_42 => ?_) (fun c_42 => ?_)
        · refine lv_aload_n hx hb dX1_takeLatest_47 rfl (lv_at hl 1 rfl) ?_
          refine lv_iload_n hx hb dX1_takeLatest_48 rfl (lv_at hl 0 rfl) ?_
          refine va_put (D := G) (ci := 1) (v := .int (iZ lt9)) (ty := .int) (C := RX1) (T := TX1) (N := 3) hx hb hts (by decide +kernel) tyX1 tyX1_ok nmX1 hown hK hP hD hS 0 rfl rfl 1 (by decide) (hts (.fieldLink RX1 17 "SturmianWords$History" "next" "I") (by decide +kernel)) (fun _ h9 => h9) rfl (by decide +kernel) rfl rfl (Nat.le_of_ble_eq_true rfl) dX1_takeLatest_49 (fun H locs hP hD hS => ?_)
          have hP : va_P G vwCl [(hi, .inr (1, [.ref ra, .int (iZ lt9), .int (iZ kp)])), (ra, .inl (cy 2, 6, .inr (.inr (.inr (.inr (qf rw9))))))] H := hP
          have hD : va_D A [(hi, .inr (1, [.ref ra, .int (iZ lt9), .int (iZ kp)])), (ra, .inl (cy 2, 6, .inr (.inr (.inr (.inr (qf rw9))))))] := hD
          refine lv_aload_n hx hb dX1_takeLatest_52 rfl (lv_at hl 1 rfl) ?_
          refine lv_dup hx hb dX1_takeLatest_53 rfl ?_
          refine va_get (D := G) (ci := 1) (v := .int (iZ kp)) (C := RX1) (T := TX1) (N := 3) hx hb hts (by decide +kernel) hown hK hP 0 rfl rfl 2 (by decide) (hts (.fieldLink RX1 21 "SturmianWords$History" "kept" "I") (by decide +kernel)) (fun _ h9 => h9) rfl dX1_takeLatest_54 ?_
          refine lv_iconst (v := iZ 1) hx hb dX1_takeLatest_57 rfl ?_
          refine z_isub hx hb dX1_takeLatest_58 ?_
          refine va_put (D := G) (ci := 1) (v := .int (iZ (kp - 1))) (ty := .int) (C := RX1) (T := TX1) (N := 3) hx hb hts (by decide +kernel) tyX1 tyX1_ok nmX1 hown hK hP hD hS 0 rfl rfl 2 (by decide) (hts (.fieldLink RX1 21 "SturmianWords$History" "kept" "I") (by decide +kernel)) (fun _ h9 => h9) rfl (by decide +kernel) rfl rfl (Nat.le_of_ble_eq_true rfl) dX1_takeLatest_59 (fun H locs hP hD hS => ?_)
          have hP : va_P G vwCl [(hi, .inr (1, [.ref ra, .int (iZ lt9), .int (iZ (kp - 1))])), (ra, .inl (cy 2, 6, .inr (.inr (.inr (.inr (qf rw9))))))] H := hP
          have hD : va_D A [(hi, .inr (1, [.ref ra, .int (iZ lt9), .int (iZ (kp - 1))])), (ra, .inl (cy 2, 6, .inr (.inr (.inr (.inr (qf rw9))))))] := hD
          refine lv_aload_n hx hb dX1_takeLatest_62 rfl (lv_at hl 1 rfl) ?_
          refine va_get (D := G) (ci := 1) (v := .ref ra) (C := RX1) (T := TX1) (N := 3) hx hb hts (by decide +kernel) hown hK hP 0 rfl rfl 0 (by decide) (hts (.fieldLink RX1 11 "SturmianWords$History" "rows" "[LSturmianWords$State;") (by decide +kernel)) (fun _ h9 => h9) rfl dX1_takeLatest_63 ?_
          refine lv_iload_n hx hb dX1_takeLatest_66 rfl (lv_at hl 0 rfl) ?_
          refine z_aald (D := G) (v := a) hx hb hK hP 1 2 rfl rfl (by omega) (by rw [hl9]; exact hr9) dX1_takeLatest_67 ?_
          rw [hl9] at hP hD
          exact z_aretE hx hb hr (Or.inl ⟨_, rfl⟩) hlocks dX1_takeLatest_68 (Or.inr ⟨_, rfl⟩) hS.2.2 ⟨(show 0 ≤ 0 by omega), (show 0 ≤ 0 by omega)⟩ ⟨(rfl), (trivial), (hP), (hD), Fh.of hS⟩
        · exfalso; omega
  · refine lv_aload_n hx hb dX1_takeLatest_7 rfl (lv_at hl 0 rfl) ?_
    refine va_get (D := G) (ci := 1) (v := .int (iZ nx)) (C := RX1) (T := TX1) (N := 3) hx hb hts (by decide +kernel) hown hK hP 0 rfl rfl 1 (by decide) (hts (.fieldLink RX1 17 "SturmianWords$History" "next" "I") (by decide +kernel)) (fun _ h9 => h9) rfl dX1_takeLatest_8 ?_
    refine lv_iconst (v := iZ 1) hx hb dX1_takeLatest_11 rfl ?_
    refine z_isub hx hb dX1_takeLatest_12 ?_
    refine lv_goto (tgt := 23) hx hb dX1_takeLatest_13 (by decide) ?_
    refine z_tope (fun lt9 elt9 => ?_)
    refine lv_istore_n (lv' := [(1, .int (iZ lt9)), (0, .ref hi)]) hx hb dX1_takeLatest_23 rfl hl (by decide) rfl (fun ls hl => ?_)
    have hl9 : lt9 = pvF nx := by unfold pvF; split <;> omega
    refine lv_aload_n hx hb dX1_takeLatest_24 rfl (lv_at hl 1 rfl) ?_
    refine va_get (D := G) (ci := 1) (v := .int (iZ kp)) (C := RX1) (T := TX1) (N := 3) hx hb hts (by decide +kernel) hown hK hP 0 rfl rfl 2 (by decide) (hts (.fieldLink RX1 21 "SturmianWords$History" "kept" "I") (by decide +kernel)) (fun _ h9 => h9) rfl dX1_takeLatest_25 ?_
    refine lv_iconst (v := iZ 1) hx hb dX1_takeLatest_28 rfl ?_
    refine z_icmp_lt (tgt := 45) hx hb dX1_takeLatest_29 (by decide) (by omega) (fun c_29 => ?_) (fun c_29 => ?_)
    · exfalso; omega
    · refine lv_iload_n hx hb dX1_takeLatest_32 rfl (lv_at hl 0 rfl) ?_
      refine z_if_lt (tgt := 45) hx hb dX1_takeLatest_33 (by decide) (by omega) (fun c_33 => ?_) (fun c_33 => ?_)
      · exfalso; omega
      · refine lv_iload_n hx hb dX1_takeLatest_36 rfl (lv_at hl 0 rfl) ?_
        refine lv_aload_n hx hb dX1_takeLatest_37 rfl (lv_at hl 1 rfl) ?_
        refine va_get (D := G) (ci := 1) (v := .ref ra) (C := RX1) (T := TX1) (N := 3) hx hb hts (by decide +kernel) hown hK hP 0 rfl rfl 0 (by decide) (hts (.fieldLink RX1 11 "SturmianWords$History" "rows" "[LSturmianWords$State;") (by decide +kernel)) (fun _ h9 => h9) rfl dX1_takeLatest_38 ?_
        refine va_alen (v := iZ 6) (D := G) hx hb hK hP 1 2 rfl rfl (show Int32.ofNat 6 = iZ 6 by decide +kernel) dX1_takeLatest_41 ?_
        refine z_icmp_lt (tgt := 47) hx hb dX1_takeLatest_42 (by decide) (by omega) (fun c_42 => ?_) (fun c_42 => ?_)
        · refine lv_aload_n hx hb dX1_takeLatest_47 rfl (lv_at hl 1 rfl) ?_
          refine lv_iload_n hx hb dX1_takeLatest_48 rfl (lv_at hl 0 rfl) ?_
          refine va_put (D := G) (ci := 1) (v := .int (iZ lt9)) (ty := .int) (C := RX1) (T := TX1) (N := 3) hx hb hts (by decide +kernel) tyX1 tyX1_ok nmX1 hown hK hP hD hS 0 rfl rfl 1 (by decide) (hts (.fieldLink RX1 17 "SturmianWords$History" "next" "I") (by decide +kernel)) (fun _ h9 => h9) rfl (by decide +kernel) rfl rfl (Nat.le_of_ble_eq_true rfl) dX1_takeLatest_49 (fun H locs hP hD hS => ?_)
          have hP : va_P G vwCl [(hi, .inr (1, [.ref ra, .int (iZ lt9), .int (iZ kp)])), (ra, .inl (cy 2, 6, .inr (.inr (.inr (.inr (qf rw9))))))] H := hP
          have hD : va_D A [(hi, .inr (1, [.ref ra, .int (iZ lt9), .int (iZ kp)])), (ra, .inl (cy 2, 6, .inr (.inr (.inr (.inr (qf rw9))))))] := hD
          refine lv_aload_n hx hb dX1_takeLatest_52 rfl (lv_at hl 1 rfl) ?_
          refine lv_dup hx hb dX1_takeLatest_53 rfl ?_
          refine va_get (D := G) (ci := 1) (v := .int (iZ kp)) (C := RX1) (T := TX1) (N := 3) hx hb hts (by decide +kernel) hown hK hP 0 rfl rfl 2 (by decide) (hts (.fieldLink RX1 21 "SturmianWords$History" "kept" "I") (by decide +kernel)) (fun _ h9 => h9) rfl dX1_takeLatest_54 ?_
          refine lv_iconst (v := iZ 1) hx hb dX1_takeLatest_57 rfl ?_
          refine z_isub hx hb dX1_takeLatest_58 ?_
          refine va_put (D := G) (ci := 1) (v := .int (iZ (kp - 1))) (ty := .int) (C := RX1) (T := TX1) (N := 3) hx hb hts (by decide +kernel) tyX1 tyX1_ok nmX1 hown hK hP hD hS 0 rfl rfl 2 (by decide) (hts (.fieldLink RX1 21 "SturmianWords$History" "kept" "I") (by decide +kernel)) (fun _ h9 => h9) rfl (by decide +kernel) rfl rfl (Nat.le_of_ble_eq_true rfl) dX1_takeLatest_59 (fun H locs hP hD hS => ?_)
          have hP : va_P G vwCl [(hi, .inr (1, [.ref ra, .int (iZ lt9), .int (iZ (kp - 1))])), (ra, .inl (cy 2, 6, .inr (.inr (.inr (.inr (qf rw9))))))] H := hP
          have hD : va_D A [(hi, .inr (1, [.ref ra, .int (iZ lt9), .int (iZ (kp - 1))])), (ra, .inl (cy 2, 6, .inr (.inr (.inr (.inr (qf rw9))))))] := hD
          refine lv_aload_n hx hb dX1_takeLatest_62 rfl (lv_at hl 1 rfl) ?_
          refine va_get (D := G) (ci := 1) (v := .ref ra) (C := RX1) (T := TX1) (N := 3) hx hb hts (by decide +kernel) hown hK hP 0 rfl rfl 0 (by decide) (hts (.fieldLink RX1 11 "SturmianWords$History" "rows" "[LSturmianWords$State;") (by decide +kernel)) (fun _ h9 => h9) rfl dX1_takeLatest_63 ?_
          refine lv_iload_n hx hb dX1_takeLatest_66 rfl (lv_at hl 0 rfl) ?_
          refine z_aald (D := G) (v := a) hx hb hK hP 1 2 rfl rfl (by omega) (by rw [hl9]; exact hr9) dX1_takeLatest_67 ?_
          rw [hl9] at hP hD
          exact z_aretE hx hb hr (Or.inl ⟨_, rfl⟩) hlocks dX1_takeLatest_68 (Or.inr ⟨_, rfl⟩) hS.2.2 ⟨(show 0 ≤ 0 by omega), (show 0 ≤ 0 by omega)⟩ ⟨(rfl), (trivial), (hP), (hD), Fh.of hS⟩
        · exfalso; omega
