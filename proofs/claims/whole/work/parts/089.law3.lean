section LC
variable {pr : Program} {ev : Env} {s : State} {mt : MethodId} {below : List Frame} {meth : Method} {cd : Code} {lau : Launch} {G : va_G} {cy : Nat → ClassId} {ad : Nat → Nat} {A : Nat → Prop} {b9 L9 : Nat} {xs : Nat → Int32} {Q9 : State → Prop}
variable {a0 a1 a2 a3 a4 a5 a6 a7 xa hi ra ci pa ga st sl wo : Nat} {nx kp : Int} {rw9 : Int → Option Nat} {pt1 gp : Int → Int} {b ed tc ol nl : Int} {nw nr ps tm od ne pt : Int → Int} {H : Heap} {locs : List Loc} {C9 D9 : Nat} {i u v : Int} {ls : Array Slot}
set_option maxHeartbeats 4000000 in
set_option maxRecDepth 100000 in
theorem law_op (hx : pr.tables.exec = Jvm.exec) (hb : cd.code = code) (hml : cd.maxLocals = 4) (hown : s.vm.findClass RL = some mt.cls) (hts : ∀ w ∈ lw_tbl, w.before #[Value.ref b9] s = true) (hKK : KK G cy s) (hEN : EN ad A s s.heap) (hA : ∀ q : Nat, s.heap.size ≤ q → A q) (hX : va_X b9 L9 xs s s.heap) (hbl : b9 < s.heap.size) (hbA : ¬ A b9) (hL : L9 ≤ 1536) (hP : va_P G vwCl (MW cy a0 a1 a2 a3 a4 a5 a6 a7 ed tc ol nl nw nr ps tm od ne pt ++ CW cy xa hi ra ci pa ga st nx kp rw9 pt1 gp ++ S3 st sl wo (nw 0) (nw 1) (nw 2) b (nw 3)) H) (hD : va_D A (MW cy a0 a1 a2 a3 a4 a5 a6 a7 ed tc ol nl nw nr ps tm od ne pt ++ CW cy xa hi ra ci pa ga st nx kp rw9 pt1 gp ++ S3 st sl wo (nw 0) (nw 1) (nw 2) b (nw 3))) (hS : va_S A s.heap H locs) (hw : RowIs nw b (nw 3)) (hq : 0 ≤ nw 0 ∧ nw 0 ≤ nw 1 ∧ 1 ≤ nw 1 ∧ nw 1 ≤ 1000 ∧ 0 ≤ nw 2 ∧ nw 2 < nw 1) (hn : 0 ≤ nw 3 ∧ nw 3 ≤ 60) (hHS : HS G A [a0, a1, a2, a3, a4, a5, a6, a7, xa, hi, ra, ci, pa, ga] nx ed rw9 ps H) (hke : kp = ed) (he : 0 ≤ ed ∧ ed ≤ 6) (hnx : 0 ≤ nx ∧ nx < 6) (hpt : ∀ x, 0 ≤ x → x < 1000 → pt x = 0 ∨ pt x = 1) (hi9 : 0 ≤ i ∧ i + 3 ≤ (L9 : Int)) (hu : xI xs (i + 1) = u) (hv : xI xs (i + 2) = v) (hC : C9 + 30 ≤ 600000 ∧ D9 + 120 ≤ 7302250) (hl : lv_has ls 4 [(0, .ref b9), (1, .ref xa), (2, .ref a0), (3, .int (iZ i))]) (K : ∀ (H : Heap) (locs : List Loc) (ls : Array Slot), LInv G cy A a0 a1 a2 a3 a4 a5 a6 a7 xa hi ra ci pa ga H → va_S A s.heap H locs → lv_has ls 4 [(0, .ref b9), (1, .ref xa), (2, .ref a0), (3, .int (iZ i))] → W pr lau ev room_1 s mt #[Value.ref b9] below meth cd H locs (C9 + 30) (D9 + 120) Q9 (F0 mt 810 ls [])) {w9 : Int} (hw9 : xI xs i = w9) : W pr lau ev room_1 s mt #[Value.ref b9] below meth cd H locs C9 D9 Q9 (F0 mt 26 ls []) := by
  have hwb := xI_r hw9
  have hub := xI_r hu
  have hvb := xI_r hv
  refine lv_aload_n hx hb dL_law_26 rfl (lv_at hl 0 rfl) ?_
  refine lv_iload_n hx hb dL_law_27 rfl (lv_at hl 3 rfl) ?_
  refine z_sld hx hb hX hbl hbA hS (by omega) hw9 dL_law_28 ?_
  refine lv_bipush (v := iZ 31) hx hb dL_law_29 (by decide +kernel) ?_
  refine z_and31 hx hb dL_law_31 ?_
  rcases (show w9 % 32 = 0 ∨ w9 % 32 = 1 ∨ w9 % 32 = 2 ∨ w9 % 32 = 3 ∨ w9 % 32 = 4 ∨ w9 % 32 = 5 ∨ w9 % 32 = 6 ∨ w9 % 32 = 7 ∨ w9 % 32 = 8 ∨ w9 % 32 = 9 ∨ w9 % 32 = 10 ∨ w9 % 32 = 11 ∨ w9 % 32 = 12 ∨ w9 % 32 = 13 ∨ w9 % 32 = 14 ∨ w9 % 32 = 15 ∨ w9 % 32 = 16 ∨ w9 % 32 = 17 ∨ w9 % 32 = 18 ∨ w9 % 32 = 19 ∨ w9 % 32 = 20 ∨ w9 % 32 = 21 ∨ w9 % 32 = 22 ∨ w9 % 32 = 23 ∨ w9 % 32 = 24 ∨ w9 % 32 = 25 ∨ w9 % 32 = 26 ∨ w9 % 32 = 27 ∨ w9 % 32 = 28 ∨ w9 % 32 = 29 ∨ 29 < w9 % 32 by omega) with h9 | h9 | h9 | h9 | h9 | h9 | h9 | h9 | h9 | h9 | h9 | h9 | h9 | h9 | h9 | h9 | h9 | h9 | h9 | h9 | h9 | h9 | h9 | h9 | h9 | h9 | h9 | h9 | h9 | h9 | h9
  · refine z_tabIn (tgt := 168) (i := 0) hx hb dL_law_32 (by omega) (by omega) (by omega) rfl (by decide) ?_
    rcases Classical.em ((1 ≤ v ∧ v ≤ 1000) ∧ 0 ≤ u ∧ u ≤ v) with h2 | h2
    · exact lc_168 hx hb hml hown hts hKK hEN hA hX hbl hbA hL hP hD hS hw hq hn hHS hke he hnx hpt hi9 hu hv hC hl K h2
    · exact lc_168_no hx hb hml hown hts hKK hEN hA hX hbl hbA hL hP hD hS hw hq hn hHS hke he hnx hpt hi9 hu hv hC hl K h2
  · refine z_tabIn (tgt := 201) (i := 1) hx hb dL_law_32 (by omega) (by omega) (by omega) rfl (by decide) ?_
    rcases Classical.em (0 ≤ u ∧ u ≤ nw 1 - 1) with h2 | h2
    · exact lc_201 hx hb hml hown hts hKK hEN hA hX hbl hbA hL hP hD hS hw hq hn hHS hke he hnx hpt hi9 hu hv hC hl K h2
    · exact lc_201_no hx hb hml hown hts hKK hEN hA hX hbl hbA hL hP hD hS hw hq hn hHS hke he hnx hpt hi9 hu hv hC hl K h2
  · refine z_tabIn (tgt := 224) (i := 2) hx hb dL_law_32 (by omega) (by omega) (by omega) rfl (by decide) ?_
    exact lc_224 hx hb hml hown hts hKK hEN hA hX hbl hbA hL hP hD hS hw hq hn hHS hke he hnx hpt hi9 hu hv hC hl K
  · refine z_tabIn (tgt := 237) (i := 3) hx hb dL_law_32 (by omega) (by omega) (by omega) rfl (by decide) ?_
    exact lc_237 hx hb hml hown hts hKK hEN hA hX hbl hbA hL hP hD hS hw hq hn hHS hke he hnx hpt hi9 hu hv hC hl K
  · refine z_tabIn (tgt := 250) (i := 4) hx hb dL_law_32 (by omega) (by omega) (by omega) rfl (by decide) ?_
    rcases Classical.em (u < 1) with h2 | h2
    · exact lc_250_no hx hb hml hown hts hKK hEN hA hX hbl hbA hL hP hD hS hw hq hn hHS hke he hnx hpt hi9 hu hv hC hl K h2
    · exact lc_250 hx hb hml hown hts hKK hEN hA hX hbl hbA hL hP hD hS hw hq hn hHS hke he hnx hpt hi9 hu hv hC hl K (by omega)
  · refine z_tabIn (tgt := 273) (i := 5) hx hb dL_law_32 (by omega) (by omega) (by omega) rfl (by decide) ?_
    rcases Classical.em (v = 0) with h2 | h2
    · exact lc_273_0 hx hb hml hown hts hKK hEN hA hX hbl hbA hL hP hD hS hw hq hn hHS hke he hnx hpt hi9 hu hv hC hl K h2
    · exact lc_273_1 hx hb hml hown hts hKK hEN hA hX hbl hbA hL hP hD hS hw hq hn hHS hke he hnx hpt hi9 hu hv hC hl K h2
  · refine z_tabIn (tgt := 322) (i := 6) hx hb dL_law_32 (by omega) (by omega) (by omega) rfl (by decide) ?_
    rcases Classical.em (v = 0) with hv0 | hv0
    · rcases (show u < 0 ∨ 60 < u ∨ (0 ≤ u ∧ u ≤ 60) by omega) with h2 | h2 | h2
      · exact lc_322_no_0 hx hb hml hown hts hKK hEN hA hX hbl hbA hL hP hD hS hw hq hn hHS hke he hnx hpt hi9 hu hv hC hl K hv0 h2
      · exact lc_322_no2_0 hx hb hml hown hts hKK hEN hA hX hbl hbA hL hP hD hS hw hq hn hHS hke he hnx hpt hi9 hu hv hC hl K hv0 h2
      · exact lc_322_0 hx hb hml hown hts hKK hEN hA hX hbl hbA hL hP hD hS hw hq hn hHS hke he hnx hpt hi9 hu hv hC hl K hv0 h2
    · rcases (show u < 0 ∨ 60 < u ∨ (0 ≤ u ∧ u ≤ 60) by omega) with h2 | h2 | h2
      · exact lc_322_no_1 hx hb hml hown hts hKK hEN hA hX hbl hbA hL hP hD hS hw hq hn hHS hke he hnx hpt hi9 hu hv hC hl K hv0 h2
      · exact lc_322_no2_1 hx hb hml hown hts hKK hEN hA hX hbl hbA hL hP hD hS hw hq hn hHS hke he hnx hpt hi9 hu hv hC hl K hv0 h2
      · exact lc_322_1 hx hb hml hown hts hKK hEN hA hX hbl hbA hL hP hD hS hw hq hn hHS hke he hnx hpt hi9 hu hv hC hl K hv0 h2
  · refine z_tabIn (tgt := 371) (i := 7) hx hb dL_law_32 (by omega) (by omega) (by omega) rfl (by decide) ?_
    rcases (show u < -1 ∨ (-1 ≤ u ∧ ntm (nw 0) (nw 1) < u) ∨ (-1 ≤ u ∧ u ≤ ntm (nw 0) (nw 1)) by omega) with h2 | h2 | h2
    · exact lc_371_no hx hb hml hown hts hKK hEN hA hX hbl hbA hL hP hD hS hw hq hn hHS hke he hnx hpt hi9 hu hv hC hl K h2
    · exact lc_371_no3 hx hb hml hown hts hKK hEN hA hX hbl hbA hL hP hD hS hw hq hn hHS hke he hnx hpt hi9 hu hv hC hl K h2.1 h2.2
    · rcases Classical.em (∀ j, 0 ≤ j → j ≤ u → (stS (nw 0) (nw 1) j).1.2 ≤ 60) with h4 | h4
      · exact lc_371 hx hb hml hown hts hKK hEN hA hX hbl hbA hL hP hD hS hw hq hn hHS hke he hnx hpt hi9 hu hv hC hl K h2 h4
      · exact lc_371_no2 hx hb hml hown hts hKK hEN hA hX hbl hbA hL hP hD hS hw hq hn hHS hke he hnx hpt hi9 hu hv hC hl K h2 h4
  · refine z_tabIn (tgt := 394) (i := 8) hx hb dL_law_32 (by omega) (by omega) (by omega) rfl (by decide) ?_
    rcases (show ¬ (0 ≤ u ∧ u ≤ 1) ∨ ((0 ≤ u ∧ u ≤ 1) ∧ nw 3 = 60) ∨ ((0 ≤ u ∧ u ≤ 1) ∧ nw 3 < 60) by omega) with h2 | h2 | h2
    · exact lc_394_no hx hb hml hown hts hKK hEN hA hX hbl hbA hL hP hD hS hw hq hn hHS hke he hnx hpt hi9 hu hv hC hl K h2
    · exact lc_394_no2 hx hb hml hown hts hKK hEN hA hX hbl hbA hL hP hD hS hw hq hn hHS hke he hnx hpt hi9 hu hv hC hl K h2.1 h2.2
    · exact lc_394 hx hb hml hown hts hKK hEN hA hX hbl hbA hL hP hD hS hw hq hn hHS hke he hnx hpt hi9 hu hv hC hl K h2.1 h2.2
  · refine z_tabIn (tgt := 417) (i := 9) hx hb dL_law_32 (by omega) (by omega) (by omega) rfl (by decide) ?_
    rcases (show nw 3 = 0 ∨ 0 < nw 3 by omega) with h2 | h2
    · exact lc_417_no hx hb hml hown hts hKK hEN hA hX hbl hbA hL hP hD hS hw hq hn hHS hke he hnx hpt hi9 hu hv hC hl K h2
    · exact lc_417 hx hb hml hown hts hKK hEN hA hX hbl hbA hL hP hD hS hw hq hn hHS hke he hnx hpt hi9 hu hv hC hl K h2
  · refine z_tabIn (tgt := 430) (i := 10) hx hb dL_law_32 (by omega) (by omega) (by omega) rfl (by decide) ?_
    exact lc_430 hx hb hml hown hts hKK hEN hA hX hbl hbA hL hP hD hS hw hq hn hHS hke he hnx hpt hi9 hu hv hC hl K
  · refine z_tabIn (tgt := 443) (i := 11) hx hb dL_law_32 (by omega) (by omega) (by omega) rfl (by decide) ?_
    exact lc_443 hx hb hml hown hts hKK hEN hA hX hbl hbA hL hP hD hS hw hq hn hHS hke he hnx hpt hi9 hu hv hC hl K
  · refine z_tabIn (tgt := 456) (i := 12) hx hb dL_law_32 (by omega) (by omega) (by omega) rfl (by decide) ?_
    rcases Classical.em (0 ≤ u ∧ u ≤ 4) with h2 | h2
    · obtain ⟨mi, hmo⟩ : ∃ mi : Nat, u = (mi : Int) := ⟨u.toNat, by omega⟩
      rcases (show 60 < (imI (mi : Int) b (nw 3) (nw 3)).2 ∨ (imI (mi : Int) b (nw 3) (nw 3)).2 ≤ 60 by omega) with h3 | h3
      · exact lc_456_no2 hx hb hml hown hts hKK hEN hA hX hbl hbA hL hP hD hS hw hq hn hHS hke he hnx hpt hi9 hu hv hC hl K mi (by omega) hmo h3
      · exact lc_456 hx hb hml hown hts hKK hEN hA hX hbl hbA hL hP hD hS hw hq hn hHS hke he hnx hpt hi9 hu hv hC hl K mi (by omega) hmo h3
    · exact lc_456_no hx hb hml hown hts hKK hEN hA hX hbl hbA hL hP hD hS hw hq hn hHS hke he hnx hpt hi9 hu hv hC hl K h2
  · refine z_tabIn (tgt := 479) (i := 13) hx hb dL_law_32 (by omega) (by omega) (by omega) rfl (by decide) ?_
    rcases Classical.em (0 ≤ u ∧ u ≤ 4) with h2 | h2
    · obtain ⟨mi, hmo⟩ : ∃ mi : Nat, u = (mi : Int) := ⟨u.toNat, by omega⟩
      rcases (show (pI (mi : Int) b (nw 3) 61).1 < 0 ∨ 0 ≤ (pI (mi : Int) b (nw 3) 61).1 by omega) with h3 | h3
      · exact lc_479_no3 hx hb hml hown hts hKK hEN hA hX hbl hbA hL hP hD hS hw hq hn hHS hke he hnx hpt hi9 hu hv hC hl K mi (by omega) hmo h3
      · exact lc_479 hx hb hml hown hts hKK hEN hA hX hbl hbA hL hP hD hS hw hq hn hHS hke he hnx hpt hi9 hu hv hC hl K mi (by omega) hmo h3
    · exact lc_479_no hx hb hml hown hts hKK hEN hA hX hbl hbA hL hP hD hS hw hq hn hHS hke he hnx hpt hi9 hu hv hC hl K h2
  · refine z_tabIn (tgt := 502) (i := 14) hx hb dL_law_32 (by omega) (by omega) (by omega) rfl (by decide) ?_
    rcases (show ed = 0 ∨ 1 ≤ ed by omega) with h2 | h2
    · exact lc_502_no hx hb hml hown hts hKK hEN hA hX hbl hbA hL hP hD hS hw hq hn hHS hke he hnx hpt hi9 hu hv hC hl K h2
    · exact lc_502 hx hb hml hown hts hKK hEN hA hX hbl hbA hL hP hD hS hw hq hn hHS hke he hnx hpt hi9 hu hv hC hl K h2
  · refine z_tabIn (tgt := 515) (i := 15) hx hb dL_law_32 (by omega) (by omega) (by omega) rfl (by decide) ?_
    exact lc_515 hx hb hml hown hts hKK hEN hA hX hbl hbA hL hP hD hS hw hq hn hHS hke he hnx hpt hi9 hu hv hC hl K
  · refine z_tabIn (tgt := 528) (i := 16) hx hb dL_law_32 (by omega) (by omega) (by omega) rfl (by decide) ?_
    exact lc_528 hx hb hml hown hts hKK hEN hA hX hbl hbA hL hP hD hS hw hq hn hHS hke he hnx hpt hi9 hu hv hC hl K
  · refine z_tabIn (tgt := 541) (i := 17) hx hb dL_law_32 (by omega) (by omega) (by omega) rfl (by decide) ?_
    exact lc_541 hx hb hml hown hts hKK hEN hA hX hbl hbA hL hP hD hS hw hq hn hHS hke he hnx hpt hi9 hu hv hC hl K
  · refine z_tabIn (tgt := 564) (i := 18) hx hb dL_law_32 (by omega) (by omega) (by omega) rfl (by decide) ?_
    exact lc_564 hx hb hml hown hts hKK hEN hA hX hbl hbA hL hP hD hS hw hq hn hHS hke he hnx hpt hi9 hu hv hC hl K
  · refine z_tabIn (tgt := 587) (i := 19) hx hb dL_law_32 (by omega) (by omega) (by omega) rfl (by decide) ?_
    exact lc_587 hx hb hml hown hts hKK hEN hA hX hbl hbA hL hP hD hS hw hq hn hHS hke he hnx hpt hi9 hu hv hC hl K
  · refine z_tabIn (tgt := 620) (i := 20) hx hb dL_law_32 (by omega) (by omega) (by omega) rfl (by decide) ?_
    exact lc_620 hx hb hml hown hts hKK hEN hA hX hbl hbA hL hP hD hS hw hq hn hHS hke he hnx hpt hi9 hu hv hC hl K
  · refine z_tabIn (tgt := 633) (i := 21) hx hb dL_law_32 (by omega) (by omega) (by omega) rfl (by decide) ?_
    exact lc_633 hx hb hml hown hts hKK hEN hA hX hbl hbA hL hP hD hS hw hq hn hHS hke he hnx hpt hi9 hu hv hC hl K
  · refine z_tabIn (tgt := 646) (i := 22) hx hb dL_law_32 (by omega) (by omega) (by omega) rfl (by decide) ?_
    exact lc_646 hx hb hml hown hts hKK hEN hA hX hbl hbA hL hP hD hS hw hq hn hHS hke he hnx hpt hi9 hu hv hC hl K
  · refine z_tabIn (tgt := 659) (i := 23) hx hb dL_law_32 (by omega) (by omega) (by omega) rfl (by decide) ?_
    exact lc_659 hx hb hml hown hts hKK hEN hA hX hbl hbA hL hP hD hS hw hq hn hHS hke he hnx hpt hi9 hu hv hC hl K
  · refine z_tabIn (tgt := 672) (i := 24) hx hb dL_law_32 (by omega) (by omega) (by omega) rfl (by decide) ?_
    exact lc_672 hx hb hml hown hts hKK hEN hA hX hbl hbA hL hP hD hS hw hq hn hHS hke he hnx hpt hi9 hu hv hC hl K
  · refine z_tabIn (tgt := 685) (i := 25) hx hb dL_law_32 (by omega) (by omega) (by omega) rfl (by decide) ?_
    rcases Classical.em (0 ≤ u ∧ u ≤ 2) with h2 | h2
    · rcases Classical.em (ciB b (nw 3) = -1) with h3 | h3
      · exact lc_685_no3 hx hb hml hown hts hKK hEN hA hX hbl hbA hL hP hD hS hw hq hn hHS hke he hnx hpt hi9 hu hv hC hl K h2 h3
      · exact lc_685 hx hb hml hown hts hKK hEN hA hX hbl hbA hL hP hD hS hw hq hn hHS hke he hnx hpt hi9 hu hv hC hl K h2 h3
    · exact lc_685_no hx hb hml hown hts hKK hEN hA hX hbl hbA hL hP hD hS hw hq hn hHS hke he hnx hpt hi9 hu hv hC hl K h2
  · refine z_tabIn (tgt := 708) (i := 26) hx hb dL_law_32 (by omega) (by omega) (by omega) rfl (by decide) ?_
    rcases Classical.em (1 ≤ u ∧ u ≤ 1000) with h2 | h2
    · exact lc_708 hx hb hml hown hts hKK hEN hA hX hbl hbA hL hP hD hS hw hq hn hHS hke he hnx hpt hi9 hu hv hC hl K h2
    · exact lc_708_no hx hb hml hown hts hKK hEN hA hX hbl hbA hL hP hD hS hw hq hn hHS hke he hnx hpt hi9 hu hv hC hl K h2
  · refine z_tabIn (tgt := 731) (i := 27) hx hb dL_law_32 (by omega) (by omega) (by omega) rfl (by decide) ?_
    rcases Classical.em ((1 ≤ u ∧ u ≤ 1000) ∧ 0 ≤ v) with h2 | h2
    · exact lc_731 hx hb hml hown hts hKK hEN hA hX hbl hbA hL hP hD hS hw hq hn hHS hke he hnx hpt hi9 hu hv hC hl K h2
    · exact lc_731_no hx hb hml hown hts hKK hEN hA hX hbl hbA hL hP hD hS hw hq hn hHS hke he hnx hpt hi9 hu hv hC hl K h2
  · refine z_tabIn (tgt := 764) (i := 28) hx hb dL_law_32 (by omega) (by omega) (by omega) rfl (by decide) ?_
    rcases Classical.em ((1 ≤ u ∧ u ≤ 1000) ∧ 1 ≤ v) with h2 | h2
    · exact lc_764 hx hb hml hown hts hKK hEN hA hX hbl hbA hL hP hD hS hw hq hn hHS hke he hnx hpt hi9 hu hv hC hl K h2
    · exact lc_764_no hx hb hml hown hts hKK hEN hA hX hbl hbA hL hP hD hS hw hq hn hHS hke he hnx hpt hi9 hu hv hC hl K h2
  · refine z_tabIn (tgt := 797) (i := 29) hx hb dL_law_32 (by omega) (by omega) (by omega) rfl (by decide) ?_
    exact lc_797 hx hb hml hown hts hKK hEN hA hX hbl hbA hL hP hD hS hw hq hn hHS hke he hnx hpt hi9 hu hv hC hl K
  · refine z_tabOut (tgt := 810) hx hb dL_law_32 (by omega) (by omega) (by decide) ?_
    refine W.widen (k := C9 + 30) (n := D9 + 120) (by omega) (by omega) ?_
    exact K _ _ _ (LInv.mk hP hD ⟨rfl, rfl, rfl, rfl, hw, hq, hn.2⟩ hHS hke he hnx hpt) hS hl
end LC
