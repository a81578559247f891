set_option maxRecDepth 20000 in
theorem ggX6_init_X1_init : GoodIn wsX6_init wsX1_init := goodIn_r _ [23, 24, 2, 3, 25, 26, 27, 28, 55, 56, 57] (by decide +kernel) (by decide +kernel)
set_option maxRecDepth 20000 in
theorem gX6_init_X1_init_n9 : GoodIn wsX6_init (wsX1_init) := ggX6_init_X1_init
set_option maxRecDepth 20000 in
theorem ggX6_init_X0_init : GoodIn wsX6_init wsX0_init := goodIn_r _ [30, 31, 2, 3, 32, 33, 34, 35, 61, 62] (by decide +kernel) (by decide +kernel)
set_option maxRecDepth 20000 in
theorem gX6_init_X0_init_n18 : GoodIn wsX6_init (wsX0_init) := ggX6_init_X0_init
set_option maxRecDepth 20000 in
theorem ggX6_init_X3_init : GoodIn wsX6_init wsX3_init := goodIn_r _ [38, 39, 2, 3, 40, 41, 42, 65, 66, 67] (by decide +kernel) (by decide +kernel)
set_option maxRecDepth 20000 in
theorem gX6_init_X3_init : GoodIn wsX6_init (wsX3_init) := ggX6_init_X3_init
set_option maxRecDepth 20000 in
theorem ggX6_init_X5_init : GoodIn wsX6_init wsX5_init := goodIn_r _ [45, 46, 2, 3, 47, 48, 68, 69] (by decide +kernel) (by decide +kernel)
set_option maxRecDepth 20000 in
theorem gX6_init_X5_init : GoodIn wsX6_init (wsX5_init) := ggX6_init_X5_init
set_option maxRecDepth 20000 in
theorem ggX6_init_X4_init : GoodIn wsX6_init wsX4_init := goodIn_r _ [51, 52, 2, 3, 53, 54, 63, 64] (by decide +kernel) (by decide +kernel)
set_option maxRecDepth 20000 in
theorem gX6_init_X4_init : GoodIn wsX6_init (wsX4_init) := ggX6_init_X4_init
theorem dX6_init_0 : decode cX6_init 0 = .ok (.aload_n 0, 1) := by decide +kernel
theorem dX6_init_1 : decode cX6_init 1 = .ok (.invokespecial 1, 3) := by decide +kernel
theorem dX6_init_4 : decode cX6_init 4 = .ok (.aload_n 0, 1) := by decide +kernel
theorem dX6_init_5 : decode cX6_init 5 = .ok (.new 7, 3) := by decide +kernel
theorem dX6_init_8 : decode cX6_init 8 = .ok (.dup, 1) := by decide +kernel
theorem dX6_init_9 : decode cX6_init 9 = .ok (.invokespecial 9, 3) := by decide +kernel
theorem dX6_init_12 : decode cX6_init 12 = .ok (.putfield 10, 3) := by decide +kernel
theorem dX6_init_15 : decode cX6_init 15 = .ok (.aload_n 0, 1) := by decide +kernel
theorem dX6_init_16 : decode cX6_init 16 = .ok (.new 16, 3) := by decide +kernel
theorem dX6_init_19 : decode cX6_init 19 = .ok (.dup, 1) := by decide +kernel
theorem dX6_init_20 : decode cX6_init 20 = .ok (.invokespecial 18, 3) := by decide +kernel
theorem dX6_init_23 : decode cX6_init 23 = .ok (.putfield 19, 3) := by decide +kernel
theorem dX6_init_26 : decode cX6_init 26 = .ok (.aload_n 0, 1) := by decide +kernel
theorem dX6_init_27 : decode cX6_init 27 = .ok (.new 23, 3) := by decide +kernel
theorem dX6_init_30 : decode cX6_init 30 = .ok (.dup, 1) := by decide +kernel
theorem dX6_init_31 : decode cX6_init 31 = .ok (.new 25, 3) := by decide +kernel
theorem dX6_init_34 : decode cX6_init 34 = .ok (.dup, 1) := by decide +kernel
theorem dX6_init_35 : decode cX6_init 35 = .ok (.iconst 5, 1) := by decide +kernel
theorem dX6_init_36 : decode cX6_init 36 = .ok (.bipush 13, 2) := by decide +kernel
theorem dX6_init_38 : decode cX6_init 38 = .ok (.iconst 0, 1) := by decide +kernel
theorem dX6_init_39 : decode cX6_init 39 = .ok (.invokespecial 27, 3) := by decide +kernel
theorem dX6_init_42 : decode cX6_init 42 = .ok (.new 30, 3) := by decide +kernel
theorem dX6_init_45 : decode cX6_init 45 = .ok (.dup, 1) := by decide +kernel
theorem dX6_init_46 : decode cX6_init 46 = .ok (.lconst 0, 1) := by decide +kernel
theorem dX6_init_47 : decode cX6_init 47 = .ok (.iconst 0, 1) := by decide +kernel
theorem dX6_init_48 : decode cX6_init 48 = .ok (.invokespecial 32, 3) := by decide +kernel
theorem dX6_init_51 : decode cX6_init 51 = .ok (.invokespecial 35, 3) := by decide +kernel
theorem dX6_init_54 : decode cX6_init 54 = .ok (.putfield 38, 3) := by decide +kernel
theorem dX6_init_57 : decode cX6_init 57 = .ok (.return_, 1) := by decide +kernel
set_option maxRecDepth 20000 in
theorem ggX6_setSlope_X6_commonDivisor : GoodIn wsX6_setSlope wsX6_commonDivisor := goodIn_r _ [7, 8, 9, 6, 10] (by decide +kernel) (by decide +kernel)
set_option maxRecDepth 20000 in
theorem gX6_setSlope_X6_commonDivisor : GoodIn wsX6_setSlope (va_wsS RX6 42 yX6_commonDivisor wsX6_commonDivisor) := goodIn_app (goodIn_of _ (by decide +kernel)) ggX6_setSlope_X6_commonDivisor
set_option maxRecDepth 20000 in
theorem ggX6_setSlope_X6_quotient : GoodIn wsX6_setSlope wsX6_quotient := goodIn_r _ [10] (by decide +kernel) (by decide +kernel)
set_option maxRecDepth 20000 in
theorem gX6_setSlope_X6_quotient : GoodIn wsX6_setSlope (va_wsS RX6 46 yX6_quotient wsX6_quotient) := goodIn_app (goodIn_of _ (by decide +kernel)) ggX6_setSlope_X6_quotient
set_option maxRecDepth 20000 in
theorem ggX6_setSlope_X3_init : GoodIn wsX6_setSlope wsX3_init := goodIn_r _ [13, 14, 15, 16, 17, 18, 19, 47, 48, 49] (by decide +kernel) (by decide +kernel)
set_option maxRecDepth 20000 in
theorem gX6_setSlope_X3_init : GoodIn wsX6_setSlope (wsX3_init) := ggX6_setSlope_X3_init
set_option maxRecDepth 20000 in
theorem ggX6_setSlope_X6_changeSlope : GoodIn wsX6_setSlope wsX6_changeSlope := goodIn_r _ [23, 24, 25, 26, 27, 28, 29, 30, 31, 32, 33, 34, 35, 36, 37, 38, 39, 40, 41, 42, 43, 44, 15, 16, 45, 46, 50, 51, 52, 53, 54, 55, 56, 57] (by decide +kernel) (by decide +kernel)
set_option maxRecDepth 20000 in
theorem gX6_setSlope_X6_changeSlope : GoodIn wsX6_setSlope (wsV RX6 50 RX6 yX6_changeSlope wsX6_changeSlope) := goodIn_app (goodIn_of _ (by decide +kernel)) ggX6_setSlope_X6_changeSlope
theorem dX6_setSlope_0 : decode cX6_setSlope 0 = .ok (.iload_n 2, 1) := by decide +kernel
theorem dX6_setSlope_1 : decode cX6_setSlope 1 = .ok (.iconst 1, 1) := by decide +kernel
theorem dX6_setSlope_2 : decode cX6_setSlope 2 = .ok (.if_icmp .lt 19, 3) := by decide +kernel
theorem dX6_setSlope_5 : decode cX6_setSlope 5 = .ok (.iload_n 2, 1) := by decide +kernel
theorem dX6_setSlope_6 : decode cX6_setSlope 6 = .ok (.sipush 1000, 3) := by decide +kernel
theorem dX6_setSlope_9 : decode cX6_setSlope 9 = .ok (.if_icmp .gt 12, 3) := by decide +kernel
theorem dX6_setSlope_12 : decode cX6_setSlope 12 = .ok (.iload_n 1, 1) := by decide +kernel
theorem dX6_setSlope_13 : decode cX6_setSlope 13 = .ok (.ifCond .lt 8, 3) := by decide +kernel
theorem dX6_setSlope_16 : decode cX6_setSlope 16 = .ok (.iload_n 1, 1) := by decide +kernel
theorem dX6_setSlope_17 : decode cX6_setSlope 17 = .ok (.iload_n 2, 1) := by decide +kernel
theorem dX6_setSlope_18 : decode cX6_setSlope 18 = .ok (.if_icmp .le 5, 3) := by decide +kernel
theorem dX6_setSlope_21 : decode cX6_setSlope 21 = .ok (.iconst (-1), 1) := by decide +kernel
theorem dX6_setSlope_22 : decode cX6_setSlope 22 = .ok (.ireturn, 1) := by decide +kernel
theorem dX6_setSlope_23 : decode cX6_setSlope 23 = .ok (.iload_n 1, 1) := by decide +kernel
theorem dX6_setSlope_24 : decode cX6_setSlope 24 = .ok (.iload_n 2, 1) := by decide +kernel
theorem dX6_setSlope_25 : decode cX6_setSlope 25 = .ok (.invokestatic 42, 3) := by decide +kernel
theorem dX6_setSlope_28 : decode cX6_setSlope 28 = .ok (.istore_n 3, 1) := by decide +kernel
theorem dX6_setSlope_29 : decode cX6_setSlope 29 = .ok (.iload_n 2, 1) := by decide +kernel
theorem dX6_setSlope_30 : decode cX6_setSlope 30 = .ok (.i2l, 1) := by decide +kernel
theorem dX6_setSlope_31 : decode cX6_setSlope 31 = .ok (.iload_n 3, 1) := by decide +kernel
theorem dX6_setSlope_32 : decode cX6_setSlope 32 = .ok (.i2l, 1) := by decide +kernel
theorem dX6_setSlope_33 : decode cX6_setSlope 33 = .ok (.invokestatic 46, 3) := by decide +kernel
theorem dX6_setSlope_36 : decode cX6_setSlope 36 = .ok (.l2i, 1) := by decide +kernel
theorem dX6_setSlope_37 : decode cX6_setSlope 37 = .ok (.istore 4, 2) := by decide +kernel
theorem dX6_setSlope_39 : decode cX6_setSlope 39 = .ok (.aload_n 0, 1) := by decide +kernel
theorem dX6_setSlope_40 : decode cX6_setSlope 40 = .ok (.new 25, 3) := by decide +kernel
theorem dX6_setSlope_43 : decode cX6_setSlope 43 = .ok (.dup, 1) := by decide +kernel
theorem dX6_setSlope_44 : decode cX6_setSlope 44 = .ok (.iload_n 1, 1) := by decide +kernel
theorem dX6_setSlope_45 : decode cX6_setSlope 45 = .ok (.i2l, 1) := by decide +kernel
theorem dX6_setSlope_46 : decode cX6_setSlope 46 = .ok (.iload_n 3, 1) := by decide +kernel
theorem dX6_setSlope_47 : decode cX6_setSlope 47 = .ok (.i2l, 1) := by decide +kernel
theorem dX6_setSlope_48 : decode cX6_setSlope 48 = .ok (.invokestatic 46, 3) := by decide +kernel
theorem dX6_setSlope_51 : decode cX6_setSlope 51 = .ok (.l2i, 1) := by decide +kernel
theorem dX6_setSlope_52 : decode cX6_setSlope 52 = .ok (.iload 4, 2) := by decide +kernel
theorem dX6_setSlope_54 : decode cX6_setSlope 54 = .ok (.iconst 0, 1) := by decide +kernel
theorem dX6_setSlope_55 : decode cX6_setSlope 55 = .ok (.invokespecial 27, 3) := by decide +kernel
theorem dX6_setSlope_58 : decode cX6_setSlope 58 = .ok (.invokevirtual 50, 3) := by decide +kernel
theorem dX6_setSlope_61 : decode cX6_setSlope 61 = .ok (.iload 4, 2) := by decide +kernel
theorem dX6_setSlope_63 : decode cX6_setSlope 63 = .ok (.ireturn, 1) := by decide +kernel
set_option maxRecDepth 20000 in
theorem ggX6_setIntercept_X3_init : GoodIn wsX6_setIntercept wsX3_init := goodIn_r _ [7, 8, 9, 10, 11, 12, 13, 46, 47, 48] (by decide +kernel) (by decide +kernel)
set_option maxRecDepth 20000 in
theorem gX6_setIntercept_X3_init : GoodIn wsX6_setIntercept (wsX3_init) := ggX6_setIntercept_X3_init
set_option maxRecDepth 20000 in
theorem ggX6_setIntercept_X6_changeSlope : GoodIn wsX6_setIntercept wsX6_changeSlope := goodIn_r _ [18, 19, 1, 20, 21, 22, 23, 24, 25, 26, 27, 28, 29, 30, 31, 32, 33, 34, 35, 36, 37, 38, 9, 10, 39, 40, 41, 42, 43, 44, 45, 49, 50, 51] (by decide +kernel) (by decide +kernel)
set_option maxRecDepth 20000 in
theorem gX6_setIntercept_X6_changeSlope : GoodIn wsX6_setIntercept (wsV RX6 50 RX6 yX6_changeSlope wsX6_changeSlope) := goodIn_app (goodIn_of _ (by decide +kernel)) ggX6_setIntercept_X6_changeSlope
theorem dX6_setIntercept_0 : decode cX6_setIntercept 0 = .ok (.aload_n 0, 1) := by decide +kernel
theorem dX6_setIntercept_1 : decode cX6_setIntercept 1 = .ok (.getfield 38, 3) := by decide +kernel
theorem dX6_setIntercept_4 : decode cX6_setIntercept 4 = .ok (.getfield 54, 3) := by decide +kernel
theorem dX6_setIntercept_7 : decode cX6_setIntercept 7 = .ok (.astore_n 2, 1) := by decide +kernel
theorem dX6_setIntercept_8 : decode cX6_setIntercept 8 = .ok (.iload_n 1, 1) := by decide +kernel
theorem dX6_setIntercept_9 : decode cX6_setIntercept 9 = .ok (.ifCond .lt 11, 3) := by decide +kernel
theorem dX6_setIntercept_12 : decode cX6_setIntercept 12 = .ok (.iload_n 1, 1) := by decide +kernel
theorem dX6_setIntercept_13 : decode cX6_setIntercept 13 = .ok (.aload_n 2, 1) := by decide +kernel
theorem dX6_setIntercept_14 : decode cX6_setIntercept 14 = .ok (.getfield 58, 3) := by decide +kernel
theorem dX6_setIntercept_17 : decode cX6_setIntercept 17 = .ok (.if_icmp .lt 5, 3) := by decide +kernel
theorem dX6_setIntercept_20 : decode cX6_setIntercept 20 = .ok (.iconst (-1), 1) := by decide +kernel
theorem dX6_setIntercept_21 : decode cX6_setIntercept 21 = .ok (.ireturn, 1) := by decide +kernel
theorem dX6_setIntercept_22 : decode cX6_setIntercept 22 = .ok (.aload_n 0, 1) := by decide +kernel
theorem dX6_setIntercept_23 : decode cX6_setIntercept 23 = .ok (.new 25, 3) := by decide +kernel
theorem dX6_setIntercept_26 : decode cX6_setIntercept 26 = .ok (.dup, 1) := by decide +kernel
theorem dX6_setIntercept_27 : decode cX6_setIntercept 27 = .ok (.aload_n 2, 1) := by decide +kernel
theorem dX6_setIntercept_28 : decode cX6_setIntercept 28 = .ok (.getfield 62, 3) := by decide +kernel
theorem dX6_setIntercept_31 : decode cX6_setIntercept 31 = .ok (.aload_n 2, 1) := by decide +kernel
theorem dX6_setIntercept_32 : decode cX6_setIntercept 32 = .ok (.getfield 58, 3) := by decide +kernel
theorem dX6_setIntercept_35 : decode cX6_setIntercept 35 = .ok (.iload_n 1, 1) := by decide +kernel
theorem dX6_setIntercept_36 : decode cX6_setIntercept 36 = .ok (.invokespecial 27, 3) := by decide +kernel
theorem dX6_setIntercept_39 : decode cX6_setIntercept 39 = .ok (.invokevirtual 50, 3) := by decide +kernel
theorem dX6_setIntercept_42 : decode cX6_setIntercept 42 = .ok (.aload_n 2, 1) := by decide +kernel
theorem dX6_setIntercept_43 : decode cX6_setIntercept 43 = .ok (.getfield 65, 3) := by decide +kernel
theorem dX6_setIntercept_46 : decode cX6_setIntercept 46 = .ok (.ireturn, 1) := by decide +kernel
theorem dX6_slopeNumerator_0 : decode cX6_slopeNumerator 0 = .ok (.aload_n 0, 1) := by decide +kernel
theorem dX6_slopeNumerator_1 : decode cX6_slopeNumerator 1 = .ok (.getfield 38, 3) := by decide +kernel
theorem dX6_slopeNumerator_4 : decode cX6_slopeNumerator 4 = .ok (.getfield 54, 3) := by decide +kernel
theorem dX6_slopeNumerator_7 : decode cX6_slopeNumerator 7 = .ok (.getfield 62, 3) := by decide +kernel
theorem dX6_slopeNumerator_10 : decode cX6_slopeNumerator 10 = .ok (.ireturn, 1) := by decide +kernel
theorem dX6_slopeDenominator_0 : decode cX6_slopeDenominator 0 = .ok (.aload_n 0, 1) := by decide +kernel
theorem dX6_slopeDenominator_1 : decode cX6_slopeDenominator 1 = .ok (.getfield 38, 3) := by decide +kernel
theorem dX6_slopeDenominator_4 : decode cX6_slopeDenominator 4 = .ok (.getfield 54, 3) := by decide +kernel
theorem dX6_slopeDenominator_7 : decode cX6_slopeDenominator 7 = .ok (.getfield 58, 3) := by decide +kernel
theorem dX6_slopeDenominator_10 : decode cX6_slopeDenominator 10 = .ok (.ireturn, 1) := by decide +kernel
set_option maxRecDepth 20000 in
theorem ggX6_continuedFractionTerm_X3_term : GoodIn wsX6_continuedFractionTerm wsX3_term := goodIn_r _ [6, 7, 8, 9, 10, 11, 17, 18, 19] (by decide +kernel) (by decide +kernel)
set_option maxRecDepth 20000 in
theorem gX6_continuedFractionTerm_X3_term : GoodIn wsX6_continuedFractionTerm (wsV RX6 68 RX3 yX3_term wsX3_term) := goodIn_app (goodIn_of _ (by decide +kernel)) ggX6_continuedFractionTerm_X3_term
theorem dX6_continuedFractionTerm_0 : decode cX6_continuedFractionTerm 0 = .ok (.iload_n 1, 1) := by decide +kernel
theorem dX6_continuedFractionTerm_1 : decode cX6_continuedFractionTerm 1 = .ok (.iconst 1, 1) := by decide +kernel
theorem dX6_continuedFractionTerm_2 : decode cX6_continuedFractionTerm 2 = .ok (.if_icmp .ge 5, 3) := by decide +kernel
theorem dX6_continuedFractionTerm_5 : decode cX6_continuedFractionTerm 5 = .ok (.iconst (-1), 1) := by decide +kernel
theorem dX6_continuedFractionTerm_6 : decode cX6_continuedFractionTerm 6 = .ok (.ireturn, 1) := by decide +kernel
theorem dX6_continuedFractionTerm_7 : decode cX6_continuedFractionTerm 7 = .ok (.aload_n 0, 1) := by decide +kernel
theorem dX6_continuedFractionTerm_8 : decode cX6_continuedFractionTerm 8 = .ok (.getfield 38, 3) := by decide +kernel
theorem dX6_continuedFractionTerm_11 : decode cX6_continuedFractionTerm 11 = .ok (.getfield 54, 3) := by decide +kernel
theorem dX6_continuedFractionTerm_14 : decode cX6_continuedFractionTerm 14 = .ok (.iload_n 1, 1) := by decide +kernel
theorem dX6_continuedFractionTerm_15 : decode cX6_continuedFractionTerm 15 = .ok (.invokevirtual 68, 3) := by decide +kernel
theorem dX6_continuedFractionTerm_18 : decode cX6_continuedFractionTerm 18 = .ok (.istore_n 2, 1) := by decide +kernel
theorem dX6_continuedFractionTerm_19 : decode cX6_continuedFractionTerm 19 = .ok (.iload_n 2, 1) := by decide +kernel
theorem dX6_continuedFractionTerm_20 : decode cX6_continuedFractionTerm 20 = .ok (.iconst (-1), 1) := by decide +kernel
theorem dX6_continuedFractionTerm_21 : decode cX6_continuedFractionTerm 21 = .ok (.if_icmp .ne 8, 3) := by decide +kernel
theorem dX6_continuedFractionTerm_24 : decode cX6_continuedFractionTerm 24 = .ok (.bipush (-3), 2) := by decide +kernel
theorem dX6_continuedFractionTerm_26 : decode cX6_continuedFractionTerm 26 = .ok (.goto 4, 3) := by decide +kernel
theorem dX6_continuedFractionTerm_29 : decode cX6_continuedFractionTerm 29 = .ok (.iload_n 2, 1) := by decide +kernel
theorem dX6_continuedFractionTerm_30 : decode cX6_continuedFractionTerm 30 = .ok (.ireturn, 1) := by decide +kernel
set_option maxRecDepth 20000 in
theorem ggX6_mechanicalLetter_X3_letter : GoodIn wsX6_mechanicalLetter wsX3_letter := goodIn_r _ [7, 8, 9, 10, 11, 12, 13, 19, 20, 21] (by decide +kernel) (by decide +kernel)
set_option maxRecDepth 20000 in
theorem gX6_mechanicalLetter_X3_letter : GoodIn wsX6_mechanicalLetter (wsV RX6 73 RX3 yX3_letter wsX3_letter) := goodIn_app (goodIn_of _ (by decide +kernel)) ggX6_mechanicalLetter_X3_letter
theorem dX6_mechanicalLetter_0 : decode cX6_mechanicalLetter 0 = .ok (.iload_n 1, 1) := by decide +kernel
theorem dX6_mechanicalLetter_1 : decode cX6_mechanicalLetter 1 = .ok (.ifCond .lt 9, 3) := by decide +kernel
theorem dX6_mechanicalLetter_4 : decode cX6_mechanicalLetter 4 = .ok (.iload_n 1, 1) := by decide +kernel
theorem dX6_mechanicalLetter_5 : decode cX6_mechanicalLetter 5 = .ok (.ldc 72, 2) := by decide +kernel
theorem dX6_mechanicalLetter_7 : decode cX6_mechanicalLetter 7 = .ok (.if_icmp .le 5, 3) := by decide +kernel
theorem dX6_mechanicalLetter_10 : decode cX6_mechanicalLetter 10 = .ok (.iconst (-1), 1) := by decide +kernel
theorem dX6_mechanicalLetter_11 : decode cX6_mechanicalLetter 11 = .ok (.ireturn, 1) := by decide +kernel
theorem dX6_mechanicalLetter_12 : decode cX6_mechanicalLetter 12 = .ok (.aload_n 0, 1) := by decide +kernel
theorem dX6_mechanicalLetter_13 : decode cX6_mechanicalLetter 13 = .ok (.getfield 38, 3) := by decide +kernel
theorem dX6_mechanicalLetter_16 : decode cX6_mechanicalLetter 16 = .ok (.getfield 54, 3) := by decide +kernel
theorem dX6_mechanicalLetter_19 : decode cX6_mechanicalLetter 19 = .ok (.iload_n 1, 1) := by decide +kernel
theorem dX6_mechanicalLetter_20 : decode cX6_mechanicalLetter 20 = .ok (.iload_n 2, 1) := by decide +kernel
theorem dX6_mechanicalLetter_21 : decode cX6_mechanicalLetter 21 = .ok (.invokevirtual 73, 3) := by decide +kernel
theorem dX6_mechanicalLetter_24 : decode cX6_mechanicalLetter 24 = .ok (.ireturn, 1) := by decide +kernel
set_option maxRecDepth 20000 in
theorem ggX6_loadMechanical_X3_firstLetters : GoodIn wsX6_loadMechanical wsX3_firstLetters := goodIn_r _ [6, 7, 8, 9, 10, 11, 12, 5, 13, 14, 15, 16, 17, 18, 19, 20, 21, 22, 23, 24, 25, 26, 27, 70, 71, 72, 73, 74] (by decide +kernel) (by decide +kernel)
set_option maxRecDepth 20000 in
theorem gX6_loadMechanical_X3_firstLetters : GoodIn wsX6_loadMechanical (wsV RX6 77 RX3 yX3_firstLetters wsX3_firstLetters) := goodIn_app (goodIn_of _ (by decide +kernel)) ggX6_loadMechanical_X3_firstLetters
set_option maxRecDepth 20000 in
theorem ggX6_loadMechanical_X6_changeWord : GoodIn wsX6_loadMechanical wsX6_changeWord := goodIn_r _ [31, 32, 1, 33, 34, 35, 36, 37, 38, 39, 40, 41, 42, 43, 44, 45, 46, 47, 48, 49, 50, 51, 24, 25, 52, 53, 65, 66, 67, 68, 69, 75, 76, 77] (by decide +kernel) (by decide +kernel)
set_option maxRecDepth 20000 in
theorem gX6_loadMechanical_X6_changeWord : GoodIn wsX6_loadMechanical (wsV RX6 81 RX6 yX6_changeWord wsX6_changeWord) := goodIn_app (goodIn_of _ (by decide +kernel)) ggX6_loadMechanical_X6_changeWord
set_option maxRecDepth 20000 in
theorem ggX6_loadMechanical_X5_ones : GoodIn wsX6_loadMechanical wsX5_ones := goodIn_r _ [57, 26, 58, 59, 60, 61, 62, 63, 64, 70, 71] (by decide +kernel) (by decide +kernel)
set_option maxRecDepth 20000 in
theorem gX6_loadMechanical_X5_ones : GoodIn wsX6_loadMechanical (wsV RX6 85 RX5 yX5_ones wsX5_ones) := goodIn_app (goodIn_of _ (by decide +kernel)) ggX6_loadMechanical_X5_ones
theorem dX6_loadMechanical_0 : decode cX6_loadMechanical 0 = .ok (.iload_n 1, 1) := by decide +kernel
theorem dX6_loadMechanical_1 : decode cX6_loadMechanical 1 = .ok (.ifCond .ge 5, 3) := by decide +kernel
theorem dX6_loadMechanical_4 : decode cX6_loadMechanical 4 = .ok (.iconst (-1), 1) := by decide +kernel
theorem dX6_loadMechanical_5 : decode cX6_loadMechanical 5 = .ok (.ireturn, 1) := by decide +kernel
theorem dX6_loadMechanical_6 : decode cX6_loadMechanical 6 = .ok (.iload_n 1, 1) := by decide +kernel
theorem dX6_loadMechanical_7 : decode cX6_loadMechanical 7 = .ok (.bipush 60, 2) := by decide +kernel
theorem dX6_loadMechanical_9 : decode cX6_loadMechanical 9 = .ok (.if_icmp .le 6, 3) := by decide +kernel
theorem dX6_loadMechanical_12 : decode cX6_loadMechanical 12 = .ok (.bipush (-2), 2) := by decide +kernel
theorem dX6_loadMechanical_14 : decode cX6_loadMechanical 14 = .ok (.ireturn, 1) := by decide +kernel
theorem dX6_loadMechanical_15 : decode cX6_loadMechanical 15 = .ok (.aload_n 0, 1) := by decide +kernel
theorem dX6_loadMechanical_16 : decode cX6_loadMechanical 16 = .ok (.getfield 38, 3) := by decide +kernel
theorem dX6_loadMechanical_19 : decode cX6_loadMechanical 19 = .ok (.getfield 54, 3) := by decide +kernel
theorem dX6_loadMechanical_22 : decode cX6_loadMechanical 22 = .ok (.iload_n 1, 1) := by decide +kernel
theorem dX6_loadMechanical_23 : decode cX6_loadMechanical 23 = .ok (.iload_n 2, 1) := by decide +kernel
theorem dX6_loadMechanical_24 : decode cX6_loadMechanical 24 = .ok (.invokevirtual 77, 3) := by decide +kernel
theorem dX6_loadMechanical_27 : decode cX6_loadMechanical 27 = .ok (.astore_n 3, 1) := by decide +kernel
theorem dX6_loadMechanical_28 : decode cX6_loadMechanical 28 = .ok (.aload_n 0, 1) := by decide +kernel
theorem dX6_loadMechanical_29 : decode cX6_loadMechanical 29 = .ok (.aload_n 3, 1) := by decide +kernel
theorem dX6_loadMechanical_30 : decode cX6_loadMechanical 30 = .ok (.invokevirtual 81, 3) := by decide +kernel
theorem dX6_loadMechanical_33 : decode cX6_loadMechanical 33 = .ok (.aload_n 3, 1) := by decide +kernel
theorem dX6_loadMechanical_34 : decode cX6_loadMechanical 34 = .ok (.invokevirtual 85, 3) := by decide +kernel
theorem dX6_loadMechanical_37 : decode cX6_loadMechanical 37 = .ok (.ireturn, 1) := by decide +kernel
set_option maxRecDepth 20000 in
theorem ggX6_loadStandard_X3_term : GoodIn wsX6_loadStandard wsX3_term := goodIn_r _ [6, 7, 8, 9, 10, 11, 67, 68, 69] (by decide +kernel) (by decide +kernel)
set_option maxRecDepth 20000 in
theorem gX6_loadStandard_X3_term : GoodIn wsX6_loadStandard (wsV RX6 68 RX3 yX3_term wsX3_term) := goodIn_app (goodIn_of _ (by decide +kernel)) ggX6_loadStandard_X3_term
set_option maxRecDepth 20000 in
theorem ggX6_loadStandard_X3_standardWord : GoodIn wsX6_loadStandard wsX3_standardWord := goodIn_r _ [15, 16, 17, 18, 19, 20, 21, 22, 23, 24, 25, 26, 27, 3, 4, 5, 6, 7, 8, 9, 10, 11, 28, 29, 30, 31, 32, 33, 65, 66, 67, 68, 69] (by decide +kernel) (by decide +kernel)
set_option maxRecDepth 20000 in
theorem gX6_loadStandard_X3_standardWord : GoodIn wsX6_loadStandard (wsV RX6 89 RX3 yX3_standardWord wsX3_standardWord) := goodIn_app (goodIn_of _ (by decide +kernel)) ggX6_loadStandard_X3_standardWord
set_option maxRecDepth 20000 in
theorem ggX6_loadStandard_X6_changeWord : GoodIn wsX6_loadStandard wsX6_changeWord := goodIn_r _ [37, 38, 1, 39, 40, 41, 42, 43, 44, 45, 46, 47, 48, 49, 50, 51, 52, 53, 54, 55, 56, 57, 23, 24, 58, 59, 60, 61, 62, 63, 64, 70, 71, 72] (by decide +kernel) (by decide +kernel)
set_option maxRecDepth 20000 in
theorem gX6_loadStandard_X6_changeWord : GoodIn wsX6_loadStandard (wsV RX6 81 RX6 yX6_changeWord wsX6_changeWord) := goodIn_app (goodIn_of _ (by decide +kernel)) ggX6_loadStandard_X6_changeWord
theorem dX6_loadStandard_0 : decode cX6_loadStandard 0 = .ok (.iload_n 1, 1) := by decide +kernel
theorem dX6_loadStandard_1 : decode cX6_loadStandard 1 = .ok (.iconst (-1), 1) := by decide +kernel
theorem dX6_loadStandard_2 : decode cX6_loadStandard 2 = .ok (.if_icmp .ge 5, 3) := by decide +kernel
theorem dX6_loadStandard_5 : decode cX6_loadStandard 5 = .ok (.iconst (-1), 1) := by decide +kernel
theorem dX6_loadStandard_6 : decode cX6_loadStandard 6 = .ok (.ireturn, 1) := by decide +kernel
theorem dX6_loadStandard_7 : decode cX6_loadStandard 7 = .ok (.iload_n 1, 1) := by decide +kernel
theorem dX6_loadStandard_8 : decode cX6_loadStandard 8 = .ok (.ifCond .le 21, 3) := by decide +kernel
theorem dX6_loadStandard_11 : decode cX6_loadStandard 11 = .ok (.aload_n 0, 1) := by decide +kernel
theorem dX6_loadStandard_12 : decode cX6_loadStandard 12 = .ok (.getfield 38, 3) := by decide +kernel
theorem dX6_loadStandard_15 : decode cX6_loadStandard 15 = .ok (.getfield 54, 3) := by decide +kernel
theorem dX6_loadStandard_18 : decode cX6_loadStandard 18 = .ok (.iload_n 1, 1) := by decide +kernel
theorem dX6_loadStandard_19 : decode cX6_loadStandard 19 = .ok (.invokevirtual 68, 3) := by decide +kernel
theorem dX6_loadStandard_22 : decode cX6_loadStandard 22 = .ok (.iconst (-1), 1) := by decide +kernel
theorem dX6_loadStandard_23 : decode cX6_loadStandard 23 = .ok (.if_icmp .ne 6, 3) := by decide +kernel
theorem dX6_loadStandard_26 : decode cX6_loadStandard 26 = .ok (.bipush (-3), 2) := by decide +kernel
theorem dX6_loadStandard_28 : decode cX6_loadStandard 28 = .ok (.ireturn, 1) := by decide +kernel
theorem dX6_loadStandard_29 : decode cX6_loadStandard 29 = .ok (.aload_n 0, 1) := by decide +kernel
theorem dX6_loadStandard_30 : decode cX6_loadStandard 30 = .ok (.getfield 38, 3) := by decide +kernel
theorem dX6_loadStandard_33 : decode cX6_loadStandard 33 = .ok (.getfield 54, 3) := by decide +kernel
theorem dX6_loadStandard_36 : decode cX6_loadStandard 36 = .ok (.iload_n 1, 1) := by decide +kernel
theorem dX6_loadStandard_37 : decode cX6_loadStandard 37 = .ok (.invokevirtual 89, 3) := by decide +kernel
theorem dX6_loadStandard_40 : decode cX6_loadStandard 40 = .ok (.astore_n 2, 1) := by decide +kernel
theorem dX6_loadStandard_41 : decode cX6_loadStandard 41 = .ok (.aload_n 2, 1) := by decide +kernel
theorem dX6_loadStandard_42 : decode cX6_loadStandard 42 = .ok (.ifnonnull 6, 3) := by decide +kernel
theorem dX6_loadStandard_45 : decode cX6_loadStandard 45 = .ok (.bipush (-2), 2) := by decide +kernel
theorem dX6_loadStandard_47 : decode cX6_loadStandard 47 = .ok (.ireturn, 1) := by decide +kernel
theorem dX6_loadStandard_48 : decode cX6_loadStandard 48 = .ok (.aload_n 0, 1) := by decide +kernel
theorem dX6_loadStandard_49 : decode cX6_loadStandard 49 = .ok (.aload_n 2, 1) := by decide +kernel
theorem dX6_loadStandard_50 : decode cX6_loadStandard 50 = .ok (.invokevirtual 81, 3) := by decide +kernel
theorem dX6_loadStandard_53 : decode cX6_loadStandard 53 = .ok (.aload_n 2, 1) := by decide +kernel
theorem dX6_loadStandard_54 : decode cX6_loadStandard 54 = .ok (.getfield 93, 3) := by decide +kernel
theorem dX6_loadStandard_57 : decode cX6_loadStandard 57 = .ok (.ireturn, 1) := by decide +kernel
set_option maxRecDepth 20000 in
theorem ggX6_append_X5_init : GoodIn wsX6_append wsX5_init := goodIn_r _ [7, 8, 9, 10, 11, 12, 45, 46] (by decide +kernel) (by decide +kernel)
set_option maxRecDepth 20000 in
theorem gX6_append_X5_init : GoodIn wsX6_append (wsX5_init) := ggX6_append_X5_init
set_option maxRecDepth 20000 in
theorem ggX6_append_X6_changeWord : GoodIn wsX6_append wsX6_changeWord := goodIn_r _ [17, 18, 1, 19, 20, 21, 22, 23, 24, 25, 26, 27, 28, 29, 30, 31, 32, 33, 34, 35, 36, 37, 9, 10, 38, 39, 40, 41, 42, 43, 44, 47, 48, 49] (by decide +kernel) (by decide +kernel)
set_option maxRecDepth 20000 in
theorem gX6_append_X6_changeWord : GoodIn wsX6_append (wsV RX6 81 RX6 yX6_changeWord wsX6_changeWord) := goodIn_app (goodIn_of _ (by decide +kernel)) ggX6_append_X6_changeWord
theorem dX6_append_0 : decode cX6_append 0 = .ok (.iload_n 1, 1) := by decide +kernel
theorem dX6_append_1 : decode cX6_append 1 = .ok (.ifCond .eq 10, 3) := by decide +kernel
theorem dX6_append_4 : decode cX6_append 4 = .ok (.iload_n 1, 1) := by decide +kernel
theorem dX6_append_5 : decode cX6_append 5 = .ok (.iconst 1, 1) := by decide +kernel
theorem dX6_append_6 : decode cX6_append 6 = .ok (.if_icmp .eq 5, 3) := by decide +kernel
theorem dX6_append_9 : decode cX6_append 9 = .ok (.iconst (-1), 1) := by decide +kernel
theorem dX6_append_10 : decode cX6_append 10 = .ok (.ireturn, 1) := by decide +kernel
theorem dX6_append_11 : decode cX6_append 11 = .ok (.aload_n 0, 1) := by decide +kernel
theorem dX6_append_12 : decode cX6_append 12 = .ok (.getfield 38, 3) := by decide +kernel
theorem dX6_append_15 : decode cX6_append 15 = .ok (.getfield 96, 3) := by decide +kernel
theorem dX6_append_18 : decode cX6_append 18 = .ok (.astore_n 2, 1) := by decide +kernel
theorem dX6_append_19 : decode cX6_append 19 = .ok (.aload_n 2, 1) := by decide +kernel
theorem dX6_append_20 : decode cX6_append 20 = .ok (.getfield 93, 3) := by decide +kernel
theorem dX6_append_23 : decode cX6_append 23 = .ok (.bipush 60, 2) := by decide +kernel
theorem dX6_append_25 : decode cX6_append 25 = .ok (.if_icmp .lt 6, 3) := by decide +kernel
theorem dX6_append_28 : decode cX6_append 28 = .ok (.bipush (-2), 2) := by decide +kernel
theorem dX6_append_30 : decode cX6_append 30 = .ok (.ireturn, 1) := by decide +kernel
theorem dX6_append_31 : decode cX6_append 31 = .ok (.aload_n 0, 1) := by decide +kernel
theorem dX6_append_32 : decode cX6_append 32 = .ok (.new 30, 3) := by decide +kernel
theorem dX6_append_35 : decode cX6_append 35 = .ok (.dup, 1) := by decide +kernel
theorem dX6_append_36 : decode cX6_append 36 = .ok (.aload_n 2, 1) := by decide +kernel
theorem dX6_append_37 : decode cX6_append 37 = .ok (.getfield 100, 3) := by decide +kernel
theorem dX6_append_40 : decode cX6_append 40 = .ok (.iconst 1, 1) := by decide +kernel
theorem dX6_append_41 : decode cX6_append 41 = .ok (.lshl, 1) := by decide +kernel
theorem dX6_append_42 : decode cX6_append 42 = .ok (.iload_n 1, 1) := by decide +kernel
theorem dX6_append_43 : decode cX6_append 43 = .ok (.i2l, 1) := by decide +kernel
theorem dX6_append_44 : decode cX6_append 44 = .ok (.lor, 1) := by decide +kernel
theorem dX6_append_45 : decode cX6_append 45 = .ok (.aload_n 2, 1) := by decide +kernel
theorem dX6_append_46 : decode cX6_append 46 = .ok (.getfield 93, 3) := by decide +kernel
theorem dX6_append_49 : decode cX6_append 49 = .ok (.iconst 1, 1) := by decide +kernel
theorem dX6_append_50 : decode cX6_append 50 = .ok (.iadd, 1) := by decide +kernel
theorem dX6_append_51 : decode cX6_append 51 = .ok (.invokespecial 32, 3) := by decide +kernel
theorem dX6_append_54 : decode cX6_append 54 = .ok (.invokevirtual 81, 3) := by decide +kernel
theorem dX6_append_57 : decode cX6_append 57 = .ok (.aload_n 2, 1) := by decide +kernel
theorem dX6_append_58 : decode cX6_append 58 = .ok (.getfield 93, 3) := by decide +kernel
theorem dX6_append_61 : decode cX6_append 61 = .ok (.iconst 1, 1) := by decide +kernel
theorem dX6_append_62 : decode cX6_append 62 = .ok (.iadd, 1) := by decide +kernel
theorem dX6_append_63 : decode cX6_append 63 = .ok (.ireturn, 1) := by decide +kernel
set_option maxRecDepth 20000 in
theorem ggX6_removeLast_X5_init : GoodIn wsX6_removeLast wsX5_init := goodIn_r _ [7, 8, 9, 10, 11, 12, 53, 54] (by decide +kernel) (by decide +kernel)
set_option maxRecDepth 20000 in
theorem gX6_removeLast_X5_init : GoodIn wsX6_removeLast (wsX5_init) := ggX6_removeLast_X5_init
set_option maxRecDepth 20000 in
theorem ggX6_removeLast_X6_changeWord : GoodIn wsX6_removeLast wsX6_changeWord := goodIn_r _ [17, 18, 1, 19, 20, 21, 22, 23, 24, 25, 26, 27, 28, 29, 30, 31, 32, 33, 34, 35, 36, 37, 9, 10, 38, 39, 48, 49, 50, 51, 52, 55, 56, 57] (by decide +kernel) (by decide +kernel)
set_option maxRecDepth 20000 in
theorem gX6_removeLast_X6_changeWord : GoodIn wsX6_removeLast (wsV RX6 81 RX6 yX6_changeWord wsX6_changeWord) := goodIn_app (goodIn_of _ (by decide +kernel)) ggX6_removeLast_X6_changeWord
set_option maxRecDepth 20000 in
theorem ggX6_removeLast_X5_letter : GoodIn wsX6_removeLast wsX5_letter := goodIn_r _ [43, 44, 45, 46, 4, 47, 11, 12, 53, 54] (by decide +kernel) (by decide +kernel)
set_option maxRecDepth 20000 in
theorem gX6_removeLast_X5_letter : GoodIn wsX6_removeLast (wsV RX6 104 RX5 yX5_letter wsX5_letter) := goodIn_app (goodIn_of _ (by decide +kernel)) ggX6_removeLast_X5_letter
theorem dX6_removeLast_0 : decode cX6_removeLast 0 = .ok (.aload_n 0, 1) := by decide +kernel
theorem dX6_removeLast_1 : decode cX6_removeLast 1 = .ok (.getfield 38, 3) := by decide +kernel
theorem dX6_removeLast_4 : decode cX6_removeLast 4 = .ok (.getfield 96, 3) := by decide +kernel
theorem dX6_removeLast_7 : decode cX6_removeLast 7 = .ok (.astore_n 1, 1) := by decide +kernel
theorem dX6_removeLast_8 : decode cX6_removeLast 8 = .ok (.aload_n 1, 1) := by decide +kernel
theorem dX6_removeLast_9 : decode cX6_removeLast 9 = .ok (.getfield 93, 3) := by decide +kernel
theorem dX6_removeLast_12 : decode cX6_removeLast 12 = .ok (.iconst 1, 1) := by decide +kernel
theorem dX6_removeLast_13 : decode cX6_removeLast 13 = .ok (.if_icmp .ge 6, 3) := by decide +kernel
theorem dX6_removeLast_16 : decode cX6_removeLast 16 = .ok (.bipush (-3), 2) := by decide +kernel
theorem dX6_removeLast_18 : decode cX6_removeLast 18 = .ok (.ireturn, 1) := by decide +kernel
theorem dX6_removeLast_19 : decode cX6_removeLast 19 = .ok (.aload_n 0, 1) := by decide +kernel
theorem dX6_removeLast_20 : decode cX6_removeLast 20 = .ok (.new 30, 3) := by decide +kernel
theorem dX6_removeLast_23 : decode cX6_removeLast 23 = .ok (.dup, 1) := by decide +kernel
theorem dX6_removeLast_24 : decode cX6_removeLast 24 = .ok (.aload_n 1, 1) := by decide +kernel
theorem dX6_removeLast_25 : decode cX6_removeLast 25 = .ok (.getfield 100, 3) := by decide +kernel
theorem dX6_removeLast_28 : decode cX6_removeLast 28 = .ok (.iconst 1, 1) := by decide +kernel
theorem dX6_removeLast_29 : decode cX6_removeLast 29 = .ok (.lushr, 1) := by decide +kernel
theorem dX6_removeLast_30 : decode cX6_removeLast 30 = .ok (.aload_n 1, 1) := by decide +kernel
theorem dX6_removeLast_31 : decode cX6_removeLast 31 = .ok (.getfield 93, 3) := by decide +kernel
theorem dX6_removeLast_34 : decode cX6_removeLast 34 = .ok (.iconst 1, 1) := by decide +kernel
theorem dX6_removeLast_35 : decode cX6_removeLast 35 = .ok (.isub, 1) := by decide +kernel
theorem dX6_removeLast_36 : decode cX6_removeLast 36 = .ok (.invokespecial 32, 3) := by decide +kernel
theorem dX6_removeLast_39 : decode cX6_removeLast 39 = .ok (.invokevirtual 81, 3) := by decide +kernel
theorem dX6_removeLast_42 : decode cX6_removeLast 42 = .ok (.aload_n 1, 1) := by decide +kernel
theorem dX6_removeLast_43 : decode cX6_removeLast 43 = .ok (.aload_n 1, 1) := by decide +kernel
theorem dX6_removeLast_44 : decode cX6_removeLast 44 = .ok (.getfield 93, 3) := by decide +kernel
theorem dX6_removeLast_47 : decode cX6_removeLast 47 = .ok (.iconst 1, 1) := by decide +kernel
theorem dX6_removeLast_48 : decode cX6_removeLast 48 = .ok (.isub, 1) := by decide +kernel
theorem dX6_removeLast_49 : decode cX6_removeLast 49 = .ok (.invokevirtual 104, 3) := by decide +kernel
theorem dX6_removeLast_52 : decode cX6_removeLast 52 = .ok (.ireturn, 1) := by decide +kernel
set_option maxRecDepth 20000 in
theorem ggX6_clear_X5_init : GoodIn wsX6_clear wsX5_init := goodIn_r _ [7, 8, 9, 10, 11, 12, 45, 46] (by decide +kernel) (by decide +kernel)
set_option maxRecDepth 20000 in
theorem gX6_clear_X5_init : GoodIn wsX6_clear (wsX5_init) := ggX6_clear_X5_init
set_option maxRecDepth 20000 in
theorem ggX6_clear_X6_changeWord : GoodIn wsX6_clear wsX6_changeWord := goodIn_r _ [17, 18, 1, 19, 20, 21, 22, 23, 24, 25, 26, 27, 28, 29, 30, 31, 32, 33, 34, 35, 36, 37, 9, 10, 38, 39, 40, 41, 42, 43, 44, 47, 48, 49] (by decide +kernel) (by decide +kernel)
set_option maxRecDepth 20000 in
theorem gX6_clear_X6_changeWord : GoodIn wsX6_clear (wsV RX6 81 RX6 yX6_changeWord wsX6_changeWord) := goodIn_app (goodIn_of _ (by decide +kernel)) ggX6_clear_X6_changeWord
theorem dX6_clear_0 : decode cX6_clear 0 = .ok (.aload_n 0, 1) := by decide +kernel
theorem dX6_clear_1 : decode cX6_clear 1 = .ok (.getfield 38, 3) := by decide +kernel
theorem dX6_clear_4 : decode cX6_clear 4 = .ok (.getfield 96, 3) := by decide +kernel
theorem dX6_clear_7 : decode cX6_clear 7 = .ok (.getfield 93, 3) := by decide +kernel
theorem dX6_clear_10 : decode cX6_clear 10 = .ok (.istore_n 1, 1) := by decide +kernel
theorem dX6_clear_11 : decode cX6_clear 11 = .ok (.aload_n 0, 1) := by decide +kernel
theorem dX6_clear_12 : decode cX6_clear 12 = .ok (.new 30, 3) := by decide +kernel
theorem dX6_clear_15 : decode cX6_clear 15 = .ok (.dup, 1) := by decide +kernel
theorem dX6_clear_16 : decode cX6_clear 16 = .ok (.lconst 0, 1) := by decide +kernel
theorem dX6_clear_17 : decode cX6_clear 17 = .ok (.iconst 0, 1) := by decide +kernel
theorem dX6_clear_18 : decode cX6_clear 18 = .ok (.invokespecial 32, 3) := by decide +kernel
theorem dX6_clear_21 : decode cX6_clear 21 = .ok (.invokevirtual 81, 3) := by decide +kernel
theorem dX6_clear_24 : decode cX6_clear 24 = .ok (.iload_n 1, 1) := by decide +kernel
theorem dX6_clear_25 : decode cX6_clear 25 = .ok (.ireturn, 1) := by decide +kernel
set_option maxRecDepth 20000 in
theorem ggX6_reverse_X5_reversed : GoodIn wsX6_reverse wsX5_reversed := goodIn_r _ [6, 7, 8, 9, 10, 5, 11, 12, 13, 14, 15, 16, 49, 50] (by decide +kernel) (by decide +kernel)
set_option maxRecDepth 20000 in
theorem gX6_reverse_X5_reversed : GoodIn wsX6_reverse (wsV RX6 106 RX5 yX5_reversed wsX5_reversed) := goodIn_app (goodIn_of _ (by decide +kernel)) ggX6_reverse_X5_reversed
set_option maxRecDepth 20000 in
theorem ggX6_reverse_X6_changeWord : GoodIn wsX6_reverse wsX6_changeWord := goodIn_r _ [21, 22, 1, 23, 24, 25, 26, 27, 28, 29, 30, 31, 32, 33, 34, 35, 36, 37, 38, 39, 40, 41, 15, 16, 42, 43, 44, 45, 46, 47, 48, 51, 52, 53] (by decide +kernel) (by decide +kernel)
set_option maxRecDepth 20000 in
theorem gX6_reverse_X6_changeWord : GoodIn wsX6_reverse (wsV RX6 81 RX6 yX6_changeWord wsX6_changeWord) := goodIn_app (goodIn_of _ (by decide +kernel)) ggX6_reverse_X6_changeWord
theorem dX6_reverse_0 : decode cX6_reverse 0 = .ok (.aload_n 0, 1) := by decide +kernel
theorem dX6_reverse_1 : decode cX6_reverse 1 = .ok (.getfield 38, 3) := by decide +kernel
theorem dX6_reverse_4 : decode cX6_reverse 4 = .ok (.getfield 96, 3) := by decide +kernel
theorem dX6_reverse_7 : decode cX6_reverse 7 = .ok (.astore_n 1, 1) := by decide +kernel
theorem dX6_reverse_8 : decode cX6_reverse 8 = .ok (.aload_n 1, 1) := by decide +kernel
theorem dX6_reverse_9 : decode cX6_reverse 9 = .ok (.invokevirtual 106, 3) := by decide +kernel
theorem dX6_reverse_12 : decode cX6_reverse 12 = .ok (.astore_n 2, 1) := by decide +kernel
theorem dX6_reverse_13 : decode cX6_reverse 13 = .ok (.aload_n 0, 1) := by decide +kernel
theorem dX6_reverse_14 : decode cX6_reverse 14 = .ok (.aload_n 2, 1) := by decide +kernel
theorem dX6_reverse_15 : decode cX6_reverse 15 = .ok (.invokevirtual 81, 3) := by decide +kernel
theorem dX6_reverse_18 : decode cX6_reverse 18 = .ok (.aload_n 2, 1) := by decide +kernel
theorem dX6_reverse_19 : decode cX6_reverse 19 = .ok (.getfield 100, 3) := by decide +kernel
theorem dX6_reverse_22 : decode cX6_reverse 22 = .ok (.aload_n 1, 1) := by decide +kernel
theorem dX6_reverse_23 : decode cX6_reverse 23 = .ok (.getfield 100, 3) := by decide +kernel
theorem dX6_reverse_26 : decode cX6_reverse 26 = .ok (.lcmp, 1) := by decide +kernel
theorem dX6_reverse_27 : decode cX6_reverse 27 = .ok (.ifCond .ne 7, 3) := by decide +kernel
theorem dX6_reverse_30 : decode cX6_reverse 30 = .ok (.iconst 0, 1) := by decide +kernel
theorem dX6_reverse_31 : decode cX6_reverse 31 = .ok (.goto 4, 3) := by decide +kernel
theorem dX6_reverse_34 : decode cX6_reverse 34 = .ok (.iconst 1, 1) := by decide +kernel
theorem dX6_reverse_35 : decode cX6_reverse 35 = .ok (.ireturn, 1) := by decide +kernel
set_option maxRecDepth 20000 in
theorem ggX6_applyMorphism_X2_numbered : GoodIn wsX6_applyMorphism wsX2_numbered := goodIn_r _ [5, 6, 7, 8, 9, 10] (by decide +kernel) (by decide +kernel)
set_option maxRecDepth 20000 in
theorem gX6_applyMorphism_X2_numbered : GoodIn wsX6_applyMorphism (va_wsS RX6 110 yX2_numbered wsX2_numbered) := goodIn_app (goodIn_of _ (by decide +kernel)) ggX6_applyMorphism_X2_numbered
set_option maxRecDepth 20000 in
theorem ggX6_applyMorphism_X2_imageOf : GoodIn wsX6_applyMorphism wsX2_imageOf := goodIn_r _ [14, 15, 16, 17, 18, 19, 20, 21, 22, 23, 24, 25, 26, 27, 28, 29, 30, 4, 31, 32, 33, 34, 35, 36, 37, 38, 39, 40, 41, 42, 43, 44, 45, 78, 79] (by decide +kernel) (by decide +kernel)
set_option maxRecDepth 20000 in
theorem gX6_applyMorphism_X2_imageOf : GoodIn wsX6_applyMorphism (wsV RX6 116 RX2 yX2_imageOf wsX2_imageOf) := goodIn_app (goodIn_of _ (by decide +kernel)) ggX6_applyMorphism_X2_imageOf
set_option maxRecDepth 20000 in
theorem ggX6_applyMorphism_X6_changeWord : GoodIn wsX6_applyMorphism wsX6_changeWord := goodIn_r _ [50, 51, 1, 52, 53, 54, 55, 56, 57, 58, 59, 60, 61, 62, 63, 64, 65, 66, 67, 68, 69, 70, 44, 45, 71, 72, 73, 74, 75, 76, 77, 80, 81, 82] (by decide +kernel) (by decide +kernel)
set_option maxRecDepth 20000 in
theorem gX6_applyMorphism_X6_changeWord : GoodIn wsX6_applyMorphism (wsV RX6 81 RX6 yX6_changeWord wsX6_changeWord) := goodIn_app (goodIn_of _ (by decide +kernel)) ggX6_applyMorphism_X6_changeWord
theorem dX6_applyMorphism_0 : decode cX6_applyMorphism 0 = .ok (.iload_n 1, 1) := by decide +kernel
theorem dX6_applyMorphism_1 : decode cX6_applyMorphism 1 = .ok (.invokestatic 110, 3) := by decide +kernel
theorem dX6_applyMorphism_4 : decode cX6_applyMorphism 4 = .ok (.astore_n 2, 1) := by decide +kernel
theorem dX6_applyMorphism_5 : decode cX6_applyMorphism 5 = .ok (.aload_n 2, 1) := by decide +kernel
theorem dX6_applyMorphism_6 : decode cX6_applyMorphism 6 = .ok (.ifnonnull 5, 3) := by decide +kernel
theorem dX6_applyMorphism_9 : decode cX6_applyMorphism 9 = .ok (.iconst (-1), 1) := by decide +kernel
theorem dX6_applyMorphism_10 : decode cX6_applyMorphism 10 = .ok (.ireturn, 1) := by decide +kernel
theorem dX6_applyMorphism_11 : decode cX6_applyMorphism 11 = .ok (.aload_n 2, 1) := by decide +kernel
theorem dX6_applyMorphism_12 : decode cX6_applyMorphism 12 = .ok (.aload_n 0, 1) := by decide +kernel
theorem dX6_applyMorphism_13 : decode cX6_applyMorphism 13 = .ok (.getfield 38, 3) := by decide +kernel
theorem dX6_applyMorphism_16 : decode cX6_applyMorphism 16 = .ok (.getfield 96, 3) := by decide +kernel
theorem dX6_applyMorphism_19 : decode cX6_applyMorphism 19 = .ok (.invokevirtual 116, 3) := by decide +kernel
theorem dX6_applyMorphism_22 : decode cX6_applyMorphism 22 = .ok (.astore_n 3, 1) := by decide +kernel
theorem dX6_applyMorphism_23 : decode cX6_applyMorphism 23 = .ok (.aload_n 3, 1) := by decide +kernel
theorem dX6_applyMorphism_24 : decode cX6_applyMorphism 24 = .ok (.ifnonnull 6, 3) := by decide +kernel
theorem dX6_applyMorphism_27 : decode cX6_applyMorphism 27 = .ok (.bipush (-2), 2) := by decide +kernel
theorem dX6_applyMorphism_29 : decode cX6_applyMorphism 29 = .ok (.ireturn, 1) := by decide +kernel
theorem dX6_applyMorphism_30 : decode cX6_applyMorphism 30 = .ok (.aload_n 0, 1) := by decide +kernel
theorem dX6_applyMorphism_31 : decode cX6_applyMorphism 31 = .ok (.aload_n 3, 1) := by decide +kernel
theorem dX6_applyMorphism_32 : decode cX6_applyMorphism 32 = .ok (.invokevirtual 81, 3) := by decide +kernel
theorem dX6_applyMorphism_35 : decode cX6_applyMorphism 35 = .ok (.aload_n 3, 1) := by decide +kernel
theorem dX6_applyMorphism_36 : decode cX6_applyMorphism 36 = .ok (.getfield 93, 3) := by decide +kernel
theorem dX6_applyMorphism_39 : decode cX6_applyMorphism 39 = .ok (.ireturn, 1) := by decide +kernel
set_option maxRecDepth 20000 in
theorem ggX6_invertMorphism_X2_numbered : GoodIn wsX6_invertMorphism wsX2_numbered := goodIn_r _ [5, 6, 7, 8, 9, 10] (by decide +kernel) (by decide +kernel)
set_option maxRecDepth 20000 in
theorem gX6_invertMorphism_X2_numbered : GoodIn wsX6_invertMorphism (va_wsS RX6 110 yX2_numbered wsX2_numbered) := goodIn_app (goodIn_of _ (by decide +kernel)) ggX6_invertMorphism_X2_numbered
set_option maxRecDepth 20000 in
theorem ggX6_invertMorphism_X2_originOf : GoodIn wsX6_invertMorphism wsX2_originOf := goodIn_r _ [14, 15, 16, 17, 18, 19, 20, 4, 21, 22, 23, 24, 25, 26, 27, 28, 29, 30, 31, 32, 33, 34, 35, 36, 37, 38, 39, 40, 41, 42, 43, 44, 45, 46, 47, 48, 49, 82, 83] (by decide +kernel) (by decide +kernel)
set_option maxRecDepth 20000 in
theorem gX6_invertMorphism_X2_originOf : GoodIn wsX6_invertMorphism (wsV RX6 120 RX2 yX2_originOf wsX2_originOf) := goodIn_app (goodIn_of _ (by decide +kernel)) ggX6_invertMorphism_X2_originOf
set_option maxRecDepth 20000 in
theorem ggX6_invertMorphism_X6_changeWord : GoodIn wsX6_invertMorphism wsX6_changeWord := goodIn_r _ [54, 55, 1, 56, 57, 58, 59, 60, 61, 62, 63, 64, 65, 66, 67, 68, 69, 70, 71, 72, 73, 74, 48, 49, 75, 76, 77, 78, 79, 80, 81, 84, 85, 86] (by decide +kernel) (by decide +kernel)
set_option maxRecDepth 20000 in
theorem gX6_invertMorphism_X6_changeWord : GoodIn wsX6_invertMorphism (wsV RX6 81 RX6 yX6_changeWord wsX6_changeWord) := goodIn_app (goodIn_of _ (by decide +kernel)) ggX6_invertMorphism_X6_changeWord
theorem dX6_invertMorphism_0 : decode cX6_invertMorphism 0 = .ok (.iload_n 1, 1) := by decide +kernel
theorem dX6_invertMorphism_1 : decode cX6_invertMorphism 1 = .ok (.invokestatic 110, 3) := by decide +kernel
theorem dX6_invertMorphism_4 : decode cX6_invertMorphism 4 = .ok (.astore_n 2, 1) := by decide +kernel
theorem dX6_invertMorphism_5 : decode cX6_invertMorphism 5 = .ok (.aload_n 2, 1) := by decide +kernel
theorem dX6_invertMorphism_6 : decode cX6_invertMorphism 6 = .ok (.ifnonnull 5, 3) := by decide +kernel
theorem dX6_invertMorphism_9 : decode cX6_invertMorphism 9 = .ok (.iconst (-1), 1) := by decide +kernel
theorem dX6_invertMorphism_10 : decode cX6_invertMorphism 10 = .ok (.ireturn, 1) := by decide +kernel
theorem dX6_invertMorphism_11 : decode cX6_invertMorphism 11 = .ok (.aload_n 2, 1) := by decide +kernel
theorem dX6_invertMorphism_12 : decode cX6_invertMorphism 12 = .ok (.aload_n 0, 1) := by decide +kernel
theorem dX6_invertMorphism_13 : decode cX6_invertMorphism 13 = .ok (.getfield 38, 3) := by decide +kernel
theorem dX6_invertMorphism_16 : decode cX6_invertMorphism 16 = .ok (.getfield 96, 3) := by decide +kernel
theorem dX6_invertMorphism_19 : decode cX6_invertMorphism 19 = .ok (.invokevirtual 120, 3) := by decide +kernel
theorem dX6_invertMorphism_22 : decode cX6_invertMorphism 22 = .ok (.astore_n 3, 1) := by decide +kernel
theorem dX6_invertMorphism_23 : decode cX6_invertMorphism 23 = .ok (.aload_n 3, 1) := by decide +kernel
theorem dX6_invertMorphism_24 : decode cX6_invertMorphism 24 = .ok (.ifnonnull 6, 3) := by decide +kernel
theorem dX6_invertMorphism_27 : decode cX6_invertMorphism 27 = .ok (.bipush (-3), 2) := by decide +kernel
theorem dX6_invertMorphism_29 : decode cX6_invertMorphism 29 = .ok (.ireturn, 1) := by decide +kernel
theorem dX6_invertMorphism_30 : decode cX6_invertMorphism 30 = .ok (.aload_n 0, 1) := by decide +kernel
theorem dX6_invertMorphism_31 : decode cX6_invertMorphism 31 = .ok (.aload_n 3, 1) := by decide +kernel
theorem dX6_invertMorphism_32 : decode cX6_invertMorphism 32 = .ok (.invokevirtual 81, 3) := by decide +kernel
theorem dX6_invertMorphism_35 : decode cX6_invertMorphism 35 = .ok (.aload_n 3, 1) := by decide +kernel
theorem dX6_invertMorphism_36 : decode cX6_invertMorphism 36 = .ok (.getfield 93, 3) := by decide +kernel
theorem dX6_invertMorphism_39 : decode cX6_invertMorphism 39 = .ok (.ireturn, 1) := by decide +kernel
set_option maxRecDepth 20000 in
theorem ggX6_undo_X1_takeLatest : GoodIn wsX6_undo wsX1_takeLatest := goodIn_r _ [7, 8, 9, 10, 14, 15, 16] (by decide +kernel) (by decide +kernel)
set_option maxRecDepth 20000 in
theorem gX6_undo_X1_takeLatest : GoodIn wsX6_undo (wsV RX6 123 RX1 yX1_takeLatest wsX1_takeLatest) := goodIn_app (goodIn_of _ (by decide +kernel)) ggX6_undo_X1_takeLatest
theorem dX6_undo_0 : decode cX6_undo 0 = .ok (.aload_n 0, 1) := by decide +kernel
theorem dX6_undo_1 : decode cX6_undo 1 = .ok (.getfield 10, 3) := by decide +kernel
theorem dX6_undo_4 : decode cX6_undo 4 = .ok (.invokevirtual 123, 3) := by decide +kernel
theorem dX6_undo_7 : decode cX6_undo 7 = .ok (.astore_n 1, 1) := by decide +kernel
theorem dX6_undo_8 : decode cX6_undo 8 = .ok (.aload_n 1, 1) := by decide +kernel
theorem dX6_undo_9 : decode cX6_undo 9 = .ok (.ifnonnull 6, 3) := by decide +kernel
theorem dX6_undo_12 : decode cX6_undo 12 = .ok (.bipush (-3), 2) := by decide +kernel
theorem dX6_undo_14 : decode cX6_undo 14 = .ok (.ireturn, 1) := by decide +kernel
theorem dX6_undo_15 : decode cX6_undo 15 = .ok (.aload_n 0, 1) := by decide +kernel
theorem dX6_undo_16 : decode cX6_undo 16 = .ok (.aload_n 1, 1) := by decide +kernel
theorem dX6_undo_17 : decode cX6_undo 17 = .ok (.putfield 38, 3) := by decide +kernel
theorem dX6_undo_20 : decode cX6_undo 20 = .ok (.aload_n 0, 1) := by decide +kernel
theorem dX6_undo_21 : decode cX6_undo 21 = .ok (.getfield 10, 3) := by decide +kernel
theorem dX6_undo_24 : decode cX6_undo 24 = .ok (.getfield 127, 3) := by decide +kernel
theorem dX6_undo_27 : decode cX6_undo 27 = .ok (.ireturn, 1) := by decide +kernel
theorem dX6_length_0 : decode cX6_length 0 = .ok (.aload_n 0, 1) := by decide +kernel
theorem dX6_length_1 : decode cX6_length 1 = .ok (.getfield 38, 3) := by decide +kernel
theorem dX6_length_4 : decode cX6_length 4 = .ok (.getfield 96, 3) := by decide +kernel
theorem dX6_length_7 : decode cX6_length 7 = .ok (.getfield 93, 3) := by decide +kernel
theorem dX6_length_10 : decode cX6_length 10 = .ok (.ireturn, 1) := by decide +kernel
set_option maxRecDepth 20000 in
theorem ggX6_weight_X5_ones : GoodIn wsX6_weight wsX5_ones := goodIn_r _ [6, 7, 8, 9, 10, 11, 12, 13, 14, 20, 21] (by decide +kernel) (by decide +kernel)
set_option maxRecDepth 20000 in
theorem gX6_weight_X5_ones : GoodIn wsX6_weight (wsV RX6 85 RX5 yX5_ones wsX5_ones) := goodIn_app (goodIn_of _ (by decide +kernel)) ggX6_weight_X5_ones
theorem dX6_weight_0 : decode cX6_weight 0 = .ok (.aload_n 0, 1) := by decide +kernel
theorem dX6_weight_1 : decode cX6_weight 1 = .ok (.getfield 38, 3) := by decide +kernel
theorem dX6_weight_4 : decode cX6_weight 4 = .ok (.getfield 96, 3) := by decide +kernel
theorem dX6_weight_7 : decode cX6_weight 7 = .ok (.invokevirtual 85, 3) := by decide +kernel
theorem dX6_weight_10 : decode cX6_weight 10 = .ok (.ireturn, 1) := by decide +kernel
set_option maxRecDepth 20000 in
theorem ggX6_letterAt_X5_letter : GoodIn wsX6_letterAt wsX5_letter := goodIn_r _ [6, 7, 8, 9, 5, 10, 11, 12, 18, 19] (by decide +kernel) (by decide +kernel)
set_option maxRecDepth 20000 in
theorem gX6_letterAt_X5_letter : GoodIn wsX6_letterAt (wsV RX6 104 RX5 yX5_letter wsX5_letter) := goodIn_app (goodIn_of _ (by decide +kernel)) ggX6_letterAt_X5_letter
theorem dX6_letterAt_0 : decode cX6_letterAt 0 = .ok (.iload_n 1, 1) := by decide +kernel
theorem dX6_letterAt_1 : decode cX6_letterAt 1 = .ok (.ifCond .ge 5, 3) := by decide +kernel
theorem dX6_letterAt_4 : decode cX6_letterAt 4 = .ok (.iconst (-1), 1) := by decide +kernel
theorem dX6_letterAt_5 : decode cX6_letterAt 5 = .ok (.ireturn, 1) := by decide +kernel
theorem dX6_letterAt_6 : decode cX6_letterAt 6 = .ok (.iload_n 1, 1) := by decide +kernel
theorem dX6_letterAt_7 : decode cX6_letterAt 7 = .ok (.aload_n 0, 1) := by decide +kernel
theorem dX6_letterAt_8 : decode cX6_letterAt 8 = .ok (.getfield 38, 3) := by decide +kernel
theorem dX6_letterAt_11 : decode cX6_letterAt 11 = .ok (.getfield 96, 3) := by decide +kernel
theorem dX6_letterAt_14 : decode cX6_letterAt 14 = .ok (.getfield 93, 3) := by decide +kernel
theorem dX6_letterAt_17 : decode cX6_letterAt 17 = .ok (.if_icmp .ge 17, 3) := by decide +kernel
theorem dX6_letterAt_20 : decode cX6_letterAt 20 = .ok (.aload_n 0, 1) := by decide +kernel
theorem dX6_letterAt_21 : decode cX6_letterAt 21 = .ok (.getfield 38, 3) := by decide +kernel
theorem dX6_letterAt_24 : decode cX6_letterAt 24 = .ok (.getfield 96, 3) := by decide +kernel
theorem dX6_letterAt_27 : decode cX6_letterAt 27 = .ok (.iload_n 1, 1) := by decide +kernel
theorem dX6_letterAt_28 : decode cX6_letterAt 28 = .ok (.invokevirtual 104, 3) := by decide +kernel
theorem dX6_letterAt_31 : decode cX6_letterAt 31 = .ok (.goto 5, 3) := by decide +kernel
theorem dX6_letterAt_34 : decode cX6_letterAt 34 = .ok (.bipush (-3), 2) := by decide +kernel
theorem dX6_letterAt_36 : decode cX6_letterAt 36 = .ok (.ireturn, 1) := by decide +kernel
set_option maxRecDepth 20000 in
theorem ggX6_factorCount_X5_differentFactors : GoodIn wsX6_factorCount wsX5_differentFactors := goodIn_r _ [6, 7, 8, 9, 10, 5, 11, 12, 13, 14, 15, 16, 22, 23] (by decide +kernel) (by decide +kernel)
set_option maxRecDepth 20000 in
theorem gX6_factorCount_X5_differentFactors : GoodIn wsX6_factorCount (wsV RX6 130 RX5 yX5_differentFactors wsX5_differentFactors) := goodIn_app (goodIn_of _ (by decide +kernel)) ggX6_factorCount_X5_differentFactors
theorem dX6_factorCount_0 : decode cX6_factorCount 0 = .ok (.iload_n 1, 1) := by decide +kernel
theorem dX6_factorCount_1 : decode cX6_factorCount 1 = .ok (.ifCond .ge 7, 3) := by decide +kernel
theorem dX6_factorCount_4 : decode cX6_factorCount 4 = .ok (.iconst (-1), 1) := by decide +kernel
theorem dX6_factorCount_5 : decode cX6_factorCount 5 = .ok (.goto 14, 3) := by decide +kernel
theorem dX6_factorCount_8 : decode cX6_factorCount 8 = .ok (.aload_n 0, 1) := by decide +kernel
theorem dX6_factorCount_9 : decode cX6_factorCount 9 = .ok (.getfield 38, 3) := by decide +kernel
theorem dX6_factorCount_12 : decode cX6_factorCount 12 = .ok (.getfield 96, 3) := by decide +kernel
theorem dX6_factorCount_15 : decode cX6_factorCount 15 = .ok (.iload_n 1, 1) := by decide +kernel
theorem dX6_factorCount_16 : decode cX6_factorCount 16 = .ok (.invokevirtual 130, 3) := by decide +kernel
theorem dX6_factorCount_19 : decode cX6_factorCount 19 = .ok (.ireturn, 1) := by decide +kernel
set_option maxRecDepth 20000 in
theorem ggX6_factorAt_X5_listedFactor : GoodIn wsX6_factorAt wsX5_listedFactor := goodIn_r _ [7, 8, 9, 10, 11, 12, 6, 13, 14, 15, 16, 17, 18, 24, 25] (by decide +kernel) (by decide +kernel)
set_option maxRecDepth 20000 in
theorem gX6_factorAt_X5_listedFactor : GoodIn wsX6_factorAt (wsV RX6 133 RX5 yX5_listedFactor wsX5_listedFactor) := goodIn_app (goodIn_of _ (by decide +kernel)) ggX6_factorAt_X5_listedFactor
theorem dX6_factorAt_0 : decode cX6_factorAt 0 = .ok (.iload_n 1, 1) := by decide +kernel
theorem dX6_factorAt_1 : decode cX6_factorAt 1 = .ok (.iconst 1, 1) := by decide +kernel
theorem dX6_factorAt_2 : decode cX6_factorAt 2 = .ok (.if_icmp .lt 13, 3) := by decide +kernel
theorem dX6_factorAt_5 : decode cX6_factorAt 5 = .ok (.iload_n 1, 1) := by decide +kernel
theorem dX6_factorAt_6 : decode cX6_factorAt 6 = .ok (.bipush 30, 2) := by decide +kernel
theorem dX6_factorAt_8 : decode cX6_factorAt 8 = .ok (.if_icmp .gt 7, 3) := by decide +kernel
theorem dX6_factorAt_11 : decode cX6_factorAt 11 = .ok (.iload_n 2, 1) := by decide +kernel
theorem dX6_factorAt_12 : decode cX6_factorAt 12 = .ok (.ifCond .ge 5, 3) := by decide +kernel
theorem dX6_factorAt_15 : decode cX6_factorAt 15 = .ok (.iconst (-1), 1) := by decide +kernel
theorem dX6_factorAt_16 : decode cX6_factorAt 16 = .ok (.ireturn, 1) := by decide +kernel
theorem dX6_factorAt_17 : decode cX6_factorAt 17 = .ok (.aload_n 0, 1) := by decide +kernel
theorem dX6_factorAt_18 : decode cX6_factorAt 18 = .ok (.getfield 38, 3) := by decide +kernel
theorem dX6_factorAt_21 : decode cX6_factorAt 21 = .ok (.getfield 96, 3) := by decide +kernel
theorem dX6_factorAt_24 : decode cX6_factorAt 24 = .ok (.iload_n 1, 1) := by decide +kernel
theorem dX6_factorAt_25 : decode cX6_factorAt 25 = .ok (.iload_n 2, 1) := by decide +kernel
theorem dX6_factorAt_26 : decode cX6_factorAt 26 = .ok (.invokevirtual 133, 3) := by decide +kernel
theorem dX6_factorAt_29 : decode cX6_factorAt 29 = .ok (.lstore_n 3, 1) := by decide +kernel
theorem dX6_factorAt_30 : decode cX6_factorAt 30 = .ok (.lload_n 3, 1) := by decide +kernel
theorem dX6_factorAt_31 : decode cX6_factorAt 31 = .ok (.ldc2_w 137, 3) := by decide +kernel
theorem dX6_factorAt_34 : decode cX6_factorAt 34 = .ok (.lcmp, 1) := by decide +kernel
theorem dX6_factorAt_35 : decode cX6_factorAt 35 = .ok (.ifCond .ne 8, 3) := by decide +kernel
theorem dX6_factorAt_38 : decode cX6_factorAt 38 = .ok (.bipush (-3), 2) := by decide +kernel
theorem dX6_factorAt_40 : decode cX6_factorAt 40 = .ok (.goto 5, 3) := by decide +kernel
theorem dX6_factorAt_43 : decode cX6_factorAt 43 = .ok (.lload_n 3, 1) := by decide +kernel
theorem dX6_factorAt_44 : decode cX6_factorAt 44 = .ok (.l2i, 1) := by decide +kernel
theorem dX6_factorAt_45 : decode cX6_factorAt 45 = .ok (.ireturn, 1) := by decide +kernel
set_option maxRecDepth 20000 in
theorem ggX6_unbalancedLength_X5_weightSpread : GoodIn wsX6_unbalancedLength wsX5_weightSpread := goodIn_r _ [6, 7, 8, 9, 10, 11, 12, 13, 14, 15, 16, 17, 5, 18, 19, 20, 21, 22, 23, 24, 25, 26, 32, 33] (by decide +kernel) (by decide +kernel)
set_option maxRecDepth 20000 in
theorem gX6_unbalancedLength_X5_weightSpread : GoodIn wsX6_unbalancedLength (wsV RX6 139 RX5 yX5_weightSpread wsX5_weightSpread) := goodIn_app (goodIn_of _ (by decide +kernel)) ggX6_unbalancedLength_X5_weightSpread
theorem dX6_unbalancedLength_0 : decode cX6_unbalancedLength 0 = .ok (.aload_n 0, 1) := by decide +kernel
theorem dX6_unbalancedLength_1 : decode cX6_unbalancedLength 1 = .ok (.getfield 38, 3) := by decide +kernel
theorem dX6_unbalancedLength_4 : decode cX6_unbalancedLength 4 = .ok (.getfield 96, 3) := by decide +kernel
theorem dX6_unbalancedLength_7 : decode cX6_unbalancedLength 7 = .ok (.astore_n 1, 1) := by decide +kernel
theorem dX6_unbalancedLength_8 : decode cX6_unbalancedLength 8 = .ok (.iconst 1, 1) := by decide +kernel
theorem dX6_unbalancedLength_9 : decode cX6_unbalancedLength 9 = .ok (.istore_n 2, 1) := by decide +kernel
theorem dX6_unbalancedLength_10 : decode cX6_unbalancedLength 10 = .ok (.iload_n 2, 1) := by decide +kernel
theorem dX6_unbalancedLength_11 : decode cX6_unbalancedLength 11 = .ok (.aload_n 1, 1) := by decide +kernel
theorem dX6_unbalancedLength_12 : decode cX6_unbalancedLength 12 = .ok (.getfield 93, 3) := by decide +kernel
theorem dX6_unbalancedLength_15 : decode cX6_unbalancedLength 15 = .ok (.if_icmp .gt 20, 3) := by decide +kernel
theorem dX6_unbalancedLength_18 : decode cX6_unbalancedLength 18 = .ok (.aload_n 1, 1) := by decide +kernel
theorem dX6_unbalancedLength_19 : decode cX6_unbalancedLength 19 = .ok (.iload_n 2, 1) := by decide +kernel
theorem dX6_unbalancedLength_20 : decode cX6_unbalancedLength 20 = .ok (.invokevirtual 139, 3) := by decide +kernel
theorem dX6_unbalancedLength_23 : decode cX6_unbalancedLength 23 = .ok (.iconst 2, 1) := by decide +kernel
theorem dX6_unbalancedLength_24 : decode cX6_unbalancedLength 24 = .ok (.if_icmp .lt 5, 3) := by decide +kernel
theorem dX6_unbalancedLength_27 : decode cX6_unbalancedLength 27 = .ok (.iload_n 2, 1) := by decide +kernel
theorem dX6_unbalancedLength_28 : decode cX6_unbalancedLength 28 = .ok (.ireturn, 1) := by decide +kernel
theorem dX6_unbalancedLength_29 : decode cX6_unbalancedLength 29 = .ok (.iinc 2 1, 3) := by decide +kernel
theorem dX6_unbalancedLength_32 : decode cX6_unbalancedLength 32 = .ok (.goto (-22), 3) := by decide +kernel
theorem dX6_unbalancedLength_35 : decode cX6_unbalancedLength 35 = .ok (.bipush (-3), 2) := by decide +kernel
theorem dX6_unbalancedLength_37 : decode cX6_unbalancedLength 37 = .ok (.ireturn, 1) := by decide +kernel
set_option maxRecDepth 20000 in
theorem ggX6_palindromeCount_X5_differentPalindromes : GoodIn wsX6_palindromeCount wsX5_differentPalindromes := goodIn_r _ [6, 7, 8, 9, 10, 5, 11, 12, 13, 14, 15, 16, 17, 18, 19, 20, 21, 22, 23, 24, 25, 26, 27, 28, 29, 30, 31, 32, 38, 39] (by decide +kernel) (by decide +kernel)
set_option maxRecDepth 20000 in
theorem gX6_palindromeCount_X5_differentPalindromes : GoodIn wsX6_palindromeCount (wsV RX6 142 RX5 yX5_differentPalindromes wsX5_differentPalindromes) := goodIn_app (goodIn_of _ (by decide +kernel)) ggX6_palindromeCount_X5_differentPalindromes
theorem dX6_palindromeCount_0 : decode cX6_palindromeCount 0 = .ok (.aload_n 0, 1) := by decide +kernel
theorem dX6_palindromeCount_1 : decode cX6_palindromeCount 1 = .ok (.getfield 38, 3) := by decide +kernel
theorem dX6_palindromeCount_4 : decode cX6_palindromeCount 4 = .ok (.getfield 96, 3) := by decide +kernel
theorem dX6_palindromeCount_7 : decode cX6_palindromeCount 7 = .ok (.invokevirtual 142, 3) := by decide +kernel
theorem dX6_palindromeCount_10 : decode cX6_palindromeCount 10 = .ok (.ireturn, 1) := by decide +kernel
set_option maxRecDepth 20000 in
theorem ggX6_longestPalindromicPrefix_X5_reversed : GoodIn wsX6_longestPalindromicPrefix wsX5_reversed := goodIn_r _ [6, 7, 8, 9, 10, 5, 11, 12, 13, 14, 15, 16, 30, 31] (by decide +kernel) (by decide +kernel)
set_option maxRecDepth 20000 in
theorem gX6_longestPalindromicPrefix_X5_reversed : GoodIn wsX6_longestPalindromicPrefix (wsV RX6 106 RX5 yX5_reversed wsX5_reversed) := goodIn_app (goodIn_of _ (by decide +kernel)) ggX6_longestPalindromicPrefix_X5_reversed
set_option maxRecDepth 20000 in
theorem ggX6_longestPalindromicPrefix_X5_isPalindrome : GoodIn wsX6_longestPalindromicPrefix wsX5_isPalindrome := goodIn_r _ [20, 7, 21, 22, 23, 5, 24, 8, 30, 31] (by decide +kernel) (by decide +kernel)
set_option maxRecDepth 20000 in
theorem gX6_longestPalindromicPrefix_X5_isPalindrome : GoodIn wsX6_longestPalindromicPrefix (wsV RX6 145 RX5 yX5_isPalindrome wsX5_isPalindrome) := goodIn_app (goodIn_of _ (by decide +kernel)) ggX6_longestPalindromicPrefix_X5_isPalindrome
theorem dX6_longestPalindromicPrefix_0 : decode cX6_longestPalindromicPrefix 0 = .ok (.aload_n 0, 1) := by decide +kernel
theorem dX6_longestPalindromicPrefix_1 : decode cX6_longestPalindromicPrefix 1 = .ok (.getfield 38, 3) := by decide +kernel
theorem dX6_longestPalindromicPrefix_4 : decode cX6_longestPalindromicPrefix 4 = .ok (.getfield 96, 3) := by decide +kernel
theorem dX6_longestPalindromicPrefix_7 : decode cX6_longestPalindromicPrefix 7 = .ok (.astore_n 1, 1) := by decide +kernel
theorem dX6_longestPalindromicPrefix_8 : decode cX6_longestPalindromicPrefix 8 = .ok (.aload_n 1, 1) := by decide +kernel
theorem dX6_longestPalindromicPrefix_9 : decode cX6_longestPalindromicPrefix 9 = .ok (.invokevirtual 106, 3) := by decide +kernel
theorem dX6_longestPalindromicPrefix_12 : decode cX6_longestPalindromicPrefix 12 = .ok (.astore_n 2, 1) := by decide +kernel
theorem dX6_longestPalindromicPrefix_13 : decode cX6_longestPalindromicPrefix 13 = .ok (.aload_n 1, 1) := by decide +kernel
theorem dX6_longestPalindromicPrefix_14 : decode cX6_longestPalindromicPrefix 14 = .ok (.getfield 93, 3) := by decide +kernel
theorem dX6_longestPalindromicPrefix_17 : decode cX6_longestPalindromicPrefix 17 = .ok (.istore_n 3, 1) := by decide +kernel
theorem dX6_longestPalindromicPrefix_18 : decode cX6_longestPalindromicPrefix 18 = .ok (.iload_n 3, 1) := by decide +kernel
theorem dX6_longestPalindromicPrefix_19 : decode cX6_longestPalindromicPrefix 19 = .ok (.ifCond .le 21, 3) := by decide +kernel
theorem dX6_longestPalindromicPrefix_22 : decode cX6_longestPalindromicPrefix 22 = .ok (.aload_n 1, 1) := by decide +kernel
theorem dX6_longestPalindromicPrefix_23 : decode cX6_longestPalindromicPrefix 23 = .ok (.iconst 0, 1) := by decide +kernel
theorem dX6_longestPalindromicPrefix_24 : decode cX6_longestPalindromicPrefix 24 = .ok (.iload_n 3, 1) := by decide +kernel
theorem dX6_longestPalindromicPrefix_25 : decode cX6_longestPalindromicPrefix 25 = .ok (.aload_n 2, 1) := by decide +kernel
theorem dX6_longestPalindromicPrefix_26 : decode cX6_longestPalindromicPrefix 26 = .ok (.invokevirtual 145, 3) := by decide +kernel
theorem dX6_longestPalindromicPrefix_29 : decode cX6_longestPalindromicPrefix 29 = .ok (.ifCond .eq 5, 3) := by decide +kernel
theorem dX6_longestPalindromicPrefix_32 : decode cX6_longestPalindromicPrefix 32 = .ok (.iload_n 3, 1) := by decide +kernel
theorem dX6_longestPalindromicPrefix_33 : decode cX6_longestPalindromicPrefix 33 = .ok (.ireturn, 1) := by decide +kernel
theorem dX6_longestPalindromicPrefix_34 : decode cX6_longestPalindromicPrefix 34 = .ok (.iinc 3 (-1), 3) := by decide +kernel
theorem dX6_longestPalindromicPrefix_37 : decode cX6_longestPalindromicPrefix 37 = .ok (.goto (-19), 3) := by decide +kernel
theorem dX6_longestPalindromicPrefix_40 : decode cX6_longestPalindromicPrefix 40 = .ok (.iconst 0, 1) := by decide +kernel
theorem dX6_longestPalindromicPrefix_41 : decode cX6_longestPalindromicPrefix 41 = .ok (.ireturn, 1) := by decide +kernel
set_option maxRecDepth 20000 in
theorem ggX6_leastPeriod_X5_hasPeriod : GoodIn wsX6_leastPeriod wsX5_hasPeriod := goodIn_r _ [6, 7, 8, 9, 10, 5, 11, 12, 18, 19] (by decide +kernel) (by decide +kernel)
set_option maxRecDepth 20000 in
theorem gX6_leastPeriod_X5_hasPeriod : GoodIn wsX6_leastPeriod (wsV RX6 149 RX5 yX5_hasPeriod wsX5_hasPeriod) := goodIn_app (goodIn_of _ (by decide +kernel)) ggX6_leastPeriod_X5_hasPeriod
theorem dX6_leastPeriod_0 : decode cX6_leastPeriod 0 = .ok (.aload_n 0, 1) := by decide +kernel
theorem dX6_leastPeriod_1 : decode cX6_leastPeriod 1 = .ok (.getfield 38, 3) := by decide +kernel
theorem dX6_leastPeriod_4 : decode cX6_leastPeriod 4 = .ok (.getfield 96, 3) := by decide +kernel
theorem dX6_leastPeriod_7 : decode cX6_leastPeriod 7 = .ok (.astore_n 1, 1) := by decide +kernel
theorem dX6_leastPeriod_8 : decode cX6_leastPeriod 8 = .ok (.iconst 1, 1) := by decide +kernel
theorem dX6_leastPeriod_9 : decode cX6_leastPeriod 9 = .ok (.istore_n 2, 1) := by decide +kernel
theorem dX6_leastPeriod_10 : decode cX6_leastPeriod 10 = .ok (.iload_n 2, 1) := by decide +kernel
theorem dX6_leastPeriod_11 : decode cX6_leastPeriod 11 = .ok (.aload_n 1, 1) := by decide +kernel
theorem dX6_leastPeriod_12 : decode cX6_leastPeriod 12 = .ok (.getfield 93, 3) := by decide +kernel
theorem dX6_leastPeriod_15 : decode cX6_leastPeriod 15 = .ok (.if_icmp .gt 19, 3) := by decide +kernel
theorem dX6_leastPeriod_18 : decode cX6_leastPeriod 18 = .ok (.aload_n 1, 1) := by decide +kernel
theorem dX6_leastPeriod_19 : decode cX6_leastPeriod 19 = .ok (.iload_n 2, 1) := by decide +kernel
theorem dX6_leastPeriod_20 : decode cX6_leastPeriod 20 = .ok (.invokevirtual 149, 3) := by decide +kernel
theorem dX6_leastPeriod_23 : decode cX6_leastPeriod 23 = .ok (.ifCond .eq 5, 3) := by decide +kernel
theorem dX6_leastPeriod_26 : decode cX6_leastPeriod 26 = .ok (.iload_n 2, 1) := by decide +kernel
theorem dX6_leastPeriod_27 : decode cX6_leastPeriod 27 = .ok (.ireturn, 1) := by decide +kernel
theorem dX6_leastPeriod_28 : decode cX6_leastPeriod 28 = .ok (.iinc 2 1, 3) := by decide +kernel
theorem dX6_leastPeriod_31 : decode cX6_leastPeriod 31 = .ok (.goto (-21), 3) := by decide +kernel
theorem dX6_leastPeriod_34 : decode cX6_leastPeriod 34 = .ok (.bipush (-3), 2) := by decide +kernel
theorem dX6_leastPeriod_36 : decode cX6_leastPeriod 36 = .ok (.ireturn, 1) := by decide +kernel
set_option maxRecDepth 20000 in
theorem ggX6_isCentral_X5_hasPeriod : GoodIn wsX6_isCentral wsX5_hasPeriod := goodIn_r _ [6, 7, 8, 9, 10, 5, 11, 12, 25, 26] (by decide +kernel) (by decide +kernel)
set_option maxRecDepth 20000 in
theorem gX6_isCentral_X5_hasPeriod : GoodIn wsX6_isCentral (wsV RX6 149 RX5 yX5_hasPeriod wsX5_hasPeriod) := goodIn_app (goodIn_of _ (by decide +kernel)) ggX6_isCentral_X5_hasPeriod
set_option maxRecDepth 20000 in
theorem ggX6_isCentral_X6_commonDivisor : GoodIn wsX6_isCentral wsX6_commonDivisor := goodIn_r _ [16, 17, 18, 15, 19] (by decide +kernel) (by decide +kernel)
set_option maxRecDepth 20000 in
theorem gX6_isCentral_X6_commonDivisor : GoodIn wsX6_isCentral (va_wsS RX6 42 yX6_commonDivisor wsX6_commonDivisor) := goodIn_app (goodIn_of _ (by decide +kernel)) ggX6_isCentral_X6_commonDivisor
theorem dX6_isCentral_0 : decode cX6_isCentral 0 = .ok (.aload_n 0, 1) := by decide +kernel
theorem dX6_isCentral_1 : decode cX6_isCentral 1 = .ok (.getfield 38, 3) := by decide +kernel
theorem dX6_isCentral_4 : decode cX6_isCentral 4 = .ok (.getfield 96, 3) := by decide +kernel
theorem dX6_isCentral_7 : decode cX6_isCentral 7 = .ok (.astore_n 1, 1) := by decide +kernel
theorem dX6_isCentral_8 : decode cX6_isCentral 8 = .ok (.aload_n 1, 1) := by decide +kernel
theorem dX6_isCentral_9 : decode cX6_isCentral 9 = .ok (.getfield 93, 3) := by decide +kernel
theorem dX6_isCentral_12 : decode cX6_isCentral 12 = .ok (.iconst 2, 1) := by decide +kernel
theorem dX6_isCentral_13 : decode cX6_isCentral 13 = .ok (.iadd, 1) := by decide +kernel
theorem dX6_isCentral_14 : decode cX6_isCentral 14 = .ok (.istore_n 2, 1) := by decide +kernel
theorem dX6_isCentral_15 : decode cX6_isCentral 15 = .ok (.iconst 1, 1) := by decide +kernel
theorem dX6_isCentral_16 : decode cX6_isCentral 16 = .ok (.istore_n 3, 1) := by decide +kernel
theorem dX6_isCentral_17 : decode cX6_isCentral 17 = .ok (.iload_n 3, 1) := by decide +kernel
theorem dX6_isCentral_18 : decode cX6_isCentral 18 = .ok (.iload_n 2, 1) := by decide +kernel
theorem dX6_isCentral_19 : decode cX6_isCentral 19 = .ok (.if_icmp .ge 43, 3) := by decide +kernel
theorem dX6_isCentral_22 : decode cX6_isCentral 22 = .ok (.iload_n 2, 1) := by decide +kernel
theorem dX6_isCentral_23 : decode cX6_isCentral 23 = .ok (.iload_n 3, 1) := by decide +kernel
theorem dX6_isCentral_24 : decode cX6_isCentral 24 = .ok (.isub, 1) := by decide +kernel
theorem dX6_isCentral_25 : decode cX6_isCentral 25 = .ok (.istore 4, 2) := by decide +kernel
theorem dX6_isCentral_27 : decode cX6_isCentral 27 = .ok (.aload_n 1, 1) := by decide +kernel
theorem dX6_isCentral_28 : decode cX6_isCentral 28 = .ok (.iload_n 3, 1) := by decide +kernel
theorem dX6_isCentral_29 : decode cX6_isCentral 29 = .ok (.invokevirtual 149, 3) := by decide +kernel
theorem dX6_isCentral_32 : decode cX6_isCentral 32 = .ok (.ifCond .eq 24, 3) := by decide +kernel
theorem dX6_isCentral_35 : decode cX6_isCentral 35 = .ok (.aload_n 1, 1) := by decide +kernel
theorem dX6_isCentral_36 : decode cX6_isCentral 36 = .ok (.iload 4, 2) := by decide +kernel
theorem dX6_isCentral_38 : decode cX6_isCentral 38 = .ok (.invokevirtual 149, 3) := by decide +kernel
theorem dX6_isCentral_41 : decode cX6_isCentral 41 = .ok (.ifCond .eq 15, 3) := by decide +kernel
theorem dX6_isCentral_44 : decode cX6_isCentral 44 = .ok (.iload_n 3, 1) := by decide +kernel
theorem dX6_isCentral_45 : decode cX6_isCentral 45 = .ok (.iload 4, 2) := by decide +kernel
theorem dX6_isCentral_47 : decode cX6_isCentral 47 = .ok (.invokestatic 42, 3) := by decide +kernel
theorem dX6_isCentral_50 : decode cX6_isCentral 50 = .ok (.iconst 1, 1) := by decide +kernel
theorem dX6_isCentral_51 : decode cX6_isCentral 51 = .ok (.if_icmp .ne 5, 3) := by decide +kernel
theorem dX6_isCentral_54 : decode cX6_isCentral 54 = .ok (.iconst 1, 1) := by decide +kernel
theorem dX6_isCentral_55 : decode cX6_isCentral 55 = .ok (.ireturn, 1) := by decide +kernel
theorem dX6_isCentral_56 : decode cX6_isCentral 56 = .ok (.iinc 3 1, 3) := by decide +kernel
theorem dX6_isCentral_59 : decode cX6_isCentral 59 = .ok (.goto (-42), 3) := by decide +kernel
theorem dX6_isCentral_62 : decode cX6_isCentral 62 = .ok (.iconst 0, 1) := by decide +kernel
theorem dX6_isCentral_63 : decode cX6_isCentral 63 = .ok (.ireturn, 1) := by decide +kernel
set_option maxRecDepth 20000 in
theorem ggX6_simplestSlope_X5_simplest : GoodIn wsX6_simplestSlope wsX5_simplest := goodIn_r _ [6, 7, 8, 9, 10, 11, 12, 5, 13, 14, 15, 16, 17, 18, 19, 20, 21, 22, 23, 24, 25, 26, 27, 28, 29, 30, 31, 32, 33, 34, 35, 36, 37, 38, 39, 40, 41, 42, 43, 44, 45, 51, 52, 53, 54, 55] (by decide +kernel) (by decide +kernel)
set_option maxRecDepth 20000 in
theorem gX6_simplestSlope_X5_simplest : GoodIn wsX6_simplestSlope (wsV RX6 153 RX5 yX5_simplest wsX5_simplest) := goodIn_app (goodIn_of _ (by decide +kernel)) ggX6_simplestSlope_X5_simplest
theorem dX6_simplestSlope_0 : decode cX6_simplestSlope 0 = .ok (.iload_n 1, 1) := by decide +kernel
theorem dX6_simplestSlope_1 : decode cX6_simplestSlope 1 = .ok (.ifCond .lt 8, 3) := by decide +kernel
theorem dX6_simplestSlope_4 : decode cX6_simplestSlope 4 = .ok (.iload_n 1, 1) := by decide +kernel
theorem dX6_simplestSlope_5 : decode cX6_simplestSlope 5 = .ok (.iconst 2, 1) := by decide +kernel
theorem dX6_simplestSlope_6 : decode cX6_simplestSlope 6 = .ok (.if_icmp .le 5, 3) := by decide +kernel
theorem dX6_simplestSlope_9 : decode cX6_simplestSlope 9 = .ok (.iconst (-1), 1) := by decide +kernel
theorem dX6_simplestSlope_10 : decode cX6_simplestSlope 10 = .ok (.ireturn, 1) := by decide +kernel
theorem dX6_simplestSlope_11 : decode cX6_simplestSlope 11 = .ok (.aload_n 0, 1) := by decide +kernel
theorem dX6_simplestSlope_12 : decode cX6_simplestSlope 12 = .ok (.getfield 38, 3) := by decide +kernel
theorem dX6_simplestSlope_15 : decode cX6_simplestSlope 15 = .ok (.getfield 96, 3) := by decide +kernel
theorem dX6_simplestSlope_18 : decode cX6_simplestSlope 18 = .ok (.invokevirtual 153, 3) := by decide +kernel
theorem dX6_simplestSlope_21 : decode cX6_simplestSlope 21 = .ok (.astore_n 2, 1) := by decide +kernel
theorem dX6_simplestSlope_22 : decode cX6_simplestSlope 22 = .ok (.aload_n 2, 1) := by decide +kernel
theorem dX6_simplestSlope_23 : decode cX6_simplestSlope 23 = .ok (.ifnonnull 6, 3) := by decide +kernel
theorem dX6_simplestSlope_26 : decode cX6_simplestSlope 26 = .ok (.bipush (-3), 2) := by decide +kernel
theorem dX6_simplestSlope_28 : decode cX6_simplestSlope 28 = .ok (.ireturn, 1) := by decide +kernel
theorem dX6_simplestSlope_29 : decode cX6_simplestSlope 29 = .ok (.iload_n 1, 1) := by decide +kernel
theorem dX6_simplestSlope_30 : decode cX6_simplestSlope 30 = .ok (.ifCond .ne 8, 3) := by decide +kernel
theorem dX6_simplestSlope_33 : decode cX6_simplestSlope 33 = .ok (.aload_n 2, 1) := by decide +kernel
theorem dX6_simplestSlope_34 : decode cX6_simplestSlope 34 = .ok (.getfield 62, 3) := by decide +kernel
theorem dX6_simplestSlope_37 : decode cX6_simplestSlope 37 = .ok (.ireturn, 1) := by decide +kernel
theorem dX6_simplestSlope_38 : decode cX6_simplestSlope 38 = .ok (.iload_n 1, 1) := by decide +kernel
theorem dX6_simplestSlope_39 : decode cX6_simplestSlope 39 = .ok (.iconst 1, 1) := by decide +kernel
theorem dX6_simplestSlope_40 : decode cX6_simplestSlope 40 = .ok (.if_icmp .ne 10, 3) := by decide +kernel
theorem dX6_simplestSlope_43 : decode cX6_simplestSlope 43 = .ok (.aload_n 2, 1) := by decide +kernel
theorem dX6_simplestSlope_44 : decode cX6_simplestSlope 44 = .ok (.getfield 58, 3) := by decide +kernel
theorem dX6_simplestSlope_47 : decode cX6_simplestSlope 47 = .ok (.goto 7, 3) := by decide +kernel
theorem dX6_simplestSlope_50 : decode cX6_simplestSlope 50 = .ok (.aload_n 2, 1) := by decide +kernel
theorem dX6_simplestSlope_51 : decode cX6_simplestSlope 51 = .ok (.getfield 65, 3) := by decide +kernel
theorem dX6_simplestSlope_54 : decode cX6_simplestSlope 54 = .ok (.ireturn, 1) := by decide +kernel
set_option maxRecDepth 20000 in
theorem ggX6_gapSizeCount_X0_measure : GoodIn wsX6_gapSizeCount wsX0_measure := goodIn_r _ [7, 8, 9, 10, 11, 6, 12, 13, 14, 15, 16, 17, 18, 19, 20, 21, 22, 23, 24, 25, 35, 36, 37, 38, 39] (by decide +kernel) (by decide +kernel)
set_option maxRecDepth 20000 in
theorem gX6_gapSizeCount_X0_measure : GoodIn wsX6_gapSizeCount (wsV RX6 157 RX0 yX0_measure wsX0_measure) := goodIn_app (goodIn_of _ (by decide +kernel)) ggX6_gapSizeCount_X0_measure
set_option maxRecDepth 20000 in
theorem ggX6_gapSizeCount_X0_differentSizes : GoodIn wsX6_gapSizeCount wsX0_differentSizes := goodIn_r _ [29, 8, 35, 36] (by decide +kernel) (by decide +kernel)
set_option maxRecDepth 20000 in
theorem gX6_gapSizeCount_X0_differentSizes : GoodIn wsX6_gapSizeCount (wsV RX6 161 RX0 yX0_differentSizes wsX0_differentSizes) := goodIn_app (goodIn_of _ (by decide +kernel)) ggX6_gapSizeCount_X0_differentSizes
theorem dX6_gapSizeCount_0 : decode cX6_gapSizeCount 0 = .ok (.iload_n 1, 1) := by decide +kernel
theorem dX6_gapSizeCount_1 : decode cX6_gapSizeCount 1 = .ok (.iconst 1, 1) := by decide +kernel
theorem dX6_gapSizeCount_2 : decode cX6_gapSizeCount 2 = .ok (.if_icmp .lt 10, 3) := by decide +kernel
theorem dX6_gapSizeCount_5 : decode cX6_gapSizeCount 5 = .ok (.iload_n 1, 1) := by decide +kernel
theorem dX6_gapSizeCount_6 : decode cX6_gapSizeCount 6 = .ok (.sipush 1000, 3) := by decide +kernel
theorem dX6_gapSizeCount_9 : decode cX6_gapSizeCount 9 = .ok (.if_icmp .le 5, 3) := by decide +kernel
theorem dX6_gapSizeCount_12 : decode cX6_gapSizeCount 12 = .ok (.iconst (-1), 1) := by decide +kernel
theorem dX6_gapSizeCount_13 : decode cX6_gapSizeCount 13 = .ok (.ireturn, 1) := by decide +kernel
theorem dX6_gapSizeCount_14 : decode cX6_gapSizeCount 14 = .ok (.aload_n 0, 1) := by decide +kernel
theorem dX6_gapSizeCount_15 : decode cX6_gapSizeCount 15 = .ok (.getfield 19, 3) := by decide +kernel
theorem dX6_gapSizeCount_18 : decode cX6_gapSizeCount 18 = .ok (.aload_n 0, 1) := by decide +kernel
theorem dX6_gapSizeCount_19 : decode cX6_gapSizeCount 19 = .ok (.getfield 38, 3) := by decide +kernel
theorem dX6_gapSizeCount_22 : decode cX6_gapSizeCount 22 = .ok (.getfield 54, 3) := by decide +kernel
theorem dX6_gapSizeCount_25 : decode cX6_gapSizeCount 25 = .ok (.iload_n 1, 1) := by decide +kernel
theorem dX6_gapSizeCount_26 : decode cX6_gapSizeCount 26 = .ok (.invokevirtual 157, 3) := by decide +kernel
theorem dX6_gapSizeCount_29 : decode cX6_gapSizeCount 29 = .ok (.aload_n 0, 1) := by decide +kernel
theorem dX6_gapSizeCount_30 : decode cX6_gapSizeCount 30 = .ok (.getfield 19, 3) := by decide +kernel
theorem dX6_gapSizeCount_33 : decode cX6_gapSizeCount 33 = .ok (.invokevirtual 161, 3) := by decide +kernel
theorem dX6_gapSizeCount_36 : decode cX6_gapSizeCount 36 = .ok (.ireturn, 1) := by decide +kernel
set_option maxRecDepth 20000 in
theorem ggX6_gapSize_X0_measure : GoodIn wsX6_gapSize wsX0_measure := goodIn_r _ [7, 8, 9, 10, 11, 6, 12, 13, 14, 15, 16, 17, 18, 19, 20, 21, 22, 23, 24, 25, 35, 36, 37, 38, 39] (by decide +kernel) (by decide +kernel)
set_option maxRecDepth 20000 in
theorem gX6_gapSize_X0_measure : GoodIn wsX6_gapSize (wsV RX6 157 RX0 yX0_measure wsX0_measure) := goodIn_app (goodIn_of _ (by decide +kernel)) ggX6_gapSize_X0_measure
set_option maxRecDepth 20000 in
theorem ggX6_gapSize_X0_listedSize : GoodIn wsX6_gapSize wsX0_listedSize := goodIn_r _ [29, 8, 35, 36] (by decide +kernel) (by decide +kernel)
set_option maxRecDepth 20000 in
theorem gX6_gapSize_X0_listedSize : GoodIn wsX6_gapSize (wsV RX6 164 RX0 yX0_listedSize wsX0_listedSize) := goodIn_app (goodIn_of _ (by decide +kernel)) ggX6_gapSize_X0_listedSize
theorem dX6_gapSize_0 : decode cX6_gapSize 0 = .ok (.iload_n 1, 1) := by decide +kernel
theorem dX6_gapSize_1 : decode cX6_gapSize 1 = .ok (.iconst 1, 1) := by decide +kernel
theorem dX6_gapSize_2 : decode cX6_gapSize 2 = .ok (.if_icmp .lt 14, 3) := by decide +kernel
theorem dX6_gapSize_5 : decode cX6_gapSize 5 = .ok (.iload_n 1, 1) := by decide +kernel
theorem dX6_gapSize_6 : decode cX6_gapSize 6 = .ok (.sipush 1000, 3) := by decide +kernel
theorem dX6_gapSize_9 : decode cX6_gapSize 9 = .ok (.if_icmp .gt 7, 3) := by decide +kernel
theorem dX6_gapSize_12 : decode cX6_gapSize 12 = .ok (.iload_n 2, 1) := by decide +kernel
theorem dX6_gapSize_13 : decode cX6_gapSize 13 = .ok (.ifCond .ge 5, 3) := by decide +kernel
theorem dX6_gapSize_16 : decode cX6_gapSize 16 = .ok (.iconst (-1), 1) := by decide +kernel
theorem dX6_gapSize_17 : decode cX6_gapSize 17 = .ok (.ireturn, 1) := by decide +kernel
theorem dX6_gapSize_18 : decode cX6_gapSize 18 = .ok (.aload_n 0, 1) := by decide +kernel
theorem dX6_gapSize_19 : decode cX6_gapSize 19 = .ok (.getfield 19, 3) := by decide +kernel
theorem dX6_gapSize_22 : decode cX6_gapSize 22 = .ok (.aload_n 0, 1) := by decide +kernel
theorem dX6_gapSize_23 : decode cX6_gapSize 23 = .ok (.getfield 38, 3) := by decide +kernel
theorem dX6_gapSize_26 : decode cX6_gapSize 26 = .ok (.getfield 54, 3) := by decide +kernel
theorem dX6_gapSize_29 : decode cX6_gapSize 29 = .ok (.iload_n 1, 1) := by decide +kernel
theorem dX6_gapSize_30 : decode cX6_gapSize 30 = .ok (.invokevirtual 157, 3) := by decide +kernel
theorem dX6_gapSize_33 : decode cX6_gapSize 33 = .ok (.aload_n 0, 1) := by decide +kernel
theorem dX6_gapSize_34 : decode cX6_gapSize 34 = .ok (.getfield 19, 3) := by decide +kernel
theorem dX6_gapSize_37 : decode cX6_gapSize 37 = .ok (.iload_n 2, 1) := by decide +kernel
theorem dX6_gapSize_38 : decode cX6_gapSize 38 = .ok (.invokevirtual 164, 3) := by decide +kernel
theorem dX6_gapSize_41 : decode cX6_gapSize 41 = .ok (.istore_n 3, 1) := by decide +kernel
theorem dX6_gapSize_42 : decode cX6_gapSize 42 = .ok (.iload_n 3, 1) := by decide +kernel
theorem dX6_gapSize_43 : decode cX6_gapSize 43 = .ok (.iconst (-1), 1) := by decide +kernel
theorem dX6_gapSize_44 : decode cX6_gapSize 44 = .ok (.if_icmp .ne 8, 3) := by decide +kernel
theorem dX6_gapSize_47 : decode cX6_gapSize 47 = .ok (.bipush (-3), 2) := by decide +kernel
theorem dX6_gapSize_49 : decode cX6_gapSize 49 = .ok (.goto 4, 3) := by decide +kernel
theorem dX6_gapSize_52 : decode cX6_gapSize 52 = .ok (.iload_n 3, 1) := by decide +kernel
theorem dX6_gapSize_53 : decode cX6_gapSize 53 = .ok (.ireturn, 1) := by decide +kernel
set_option maxRecDepth 20000 in
theorem ggX6_gapsOfSize_X0_measure : GoodIn wsX6_gapsOfSize wsX0_measure := goodIn_r _ [7, 8, 9, 10, 11, 6, 12, 13, 14, 15, 16, 17, 18, 19, 20, 21, 22, 23, 24, 25, 35, 36, 37, 38, 39] (by decide +kernel) (by decide +kernel)
set_option maxRecDepth 20000 in
theorem gX6_gapsOfSize_X0_measure : GoodIn wsX6_gapsOfSize (wsV RX6 157 RX0 yX0_measure wsX0_measure) := goodIn_app (goodIn_of _ (by decide +kernel)) ggX6_gapsOfSize_X0_measure
set_option maxRecDepth 20000 in
theorem ggX6_gapsOfSize_X0_gapsWith : GoodIn wsX6_gapsOfSize wsX0_gapsWith := goodIn_r _ [29, 8, 35, 36] (by decide +kernel) (by decide +kernel)
set_option maxRecDepth 20000 in
theorem gX6_gapsOfSize_X0_gapsWith : GoodIn wsX6_gapsOfSize (wsV RX6 167 RX0 yX0_gapsWith wsX0_gapsWith) := goodIn_app (goodIn_of _ (by decide +kernel)) ggX6_gapsOfSize_X0_gapsWith
theorem dX6_gapsOfSize_0 : decode cX6_gapsOfSize 0 = .ok (.iload_n 1, 1) := by decide +kernel
theorem dX6_gapsOfSize_1 : decode cX6_gapsOfSize 1 = .ok (.iconst 1, 1) := by decide +kernel
theorem dX6_gapsOfSize_2 : decode cX6_gapsOfSize 2 = .ok (.if_icmp .lt 15, 3) := by decide +kernel
theorem dX6_gapsOfSize_5 : decode cX6_gapsOfSize 5 = .ok (.iload_n 1, 1) := by decide +kernel
theorem dX6_gapsOfSize_6 : decode cX6_gapsOfSize 6 = .ok (.sipush 1000, 3) := by decide +kernel
theorem dX6_gapsOfSize_9 : decode cX6_gapsOfSize 9 = .ok (.if_icmp .gt 8, 3) := by decide +kernel
theorem dX6_gapsOfSize_12 : decode cX6_gapsOfSize 12 = .ok (.iload_n 2, 1) := by decide +kernel
theorem dX6_gapsOfSize_13 : decode cX6_gapsOfSize 13 = .ok (.iconst 1, 1) := by decide +kernel
theorem dX6_gapsOfSize_14 : decode cX6_gapsOfSize 14 = .ok (.if_icmp .ge 5, 3) := by decide +kernel
theorem dX6_gapsOfSize_17 : decode cX6_gapsOfSize 17 = .ok (.iconst (-1), 1) := by decide +kernel
theorem dX6_gapsOfSize_18 : decode cX6_gapsOfSize 18 = .ok (.ireturn, 1) := by decide +kernel
theorem dX6_gapsOfSize_19 : decode cX6_gapsOfSize 19 = .ok (.aload_n 0, 1) := by decide +kernel
theorem dX6_gapsOfSize_20 : decode cX6_gapsOfSize 20 = .ok (.getfield 19, 3) := by decide +kernel
theorem dX6_gapsOfSize_23 : decode cX6_gapsOfSize 23 = .ok (.aload_n 0, 1) := by decide +kernel
theorem dX6_gapsOfSize_24 : decode cX6_gapsOfSize 24 = .ok (.getfield 38, 3) := by decide +kernel
theorem dX6_gapsOfSize_27 : decode cX6_gapsOfSize 27 = .ok (.getfield 54, 3) := by decide +kernel
theorem dX6_gapsOfSize_30 : decode cX6_gapsOfSize 30 = .ok (.iload_n 1, 1) := by decide +kernel
theorem dX6_gapsOfSize_31 : decode cX6_gapsOfSize 31 = .ok (.invokevirtual 157, 3) := by decide +kernel
theorem dX6_gapsOfSize_34 : decode cX6_gapsOfSize 34 = .ok (.aload_n 0, 1) := by decide +kernel
theorem dX6_gapsOfSize_35 : decode cX6_gapsOfSize 35 = .ok (.getfield 19, 3) := by decide +kernel
theorem dX6_gapsOfSize_38 : decode cX6_gapsOfSize 38 = .ok (.iload_n 2, 1) := by decide +kernel
theorem dX6_gapsOfSize_39 : decode cX6_gapsOfSize 39 = .ok (.invokevirtual 167, 3) := by decide +kernel
theorem dX6_gapsOfSize_42 : decode cX6_gapsOfSize 42 = .ok (.ireturn, 1) := by decide +kernel
theorem dX6_historySize_0 : decode cX6_historySize 0 = .ok (.aload_n 0, 1) := by decide +kernel
theorem dX6_historySize_1 : decode cX6_historySize 1 = .ok (.getfield 10, 3) := by decide +kernel
theorem dX6_historySize_4 : decode cX6_historySize 4 = .ok (.getfield 127, 3) := by decide +kernel
theorem dX6_historySize_7 : decode cX6_historySize 7 = .ok (.ireturn, 1) := by decide +kernel
set_option maxRecDepth 20000 in
theorem ggX6_changeSlope_X1_keep : GoodIn wsX6_changeSlope wsX1_keep := goodIn_r _ [10, 11, 12, 13, 14, 15, 16, 17, 31, 32, 33] (by decide +kernel) (by decide +kernel)
set_option maxRecDepth 20000 in
theorem gX6_changeSlope_X1_keep : GoodIn wsX6_changeSlope (wsV RX6 170 RX1 yX1_keep wsX1_keep) := goodIn_app (goodIn_of _ (by decide +kernel)) ggX6_changeSlope_X1_keep
set_option maxRecDepth 20000 in
theorem ggX6_changeSlope_X4_init : GoodIn wsX6_changeSlope wsX4_init := goodIn_r _ [20, 21, 22, 23, 24, 25, 29, 30] (by decide +kernel) (by decide +kernel)
set_option maxRecDepth 20000 in
theorem gX6_changeSlope_X4_init : GoodIn wsX6_changeSlope (wsX4_init) := ggX6_changeSlope_X4_init
theorem dX6_changeSlope_0 : decode cX6_changeSlope 0 = .ok (.aload_n 0, 1) := by decide +kernel
theorem dX6_changeSlope_1 : decode cX6_changeSlope 1 = .ok (.getfield 10, 3) := by decide +kernel
theorem dX6_changeSlope_4 : decode cX6_changeSlope 4 = .ok (.aload_n 0, 1) := by decide +kernel
theorem dX6_changeSlope_5 : decode cX6_changeSlope 5 = .ok (.getfield 38, 3) := by decide +kernel
theorem dX6_changeSlope_8 : decode cX6_changeSlope 8 = .ok (.invokevirtual 170, 3) := by decide +kernel
theorem dX6_changeSlope_11 : decode cX6_changeSlope 11 = .ok (.aload_n 0, 1) := by decide +kernel
theorem dX6_changeSlope_12 : decode cX6_changeSlope 12 = .ok (.new 23, 3) := by decide +kernel
theorem dX6_changeSlope_15 : decode cX6_changeSlope 15 = .ok (.dup, 1) := by decide +kernel
theorem dX6_changeSlope_16 : decode cX6_changeSlope 16 = .ok (.aload_n 1, 1) := by decide +kernel
theorem dX6_changeSlope_17 : decode cX6_changeSlope 17 = .ok (.aload_n 0, 1) := by decide +kernel
theorem dX6_changeSlope_18 : decode cX6_changeSlope 18 = .ok (.getfield 38, 3) := by decide +kernel
theorem dX6_changeSlope_21 : decode cX6_changeSlope 21 = .ok (.getfield 96, 3) := by decide +kernel
theorem dX6_changeSlope_24 : decode cX6_changeSlope 24 = .ok (.invokespecial 35, 3) := by decide +kernel
theorem dX6_changeSlope_27 : decode cX6_changeSlope 27 = .ok (.putfield 38, 3) := by decide +kernel
theorem dX6_changeSlope_30 : decode cX6_changeSlope 30 = .ok (.return_, 1) := by decide +kernel
set_option maxRecDepth 20000 in
theorem ggX6_changeWord_X1_keep : GoodIn wsX6_changeWord wsX1_keep := goodIn_r _ [10, 11, 12, 13, 14, 15, 16, 17, 31, 32, 33] (by decide +kernel) (by decide +kernel)
set_option maxRecDepth 20000 in
theorem gX6_changeWord_X1_keep : GoodIn wsX6_changeWord (wsV RX6 170 RX1 yX1_keep wsX1_keep) := goodIn_app (goodIn_of _ (by decide +kernel)) ggX6_changeWord_X1_keep
set_option maxRecDepth 20000 in
theorem ggX6_changeWord_X4_init : GoodIn wsX6_changeWord wsX4_init := goodIn_r _ [20, 21, 22, 23, 24, 25, 29, 30] (by decide +kernel) (by decide +kernel)
set_option maxRecDepth 20000 in
theorem gX6_changeWord_X4_init : GoodIn wsX6_changeWord (wsX4_init) := ggX6_changeWord_X4_init
theorem dX6_changeWord_0 : decode cX6_changeWord 0 = .ok (.aload_n 0, 1) := by decide +kernel
theorem dX6_changeWord_1 : decode cX6_changeWord 1 = .ok (.getfield 10, 3) := by decide +kernel
theorem dX6_changeWord_4 : decode cX6_changeWord 4 = .ok (.aload_n 0, 1) := by decide +kernel
theorem dX6_changeWord_5 : decode cX6_changeWord 5 = .ok (.getfield 38, 3) := by decide +kernel
theorem dX6_changeWord_8 : decode cX6_changeWord 8 = .ok (.invokevirtual 170, 3) := by decide +kernel
theorem dX6_changeWord_11 : decode cX6_changeWord 11 = .ok (.aload_n 0, 1) := by decide +kernel
theorem dX6_changeWord_12 : decode cX6_changeWord 12 = .ok (.new 23, 3) := by decide +kernel
theorem dX6_changeWord_15 : decode cX6_changeWord 15 = .ok (.dup, 1) := by decide +kernel
theorem dX6_changeWord_16 : decode cX6_changeWord 16 = .ok (.aload_n 0, 1) := by decide +kernel
theorem dX6_changeWord_17 : decode cX6_changeWord 17 = .ok (.getfield 38, 3) := by decide +kernel
theorem dX6_changeWord_20 : decode cX6_changeWord 20 = .ok (.getfield 54, 3) := by decide +kernel
theorem dX6_changeWord_23 : decode cX6_changeWord 23 = .ok (.aload_n 1, 1) := by decide +kernel
theorem dX6_changeWord_24 : decode cX6_changeWord 24 = .ok (.invokespecial 35, 3) := by decide +kernel
theorem dX6_changeWord_27 : decode cX6_changeWord 27 = .ok (.putfield 38, 3) := by decide +kernel
theorem dX6_changeWord_30 : decode cX6_changeWord 30 = .ok (.return_, 1) := by decide +kernel
theorem dX6_quotient_0 : decode cX6_quotient 0 = .ok (.lload_n 2, 1) := by decide +kernel
theorem dX6_quotient_1 : decode cX6_quotient 1 = .ok (.lconst 1, 1) := by decide +kernel
theorem dX6_quotient_2 : decode cX6_quotient 2 = .ok (.lcmp, 1) := by decide +kernel
theorem dX6_quotient_3 : decode cX6_quotient 3 = .ok (.ifCond .ge 7, 3) := by decide +kernel
theorem dX6_quotient_6 : decode cX6_quotient 6 = .ok (.lconst 0, 1) := by decide +kernel
theorem dX6_quotient_7 : decode cX6_quotient 7 = .ok (.goto 6, 3) := by decide +kernel
theorem dX6_quotient_10 : decode cX6_quotient 10 = .ok (.lload_n 0, 1) := by decide +kernel
theorem dX6_quotient_11 : decode cX6_quotient 11 = .ok (.lload_n 2, 1) := by decide +kernel
theorem dX6_quotient_12 : decode cX6_quotient 12 = .ok (.ldiv, 1) := by decide +kernel
theorem dX6_quotient_13 : decode cX6_quotient 13 = .ok (.lreturn, 1) := by decide +kernel
set_option maxRecDepth 20000 in
theorem ggX6_commonDivisor_X6_quotient : GoodIn wsX6_commonDivisor wsX6_quotient := goodIn_r _ [4] (by decide +kernel) (by decide +kernel)
set_option maxRecDepth 20000 in
theorem gX6_commonDivisor_X6_quotient : GoodIn wsX6_commonDivisor (va_wsS RX6 46 yX6_quotient wsX6_quotient) := goodIn_app (goodIn_of _ (by decide +kernel)) ggX6_commonDivisor_X6_quotient
theorem dX6_commonDivisor_0 : decode cX6_commonDivisor 0 = .ok (.iload_n 1, 1) := by decide +kernel
theorem dX6_commonDivisor_1 : decode cX6_commonDivisor 1 = .ok (.istore_n 2, 1) := by decide +kernel
theorem dX6_commonDivisor_2 : decode cX6_commonDivisor 2 = .ok (.iload_n 0, 1) := by decide +kernel
theorem dX6_commonDivisor_3 : decode cX6_commonDivisor 3 = .ok (.istore_n 3, 1) := by decide +kernel
theorem dX6_commonDivisor_4 : decode cX6_commonDivisor 4 = .ok (.iconst 0, 1) := by decide +kernel
theorem dX6_commonDivisor_5 : decode cX6_commonDivisor 5 = .ok (.istore 4, 2) := by decide +kernel
theorem dX6_commonDivisor_7 : decode cX6_commonDivisor 7 = .ok (.iload 4, 2) := by decide +kernel
theorem dX6_commonDivisor_9 : decode cX6_commonDivisor 9 = .ok (.sipush 1000, 3) := by decide +kernel
theorem dX6_commonDivisor_12 : decode cX6_commonDivisor 12 = .ok (.if_icmp .ge 32, 3) := by decide +kernel
theorem dX6_commonDivisor_15 : decode cX6_commonDivisor 15 = .ok (.iload_n 3, 1) := by decide +kernel
theorem dX6_commonDivisor_16 : decode cX6_commonDivisor 16 = .ok (.ifCond .le 28, 3) := by decide +kernel
theorem dX6_commonDivisor_19 : decode cX6_commonDivisor 19 = .ok (.iload_n 2, 1) := by decide +kernel
theorem dX6_commonDivisor_20 : decode cX6_commonDivisor 20 = .ok (.iload_n 2, 1) := by decide +kernel
theorem dX6_commonDivisor_21 : decode cX6_commonDivisor 21 = .ok (.i2l, 1) := by decide +kernel
theorem dX6_commonDivisor_22 : decode cX6_commonDivisor 22 = .ok (.iload_n 3, 1) := by decide +kernel
theorem dX6_commonDivisor_23 : decode cX6_commonDivisor 23 = .ok (.i2l, 1) := by decide +kernel
theorem dX6_commonDivisor_24 : decode cX6_commonDivisor 24 = .ok (.invokestatic 46, 3) := by decide +kernel
theorem dX6_commonDivisor_27 : decode cX6_commonDivisor 27 = .ok (.l2i, 1) := by decide +kernel
theorem dX6_commonDivisor_28 : decode cX6_commonDivisor 28 = .ok (.iload_n 3, 1) := by decide +kernel
theorem dX6_commonDivisor_29 : decode cX6_commonDivisor 29 = .ok (.imul, 1) := by decide +kernel
theorem dX6_commonDivisor_30 : decode cX6_commonDivisor 30 = .ok (.isub, 1) := by decide +kernel
theorem dX6_commonDivisor_31 : decode cX6_commonDivisor 31 = .ok (.istore 5, 2) := by decide +kernel
theorem dX6_commonDivisor_33 : decode cX6_commonDivisor 33 = .ok (.iload_n 3, 1) := by decide +kernel
theorem dX6_commonDivisor_34 : decode cX6_commonDivisor 34 = .ok (.istore_n 2, 1) := by decide +kernel
theorem dX6_commonDivisor_35 : decode cX6_commonDivisor 35 = .ok (.iload 5, 2) := by decide +kernel
theorem dX6_commonDivisor_37 : decode cX6_commonDivisor 37 = .ok (.istore_n 3, 1) := by decide +kernel
theorem dX6_commonDivisor_38 : decode cX6_commonDivisor 38 = .ok (.iinc 4 1, 3) := by decide +kernel
theorem dX6_commonDivisor_41 : decode cX6_commonDivisor 41 = .ok (.goto (-34), 3) := by decide +kernel
theorem dX6_commonDivisor_44 : decode cX6_commonDivisor 44 = .ok (.iload_n 2, 1) := by decide +kernel
theorem dX6_commonDivisor_45 : decode cX6_commonDivisor 45 = .ok (.ireturn, 1) := by decide +kernel
