theorem dX0_init_0 : decode cX0_init 0 = .ok (.aload_n 0, 1) := by decide +kernel
theorem dX0_init_1 : decode cX0_init 1 = .ok (.invokespecial 3, 3) := by decide +kernel
theorem dX0_init_4 : decode cX0_init 4 = .ok (.aload_n 0, 1) := by decide +kernel
theorem dX0_init_5 : decode cX0_init 5 = .ok (.sipush 1000, 3) := by decide +kernel
theorem dX0_init_8 : decode cX0_init 8 = .ok (.newarray .boolean, 2) := by decide +kernel
theorem dX0_init_10 : decode cX0_init 10 = .ok (.putfield 9, 3) := by decide +kernel
theorem dX0_init_13 : decode cX0_init 13 = .ok (.aload_n 0, 1) := by decide +kernel
theorem dX0_init_14 : decode cX0_init 14 = .ok (.sipush 1001, 3) := by decide +kernel
theorem dX0_init_17 : decode cX0_init 17 = .ok (.newarray .int, 2) := by decide +kernel
theorem dX0_init_19 : decode cX0_init 19 = .ok (.putfield 15, 3) := by decide +kernel
theorem dX0_init_22 : decode cX0_init 22 = .ok (.return_, 1) := by decide +kernel
set_option maxRecDepth 20000 in
theorem ggX0_measure_X0_markPoints : GoodIn wsX0_measure wsX0_markPoints := goodIn_r _ [6, 7, 20, 21, 22, 23, 24] (by decide +kernel) (by decide +kernel)
set_option maxRecDepth 20000 in
theorem gX0_measure_X0_markPoints : GoodIn wsX0_measure (wsV RX0 19 RX0 yX0_markPoints wsX0_markPoints) := goodIn_app (goodIn_of _ (by decide +kernel)) ggX0_measure_X0_markPoints
set_option maxRecDepth 20000 in
theorem ggX0_measure_J7_fill_53178 : GoodIn wsX0_measure wsJ7_fill_53178 := goodIn_r _ [11] (by decide +kernel) (by decide +kernel)
set_option maxRecDepth 20000 in
theorem gX0_measure_J7_fill_53178 : GoodIn wsX0_measure (va_wsS RX0 23 yJ7_fill_53178 wsJ7_fill_53178) := goodIn_app (goodIn_of _ (by decide +kernel)) ggX0_measure_J7_fill_53178
set_option maxRecDepth 20000 in
theorem ggX0_measure_X0_isPoint : GoodIn wsX0_measure wsX0_isPoint := goodIn_r _ [15, 7, 20, 21] (by decide +kernel) (by decide +kernel)
set_option maxRecDepth 20000 in
theorem gX0_measure_X0_isPoint : GoodIn wsX0_measure (wsV RX0 35 RX0 yX0_isPoint wsX0_isPoint) := goodIn_app (goodIn_of _ (by decide +kernel)) ggX0_measure_X0_isPoint
set_option maxRecDepth 20000 in
theorem ggX0_measure_X0_addGap : GoodIn wsX0_measure wsX0_addGap := goodIn_r _ [19, 1, 20, 21] (by decide +kernel) (by decide +kernel)
set_option maxRecDepth 20000 in
theorem gX0_measure_X0_addGap : GoodIn wsX0_measure (wsV RX0 39 RX0 yX0_addGap wsX0_addGap) := goodIn_app (goodIn_of _ (by decide +kernel)) ggX0_measure_X0_addGap
theorem dX0_measure_0 : decode cX0_measure 0 = .ok (.aload_n 0, 1) := by decide +kernel
theorem dX0_measure_1 : decode cX0_measure 1 = .ok (.aload_n 1, 1) := by decide +kernel
theorem dX0_measure_2 : decode cX0_measure 2 = .ok (.iload_n 2, 1) := by decide +kernel
theorem dX0_measure_3 : decode cX0_measure 3 = .ok (.invokevirtual 19, 3) := by decide +kernel
theorem dX0_measure_6 : decode cX0_measure 6 = .ok (.aload_n 0, 1) := by decide +kernel
theorem dX0_measure_7 : decode cX0_measure 7 = .ok (.getfield 15, 3) := by decide +kernel
theorem dX0_measure_10 : decode cX0_measure 10 = .ok (.iconst 0, 1) := by decide +kernel
theorem dX0_measure_11 : decode cX0_measure 11 = .ok (.invokestatic 23, 3) := by decide +kernel
theorem dX0_measure_14 : decode cX0_measure 14 = .ok (.iconst 0, 1) := by decide +kernel
theorem dX0_measure_15 : decode cX0_measure 15 = .ok (.istore_n 3, 1) := by decide +kernel
theorem dX0_measure_16 : decode cX0_measure 16 = .ok (.iconst 1, 1) := by decide +kernel
theorem dX0_measure_17 : decode cX0_measure 17 = .ok (.istore 4, 2) := by decide +kernel
theorem dX0_measure_19 : decode cX0_measure 19 = .ok (.iload 4, 2) := by decide +kernel
theorem dX0_measure_21 : decode cX0_measure 21 = .ok (.aload_n 1, 1) := by decide +kernel
theorem dX0_measure_22 : decode cX0_measure 22 = .ok (.getfield 29, 3) := by decide +kernel
theorem dX0_measure_25 : decode cX0_measure 25 = .ok (.if_icmp .gt 38, 3) := by decide +kernel
theorem dX0_measure_28 : decode cX0_measure 28 = .ok (.iload 4, 2) := by decide +kernel
theorem dX0_measure_30 : decode cX0_measure 30 = .ok (.aload_n 1, 1) := by decide +kernel
theorem dX0_measure_31 : decode cX0_measure 31 = .ok (.getfield 29, 3) := by decide +kernel
theorem dX0_measure_34 : decode cX0_measure 34 = .ok (.if_icmp .eq 12, 3) := by decide +kernel
theorem dX0_measure_37 : decode cX0_measure 37 = .ok (.aload_n 0, 1) := by decide +kernel
theorem dX0_measure_38 : decode cX0_measure 38 = .ok (.iload 4, 2) := by decide +kernel
theorem dX0_measure_40 : decode cX0_measure 40 = .ok (.invokevirtual 35, 3) := by decide +kernel
theorem dX0_measure_43 : decode cX0_measure 43 = .ok (.ifCond .eq 14, 3) := by decide +kernel
theorem dX0_measure_46 : decode cX0_measure 46 = .ok (.aload_n 0, 1) := by decide +kernel
theorem dX0_measure_47 : decode cX0_measure 47 = .ok (.iload 4, 2) := by decide +kernel
theorem dX0_measure_49 : decode cX0_measure 49 = .ok (.iload_n 3, 1) := by decide +kernel
theorem dX0_measure_50 : decode cX0_measure 50 = .ok (.isub, 1) := by decide +kernel
theorem dX0_measure_51 : decode cX0_measure 51 = .ok (.invokevirtual 39, 3) := by decide +kernel
theorem dX0_measure_54 : decode cX0_measure 54 = .ok (.iload 4, 2) := by decide +kernel
theorem dX0_measure_56 : decode cX0_measure 56 = .ok (.istore_n 3, 1) := by decide +kernel
theorem dX0_measure_57 : decode cX0_measure 57 = .ok (.iinc 4 1, 3) := by decide +kernel
theorem dX0_measure_60 : decode cX0_measure 60 = .ok (.goto (-41), 3) := by decide +kernel
theorem dX0_measure_63 : decode cX0_measure 63 = .ok (.return_, 1) := by decide +kernel
theorem dX0_markPoints_0 : decode cX0_markPoints 0 = .ok (.iconst 0, 1) := by decide +kernel
theorem dX0_markPoints_1 : decode cX0_markPoints 1 = .ok (.istore_n 3, 1) := by decide +kernel
theorem dX0_markPoints_2 : decode cX0_markPoints 2 = .ok (.iload_n 3, 1) := by decide +kernel
theorem dX0_markPoints_3 : decode cX0_markPoints 3 = .ok (.aload_n 0, 1) := by decide +kernel
theorem dX0_markPoints_4 : decode cX0_markPoints 4 = .ok (.getfield 9, 3) := by decide +kernel
theorem dX0_markPoints_7 : decode cX0_markPoints 7 = .ok (.arraylength, 1) := by decide +kernel
theorem dX0_markPoints_8 : decode cX0_markPoints 8 = .ok (.if_icmp .ge 16, 3) := by decide +kernel
theorem dX0_markPoints_11 : decode cX0_markPoints 11 = .ok (.aload_n 0, 1) := by decide +kernel
theorem dX0_markPoints_12 : decode cX0_markPoints 12 = .ok (.getfield 9, 3) := by decide +kernel
theorem dX0_markPoints_15 : decode cX0_markPoints 15 = .ok (.iload_n 3, 1) := by decide +kernel
theorem dX0_markPoints_16 : decode cX0_markPoints 16 = .ok (.iconst 0, 1) := by decide +kernel
theorem dX0_markPoints_17 : decode cX0_markPoints 17 = .ok (.bastore, 1) := by decide +kernel
theorem dX0_markPoints_18 : decode cX0_markPoints 18 = .ok (.iinc 3 1, 3) := by decide +kernel
theorem dX0_markPoints_21 : decode cX0_markPoints 21 = .ok (.goto (-19), 3) := by decide +kernel
theorem dX0_markPoints_24 : decode cX0_markPoints 24 = .ok (.iconst 0, 1) := by decide +kernel
theorem dX0_markPoints_25 : decode cX0_markPoints 25 = .ok (.istore_n 3, 1) := by decide +kernel
theorem dX0_markPoints_26 : decode cX0_markPoints 26 = .ok (.iconst 0, 1) := by decide +kernel
theorem dX0_markPoints_27 : decode cX0_markPoints 27 = .ok (.istore 4, 2) := by decide +kernel
theorem dX0_markPoints_29 : decode cX0_markPoints 29 = .ok (.iload 4, 2) := by decide +kernel
theorem dX0_markPoints_31 : decode cX0_markPoints 31 = .ok (.iload_n 2, 1) := by decide +kernel
theorem dX0_markPoints_32 : decode cX0_markPoints 32 = .ok (.if_icmp .ge 51, 3) := by decide +kernel
theorem dX0_markPoints_35 : decode cX0_markPoints 35 = .ok (.iload_n 3, 1) := by decide +kernel
theorem dX0_markPoints_36 : decode cX0_markPoints 36 = .ok (.ifCond .lt 19, 3) := by decide +kernel
theorem dX0_markPoints_39 : decode cX0_markPoints 39 = .ok (.iload_n 3, 1) := by decide +kernel
theorem dX0_markPoints_40 : decode cX0_markPoints 40 = .ok (.aload_n 0, 1) := by decide +kernel
theorem dX0_markPoints_41 : decode cX0_markPoints 41 = .ok (.getfield 9, 3) := by decide +kernel
theorem dX0_markPoints_44 : decode cX0_markPoints 44 = .ok (.arraylength, 1) := by decide +kernel
theorem dX0_markPoints_45 : decode cX0_markPoints 45 = .ok (.if_icmp .ge 10, 3) := by decide +kernel
theorem dX0_markPoints_48 : decode cX0_markPoints 48 = .ok (.aload_n 0, 1) := by decide +kernel
theorem dX0_markPoints_49 : decode cX0_markPoints 49 = .ok (.getfield 9, 3) := by decide +kernel
theorem dX0_markPoints_52 : decode cX0_markPoints 52 = .ok (.iload_n 3, 1) := by decide +kernel
theorem dX0_markPoints_53 : decode cX0_markPoints 53 = .ok (.iconst 1, 1) := by decide +kernel
theorem dX0_markPoints_54 : decode cX0_markPoints 54 = .ok (.bastore, 1) := by decide +kernel
theorem dX0_markPoints_55 : decode cX0_markPoints 55 = .ok (.iload_n 3, 1) := by decide +kernel
theorem dX0_markPoints_56 : decode cX0_markPoints 56 = .ok (.aload_n 1, 1) := by decide +kernel
theorem dX0_markPoints_57 : decode cX0_markPoints 57 = .ok (.getfield 43, 3) := by decide +kernel
theorem dX0_markPoints_60 : decode cX0_markPoints 60 = .ok (.iadd, 1) := by decide +kernel
theorem dX0_markPoints_61 : decode cX0_markPoints 61 = .ok (.istore_n 3, 1) := by decide +kernel
theorem dX0_markPoints_62 : decode cX0_markPoints 62 = .ok (.iload_n 3, 1) := by decide +kernel
theorem dX0_markPoints_63 : decode cX0_markPoints 63 = .ok (.aload_n 1, 1) := by decide +kernel
theorem dX0_markPoints_64 : decode cX0_markPoints 64 = .ok (.getfield 29, 3) := by decide +kernel
theorem dX0_markPoints_67 : decode cX0_markPoints 67 = .ok (.if_icmp .lt 10, 3) := by decide +kernel
theorem dX0_markPoints_70 : decode cX0_markPoints 70 = .ok (.iload_n 3, 1) := by decide +kernel
theorem dX0_markPoints_71 : decode cX0_markPoints 71 = .ok (.aload_n 1, 1) := by decide +kernel
theorem dX0_markPoints_72 : decode cX0_markPoints 72 = .ok (.getfield 29, 3) := by decide +kernel
theorem dX0_markPoints_75 : decode cX0_markPoints 75 = .ok (.isub, 1) := by decide +kernel
theorem dX0_markPoints_76 : decode cX0_markPoints 76 = .ok (.istore_n 3, 1) := by decide +kernel
theorem dX0_markPoints_77 : decode cX0_markPoints 77 = .ok (.iinc 4 1, 3) := by decide +kernel
theorem dX0_markPoints_80 : decode cX0_markPoints 80 = .ok (.goto (-51), 3) := by decide +kernel
theorem dX0_markPoints_83 : decode cX0_markPoints 83 = .ok (.return_, 1) := by decide +kernel
theorem dX0_isPoint_0 : decode cX0_isPoint 0 = .ok (.iload_n 1, 1) := by decide +kernel
theorem dX0_isPoint_1 : decode cX0_isPoint 1 = .ok (.ifCond .lt 25, 3) := by decide +kernel
theorem dX0_isPoint_4 : decode cX0_isPoint 4 = .ok (.iload_n 1, 1) := by decide +kernel
theorem dX0_isPoint_5 : decode cX0_isPoint 5 = .ok (.aload_n 0, 1) := by decide +kernel
theorem dX0_isPoint_6 : decode cX0_isPoint 6 = .ok (.getfield 9, 3) := by decide +kernel
theorem dX0_isPoint_9 : decode cX0_isPoint 9 = .ok (.arraylength, 1) := by decide +kernel
theorem dX0_isPoint_10 : decode cX0_isPoint 10 = .ok (.if_icmp .ge 16, 3) := by decide +kernel
theorem dX0_isPoint_13 : decode cX0_isPoint 13 = .ok (.aload_n 0, 1) := by decide +kernel
theorem dX0_isPoint_14 : decode cX0_isPoint 14 = .ok (.getfield 9, 3) := by decide +kernel
theorem dX0_isPoint_17 : decode cX0_isPoint 17 = .ok (.iload_n 1, 1) := by decide +kernel
theorem dX0_isPoint_18 : decode cX0_isPoint 18 = .ok (.baload, 1) := by decide +kernel
theorem dX0_isPoint_19 : decode cX0_isPoint 19 = .ok (.ifCond .eq 7, 3) := by decide +kernel
theorem dX0_isPoint_22 : decode cX0_isPoint 22 = .ok (.iconst 1, 1) := by decide +kernel
theorem dX0_isPoint_23 : decode cX0_isPoint 23 = .ok (.goto 4, 3) := by decide +kernel
theorem dX0_isPoint_26 : decode cX0_isPoint 26 = .ok (.iconst 0, 1) := by decide +kernel
theorem dX0_isPoint_27 : decode cX0_isPoint 27 = .ok (.ireturn, 1) := by decide +kernel
theorem dX0_addGap_0 : decode cX0_addGap 0 = .ok (.iload_n 1, 1) := by decide +kernel
theorem dX0_addGap_1 : decode cX0_addGap 1 = .ok (.ifCond .lt 22, 3) := by decide +kernel
theorem dX0_addGap_4 : decode cX0_addGap 4 = .ok (.iload_n 1, 1) := by decide +kernel
theorem dX0_addGap_5 : decode cX0_addGap 5 = .ok (.aload_n 0, 1) := by decide +kernel
theorem dX0_addGap_6 : decode cX0_addGap 6 = .ok (.getfield 15, 3) := by decide +kernel
theorem dX0_addGap_9 : decode cX0_addGap 9 = .ok (.arraylength, 1) := by decide +kernel
theorem dX0_addGap_10 : decode cX0_addGap 10 = .ok (.if_icmp .ge 13, 3) := by decide +kernel
theorem dX0_addGap_13 : decode cX0_addGap 13 = .ok (.aload_n 0, 1) := by decide +kernel
theorem dX0_addGap_14 : decode cX0_addGap 14 = .ok (.getfield 15, 3) := by decide +kernel
theorem dX0_addGap_17 : decode cX0_addGap 17 = .ok (.iload_n 1, 1) := by decide +kernel
theorem dX0_addGap_18 : decode cX0_addGap 18 = .ok (.dup2, 1) := by decide +kernel
theorem dX0_addGap_19 : decode cX0_addGap 19 = .ok (.iaload, 1) := by decide +kernel
theorem dX0_addGap_20 : decode cX0_addGap 20 = .ok (.iconst 1, 1) := by decide +kernel
theorem dX0_addGap_21 : decode cX0_addGap 21 = .ok (.iadd, 1) := by decide +kernel
theorem dX0_addGap_22 : decode cX0_addGap 22 = .ok (.iastore, 1) := by decide +kernel
theorem dX0_addGap_23 : decode cX0_addGap 23 = .ok (.return_, 1) := by decide +kernel
theorem dX0_gapsWith_0 : decode cX0_gapsWith 0 = .ok (.iload_n 1, 1) := by decide +kernel
theorem dX0_gapsWith_1 : decode cX0_gapsWith 1 = .ok (.ifCond .lt 21, 3) := by decide +kernel
theorem dX0_gapsWith_4 : decode cX0_gapsWith 4 = .ok (.iload_n 1, 1) := by decide +kernel
theorem dX0_gapsWith_5 : decode cX0_gapsWith 5 = .ok (.aload_n 0, 1) := by decide +kernel
theorem dX0_gapsWith_6 : decode cX0_gapsWith 6 = .ok (.getfield 15, 3) := by decide +kernel
theorem dX0_gapsWith_9 : decode cX0_gapsWith 9 = .ok (.arraylength, 1) := by decide +kernel
theorem dX0_gapsWith_10 : decode cX0_gapsWith 10 = .ok (.if_icmp .ge 12, 3) := by decide +kernel
theorem dX0_gapsWith_13 : decode cX0_gapsWith 13 = .ok (.aload_n 0, 1) := by decide +kernel
theorem dX0_gapsWith_14 : decode cX0_gapsWith 14 = .ok (.getfield 15, 3) := by decide +kernel
theorem dX0_gapsWith_17 : decode cX0_gapsWith 17 = .ok (.iload_n 1, 1) := by decide +kernel
theorem dX0_gapsWith_18 : decode cX0_gapsWith 18 = .ok (.iaload, 1) := by decide +kernel
theorem dX0_gapsWith_19 : decode cX0_gapsWith 19 = .ok (.goto 4, 3) := by decide +kernel
theorem dX0_gapsWith_22 : decode cX0_gapsWith 22 = .ok (.iconst 0, 1) := by decide +kernel
theorem dX0_gapsWith_23 : decode cX0_gapsWith 23 = .ok (.ireturn, 1) := by decide +kernel
theorem dX0_differentSizes_0 : decode cX0_differentSizes 0 = .ok (.iconst 0, 1) := by decide +kernel
theorem dX0_differentSizes_1 : decode cX0_differentSizes 1 = .ok (.istore_n 1, 1) := by decide +kernel
theorem dX0_differentSizes_2 : decode cX0_differentSizes 2 = .ok (.iconst 1, 1) := by decide +kernel
theorem dX0_differentSizes_3 : decode cX0_differentSizes 3 = .ok (.istore_n 2, 1) := by decide +kernel
theorem dX0_differentSizes_4 : decode cX0_differentSizes 4 = .ok (.iload_n 2, 1) := by decide +kernel
theorem dX0_differentSizes_5 : decode cX0_differentSizes 5 = .ok (.aload_n 0, 1) := by decide +kernel
theorem dX0_differentSizes_6 : decode cX0_differentSizes 6 = .ok (.getfield 15, 3) := by decide +kernel
theorem dX0_differentSizes_9 : decode cX0_differentSizes 9 = .ok (.arraylength, 1) := by decide +kernel
theorem dX0_differentSizes_10 : decode cX0_differentSizes 10 = .ok (.if_icmp .ge 21, 3) := by decide +kernel
theorem dX0_differentSizes_13 : decode cX0_differentSizes 13 = .ok (.aload_n 0, 1) := by decide +kernel
theorem dX0_differentSizes_14 : decode cX0_differentSizes 14 = .ok (.getfield 15, 3) := by decide +kernel
theorem dX0_differentSizes_17 : decode cX0_differentSizes 17 = .ok (.iload_n 2, 1) := by decide +kernel
theorem dX0_differentSizes_18 : decode cX0_differentSizes 18 = .ok (.iaload, 1) := by decide +kernel
theorem dX0_differentSizes_19 : decode cX0_differentSizes 19 = .ok (.ifCond .le 6, 3) := by decide +kernel
theorem dX0_differentSizes_22 : decode cX0_differentSizes 22 = .ok (.iinc 1 1, 3) := by decide +kernel
theorem dX0_differentSizes_25 : decode cX0_differentSizes 25 = .ok (.iinc 2 1, 3) := by decide +kernel
theorem dX0_differentSizes_28 : decode cX0_differentSizes 28 = .ok (.goto (-24), 3) := by decide +kernel
theorem dX0_differentSizes_31 : decode cX0_differentSizes 31 = .ok (.iload_n 1, 1) := by decide +kernel
theorem dX0_differentSizes_32 : decode cX0_differentSizes 32 = .ok (.ireturn, 1) := by decide +kernel
theorem dX0_listedSize_0 : decode cX0_listedSize 0 = .ok (.iconst 0, 1) := by decide +kernel
theorem dX0_listedSize_1 : decode cX0_listedSize 1 = .ok (.istore_n 2, 1) := by decide +kernel
theorem dX0_listedSize_2 : decode cX0_listedSize 2 = .ok (.iconst 1, 1) := by decide +kernel
theorem dX0_listedSize_3 : decode cX0_listedSize 3 = .ok (.istore_n 3, 1) := by decide +kernel
theorem dX0_listedSize_4 : decode cX0_listedSize 4 = .ok (.iload_n 3, 1) := by decide +kernel
theorem dX0_listedSize_5 : decode cX0_listedSize 5 = .ok (.aload_n 0, 1) := by decide +kernel
theorem dX0_listedSize_6 : decode cX0_listedSize 6 = .ok (.getfield 15, 3) := by decide +kernel
theorem dX0_listedSize_9 : decode cX0_listedSize 9 = .ok (.arraylength, 1) := by decide +kernel
theorem dX0_listedSize_10 : decode cX0_listedSize 10 = .ok (.if_icmp .ge 28, 3) := by decide +kernel
theorem dX0_listedSize_13 : decode cX0_listedSize 13 = .ok (.aload_n 0, 1) := by decide +kernel
theorem dX0_listedSize_14 : decode cX0_listedSize 14 = .ok (.getfield 15, 3) := by decide +kernel
theorem dX0_listedSize_17 : decode cX0_listedSize 17 = .ok (.iload_n 3, 1) := by decide +kernel
theorem dX0_listedSize_18 : decode cX0_listedSize 18 = .ok (.iaload, 1) := by decide +kernel
theorem dX0_listedSize_19 : decode cX0_listedSize 19 = .ok (.ifCond .le 13, 3) := by decide +kernel
theorem dX0_listedSize_22 : decode cX0_listedSize 22 = .ok (.iload_n 2, 1) := by decide +kernel
theorem dX0_listedSize_23 : decode cX0_listedSize 23 = .ok (.iload_n 1, 1) := by decide +kernel
theorem dX0_listedSize_24 : decode cX0_listedSize 24 = .ok (.if_icmp .ne 5, 3) := by decide +kernel
theorem dX0_listedSize_27 : decode cX0_listedSize 27 = .ok (.iload_n 3, 1) := by decide +kernel
theorem dX0_listedSize_28 : decode cX0_listedSize 28 = .ok (.ireturn, 1) := by decide +kernel
theorem dX0_listedSize_29 : decode cX0_listedSize 29 = .ok (.iinc 2 1, 3) := by decide +kernel
theorem dX0_listedSize_32 : decode cX0_listedSize 32 = .ok (.iinc 3 1, 3) := by decide +kernel
theorem dX0_listedSize_35 : decode cX0_listedSize 35 = .ok (.goto (-31), 3) := by decide +kernel
theorem dX0_listedSize_38 : decode cX0_listedSize 38 = .ok (.iconst (-1), 1) := by decide +kernel
theorem dX0_listedSize_39 : decode cX0_listedSize 39 = .ok (.ireturn, 1) := by decide +kernel
theorem dX1_init_0 : decode cX1_init 0 = .ok (.aload_n 0, 1) := by decide +kernel
theorem dX1_init_1 : decode cX1_init 1 = .ok (.invokespecial 3, 3) := by decide +kernel
theorem dX1_init_4 : decode cX1_init 4 = .ok (.aload_n 0, 1) := by decide +kernel
theorem dX1_init_5 : decode cX1_init 5 = .ok (.bipush 6, 2) := by decide +kernel
theorem dX1_init_7 : decode cX1_init 7 = .ok (.anewarray 9, 3) := by decide +kernel
theorem dX1_init_10 : decode cX1_init 10 = .ok (.putfield 11, 3) := by decide +kernel
theorem dX1_init_13 : decode cX1_init 13 = .ok (.aload_n 0, 1) := by decide +kernel
theorem dX1_init_14 : decode cX1_init 14 = .ok (.iconst 0, 1) := by decide +kernel
theorem dX1_init_15 : decode cX1_init 15 = .ok (.putfield 17, 3) := by decide +kernel
theorem dX1_init_18 : decode cX1_init 18 = .ok (.aload_n 0, 1) := by decide +kernel
theorem dX1_init_19 : decode cX1_init 19 = .ok (.iconst 0, 1) := by decide +kernel
theorem dX1_init_20 : decode cX1_init 20 = .ok (.putfield 21, 3) := by decide +kernel
theorem dX1_init_23 : decode cX1_init 23 = .ok (.return_, 1) := by decide +kernel
theorem dX1_keep_0 : decode cX1_keep 0 = .ok (.aload_n 0, 1) := by decide +kernel
theorem dX1_keep_1 : decode cX1_keep 1 = .ok (.getfield 17, 3) := by decide +kernel
theorem dX1_keep_4 : decode cX1_keep 4 = .ok (.ifCond .lt 15, 3) := by decide +kernel
theorem dX1_keep_7 : decode cX1_keep 7 = .ok (.aload_n 0, 1) := by decide +kernel
theorem dX1_keep_8 : decode cX1_keep 8 = .ok (.getfield 17, 3) := by decide +kernel
theorem dX1_keep_11 : decode cX1_keep 11 = .ok (.aload_n 0, 1) := by decide +kernel
theorem dX1_keep_12 : decode cX1_keep 12 = .ok (.getfield 11, 3) := by decide +kernel
theorem dX1_keep_15 : decode cX1_keep 15 = .ok (.arraylength, 1) := by decide +kernel
theorem dX1_keep_16 : decode cX1_keep 16 = .ok (.if_icmp .lt 4, 3) := by decide +kernel
theorem dX1_keep_19 : decode cX1_keep 19 = .ok (.return_, 1) := by decide +kernel
theorem dX1_keep_20 : decode cX1_keep 20 = .ok (.aload_n 0, 1) := by decide +kernel
theorem dX1_keep_21 : decode cX1_keep 21 = .ok (.getfield 11, 3) := by decide +kernel
theorem dX1_keep_24 : decode cX1_keep 24 = .ok (.aload_n 0, 1) := by decide +kernel
theorem dX1_keep_25 : decode cX1_keep 25 = .ok (.getfield 17, 3) := by decide +kernel
theorem dX1_keep_28 : decode cX1_keep 28 = .ok (.aload_n 1, 1) := by decide +kernel
theorem dX1_keep_29 : decode cX1_keep 29 = .ok (.aastore, 1) := by decide +kernel
theorem dX1_keep_30 : decode cX1_keep 30 = .ok (.aload_n 0, 1) := by decide +kernel
theorem dX1_keep_31 : decode cX1_keep 31 = .ok (.aload_n 0, 1) := by decide +kernel
theorem dX1_keep_32 : decode cX1_keep 32 = .ok (.getfield 17, 3) := by decide +kernel
theorem dX1_keep_35 : decode cX1_keep 35 = .ok (.iconst 1, 1) := by decide +kernel
theorem dX1_keep_36 : decode cX1_keep 36 = .ok (.iadd, 1) := by decide +kernel
theorem dX1_keep_37 : decode cX1_keep 37 = .ok (.aload_n 0, 1) := by decide +kernel
theorem dX1_keep_38 : decode cX1_keep 38 = .ok (.getfield 11, 3) := by decide +kernel
theorem dX1_keep_41 : decode cX1_keep 41 = .ok (.arraylength, 1) := by decide +kernel
theorem dX1_keep_42 : decode cX1_keep 42 = .ok (.if_icmp .ge 12, 3) := by decide +kernel
theorem dX1_keep_45 : decode cX1_keep 45 = .ok (.aload_n 0, 1) := by decide +kernel
theorem dX1_keep_46 : decode cX1_keep 46 = .ok (.getfield 17, 3) := by decide +kernel
theorem dX1_keep_49 : decode cX1_keep 49 = .ok (.iconst 1, 1) := by decide +kernel
theorem dX1_keep_50 : decode cX1_keep 50 = .ok (.iadd, 1) := by decide +kernel
theorem dX1_keep_51 : decode cX1_keep 51 = .ok (.goto 4, 3) := by decide +kernel
theorem dX1_keep_54 : decode cX1_keep 54 = .ok (.iconst 0, 1) := by decide +kernel
theorem dX1_keep_55 : decode cX1_keep 55 = .ok (.putfield 17, 3) := by decide +kernel
theorem dX1_keep_58 : decode cX1_keep 58 = .ok (.aload_n 0, 1) := by decide +kernel
theorem dX1_keep_59 : decode cX1_keep 59 = .ok (.aload_n 0, 1) := by decide +kernel
theorem dX1_keep_60 : decode cX1_keep 60 = .ok (.getfield 21, 3) := by decide +kernel
theorem dX1_keep_63 : decode cX1_keep 63 = .ok (.iconst 1, 1) := by decide +kernel
theorem dX1_keep_64 : decode cX1_keep 64 = .ok (.iadd, 1) := by decide +kernel
theorem dX1_keep_65 : decode cX1_keep 65 = .ok (.aload_n 0, 1) := by decide +kernel
theorem dX1_keep_66 : decode cX1_keep 66 = .ok (.getfield 11, 3) := by decide +kernel
theorem dX1_keep_69 : decode cX1_keep 69 = .ok (.arraylength, 1) := by decide +kernel
theorem dX1_keep_70 : decode cX1_keep 70 = .ok (.invokestatic 24, 3) := by decide +kernel
theorem dX1_keep_73 : decode cX1_keep 73 = .ok (.putfield 21, 3) := by decide +kernel
theorem dX1_keep_76 : decode cX1_keep 76 = .ok (.return_, 1) := by decide +kernel
theorem dX1_takeLatest_0 : decode cX1_takeLatest 0 = .ok (.aload_n 0, 1) := by decide +kernel
theorem dX1_takeLatest_1 : decode cX1_takeLatest 1 = .ok (.getfield 17, 3) := by decide +kernel
theorem dX1_takeLatest_4 : decode cX1_takeLatest 4 = .ok (.ifCond .le 12, 3) := by decide +kernel
theorem dX1_takeLatest_7 : decode cX1_takeLatest 7 = .ok (.aload_n 0, 1) := by decide +kernel
theorem dX1_takeLatest_8 : decode cX1_takeLatest 8 = .ok (.getfield 17, 3) := by decide +kernel
theorem dX1_takeLatest_11 : decode cX1_takeLatest 11 = .ok (.iconst 1, 1) := by decide +kernel
theorem dX1_takeLatest_12 : decode cX1_takeLatest 12 = .ok (.isub, 1) := by decide +kernel
theorem dX1_takeLatest_13 : decode cX1_takeLatest 13 = .ok (.goto 10, 3) := by decide +kernel
theorem dX1_takeLatest_16 : decode cX1_takeLatest 16 = .ok (.aload_n 0, 1) := by decide +kernel
theorem dX1_takeLatest_17 : decode cX1_takeLatest 17 = .ok (.getfield 11, 3) := by decide +kernel
theorem dX1_takeLatest_20 : decode cX1_takeLatest 20 = .ok (.arraylength, 1) := by decide +kernel
theorem dX1_takeLatest_21 : decode cX1_takeLatest 21 = .ok (.iconst 1, 1) := by decide +kernel
theorem dX1_takeLatest_22 : decode cX1_takeLatest 22 = .ok (.isub, 1) := by decide +kernel
theorem dX1_takeLatest_23 : decode cX1_takeLatest 23 = .ok (.istore_n 1, 1) := by decide +kernel
theorem dX1_takeLatest_24 : decode cX1_takeLatest 24 = .ok (.aload_n 0, 1) := by decide +kernel
theorem dX1_takeLatest_25 : decode cX1_takeLatest 25 = .ok (.getfield 21, 3) := by decide +kernel
theorem dX1_takeLatest_28 : decode cX1_takeLatest 28 = .ok (.iconst 1, 1) := by decide +kernel
theorem dX1_takeLatest_29 : decode cX1_takeLatest 29 = .ok (.if_icmp .lt 16, 3) := by decide +kernel
theorem dX1_takeLatest_32 : decode cX1_takeLatest 32 = .ok (.iload_n 1, 1) := by decide +kernel
theorem dX1_takeLatest_33 : decode cX1_takeLatest 33 = .ok (.ifCond .lt 12, 3) := by decide +kernel
theorem dX1_takeLatest_36 : decode cX1_takeLatest 36 = .ok (.iload_n 1, 1) := by decide +kernel
theorem dX1_takeLatest_37 : decode cX1_takeLatest 37 = .ok (.aload_n 0, 1) := by decide +kernel
theorem dX1_takeLatest_38 : decode cX1_takeLatest 38 = .ok (.getfield 11, 3) := by decide +kernel
theorem dX1_takeLatest_41 : decode cX1_takeLatest 41 = .ok (.arraylength, 1) := by decide +kernel
theorem dX1_takeLatest_42 : decode cX1_takeLatest 42 = .ok (.if_icmp .lt 5, 3) := by decide +kernel
theorem dX1_takeLatest_45 : decode cX1_takeLatest 45 = .ok (.aconst_null, 1) := by decide +kernel
theorem dX1_takeLatest_46 : decode cX1_takeLatest 46 = .ok (.areturn, 1) := by decide +kernel
theorem dX1_takeLatest_47 : decode cX1_takeLatest 47 = .ok (.aload_n 0, 1) := by decide +kernel
theorem dX1_takeLatest_48 : decode cX1_takeLatest 48 = .ok (.iload_n 1, 1) := by decide +kernel
theorem dX1_takeLatest_49 : decode cX1_takeLatest 49 = .ok (.putfield 17, 3) := by decide +kernel
theorem dX1_takeLatest_52 : decode cX1_takeLatest 52 = .ok (.aload_n 0, 1) := by decide +kernel
theorem dX1_takeLatest_53 : decode cX1_takeLatest 53 = .ok (.dup, 1) := by decide +kernel
theorem dX1_takeLatest_54 : decode cX1_takeLatest 54 = .ok (.getfield 21, 3) := by decide +kernel
theorem dX1_takeLatest_57 : decode cX1_takeLatest 57 = .ok (.iconst 1, 1) := by decide +kernel
theorem dX1_takeLatest_58 : decode cX1_takeLatest 58 = .ok (.isub, 1) := by decide +kernel
theorem dX1_takeLatest_59 : decode cX1_takeLatest 59 = .ok (.putfield 21, 3) := by decide +kernel
theorem dX1_takeLatest_62 : decode cX1_takeLatest 62 = .ok (.aload_n 0, 1) := by decide +kernel
theorem dX1_takeLatest_63 : decode cX1_takeLatest 63 = .ok (.getfield 11, 3) := by decide +kernel
theorem dX1_takeLatest_66 : decode cX1_takeLatest 66 = .ok (.iload_n 1, 1) := by decide +kernel
theorem dX1_takeLatest_67 : decode cX1_takeLatest 67 = .ok (.aaload, 1) := by decide +kernel
theorem dX1_takeLatest_68 : decode cX1_takeLatest 68 = .ok (.areturn, 1) := by decide +kernel
theorem dX2_numbered_0 : decode cX2_numbered 0 = .ok (.iload_n 0, 1) := by decide +kernel
theorem dX2_numbered_1 : decode cX2_numbered 1 = .ok (.tableswitch 55 0 4 #[35, 39, 43, 47, 51], 35) := by decide +kernel
theorem dX2_numbered_36 : decode cX2_numbered 36 = .ok (.getstatic 5, 3) := by decide +kernel
theorem dX2_numbered_39 : decode cX2_numbered 39 = .ok (.areturn, 1) := by decide +kernel
theorem dX2_numbered_40 : decode cX2_numbered 40 = .ok (.getstatic 9, 3) := by decide +kernel
theorem dX2_numbered_43 : decode cX2_numbered 43 = .ok (.areturn, 1) := by decide +kernel
theorem dX2_numbered_44 : decode cX2_numbered 44 = .ok (.getstatic 12, 3) := by decide +kernel
theorem dX2_numbered_47 : decode cX2_numbered 47 = .ok (.areturn, 1) := by decide +kernel
theorem dX2_numbered_48 : decode cX2_numbered 48 = .ok (.getstatic 15, 3) := by decide +kernel
theorem dX2_numbered_51 : decode cX2_numbered 51 = .ok (.areturn, 1) := by decide +kernel
theorem dX2_numbered_52 : decode cX2_numbered 52 = .ok (.getstatic 18, 3) := by decide +kernel
theorem dX2_numbered_55 : decode cX2_numbered 55 = .ok (.areturn, 1) := by decide +kernel
theorem dX2_numbered_56 : decode cX2_numbered 56 = .ok (.aconst_null, 1) := by decide +kernel
theorem dX2_numbered_57 : decode cX2_numbered 57 = .ok (.areturn, 1) := by decide +kernel
theorem dX2_bitsOf_0 : decode cX2_bitsOf 0 = .ok (.iload_n 1, 1) := by decide +kernel
theorem dX2_bitsOf_1 : decode cX2_bitsOf 1 = .ok (.ifCond .ne 10, 3) := by decide +kernel
theorem dX2_bitsOf_4 : decode cX2_bitsOf 4 = .ok (.aload_n 0, 1) := by decide +kernel
theorem dX2_bitsOf_5 : decode cX2_bitsOf 5 = .ok (.getfield 40, 3) := by decide +kernel
theorem dX2_bitsOf_8 : decode cX2_bitsOf 8 = .ok (.goto 7, 3) := by decide +kernel
theorem dX2_bitsOf_11 : decode cX2_bitsOf 11 = .ok (.aload_n 0, 1) := by decide +kernel
theorem dX2_bitsOf_12 : decode cX2_bitsOf 12 = .ok (.getfield 47, 3) := by decide +kernel
theorem dX2_bitsOf_15 : decode cX2_bitsOf 15 = .ok (.ireturn, 1) := by decide +kernel
theorem dX2_sizeOf_0 : decode cX2_sizeOf 0 = .ok (.iload_n 1, 1) := by decide +kernel
theorem dX2_sizeOf_1 : decode cX2_sizeOf 1 = .ok (.ifCond .ne 10, 3) := by decide +kernel
theorem dX2_sizeOf_4 : decode cX2_sizeOf 4 = .ok (.aload_n 0, 1) := by decide +kernel
theorem dX2_sizeOf_5 : decode cX2_sizeOf 5 = .ok (.getfield 44, 3) := by decide +kernel
theorem dX2_sizeOf_8 : decode cX2_sizeOf 8 = .ok (.goto 7, 3) := by decide +kernel
theorem dX2_sizeOf_11 : decode cX2_sizeOf 11 = .ok (.aload_n 0, 1) := by decide +kernel
theorem dX2_sizeOf_12 : decode cX2_sizeOf 12 = .ok (.getfield 50, 3) := by decide +kernel
theorem dX2_sizeOf_15 : decode cX2_sizeOf 15 = .ok (.ireturn, 1) := by decide +kernel
set_option maxRecDepth 20000 in
theorem ggX2_imageOf_X5_letter : GoodIn wsX2_imageOf wsX5_letter := goodIn_r _ [7, 8, 9, 10, 3, 11, 12, 13, 33, 34] (by decide +kernel) (by decide +kernel)
set_option maxRecDepth 20000 in
theorem gX2_imageOf_X5_letter : GoodIn wsX2_imageOf (wsV RX2 58 RX5 yX5_letter wsX5_letter) := goodIn_app (goodIn_of _ (by decide +kernel)) ggX2_imageOf_X5_letter
set_option maxRecDepth 20000 in
theorem ggX2_imageOf_X2_sizeOf : GoodIn wsX2_imageOf wsX2_sizeOf := goodIn_r _ [18, 19, 20] (by decide +kernel) (by decide +kernel)
set_option maxRecDepth 20000 in
theorem gX2_imageOf_X2_sizeOf : GoodIn wsX2_imageOf (wsV RX2 62 RX2 yX2_sizeOf wsX2_sizeOf) := goodIn_app (goodIn_of _ (by decide +kernel)) ggX2_imageOf_X2_sizeOf
set_option maxRecDepth 20000 in
theorem ggX2_imageOf_X2_bitsOf : GoodIn wsX2_imageOf wsX2_bitsOf := goodIn_r _ [24, 25, 26] (by decide +kernel) (by decide +kernel)
set_option maxRecDepth 20000 in
theorem gX2_imageOf_X2_bitsOf : GoodIn wsX2_imageOf (wsV RX2 65 RX2 yX2_bitsOf wsX2_bitsOf) := goodIn_app (goodIn_of _ (by decide +kernel)) ggX2_imageOf_X2_bitsOf
set_option maxRecDepth 20000 in
theorem ggX2_imageOf_X5_init : GoodIn wsX2_imageOf wsX5_init := goodIn_r _ [29, 30, 31, 32, 12, 13, 33, 34] (by decide +kernel) (by decide +kernel)
set_option maxRecDepth 20000 in
theorem gX2_imageOf_X5_init : GoodIn wsX2_imageOf (wsX5_init) := ggX2_imageOf_X5_init
theorem dX2_imageOf_0 : decode cX2_imageOf 0 = .ok (.lconst 0, 1) := by decide +kernel
theorem dX2_imageOf_1 : decode cX2_imageOf 1 = .ok (.lstore_n 2, 1) := by decide +kernel
theorem dX2_imageOf_2 : decode cX2_imageOf 2 = .ok (.iconst 0, 1) := by decide +kernel
theorem dX2_imageOf_3 : decode cX2_imageOf 3 = .ok (.istore 4, 2) := by decide +kernel
theorem dX2_imageOf_5 : decode cX2_imageOf 5 = .ok (.iconst 0, 1) := by decide +kernel
theorem dX2_imageOf_6 : decode cX2_imageOf 6 = .ok (.istore 5, 2) := by decide +kernel
theorem dX2_imageOf_8 : decode cX2_imageOf 8 = .ok (.iload 5, 2) := by decide +kernel
theorem dX2_imageOf_10 : decode cX2_imageOf 10 = .ok (.aload_n 1, 1) := by decide +kernel
theorem dX2_imageOf_11 : decode cX2_imageOf 11 = .ok (.getfield 53, 3) := by decide +kernel
theorem dX2_imageOf_14 : decode cX2_imageOf 14 = .ok (.if_icmp .ge 54, 3) := by decide +kernel
theorem dX2_imageOf_17 : decode cX2_imageOf 17 = .ok (.aload_n 1, 1) := by decide +kernel
theorem dX2_imageOf_18 : decode cX2_imageOf 18 = .ok (.iload 5, 2) := by decide +kernel
theorem dX2_imageOf_20 : decode cX2_imageOf 20 = .ok (.invokevirtual 58, 3) := by decide +kernel
theorem dX2_imageOf_23 : decode cX2_imageOf 23 = .ok (.istore 6, 2) := by decide +kernel
theorem dX2_imageOf_25 : decode cX2_imageOf 25 = .ok (.lload_n 2, 1) := by decide +kernel
theorem dX2_imageOf_26 : decode cX2_imageOf 26 = .ok (.aload_n 0, 1) := by decide +kernel
theorem dX2_imageOf_27 : decode cX2_imageOf 27 = .ok (.iload 6, 2) := by decide +kernel
theorem dX2_imageOf_29 : decode cX2_imageOf 29 = .ok (.invokevirtual 62, 3) := by decide +kernel
theorem dX2_imageOf_32 : decode cX2_imageOf 32 = .ok (.lshl, 1) := by decide +kernel
theorem dX2_imageOf_33 : decode cX2_imageOf 33 = .ok (.aload_n 0, 1) := by decide +kernel
theorem dX2_imageOf_34 : decode cX2_imageOf 34 = .ok (.iload 6, 2) := by decide +kernel
theorem dX2_imageOf_36 : decode cX2_imageOf 36 = .ok (.invokevirtual 65, 3) := by decide +kernel
theorem dX2_imageOf_39 : decode cX2_imageOf 39 = .ok (.i2l, 1) := by decide +kernel
theorem dX2_imageOf_40 : decode cX2_imageOf 40 = .ok (.lor, 1) := by decide +kernel
theorem dX2_imageOf_41 : decode cX2_imageOf 41 = .ok (.lstore_n 2, 1) := by decide +kernel
theorem dX2_imageOf_42 : decode cX2_imageOf 42 = .ok (.iload 4, 2) := by decide +kernel
theorem dX2_imageOf_44 : decode cX2_imageOf 44 = .ok (.aload_n 0, 1) := by decide +kernel
theorem dX2_imageOf_45 : decode cX2_imageOf 45 = .ok (.iload 6, 2) := by decide +kernel
theorem dX2_imageOf_47 : decode cX2_imageOf 47 = .ok (.invokevirtual 62, 3) := by decide +kernel
theorem dX2_imageOf_50 : decode cX2_imageOf 50 = .ok (.iadd, 1) := by decide +kernel
theorem dX2_imageOf_51 : decode cX2_imageOf 51 = .ok (.istore 4, 2) := by decide +kernel
theorem dX2_imageOf_53 : decode cX2_imageOf 53 = .ok (.iload 4, 2) := by decide +kernel
theorem dX2_imageOf_55 : decode cX2_imageOf 55 = .ok (.bipush 60, 2) := by decide +kernel
theorem dX2_imageOf_57 : decode cX2_imageOf 57 = .ok (.if_icmp .le 5, 3) := by decide +kernel
theorem dX2_imageOf_60 : decode cX2_imageOf 60 = .ok (.aconst_null, 1) := by decide +kernel
theorem dX2_imageOf_61 : decode cX2_imageOf 61 = .ok (.areturn, 1) := by decide +kernel
theorem dX2_imageOf_62 : decode cX2_imageOf 62 = .ok (.iinc 5 1, 3) := by decide +kernel
theorem dX2_imageOf_65 : decode cX2_imageOf 65 = .ok (.goto (-57), 3) := by decide +kernel
theorem dX2_imageOf_68 : decode cX2_imageOf 68 = .ok (.new 54, 3) := by decide +kernel
theorem dX2_imageOf_71 : decode cX2_imageOf 71 = .ok (.dup, 1) := by decide +kernel
theorem dX2_imageOf_72 : decode cX2_imageOf 72 = .ok (.lload_n 2, 1) := by decide +kernel
theorem dX2_imageOf_73 : decode cX2_imageOf 73 = .ok (.iload 4, 2) := by decide +kernel
theorem dX2_imageOf_75 : decode cX2_imageOf 75 = .ok (.invokespecial 68, 3) := by decide +kernel
theorem dX2_imageOf_78 : decode cX2_imageOf 78 = .ok (.areturn, 1) := by decide +kernel
set_option maxRecDepth 20000 in
theorem ggX2_originOf_X2_letterBehind : GoodIn wsX2_originOf wsX2_letterBehind := goodIn_r _ [8, 9, 10, 11, 12, 13, 7, 14, 15, 16, 17, 18, 19, 20, 21, 3, 22, 23, 24, 25, 26, 27, 28, 29, 30, 37, 38] (by decide +kernel) (by decide +kernel)
set_option maxRecDepth 20000 in
theorem gX2_originOf_X2_letterBehind : GoodIn wsX2_originOf (wsV RX2 71 RX2 yX2_letterBehind wsX2_letterBehind) := goodIn_app (goodIn_of _ (by decide +kernel)) ggX2_originOf_X2_letterBehind
set_option maxRecDepth 20000 in
theorem ggX2_originOf_X2_sizeOf : GoodIn wsX2_originOf wsX2_sizeOf := goodIn_r _ [18, 10, 9] (by decide +kernel) (by decide +kernel)
set_option maxRecDepth 20000 in
theorem gX2_originOf_X2_sizeOf : GoodIn wsX2_originOf (wsV RX2 62 RX2 yX2_sizeOf wsX2_sizeOf) := goodIn_app (goodIn_of _ (by decide +kernel)) ggX2_originOf_X2_sizeOf
set_option maxRecDepth 20000 in
theorem ggX2_originOf_X5_init : GoodIn wsX2_originOf wsX5_init := goodIn_r _ [33, 34, 35, 36, 23, 24, 37, 38] (by decide +kernel) (by decide +kernel)
set_option maxRecDepth 20000 in
theorem gX2_originOf_X5_init : GoodIn wsX2_originOf (wsX5_init) := ggX2_originOf_X5_init
theorem dX2_originOf_0 : decode cX2_originOf 0 = .ok (.lconst 0, 1) := by decide +kernel
theorem dX2_originOf_1 : decode cX2_originOf 1 = .ok (.lstore_n 2, 1) := by decide +kernel
theorem dX2_originOf_2 : decode cX2_originOf 2 = .ok (.iconst 0, 1) := by decide +kernel
theorem dX2_originOf_3 : decode cX2_originOf 3 = .ok (.istore 4, 2) := by decide +kernel
theorem dX2_originOf_5 : decode cX2_originOf 5 = .ok (.iconst 0, 1) := by decide +kernel
theorem dX2_originOf_6 : decode cX2_originOf 6 = .ok (.istore 5, 2) := by decide +kernel
theorem dX2_originOf_8 : decode cX2_originOf 8 = .ok (.iload 5, 2) := by decide +kernel
theorem dX2_originOf_10 : decode cX2_originOf 10 = .ok (.aload_n 1, 1) := by decide +kernel
theorem dX2_originOf_11 : decode cX2_originOf 11 = .ok (.getfield 53, 3) := by decide +kernel
theorem dX2_originOf_14 : decode cX2_originOf 14 = .ok (.if_icmp .ge 50, 3) := by decide +kernel
theorem dX2_originOf_17 : decode cX2_originOf 17 = .ok (.aload_n 0, 1) := by decide +kernel
theorem dX2_originOf_18 : decode cX2_originOf 18 = .ok (.aload_n 1, 1) := by decide +kernel
theorem dX2_originOf_19 : decode cX2_originOf 19 = .ok (.iload 5, 2) := by decide +kernel
theorem dX2_originOf_21 : decode cX2_originOf 21 = .ok (.invokevirtual 71, 3) := by decide +kernel
theorem dX2_originOf_24 : decode cX2_originOf 24 = .ok (.istore 6, 2) := by decide +kernel
theorem dX2_originOf_26 : decode cX2_originOf 26 = .ok (.iload 6, 2) := by decide +kernel
theorem dX2_originOf_28 : decode cX2_originOf 28 = .ok (.iconst (-1), 1) := by decide +kernel
theorem dX2_originOf_29 : decode cX2_originOf 29 = .ok (.if_icmp .ne 5, 3) := by decide +kernel
theorem dX2_originOf_32 : decode cX2_originOf 32 = .ok (.aconst_null, 1) := by decide +kernel
theorem dX2_originOf_33 : decode cX2_originOf 33 = .ok (.areturn, 1) := by decide +kernel
theorem dX2_originOf_34 : decode cX2_originOf 34 = .ok (.lload_n 2, 1) := by decide +kernel
theorem dX2_originOf_35 : decode cX2_originOf 35 = .ok (.iconst 1, 1) := by decide +kernel
theorem dX2_originOf_36 : decode cX2_originOf 36 = .ok (.lshl, 1) := by decide +kernel
theorem dX2_originOf_37 : decode cX2_originOf 37 = .ok (.iload 6, 2) := by decide +kernel
theorem dX2_originOf_39 : decode cX2_originOf 39 = .ok (.i2l, 1) := by decide +kernel
theorem dX2_originOf_40 : decode cX2_originOf 40 = .ok (.lor, 1) := by decide +kernel
theorem dX2_originOf_41 : decode cX2_originOf 41 = .ok (.lstore_n 2, 1) := by decide +kernel
theorem dX2_originOf_42 : decode cX2_originOf 42 = .ok (.iinc 4 1, 3) := by decide +kernel
theorem dX2_originOf_45 : decode cX2_originOf 45 = .ok (.aload_n 0, 1) := by decide +kernel
theorem dX2_originOf_46 : decode cX2_originOf 46 = .ok (.iload 6, 2) := by decide +kernel
theorem dX2_originOf_48 : decode cX2_originOf 48 = .ok (.invokevirtual 62, 3) := by decide +kernel
theorem dX2_originOf_51 : decode cX2_originOf 51 = .ok (.iconst 2, 1) := by decide +kernel
theorem dX2_originOf_52 : decode cX2_originOf 52 = .ok (.if_icmp .ne 6, 3) := by decide +kernel
theorem dX2_originOf_55 : decode cX2_originOf 55 = .ok (.iinc 5 1, 3) := by decide +kernel
theorem dX2_originOf_58 : decode cX2_originOf 58 = .ok (.iinc 5 1, 3) := by decide +kernel
theorem dX2_originOf_61 : decode cX2_originOf 61 = .ok (.goto (-53), 3) := by decide +kernel
theorem dX2_originOf_64 : decode cX2_originOf 64 = .ok (.new 54, 3) := by decide +kernel
theorem dX2_originOf_67 : decode cX2_originOf 67 = .ok (.dup, 1) := by decide +kernel
theorem dX2_originOf_68 : decode cX2_originOf 68 = .ok (.lload_n 2, 1) := by decide +kernel
theorem dX2_originOf_69 : decode cX2_originOf 69 = .ok (.iload 4, 2) := by decide +kernel
theorem dX2_originOf_71 : decode cX2_originOf 71 = .ok (.invokespecial 68, 3) := by decide +kernel
theorem dX2_originOf_74 : decode cX2_originOf 74 = .ok (.areturn, 1) := by decide +kernel
set_option maxRecDepth 20000 in
theorem ggX2_letterBehind_X2_hasImageAt : GoodIn wsX2_letterBehind wsX2_hasImageAt := goodIn_r _ [7, 8, 9, 10, 6, 11, 2, 1, 12, 13, 14, 15, 16, 17, 18, 19, 20, 21, 22, 23, 24, 25, 26] (by decide +kernel) (by decide +kernel)
set_option maxRecDepth 20000 in
theorem gX2_letterBehind_X2_hasImageAt : GoodIn wsX2_letterBehind (wsV RX2 75 RX2 yX2_hasImageAt wsX2_hasImageAt) := goodIn_app (goodIn_of _ (by decide +kernel)) ggX2_letterBehind_X2_hasImageAt
theorem dX2_letterBehind_0 : decode cX2_letterBehind 0 = .ok (.aload_n 0, 1) := by decide +kernel
theorem dX2_letterBehind_1 : decode cX2_letterBehind 1 = .ok (.getfield 50, 3) := by decide +kernel
theorem dX2_letterBehind_4 : decode cX2_letterBehind 4 = .ok (.aload_n 0, 1) := by decide +kernel
theorem dX2_letterBehind_5 : decode cX2_letterBehind 5 = .ok (.getfield 44, 3) := by decide +kernel
theorem dX2_letterBehind_8 : decode cX2_letterBehind 8 = .ok (.if_icmp .le 7, 3) := by decide +kernel
theorem dX2_letterBehind_11 : decode cX2_letterBehind 11 = .ok (.iconst 1, 1) := by decide +kernel
theorem dX2_letterBehind_12 : decode cX2_letterBehind 12 = .ok (.goto 4, 3) := by decide +kernel
theorem dX2_letterBehind_15 : decode cX2_letterBehind 15 = .ok (.iconst 0, 1) := by decide +kernel
theorem dX2_letterBehind_16 : decode cX2_letterBehind 16 = .ok (.istore_n 3, 1) := by decide +kernel
theorem dX2_letterBehind_17 : decode cX2_letterBehind 17 = .ok (.aload_n 0, 1) := by decide +kernel
theorem dX2_letterBehind_18 : decode cX2_letterBehind 18 = .ok (.aload_n 1, 1) := by decide +kernel
theorem dX2_letterBehind_19 : decode cX2_letterBehind 19 = .ok (.iload_n 2, 1) := by decide +kernel
theorem dX2_letterBehind_20 : decode cX2_letterBehind 20 = .ok (.iload_n 3, 1) := by decide +kernel
theorem dX2_letterBehind_21 : decode cX2_letterBehind 21 = .ok (.invokevirtual 75, 3) := by decide +kernel
theorem dX2_letterBehind_24 : decode cX2_letterBehind 24 = .ok (.ifCond .eq 5, 3) := by decide +kernel
theorem dX2_letterBehind_27 : decode cX2_letterBehind 27 = .ok (.iload_n 3, 1) := by decide +kernel
theorem dX2_letterBehind_28 : decode cX2_letterBehind 28 = .ok (.ireturn, 1) := by decide +kernel
theorem dX2_letterBehind_29 : decode cX2_letterBehind 29 = .ok (.aload_n 0, 1) := by decide +kernel
theorem dX2_letterBehind_30 : decode cX2_letterBehind 30 = .ok (.aload_n 1, 1) := by decide +kernel
theorem dX2_letterBehind_31 : decode cX2_letterBehind 31 = .ok (.iload_n 2, 1) := by decide +kernel
theorem dX2_letterBehind_32 : decode cX2_letterBehind 32 = .ok (.iconst 1, 1) := by decide +kernel
theorem dX2_letterBehind_33 : decode cX2_letterBehind 33 = .ok (.iload_n 3, 1) := by decide +kernel
theorem dX2_letterBehind_34 : decode cX2_letterBehind 34 = .ok (.isub, 1) := by decide +kernel
theorem dX2_letterBehind_35 : decode cX2_letterBehind 35 = .ok (.invokevirtual 75, 3) := by decide +kernel
theorem dX2_letterBehind_38 : decode cX2_letterBehind 38 = .ok (.ifCond .eq 9, 3) := by decide +kernel
theorem dX2_letterBehind_41 : decode cX2_letterBehind 41 = .ok (.iconst 1, 1) := by decide +kernel
theorem dX2_letterBehind_42 : decode cX2_letterBehind 42 = .ok (.iload_n 3, 1) := by decide +kernel
theorem dX2_letterBehind_43 : decode cX2_letterBehind 43 = .ok (.isub, 1) := by decide +kernel
theorem dX2_letterBehind_44 : decode cX2_letterBehind 44 = .ok (.goto 4, 3) := by decide +kernel
theorem dX2_letterBehind_47 : decode cX2_letterBehind 47 = .ok (.iconst (-1), 1) := by decide +kernel
theorem dX2_letterBehind_48 : decode cX2_letterBehind 48 = .ok (.ireturn, 1) := by decide +kernel
set_option maxRecDepth 20000 in
theorem ggX2_hasImageAt_X2_sizeOf : GoodIn wsX2_hasImageAt wsX2_sizeOf := goodIn_r _ [5, 6, 7] (by decide +kernel) (by decide +kernel)
set_option maxRecDepth 20000 in
theorem gX2_hasImageAt_X2_sizeOf : GoodIn wsX2_hasImageAt (wsV RX2 62 RX2 yX2_sizeOf wsX2_sizeOf) := goodIn_app (goodIn_of _ (by decide +kernel)) ggX2_hasImageAt_X2_sizeOf
set_option maxRecDepth 20000 in
theorem ggX2_hasImageAt_X5_factor : GoodIn wsX2_hasImageAt wsX5_factor := goodIn_r _ [12, 13, 14, 21, 22] (by decide +kernel) (by decide +kernel)
set_option maxRecDepth 20000 in
theorem gX2_hasImageAt_X5_factor : GoodIn wsX2_hasImageAt (wsV RX2 79 RX5 yX5_factor wsX5_factor) := goodIn_app (goodIn_of _ (by decide +kernel)) ggX2_hasImageAt_X5_factor
set_option maxRecDepth 20000 in
theorem ggX2_hasImageAt_X2_bitsOf : GoodIn wsX2_hasImageAt wsX2_bitsOf := goodIn_r _ [18, 19, 20] (by decide +kernel) (by decide +kernel)
set_option maxRecDepth 20000 in
theorem gX2_hasImageAt_X2_bitsOf : GoodIn wsX2_hasImageAt (wsV RX2 65 RX2 yX2_bitsOf wsX2_bitsOf) := goodIn_app (goodIn_of _ (by decide +kernel)) ggX2_hasImageAt_X2_bitsOf
theorem dX2_hasImageAt_0 : decode cX2_hasImageAt 0 = .ok (.aload_n 0, 1) := by decide +kernel
theorem dX2_hasImageAt_1 : decode cX2_hasImageAt 1 = .ok (.iload_n 3, 1) := by decide +kernel
theorem dX2_hasImageAt_2 : decode cX2_hasImageAt 2 = .ok (.invokevirtual 62, 3) := by decide +kernel
theorem dX2_hasImageAt_5 : decode cX2_hasImageAt 5 = .ok (.istore 4, 2) := by decide +kernel
theorem dX2_hasImageAt_7 : decode cX2_hasImageAt 7 = .ok (.iload_n 2, 1) := by decide +kernel
theorem dX2_hasImageAt_8 : decode cX2_hasImageAt 8 = .ok (.iload 4, 2) := by decide +kernel
theorem dX2_hasImageAt_10 : decode cX2_hasImageAt 10 = .ok (.iadd, 1) := by decide +kernel
theorem dX2_hasImageAt_11 : decode cX2_hasImageAt 11 = .ok (.aload_n 1, 1) := by decide +kernel
theorem dX2_hasImageAt_12 : decode cX2_hasImageAt 12 = .ok (.getfield 53, 3) := by decide +kernel
theorem dX2_hasImageAt_15 : decode cX2_hasImageAt 15 = .ok (.if_icmp .gt 24, 3) := by decide +kernel
theorem dX2_hasImageAt_18 : decode cX2_hasImageAt 18 = .ok (.aload_n 1, 1) := by decide +kernel
theorem dX2_hasImageAt_19 : decode cX2_hasImageAt 19 = .ok (.iload_n 2, 1) := by decide +kernel
theorem dX2_hasImageAt_20 : decode cX2_hasImageAt 20 = .ok (.iload 4, 2) := by decide +kernel
theorem dX2_hasImageAt_22 : decode cX2_hasImageAt 22 = .ok (.invokevirtual 79, 3) := by decide +kernel
theorem dX2_hasImageAt_25 : decode cX2_hasImageAt 25 = .ok (.aload_n 0, 1) := by decide +kernel
theorem dX2_hasImageAt_26 : decode cX2_hasImageAt 26 = .ok (.iload_n 3, 1) := by decide +kernel
theorem dX2_hasImageAt_27 : decode cX2_hasImageAt 27 = .ok (.invokevirtual 65, 3) := by decide +kernel
theorem dX2_hasImageAt_30 : decode cX2_hasImageAt 30 = .ok (.i2l, 1) := by decide +kernel
theorem dX2_hasImageAt_31 : decode cX2_hasImageAt 31 = .ok (.lcmp, 1) := by decide +kernel
theorem dX2_hasImageAt_32 : decode cX2_hasImageAt 32 = .ok (.ifCond .ne 7, 3) := by decide +kernel
theorem dX2_hasImageAt_35 : decode cX2_hasImageAt 35 = .ok (.iconst 1, 1) := by decide +kernel
theorem dX2_hasImageAt_36 : decode cX2_hasImageAt 36 = .ok (.goto 4, 3) := by decide +kernel
theorem dX2_hasImageAt_39 : decode cX2_hasImageAt 39 = .ok (.iconst 0, 1) := by decide +kernel
theorem dX2_hasImageAt_40 : decode cX2_hasImageAt 40 = .ok (.ireturn, 1) := by decide +kernel
theorem dX3_init_0 : decode cX3_init 0 = .ok (.aload_n 0, 1) := by decide +kernel
theorem dX3_init_1 : decode cX3_init 1 = .ok (.invokespecial 3, 3) := by decide +kernel
theorem dX3_init_4 : decode cX3_init 4 = .ok (.aload_n 0, 1) := by decide +kernel
theorem dX3_init_5 : decode cX3_init 5 = .ok (.iload_n 1, 1) := by decide +kernel
theorem dX3_init_6 : decode cX3_init 6 = .ok (.putfield 9, 3) := by decide +kernel
theorem dX3_init_9 : decode cX3_init 9 = .ok (.aload_n 0, 1) := by decide +kernel
theorem dX3_init_10 : decode cX3_init 10 = .ok (.iload_n 2, 1) := by decide +kernel
theorem dX3_init_11 : decode cX3_init 11 = .ok (.putfield 15, 3) := by decide +kernel
theorem dX3_init_14 : decode cX3_init 14 = .ok (.aload_n 0, 1) := by decide +kernel
theorem dX3_init_15 : decode cX3_init 15 = .ok (.iload_n 3, 1) := by decide +kernel
theorem dX3_init_16 : decode cX3_init 16 = .ok (.putfield 18, 3) := by decide +kernel
theorem dX3_init_19 : decode cX3_init 19 = .ok (.return_, 1) := by decide +kernel
set_option maxRecDepth 20000 in
theorem ggX3_term_X6_quotient : GoodIn wsX3_term wsX6_quotient := goodIn_r _ [5] (by decide +kernel) (by decide +kernel)
set_option maxRecDepth 20000 in
theorem gX3_term_X6_quotient_n21 : GoodIn wsX3_term (wsX6_quotient) := ggX3_term_X6_quotient
theorem dX3_term_0 : decode cX3_term 0 = .ok (.aload_n 0, 1) := by decide +kernel
theorem dX3_term_1 : decode cX3_term 1 = .ok (.getfield 15, 3) := by decide +kernel
theorem dX3_term_4 : decode cX3_term 4 = .ok (.istore_n 2, 1) := by decide +kernel
theorem dX3_term_5 : decode cX3_term 5 = .ok (.aload_n 0, 1) := by decide +kernel
theorem dX3_term_6 : decode cX3_term 6 = .ok (.getfield 9, 3) := by decide +kernel
theorem dX3_term_9 : decode cX3_term 9 = .ok (.istore_n 3, 1) := by decide +kernel
theorem dX3_term_10 : decode cX3_term 10 = .ok (.iconst 1, 1) := by decide +kernel
theorem dX3_term_11 : decode cX3_term 11 = .ok (.istore 4, 2) := by decide +kernel
theorem dX3_term_13 : decode cX3_term 13 = .ok (.iload 4, 2) := by decide +kernel
theorem dX3_term_15 : decode cX3_term 15 = .ok (.sipush 1000, 3) := by decide +kernel
theorem dX3_term_18 : decode cX3_term 18 = .ok (.if_icmp .gt 45, 3) := by decide +kernel
theorem dX3_term_21 : decode cX3_term 21 = .ok (.iload_n 3, 1) := by decide +kernel
theorem dX3_term_22 : decode cX3_term 22 = .ok (.ifCond .le 41, 3) := by decide +kernel
theorem dX3_term_25 : decode cX3_term 25 = .ok (.iload_n 2, 1) := by decide +kernel
theorem dX3_term_26 : decode cX3_term 26 = .ok (.i2l, 1) := by decide +kernel
theorem dX3_term_27 : decode cX3_term 27 = .ok (.iload_n 3, 1) := by decide +kernel
theorem dX3_term_28 : decode cX3_term 28 = .ok (.i2l, 1) := by decide +kernel
theorem dX3_term_29 : decode cX3_term 29 = .ok (.invokestatic 21, 3) := by decide +kernel
theorem dX3_term_32 : decode cX3_term 32 = .ok (.l2i, 1) := by decide +kernel
theorem dX3_term_33 : decode cX3_term 33 = .ok (.istore 5, 2) := by decide +kernel
theorem dX3_term_35 : decode cX3_term 35 = .ok (.iload 4, 2) := by decide +kernel
theorem dX3_term_37 : decode cX3_term 37 = .ok (.iload_n 1, 1) := by decide +kernel
theorem dX3_term_38 : decode cX3_term 38 = .ok (.if_icmp .ne 6, 3) := by decide +kernel
theorem dX3_term_41 : decode cX3_term 41 = .ok (.iload 5, 2) := by decide +kernel
theorem dX3_term_43 : decode cX3_term 43 = .ok (.ireturn, 1) := by decide +kernel
theorem dX3_term_44 : decode cX3_term 44 = .ok (.iload_n 2, 1) := by decide +kernel
theorem dX3_term_45 : decode cX3_term 45 = .ok (.iload 5, 2) := by decide +kernel
theorem dX3_term_47 : decode cX3_term 47 = .ok (.iload_n 3, 1) := by decide +kernel
theorem dX3_term_48 : decode cX3_term 48 = .ok (.imul, 1) := by decide +kernel
theorem dX3_term_49 : decode cX3_term 49 = .ok (.isub, 1) := by decide +kernel
theorem dX3_term_50 : decode cX3_term 50 = .ok (.istore 6, 2) := by decide +kernel
theorem dX3_term_52 : decode cX3_term 52 = .ok (.iload_n 3, 1) := by decide +kernel
theorem dX3_term_53 : decode cX3_term 53 = .ok (.istore_n 2, 1) := by decide +kernel
theorem dX3_term_54 : decode cX3_term 54 = .ok (.iload 6, 2) := by decide +kernel
theorem dX3_term_56 : decode cX3_term 56 = .ok (.istore_n 3, 1) := by decide +kernel
theorem dX3_term_57 : decode cX3_term 57 = .ok (.iinc 4 1, 3) := by decide +kernel
theorem dX3_term_60 : decode cX3_term 60 = .ok (.goto (-47), 3) := by decide +kernel
theorem dX3_term_63 : decode cX3_term 63 = .ok (.iconst (-1), 1) := by decide +kernel
theorem dX3_term_64 : decode cX3_term 64 = .ok (.ireturn, 1) := by decide +kernel
set_option maxRecDepth 20000 in
theorem ggX3_letter_X6_quotient : GoodIn wsX3_letter wsX6_quotient := goodIn_r _ [6] (by decide +kernel) (by decide +kernel)
set_option maxRecDepth 20000 in
theorem gX3_letter_X6_quotient_n21 : GoodIn wsX3_letter (wsX6_quotient) := ggX3_letter_X6_quotient
theorem dX3_letter_0 : decode cX3_letter 0 = .ok (.iload_n 2, 1) := by decide +kernel
theorem dX3_letter_1 : decode cX3_letter 1 = .ok (.ifCond .eq 13, 3) := by decide +kernel
theorem dX3_letter_4 : decode cX3_letter 4 = .ok (.aload_n 0, 1) := by decide +kernel
theorem dX3_letter_5 : decode cX3_letter 5 = .ok (.getfield 15, 3) := by decide +kernel
theorem dX3_letter_8 : decode cX3_letter 8 = .ok (.i2l, 1) := by decide +kernel
theorem dX3_letter_9 : decode cX3_letter 9 = .ok (.lconst 1, 1) := by decide +kernel
theorem dX3_letter_10 : decode cX3_letter 10 = .ok (.lsub, 1) := by decide +kernel
theorem dX3_letter_11 : decode cX3_letter 11 = .ok (.goto 4, 3) := by decide +kernel
theorem dX3_letter_14 : decode cX3_letter 14 = .ok (.lconst 0, 1) := by decide +kernel
theorem dX3_letter_15 : decode cX3_letter 15 = .ok (.lstore_n 3, 1) := by decide +kernel
theorem dX3_letter_16 : decode cX3_letter 16 = .ok (.iload_n 1, 1) := by decide +kernel
theorem dX3_letter_17 : decode cX3_letter 17 = .ok (.i2l, 1) := by decide +kernel
theorem dX3_letter_18 : decode cX3_letter 18 = .ok (.aload_n 0, 1) := by decide +kernel
theorem dX3_letter_19 : decode cX3_letter 19 = .ok (.getfield 9, 3) := by decide +kernel
theorem dX3_letter_22 : decode cX3_letter 22 = .ok (.i2l, 1) := by decide +kernel
theorem dX3_letter_23 : decode cX3_letter 23 = .ok (.lmul, 1) := by decide +kernel
theorem dX3_letter_24 : decode cX3_letter 24 = .ok (.aload_n 0, 1) := by decide +kernel
theorem dX3_letter_25 : decode cX3_letter 25 = .ok (.getfield 18, 3) := by decide +kernel
theorem dX3_letter_28 : decode cX3_letter 28 = .ok (.i2l, 1) := by decide +kernel
theorem dX3_letter_29 : decode cX3_letter 29 = .ok (.ladd, 1) := by decide +kernel
theorem dX3_letter_30 : decode cX3_letter 30 = .ok (.lload_n 3, 1) := by decide +kernel
theorem dX3_letter_31 : decode cX3_letter 31 = .ok (.ladd, 1) := by decide +kernel
theorem dX3_letter_32 : decode cX3_letter 32 = .ok (.lstore 5, 2) := by decide +kernel
theorem dX3_letter_34 : decode cX3_letter 34 = .ok (.lload 5, 2) := by decide +kernel
theorem dX3_letter_36 : decode cX3_letter 36 = .ok (.aload_n 0, 1) := by decide +kernel
theorem dX3_letter_37 : decode cX3_letter 37 = .ok (.getfield 9, 3) := by decide +kernel
theorem dX3_letter_40 : decode cX3_letter 40 = .ok (.i2l, 1) := by decide +kernel
theorem dX3_letter_41 : decode cX3_letter 41 = .ok (.ladd, 1) := by decide +kernel
theorem dX3_letter_42 : decode cX3_letter 42 = .ok (.aload_n 0, 1) := by decide +kernel
theorem dX3_letter_43 : decode cX3_letter 43 = .ok (.getfield 15, 3) := by decide +kernel
theorem dX3_letter_46 : decode cX3_letter 46 = .ok (.i2l, 1) := by decide +kernel
theorem dX3_letter_47 : decode cX3_letter 47 = .ok (.invokestatic 21, 3) := by decide +kernel
theorem dX3_letter_50 : decode cX3_letter 50 = .ok (.lload 5, 2) := by decide +kernel
theorem dX3_letter_52 : decode cX3_letter 52 = .ok (.aload_n 0, 1) := by decide +kernel
theorem dX3_letter_53 : decode cX3_letter 53 = .ok (.getfield 15, 3) := by decide +kernel
theorem dX3_letter_56 : decode cX3_letter 56 = .ok (.i2l, 1) := by decide +kernel
theorem dX3_letter_57 : decode cX3_letter 57 = .ok (.invokestatic 21, 3) := by decide +kernel
theorem dX3_letter_60 : decode cX3_letter 60 = .ok (.lsub, 1) := by decide +kernel
theorem dX3_letter_61 : decode cX3_letter 61 = .ok (.l2i, 1) := by decide +kernel
theorem dX3_letter_62 : decode cX3_letter 62 = .ok (.ireturn, 1) := by decide +kernel
set_option maxRecDepth 20000 in
theorem ggX3_firstLetters_X3_letter : GoodIn wsX3_firstLetters wsX3_letter := goodIn_r _ [8, 9, 10, 11, 12, 13, 14, 25, 26, 27] (by decide +kernel) (by decide +kernel)
set_option maxRecDepth 20000 in
theorem gX3_firstLetters_X3_letter : GoodIn wsX3_firstLetters (wsV RX3 25 RX3 yX3_letter wsX3_letter) := goodIn_app (goodIn_of _ (by decide +kernel)) ggX3_firstLetters_X3_letter
set_option maxRecDepth 20000 in
theorem ggX3_firstLetters_X5_init : GoodIn wsX3_firstLetters wsX5_init := goodIn_r _ [17, 18, 19, 20, 21, 22, 23, 24] (by decide +kernel) (by decide +kernel)
set_option maxRecDepth 20000 in
theorem gX3_firstLetters_X5_init : GoodIn wsX3_firstLetters (wsX5_init) := ggX3_firstLetters_X5_init
theorem dX3_firstLetters_0 : decode cX3_firstLetters 0 = .ok (.lconst 0, 1) := by decide +kernel
theorem dX3_firstLetters_1 : decode cX3_firstLetters 1 = .ok (.lstore_n 3, 1) := by decide +kernel
theorem dX3_firstLetters_2 : decode cX3_firstLetters 2 = .ok (.iconst 0, 1) := by decide +kernel
theorem dX3_firstLetters_3 : decode cX3_firstLetters 3 = .ok (.istore 5, 2) := by decide +kernel
theorem dX3_firstLetters_5 : decode cX3_firstLetters 5 = .ok (.iload 5, 2) := by decide +kernel
theorem dX3_firstLetters_7 : decode cX3_firstLetters 7 = .ok (.iload_n 1, 1) := by decide +kernel
theorem dX3_firstLetters_8 : decode cX3_firstLetters 8 = .ok (.if_icmp .ge 22, 3) := by decide +kernel
theorem dX3_firstLetters_11 : decode cX3_firstLetters 11 = .ok (.lload_n 3, 1) := by decide +kernel
theorem dX3_firstLetters_12 : decode cX3_firstLetters 12 = .ok (.iconst 1, 1) := by decide +kernel
theorem dX3_firstLetters_13 : decode cX3_firstLetters 13 = .ok (.lshl, 1) := by decide +kernel
theorem dX3_firstLetters_14 : decode cX3_firstLetters 14 = .ok (.aload_n 0, 1) := by decide +kernel
theorem dX3_firstLetters_15 : decode cX3_firstLetters 15 = .ok (.iload 5, 2) := by decide +kernel
theorem dX3_firstLetters_17 : decode cX3_firstLetters 17 = .ok (.iload_n 2, 1) := by decide +kernel
theorem dX3_firstLetters_18 : decode cX3_firstLetters 18 = .ok (.invokevirtual 25, 3) := by decide +kernel
theorem dX3_firstLetters_21 : decode cX3_firstLetters 21 = .ok (.i2l, 1) := by decide +kernel
theorem dX3_firstLetters_22 : decode cX3_firstLetters 22 = .ok (.lor, 1) := by decide +kernel
theorem dX3_firstLetters_23 : decode cX3_firstLetters 23 = .ok (.lstore_n 3, 1) := by decide +kernel
theorem dX3_firstLetters_24 : decode cX3_firstLetters 24 = .ok (.iinc 5 1, 3) := by decide +kernel
theorem dX3_firstLetters_27 : decode cX3_firstLetters 27 = .ok (.goto (-22), 3) := by decide +kernel
theorem dX3_firstLetters_30 : decode cX3_firstLetters 30 = .ok (.new 29, 3) := by decide +kernel
theorem dX3_firstLetters_33 : decode cX3_firstLetters 33 = .ok (.dup, 1) := by decide +kernel
theorem dX3_firstLetters_34 : decode cX3_firstLetters 34 = .ok (.lload_n 3, 1) := by decide +kernel
theorem dX3_firstLetters_35 : decode cX3_firstLetters 35 = .ok (.iload_n 1, 1) := by decide +kernel
theorem dX3_firstLetters_36 : decode cX3_firstLetters 36 = .ok (.invokespecial 31, 3) := by decide +kernel
theorem dX3_firstLetters_39 : decode cX3_firstLetters 39 = .ok (.areturn, 1) := by decide +kernel
set_option maxRecDepth 20000 in
theorem ggX3_standardWord_X5_init : GoodIn wsX3_standardWord wsX5_init := goodIn_r _ [6, 7, 8, 9, 10, 11, 28, 29] (by decide +kernel) (by decide +kernel)
set_option maxRecDepth 20000 in
theorem gX3_standardWord_X5_init : GoodIn wsX3_standardWord (wsX5_init) := ggX3_standardWord_X5_init
set_option maxRecDepth 20000 in
theorem ggX3_standardWord_X3_term : GoodIn wsX3_standardWord wsX3_term := goodIn_r _ [16, 17, 18, 19, 20, 21, 30, 31, 32] (by decide +kernel) (by decide +kernel)
set_option maxRecDepth 20000 in
theorem gX3_standardWord_X3_term : GoodIn wsX3_standardWord (wsV RX3 34 RX3 yX3_term wsX3_term) := goodIn_app (goodIn_of _ (by decide +kernel)) ggX3_standardWord_X3_term
set_option maxRecDepth 20000 in
theorem ggX3_standardWord_X5_repeatedThen : GoodIn wsX3_standardWord wsX5_repeatedThen := goodIn_r _ [25, 11, 10, 26, 2, 3, 27, 5, 6, 7, 8, 9, 28, 29] (by decide +kernel) (by decide +kernel)
set_option maxRecDepth 20000 in
theorem gX3_standardWord_X5_repeatedThen : GoodIn wsX3_standardWord (wsV RX3 38 RX5 yX5_repeatedThen wsX5_repeatedThen) := goodIn_app (goodIn_of _ (by decide +kernel)) ggX3_standardWord_X5_repeatedThen
theorem dX3_standardWord_0 : decode cX3_standardWord 0 = .ok (.new 29, 3) := by decide +kernel
theorem dX3_standardWord_3 : decode cX3_standardWord 3 = .ok (.dup, 1) := by decide +kernel
theorem dX3_standardWord_4 : decode cX3_standardWord 4 = .ok (.lconst 1, 1) := by decide +kernel
theorem dX3_standardWord_5 : decode cX3_standardWord 5 = .ok (.iconst 1, 1) := by decide +kernel
theorem dX3_standardWord_6 : decode cX3_standardWord 6 = .ok (.invokespecial 31, 3) := by decide +kernel
theorem dX3_standardWord_9 : decode cX3_standardWord 9 = .ok (.astore_n 2, 1) := by decide +kernel
theorem dX3_standardWord_10 : decode cX3_standardWord 10 = .ok (.new 29, 3) := by decide +kernel
theorem dX3_standardWord_13 : decode cX3_standardWord 13 = .ok (.dup, 1) := by decide +kernel
theorem dX3_standardWord_14 : decode cX3_standardWord 14 = .ok (.lconst 0, 1) := by decide +kernel
theorem dX3_standardWord_15 : decode cX3_standardWord 15 = .ok (.iconst 1, 1) := by decide +kernel
theorem dX3_standardWord_16 : decode cX3_standardWord 16 = .ok (.invokespecial 31, 3) := by decide +kernel
theorem dX3_standardWord_19 : decode cX3_standardWord 19 = .ok (.astore_n 3, 1) := by decide +kernel
theorem dX3_standardWord_20 : decode cX3_standardWord 20 = .ok (.iload_n 1, 1) := by decide +kernel
theorem dX3_standardWord_21 : decode cX3_standardWord 21 = .ok (.ifCond .ge 5, 3) := by decide +kernel
theorem dX3_standardWord_24 : decode cX3_standardWord 24 = .ok (.aload_n 2, 1) := by decide +kernel
theorem dX3_standardWord_25 : decode cX3_standardWord 25 = .ok (.areturn, 1) := by decide +kernel
theorem dX3_standardWord_26 : decode cX3_standardWord 26 = .ok (.iconst 1, 1) := by decide +kernel
theorem dX3_standardWord_27 : decode cX3_standardWord 27 = .ok (.istore 4, 2) := by decide +kernel
theorem dX3_standardWord_29 : decode cX3_standardWord 29 = .ok (.iload 4, 2) := by decide +kernel
theorem dX3_standardWord_31 : decode cX3_standardWord 31 = .ok (.iload_n 1, 1) := by decide +kernel
theorem dX3_standardWord_32 : decode cX3_standardWord 32 = .ok (.if_icmp .gt 55, 3) := by decide +kernel
theorem dX3_standardWord_35 : decode cX3_standardWord 35 = .ok (.iload 4, 2) := by decide +kernel
theorem dX3_standardWord_37 : decode cX3_standardWord 37 = .ok (.iconst 1, 1) := by decide +kernel
theorem dX3_standardWord_38 : decode cX3_standardWord 38 = .ok (.if_icmp .ne 14, 3) := by decide +kernel
theorem dX3_standardWord_41 : decode cX3_standardWord 41 = .ok (.aload_n 0, 1) := by decide +kernel
theorem dX3_standardWord_42 : decode cX3_standardWord 42 = .ok (.iload 4, 2) := by decide +kernel
theorem dX3_standardWord_44 : decode cX3_standardWord 44 = .ok (.invokevirtual 34, 3) := by decide +kernel
theorem dX3_standardWord_47 : decode cX3_standardWord 47 = .ok (.iconst 1, 1) := by decide +kernel
theorem dX3_standardWord_48 : decode cX3_standardWord 48 = .ok (.isub, 1) := by decide +kernel
theorem dX3_standardWord_49 : decode cX3_standardWord 49 = .ok (.goto 9, 3) := by decide +kernel
theorem dX3_standardWord_52 : decode cX3_standardWord 52 = .ok (.aload_n 0, 1) := by decide +kernel
theorem dX3_standardWord_53 : decode cX3_standardWord 53 = .ok (.iload 4, 2) := by decide +kernel
theorem dX3_standardWord_55 : decode cX3_standardWord 55 = .ok (.invokevirtual 34, 3) := by decide +kernel
theorem dX3_standardWord_58 : decode cX3_standardWord 58 = .ok (.istore 5, 2) := by decide +kernel
theorem dX3_standardWord_60 : decode cX3_standardWord 60 = .ok (.aload_n 3, 1) := by decide +kernel
theorem dX3_standardWord_61 : decode cX3_standardWord 61 = .ok (.iload 5, 2) := by decide +kernel
theorem dX3_standardWord_63 : decode cX3_standardWord 63 = .ok (.aload_n 2, 1) := by decide +kernel
theorem dX3_standardWord_64 : decode cX3_standardWord 64 = .ok (.invokevirtual 38, 3) := by decide +kernel
theorem dX3_standardWord_67 : decode cX3_standardWord 67 = .ok (.astore 6, 2) := by decide +kernel
theorem dX3_standardWord_69 : decode cX3_standardWord 69 = .ok (.aload 6, 2) := by decide +kernel
theorem dX3_standardWord_71 : decode cX3_standardWord 71 = .ok (.ifnonnull 5, 3) := by decide +kernel
theorem dX3_standardWord_74 : decode cX3_standardWord 74 = .ok (.aconst_null, 1) := by decide +kernel
theorem dX3_standardWord_75 : decode cX3_standardWord 75 = .ok (.areturn, 1) := by decide +kernel
theorem dX3_standardWord_76 : decode cX3_standardWord 76 = .ok (.aload_n 3, 1) := by decide +kernel
theorem dX3_standardWord_77 : decode cX3_standardWord 77 = .ok (.astore_n 2, 1) := by decide +kernel
theorem dX3_standardWord_78 : decode cX3_standardWord 78 = .ok (.aload 6, 2) := by decide +kernel
theorem dX3_standardWord_80 : decode cX3_standardWord 80 = .ok (.astore_n 3, 1) := by decide +kernel
theorem dX3_standardWord_81 : decode cX3_standardWord 81 = .ok (.iinc 4 1, 3) := by decide +kernel
theorem dX3_standardWord_84 : decode cX3_standardWord 84 = .ok (.goto (-55), 3) := by decide +kernel
theorem dX3_standardWord_87 : decode cX3_standardWord 87 = .ok (.aload_n 3, 1) := by decide +kernel
theorem dX3_standardWord_88 : decode cX3_standardWord 88 = .ok (.areturn, 1) := by decide +kernel
theorem dX4_init_0 : decode cX4_init 0 = .ok (.aload_n 0, 1) := by decide +kernel
theorem dX4_init_1 : decode cX4_init 1 = .ok (.invokespecial 1, 3) := by decide +kernel
theorem dX4_init_4 : decode cX4_init 4 = .ok (.aload_n 0, 1) := by decide +kernel
theorem dX4_init_5 : decode cX4_init 5 = .ok (.aload_n 1, 1) := by decide +kernel
theorem dX4_init_6 : decode cX4_init 6 = .ok (.putfield 7, 3) := by decide +kernel
theorem dX4_init_9 : decode cX4_init 9 = .ok (.aload_n 0, 1) := by decide +kernel
theorem dX4_init_10 : decode cX4_init 10 = .ok (.aload_n 2, 1) := by decide +kernel
theorem dX4_init_11 : decode cX4_init 11 = .ok (.putfield 13, 3) := by decide +kernel
theorem dX4_init_14 : decode cX4_init 14 = .ok (.return_, 1) := by decide +kernel
theorem dX5_init_0 : decode cX5_init 0 = .ok (.aload_n 0, 1) := by decide +kernel
theorem dX5_init_1 : decode cX5_init 1 = .ok (.invokespecial 3, 3) := by decide +kernel
theorem dX5_init_4 : decode cX5_init 4 = .ok (.aload_n 0, 1) := by decide +kernel
theorem dX5_init_5 : decode cX5_init 5 = .ok (.lload_n 1, 1) := by decide +kernel
theorem dX5_init_6 : decode cX5_init 6 = .ok (.putfield 9, 3) := by decide +kernel
theorem dX5_init_9 : decode cX5_init 9 = .ok (.aload_n 0, 1) := by decide +kernel
theorem dX5_init_10 : decode cX5_init 10 = .ok (.iload_n 3, 1) := by decide +kernel
theorem dX5_init_11 : decode cX5_init 11 = .ok (.putfield 15, 3) := by decide +kernel
theorem dX5_init_14 : decode cX5_init 14 = .ok (.return_, 1) := by decide +kernel
set_option maxRecDepth 20000 in
theorem ggX5_letter_X5_factor : GoodIn wsX5_letter wsX5_factor := goodIn_r _ [5, 6, 7, 8, 9] (by decide +kernel) (by decide +kernel)
set_option maxRecDepth 20000 in
theorem gX5_letter_X5_factor : GoodIn wsX5_letter (wsV RX5 19 RX5 yX5_factor wsX5_factor) := goodIn_app (goodIn_of _ (by decide +kernel)) ggX5_letter_X5_factor
theorem dX5_letter_0 : decode cX5_letter 0 = .ok (.aload_n 0, 1) := by decide +kernel
theorem dX5_letter_1 : decode cX5_letter 1 = .ok (.iload_n 1, 1) := by decide +kernel
theorem dX5_letter_2 : decode cX5_letter 2 = .ok (.iconst 1, 1) := by decide +kernel
theorem dX5_letter_3 : decode cX5_letter 3 = .ok (.invokevirtual 19, 3) := by decide +kernel
theorem dX5_letter_6 : decode cX5_letter 6 = .ok (.l2i, 1) := by decide +kernel
theorem dX5_letter_7 : decode cX5_letter 7 = .ok (.ireturn, 1) := by decide +kernel
theorem dX5_factor_0 : decode cX5_factor 0 = .ok (.aload_n 0, 1) := by decide +kernel
theorem dX5_factor_1 : decode cX5_factor 1 = .ok (.getfield 9, 3) := by decide +kernel
theorem dX5_factor_4 : decode cX5_factor 4 = .ok (.aload_n 0, 1) := by decide +kernel
theorem dX5_factor_5 : decode cX5_factor 5 = .ok (.getfield 15, 3) := by decide +kernel
theorem dX5_factor_8 : decode cX5_factor 8 = .ok (.iload_n 1, 1) := by decide +kernel
theorem dX5_factor_9 : decode cX5_factor 9 = .ok (.isub, 1) := by decide +kernel
theorem dX5_factor_10 : decode cX5_factor 10 = .ok (.iload_n 2, 1) := by decide +kernel
theorem dX5_factor_11 : decode cX5_factor 11 = .ok (.isub, 1) := by decide +kernel
theorem dX5_factor_12 : decode cX5_factor 12 = .ok (.lushr, 1) := by decide +kernel
theorem dX5_factor_13 : decode cX5_factor 13 = .ok (.lconst 1, 1) := by decide +kernel
theorem dX5_factor_14 : decode cX5_factor 14 = .ok (.iload_n 2, 1) := by decide +kernel
theorem dX5_factor_15 : decode cX5_factor 15 = .ok (.lshl, 1) := by decide +kernel
theorem dX5_factor_16 : decode cX5_factor 16 = .ok (.lconst 1, 1) := by decide +kernel
theorem dX5_factor_17 : decode cX5_factor 17 = .ok (.lsub, 1) := by decide +kernel
theorem dX5_factor_18 : decode cX5_factor 18 = .ok (.land, 1) := by decide +kernel
theorem dX5_factor_19 : decode cX5_factor 19 = .ok (.lreturn, 1) := by decide +kernel
set_option maxRecDepth 20000 in
theorem ggX5_ones_J13_bitCount_95d88 : GoodIn wsX5_ones wsJ13_bitCount_95d88 := goodIn_r _ [5, 6, 7, 8] (by decide +kernel) (by decide +kernel)
set_option maxRecDepth 20000 in
theorem gX5_ones_J13_bitCount_95d88 : GoodIn wsX5_ones (va_wsS RX5 23 yJ13_bitCount_95d88 wsJ13_bitCount_95d88) := goodIn_app (goodIn_of _ (by decide +kernel)) ggX5_ones_J13_bitCount_95d88
theorem dX5_ones_0 : decode cX5_ones 0 = .ok (.aload_n 0, 1) := by decide +kernel
theorem dX5_ones_1 : decode cX5_ones 1 = .ok (.getfield 9, 3) := by decide +kernel
theorem dX5_ones_4 : decode cX5_ones 4 = .ok (.invokestatic 23, 3) := by decide +kernel
theorem dX5_ones_7 : decode cX5_ones 7 = .ok (.ireturn, 1) := by decide +kernel
set_option maxRecDepth 20000 in
theorem ggX5_reversed_X5_init : GoodIn wsX5_reversed wsX5_init := goodIn_r _ [8, 9, 10, 11, 2, 1, 12, 13] (by decide +kernel) (by decide +kernel)
set_option maxRecDepth 20000 in
theorem gX5_reversed_X5_init : GoodIn wsX5_reversed (wsX5_init) := ggX5_reversed_X5_init
theorem dX5_reversed_0 : decode cX5_reversed 0 = .ok (.lconst 0, 1) := by decide +kernel
theorem dX5_reversed_1 : decode cX5_reversed 1 = .ok (.lstore_n 1, 1) := by decide +kernel
theorem dX5_reversed_2 : decode cX5_reversed 2 = .ok (.iconst 0, 1) := by decide +kernel
theorem dX5_reversed_3 : decode cX5_reversed 3 = .ok (.istore_n 3, 1) := by decide +kernel
theorem dX5_reversed_4 : decode cX5_reversed 4 = .ok (.iload_n 3, 1) := by decide +kernel
theorem dX5_reversed_5 : decode cX5_reversed 5 = .ok (.aload_n 0, 1) := by decide +kernel
theorem dX5_reversed_6 : decode cX5_reversed 6 = .ok (.getfield 15, 3) := by decide +kernel
theorem dX5_reversed_9 : decode cX5_reversed 9 = .ok (.if_icmp .ge 22, 3) := by decide +kernel
theorem dX5_reversed_12 : decode cX5_reversed 12 = .ok (.lload_n 1, 1) := by decide +kernel
theorem dX5_reversed_13 : decode cX5_reversed 13 = .ok (.iconst 1, 1) := by decide +kernel
theorem dX5_reversed_14 : decode cX5_reversed 14 = .ok (.lshl, 1) := by decide +kernel
theorem dX5_reversed_15 : decode cX5_reversed 15 = .ok (.aload_n 0, 1) := by decide +kernel
theorem dX5_reversed_16 : decode cX5_reversed 16 = .ok (.getfield 9, 3) := by decide +kernel
theorem dX5_reversed_19 : decode cX5_reversed 19 = .ok (.iload_n 3, 1) := by decide +kernel
theorem dX5_reversed_20 : decode cX5_reversed 20 = .ok (.lushr, 1) := by decide +kernel
theorem dX5_reversed_21 : decode cX5_reversed 21 = .ok (.lconst 1, 1) := by decide +kernel
theorem dX5_reversed_22 : decode cX5_reversed 22 = .ok (.land, 1) := by decide +kernel
theorem dX5_reversed_23 : decode cX5_reversed 23 = .ok (.lor, 1) := by decide +kernel
theorem dX5_reversed_24 : decode cX5_reversed 24 = .ok (.lstore_n 1, 1) := by decide +kernel
theorem dX5_reversed_25 : decode cX5_reversed 25 = .ok (.iinc 3 1, 3) := by decide +kernel
theorem dX5_reversed_28 : decode cX5_reversed 28 = .ok (.goto (-24), 3) := by decide +kernel
theorem dX5_reversed_31 : decode cX5_reversed 31 = .ok (.new 10, 3) := by decide +kernel
theorem dX5_reversed_34 : decode cX5_reversed 34 = .ok (.dup, 1) := by decide +kernel
theorem dX5_reversed_35 : decode cX5_reversed 35 = .ok (.lload_n 1, 1) := by decide +kernel
theorem dX5_reversed_36 : decode cX5_reversed 36 = .ok (.aload_n 0, 1) := by decide +kernel
theorem dX5_reversed_37 : decode cX5_reversed 37 = .ok (.getfield 15, 3) := by decide +kernel
theorem dX5_reversed_40 : decode cX5_reversed 40 = .ok (.invokespecial 29, 3) := by decide +kernel
theorem dX5_reversed_43 : decode cX5_reversed 43 = .ok (.areturn, 1) := by decide +kernel
set_option maxRecDepth 20000 in
theorem ggX5_repeatedThen_X5_init : GoodIn wsX5_repeatedThen wsX5_init := goodIn_r _ [8, 9, 10, 11, 2, 1, 12, 13] (by decide +kernel) (by decide +kernel)
set_option maxRecDepth 20000 in
theorem gX5_repeatedThen_X5_init : GoodIn wsX5_repeatedThen (wsX5_init) := ggX5_repeatedThen_X5_init
theorem dX5_repeatedThen_0 : decode cX5_repeatedThen 0 = .ok (.iload_n 1, 1) := by decide +kernel
theorem dX5_repeatedThen_1 : decode cX5_repeatedThen 1 = .ok (.aload_n 0, 1) := by decide +kernel
theorem dX5_repeatedThen_2 : decode cX5_repeatedThen 2 = .ok (.getfield 15, 3) := by decide +kernel
theorem dX5_repeatedThen_5 : decode cX5_repeatedThen 5 = .ok (.imul, 1) := by decide +kernel
theorem dX5_repeatedThen_6 : decode cX5_repeatedThen 6 = .ok (.aload_n 2, 1) := by decide +kernel
theorem dX5_repeatedThen_7 : decode cX5_repeatedThen 7 = .ok (.getfield 15, 3) := by decide +kernel
theorem dX5_repeatedThen_10 : decode cX5_repeatedThen 10 = .ok (.iadd, 1) := by decide +kernel
theorem dX5_repeatedThen_11 : decode cX5_repeatedThen 11 = .ok (.istore_n 3, 1) := by decide +kernel
theorem dX5_repeatedThen_12 : decode cX5_repeatedThen 12 = .ok (.iload_n 3, 1) := by decide +kernel
theorem dX5_repeatedThen_13 : decode cX5_repeatedThen 13 = .ok (.bipush 60, 2) := by decide +kernel
theorem dX5_repeatedThen_15 : decode cX5_repeatedThen 15 = .ok (.if_icmp .le 5, 3) := by decide +kernel
theorem dX5_repeatedThen_18 : decode cX5_repeatedThen 18 = .ok (.aconst_null, 1) := by decide +kernel
theorem dX5_repeatedThen_19 : decode cX5_repeatedThen 19 = .ok (.areturn, 1) := by decide +kernel
theorem dX5_repeatedThen_20 : decode cX5_repeatedThen 20 = .ok (.lconst 0, 1) := by decide +kernel
theorem dX5_repeatedThen_21 : decode cX5_repeatedThen 21 = .ok (.lstore 4, 2) := by decide +kernel
theorem dX5_repeatedThen_23 : decode cX5_repeatedThen 23 = .ok (.iconst 0, 1) := by decide +kernel
theorem dX5_repeatedThen_24 : decode cX5_repeatedThen 24 = .ok (.istore 6, 2) := by decide +kernel
theorem dX5_repeatedThen_26 : decode cX5_repeatedThen 26 = .ok (.iload 6, 2) := by decide +kernel
theorem dX5_repeatedThen_28 : decode cX5_repeatedThen 28 = .ok (.iload_n 1, 1) := by decide +kernel
theorem dX5_repeatedThen_29 : decode cX5_repeatedThen 29 = .ok (.if_icmp .ge 23, 3) := by decide +kernel
theorem dX5_repeatedThen_32 : decode cX5_repeatedThen 32 = .ok (.lload 4, 2) := by decide +kernel
theorem dX5_repeatedThen_34 : decode cX5_repeatedThen 34 = .ok (.aload_n 0, 1) := by decide +kernel
theorem dX5_repeatedThen_35 : decode cX5_repeatedThen 35 = .ok (.getfield 15, 3) := by decide +kernel
theorem dX5_repeatedThen_38 : decode cX5_repeatedThen 38 = .ok (.lshl, 1) := by decide +kernel
theorem dX5_repeatedThen_39 : decode cX5_repeatedThen 39 = .ok (.aload_n 0, 1) := by decide +kernel
theorem dX5_repeatedThen_40 : decode cX5_repeatedThen 40 = .ok (.getfield 9, 3) := by decide +kernel
theorem dX5_repeatedThen_43 : decode cX5_repeatedThen 43 = .ok (.lor, 1) := by decide +kernel
theorem dX5_repeatedThen_44 : decode cX5_repeatedThen 44 = .ok (.lstore 4, 2) := by decide +kernel
theorem dX5_repeatedThen_46 : decode cX5_repeatedThen 46 = .ok (.iinc 6 1, 3) := by decide +kernel
theorem dX5_repeatedThen_49 : decode cX5_repeatedThen 49 = .ok (.goto (-23), 3) := by decide +kernel
theorem dX5_repeatedThen_52 : decode cX5_repeatedThen 52 = .ok (.new 10, 3) := by decide +kernel
theorem dX5_repeatedThen_55 : decode cX5_repeatedThen 55 = .ok (.dup, 1) := by decide +kernel
theorem dX5_repeatedThen_56 : decode cX5_repeatedThen 56 = .ok (.lload 4, 2) := by decide +kernel
theorem dX5_repeatedThen_58 : decode cX5_repeatedThen 58 = .ok (.aload_n 2, 1) := by decide +kernel
theorem dX5_repeatedThen_59 : decode cX5_repeatedThen 59 = .ok (.getfield 15, 3) := by decide +kernel
theorem dX5_repeatedThen_62 : decode cX5_repeatedThen 62 = .ok (.lshl, 1) := by decide +kernel
theorem dX5_repeatedThen_63 : decode cX5_repeatedThen 63 = .ok (.aload_n 2, 1) := by decide +kernel
theorem dX5_repeatedThen_64 : decode cX5_repeatedThen 64 = .ok (.getfield 9, 3) := by decide +kernel
theorem dX5_repeatedThen_67 : decode cX5_repeatedThen 67 = .ok (.lor, 1) := by decide +kernel
theorem dX5_repeatedThen_68 : decode cX5_repeatedThen 68 = .ok (.iload_n 3, 1) := by decide +kernel
theorem dX5_repeatedThen_69 : decode cX5_repeatedThen 69 = .ok (.invokespecial 29, 3) := by decide +kernel
theorem dX5_repeatedThen_72 : decode cX5_repeatedThen 72 = .ok (.areturn, 1) := by decide +kernel
set_option maxRecDepth 20000 in
theorem ggX5_isNew_X5_factor : GoodIn wsX5_isNew wsX5_factor := goodIn_r _ [5, 6, 7, 8, 9] (by decide +kernel) (by decide +kernel)
set_option maxRecDepth 20000 in
theorem gX5_isNew_X5_factor : GoodIn wsX5_isNew (wsV RX5 19 RX5 yX5_factor wsX5_factor) := goodIn_app (goodIn_of _ (by decide +kernel)) ggX5_isNew_X5_factor
theorem dX5_isNew_0 : decode cX5_isNew 0 = .ok (.aload_n 0, 1) := by decide +kernel
theorem dX5_isNew_1 : decode cX5_isNew 1 = .ok (.iload_n 1, 1) := by decide +kernel
theorem dX5_isNew_2 : decode cX5_isNew 2 = .ok (.iload_n 2, 1) := by decide +kernel
theorem dX5_isNew_3 : decode cX5_isNew 3 = .ok (.invokevirtual 19, 3) := by decide +kernel
theorem dX5_isNew_6 : decode cX5_isNew 6 = .ok (.lstore_n 3, 1) := by decide +kernel
theorem dX5_isNew_7 : decode cX5_isNew 7 = .ok (.iconst 0, 1) := by decide +kernel
theorem dX5_isNew_8 : decode cX5_isNew 8 = .ok (.istore 5, 2) := by decide +kernel
theorem dX5_isNew_10 : decode cX5_isNew 10 = .ok (.iload 5, 2) := by decide +kernel
theorem dX5_isNew_12 : decode cX5_isNew 12 = .ok (.iload_n 1, 1) := by decide +kernel
theorem dX5_isNew_13 : decode cX5_isNew 13 = .ok (.if_icmp .ge 23, 3) := by decide +kernel
theorem dX5_isNew_16 : decode cX5_isNew 16 = .ok (.aload_n 0, 1) := by decide +kernel
theorem dX5_isNew_17 : decode cX5_isNew 17 = .ok (.iload 5, 2) := by decide +kernel
theorem dX5_isNew_19 : decode cX5_isNew 19 = .ok (.iload_n 2, 1) := by decide +kernel
theorem dX5_isNew_20 : decode cX5_isNew 20 = .ok (.invokevirtual 19, 3) := by decide +kernel
theorem dX5_isNew_23 : decode cX5_isNew 23 = .ok (.lload_n 3, 1) := by decide +kernel
theorem dX5_isNew_24 : decode cX5_isNew 24 = .ok (.lcmp, 1) := by decide +kernel
theorem dX5_isNew_25 : decode cX5_isNew 25 = .ok (.ifCond .ne 5, 3) := by decide +kernel
theorem dX5_isNew_28 : decode cX5_isNew 28 = .ok (.iconst 0, 1) := by decide +kernel
theorem dX5_isNew_29 : decode cX5_isNew 29 = .ok (.ireturn, 1) := by decide +kernel
theorem dX5_isNew_30 : decode cX5_isNew 30 = .ok (.iinc 5 1, 3) := by decide +kernel
theorem dX5_isNew_33 : decode cX5_isNew 33 = .ok (.goto (-23), 3) := by decide +kernel
theorem dX5_isNew_36 : decode cX5_isNew 36 = .ok (.iconst 1, 1) := by decide +kernel
theorem dX5_isNew_37 : decode cX5_isNew 37 = .ok (.ireturn, 1) := by decide +kernel
set_option maxRecDepth 20000 in
theorem ggX5_differentFactors_X5_isNew : GoodIn wsX5_differentFactors wsX5_isNew := goodIn_r _ [6, 7, 8, 9, 5, 10, 11, 1, 12, 13] (by decide +kernel) (by decide +kernel)
set_option maxRecDepth 20000 in
theorem gX5_differentFactors_X5_isNew : GoodIn wsX5_differentFactors (wsV RX5 32 RX5 yX5_isNew wsX5_isNew) := goodIn_app (goodIn_of _ (by decide +kernel)) ggX5_differentFactors_X5_isNew
theorem dX5_differentFactors_0 : decode cX5_differentFactors 0 = .ok (.iconst 0, 1) := by decide +kernel
theorem dX5_differentFactors_1 : decode cX5_differentFactors 1 = .ok (.istore_n 2, 1) := by decide +kernel
theorem dX5_differentFactors_2 : decode cX5_differentFactors 2 = .ok (.iconst 0, 1) := by decide +kernel
theorem dX5_differentFactors_3 : decode cX5_differentFactors 3 = .ok (.istore_n 3, 1) := by decide +kernel
theorem dX5_differentFactors_4 : decode cX5_differentFactors 4 = .ok (.iload_n 3, 1) := by decide +kernel
theorem dX5_differentFactors_5 : decode cX5_differentFactors 5 = .ok (.aload_n 0, 1) := by decide +kernel
theorem dX5_differentFactors_6 : decode cX5_differentFactors 6 = .ok (.getfield 15, 3) := by decide +kernel
theorem dX5_differentFactors_9 : decode cX5_differentFactors 9 = .ok (.iload_n 1, 1) := by decide +kernel
theorem dX5_differentFactors_10 : decode cX5_differentFactors 10 = .ok (.isub, 1) := by decide +kernel
theorem dX5_differentFactors_11 : decode cX5_differentFactors 11 = .ok (.if_icmp .gt 21, 3) := by decide +kernel
theorem dX5_differentFactors_14 : decode cX5_differentFactors 14 = .ok (.aload_n 0, 1) := by decide +kernel
theorem dX5_differentFactors_15 : decode cX5_differentFactors 15 = .ok (.iload_n 3, 1) := by decide +kernel
theorem dX5_differentFactors_16 : decode cX5_differentFactors 16 = .ok (.iload_n 1, 1) := by decide +kernel
theorem dX5_differentFactors_17 : decode cX5_differentFactors 17 = .ok (.invokevirtual 32, 3) := by decide +kernel
theorem dX5_differentFactors_20 : decode cX5_differentFactors 20 = .ok (.ifCond .eq 6, 3) := by decide +kernel
theorem dX5_differentFactors_23 : decode cX5_differentFactors 23 = .ok (.iinc 2 1, 3) := by decide +kernel
theorem dX5_differentFactors_26 : decode cX5_differentFactors 26 = .ok (.iinc 3 1, 3) := by decide +kernel
theorem dX5_differentFactors_29 : decode cX5_differentFactors 29 = .ok (.goto (-25), 3) := by decide +kernel
theorem dX5_differentFactors_32 : decode cX5_differentFactors 32 = .ok (.iload_n 2, 1) := by decide +kernel
theorem dX5_differentFactors_33 : decode cX5_differentFactors 33 = .ok (.ireturn, 1) := by decide +kernel
set_option maxRecDepth 20000 in
theorem ggX5_listedFactor_X5_nextFactor : GoodIn wsX5_listedFactor wsX5_nextFactor := goodIn_r _ [7, 2, 1, 8, 9, 10, 6, 11, 12, 13, 14] (by decide +kernel) (by decide +kernel)
set_option maxRecDepth 20000 in
theorem gX5_listedFactor_X5_nextFactor : GoodIn wsX5_listedFactor (wsV RX5 38 RX5 yX5_nextFactor wsX5_nextFactor) := goodIn_app (goodIn_of _ (by decide +kernel)) ggX5_listedFactor_X5_nextFactor
theorem dX5_listedFactor_0 : decode cX5_listedFactor 0 = .ok (.iload_n 2, 1) := by decide +kernel
theorem dX5_listedFactor_1 : decode cX5_listedFactor 1 = .ok (.aload_n 0, 1) := by decide +kernel
theorem dX5_listedFactor_2 : decode cX5_listedFactor 2 = .ok (.getfield 15, 3) := by decide +kernel
theorem dX5_listedFactor_5 : decode cX5_listedFactor 5 = .ok (.if_icmp .lt 7, 3) := by decide +kernel
theorem dX5_listedFactor_8 : decode cX5_listedFactor 8 = .ok (.ldc2_w 36, 3) := by decide +kernel
theorem dX5_listedFactor_11 : decode cX5_listedFactor 11 = .ok (.lreturn, 1) := by decide +kernel
theorem dX5_listedFactor_12 : decode cX5_listedFactor 12 = .ok (.aload_n 0, 1) := by decide +kernel
theorem dX5_listedFactor_13 : decode cX5_listedFactor 13 = .ok (.iload_n 1, 1) := by decide +kernel
theorem dX5_listedFactor_14 : decode cX5_listedFactor 14 = .ok (.ldc2_w 36, 3) := by decide +kernel
theorem dX5_listedFactor_17 : decode cX5_listedFactor 17 = .ok (.invokevirtual 38, 3) := by decide +kernel
theorem dX5_listedFactor_20 : decode cX5_listedFactor 20 = .ok (.lstore_n 3, 1) := by decide +kernel
theorem dX5_listedFactor_21 : decode cX5_listedFactor 21 = .ok (.iconst 0, 1) := by decide +kernel
theorem dX5_listedFactor_22 : decode cX5_listedFactor 22 = .ok (.istore 5, 2) := by decide +kernel
theorem dX5_listedFactor_24 : decode cX5_listedFactor 24 = .ok (.iload 5, 2) := by decide +kernel
theorem dX5_listedFactor_26 : decode cX5_listedFactor 26 = .ok (.iload_n 2, 1) := by decide +kernel
theorem dX5_listedFactor_27 : decode cX5_listedFactor 27 = .ok (.if_icmp .ge 24, 3) := by decide +kernel
theorem dX5_listedFactor_30 : decode cX5_listedFactor 30 = .ok (.lload_n 3, 1) := by decide +kernel
theorem dX5_listedFactor_31 : decode cX5_listedFactor 31 = .ok (.ldc2_w 36, 3) := by decide +kernel
theorem dX5_listedFactor_34 : decode cX5_listedFactor 34 = .ok (.lcmp, 1) := by decide +kernel
theorem dX5_listedFactor_35 : decode cX5_listedFactor 35 = .ok (.ifCond .eq 16, 3) := by decide +kernel
theorem dX5_listedFactor_38 : decode cX5_listedFactor 38 = .ok (.aload_n 0, 1) := by decide +kernel
theorem dX5_listedFactor_39 : decode cX5_listedFactor 39 = .ok (.iload_n 1, 1) := by decide +kernel
theorem dX5_listedFactor_40 : decode cX5_listedFactor 40 = .ok (.lload_n 3, 1) := by decide +kernel
theorem dX5_listedFactor_41 : decode cX5_listedFactor 41 = .ok (.invokevirtual 38, 3) := by decide +kernel
theorem dX5_listedFactor_44 : decode cX5_listedFactor 44 = .ok (.lstore_n 3, 1) := by decide +kernel
theorem dX5_listedFactor_45 : decode cX5_listedFactor 45 = .ok (.iinc 5 1, 3) := by decide +kernel
theorem dX5_listedFactor_48 : decode cX5_listedFactor 48 = .ok (.goto (-24), 3) := by decide +kernel
theorem dX5_listedFactor_51 : decode cX5_listedFactor 51 = .ok (.lload_n 3, 1) := by decide +kernel
theorem dX5_listedFactor_52 : decode cX5_listedFactor 52 = .ok (.lreturn, 1) := by decide +kernel
set_option maxRecDepth 20000 in
theorem ggX5_nextFactor_X5_factor : GoodIn wsX5_nextFactor wsX5_factor := goodIn_r _ [7, 8, 2, 9, 10] (by decide +kernel) (by decide +kernel)
set_option maxRecDepth 20000 in
theorem gX5_nextFactor_X5_factor : GoodIn wsX5_nextFactor (wsV RX5 19 RX5 yX5_factor wsX5_factor) := goodIn_app (goodIn_of _ (by decide +kernel)) ggX5_nextFactor_X5_factor
theorem dX5_nextFactor_0 : decode cX5_nextFactor 0 = .ok (.ldc2_w 36, 3) := by decide +kernel
theorem dX5_nextFactor_3 : decode cX5_nextFactor 3 = .ok (.lstore 4, 2) := by decide +kernel
theorem dX5_nextFactor_5 : decode cX5_nextFactor 5 = .ok (.iconst 0, 1) := by decide +kernel
theorem dX5_nextFactor_6 : decode cX5_nextFactor 6 = .ok (.istore 6, 2) := by decide +kernel
theorem dX5_nextFactor_8 : decode cX5_nextFactor 8 = .ok (.iload 6, 2) := by decide +kernel
theorem dX5_nextFactor_10 : decode cX5_nextFactor 10 = .ok (.aload_n 0, 1) := by decide +kernel
theorem dX5_nextFactor_11 : decode cX5_nextFactor 11 = .ok (.getfield 15, 3) := by decide +kernel
theorem dX5_nextFactor_14 : decode cX5_nextFactor 14 = .ok (.iload_n 1, 1) := by decide +kernel
theorem dX5_nextFactor_15 : decode cX5_nextFactor 15 = .ok (.isub, 1) := by decide +kernel
theorem dX5_nextFactor_16 : decode cX5_nextFactor 16 = .ok (.if_icmp .gt 46, 3) := by decide +kernel
theorem dX5_nextFactor_19 : decode cX5_nextFactor 19 = .ok (.aload_n 0, 1) := by decide +kernel
theorem dX5_nextFactor_20 : decode cX5_nextFactor 20 = .ok (.iload 6, 2) := by decide +kernel
theorem dX5_nextFactor_22 : decode cX5_nextFactor 22 = .ok (.iload_n 1, 1) := by decide +kernel
theorem dX5_nextFactor_23 : decode cX5_nextFactor 23 = .ok (.invokevirtual 19, 3) := by decide +kernel
theorem dX5_nextFactor_26 : decode cX5_nextFactor 26 = .ok (.lstore 7, 2) := by decide +kernel
theorem dX5_nextFactor_28 : decode cX5_nextFactor 28 = .ok (.lload 7, 2) := by decide +kernel
theorem dX5_nextFactor_30 : decode cX5_nextFactor 30 = .ok (.lload_n 2, 1) := by decide +kernel
theorem dX5_nextFactor_31 : decode cX5_nextFactor 31 = .ok (.lcmp, 1) := by decide +kernel
theorem dX5_nextFactor_32 : decode cX5_nextFactor 32 = .ok (.ifCond .le 24, 3) := by decide +kernel
theorem dX5_nextFactor_35 : decode cX5_nextFactor 35 = .ok (.lload 4, 2) := by decide +kernel
theorem dX5_nextFactor_37 : decode cX5_nextFactor 37 = .ok (.ldc2_w 36, 3) := by decide +kernel
theorem dX5_nextFactor_40 : decode cX5_nextFactor 40 = .ok (.lcmp, 1) := by decide +kernel
theorem dX5_nextFactor_41 : decode cX5_nextFactor 41 = .ok (.ifCond .eq 11, 3) := by decide +kernel
theorem dX5_nextFactor_44 : decode cX5_nextFactor 44 = .ok (.lload 7, 2) := by decide +kernel
theorem dX5_nextFactor_46 : decode cX5_nextFactor 46 = .ok (.lload 4, 2) := by decide +kernel
theorem dX5_nextFactor_48 : decode cX5_nextFactor 48 = .ok (.lcmp, 1) := by decide +kernel
theorem dX5_nextFactor_49 : decode cX5_nextFactor 49 = .ok (.ifCond .ge 7, 3) := by decide +kernel
theorem dX5_nextFactor_52 : decode cX5_nextFactor 52 = .ok (.lload 7, 2) := by decide +kernel
theorem dX5_nextFactor_54 : decode cX5_nextFactor 54 = .ok (.lstore 4, 2) := by decide +kernel
theorem dX5_nextFactor_56 : decode cX5_nextFactor 56 = .ok (.iinc 6 1, 3) := by decide +kernel
theorem dX5_nextFactor_59 : decode cX5_nextFactor 59 = .ok (.goto (-51), 3) := by decide +kernel
theorem dX5_nextFactor_62 : decode cX5_nextFactor 62 = .ok (.lload 4, 2) := by decide +kernel
theorem dX5_nextFactor_64 : decode cX5_nextFactor 64 = .ok (.lreturn, 1) := by decide +kernel
set_option maxRecDepth 20000 in
theorem ggX5_weightSpread_X5_factor : GoodIn wsX5_weightSpread wsX5_factor := goodIn_r _ [13, 14, 1, 22, 23] (by decide +kernel) (by decide +kernel)
set_option maxRecDepth 20000 in
theorem gX5_weightSpread_X5_factor : GoodIn wsX5_weightSpread (wsV RX5 19 RX5 yX5_factor wsX5_factor) := goodIn_app (goodIn_of _ (by decide +kernel)) ggX5_weightSpread_X5_factor
set_option maxRecDepth 20000 in
theorem ggX5_weightSpread_J13_bitCount_95d88 : GoodIn wsX5_weightSpread wsJ13_bitCount_95d88 := goodIn_r _ [18, 19, 20, 21] (by decide +kernel) (by decide +kernel)
set_option maxRecDepth 20000 in
theorem gX5_weightSpread_J13_bitCount_95d88 : GoodIn wsX5_weightSpread (va_wsS RX5 23 yJ13_bitCount_95d88 wsJ13_bitCount_95d88) := goodIn_app (goodIn_of _ (by decide +kernel)) ggX5_weightSpread_J13_bitCount_95d88
theorem dX5_weightSpread_0 : decode cX5_weightSpread 0 = .ok (.iload_n 1, 1) := by decide +kernel
theorem dX5_weightSpread_1 : decode cX5_weightSpread 1 = .ok (.istore_n 2, 1) := by decide +kernel
theorem dX5_weightSpread_2 : decode cX5_weightSpread 2 = .ok (.iconst 0, 1) := by decide +kernel
theorem dX5_weightSpread_3 : decode cX5_weightSpread 3 = .ok (.istore_n 3, 1) := by decide +kernel
theorem dX5_weightSpread_4 : decode cX5_weightSpread 4 = .ok (.iconst 0, 1) := by decide +kernel
theorem dX5_weightSpread_5 : decode cX5_weightSpread 5 = .ok (.istore 4, 2) := by decide +kernel
theorem dX5_weightSpread_7 : decode cX5_weightSpread 7 = .ok (.iload 4, 2) := by decide +kernel
theorem dX5_weightSpread_9 : decode cX5_weightSpread 9 = .ok (.aload_n 0, 1) := by decide +kernel
theorem dX5_weightSpread_10 : decode cX5_weightSpread 10 = .ok (.getfield 15, 3) := by decide +kernel
theorem dX5_weightSpread_13 : decode cX5_weightSpread 13 = .ok (.iload_n 1, 1) := by decide +kernel
theorem dX5_weightSpread_14 : decode cX5_weightSpread 14 = .ok (.isub, 1) := by decide +kernel
theorem dX5_weightSpread_15 : decode cX5_weightSpread 15 = .ok (.if_icmp .gt 35, 3) := by decide +kernel
theorem dX5_weightSpread_18 : decode cX5_weightSpread 18 = .ok (.aload_n 0, 1) := by decide +kernel
theorem dX5_weightSpread_19 : decode cX5_weightSpread 19 = .ok (.iload 4, 2) := by decide +kernel
theorem dX5_weightSpread_21 : decode cX5_weightSpread 21 = .ok (.iload_n 1, 1) := by decide +kernel
theorem dX5_weightSpread_22 : decode cX5_weightSpread 22 = .ok (.invokevirtual 19, 3) := by decide +kernel
theorem dX5_weightSpread_25 : decode cX5_weightSpread 25 = .ok (.invokestatic 23, 3) := by decide +kernel
theorem dX5_weightSpread_28 : decode cX5_weightSpread 28 = .ok (.istore 5, 2) := by decide +kernel
theorem dX5_weightSpread_30 : decode cX5_weightSpread 30 = .ok (.iload_n 2, 1) := by decide +kernel
theorem dX5_weightSpread_31 : decode cX5_weightSpread 31 = .ok (.iload 5, 2) := by decide +kernel
theorem dX5_weightSpread_33 : decode cX5_weightSpread 33 = .ok (.invokestatic 42, 3) := by decide +kernel
theorem dX5_weightSpread_36 : decode cX5_weightSpread 36 = .ok (.istore_n 2, 1) := by decide +kernel
theorem dX5_weightSpread_37 : decode cX5_weightSpread 37 = .ok (.iload_n 3, 1) := by decide +kernel
theorem dX5_weightSpread_38 : decode cX5_weightSpread 38 = .ok (.iload 5, 2) := by decide +kernel
theorem dX5_weightSpread_40 : decode cX5_weightSpread 40 = .ok (.invokestatic 48, 3) := by decide +kernel
theorem dX5_weightSpread_43 : decode cX5_weightSpread 43 = .ok (.istore_n 3, 1) := by decide +kernel
theorem dX5_weightSpread_44 : decode cX5_weightSpread 44 = .ok (.iinc 4 1, 3) := by decide +kernel
theorem dX5_weightSpread_47 : decode cX5_weightSpread 47 = .ok (.goto (-40), 3) := by decide +kernel
theorem dX5_weightSpread_50 : decode cX5_weightSpread 50 = .ok (.iload_n 3, 1) := by decide +kernel
theorem dX5_weightSpread_51 : decode cX5_weightSpread 51 = .ok (.iload_n 2, 1) := by decide +kernel
theorem dX5_weightSpread_52 : decode cX5_weightSpread 52 = .ok (.isub, 1) := by decide +kernel
theorem dX5_weightSpread_53 : decode cX5_weightSpread 53 = .ok (.ireturn, 1) := by decide +kernel
set_option maxRecDepth 20000 in
theorem ggX5_isPalindrome_X5_factor : GoodIn wsX5_isPalindrome wsX5_factor := goodIn_r _ [6, 7, 1, 8, 9] (by decide +kernel) (by decide +kernel)
set_option maxRecDepth 20000 in
theorem gX5_isPalindrome_X5_factor : GoodIn wsX5_isPalindrome (wsV RX5 19 RX5 yX5_factor wsX5_factor) := goodIn_app (goodIn_of _ (by decide +kernel)) ggX5_isPalindrome_X5_factor
theorem dX5_isPalindrome_0 : decode cX5_isPalindrome 0 = .ok (.aload_n 0, 1) := by decide +kernel
theorem dX5_isPalindrome_1 : decode cX5_isPalindrome 1 = .ok (.iload_n 1, 1) := by decide +kernel
theorem dX5_isPalindrome_2 : decode cX5_isPalindrome 2 = .ok (.iload_n 2, 1) := by decide +kernel
theorem dX5_isPalindrome_3 : decode cX5_isPalindrome 3 = .ok (.invokevirtual 19, 3) := by decide +kernel
theorem dX5_isPalindrome_6 : decode cX5_isPalindrome 6 = .ok (.aload_n 3, 1) := by decide +kernel
theorem dX5_isPalindrome_7 : decode cX5_isPalindrome 7 = .ok (.aload_n 0, 1) := by decide +kernel
theorem dX5_isPalindrome_8 : decode cX5_isPalindrome 8 = .ok (.getfield 15, 3) := by decide +kernel
theorem dX5_isPalindrome_11 : decode cX5_isPalindrome 11 = .ok (.iload_n 1, 1) := by decide +kernel
theorem dX5_isPalindrome_12 : decode cX5_isPalindrome 12 = .ok (.isub, 1) := by decide +kernel
theorem dX5_isPalindrome_13 : decode cX5_isPalindrome 13 = .ok (.iload_n 2, 1) := by decide +kernel
theorem dX5_isPalindrome_14 : decode cX5_isPalindrome 14 = .ok (.isub, 1) := by decide +kernel
theorem dX5_isPalindrome_15 : decode cX5_isPalindrome 15 = .ok (.iload_n 2, 1) := by decide +kernel
theorem dX5_isPalindrome_16 : decode cX5_isPalindrome 16 = .ok (.invokevirtual 19, 3) := by decide +kernel
theorem dX5_isPalindrome_19 : decode cX5_isPalindrome 19 = .ok (.lcmp, 1) := by decide +kernel
theorem dX5_isPalindrome_20 : decode cX5_isPalindrome 20 = .ok (.ifCond .ne 7, 3) := by decide +kernel
theorem dX5_isPalindrome_23 : decode cX5_isPalindrome 23 = .ok (.iconst 1, 1) := by decide +kernel
theorem dX5_isPalindrome_24 : decode cX5_isPalindrome 24 = .ok (.goto 4, 3) := by decide +kernel
theorem dX5_isPalindrome_27 : decode cX5_isPalindrome 27 = .ok (.iconst 0, 1) := by decide +kernel
theorem dX5_isPalindrome_28 : decode cX5_isPalindrome 28 = .ok (.ireturn, 1) := by decide +kernel
set_option maxRecDepth 20000 in
theorem ggX5_differentPalindromes_X5_reversed : GoodIn wsX5_differentPalindromes wsX5_reversed := goodIn_r _ [6, 1, 7, 8, 9, 5, 10, 11, 12, 13, 14, 15, 28, 29] (by decide +kernel) (by decide +kernel)
set_option maxRecDepth 20000 in
theorem gX5_differentPalindromes_X5_reversed : GoodIn wsX5_differentPalindromes (wsV RX5 51 RX5 yX5_reversed wsX5_reversed) := goodIn_app (goodIn_of _ (by decide +kernel)) ggX5_differentPalindromes_X5_reversed
set_option maxRecDepth 20000 in
theorem ggX5_differentPalindromes_X5_isPalindrome : GoodIn wsX5_differentPalindromes wsX5_isPalindrome := goodIn_r _ [19, 1, 20, 21, 22, 5, 23, 7, 28, 29] (by decide +kernel) (by decide +kernel)
set_option maxRecDepth 20000 in
theorem gX5_differentPalindromes_X5_isPalindrome : GoodIn wsX5_differentPalindromes (wsV RX5 55 RX5 yX5_isPalindrome wsX5_isPalindrome) := goodIn_app (goodIn_of _ (by decide +kernel)) ggX5_differentPalindromes_X5_isPalindrome
set_option maxRecDepth 20000 in
theorem ggX5_differentPalindromes_X5_isNew : GoodIn wsX5_differentPalindromes wsX5_isNew := goodIn_r _ [27, 20, 21, 22, 5, 23, 7, 1, 28, 29] (by decide +kernel) (by decide +kernel)
set_option maxRecDepth 20000 in
theorem gX5_differentPalindromes_X5_isNew : GoodIn wsX5_differentPalindromes (wsV RX5 32 RX5 yX5_isNew wsX5_isNew) := goodIn_app (goodIn_of _ (by decide +kernel)) ggX5_differentPalindromes_X5_isNew
theorem dX5_differentPalindromes_0 : decode cX5_differentPalindromes 0 = .ok (.aload_n 0, 1) := by decide +kernel
theorem dX5_differentPalindromes_1 : decode cX5_differentPalindromes 1 = .ok (.invokevirtual 51, 3) := by decide +kernel
theorem dX5_differentPalindromes_4 : decode cX5_differentPalindromes 4 = .ok (.astore_n 1, 1) := by decide +kernel
theorem dX5_differentPalindromes_5 : decode cX5_differentPalindromes 5 = .ok (.iconst 1, 1) := by decide +kernel
theorem dX5_differentPalindromes_6 : decode cX5_differentPalindromes 6 = .ok (.istore_n 2, 1) := by decide +kernel
theorem dX5_differentPalindromes_7 : decode cX5_differentPalindromes 7 = .ok (.iconst 1, 1) := by decide +kernel
theorem dX5_differentPalindromes_8 : decode cX5_differentPalindromes 8 = .ok (.istore_n 3, 1) := by decide +kernel
theorem dX5_differentPalindromes_9 : decode cX5_differentPalindromes 9 = .ok (.iload_n 3, 1) := by decide +kernel
theorem dX5_differentPalindromes_10 : decode cX5_differentPalindromes 10 = .ok (.aload_n 0, 1) := by decide +kernel
theorem dX5_differentPalindromes_11 : decode cX5_differentPalindromes 11 = .ok (.getfield 15, 3) := by decide +kernel
theorem dX5_differentPalindromes_14 : decode cX5_differentPalindromes 14 = .ok (.if_icmp .gt 53, 3) := by decide +kernel
theorem dX5_differentPalindromes_17 : decode cX5_differentPalindromes 17 = .ok (.iconst 0, 1) := by decide +kernel
theorem dX5_differentPalindromes_18 : decode cX5_differentPalindromes 18 = .ok (.istore 4, 2) := by decide +kernel
theorem dX5_differentPalindromes_20 : decode cX5_differentPalindromes 20 = .ok (.iload 4, 2) := by decide +kernel
theorem dX5_differentPalindromes_22 : decode cX5_differentPalindromes 22 = .ok (.aload_n 0, 1) := by decide +kernel
theorem dX5_differentPalindromes_23 : decode cX5_differentPalindromes 23 = .ok (.getfield 15, 3) := by decide +kernel
theorem dX5_differentPalindromes_26 : decode cX5_differentPalindromes 26 = .ok (.iload_n 3, 1) := by decide +kernel
theorem dX5_differentPalindromes_27 : decode cX5_differentPalindromes 27 = .ok (.isub, 1) := by decide +kernel
theorem dX5_differentPalindromes_28 : decode cX5_differentPalindromes 28 = .ok (.if_icmp .gt 33, 3) := by decide +kernel
theorem dX5_differentPalindromes_31 : decode cX5_differentPalindromes 31 = .ok (.aload_n 0, 1) := by decide +kernel
theorem dX5_differentPalindromes_32 : decode cX5_differentPalindromes 32 = .ok (.iload 4, 2) := by decide +kernel
theorem dX5_differentPalindromes_34 : decode cX5_differentPalindromes 34 = .ok (.iload_n 3, 1) := by decide +kernel
theorem dX5_differentPalindromes_35 : decode cX5_differentPalindromes 35 = .ok (.aload_n 1, 1) := by decide +kernel
theorem dX5_differentPalindromes_36 : decode cX5_differentPalindromes 36 = .ok (.invokevirtual 55, 3) := by decide +kernel
theorem dX5_differentPalindromes_39 : decode cX5_differentPalindromes 39 = .ok (.ifCond .eq 16, 3) := by decide +kernel
theorem dX5_differentPalindromes_42 : decode cX5_differentPalindromes 42 = .ok (.aload_n 0, 1) := by decide +kernel
theorem dX5_differentPalindromes_43 : decode cX5_differentPalindromes 43 = .ok (.iload 4, 2) := by decide +kernel
theorem dX5_differentPalindromes_45 : decode cX5_differentPalindromes 45 = .ok (.iload_n 3, 1) := by decide +kernel
theorem dX5_differentPalindromes_46 : decode cX5_differentPalindromes 46 = .ok (.invokevirtual 32, 3) := by decide +kernel
theorem dX5_differentPalindromes_49 : decode cX5_differentPalindromes 49 = .ok (.ifCond .eq 6, 3) := by decide +kernel
theorem dX5_differentPalindromes_52 : decode cX5_differentPalindromes 52 = .ok (.iinc 2 1, 3) := by decide +kernel
theorem dX5_differentPalindromes_55 : decode cX5_differentPalindromes 55 = .ok (.iinc 4 1, 3) := by decide +kernel
theorem dX5_differentPalindromes_58 : decode cX5_differentPalindromes 58 = .ok (.goto (-38), 3) := by decide +kernel
theorem dX5_differentPalindromes_61 : decode cX5_differentPalindromes 61 = .ok (.iinc 3 1, 3) := by decide +kernel
theorem dX5_differentPalindromes_64 : decode cX5_differentPalindromes 64 = .ok (.goto (-55), 3) := by decide +kernel
theorem dX5_differentPalindromes_67 : decode cX5_differentPalindromes 67 = .ok (.iload_n 2, 1) := by decide +kernel
theorem dX5_differentPalindromes_68 : decode cX5_differentPalindromes 68 = .ok (.ireturn, 1) := by decide +kernel
set_option maxRecDepth 20000 in
theorem ggX5_hasPeriod_X5_factor : GoodIn wsX5_hasPeriod wsX5_factor := goodIn_r _ [6, 7, 1, 8, 9] (by decide +kernel) (by decide +kernel)
set_option maxRecDepth 20000 in
theorem gX5_hasPeriod_X5_factor : GoodIn wsX5_hasPeriod (wsV RX5 19 RX5 yX5_factor wsX5_factor) := goodIn_app (goodIn_of _ (by decide +kernel)) ggX5_hasPeriod_X5_factor
theorem dX5_hasPeriod_0 : decode cX5_hasPeriod 0 = .ok (.iload_n 1, 1) := by decide +kernel
theorem dX5_hasPeriod_1 : decode cX5_hasPeriod 1 = .ok (.aload_n 0, 1) := by decide +kernel
theorem dX5_hasPeriod_2 : decode cX5_hasPeriod 2 = .ok (.getfield 15, 3) := by decide +kernel
theorem dX5_hasPeriod_5 : decode cX5_hasPeriod 5 = .ok (.if_icmp .gt 29, 3) := by decide +kernel
theorem dX5_hasPeriod_8 : decode cX5_hasPeriod 8 = .ok (.aload_n 0, 1) := by decide +kernel
theorem dX5_hasPeriod_9 : decode cX5_hasPeriod 9 = .ok (.iconst 0, 1) := by decide +kernel
theorem dX5_hasPeriod_10 : decode cX5_hasPeriod 10 = .ok (.aload_n 0, 1) := by decide +kernel
theorem dX5_hasPeriod_11 : decode cX5_hasPeriod 11 = .ok (.getfield 15, 3) := by decide +kernel
theorem dX5_hasPeriod_14 : decode cX5_hasPeriod 14 = .ok (.iload_n 1, 1) := by decide +kernel
theorem dX5_hasPeriod_15 : decode cX5_hasPeriod 15 = .ok (.isub, 1) := by decide +kernel
theorem dX5_hasPeriod_16 : decode cX5_hasPeriod 16 = .ok (.invokevirtual 19, 3) := by decide +kernel
theorem dX5_hasPeriod_19 : decode cX5_hasPeriod 19 = .ok (.aload_n 0, 1) := by decide +kernel
theorem dX5_hasPeriod_20 : decode cX5_hasPeriod 20 = .ok (.iload_n 1, 1) := by decide +kernel
theorem dX5_hasPeriod_21 : decode cX5_hasPeriod 21 = .ok (.aload_n 0, 1) := by decide +kernel
theorem dX5_hasPeriod_22 : decode cX5_hasPeriod 22 = .ok (.getfield 15, 3) := by decide +kernel
theorem dX5_hasPeriod_25 : decode cX5_hasPeriod 25 = .ok (.iload_n 1, 1) := by decide +kernel
theorem dX5_hasPeriod_26 : decode cX5_hasPeriod 26 = .ok (.isub, 1) := by decide +kernel
theorem dX5_hasPeriod_27 : decode cX5_hasPeriod 27 = .ok (.invokevirtual 19, 3) := by decide +kernel
theorem dX5_hasPeriod_30 : decode cX5_hasPeriod 30 = .ok (.lcmp, 1) := by decide +kernel
theorem dX5_hasPeriod_31 : decode cX5_hasPeriod 31 = .ok (.ifCond .ne 7, 3) := by decide +kernel
theorem dX5_hasPeriod_34 : decode cX5_hasPeriod 34 = .ok (.iconst 1, 1) := by decide +kernel
theorem dX5_hasPeriod_35 : decode cX5_hasPeriod 35 = .ok (.goto 4, 3) := by decide +kernel
theorem dX5_hasPeriod_38 : decode cX5_hasPeriod 38 = .ok (.iconst 0, 1) := by decide +kernel
theorem dX5_hasPeriod_39 : decode cX5_hasPeriod 39 = .ok (.ireturn, 1) := by decide +kernel
set_option maxRecDepth 20000 in
theorem ggX5_simplest_X5_leastIntercept : GoodIn wsX5_simplest wsX5_leastIntercept := goodIn_r _ [8, 9, 10, 11, 12, 13, 14, 15, 16, 17, 18, 19, 7, 20, 21, 22, 23, 24, 25, 44, 45] (by decide +kernel) (by decide +kernel)
set_option maxRecDepth 20000 in
theorem gX5_simplest_X5_leastIntercept : GoodIn wsX5_simplest (wsV RX5 59 RX5 yX5_leastIntercept wsX5_leastIntercept) := goodIn_app (goodIn_of _ (by decide +kernel)) ggX5_simplest_X5_leastIntercept
set_option maxRecDepth 20000 in
theorem ggX5_simplest_X6_commonDivisor : GoodIn wsX5_simplest wsX6_commonDivisor := goodIn_r _ [28, 29, 30, 27, 31] (by decide +kernel) (by decide +kernel)
set_option maxRecDepth 20000 in
theorem gX5_simplest_X6_commonDivisor_n62 : GoodIn wsX5_simplest (wsX6_commonDivisor) := ggX5_simplest_X6_commonDivisor
set_option maxRecDepth 20000 in
theorem ggX5_simplest_X3_init : GoodIn wsX5_simplest wsX3_init := goodIn_r _ [34, 35, 36, 37, 38, 39, 40, 41, 42, 43] (by decide +kernel) (by decide +kernel)
set_option maxRecDepth 20000 in
theorem gX5_simplest_X3_init : GoodIn wsX5_simplest (wsX3_init) := ggX5_simplest_X3_init
theorem dX5_simplest_0 : decode cX5_simplest 0 = .ok (.iconst 1, 1) := by decide +kernel
theorem dX5_simplest_1 : decode cX5_simplest 1 = .ok (.istore_n 1, 1) := by decide +kernel
theorem dX5_simplest_2 : decode cX5_simplest 2 = .ok (.iload_n 1, 1) := by decide +kernel
theorem dX5_simplest_3 : decode cX5_simplest 3 = .ok (.bipush 61, 2) := by decide +kernel
theorem dX5_simplest_5 : decode cX5_simplest 5 = .ok (.if_icmp .gt 54, 3) := by decide +kernel
theorem dX5_simplest_8 : decode cX5_simplest 8 = .ok (.iconst 0, 1) := by decide +kernel
theorem dX5_simplest_9 : decode cX5_simplest 9 = .ok (.istore_n 2, 1) := by decide +kernel
theorem dX5_simplest_10 : decode cX5_simplest 10 = .ok (.iload_n 2, 1) := by decide +kernel
theorem dX5_simplest_11 : decode cX5_simplest 11 = .ok (.iload_n 1, 1) := by decide +kernel
theorem dX5_simplest_12 : decode cX5_simplest 12 = .ok (.if_icmp .gt 41, 3) := by decide +kernel
theorem dX5_simplest_15 : decode cX5_simplest 15 = .ok (.aload_n 0, 1) := by decide +kernel
theorem dX5_simplest_16 : decode cX5_simplest 16 = .ok (.iload_n 2, 1) := by decide +kernel
theorem dX5_simplest_17 : decode cX5_simplest 17 = .ok (.iload_n 1, 1) := by decide +kernel
theorem dX5_simplest_18 : decode cX5_simplest 18 = .ok (.invokevirtual 59, 3) := by decide +kernel
theorem dX5_simplest_21 : decode cX5_simplest 21 = .ok (.istore_n 3, 1) := by decide +kernel
theorem dX5_simplest_22 : decode cX5_simplest 22 = .ok (.iload_n 3, 1) := by decide +kernel
theorem dX5_simplest_23 : decode cX5_simplest 23 = .ok (.iconst (-1), 1) := by decide +kernel
theorem dX5_simplest_24 : decode cX5_simplest 24 = .ok (.if_icmp .eq 23, 3) := by decide +kernel
theorem dX5_simplest_27 : decode cX5_simplest 27 = .ok (.iload_n 2, 1) := by decide +kernel
theorem dX5_simplest_28 : decode cX5_simplest 28 = .ok (.iload_n 1, 1) := by decide +kernel
theorem dX5_simplest_29 : decode cX5_simplest 29 = .ok (.invokestatic 62, 3) := by decide +kernel
theorem dX5_simplest_32 : decode cX5_simplest 32 = .ok (.iconst 1, 1) := by decide +kernel
theorem dX5_simplest_33 : decode cX5_simplest 33 = .ok (.if_icmp .ne 14, 3) := by decide +kernel
theorem dX5_simplest_36 : decode cX5_simplest 36 = .ok (.new 65, 3) := by decide +kernel
theorem dX5_simplest_39 : decode cX5_simplest 39 = .ok (.dup, 1) := by decide +kernel
theorem dX5_simplest_40 : decode cX5_simplest 40 = .ok (.iload_n 2, 1) := by decide +kernel
theorem dX5_simplest_41 : decode cX5_simplest 41 = .ok (.iload_n 1, 1) := by decide +kernel
theorem dX5_simplest_42 : decode cX5_simplest 42 = .ok (.iload_n 3, 1) := by decide +kernel
theorem dX5_simplest_43 : decode cX5_simplest 43 = .ok (.invokespecial 67, 3) := by decide +kernel
theorem dX5_simplest_46 : decode cX5_simplest 46 = .ok (.areturn, 1) := by decide +kernel
theorem dX5_simplest_47 : decode cX5_simplest 47 = .ok (.iinc 2 1, 3) := by decide +kernel
theorem dX5_simplest_50 : decode cX5_simplest 50 = .ok (.goto (-40), 3) := by decide +kernel
theorem dX5_simplest_53 : decode cX5_simplest 53 = .ok (.iinc 1 1, 3) := by decide +kernel
theorem dX5_simplest_56 : decode cX5_simplest 56 = .ok (.goto (-54), 3) := by decide +kernel
theorem dX5_simplest_59 : decode cX5_simplest 59 = .ok (.aconst_null, 1) := by decide +kernel
theorem dX5_simplest_60 : decode cX5_simplest 60 = .ok (.areturn, 1) := by decide +kernel
set_option maxRecDepth 20000 in
theorem ggX5_leastIntercept_X5_letter : GoodIn wsX5_leastIntercept wsX5_letter := goodIn_r _ [13, 14, 15, 16, 12, 17, 18, 1, 19, 20] (by decide +kernel) (by decide +kernel)
set_option maxRecDepth 20000 in
theorem gX5_leastIntercept_X5_letter : GoodIn wsX5_leastIntercept (wsV RX5 70 RX5 yX5_letter wsX5_letter) := goodIn_app (goodIn_of _ (by decide +kernel)) ggX5_leastIntercept_X5_letter
theorem dX5_leastIntercept_0 : decode cX5_leastIntercept 0 = .ok (.iconst 0, 1) := by decide +kernel
theorem dX5_leastIntercept_1 : decode cX5_leastIntercept 1 = .ok (.istore_n 3, 1) := by decide +kernel
theorem dX5_leastIntercept_2 : decode cX5_leastIntercept 2 = .ok (.iload_n 2, 1) := by decide +kernel
theorem dX5_leastIntercept_3 : decode cX5_leastIntercept 3 = .ok (.iconst 1, 1) := by decide +kernel
theorem dX5_leastIntercept_4 : decode cX5_leastIntercept 4 = .ok (.isub, 1) := by decide +kernel
theorem dX5_leastIntercept_5 : decode cX5_leastIntercept 5 = .ok (.istore 4, 2) := by decide +kernel
theorem dX5_leastIntercept_7 : decode cX5_leastIntercept 7 = .ok (.iconst 0, 1) := by decide +kernel
theorem dX5_leastIntercept_8 : decode cX5_leastIntercept 8 = .ok (.istore 5, 2) := by decide +kernel
theorem dX5_leastIntercept_10 : decode cX5_leastIntercept 10 = .ok (.iconst 1, 1) := by decide +kernel
theorem dX5_leastIntercept_11 : decode cX5_leastIntercept 11 = .ok (.istore 6, 2) := by decide +kernel
theorem dX5_leastIntercept_13 : decode cX5_leastIntercept 13 = .ok (.iload 6, 2) := by decide +kernel
theorem dX5_leastIntercept_15 : decode cX5_leastIntercept 15 = .ok (.aload_n 0, 1) := by decide +kernel
theorem dX5_leastIntercept_16 : decode cX5_leastIntercept 16 = .ok (.getfield 15, 3) := by decide +kernel
theorem dX5_leastIntercept_19 : decode cX5_leastIntercept 19 = .ok (.if_icmp .gt 61, 3) := by decide +kernel
theorem dX5_leastIntercept_22 : decode cX5_leastIntercept 22 = .ok (.iload 5, 2) := by decide +kernel
theorem dX5_leastIntercept_24 : decode cX5_leastIntercept 24 = .ok (.aload_n 0, 1) := by decide +kernel
theorem dX5_leastIntercept_25 : decode cX5_leastIntercept 25 = .ok (.iload 6, 2) := by decide +kernel
theorem dX5_leastIntercept_27 : decode cX5_leastIntercept 27 = .ok (.iconst 1, 1) := by decide +kernel
theorem dX5_leastIntercept_28 : decode cX5_leastIntercept 28 = .ok (.isub, 1) := by decide +kernel
theorem dX5_leastIntercept_29 : decode cX5_leastIntercept 29 = .ok (.invokevirtual 70, 3) := by decide +kernel
theorem dX5_leastIntercept_32 : decode cX5_leastIntercept 32 = .ok (.iadd, 1) := by decide +kernel
theorem dX5_leastIntercept_33 : decode cX5_leastIntercept 33 = .ok (.istore 5, 2) := by decide +kernel
theorem dX5_leastIntercept_35 : decode cX5_leastIntercept 35 = .ok (.iload 5, 2) := by decide +kernel
theorem dX5_leastIntercept_37 : decode cX5_leastIntercept 37 = .ok (.iload_n 2, 1) := by decide +kernel
theorem dX5_leastIntercept_38 : decode cX5_leastIntercept 38 = .ok (.imul, 1) := by decide +kernel
theorem dX5_leastIntercept_39 : decode cX5_leastIntercept 39 = .ok (.iload 6, 2) := by decide +kernel
theorem dX5_leastIntercept_41 : decode cX5_leastIntercept 41 = .ok (.iload_n 1, 1) := by decide +kernel
theorem dX5_leastIntercept_42 : decode cX5_leastIntercept 42 = .ok (.imul, 1) := by decide +kernel
theorem dX5_leastIntercept_43 : decode cX5_leastIntercept 43 = .ok (.isub, 1) := by decide +kernel
theorem dX5_leastIntercept_44 : decode cX5_leastIntercept 44 = .ok (.istore 7, 2) := by decide +kernel
theorem dX5_leastIntercept_46 : decode cX5_leastIntercept 46 = .ok (.iload_n 3, 1) := by decide +kernel
theorem dX5_leastIntercept_47 : decode cX5_leastIntercept 47 = .ok (.iload 7, 2) := by decide +kernel
theorem dX5_leastIntercept_49 : decode cX5_leastIntercept 49 = .ok (.invokestatic 48, 3) := by decide +kernel
theorem dX5_leastIntercept_52 : decode cX5_leastIntercept 52 = .ok (.istore_n 3, 1) := by decide +kernel
theorem dX5_leastIntercept_53 : decode cX5_leastIntercept 53 = .ok (.iload 4, 2) := by decide +kernel
theorem dX5_leastIntercept_55 : decode cX5_leastIntercept 55 = .ok (.iload 7, 2) := by decide +kernel
theorem dX5_leastIntercept_57 : decode cX5_leastIntercept 57 = .ok (.iload_n 2, 1) := by decide +kernel
theorem dX5_leastIntercept_58 : decode cX5_leastIntercept 58 = .ok (.iadd, 1) := by decide +kernel
theorem dX5_leastIntercept_59 : decode cX5_leastIntercept 59 = .ok (.iconst 1, 1) := by decide +kernel
theorem dX5_leastIntercept_60 : decode cX5_leastIntercept 60 = .ok (.isub, 1) := by decide +kernel
theorem dX5_leastIntercept_61 : decode cX5_leastIntercept 61 = .ok (.invokestatic 42, 3) := by decide +kernel
theorem dX5_leastIntercept_64 : decode cX5_leastIntercept 64 = .ok (.istore 4, 2) := by decide +kernel
theorem dX5_leastIntercept_66 : decode cX5_leastIntercept 66 = .ok (.iload_n 3, 1) := by decide +kernel
theorem dX5_leastIntercept_67 : decode cX5_leastIntercept 67 = .ok (.iload 4, 2) := by decide +kernel
theorem dX5_leastIntercept_69 : decode cX5_leastIntercept 69 = .ok (.if_icmp .le 5, 3) := by decide +kernel
theorem dX5_leastIntercept_72 : decode cX5_leastIntercept 72 = .ok (.iconst (-1), 1) := by decide +kernel
theorem dX5_leastIntercept_73 : decode cX5_leastIntercept 73 = .ok (.ireturn, 1) := by decide +kernel
theorem dX5_leastIntercept_74 : decode cX5_leastIntercept 74 = .ok (.iinc 6 1, 3) := by decide +kernel
theorem dX5_leastIntercept_77 : decode cX5_leastIntercept 77 = .ok (.goto (-64), 3) := by decide +kernel
theorem dX5_leastIntercept_80 : decode cX5_leastIntercept 80 = .ok (.iload_n 3, 1) := by decide +kernel
theorem dX5_leastIntercept_81 : decode cX5_leastIntercept 81 = .ok (.ireturn, 1) := by decide +kernel
