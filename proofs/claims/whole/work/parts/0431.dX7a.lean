theorem dX7_init_0 : decode cX7_init 0 = .ok (.aload_n 0, 1) := by decide +kernel
theorem dX7_init_1 : decode cX7_init 1 = .ok (.invokespecial 1, 3) := by decide +kernel
theorem dX7_init_4 : decode cX7_init 4 = .ok (.aload_n 0, 1) := by decide +kernel
theorem dX7_init_5 : decode cX7_init 5 = .ok (.bipush 64, 2) := by decide +kernel
theorem dX7_init_7 : decode cX7_init 7 = .ok (.newarray .int, 2) := by decide +kernel
theorem dX7_init_9 : decode cX7_init 9 = .ok (.putfield 7, 3) := by decide +kernel
theorem dX7_init_12 : decode cX7_init 12 = .ok (.aload_n 0, 1) := by decide +kernel
theorem dX7_init_13 : decode cX7_init 13 = .ok (.bipush 64, 2) := by decide +kernel
theorem dX7_init_15 : decode cX7_init 15 = .ok (.newarray .int, 2) := by decide +kernel
theorem dX7_init_17 : decode cX7_init 17 = .ok (.putfield 13, 3) := by decide +kernel
theorem dX7_init_20 : decode cX7_init 20 = .ok (.aload_n 0, 1) := by decide +kernel
theorem dX7_init_21 : decode cX7_init 21 = .ok (.sipush 384, 3) := by decide +kernel
theorem dX7_init_24 : decode cX7_init 24 = .ok (.newarray .int, 2) := by decide +kernel
theorem dX7_init_26 : decode cX7_init 26 = .ok (.putfield 16, 3) := by decide +kernel
theorem dX7_init_29 : decode cX7_init 29 = .ok (.aload_n 0, 1) := by decide +kernel
theorem dX7_init_30 : decode cX7_init 30 = .ok (.bipush 20, 2) := by decide +kernel
theorem dX7_init_32 : decode cX7_init 32 = .ok (.newarray .int, 2) := by decide +kernel
theorem dX7_init_34 : decode cX7_init 34 = .ok (.putfield 19, 3) := by decide +kernel
theorem dX7_init_37 : decode cX7_init 37 = .ok (.aload_n 0, 1) := by decide +kernel
theorem dX7_init_38 : decode cX7_init 38 = .ok (.bipush 60, 2) := by decide +kernel
theorem dX7_init_40 : decode cX7_init 40 = .ok (.newarray .int, 2) := by decide +kernel
theorem dX7_init_42 : decode cX7_init 42 = .ok (.putfield 22, 3) := by decide +kernel
theorem dX7_init_45 : decode cX7_init 45 = .ok (.aload_n 0, 1) := by decide +kernel
theorem dX7_init_46 : decode cX7_init 46 = .ok (.bipush 60, 2) := by decide +kernel
theorem dX7_init_48 : decode cX7_init 48 = .ok (.newarray .int, 2) := by decide +kernel
theorem dX7_init_50 : decode cX7_init 50 = .ok (.putfield 25, 3) := by decide +kernel
theorem dX7_init_53 : decode cX7_init 53 = .ok (.aload_n 0, 1) := by decide +kernel
theorem dX7_init_54 : decode cX7_init 54 = .ok (.sipush 1000, 3) := by decide +kernel
theorem dX7_init_57 : decode cX7_init 57 = .ok (.newarray .boolean, 2) := by decide +kernel
theorem dX7_init_59 : decode cX7_init 59 = .ok (.putfield 28, 3) := by decide +kernel
theorem dX7_init_62 : decode cX7_init 62 = .ok (.aload_n 0, 1) := by decide +kernel
theorem dX7_init_63 : decode cX7_init 63 = .ok (.getfield 7, 3) := by decide +kernel
theorem dX7_init_66 : decode cX7_init 66 = .ok (.iconst 0, 1) := by decide +kernel
theorem dX7_init_67 : decode cX7_init 67 = .ok (.iconst 5, 1) := by decide +kernel
theorem dX7_init_68 : decode cX7_init 68 = .ok (.iastore, 1) := by decide +kernel
theorem dX7_init_69 : decode cX7_init 69 = .ok (.aload_n 0, 1) := by decide +kernel
theorem dX7_init_70 : decode cX7_init 70 = .ok (.getfield 7, 3) := by decide +kernel
theorem dX7_init_73 : decode cX7_init 73 = .ok (.iconst 1, 1) := by decide +kernel
theorem dX7_init_74 : decode cX7_init 74 = .ok (.bipush 13, 2) := by decide +kernel
theorem dX7_init_76 : decode cX7_init 76 = .ok (.iastore, 1) := by decide +kernel
theorem dX7_init_77 : decode cX7_init 77 = .ok (.return_, 1) := by decide +kernel
theorem dX7_in_0 : decode cX7_in 0 = .ok (.iload_n 0, 1) := by decide +kernel
theorem dX7_in_1 : decode cX7_in 1 = .ok (.iload_n 1, 1) := by decide +kernel
theorem dX7_in_2 : decode cX7_in 2 = .ok (.if_icmp .lt 12, 3) := by decide +kernel
theorem dX7_in_5 : decode cX7_in 5 = .ok (.iload_n 0, 1) := by decide +kernel
theorem dX7_in_6 : decode cX7_in 6 = .ok (.iload_n 2, 1) := by decide +kernel
theorem dX7_in_7 : decode cX7_in 7 = .ok (.if_icmp .gt 7, 3) := by decide +kernel
theorem dX7_in_10 : decode cX7_in 10 = .ok (.iconst 1, 1) := by decide +kernel
theorem dX7_in_11 : decode cX7_in 11 = .ok (.goto 4, 3) := by decide +kernel
theorem dX7_in_14 : decode cX7_in 14 = .ok (.iconst 0, 1) := by decide +kernel
theorem dX7_in_15 : decode cX7_in 15 = .ok (.ireturn, 1) := by decide +kernel
theorem dX7_copy_0 : decode cX7_copy 0 = .ok (.iconst 0, 1) := by decide +kernel
theorem dX7_copy_1 : decode cX7_copy 1 = .ok (.istore 4, 2) := by decide +kernel
theorem dX7_copy_3 : decode cX7_copy 3 = .ok (.iload 4, 2) := by decide +kernel
theorem dX7_copy_5 : decode cX7_copy 5 = .ok (.bipush 64, 2) := by decide +kernel
theorem dX7_copy_7 : decode cX7_copy 7 = .ok (.if_icmp .ge 21, 3) := by decide +kernel
theorem dX7_copy_10 : decode cX7_copy 10 = .ok (.aload_n 2, 1) := by decide +kernel
theorem dX7_copy_11 : decode cX7_copy 11 = .ok (.iload_n 3, 1) := by decide +kernel
theorem dX7_copy_12 : decode cX7_copy 12 = .ok (.iload 4, 2) := by decide +kernel
theorem dX7_copy_14 : decode cX7_copy 14 = .ok (.iadd, 1) := by decide +kernel
theorem dX7_copy_15 : decode cX7_copy 15 = .ok (.aload_n 0, 1) := by decide +kernel
theorem dX7_copy_16 : decode cX7_copy 16 = .ok (.iload_n 1, 1) := by decide +kernel
theorem dX7_copy_17 : decode cX7_copy 17 = .ok (.iload 4, 2) := by decide +kernel
theorem dX7_copy_19 : decode cX7_copy 19 = .ok (.iadd, 1) := by decide +kernel
theorem dX7_copy_20 : decode cX7_copy 20 = .ok (.iaload, 1) := by decide +kernel
theorem dX7_copy_21 : decode cX7_copy 21 = .ok (.iastore, 1) := by decide +kernel
theorem dX7_copy_22 : decode cX7_copy 22 = .ok (.iinc 4 1, 3) := by decide +kernel
theorem dX7_copy_25 : decode cX7_copy 25 = .ok (.goto (-22), 3) := by decide +kernel
theorem dX7_copy_28 : decode cX7_copy 28 = .ok (.return_, 1) := by decide +kernel
set_option maxRecDepth 20000 in
theorem ggX7_save_X7_copy : GoodIn wsX7_save wsX7_copy := goodIn_r _ [7] (by decide +kernel) (by decide +kernel)
set_option maxRecDepth 20000 in
theorem gX7_save_X7_copy : GoodIn wsX7_save (va_wsS RX7 36 yX7_copy wsX7_copy) := goodIn_app (goodIn_of _ (by decide +kernel)) ggX7_save_X7_copy
theorem dX7_save_0 : decode cX7_save 0 = .ok (.aload_n 0, 1) := by decide +kernel
theorem dX7_save_1 : decode cX7_save 1 = .ok (.getfield 32, 3) := by decide +kernel
theorem dX7_save_4 : decode cX7_save 4 = .ok (.bipush 6, 2) := by decide +kernel
theorem dX7_save_6 : decode cX7_save 6 = .ok (.if_icmp .ne 43, 3) := by decide +kernel
theorem dX7_save_9 : decode cX7_save 9 = .ok (.iconst 0, 1) := by decide +kernel
theorem dX7_save_10 : decode cX7_save 10 = .ok (.istore_n 1, 1) := by decide +kernel
theorem dX7_save_11 : decode cX7_save 11 = .ok (.iload_n 1, 1) := by decide +kernel
theorem dX7_save_12 : decode cX7_save 12 = .ok (.sipush 320, 3) := by decide +kernel
theorem dX7_save_15 : decode cX7_save 15 = .ok (.if_icmp .ge 24, 3) := by decide +kernel
theorem dX7_save_18 : decode cX7_save 18 = .ok (.aload_n 0, 1) := by decide +kernel
theorem dX7_save_19 : decode cX7_save 19 = .ok (.getfield 16, 3) := by decide +kernel
theorem dX7_save_22 : decode cX7_save 22 = .ok (.iload_n 1, 1) := by decide +kernel
theorem dX7_save_23 : decode cX7_save 23 = .ok (.aload_n 0, 1) := by decide +kernel
theorem dX7_save_24 : decode cX7_save 24 = .ok (.getfield 16, 3) := by decide +kernel
theorem dX7_save_27 : decode cX7_save 27 = .ok (.iload_n 1, 1) := by decide +kernel
theorem dX7_save_28 : decode cX7_save 28 = .ok (.bipush 64, 2) := by decide +kernel
theorem dX7_save_30 : decode cX7_save 30 = .ok (.iadd, 1) := by decide +kernel
theorem dX7_save_31 : decode cX7_save 31 = .ok (.iaload, 1) := by decide +kernel
theorem dX7_save_32 : decode cX7_save 32 = .ok (.iastore, 1) := by decide +kernel
theorem dX7_save_33 : decode cX7_save 33 = .ok (.iinc 1 1, 3) := by decide +kernel
theorem dX7_save_36 : decode cX7_save 36 = .ok (.goto (-25), 3) := by decide +kernel
theorem dX7_save_39 : decode cX7_save 39 = .ok (.aload_n 0, 1) := by decide +kernel
theorem dX7_save_40 : decode cX7_save 40 = .ok (.dup, 1) := by decide +kernel
theorem dX7_save_41 : decode cX7_save 41 = .ok (.getfield 32, 3) := by decide +kernel
theorem dX7_save_44 : decode cX7_save 44 = .ok (.iconst 1, 1) := by decide +kernel
theorem dX7_save_45 : decode cX7_save 45 = .ok (.isub, 1) := by decide +kernel
theorem dX7_save_46 : decode cX7_save 46 = .ok (.putfield 32, 3) := by decide +kernel
theorem dX7_save_49 : decode cX7_save 49 = .ok (.aload_n 0, 1) := by decide +kernel
theorem dX7_save_50 : decode cX7_save 50 = .ok (.getfield 7, 3) := by decide +kernel
theorem dX7_save_53 : decode cX7_save 53 = .ok (.iconst 0, 1) := by decide +kernel
theorem dX7_save_54 : decode cX7_save 54 = .ok (.aload_n 0, 1) := by decide +kernel
theorem dX7_save_55 : decode cX7_save 55 = .ok (.getfield 16, 3) := by decide +kernel
theorem dX7_save_58 : decode cX7_save 58 = .ok (.bipush 64, 2) := by decide +kernel
theorem dX7_save_60 : decode cX7_save 60 = .ok (.aload_n 0, 1) := by decide +kernel
theorem dX7_save_61 : decode cX7_save 61 = .ok (.getfield 32, 3) := by decide +kernel
theorem dX7_save_64 : decode cX7_save 64 = .ok (.imul, 1) := by decide +kernel
theorem dX7_save_65 : decode cX7_save 65 = .ok (.invokestatic 36, 3) := by decide +kernel
theorem dX7_save_68 : decode cX7_save 68 = .ok (.aload_n 0, 1) := by decide +kernel
theorem dX7_save_69 : decode cX7_save 69 = .ok (.dup, 1) := by decide +kernel
theorem dX7_save_70 : decode cX7_save 70 = .ok (.getfield 32, 3) := by decide +kernel
theorem dX7_save_73 : decode cX7_save 73 = .ok (.iconst 1, 1) := by decide +kernel
theorem dX7_save_74 : decode cX7_save 74 = .ok (.iadd, 1) := by decide +kernel
theorem dX7_save_75 : decode cX7_save 75 = .ok (.putfield 32, 3) := by decide +kernel
theorem dX7_save_78 : decode cX7_save 78 = .ok (.return_, 1) := by decide +kernel
set_option maxRecDepth 20000 in
theorem ggX7_take_X7_save : GoodIn wsX7_take wsX7_save := goodIn_r _ [7, 8, 9, 2, 10, 11, 6, 12, 13, 14, 15, 16, 17, 18, 19, 20, 21, 22, 23] (by decide +kernel) (by decide +kernel)
set_option maxRecDepth 20000 in
theorem gX7_take_X7_save : GoodIn wsX7_take (wsV RX7 40 RX7 yX7_save wsX7_save) := goodIn_app (goodIn_of _ (by decide +kernel)) ggX7_take_X7_save
set_option maxRecDepth 20000 in
theorem ggX7_take_X7_copy : GoodIn wsX7_take wsX7_copy := goodIn_r _ [12] (by decide +kernel) (by decide +kernel)
set_option maxRecDepth 20000 in
theorem gX7_take_X7_copy : GoodIn wsX7_take (va_wsS RX7 36 yX7_copy wsX7_copy) := goodIn_app (goodIn_of _ (by decide +kernel)) ggX7_take_X7_copy
theorem dX7_take_0 : decode cX7_take 0 = .ok (.aload_n 0, 1) := by decide +kernel
theorem dX7_take_1 : decode cX7_take 1 = .ok (.invokevirtual 40, 3) := by decide +kernel
theorem dX7_take_4 : decode cX7_take 4 = .ok (.aload_n 0, 1) := by decide +kernel
theorem dX7_take_5 : decode cX7_take 5 = .ok (.getfield 13, 3) := by decide +kernel
theorem dX7_take_8 : decode cX7_take 8 = .ok (.iconst 0, 1) := by decide +kernel
theorem dX7_take_9 : decode cX7_take 9 = .ok (.aload_n 0, 1) := by decide +kernel
theorem dX7_take_10 : decode cX7_take 10 = .ok (.getfield 7, 3) := by decide +kernel
theorem dX7_take_13 : decode cX7_take 13 = .ok (.iconst 0, 1) := by decide +kernel
theorem dX7_take_14 : decode cX7_take 14 = .ok (.iaload, 1) := by decide +kernel
theorem dX7_take_15 : decode cX7_take 15 = .ok (.iastore, 1) := by decide +kernel
theorem dX7_take_16 : decode cX7_take 16 = .ok (.aload_n 0, 1) := by decide +kernel
theorem dX7_take_17 : decode cX7_take 17 = .ok (.getfield 13, 3) := by decide +kernel
theorem dX7_take_20 : decode cX7_take 20 = .ok (.iconst 1, 1) := by decide +kernel
theorem dX7_take_21 : decode cX7_take 21 = .ok (.aload_n 0, 1) := by decide +kernel
theorem dX7_take_22 : decode cX7_take 22 = .ok (.getfield 7, 3) := by decide +kernel
theorem dX7_take_25 : decode cX7_take 25 = .ok (.iconst 1, 1) := by decide +kernel
theorem dX7_take_26 : decode cX7_take 26 = .ok (.iaload, 1) := by decide +kernel
theorem dX7_take_27 : decode cX7_take 27 = .ok (.iastore, 1) := by decide +kernel
theorem dX7_take_28 : decode cX7_take 28 = .ok (.aload_n 0, 1) := by decide +kernel
theorem dX7_take_29 : decode cX7_take 29 = .ok (.getfield 13, 3) := by decide +kernel
theorem dX7_take_32 : decode cX7_take 32 = .ok (.iconst 2, 1) := by decide +kernel
theorem dX7_take_33 : decode cX7_take 33 = .ok (.aload_n 0, 1) := by decide +kernel
theorem dX7_take_34 : decode cX7_take 34 = .ok (.getfield 7, 3) := by decide +kernel
theorem dX7_take_37 : decode cX7_take 37 = .ok (.iconst 2, 1) := by decide +kernel
theorem dX7_take_38 : decode cX7_take 38 = .ok (.iaload, 1) := by decide +kernel
theorem dX7_take_39 : decode cX7_take 39 = .ok (.iastore, 1) := by decide +kernel
theorem dX7_take_40 : decode cX7_take 40 = .ok (.aload_n 0, 1) := by decide +kernel
theorem dX7_take_41 : decode cX7_take 41 = .ok (.getfield 13, 3) := by decide +kernel
theorem dX7_take_44 : decode cX7_take 44 = .ok (.iconst 0, 1) := by decide +kernel
theorem dX7_take_45 : decode cX7_take 45 = .ok (.aload_n 0, 1) := by decide +kernel
theorem dX7_take_46 : decode cX7_take 46 = .ok (.getfield 7, 3) := by decide +kernel
theorem dX7_take_49 : decode cX7_take 49 = .ok (.iconst 0, 1) := by decide +kernel
theorem dX7_take_50 : decode cX7_take 50 = .ok (.invokestatic 36, 3) := by decide +kernel
theorem dX7_take_53 : decode cX7_take 53 = .ok (.return_, 1) := by decide +kernel
theorem dX7_divisor_0 : decode cX7_divisor 0 = .ok (.iload_n 0, 1) := by decide +kernel
theorem dX7_divisor_1 : decode cX7_divisor 1 = .ok (.istore_n 2, 1) := by decide +kernel
theorem dX7_divisor_2 : decode cX7_divisor 2 = .ok (.iload_n 1, 1) := by decide +kernel
theorem dX7_divisor_3 : decode cX7_divisor 3 = .ok (.istore_n 3, 1) := by decide +kernel
theorem dX7_divisor_4 : decode cX7_divisor 4 = .ok (.iload_n 3, 1) := by decide +kernel
theorem dX7_divisor_5 : decode cX7_divisor 5 = .ok (.ifCond .eq 16, 3) := by decide +kernel
theorem dX7_divisor_8 : decode cX7_divisor 8 = .ok (.iload_n 2, 1) := by decide +kernel
theorem dX7_divisor_9 : decode cX7_divisor 9 = .ok (.iload_n 3, 1) := by decide +kernel
theorem dX7_divisor_10 : decode cX7_divisor 10 = .ok (.irem, 1) := by decide +kernel
theorem dX7_divisor_11 : decode cX7_divisor 11 = .ok (.istore 4, 2) := by decide +kernel
theorem dX7_divisor_13 : decode cX7_divisor 13 = .ok (.iload_n 3, 1) := by decide +kernel
theorem dX7_divisor_14 : decode cX7_divisor 14 = .ok (.istore_n 2, 1) := by decide +kernel
theorem dX7_divisor_15 : decode cX7_divisor 15 = .ok (.iload 4, 2) := by decide +kernel
theorem dX7_divisor_17 : decode cX7_divisor 17 = .ok (.istore_n 3, 1) := by decide +kernel
theorem dX7_divisor_18 : decode cX7_divisor 18 = .ok (.goto (-14), 3) := by decide +kernel
theorem dX7_divisor_21 : decode cX7_divisor 21 = .ok (.iload_n 2, 1) := by decide +kernel
theorem dX7_divisor_22 : decode cX7_divisor 22 = .ok (.ireturn, 1) := by decide +kernel
set_option maxRecDepth 20000 in
theorem ggX7_setSlope_X7_in : GoodIn wsX7_setSlope wsX7_in := goodIn_r _ [5] (by decide +kernel) (by decide +kernel)
set_option maxRecDepth 20000 in
theorem gX7_setSlope_X7_in : GoodIn wsX7_setSlope (va_wsS RX7 43 yX7_in wsX7_in) := goodIn_app (goodIn_of _ (by decide +kernel)) ggX7_setSlope_X7_in
set_option maxRecDepth 20000 in
theorem ggX7_setSlope_X7_save : GoodIn wsX7_setSlope wsX7_save := goodIn_r _ [9, 10, 11, 1, 12, 13, 4, 14, 18, 19, 20, 21, 22, 23, 24, 25, 26, 27, 28] (by decide +kernel) (by decide +kernel)
set_option maxRecDepth 20000 in
theorem gX7_setSlope_X7_save : GoodIn wsX7_setSlope (wsV RX7 40 RX7 yX7_save wsX7_save) := goodIn_app (goodIn_of _ (by decide +kernel)) ggX7_setSlope_X7_save
set_option maxRecDepth 20000 in
theorem ggX7_setSlope_X7_divisor : GoodIn wsX7_setSlope wsX7_divisor := goodIn_r _ [17] (by decide +kernel) (by decide +kernel)
set_option maxRecDepth 20000 in
theorem gX7_setSlope_X7_divisor : GoodIn wsX7_setSlope (va_wsS RX7 47 yX7_divisor wsX7_divisor) := goodIn_app (goodIn_of _ (by decide +kernel)) ggX7_setSlope_X7_divisor
theorem dX7_setSlope_0 : decode cX7_setSlope 0 = .ok (.iload_n 2, 1) := by decide +kernel
theorem dX7_setSlope_1 : decode cX7_setSlope 1 = .ok (.iconst 1, 1) := by decide +kernel
theorem dX7_setSlope_2 : decode cX7_setSlope 2 = .ok (.sipush 1000, 3) := by decide +kernel
theorem dX7_setSlope_5 : decode cX7_setSlope 5 = .ok (.invokestatic 43, 3) := by decide +kernel
theorem dX7_setSlope_8 : decode cX7_setSlope 8 = .ok (.ifCond .eq 12, 3) := by decide +kernel
theorem dX7_setSlope_11 : decode cX7_setSlope 11 = .ok (.iload_n 1, 1) := by decide +kernel
theorem dX7_setSlope_12 : decode cX7_setSlope 12 = .ok (.iconst 0, 1) := by decide +kernel
theorem dX7_setSlope_13 : decode cX7_setSlope 13 = .ok (.iload_n 2, 1) := by decide +kernel
theorem dX7_setSlope_14 : decode cX7_setSlope 14 = .ok (.invokestatic 43, 3) := by decide +kernel
theorem dX7_setSlope_17 : decode cX7_setSlope 17 = .ok (.ifCond .ne 5, 3) := by decide +kernel
theorem dX7_setSlope_20 : decode cX7_setSlope 20 = .ok (.iconst (-1), 1) := by decide +kernel
theorem dX7_setSlope_21 : decode cX7_setSlope 21 = .ok (.ireturn, 1) := by decide +kernel
theorem dX7_setSlope_22 : decode cX7_setSlope 22 = .ok (.aload_n 0, 1) := by decide +kernel
theorem dX7_setSlope_23 : decode cX7_setSlope 23 = .ok (.invokevirtual 40, 3) := by decide +kernel
theorem dX7_setSlope_26 : decode cX7_setSlope 26 = .ok (.iload_n 1, 1) := by decide +kernel
theorem dX7_setSlope_27 : decode cX7_setSlope 27 = .ok (.iload_n 2, 1) := by decide +kernel
theorem dX7_setSlope_28 : decode cX7_setSlope 28 = .ok (.invokestatic 47, 3) := by decide +kernel
theorem dX7_setSlope_31 : decode cX7_setSlope 31 = .ok (.istore_n 3, 1) := by decide +kernel
theorem dX7_setSlope_32 : decode cX7_setSlope 32 = .ok (.aload_n 0, 1) := by decide +kernel
theorem dX7_setSlope_33 : decode cX7_setSlope 33 = .ok (.getfield 7, 3) := by decide +kernel
theorem dX7_setSlope_36 : decode cX7_setSlope 36 = .ok (.iconst 0, 1) := by decide +kernel
theorem dX7_setSlope_37 : decode cX7_setSlope 37 = .ok (.iload_n 1, 1) := by decide +kernel
theorem dX7_setSlope_38 : decode cX7_setSlope 38 = .ok (.iload_n 3, 1) := by decide +kernel
theorem dX7_setSlope_39 : decode cX7_setSlope 39 = .ok (.idiv, 1) := by decide +kernel
theorem dX7_setSlope_40 : decode cX7_setSlope 40 = .ok (.iastore, 1) := by decide +kernel
theorem dX7_setSlope_41 : decode cX7_setSlope 41 = .ok (.aload_n 0, 1) := by decide +kernel
theorem dX7_setSlope_42 : decode cX7_setSlope 42 = .ok (.getfield 7, 3) := by decide +kernel
theorem dX7_setSlope_45 : decode cX7_setSlope 45 = .ok (.iconst 1, 1) := by decide +kernel
theorem dX7_setSlope_46 : decode cX7_setSlope 46 = .ok (.iload_n 2, 1) := by decide +kernel
theorem dX7_setSlope_47 : decode cX7_setSlope 47 = .ok (.iload_n 3, 1) := by decide +kernel
theorem dX7_setSlope_48 : decode cX7_setSlope 48 = .ok (.idiv, 1) := by decide +kernel
theorem dX7_setSlope_49 : decode cX7_setSlope 49 = .ok (.iastore, 1) := by decide +kernel
theorem dX7_setSlope_50 : decode cX7_setSlope 50 = .ok (.aload_n 0, 1) := by decide +kernel
theorem dX7_setSlope_51 : decode cX7_setSlope 51 = .ok (.getfield 7, 3) := by decide +kernel
theorem dX7_setSlope_54 : decode cX7_setSlope 54 = .ok (.iconst 2, 1) := by decide +kernel
theorem dX7_setSlope_55 : decode cX7_setSlope 55 = .ok (.iconst 0, 1) := by decide +kernel
theorem dX7_setSlope_56 : decode cX7_setSlope 56 = .ok (.iastore, 1) := by decide +kernel
theorem dX7_setSlope_57 : decode cX7_setSlope 57 = .ok (.aload_n 0, 1) := by decide +kernel
theorem dX7_setSlope_58 : decode cX7_setSlope 58 = .ok (.getfield 7, 3) := by decide +kernel
theorem dX7_setSlope_61 : decode cX7_setSlope 61 = .ok (.iconst 1, 1) := by decide +kernel
theorem dX7_setSlope_62 : decode cX7_setSlope 62 = .ok (.iaload, 1) := by decide +kernel
theorem dX7_setSlope_63 : decode cX7_setSlope 63 = .ok (.ireturn, 1) := by decide +kernel
set_option maxRecDepth 20000 in
theorem ggX7_setIntercept_X7_in : GoodIn wsX7_setIntercept wsX7_in := goodIn_r _ [5] (by decide +kernel) (by decide +kernel)
set_option maxRecDepth 20000 in
theorem gX7_setIntercept_X7_in : GoodIn wsX7_setIntercept (va_wsS RX7 43 yX7_in wsX7_in) := goodIn_app (goodIn_of _ (by decide +kernel)) ggX7_setIntercept_X7_in
set_option maxRecDepth 20000 in
theorem ggX7_setIntercept_X7_save : GoodIn wsX7_setIntercept wsX7_save := goodIn_r _ [9, 10, 11, 1, 12, 13, 4, 14, 15, 16, 17, 18, 19, 20, 21, 22, 23, 24, 25] (by decide +kernel) (by decide +kernel)
set_option maxRecDepth 20000 in
theorem gX7_setIntercept_X7_save : GoodIn wsX7_setIntercept (wsV RX7 40 RX7 yX7_save wsX7_save) := goodIn_app (goodIn_of _ (by decide +kernel)) ggX7_setIntercept_X7_save
theorem dX7_setIntercept_0 : decode cX7_setIntercept 0 = .ok (.iload_n 1, 1) := by decide +kernel
theorem dX7_setIntercept_1 : decode cX7_setIntercept 1 = .ok (.iconst 0, 1) := by decide +kernel
theorem dX7_setIntercept_2 : decode cX7_setIntercept 2 = .ok (.aload_n 0, 1) := by decide +kernel
theorem dX7_setIntercept_3 : decode cX7_setIntercept 3 = .ok (.getfield 7, 3) := by decide +kernel
theorem dX7_setIntercept_6 : decode cX7_setIntercept 6 = .ok (.iconst 1, 1) := by decide +kernel
theorem dX7_setIntercept_7 : decode cX7_setIntercept 7 = .ok (.iaload, 1) := by decide +kernel
theorem dX7_setIntercept_8 : decode cX7_setIntercept 8 = .ok (.iconst 1, 1) := by decide +kernel
theorem dX7_setIntercept_9 : decode cX7_setIntercept 9 = .ok (.isub, 1) := by decide +kernel
theorem dX7_setIntercept_10 : decode cX7_setIntercept 10 = .ok (.invokestatic 43, 3) := by decide +kernel
theorem dX7_setIntercept_13 : decode cX7_setIntercept 13 = .ok (.ifCond .ne 5, 3) := by decide +kernel
theorem dX7_setIntercept_16 : decode cX7_setIntercept 16 = .ok (.iconst (-1), 1) := by decide +kernel
theorem dX7_setIntercept_17 : decode cX7_setIntercept 17 = .ok (.ireturn, 1) := by decide +kernel
theorem dX7_setIntercept_18 : decode cX7_setIntercept 18 = .ok (.aload_n 0, 1) := by decide +kernel
theorem dX7_setIntercept_19 : decode cX7_setIntercept 19 = .ok (.invokevirtual 40, 3) := by decide +kernel
theorem dX7_setIntercept_22 : decode cX7_setIntercept 22 = .ok (.aload_n 0, 1) := by decide +kernel
theorem dX7_setIntercept_23 : decode cX7_setIntercept 23 = .ok (.getfield 7, 3) := by decide +kernel
theorem dX7_setIntercept_26 : decode cX7_setIntercept 26 = .ok (.iconst 2, 1) := by decide +kernel
theorem dX7_setIntercept_27 : decode cX7_setIntercept 27 = .ok (.iaload, 1) := by decide +kernel
theorem dX7_setIntercept_28 : decode cX7_setIntercept 28 = .ok (.istore_n 2, 1) := by decide +kernel
theorem dX7_setIntercept_29 : decode cX7_setIntercept 29 = .ok (.aload_n 0, 1) := by decide +kernel
theorem dX7_setIntercept_30 : decode cX7_setIntercept 30 = .ok (.getfield 7, 3) := by decide +kernel
theorem dX7_setIntercept_33 : decode cX7_setIntercept 33 = .ok (.iconst 2, 1) := by decide +kernel
theorem dX7_setIntercept_34 : decode cX7_setIntercept 34 = .ok (.iload_n 1, 1) := by decide +kernel
theorem dX7_setIntercept_35 : decode cX7_setIntercept 35 = .ok (.iastore, 1) := by decide +kernel
theorem dX7_setIntercept_36 : decode cX7_setIntercept 36 = .ok (.iload_n 2, 1) := by decide +kernel
theorem dX7_setIntercept_37 : decode cX7_setIntercept 37 = .ok (.ireturn, 1) := by decide +kernel
theorem dX7_slopeNumerator_0 : decode cX7_slopeNumerator 0 = .ok (.aload_n 0, 1) := by decide +kernel
theorem dX7_slopeNumerator_1 : decode cX7_slopeNumerator 1 = .ok (.getfield 7, 3) := by decide +kernel
theorem dX7_slopeNumerator_4 : decode cX7_slopeNumerator 4 = .ok (.iconst 0, 1) := by decide +kernel
theorem dX7_slopeNumerator_5 : decode cX7_slopeNumerator 5 = .ok (.iaload, 1) := by decide +kernel
theorem dX7_slopeNumerator_6 : decode cX7_slopeNumerator 6 = .ok (.ireturn, 1) := by decide +kernel
theorem dX7_slopeDenominator_0 : decode cX7_slopeDenominator 0 = .ok (.aload_n 0, 1) := by decide +kernel
theorem dX7_slopeDenominator_1 : decode cX7_slopeDenominator 1 = .ok (.getfield 7, 3) := by decide +kernel
theorem dX7_slopeDenominator_4 : decode cX7_slopeDenominator 4 = .ok (.iconst 1, 1) := by decide +kernel
theorem dX7_slopeDenominator_5 : decode cX7_slopeDenominator 5 = .ok (.iaload, 1) := by decide +kernel
theorem dX7_slopeDenominator_6 : decode cX7_slopeDenominator 6 = .ok (.ireturn, 1) := by decide +kernel
theorem dX7_expand_0 : decode cX7_expand 0 = .ok (.aload_n 0, 1) := by decide +kernel
theorem dX7_expand_1 : decode cX7_expand 1 = .ok (.iconst 0, 1) := by decide +kernel
theorem dX7_expand_2 : decode cX7_expand 2 = .ok (.putfield 51, 3) := by decide +kernel
theorem dX7_expand_5 : decode cX7_expand 5 = .ok (.aload_n 0, 1) := by decide +kernel
theorem dX7_expand_6 : decode cX7_expand 6 = .ok (.getfield 7, 3) := by decide +kernel
theorem dX7_expand_9 : decode cX7_expand 9 = .ok (.iconst 1, 1) := by decide +kernel
theorem dX7_expand_10 : decode cX7_expand 10 = .ok (.iaload, 1) := by decide +kernel
theorem dX7_expand_11 : decode cX7_expand 11 = .ok (.istore_n 1, 1) := by decide +kernel
theorem dX7_expand_12 : decode cX7_expand 12 = .ok (.aload_n 0, 1) := by decide +kernel
theorem dX7_expand_13 : decode cX7_expand 13 = .ok (.getfield 7, 3) := by decide +kernel
theorem dX7_expand_16 : decode cX7_expand 16 = .ok (.iconst 0, 1) := by decide +kernel
theorem dX7_expand_17 : decode cX7_expand 17 = .ok (.iaload, 1) := by decide +kernel
theorem dX7_expand_18 : decode cX7_expand 18 = .ok (.istore_n 2, 1) := by decide +kernel
theorem dX7_expand_19 : decode cX7_expand 19 = .ok (.iload_n 2, 1) := by decide +kernel
theorem dX7_expand_20 : decode cX7_expand 20 = .ok (.ifCond .eq 36, 3) := by decide +kernel
theorem dX7_expand_23 : decode cX7_expand 23 = .ok (.aload_n 0, 1) := by decide +kernel
theorem dX7_expand_24 : decode cX7_expand 24 = .ok (.getfield 19, 3) := by decide +kernel
theorem dX7_expand_27 : decode cX7_expand 27 = .ok (.aload_n 0, 1) := by decide +kernel
theorem dX7_expand_28 : decode cX7_expand 28 = .ok (.getfield 51, 3) := by decide +kernel
theorem dX7_expand_31 : decode cX7_expand 31 = .ok (.iload_n 1, 1) := by decide +kernel
theorem dX7_expand_32 : decode cX7_expand 32 = .ok (.iload_n 2, 1) := by decide +kernel
theorem dX7_expand_33 : decode cX7_expand 33 = .ok (.idiv, 1) := by decide +kernel
theorem dX7_expand_34 : decode cX7_expand 34 = .ok (.iastore, 1) := by decide +kernel
theorem dX7_expand_35 : decode cX7_expand 35 = .ok (.aload_n 0, 1) := by decide +kernel
theorem dX7_expand_36 : decode cX7_expand 36 = .ok (.dup, 1) := by decide +kernel
theorem dX7_expand_37 : decode cX7_expand 37 = .ok (.getfield 51, 3) := by decide +kernel
theorem dX7_expand_40 : decode cX7_expand 40 = .ok (.iconst 1, 1) := by decide +kernel
theorem dX7_expand_41 : decode cX7_expand 41 = .ok (.iadd, 1) := by decide +kernel
theorem dX7_expand_42 : decode cX7_expand 42 = .ok (.putfield 51, 3) := by decide +kernel
theorem dX7_expand_45 : decode cX7_expand 45 = .ok (.iload_n 1, 1) := by decide +kernel
theorem dX7_expand_46 : decode cX7_expand 46 = .ok (.iload_n 2, 1) := by decide +kernel
theorem dX7_expand_47 : decode cX7_expand 47 = .ok (.irem, 1) := by decide +kernel
theorem dX7_expand_48 : decode cX7_expand 48 = .ok (.istore_n 3, 1) := by decide +kernel
theorem dX7_expand_49 : decode cX7_expand 49 = .ok (.iload_n 2, 1) := by decide +kernel
theorem dX7_expand_50 : decode cX7_expand 50 = .ok (.istore_n 1, 1) := by decide +kernel
theorem dX7_expand_51 : decode cX7_expand 51 = .ok (.iload_n 3, 1) := by decide +kernel
theorem dX7_expand_52 : decode cX7_expand 52 = .ok (.istore_n 2, 1) := by decide +kernel
theorem dX7_expand_53 : decode cX7_expand 53 = .ok (.goto (-34), 3) := by decide +kernel
theorem dX7_expand_56 : decode cX7_expand 56 = .ok (.return_, 1) := by decide +kernel
set_option maxRecDepth 20000 in
theorem ggX7_continuedFractionTerm_X7_expand : GoodIn wsX7_continuedFractionTerm wsX7_expand := goodIn_r _ [7, 1, 8, 2, 9, 10, 11, 12, 13, 14, 15, 16, 17, 18, 19] (by decide +kernel) (by decide +kernel)
set_option maxRecDepth 20000 in
theorem gX7_continuedFractionTerm_X7_expand : GoodIn wsX7_continuedFractionTerm (wsV RX7 54 RX7 yX7_expand wsX7_expand) := goodIn_app (goodIn_of _ (by decide +kernel)) ggX7_continuedFractionTerm_X7_expand
theorem dX7_continuedFractionTerm_0 : decode cX7_continuedFractionTerm 0 = .ok (.iload_n 1, 1) := by decide +kernel
theorem dX7_continuedFractionTerm_1 : decode cX7_continuedFractionTerm 1 = .ok (.iconst 1, 1) := by decide +kernel
theorem dX7_continuedFractionTerm_2 : decode cX7_continuedFractionTerm 2 = .ok (.if_icmp .ge 5, 3) := by decide +kernel
theorem dX7_continuedFractionTerm_5 : decode cX7_continuedFractionTerm 5 = .ok (.iconst (-1), 1) := by decide +kernel
theorem dX7_continuedFractionTerm_6 : decode cX7_continuedFractionTerm 6 = .ok (.ireturn, 1) := by decide +kernel
theorem dX7_continuedFractionTerm_7 : decode cX7_continuedFractionTerm 7 = .ok (.aload_n 0, 1) := by decide +kernel
theorem dX7_continuedFractionTerm_8 : decode cX7_continuedFractionTerm 8 = .ok (.invokevirtual 54, 3) := by decide +kernel
theorem dX7_continuedFractionTerm_11 : decode cX7_continuedFractionTerm 11 = .ok (.iload_n 1, 1) := by decide +kernel
theorem dX7_continuedFractionTerm_12 : decode cX7_continuedFractionTerm 12 = .ok (.aload_n 0, 1) := by decide +kernel
theorem dX7_continuedFractionTerm_13 : decode cX7_continuedFractionTerm 13 = .ok (.getfield 51, 3) := by decide +kernel
theorem dX7_continuedFractionTerm_16 : decode cX7_continuedFractionTerm 16 = .ok (.if_icmp .gt 14, 3) := by decide +kernel
theorem dX7_continuedFractionTerm_19 : decode cX7_continuedFractionTerm 19 = .ok (.aload_n 0, 1) := by decide +kernel
theorem dX7_continuedFractionTerm_20 : decode cX7_continuedFractionTerm 20 = .ok (.getfield 19, 3) := by decide +kernel
theorem dX7_continuedFractionTerm_23 : decode cX7_continuedFractionTerm 23 = .ok (.iload_n 1, 1) := by decide +kernel
theorem dX7_continuedFractionTerm_24 : decode cX7_continuedFractionTerm 24 = .ok (.iconst 1, 1) := by decide +kernel
theorem dX7_continuedFractionTerm_25 : decode cX7_continuedFractionTerm 25 = .ok (.isub, 1) := by decide +kernel
theorem dX7_continuedFractionTerm_26 : decode cX7_continuedFractionTerm 26 = .ok (.iaload, 1) := by decide +kernel
theorem dX7_continuedFractionTerm_27 : decode cX7_continuedFractionTerm 27 = .ok (.goto 5, 3) := by decide +kernel
theorem dX7_continuedFractionTerm_30 : decode cX7_continuedFractionTerm 30 = .ok (.bipush (-3), 2) := by decide +kernel
theorem dX7_continuedFractionTerm_32 : decode cX7_continuedFractionTerm 32 = .ok (.ireturn, 1) := by decide +kernel
theorem dX7_roundedUp_0 : decode cX7_roundedUp 0 = .ok (.iload_n 0, 1) := by decide +kernel
theorem dX7_roundedUp_1 : decode cX7_roundedUp 1 = .ok (.iload_n 1, 1) := by decide +kernel
theorem dX7_roundedUp_2 : decode cX7_roundedUp 2 = .ok (.iadd, 1) := by decide +kernel
theorem dX7_roundedUp_3 : decode cX7_roundedUp 3 = .ok (.iconst 1, 1) := by decide +kernel
theorem dX7_roundedUp_4 : decode cX7_roundedUp 4 = .ok (.isub, 1) := by decide +kernel
theorem dX7_roundedUp_5 : decode cX7_roundedUp 5 = .ok (.iload_n 1, 1) := by decide +kernel
theorem dX7_roundedUp_6 : decode cX7_roundedUp 6 = .ok (.idiv, 1) := by decide +kernel
theorem dX7_roundedUp_7 : decode cX7_roundedUp 7 = .ok (.ireturn, 1) := by decide +kernel
set_option maxRecDepth 20000 in
theorem ggX7_letterOf_X7_roundedUp : GoodIn wsX7_letterOf wsX7_roundedUp := goodIn_r _ [5] (by decide +kernel) (by decide +kernel)
set_option maxRecDepth 20000 in
theorem gX7_letterOf_X7_roundedUp : GoodIn wsX7_letterOf (va_wsS RX7 57 yX7_roundedUp wsX7_roundedUp) := goodIn_app (goodIn_of _ (by decide +kernel)) ggX7_letterOf_X7_roundedUp
theorem dX7_letterOf_0 : decode cX7_letterOf 0 = .ok (.iload_n 1, 1) := by decide +kernel
theorem dX7_letterOf_1 : decode cX7_letterOf 1 = .ok (.aload_n 0, 1) := by decide +kernel
theorem dX7_letterOf_2 : decode cX7_letterOf 2 = .ok (.getfield 7, 3) := by decide +kernel
theorem dX7_letterOf_5 : decode cX7_letterOf 5 = .ok (.iconst 0, 1) := by decide +kernel
theorem dX7_letterOf_6 : decode cX7_letterOf 6 = .ok (.iaload, 1) := by decide +kernel
theorem dX7_letterOf_7 : decode cX7_letterOf 7 = .ok (.imul, 1) := by decide +kernel
theorem dX7_letterOf_8 : decode cX7_letterOf 8 = .ok (.aload_n 0, 1) := by decide +kernel
theorem dX7_letterOf_9 : decode cX7_letterOf 9 = .ok (.getfield 7, 3) := by decide +kernel
theorem dX7_letterOf_12 : decode cX7_letterOf 12 = .ok (.iconst 2, 1) := by decide +kernel
theorem dX7_letterOf_13 : decode cX7_letterOf 13 = .ok (.iaload, 1) := by decide +kernel
theorem dX7_letterOf_14 : decode cX7_letterOf 14 = .ok (.iadd, 1) := by decide +kernel
theorem dX7_letterOf_15 : decode cX7_letterOf 15 = .ok (.istore_n 3, 1) := by decide +kernel
theorem dX7_letterOf_16 : decode cX7_letterOf 16 = .ok (.iload_n 3, 1) := by decide +kernel
theorem dX7_letterOf_17 : decode cX7_letterOf 17 = .ok (.aload_n 0, 1) := by decide +kernel
theorem dX7_letterOf_18 : decode cX7_letterOf 18 = .ok (.getfield 7, 3) := by decide +kernel
theorem dX7_letterOf_21 : decode cX7_letterOf 21 = .ok (.iconst 0, 1) := by decide +kernel
theorem dX7_letterOf_22 : decode cX7_letterOf 22 = .ok (.iaload, 1) := by decide +kernel
theorem dX7_letterOf_23 : decode cX7_letterOf 23 = .ok (.iadd, 1) := by decide +kernel
theorem dX7_letterOf_24 : decode cX7_letterOf 24 = .ok (.istore 4, 2) := by decide +kernel
theorem dX7_letterOf_26 : decode cX7_letterOf 26 = .ok (.iload_n 2, 1) := by decide +kernel
theorem dX7_letterOf_27 : decode cX7_letterOf 27 = .ok (.ifCond .eq 28, 3) := by decide +kernel
theorem dX7_letterOf_30 : decode cX7_letterOf 30 = .ok (.iload 4, 2) := by decide +kernel
theorem dX7_letterOf_32 : decode cX7_letterOf 32 = .ok (.aload_n 0, 1) := by decide +kernel
theorem dX7_letterOf_33 : decode cX7_letterOf 33 = .ok (.getfield 7, 3) := by decide +kernel
theorem dX7_letterOf_36 : decode cX7_letterOf 36 = .ok (.iconst 1, 1) := by decide +kernel
theorem dX7_letterOf_37 : decode cX7_letterOf 37 = .ok (.iaload, 1) := by decide +kernel
theorem dX7_letterOf_38 : decode cX7_letterOf 38 = .ok (.invokestatic 57, 3) := by decide +kernel
theorem dX7_letterOf_41 : decode cX7_letterOf 41 = .ok (.iload_n 3, 1) := by decide +kernel
theorem dX7_letterOf_42 : decode cX7_letterOf 42 = .ok (.aload_n 0, 1) := by decide +kernel
theorem dX7_letterOf_43 : decode cX7_letterOf 43 = .ok (.getfield 7, 3) := by decide +kernel
theorem dX7_letterOf_46 : decode cX7_letterOf 46 = .ok (.iconst 1, 1) := by decide +kernel
theorem dX7_letterOf_47 : decode cX7_letterOf 47 = .ok (.iaload, 1) := by decide +kernel
theorem dX7_letterOf_48 : decode cX7_letterOf 48 = .ok (.invokestatic 57, 3) := by decide +kernel
theorem dX7_letterOf_51 : decode cX7_letterOf 51 = .ok (.isub, 1) := by decide +kernel
theorem dX7_letterOf_52 : decode cX7_letterOf 52 = .ok (.goto 21, 3) := by decide +kernel
theorem dX7_letterOf_55 : decode cX7_letterOf 55 = .ok (.iload 4, 2) := by decide +kernel
theorem dX7_letterOf_57 : decode cX7_letterOf 57 = .ok (.aload_n 0, 1) := by decide +kernel
theorem dX7_letterOf_58 : decode cX7_letterOf 58 = .ok (.getfield 7, 3) := by decide +kernel
theorem dX7_letterOf_61 : decode cX7_letterOf 61 = .ok (.iconst 1, 1) := by decide +kernel
theorem dX7_letterOf_62 : decode cX7_letterOf 62 = .ok (.iaload, 1) := by decide +kernel
theorem dX7_letterOf_63 : decode cX7_letterOf 63 = .ok (.idiv, 1) := by decide +kernel
theorem dX7_letterOf_64 : decode cX7_letterOf 64 = .ok (.iload_n 3, 1) := by decide +kernel
theorem dX7_letterOf_65 : decode cX7_letterOf 65 = .ok (.aload_n 0, 1) := by decide +kernel
theorem dX7_letterOf_66 : decode cX7_letterOf 66 = .ok (.getfield 7, 3) := by decide +kernel
theorem dX7_letterOf_69 : decode cX7_letterOf 69 = .ok (.iconst 1, 1) := by decide +kernel
theorem dX7_letterOf_70 : decode cX7_letterOf 70 = .ok (.iaload, 1) := by decide +kernel
theorem dX7_letterOf_71 : decode cX7_letterOf 71 = .ok (.idiv, 1) := by decide +kernel
theorem dX7_letterOf_72 : decode cX7_letterOf 72 = .ok (.isub, 1) := by decide +kernel
theorem dX7_letterOf_73 : decode cX7_letterOf 73 = .ok (.ireturn, 1) := by decide +kernel
set_option maxRecDepth 20000 in
theorem ggX7_mechanicalLetter_X7_in : GoodIn wsX7_mechanicalLetter wsX7_in := goodIn_r _ [5] (by decide +kernel) (by decide +kernel)
set_option maxRecDepth 20000 in
theorem gX7_mechanicalLetter_X7_in : GoodIn wsX7_mechanicalLetter (va_wsS RX7 43 yX7_in wsX7_in) := goodIn_app (goodIn_of _ (by decide +kernel)) ggX7_mechanicalLetter_X7_in
set_option maxRecDepth 20000 in
theorem ggX7_mechanicalLetter_X7_letterOf : GoodIn wsX7_mechanicalLetter wsX7_letterOf := goodIn_r _ [9, 10, 11, 12, 4, 13, 14, 15, 16, 17, 18, 19, 20, 21, 22, 23, 24] (by decide +kernel) (by decide +kernel)
set_option maxRecDepth 20000 in
theorem gX7_mechanicalLetter_X7_letterOf : GoodIn wsX7_mechanicalLetter (wsV RX7 61 RX7 yX7_letterOf wsX7_letterOf) := goodIn_app (goodIn_of _ (by decide +kernel)) ggX7_mechanicalLetter_X7_letterOf
theorem dX7_mechanicalLetter_0 : decode cX7_mechanicalLetter 0 = .ok (.iload_n 1, 1) := by decide +kernel
theorem dX7_mechanicalLetter_1 : decode cX7_mechanicalLetter 1 = .ok (.iconst 0, 1) := by decide +kernel
theorem dX7_mechanicalLetter_2 : decode cX7_mechanicalLetter 2 = .ok (.ldc 60, 2) := by decide +kernel
theorem dX7_mechanicalLetter_4 : decode cX7_mechanicalLetter 4 = .ok (.invokestatic 43, 3) := by decide +kernel
theorem dX7_mechanicalLetter_7 : decode cX7_mechanicalLetter 7 = .ok (.ifCond .eq 12, 3) := by decide +kernel
theorem dX7_mechanicalLetter_10 : decode cX7_mechanicalLetter 10 = .ok (.aload_n 0, 1) := by decide +kernel
theorem dX7_mechanicalLetter_11 : decode cX7_mechanicalLetter 11 = .ok (.iload_n 1, 1) := by decide +kernel
theorem dX7_mechanicalLetter_12 : decode cX7_mechanicalLetter 12 = .ok (.iload_n 2, 1) := by decide +kernel
theorem dX7_mechanicalLetter_13 : decode cX7_mechanicalLetter 13 = .ok (.invokevirtual 61, 3) := by decide +kernel
theorem dX7_mechanicalLetter_16 : decode cX7_mechanicalLetter 16 = .ok (.goto 4, 3) := by decide +kernel
theorem dX7_mechanicalLetter_19 : decode cX7_mechanicalLetter 19 = .ok (.iconst (-1), 1) := by decide +kernel
theorem dX7_mechanicalLetter_20 : decode cX7_mechanicalLetter 20 = .ok (.ireturn, 1) := by decide +kernel
theorem dX7_weightOf_0 : decode cX7_weightOf 0 = .ok (.iconst 0, 1) := by decide +kernel
theorem dX7_weightOf_1 : decode cX7_weightOf 1 = .ok (.istore_n 1, 1) := by decide +kernel
theorem dX7_weightOf_2 : decode cX7_weightOf 2 = .ok (.iconst 0, 1) := by decide +kernel
theorem dX7_weightOf_3 : decode cX7_weightOf 3 = .ok (.istore_n 2, 1) := by decide +kernel
theorem dX7_weightOf_4 : decode cX7_weightOf 4 = .ok (.iload_n 2, 1) := by decide +kernel
theorem dX7_weightOf_5 : decode cX7_weightOf 5 = .ok (.aload_n 0, 1) := by decide +kernel
theorem dX7_weightOf_6 : decode cX7_weightOf 6 = .ok (.iconst 3, 1) := by decide +kernel
theorem dX7_weightOf_7 : decode cX7_weightOf 7 = .ok (.iaload, 1) := by decide +kernel
theorem dX7_weightOf_8 : decode cX7_weightOf 8 = .ok (.if_icmp .ge 17, 3) := by decide +kernel
theorem dX7_weightOf_11 : decode cX7_weightOf 11 = .ok (.iload_n 1, 1) := by decide +kernel
theorem dX7_weightOf_12 : decode cX7_weightOf 12 = .ok (.aload_n 0, 1) := by decide +kernel
theorem dX7_weightOf_13 : decode cX7_weightOf 13 = .ok (.iconst 4, 1) := by decide +kernel
theorem dX7_weightOf_14 : decode cX7_weightOf 14 = .ok (.iload_n 2, 1) := by decide +kernel
theorem dX7_weightOf_15 : decode cX7_weightOf 15 = .ok (.iadd, 1) := by decide +kernel
theorem dX7_weightOf_16 : decode cX7_weightOf 16 = .ok (.iaload, 1) := by decide +kernel
theorem dX7_weightOf_17 : decode cX7_weightOf 17 = .ok (.iadd, 1) := by decide +kernel
theorem dX7_weightOf_18 : decode cX7_weightOf 18 = .ok (.istore_n 1, 1) := by decide +kernel
theorem dX7_weightOf_19 : decode cX7_weightOf 19 = .ok (.iinc 2 1, 3) := by decide +kernel
theorem dX7_weightOf_22 : decode cX7_weightOf 22 = .ok (.goto (-18), 3) := by decide +kernel
theorem dX7_weightOf_25 : decode cX7_weightOf 25 = .ok (.iload_n 1, 1) := by decide +kernel
theorem dX7_weightOf_26 : decode cX7_weightOf 26 = .ok (.ireturn, 1) := by decide +kernel
set_option maxRecDepth 20000 in
theorem ggX7_loadMechanical_X7_letterOf : GoodIn wsX7_loadMechanical wsX7_letterOf := goodIn_r _ [7, 2, 8, 9, 6, 10, 27, 28, 29, 30, 31, 32, 33, 34, 35, 36, 37] (by decide +kernel) (by decide +kernel)
set_option maxRecDepth 20000 in
theorem gX7_loadMechanical_X7_letterOf : GoodIn wsX7_loadMechanical (wsV RX7 61 RX7 yX7_letterOf wsX7_letterOf) := goodIn_app (goodIn_of _ (by decide +kernel)) ggX7_loadMechanical_X7_letterOf
set_option maxRecDepth 20000 in
theorem ggX7_loadMechanical_X7_take : GoodIn wsX7_loadMechanical wsX7_take := goodIn_r _ [14, 1, 2, 15, 16, 17, 6, 18, 19, 20, 21, 22, 23, 27, 28, 29, 30, 31, 32, 33, 34, 35, 36, 37] (by decide +kernel) (by decide +kernel)
set_option maxRecDepth 20000 in
theorem gX7_loadMechanical_X7_take : GoodIn wsX7_loadMechanical (wsV RX7 65 RX7 yX7_take wsX7_take) := goodIn_app (goodIn_of _ (by decide +kernel)) ggX7_loadMechanical_X7_take
set_option maxRecDepth 20000 in
theorem ggX7_loadMechanical_X7_weightOf : GoodIn wsX7_loadMechanical wsX7_weightOf := goodIn_r _ [26] (by decide +kernel) (by decide +kernel)
set_option maxRecDepth 20000 in
theorem gX7_loadMechanical_X7_weightOf : GoodIn wsX7_loadMechanical (va_wsS RX7 68 yX7_weightOf wsX7_weightOf) := goodIn_app (goodIn_of _ (by decide +kernel)) ggX7_loadMechanical_X7_weightOf
theorem dX7_loadMechanical_0 : decode cX7_loadMechanical 0 = .ok (.iload_n 1, 1) := by decide +kernel
theorem dX7_loadMechanical_1 : decode cX7_loadMechanical 1 = .ok (.ifCond .ge 5, 3) := by decide +kernel
theorem dX7_loadMechanical_4 : decode cX7_loadMechanical 4 = .ok (.iconst (-1), 1) := by decide +kernel
theorem dX7_loadMechanical_5 : decode cX7_loadMechanical 5 = .ok (.ireturn, 1) := by decide +kernel
theorem dX7_loadMechanical_6 : decode cX7_loadMechanical 6 = .ok (.iload_n 1, 1) := by decide +kernel
theorem dX7_loadMechanical_7 : decode cX7_loadMechanical 7 = .ok (.bipush 60, 2) := by decide +kernel
theorem dX7_loadMechanical_9 : decode cX7_loadMechanical 9 = .ok (.if_icmp .le 6, 3) := by decide +kernel
theorem dX7_loadMechanical_12 : decode cX7_loadMechanical 12 = .ok (.bipush (-2), 2) := by decide +kernel
theorem dX7_loadMechanical_14 : decode cX7_loadMechanical 14 = .ok (.ireturn, 1) := by decide +kernel
theorem dX7_loadMechanical_15 : decode cX7_loadMechanical 15 = .ok (.aload_n 0, 1) := by decide +kernel
theorem dX7_loadMechanical_16 : decode cX7_loadMechanical 16 = .ok (.getfield 13, 3) := by decide +kernel
theorem dX7_loadMechanical_19 : decode cX7_loadMechanical 19 = .ok (.iconst 3, 1) := by decide +kernel
theorem dX7_loadMechanical_20 : decode cX7_loadMechanical 20 = .ok (.iload_n 1, 1) := by decide +kernel
theorem dX7_loadMechanical_21 : decode cX7_loadMechanical 21 = .ok (.iastore, 1) := by decide +kernel
theorem dX7_loadMechanical_22 : decode cX7_loadMechanical 22 = .ok (.iconst 0, 1) := by decide +kernel
theorem dX7_loadMechanical_23 : decode cX7_loadMechanical 23 = .ok (.istore_n 3, 1) := by decide +kernel
theorem dX7_loadMechanical_24 : decode cX7_loadMechanical 24 = .ok (.iload_n 3, 1) := by decide +kernel
theorem dX7_loadMechanical_25 : decode cX7_loadMechanical 25 = .ok (.iload_n 1, 1) := by decide +kernel
theorem dX7_loadMechanical_26 : decode cX7_loadMechanical 26 = .ok (.if_icmp .ge 23, 3) := by decide +kernel
theorem dX7_loadMechanical_29 : decode cX7_loadMechanical 29 = .ok (.aload_n 0, 1) := by decide +kernel
theorem dX7_loadMechanical_30 : decode cX7_loadMechanical 30 = .ok (.getfield 13, 3) := by decide +kernel
theorem dX7_loadMechanical_33 : decode cX7_loadMechanical 33 = .ok (.iconst 4, 1) := by decide +kernel
theorem dX7_loadMechanical_34 : decode cX7_loadMechanical 34 = .ok (.iload_n 3, 1) := by decide +kernel
theorem dX7_loadMechanical_35 : decode cX7_loadMechanical 35 = .ok (.iadd, 1) := by decide +kernel
theorem dX7_loadMechanical_36 : decode cX7_loadMechanical 36 = .ok (.aload_n 0, 1) := by decide +kernel
theorem dX7_loadMechanical_37 : decode cX7_loadMechanical 37 = .ok (.iload_n 3, 1) := by decide +kernel
theorem dX7_loadMechanical_38 : decode cX7_loadMechanical 38 = .ok (.iload_n 2, 1) := by decide +kernel
theorem dX7_loadMechanical_39 : decode cX7_loadMechanical 39 = .ok (.invokevirtual 61, 3) := by decide +kernel
theorem dX7_loadMechanical_42 : decode cX7_loadMechanical 42 = .ok (.iastore, 1) := by decide +kernel
theorem dX7_loadMechanical_43 : decode cX7_loadMechanical 43 = .ok (.iinc 3 1, 3) := by decide +kernel
theorem dX7_loadMechanical_46 : decode cX7_loadMechanical 46 = .ok (.goto (-22), 3) := by decide +kernel
theorem dX7_loadMechanical_49 : decode cX7_loadMechanical 49 = .ok (.aload_n 0, 1) := by decide +kernel
theorem dX7_loadMechanical_50 : decode cX7_loadMechanical 50 = .ok (.invokevirtual 65, 3) := by decide +kernel
theorem dX7_loadMechanical_53 : decode cX7_loadMechanical 53 = .ok (.aload_n 0, 1) := by decide +kernel
theorem dX7_loadMechanical_54 : decode cX7_loadMechanical 54 = .ok (.getfield 7, 3) := by decide +kernel
theorem dX7_loadMechanical_57 : decode cX7_loadMechanical 57 = .ok (.invokestatic 68, 3) := by decide +kernel
theorem dX7_loadMechanical_60 : decode cX7_loadMechanical 60 = .ok (.ireturn, 1) := by decide +kernel
theorem dX7_appendTo_0 : decode cX7_appendTo 0 = .ok (.aload_n 0, 1) := by decide +kernel
theorem dX7_appendTo_1 : decode cX7_appendTo 1 = .ok (.getfield 13, 3) := by decide +kernel
theorem dX7_appendTo_4 : decode cX7_appendTo 4 = .ok (.iconst 3, 1) := by decide +kernel
theorem dX7_appendTo_5 : decode cX7_appendTo 5 = .ok (.iaload, 1) := by decide +kernel
theorem dX7_appendTo_6 : decode cX7_appendTo 6 = .ok (.bipush 60, 2) := by decide +kernel
theorem dX7_appendTo_8 : decode cX7_appendTo 8 = .ok (.if_icmp .ge 17, 3) := by decide +kernel
theorem dX7_appendTo_11 : decode cX7_appendTo 11 = .ok (.aload_n 0, 1) := by decide +kernel
theorem dX7_appendTo_12 : decode cX7_appendTo 12 = .ok (.getfield 13, 3) := by decide +kernel
theorem dX7_appendTo_15 : decode cX7_appendTo 15 = .ok (.iconst 4, 1) := by decide +kernel
theorem dX7_appendTo_16 : decode cX7_appendTo 16 = .ok (.aload_n 0, 1) := by decide +kernel
theorem dX7_appendTo_17 : decode cX7_appendTo 17 = .ok (.getfield 13, 3) := by decide +kernel
theorem dX7_appendTo_20 : decode cX7_appendTo 20 = .ok (.iconst 3, 1) := by decide +kernel
theorem dX7_appendTo_21 : decode cX7_appendTo 21 = .ok (.iaload, 1) := by decide +kernel
theorem dX7_appendTo_22 : decode cX7_appendTo 22 = .ok (.iadd, 1) := by decide +kernel
theorem dX7_appendTo_23 : decode cX7_appendTo 23 = .ok (.iload_n 1, 1) := by decide +kernel
theorem dX7_appendTo_24 : decode cX7_appendTo 24 = .ok (.iastore, 1) := by decide +kernel
theorem dX7_appendTo_25 : decode cX7_appendTo 25 = .ok (.aload_n 0, 1) := by decide +kernel
theorem dX7_appendTo_26 : decode cX7_appendTo 26 = .ok (.getfield 13, 3) := by decide +kernel
theorem dX7_appendTo_29 : decode cX7_appendTo 29 = .ok (.iconst 3, 1) := by decide +kernel
theorem dX7_appendTo_30 : decode cX7_appendTo 30 = .ok (.dup2, 1) := by decide +kernel
theorem dX7_appendTo_31 : decode cX7_appendTo 31 = .ok (.iaload, 1) := by decide +kernel
theorem dX7_appendTo_32 : decode cX7_appendTo 32 = .ok (.iconst 1, 1) := by decide +kernel
theorem dX7_appendTo_33 : decode cX7_appendTo 33 = .ok (.iadd, 1) := by decide +kernel
theorem dX7_appendTo_34 : decode cX7_appendTo 34 = .ok (.iastore, 1) := by decide +kernel
theorem dX7_appendTo_35 : decode cX7_appendTo 35 = .ok (.return_, 1) := by decide +kernel
set_option maxRecDepth 20000 in
theorem ggX7_further_X7_appendTo : GoodIn wsX7_further wsX7_appendTo := goodIn_r _ [10, 1, 11, 12, 13, 14, 15, 16, 17, 18, 19, 20, 21] (by decide +kernel) (by decide +kernel)
set_option maxRecDepth 20000 in
theorem gX7_further_X7_appendTo : GoodIn wsX7_further (wsV RX7 75 RX7 yX7_appendTo wsX7_appendTo) := goodIn_app (goodIn_of _ (by decide +kernel)) ggX7_further_X7_appendTo
theorem dX7_further_0 : decode cX7_further 0 = .ok (.aload_n 0, 1) := by decide +kernel
theorem dX7_further_1 : decode cX7_further 1 = .ok (.getfield 13, 3) := by decide +kernel
theorem dX7_further_4 : decode cX7_further 4 = .ok (.iconst 3, 1) := by decide +kernel
theorem dX7_further_5 : decode cX7_further 5 = .ok (.iconst 0, 1) := by decide +kernel
theorem dX7_further_6 : decode cX7_further 6 = .ok (.iastore, 1) := by decide +kernel
theorem dX7_further_7 : decode cX7_further 7 = .ok (.iconst 0, 1) := by decide +kernel
theorem dX7_further_8 : decode cX7_further 8 = .ok (.istore_n 2, 1) := by decide +kernel
theorem dX7_further_9 : decode cX7_further 9 = .ok (.iload_n 2, 1) := by decide +kernel
theorem dX7_further_10 : decode cX7_further 10 = .ok (.iload_n 1, 1) := by decide +kernel
theorem dX7_further_11 : decode cX7_further 11 = .ok (.if_icmp .ge 46, 3) := by decide +kernel
theorem dX7_further_14 : decode cX7_further 14 = .ok (.aload_n 0, 1) := by decide +kernel
theorem dX7_further_15 : decode cX7_further 15 = .ok (.getfield 13, 3) := by decide +kernel
theorem dX7_further_18 : decode cX7_further 18 = .ok (.iconst 3, 1) := by decide +kernel
theorem dX7_further_19 : decode cX7_further 19 = .ok (.iaload, 1) := by decide +kernel
theorem dX7_further_20 : decode cX7_further 20 = .ok (.bipush 60, 2) := by decide +kernel
theorem dX7_further_22 : decode cX7_further 22 = .ok (.if_icmp .gt 35, 3) := by decide +kernel
theorem dX7_further_25 : decode cX7_further 25 = .ok (.iconst 0, 1) := by decide +kernel
theorem dX7_further_26 : decode cX7_further 26 = .ok (.istore_n 3, 1) := by decide +kernel
theorem dX7_further_27 : decode cX7_further 27 = .ok (.iload_n 3, 1) := by decide +kernel
theorem dX7_further_28 : decode cX7_further 28 = .ok (.aload_n 0, 1) := by decide +kernel
theorem dX7_further_29 : decode cX7_further 29 = .ok (.getfield 72, 3) := by decide +kernel
theorem dX7_further_32 : decode cX7_further 32 = .ok (.if_icmp .ge 19, 3) := by decide +kernel
theorem dX7_further_35 : decode cX7_further 35 = .ok (.aload_n 0, 1) := by decide +kernel
theorem dX7_further_36 : decode cX7_further 36 = .ok (.aload_n 0, 1) := by decide +kernel
theorem dX7_further_37 : decode cX7_further 37 = .ok (.getfield 25, 3) := by decide +kernel
theorem dX7_further_40 : decode cX7_further 40 = .ok (.iload_n 3, 1) := by decide +kernel
theorem dX7_further_41 : decode cX7_further 41 = .ok (.iaload, 1) := by decide +kernel
theorem dX7_further_42 : decode cX7_further 42 = .ok (.invokevirtual 75, 3) := by decide +kernel
theorem dX7_further_45 : decode cX7_further 45 = .ok (.iinc 3 1, 3) := by decide +kernel
theorem dX7_further_48 : decode cX7_further 48 = .ok (.goto (-21), 3) := by decide +kernel
theorem dX7_further_51 : decode cX7_further 51 = .ok (.iinc 2 1, 3) := by decide +kernel
theorem dX7_further_54 : decode cX7_further 54 = .ok (.goto (-45), 3) := by decide +kernel
theorem dX7_further_57 : decode cX7_further 57 = .ok (.iconst 0, 1) := by decide +kernel
theorem dX7_further_58 : decode cX7_further 58 = .ok (.istore_n 2, 1) := by decide +kernel
theorem dX7_further_59 : decode cX7_further 59 = .ok (.iload_n 2, 1) := by decide +kernel
theorem dX7_further_60 : decode cX7_further 60 = .ok (.aload_n 0, 1) := by decide +kernel
theorem dX7_further_61 : decode cX7_further 61 = .ok (.getfield 79, 3) := by decide +kernel
theorem dX7_further_64 : decode cX7_further 64 = .ok (.if_icmp .ge 19, 3) := by decide +kernel
theorem dX7_further_67 : decode cX7_further 67 = .ok (.aload_n 0, 1) := by decide +kernel
theorem dX7_further_68 : decode cX7_further 68 = .ok (.aload_n 0, 1) := by decide +kernel
theorem dX7_further_69 : decode cX7_further 69 = .ok (.getfield 22, 3) := by decide +kernel
theorem dX7_further_72 : decode cX7_further 72 = .ok (.iload_n 2, 1) := by decide +kernel
theorem dX7_further_73 : decode cX7_further 73 = .ok (.iaload, 1) := by decide +kernel
theorem dX7_further_74 : decode cX7_further 74 = .ok (.invokevirtual 75, 3) := by decide +kernel
theorem dX7_further_77 : decode cX7_further 77 = .ok (.iinc 2 1, 3) := by decide +kernel
theorem dX7_further_80 : decode cX7_further 80 = .ok (.goto (-21), 3) := by decide +kernel
theorem dX7_further_83 : decode cX7_further 83 = .ok (.aload_n 0, 1) := by decide +kernel
theorem dX7_further_84 : decode cX7_further 84 = .ok (.getfield 13, 3) := by decide +kernel
theorem dX7_further_87 : decode cX7_further 87 = .ok (.iconst 3, 1) := by decide +kernel
theorem dX7_further_88 : decode cX7_further 88 = .ok (.iaload, 1) := by decide +kernel
theorem dX7_further_89 : decode cX7_further 89 = .ok (.bipush 60, 2) := by decide +kernel
theorem dX7_further_91 : decode cX7_further 91 = .ok (.if_icmp .le 5, 3) := by decide +kernel
theorem dX7_further_94 : decode cX7_further 94 = .ok (.iconst 0, 1) := by decide +kernel
theorem dX7_further_95 : decode cX7_further 95 = .ok (.ireturn, 1) := by decide +kernel
theorem dX7_further_96 : decode cX7_further 96 = .ok (.iconst 0, 1) := by decide +kernel
theorem dX7_further_97 : decode cX7_further 97 = .ok (.istore_n 2, 1) := by decide +kernel
theorem dX7_further_98 : decode cX7_further 98 = .ok (.iload_n 2, 1) := by decide +kernel
theorem dX7_further_99 : decode cX7_further 99 = .ok (.aload_n 0, 1) := by decide +kernel
theorem dX7_further_100 : decode cX7_further 100 = .ok (.getfield 72, 3) := by decide +kernel
theorem dX7_further_103 : decode cX7_further 103 = .ok (.if_icmp .ge 21, 3) := by decide +kernel
theorem dX7_further_106 : decode cX7_further 106 = .ok (.aload_n 0, 1) := by decide +kernel
theorem dX7_further_107 : decode cX7_further 107 = .ok (.getfield 22, 3) := by decide +kernel
theorem dX7_further_110 : decode cX7_further 110 = .ok (.iload_n 2, 1) := by decide +kernel
theorem dX7_further_111 : decode cX7_further 111 = .ok (.aload_n 0, 1) := by decide +kernel
theorem dX7_further_112 : decode cX7_further 112 = .ok (.getfield 25, 3) := by decide +kernel
theorem dX7_further_115 : decode cX7_further 115 = .ok (.iload_n 2, 1) := by decide +kernel
theorem dX7_further_116 : decode cX7_further 116 = .ok (.iaload, 1) := by decide +kernel
theorem dX7_further_117 : decode cX7_further 117 = .ok (.iastore, 1) := by decide +kernel
theorem dX7_further_118 : decode cX7_further 118 = .ok (.iinc 2 1, 3) := by decide +kernel
theorem dX7_further_121 : decode cX7_further 121 = .ok (.goto (-23), 3) := by decide +kernel
theorem dX7_further_124 : decode cX7_further 124 = .ok (.aload_n 0, 1) := by decide +kernel
theorem dX7_further_125 : decode cX7_further 125 = .ok (.aload_n 0, 1) := by decide +kernel
theorem dX7_further_126 : decode cX7_further 126 = .ok (.getfield 72, 3) := by decide +kernel
theorem dX7_further_129 : decode cX7_further 129 = .ok (.putfield 79, 3) := by decide +kernel
theorem dX7_further_132 : decode cX7_further 132 = .ok (.aload_n 0, 1) := by decide +kernel
theorem dX7_further_133 : decode cX7_further 133 = .ok (.aload_n 0, 1) := by decide +kernel
theorem dX7_further_134 : decode cX7_further 134 = .ok (.getfield 13, 3) := by decide +kernel
theorem dX7_further_137 : decode cX7_further 137 = .ok (.iconst 3, 1) := by decide +kernel
theorem dX7_further_138 : decode cX7_further 138 = .ok (.iaload, 1) := by decide +kernel
theorem dX7_further_139 : decode cX7_further 139 = .ok (.putfield 72, 3) := by decide +kernel
theorem dX7_further_142 : decode cX7_further 142 = .ok (.iconst 0, 1) := by decide +kernel
theorem dX7_further_143 : decode cX7_further 143 = .ok (.istore_n 2, 1) := by decide +kernel
theorem dX7_further_144 : decode cX7_further 144 = .ok (.iload_n 2, 1) := by decide +kernel
theorem dX7_further_145 : decode cX7_further 145 = .ok (.aload_n 0, 1) := by decide +kernel
theorem dX7_further_146 : decode cX7_further 146 = .ok (.getfield 72, 3) := by decide +kernel
theorem dX7_further_149 : decode cX7_further 149 = .ok (.if_icmp .ge 23, 3) := by decide +kernel
theorem dX7_further_152 : decode cX7_further 152 = .ok (.aload_n 0, 1) := by decide +kernel
theorem dX7_further_153 : decode cX7_further 153 = .ok (.getfield 25, 3) := by decide +kernel
theorem dX7_further_156 : decode cX7_further 156 = .ok (.iload_n 2, 1) := by decide +kernel
theorem dX7_further_157 : decode cX7_further 157 = .ok (.aload_n 0, 1) := by decide +kernel
theorem dX7_further_158 : decode cX7_further 158 = .ok (.getfield 13, 3) := by decide +kernel
theorem dX7_further_161 : decode cX7_further 161 = .ok (.iconst 4, 1) := by decide +kernel
theorem dX7_further_162 : decode cX7_further 162 = .ok (.iload_n 2, 1) := by decide +kernel
theorem dX7_further_163 : decode cX7_further 163 = .ok (.iadd, 1) := by decide +kernel
theorem dX7_further_164 : decode cX7_further 164 = .ok (.iaload, 1) := by decide +kernel
theorem dX7_further_165 : decode cX7_further 165 = .ok (.iastore, 1) := by decide +kernel
theorem dX7_further_166 : decode cX7_further 166 = .ok (.iinc 2 1, 3) := by decide +kernel
theorem dX7_further_169 : decode cX7_further 169 = .ok (.goto (-25), 3) := by decide +kernel
theorem dX7_further_172 : decode cX7_further 172 = .ok (.iconst 1, 1) := by decide +kernel
theorem dX7_further_173 : decode cX7_further 173 = .ok (.ireturn, 1) := by decide +kernel
set_option maxRecDepth 20000 in
theorem ggX7_loadStandard_X7_expand : GoodIn wsX7_loadStandard wsX7_expand := goodIn_r _ [13, 1, 8, 7, 35, 36, 37, 38, 39, 40, 41, 42, 43, 44, 45] (by decide +kernel) (by decide +kernel)
set_option maxRecDepth 20000 in
theorem gX7_loadStandard_X7_expand : GoodIn wsX7_loadStandard (wsV RX7 54 RX7 yX7_expand wsX7_expand) := goodIn_app (goodIn_of _ (by decide +kernel)) ggX7_loadStandard_X7_expand
set_option maxRecDepth 20000 in
theorem ggX7_loadStandard_X7_further : GoodIn wsX7_loadStandard wsX7_further := goodIn_r _ [17, 6, 5, 4, 3, 2, 18, 19, 20, 12, 21, 35, 36, 37, 38, 39, 40, 41, 42, 43, 44, 45] (by decide +kernel) (by decide +kernel)
set_option maxRecDepth 20000 in
theorem gX7_loadStandard_X7_further : GoodIn wsX7_loadStandard (wsV RX7 82 RX7 yX7_further wsX7_further) := goodIn_app (goodIn_of _ (by decide +kernel)) ggX7_loadStandard_X7_further
set_option maxRecDepth 20000 in
theorem ggX7_loadStandard_X7_take : GoodIn wsX7_loadStandard wsX7_take := goodIn_r _ [25, 6, 8, 26, 27, 28, 12, 29, 30, 31, 32, 33, 34, 35, 36, 37, 38, 39, 40, 41, 42, 43, 44, 45] (by decide +kernel) (by decide +kernel)
set_option maxRecDepth 20000 in
theorem gX7_loadStandard_X7_take : GoodIn wsX7_loadStandard (wsV RX7 65 RX7 yX7_take wsX7_take) := goodIn_app (goodIn_of _ (by decide +kernel)) ggX7_loadStandard_X7_take
theorem dX7_loadStandard_0 : decode cX7_loadStandard 0 = .ok (.iload_n 1, 1) := by decide +kernel
theorem dX7_loadStandard_1 : decode cX7_loadStandard 1 = .ok (.iconst (-1), 1) := by decide +kernel
theorem dX7_loadStandard_2 : decode cX7_loadStandard 2 = .ok (.if_icmp .ge 5, 3) := by decide +kernel
theorem dX7_loadStandard_5 : decode cX7_loadStandard 5 = .ok (.iconst (-1), 1) := by decide +kernel
theorem dX7_loadStandard_6 : decode cX7_loadStandard 6 = .ok (.ireturn, 1) := by decide +kernel
theorem dX7_loadStandard_7 : decode cX7_loadStandard 7 = .ok (.aload_n 0, 1) := by decide +kernel
theorem dX7_loadStandard_8 : decode cX7_loadStandard 8 = .ok (.invokevirtual 54, 3) := by decide +kernel
theorem dX7_loadStandard_11 : decode cX7_loadStandard 11 = .ok (.iload_n 1, 1) := by decide +kernel
theorem dX7_loadStandard_12 : decode cX7_loadStandard 12 = .ok (.aload_n 0, 1) := by decide +kernel
theorem dX7_loadStandard_13 : decode cX7_loadStandard 13 = .ok (.getfield 51, 3) := by decide +kernel
theorem dX7_loadStandard_16 : decode cX7_loadStandard 16 = .ok (.if_icmp .le 6, 3) := by decide +kernel
theorem dX7_loadStandard_19 : decode cX7_loadStandard 19 = .ok (.bipush (-3), 2) := by decide +kernel
theorem dX7_loadStandard_21 : decode cX7_loadStandard 21 = .ok (.ireturn, 1) := by decide +kernel
theorem dX7_loadStandard_22 : decode cX7_loadStandard 22 = .ok (.aload_n 0, 1) := by decide +kernel
theorem dX7_loadStandard_23 : decode cX7_loadStandard 23 = .ok (.getfield 22, 3) := by decide +kernel
theorem dX7_loadStandard_26 : decode cX7_loadStandard 26 = .ok (.iconst 0, 1) := by decide +kernel
theorem dX7_loadStandard_27 : decode cX7_loadStandard 27 = .ok (.iconst 1, 1) := by decide +kernel
theorem dX7_loadStandard_28 : decode cX7_loadStandard 28 = .ok (.iastore, 1) := by decide +kernel
theorem dX7_loadStandard_29 : decode cX7_loadStandard 29 = .ok (.aload_n 0, 1) := by decide +kernel
theorem dX7_loadStandard_30 : decode cX7_loadStandard 30 = .ok (.iconst 1, 1) := by decide +kernel
theorem dX7_loadStandard_31 : decode cX7_loadStandard 31 = .ok (.putfield 79, 3) := by decide +kernel
theorem dX7_loadStandard_34 : decode cX7_loadStandard 34 = .ok (.aload_n 0, 1) := by decide +kernel
theorem dX7_loadStandard_35 : decode cX7_loadStandard 35 = .ok (.getfield 25, 3) := by decide +kernel
theorem dX7_loadStandard_38 : decode cX7_loadStandard 38 = .ok (.iconst 0, 1) := by decide +kernel
theorem dX7_loadStandard_39 : decode cX7_loadStandard 39 = .ok (.iconst 0, 1) := by decide +kernel
theorem dX7_loadStandard_40 : decode cX7_loadStandard 40 = .ok (.iastore, 1) := by decide +kernel
theorem dX7_loadStandard_41 : decode cX7_loadStandard 41 = .ok (.aload_n 0, 1) := by decide +kernel
theorem dX7_loadStandard_42 : decode cX7_loadStandard 42 = .ok (.iconst 1, 1) := by decide +kernel
theorem dX7_loadStandard_43 : decode cX7_loadStandard 43 = .ok (.putfield 72, 3) := by decide +kernel
theorem dX7_loadStandard_46 : decode cX7_loadStandard 46 = .ok (.aload_n 0, 1) := by decide +kernel
theorem dX7_loadStandard_47 : decode cX7_loadStandard 47 = .ok (.getfield 13, 3) := by decide +kernel
theorem dX7_loadStandard_50 : decode cX7_loadStandard 50 = .ok (.iconst 3, 1) := by decide +kernel
theorem dX7_loadStandard_51 : decode cX7_loadStandard 51 = .ok (.iconst 1, 1) := by decide +kernel
theorem dX7_loadStandard_52 : decode cX7_loadStandard 52 = .ok (.iastore, 1) := by decide +kernel
theorem dX7_loadStandard_53 : decode cX7_loadStandard 53 = .ok (.aload_n 0, 1) := by decide +kernel
theorem dX7_loadStandard_54 : decode cX7_loadStandard 54 = .ok (.getfield 13, 3) := by decide +kernel
theorem dX7_loadStandard_57 : decode cX7_loadStandard 57 = .ok (.iconst 4, 1) := by decide +kernel
theorem dX7_loadStandard_58 : decode cX7_loadStandard 58 = .ok (.iload_n 1, 1) := by decide +kernel
theorem dX7_loadStandard_59 : decode cX7_loadStandard 59 = .ok (.ifCond .ge 7, 3) := by decide +kernel
theorem dX7_loadStandard_62 : decode cX7_loadStandard 62 = .ok (.iconst 1, 1) := by decide +kernel
theorem dX7_loadStandard_63 : decode cX7_loadStandard 63 = .ok (.goto 4, 3) := by decide +kernel
theorem dX7_loadStandard_66 : decode cX7_loadStandard 66 = .ok (.iconst 0, 1) := by decide +kernel
theorem dX7_loadStandard_67 : decode cX7_loadStandard 67 = .ok (.iastore, 1) := by decide +kernel
theorem dX7_loadStandard_68 : decode cX7_loadStandard 68 = .ok (.iconst 1, 1) := by decide +kernel
theorem dX7_loadStandard_69 : decode cX7_loadStandard 69 = .ok (.istore_n 2, 1) := by decide +kernel
theorem dX7_loadStandard_70 : decode cX7_loadStandard 70 = .ok (.iload_n 2, 1) := by decide +kernel
theorem dX7_loadStandard_71 : decode cX7_loadStandard 71 = .ok (.iload_n 1, 1) := by decide +kernel
theorem dX7_loadStandard_72 : decode cX7_loadStandard 72 = .ok (.if_icmp .gt 43, 3) := by decide +kernel
theorem dX7_loadStandard_75 : decode cX7_loadStandard 75 = .ok (.aload_n 0, 1) := by decide +kernel
theorem dX7_loadStandard_76 : decode cX7_loadStandard 76 = .ok (.iload_n 2, 1) := by decide +kernel
theorem dX7_loadStandard_77 : decode cX7_loadStandard 77 = .ok (.iconst 1, 1) := by decide +kernel
theorem dX7_loadStandard_78 : decode cX7_loadStandard 78 = .ok (.if_icmp .ne 14, 3) := by decide +kernel
theorem dX7_loadStandard_81 : decode cX7_loadStandard 81 = .ok (.aload_n 0, 1) := by decide +kernel
theorem dX7_loadStandard_82 : decode cX7_loadStandard 82 = .ok (.getfield 19, 3) := by decide +kernel
theorem dX7_loadStandard_85 : decode cX7_loadStandard 85 = .ok (.iconst 0, 1) := by decide +kernel
theorem dX7_loadStandard_86 : decode cX7_loadStandard 86 = .ok (.iaload, 1) := by decide +kernel
theorem dX7_loadStandard_87 : decode cX7_loadStandard 87 = .ok (.iconst 1, 1) := by decide +kernel
theorem dX7_loadStandard_88 : decode cX7_loadStandard 88 = .ok (.isub, 1) := by decide +kernel
theorem dX7_loadStandard_89 : decode cX7_loadStandard 89 = .ok (.goto 11, 3) := by decide +kernel
theorem dX7_loadStandard_92 : decode cX7_loadStandard 92 = .ok (.aload_n 0, 1) := by decide +kernel
theorem dX7_loadStandard_93 : decode cX7_loadStandard 93 = .ok (.getfield 19, 3) := by decide +kernel
theorem dX7_loadStandard_96 : decode cX7_loadStandard 96 = .ok (.iload_n 2, 1) := by decide +kernel
theorem dX7_loadStandard_97 : decode cX7_loadStandard 97 = .ok (.iconst 1, 1) := by decide +kernel
theorem dX7_loadStandard_98 : decode cX7_loadStandard 98 = .ok (.isub, 1) := by decide +kernel
theorem dX7_loadStandard_99 : decode cX7_loadStandard 99 = .ok (.iaload, 1) := by decide +kernel
theorem dX7_loadStandard_100 : decode cX7_loadStandard 100 = .ok (.invokevirtual 82, 3) := by decide +kernel
theorem dX7_loadStandard_103 : decode cX7_loadStandard 103 = .ok (.ifCond .ne 6, 3) := by decide +kernel
theorem dX7_loadStandard_106 : decode cX7_loadStandard 106 = .ok (.bipush (-2), 2) := by decide +kernel
theorem dX7_loadStandard_108 : decode cX7_loadStandard 108 = .ok (.ireturn, 1) := by decide +kernel
theorem dX7_loadStandard_109 : decode cX7_loadStandard 109 = .ok (.iinc 2 1, 3) := by decide +kernel
theorem dX7_loadStandard_112 : decode cX7_loadStandard 112 = .ok (.goto (-42), 3) := by decide +kernel
theorem dX7_loadStandard_115 : decode cX7_loadStandard 115 = .ok (.aload_n 0, 1) := by decide +kernel
theorem dX7_loadStandard_116 : decode cX7_loadStandard 116 = .ok (.invokevirtual 65, 3) := by decide +kernel
theorem dX7_loadStandard_119 : decode cX7_loadStandard 119 = .ok (.aload_n 0, 1) := by decide +kernel
theorem dX7_loadStandard_120 : decode cX7_loadStandard 120 = .ok (.getfield 7, 3) := by decide +kernel
theorem dX7_loadStandard_123 : decode cX7_loadStandard 123 = .ok (.iconst 3, 1) := by decide +kernel
theorem dX7_loadStandard_124 : decode cX7_loadStandard 124 = .ok (.iaload, 1) := by decide +kernel
theorem dX7_loadStandard_125 : decode cX7_loadStandard 125 = .ok (.ireturn, 1) := by decide +kernel
set_option maxRecDepth 20000 in
theorem ggX7_append_X7_in : GoodIn wsX7_append wsX7_in := goodIn_r _ [5] (by decide +kernel) (by decide +kernel)
set_option maxRecDepth 20000 in
theorem gX7_append_X7_in : GoodIn wsX7_append (va_wsS RX7 43 yX7_in wsX7_in) := goodIn_app (goodIn_of _ (by decide +kernel)) ggX7_append_X7_in
set_option maxRecDepth 20000 in
theorem ggX7_append_X7_save : GoodIn wsX7_append wsX7_save := goodIn_r _ [9, 10, 11, 1, 12, 13, 4, 14, 15, 16, 17, 18, 19, 20, 21, 22, 23, 24, 25] (by decide +kernel) (by decide +kernel)
set_option maxRecDepth 20000 in
theorem gX7_append_X7_save : GoodIn wsX7_append (wsV RX7 40 RX7 yX7_save wsX7_save) := goodIn_app (goodIn_of _ (by decide +kernel)) ggX7_append_X7_save
theorem dX7_append_0 : decode cX7_append 0 = .ok (.iload_n 1, 1) := by decide +kernel
theorem dX7_append_1 : decode cX7_append 1 = .ok (.iconst 0, 1) := by decide +kernel
theorem dX7_append_2 : decode cX7_append 2 = .ok (.iconst 1, 1) := by decide +kernel
theorem dX7_append_3 : decode cX7_append 3 = .ok (.invokestatic 43, 3) := by decide +kernel
theorem dX7_append_6 : decode cX7_append 6 = .ok (.ifCond .ne 5, 3) := by decide +kernel
theorem dX7_append_9 : decode cX7_append 9 = .ok (.iconst (-1), 1) := by decide +kernel
theorem dX7_append_10 : decode cX7_append 10 = .ok (.ireturn, 1) := by decide +kernel
theorem dX7_append_11 : decode cX7_append 11 = .ok (.aload_n 0, 1) := by decide +kernel
theorem dX7_append_12 : decode cX7_append 12 = .ok (.getfield 7, 3) := by decide +kernel
theorem dX7_append_15 : decode cX7_append 15 = .ok (.iconst 3, 1) := by decide +kernel
theorem dX7_append_16 : decode cX7_append 16 = .ok (.iaload, 1) := by decide +kernel
theorem dX7_append_17 : decode cX7_append 17 = .ok (.bipush 60, 2) := by decide +kernel
theorem dX7_append_19 : decode cX7_append 19 = .ok (.if_icmp .ne 6, 3) := by decide +kernel
theorem dX7_append_22 : decode cX7_append 22 = .ok (.bipush (-2), 2) := by decide +kernel
theorem dX7_append_24 : decode cX7_append 24 = .ok (.ireturn, 1) := by decide +kernel
theorem dX7_append_25 : decode cX7_append 25 = .ok (.aload_n 0, 1) := by decide +kernel
theorem dX7_append_26 : decode cX7_append 26 = .ok (.invokevirtual 40, 3) := by decide +kernel
theorem dX7_append_29 : decode cX7_append 29 = .ok (.aload_n 0, 1) := by decide +kernel
theorem dX7_append_30 : decode cX7_append 30 = .ok (.getfield 7, 3) := by decide +kernel
theorem dX7_append_33 : decode cX7_append 33 = .ok (.iconst 4, 1) := by decide +kernel
theorem dX7_append_34 : decode cX7_append 34 = .ok (.aload_n 0, 1) := by decide +kernel
theorem dX7_append_35 : decode cX7_append 35 = .ok (.getfield 7, 3) := by decide +kernel
theorem dX7_append_38 : decode cX7_append 38 = .ok (.iconst 3, 1) := by decide +kernel
theorem dX7_append_39 : decode cX7_append 39 = .ok (.iaload, 1) := by decide +kernel
theorem dX7_append_40 : decode cX7_append 40 = .ok (.iadd, 1) := by decide +kernel
theorem dX7_append_41 : decode cX7_append 41 = .ok (.iload_n 1, 1) := by decide +kernel
theorem dX7_append_42 : decode cX7_append 42 = .ok (.iastore, 1) := by decide +kernel
theorem dX7_append_43 : decode cX7_append 43 = .ok (.aload_n 0, 1) := by decide +kernel
theorem dX7_append_44 : decode cX7_append 44 = .ok (.getfield 7, 3) := by decide +kernel
theorem dX7_append_47 : decode cX7_append 47 = .ok (.iconst 3, 1) := by decide +kernel
theorem dX7_append_48 : decode cX7_append 48 = .ok (.dup2, 1) := by decide +kernel
theorem dX7_append_49 : decode cX7_append 49 = .ok (.iaload, 1) := by decide +kernel
theorem dX7_append_50 : decode cX7_append 50 = .ok (.iconst 1, 1) := by decide +kernel
theorem dX7_append_51 : decode cX7_append 51 = .ok (.iadd, 1) := by decide +kernel
theorem dX7_append_52 : decode cX7_append 52 = .ok (.iastore, 1) := by decide +kernel
theorem dX7_append_53 : decode cX7_append 53 = .ok (.aload_n 0, 1) := by decide +kernel
theorem dX7_append_54 : decode cX7_append 54 = .ok (.getfield 7, 3) := by decide +kernel
theorem dX7_append_57 : decode cX7_append 57 = .ok (.iconst 3, 1) := by decide +kernel
theorem dX7_append_58 : decode cX7_append 58 = .ok (.iaload, 1) := by decide +kernel
theorem dX7_append_59 : decode cX7_append 59 = .ok (.ireturn, 1) := by decide +kernel
set_option maxRecDepth 20000 in
theorem ggX7_removeLast_X7_save : GoodIn wsX7_removeLast wsX7_save := goodIn_r _ [6, 7, 8, 1, 9, 10, 5, 11, 12, 13, 14, 15, 16, 17, 18, 19, 20, 21, 22] (by decide +kernel) (by decide +kernel)
set_option maxRecDepth 20000 in
theorem gX7_removeLast_X7_save : GoodIn wsX7_removeLast (wsV RX7 40 RX7 yX7_save wsX7_save) := goodIn_app (goodIn_of _ (by decide +kernel)) ggX7_removeLast_X7_save
theorem dX7_removeLast_0 : decode cX7_removeLast 0 = .ok (.aload_n 0, 1) := by decide +kernel
theorem dX7_removeLast_1 : decode cX7_removeLast 1 = .ok (.getfield 7, 3) := by decide +kernel
theorem dX7_removeLast_4 : decode cX7_removeLast 4 = .ok (.iconst 3, 1) := by decide +kernel
theorem dX7_removeLast_5 : decode cX7_removeLast 5 = .ok (.iaload, 1) := by decide +kernel
theorem dX7_removeLast_6 : decode cX7_removeLast 6 = .ok (.ifCond .ne 6, 3) := by decide +kernel
theorem dX7_removeLast_9 : decode cX7_removeLast 9 = .ok (.bipush (-3), 2) := by decide +kernel
theorem dX7_removeLast_11 : decode cX7_removeLast 11 = .ok (.ireturn, 1) := by decide +kernel
theorem dX7_removeLast_12 : decode cX7_removeLast 12 = .ok (.aload_n 0, 1) := by decide +kernel
theorem dX7_removeLast_13 : decode cX7_removeLast 13 = .ok (.invokevirtual 40, 3) := by decide +kernel
theorem dX7_removeLast_16 : decode cX7_removeLast 16 = .ok (.aload_n 0, 1) := by decide +kernel
theorem dX7_removeLast_17 : decode cX7_removeLast 17 = .ok (.getfield 7, 3) := by decide +kernel
theorem dX7_removeLast_20 : decode cX7_removeLast 20 = .ok (.iconst 3, 1) := by decide +kernel
theorem dX7_removeLast_21 : decode cX7_removeLast 21 = .ok (.dup2, 1) := by decide +kernel
theorem dX7_removeLast_22 : decode cX7_removeLast 22 = .ok (.iaload, 1) := by decide +kernel
theorem dX7_removeLast_23 : decode cX7_removeLast 23 = .ok (.iconst 1, 1) := by decide +kernel
theorem dX7_removeLast_24 : decode cX7_removeLast 24 = .ok (.isub, 1) := by decide +kernel
theorem dX7_removeLast_25 : decode cX7_removeLast 25 = .ok (.iastore, 1) := by decide +kernel
theorem dX7_removeLast_26 : decode cX7_removeLast 26 = .ok (.aload_n 0, 1) := by decide +kernel
theorem dX7_removeLast_27 : decode cX7_removeLast 27 = .ok (.getfield 7, 3) := by decide +kernel
theorem dX7_removeLast_30 : decode cX7_removeLast 30 = .ok (.iconst 4, 1) := by decide +kernel
theorem dX7_removeLast_31 : decode cX7_removeLast 31 = .ok (.aload_n 0, 1) := by decide +kernel
theorem dX7_removeLast_32 : decode cX7_removeLast 32 = .ok (.getfield 7, 3) := by decide +kernel
theorem dX7_removeLast_35 : decode cX7_removeLast 35 = .ok (.iconst 3, 1) := by decide +kernel
theorem dX7_removeLast_36 : decode cX7_removeLast 36 = .ok (.iaload, 1) := by decide +kernel
theorem dX7_removeLast_37 : decode cX7_removeLast 37 = .ok (.iadd, 1) := by decide +kernel
theorem dX7_removeLast_38 : decode cX7_removeLast 38 = .ok (.iaload, 1) := by decide +kernel
theorem dX7_removeLast_39 : decode cX7_removeLast 39 = .ok (.ireturn, 1) := by decide +kernel
set_option maxRecDepth 20000 in
theorem ggX7_clear_X7_save : GoodIn wsX7_clear wsX7_save := goodIn_r _ [6, 7, 8, 1, 9, 10, 5, 11, 12, 13, 14, 15, 16, 17, 18, 19, 20, 21, 22] (by decide +kernel) (by decide +kernel)
set_option maxRecDepth 20000 in
theorem gX7_clear_X7_save : GoodIn wsX7_clear (wsV RX7 40 RX7 yX7_save wsX7_save) := goodIn_app (goodIn_of _ (by decide +kernel)) ggX7_clear_X7_save
theorem dX7_clear_0 : decode cX7_clear 0 = .ok (.aload_n 0, 1) := by decide +kernel
theorem dX7_clear_1 : decode cX7_clear 1 = .ok (.invokevirtual 40, 3) := by decide +kernel
theorem dX7_clear_4 : decode cX7_clear 4 = .ok (.aload_n 0, 1) := by decide +kernel
theorem dX7_clear_5 : decode cX7_clear 5 = .ok (.getfield 7, 3) := by decide +kernel
theorem dX7_clear_8 : decode cX7_clear 8 = .ok (.iconst 3, 1) := by decide +kernel
theorem dX7_clear_9 : decode cX7_clear 9 = .ok (.iaload, 1) := by decide +kernel
theorem dX7_clear_10 : decode cX7_clear 10 = .ok (.istore_n 1, 1) := by decide +kernel
theorem dX7_clear_11 : decode cX7_clear 11 = .ok (.aload_n 0, 1) := by decide +kernel
theorem dX7_clear_12 : decode cX7_clear 12 = .ok (.getfield 7, 3) := by decide +kernel
theorem dX7_clear_15 : decode cX7_clear 15 = .ok (.iconst 3, 1) := by decide +kernel
theorem dX7_clear_16 : decode cX7_clear 16 = .ok (.iconst 0, 1) := by decide +kernel
theorem dX7_clear_17 : decode cX7_clear 17 = .ok (.iastore, 1) := by decide +kernel
theorem dX7_clear_18 : decode cX7_clear 18 = .ok (.iload_n 1, 1) := by decide +kernel
theorem dX7_clear_19 : decode cX7_clear 19 = .ok (.ireturn, 1) := by decide +kernel
