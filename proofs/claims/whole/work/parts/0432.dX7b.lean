theorem dX7_isPalindrome_0 : decode cX7_isPalindrome 0 = .ok (.iconst 0, 1) := by decide +kernel
theorem dX7_isPalindrome_1 : decode cX7_isPalindrome 1 = .ok (.istore_n 3, 1) := by decide +kernel
theorem dX7_isPalindrome_2 : decode cX7_isPalindrome 2 = .ok (.iload_n 3, 1) := by decide +kernel
theorem dX7_isPalindrome_3 : decode cX7_isPalindrome 3 = .ok (.iload_n 2, 1) := by decide +kernel
theorem dX7_isPalindrome_4 : decode cX7_isPalindrome 4 = .ok (.iconst 2, 1) := by decide +kernel
theorem dX7_isPalindrome_5 : decode cX7_isPalindrome 5 = .ok (.idiv, 1) := by decide +kernel
theorem dX7_isPalindrome_6 : decode cX7_isPalindrome 6 = .ok (.if_icmp .ge 38, 3) := by decide +kernel
theorem dX7_isPalindrome_9 : decode cX7_isPalindrome 9 = .ok (.aload_n 0, 1) := by decide +kernel
theorem dX7_isPalindrome_10 : decode cX7_isPalindrome 10 = .ok (.getfield 7, 3) := by decide +kernel
theorem dX7_isPalindrome_13 : decode cX7_isPalindrome 13 = .ok (.iconst 4, 1) := by decide +kernel
theorem dX7_isPalindrome_14 : decode cX7_isPalindrome 14 = .ok (.iload_n 1, 1) := by decide +kernel
theorem dX7_isPalindrome_15 : decode cX7_isPalindrome 15 = .ok (.iadd, 1) := by decide +kernel
theorem dX7_isPalindrome_16 : decode cX7_isPalindrome 16 = .ok (.iload_n 3, 1) := by decide +kernel
theorem dX7_isPalindrome_17 : decode cX7_isPalindrome 17 = .ok (.iadd, 1) := by decide +kernel
theorem dX7_isPalindrome_18 : decode cX7_isPalindrome 18 = .ok (.iaload, 1) := by decide +kernel
theorem dX7_isPalindrome_19 : decode cX7_isPalindrome 19 = .ok (.aload_n 0, 1) := by decide +kernel
theorem dX7_isPalindrome_20 : decode cX7_isPalindrome 20 = .ok (.getfield 7, 3) := by decide +kernel
theorem dX7_isPalindrome_23 : decode cX7_isPalindrome 23 = .ok (.iconst 4, 1) := by decide +kernel
theorem dX7_isPalindrome_24 : decode cX7_isPalindrome 24 = .ok (.iload_n 1, 1) := by decide +kernel
theorem dX7_isPalindrome_25 : decode cX7_isPalindrome 25 = .ok (.iadd, 1) := by decide +kernel
theorem dX7_isPalindrome_26 : decode cX7_isPalindrome 26 = .ok (.iload_n 2, 1) := by decide +kernel
theorem dX7_isPalindrome_27 : decode cX7_isPalindrome 27 = .ok (.iadd, 1) := by decide +kernel
theorem dX7_isPalindrome_28 : decode cX7_isPalindrome 28 = .ok (.iconst 1, 1) := by decide +kernel
theorem dX7_isPalindrome_29 : decode cX7_isPalindrome 29 = .ok (.isub, 1) := by decide +kernel
theorem dX7_isPalindrome_30 : decode cX7_isPalindrome 30 = .ok (.iload_n 3, 1) := by decide +kernel
theorem dX7_isPalindrome_31 : decode cX7_isPalindrome 31 = .ok (.isub, 1) := by decide +kernel
theorem dX7_isPalindrome_32 : decode cX7_isPalindrome 32 = .ok (.iaload, 1) := by decide +kernel
theorem dX7_isPalindrome_33 : decode cX7_isPalindrome 33 = .ok (.if_icmp .eq 5, 3) := by decide +kernel
theorem dX7_isPalindrome_36 : decode cX7_isPalindrome 36 = .ok (.iconst 0, 1) := by decide +kernel
theorem dX7_isPalindrome_37 : decode cX7_isPalindrome 37 = .ok (.ireturn, 1) := by decide +kernel
theorem dX7_isPalindrome_38 : decode cX7_isPalindrome 38 = .ok (.iinc 3 1, 3) := by decide +kernel
theorem dX7_isPalindrome_41 : decode cX7_isPalindrome 41 = .ok (.goto (-39), 3) := by decide +kernel
theorem dX7_isPalindrome_44 : decode cX7_isPalindrome 44 = .ok (.iconst 1, 1) := by decide +kernel
theorem dX7_isPalindrome_45 : decode cX7_isPalindrome 45 = .ok (.ireturn, 1) := by decide +kernel
set_option maxRecDepth 20000 in
theorem ggX7_reverse_X7_isPalindrome : GoodIn wsX7_reverse wsX7_isPalindrome := goodIn_r _ [7, 1, 21, 22, 23, 24, 25, 26, 27, 28, 29, 30, 31] (by decide +kernel) (by decide +kernel)
set_option maxRecDepth 20000 in
theorem gX7_reverse_X7_isPalindrome : GoodIn wsX7_reverse (wsV RX7 86 RX7 yX7_isPalindrome wsX7_isPalindrome) := goodIn_app (goodIn_of _ (by decide +kernel)) ggX7_reverse_X7_isPalindrome
set_option maxRecDepth 20000 in
theorem ggX7_reverse_X7_take : GoodIn wsX7_reverse wsX7_take := goodIn_r _ [11, 2, 1, 12, 13, 14, 6, 15, 16, 17, 18, 19, 20, 21, 22, 23, 24, 25, 26, 27, 28, 29, 30, 31] (by decide +kernel) (by decide +kernel)
set_option maxRecDepth 20000 in
theorem gX7_reverse_X7_take : GoodIn wsX7_reverse (wsV RX7 65 RX7 yX7_take wsX7_take) := goodIn_app (goodIn_of _ (by decide +kernel)) ggX7_reverse_X7_take
theorem dX7_reverse_0 : decode cX7_reverse 0 = .ok (.aload_n 0, 1) := by decide +kernel
theorem dX7_reverse_1 : decode cX7_reverse 1 = .ok (.iconst 0, 1) := by decide +kernel
theorem dX7_reverse_2 : decode cX7_reverse 2 = .ok (.aload_n 0, 1) := by decide +kernel
theorem dX7_reverse_3 : decode cX7_reverse 3 = .ok (.getfield 7, 3) := by decide +kernel
theorem dX7_reverse_6 : decode cX7_reverse 6 = .ok (.iconst 3, 1) := by decide +kernel
theorem dX7_reverse_7 : decode cX7_reverse 7 = .ok (.iaload, 1) := by decide +kernel
theorem dX7_reverse_8 : decode cX7_reverse 8 = .ok (.invokevirtual 86, 3) := by decide +kernel
theorem dX7_reverse_11 : decode cX7_reverse 11 = .ok (.istore_n 1, 1) := by decide +kernel
theorem dX7_reverse_12 : decode cX7_reverse 12 = .ok (.aload_n 0, 1) := by decide +kernel
theorem dX7_reverse_13 : decode cX7_reverse 13 = .ok (.getfield 13, 3) := by decide +kernel
theorem dX7_reverse_16 : decode cX7_reverse 16 = .ok (.iconst 3, 1) := by decide +kernel
theorem dX7_reverse_17 : decode cX7_reverse 17 = .ok (.aload_n 0, 1) := by decide +kernel
theorem dX7_reverse_18 : decode cX7_reverse 18 = .ok (.getfield 7, 3) := by decide +kernel
theorem dX7_reverse_21 : decode cX7_reverse 21 = .ok (.iconst 3, 1) := by decide +kernel
theorem dX7_reverse_22 : decode cX7_reverse 22 = .ok (.iaload, 1) := by decide +kernel
theorem dX7_reverse_23 : decode cX7_reverse 23 = .ok (.iastore, 1) := by decide +kernel
theorem dX7_reverse_24 : decode cX7_reverse 24 = .ok (.iconst 0, 1) := by decide +kernel
theorem dX7_reverse_25 : decode cX7_reverse 25 = .ok (.istore_n 2, 1) := by decide +kernel
theorem dX7_reverse_26 : decode cX7_reverse 26 = .ok (.iload_n 2, 1) := by decide +kernel
theorem dX7_reverse_27 : decode cX7_reverse 27 = .ok (.aload_n 0, 1) := by decide +kernel
theorem dX7_reverse_28 : decode cX7_reverse 28 = .ok (.getfield 7, 3) := by decide +kernel
theorem dX7_reverse_31 : decode cX7_reverse 31 = .ok (.iconst 3, 1) := by decide +kernel
theorem dX7_reverse_32 : decode cX7_reverse 32 = .ok (.iaload, 1) := by decide +kernel
theorem dX7_reverse_33 : decode cX7_reverse 33 = .ok (.if_icmp .ge 34, 3) := by decide +kernel
theorem dX7_reverse_36 : decode cX7_reverse 36 = .ok (.aload_n 0, 1) := by decide +kernel
theorem dX7_reverse_37 : decode cX7_reverse 37 = .ok (.getfield 13, 3) := by decide +kernel
theorem dX7_reverse_40 : decode cX7_reverse 40 = .ok (.iconst 4, 1) := by decide +kernel
theorem dX7_reverse_41 : decode cX7_reverse 41 = .ok (.iload_n 2, 1) := by decide +kernel
theorem dX7_reverse_42 : decode cX7_reverse 42 = .ok (.iadd, 1) := by decide +kernel
theorem dX7_reverse_43 : decode cX7_reverse 43 = .ok (.aload_n 0, 1) := by decide +kernel
theorem dX7_reverse_44 : decode cX7_reverse 44 = .ok (.getfield 7, 3) := by decide +kernel
theorem dX7_reverse_47 : decode cX7_reverse 47 = .ok (.iconst 4, 1) := by decide +kernel
theorem dX7_reverse_48 : decode cX7_reverse 48 = .ok (.aload_n 0, 1) := by decide +kernel
theorem dX7_reverse_49 : decode cX7_reverse 49 = .ok (.getfield 7, 3) := by decide +kernel
theorem dX7_reverse_52 : decode cX7_reverse 52 = .ok (.iconst 3, 1) := by decide +kernel
theorem dX7_reverse_53 : decode cX7_reverse 53 = .ok (.iaload, 1) := by decide +kernel
theorem dX7_reverse_54 : decode cX7_reverse 54 = .ok (.iadd, 1) := by decide +kernel
theorem dX7_reverse_55 : decode cX7_reverse 55 = .ok (.iconst 1, 1) := by decide +kernel
theorem dX7_reverse_56 : decode cX7_reverse 56 = .ok (.isub, 1) := by decide +kernel
theorem dX7_reverse_57 : decode cX7_reverse 57 = .ok (.iload_n 2, 1) := by decide +kernel
theorem dX7_reverse_58 : decode cX7_reverse 58 = .ok (.isub, 1) := by decide +kernel
theorem dX7_reverse_59 : decode cX7_reverse 59 = .ok (.iaload, 1) := by decide +kernel
theorem dX7_reverse_60 : decode cX7_reverse 60 = .ok (.iastore, 1) := by decide +kernel
theorem dX7_reverse_61 : decode cX7_reverse 61 = .ok (.iinc 2 1, 3) := by decide +kernel
theorem dX7_reverse_64 : decode cX7_reverse 64 = .ok (.goto (-38), 3) := by decide +kernel
theorem dX7_reverse_67 : decode cX7_reverse 67 = .ok (.aload_n 0, 1) := by decide +kernel
theorem dX7_reverse_68 : decode cX7_reverse 68 = .ok (.invokevirtual 65, 3) := by decide +kernel
theorem dX7_reverse_71 : decode cX7_reverse 71 = .ok (.iload_n 1, 1) := by decide +kernel
theorem dX7_reverse_72 : decode cX7_reverse 72 = .ok (.ifCond .eq 7, 3) := by decide +kernel
theorem dX7_reverse_75 : decode cX7_reverse 75 = .ok (.iconst 0, 1) := by decide +kernel
theorem dX7_reverse_76 : decode cX7_reverse 76 = .ok (.goto 4, 3) := by decide +kernel
theorem dX7_reverse_79 : decode cX7_reverse 79 = .ok (.iconst 1, 1) := by decide +kernel
theorem dX7_reverse_80 : decode cX7_reverse 80 = .ok (.ireturn, 1) := by decide +kernel
theorem dX7_imageOf_0 : decode cX7_imageOf 0 = .ok (.iload_n 0, 1) := by decide +kernel
theorem dX7_imageOf_1 : decode cX7_imageOf 1 = .ok (.tableswitch 75 0 3 #[31, 36, 49, 62], 31) := by decide +kernel
theorem dX7_imageOf_32 : decode cX7_imageOf 32 = .ok (.bipush 21, 2) := by decide +kernel
theorem dX7_imageOf_34 : decode cX7_imageOf 34 = .ok (.iload_n 1, 1) := by decide +kernel
theorem dX7_imageOf_35 : decode cX7_imageOf 35 = .ok (.isub, 1) := by decide +kernel
theorem dX7_imageOf_36 : decode cX7_imageOf 36 = .ok (.ireturn, 1) := by decide +kernel
theorem dX7_imageOf_37 : decode cX7_imageOf 37 = .ok (.iload_n 1, 1) := by decide +kernel
theorem dX7_imageOf_38 : decode cX7_imageOf 38 = .ok (.ifCond .ne 9, 3) := by decide +kernel
theorem dX7_imageOf_41 : decode cX7_imageOf 41 = .ok (.sipush 201, 3) := by decide +kernel
theorem dX7_imageOf_44 : decode cX7_imageOf 44 = .ok (.goto 5, 3) := by decide +kernel
theorem dX7_imageOf_47 : decode cX7_imageOf 47 = .ok (.bipush 20, 2) := by decide +kernel
theorem dX7_imageOf_49 : decode cX7_imageOf 49 = .ok (.ireturn, 1) := by decide +kernel
theorem dX7_imageOf_50 : decode cX7_imageOf 50 = .ok (.iload_n 1, 1) := by decide +kernel
theorem dX7_imageOf_51 : decode cX7_imageOf 51 = .ok (.ifCond .ne 9, 3) := by decide +kernel
theorem dX7_imageOf_54 : decode cX7_imageOf 54 = .ok (.sipush 210, 3) := by decide +kernel
theorem dX7_imageOf_57 : decode cX7_imageOf 57 = .ok (.goto 5, 3) := by decide +kernel
theorem dX7_imageOf_60 : decode cX7_imageOf 60 = .ok (.bipush 20, 2) := by decide +kernel
theorem dX7_imageOf_62 : decode cX7_imageOf 62 = .ok (.ireturn, 1) := by decide +kernel
theorem dX7_imageOf_63 : decode cX7_imageOf 63 = .ok (.iload_n 1, 1) := by decide +kernel
theorem dX7_imageOf_64 : decode cX7_imageOf 64 = .ok (.ifCond .ne 8, 3) := by decide +kernel
theorem dX7_imageOf_67 : decode cX7_imageOf 67 = .ok (.bipush 20, 2) := by decide +kernel
theorem dX7_imageOf_69 : decode cX7_imageOf 69 = .ok (.goto 6, 3) := by decide +kernel
theorem dX7_imageOf_72 : decode cX7_imageOf 72 = .ok (.sipush 201, 3) := by decide +kernel
theorem dX7_imageOf_75 : decode cX7_imageOf 75 = .ok (.ireturn, 1) := by decide +kernel
theorem dX7_imageOf_76 : decode cX7_imageOf 76 = .ok (.iload_n 1, 1) := by decide +kernel
theorem dX7_imageOf_77 : decode cX7_imageOf 77 = .ok (.ifCond .ne 8, 3) := by decide +kernel
theorem dX7_imageOf_80 : decode cX7_imageOf 80 = .ok (.bipush 20, 2) := by decide +kernel
theorem dX7_imageOf_82 : decode cX7_imageOf 82 = .ok (.goto 6, 3) := by decide +kernel
theorem dX7_imageOf_85 : decode cX7_imageOf 85 = .ok (.sipush 210, 3) := by decide +kernel
theorem dX7_imageOf_88 : decode cX7_imageOf 88 = .ok (.ireturn, 1) := by decide +kernel
set_option maxRecDepth 20000 in
theorem ggX7_applyMorphism_X7_in : GoodIn wsX7_applyMorphism wsX7_in := goodIn_r _ [6] (by decide +kernel) (by decide +kernel)
set_option maxRecDepth 20000 in
theorem gX7_applyMorphism_X7_in : GoodIn wsX7_applyMorphism (va_wsS RX7 43 yX7_in wsX7_in) := goodIn_app (goodIn_of _ (by decide +kernel)) ggX7_applyMorphism_X7_in
set_option maxRecDepth 20000 in
theorem ggX7_applyMorphism_X7_imageOf : GoodIn wsX7_applyMorphism wsX7_imageOf := goodIn_r _ [9] (by decide +kernel) (by decide +kernel)
set_option maxRecDepth 20000 in
theorem gX7_applyMorphism_X7_imageOf : GoodIn wsX7_applyMorphism (va_wsS RX7 90 yX7_imageOf wsX7_imageOf) := goodIn_app (goodIn_of _ (by decide +kernel)) ggX7_applyMorphism_X7_imageOf
set_option maxRecDepth 20000 in
theorem ggX7_applyMorphism_X7_appendTo : GoodIn wsX7_applyMorphism wsX7_appendTo := goodIn_r _ [13, 1, 27, 28, 29, 30, 31, 32, 33, 34, 35, 36, 37] (by decide +kernel) (by decide +kernel)
set_option maxRecDepth 20000 in
theorem gX7_applyMorphism_X7_appendTo : GoodIn wsX7_applyMorphism (wsV RX7 75 RX7 yX7_appendTo wsX7_appendTo) := goodIn_app (goodIn_of _ (by decide +kernel)) ggX7_applyMorphism_X7_appendTo
set_option maxRecDepth 20000 in
theorem ggX7_applyMorphism_X7_take : GoodIn wsX7_applyMorphism wsX7_take := goodIn_r _ [17, 1, 2, 18, 19, 20, 5, 21, 22, 23, 24, 25, 26, 27, 28, 29, 30, 31, 32, 33, 34, 35, 36, 37] (by decide +kernel) (by decide +kernel)
set_option maxRecDepth 20000 in
theorem gX7_applyMorphism_X7_take : GoodIn wsX7_applyMorphism (wsV RX7 65 RX7 yX7_take wsX7_take) := goodIn_app (goodIn_of _ (by decide +kernel)) ggX7_applyMorphism_X7_take
theorem dX7_applyMorphism_0 : decode cX7_applyMorphism 0 = .ok (.iload_n 1, 1) := by decide +kernel
theorem dX7_applyMorphism_1 : decode cX7_applyMorphism 1 = .ok (.iconst 0, 1) := by decide +kernel
theorem dX7_applyMorphism_2 : decode cX7_applyMorphism 2 = .ok (.iconst 4, 1) := by decide +kernel
theorem dX7_applyMorphism_3 : decode cX7_applyMorphism 3 = .ok (.invokestatic 43, 3) := by decide +kernel
theorem dX7_applyMorphism_6 : decode cX7_applyMorphism 6 = .ok (.ifCond .ne 5, 3) := by decide +kernel
theorem dX7_applyMorphism_9 : decode cX7_applyMorphism 9 = .ok (.iconst (-1), 1) := by decide +kernel
theorem dX7_applyMorphism_10 : decode cX7_applyMorphism 10 = .ok (.ireturn, 1) := by decide +kernel
theorem dX7_applyMorphism_11 : decode cX7_applyMorphism 11 = .ok (.aload_n 0, 1) := by decide +kernel
theorem dX7_applyMorphism_12 : decode cX7_applyMorphism 12 = .ok (.getfield 13, 3) := by decide +kernel
theorem dX7_applyMorphism_15 : decode cX7_applyMorphism 15 = .ok (.iconst 3, 1) := by decide +kernel
theorem dX7_applyMorphism_16 : decode cX7_applyMorphism 16 = .ok (.iconst 0, 1) := by decide +kernel
theorem dX7_applyMorphism_17 : decode cX7_applyMorphism 17 = .ok (.iastore, 1) := by decide +kernel
theorem dX7_applyMorphism_18 : decode cX7_applyMorphism 18 = .ok (.iconst 0, 1) := by decide +kernel
theorem dX7_applyMorphism_19 : decode cX7_applyMorphism 19 = .ok (.istore_n 2, 1) := by decide +kernel
theorem dX7_applyMorphism_20 : decode cX7_applyMorphism 20 = .ok (.iload_n 2, 1) := by decide +kernel
theorem dX7_applyMorphism_21 : decode cX7_applyMorphism 21 = .ok (.aload_n 0, 1) := by decide +kernel
theorem dX7_applyMorphism_22 : decode cX7_applyMorphism 22 = .ok (.getfield 7, 3) := by decide +kernel
theorem dX7_applyMorphism_25 : decode cX7_applyMorphism 25 = .ok (.iconst 3, 1) := by decide +kernel
theorem dX7_applyMorphism_26 : decode cX7_applyMorphism 26 = .ok (.iaload, 1) := by decide +kernel
theorem dX7_applyMorphism_27 : decode cX7_applyMorphism 27 = .ok (.if_icmp .ge 47, 3) := by decide +kernel
theorem dX7_applyMorphism_30 : decode cX7_applyMorphism 30 = .ok (.iload_n 1, 1) := by decide +kernel
theorem dX7_applyMorphism_31 : decode cX7_applyMorphism 31 = .ok (.aload_n 0, 1) := by decide +kernel
theorem dX7_applyMorphism_32 : decode cX7_applyMorphism 32 = .ok (.getfield 7, 3) := by decide +kernel
theorem dX7_applyMorphism_35 : decode cX7_applyMorphism 35 = .ok (.iconst 4, 1) := by decide +kernel
theorem dX7_applyMorphism_36 : decode cX7_applyMorphism 36 = .ok (.iload_n 2, 1) := by decide +kernel
theorem dX7_applyMorphism_37 : decode cX7_applyMorphism 37 = .ok (.iadd, 1) := by decide +kernel
theorem dX7_applyMorphism_38 : decode cX7_applyMorphism 38 = .ok (.iaload, 1) := by decide +kernel
theorem dX7_applyMorphism_39 : decode cX7_applyMorphism 39 = .ok (.invokestatic 90, 3) := by decide +kernel
theorem dX7_applyMorphism_42 : decode cX7_applyMorphism 42 = .ok (.istore_n 3, 1) := by decide +kernel
theorem dX7_applyMorphism_43 : decode cX7_applyMorphism 43 = .ok (.iload_n 3, 1) := by decide +kernel
theorem dX7_applyMorphism_44 : decode cX7_applyMorphism 44 = .ok (.bipush 99, 2) := by decide +kernel
theorem dX7_applyMorphism_46 : decode cX7_applyMorphism 46 = .ok (.if_icmp .le 14, 3) := by decide +kernel
theorem dX7_applyMorphism_49 : decode cX7_applyMorphism 49 = .ok (.aload_n 0, 1) := by decide +kernel
theorem dX7_applyMorphism_50 : decode cX7_applyMorphism 50 = .ok (.iload_n 3, 1) := by decide +kernel
theorem dX7_applyMorphism_51 : decode cX7_applyMorphism 51 = .ok (.bipush 10, 2) := by decide +kernel
theorem dX7_applyMorphism_53 : decode cX7_applyMorphism 53 = .ok (.idiv, 1) := by decide +kernel
theorem dX7_applyMorphism_54 : decode cX7_applyMorphism 54 = .ok (.bipush 10, 2) := by decide +kernel
theorem dX7_applyMorphism_56 : decode cX7_applyMorphism 56 = .ok (.irem, 1) := by decide +kernel
theorem dX7_applyMorphism_57 : decode cX7_applyMorphism 57 = .ok (.invokevirtual 75, 3) := by decide +kernel
theorem dX7_applyMorphism_60 : decode cX7_applyMorphism 60 = .ok (.aload_n 0, 1) := by decide +kernel
theorem dX7_applyMorphism_61 : decode cX7_applyMorphism 61 = .ok (.iload_n 3, 1) := by decide +kernel
theorem dX7_applyMorphism_62 : decode cX7_applyMorphism 62 = .ok (.bipush 10, 2) := by decide +kernel
theorem dX7_applyMorphism_64 : decode cX7_applyMorphism 64 = .ok (.irem, 1) := by decide +kernel
theorem dX7_applyMorphism_65 : decode cX7_applyMorphism 65 = .ok (.invokevirtual 75, 3) := by decide +kernel
theorem dX7_applyMorphism_68 : decode cX7_applyMorphism 68 = .ok (.iinc 2 1, 3) := by decide +kernel
theorem dX7_applyMorphism_71 : decode cX7_applyMorphism 71 = .ok (.goto (-51), 3) := by decide +kernel
theorem dX7_applyMorphism_74 : decode cX7_applyMorphism 74 = .ok (.aload_n 0, 1) := by decide +kernel
theorem dX7_applyMorphism_75 : decode cX7_applyMorphism 75 = .ok (.getfield 13, 3) := by decide +kernel
theorem dX7_applyMorphism_78 : decode cX7_applyMorphism 78 = .ok (.iconst 3, 1) := by decide +kernel
theorem dX7_applyMorphism_79 : decode cX7_applyMorphism 79 = .ok (.iaload, 1) := by decide +kernel
theorem dX7_applyMorphism_80 : decode cX7_applyMorphism 80 = .ok (.bipush 60, 2) := by decide +kernel
theorem dX7_applyMorphism_82 : decode cX7_applyMorphism 82 = .ok (.if_icmp .le 6, 3) := by decide +kernel
theorem dX7_applyMorphism_85 : decode cX7_applyMorphism 85 = .ok (.bipush (-2), 2) := by decide +kernel
theorem dX7_applyMorphism_87 : decode cX7_applyMorphism 87 = .ok (.ireturn, 1) := by decide +kernel
theorem dX7_applyMorphism_88 : decode cX7_applyMorphism 88 = .ok (.aload_n 0, 1) := by decide +kernel
theorem dX7_applyMorphism_89 : decode cX7_applyMorphism 89 = .ok (.invokevirtual 65, 3) := by decide +kernel
theorem dX7_applyMorphism_92 : decode cX7_applyMorphism 92 = .ok (.aload_n 0, 1) := by decide +kernel
theorem dX7_applyMorphism_93 : decode cX7_applyMorphism 93 = .ok (.getfield 7, 3) := by decide +kernel
theorem dX7_applyMorphism_96 : decode cX7_applyMorphism 96 = .ok (.iconst 3, 1) := by decide +kernel
theorem dX7_applyMorphism_97 : decode cX7_applyMorphism 97 = .ok (.iaload, 1) := by decide +kernel
theorem dX7_applyMorphism_98 : decode cX7_applyMorphism 98 = .ok (.ireturn, 1) := by decide +kernel
theorem dX7_stands_0 : decode cX7_stands 0 = .ok (.iload_n 1, 1) := by decide +kernel
theorem dX7_stands_1 : decode cX7_stands 1 = .ok (.bipush 99, 2) := by decide +kernel
theorem dX7_stands_3 : decode cX7_stands 3 = .ok (.if_icmp .le 56, 3) := by decide +kernel
theorem dX7_stands_6 : decode cX7_stands 6 = .ok (.iload_n 2, 1) := by decide +kernel
theorem dX7_stands_7 : decode cX7_stands 7 = .ok (.iconst 1, 1) := by decide +kernel
theorem dX7_stands_8 : decode cX7_stands 8 = .ok (.iadd, 1) := by decide +kernel
theorem dX7_stands_9 : decode cX7_stands 9 = .ok (.aload_n 0, 1) := by decide +kernel
theorem dX7_stands_10 : decode cX7_stands 10 = .ok (.getfield 7, 3) := by decide +kernel
theorem dX7_stands_13 : decode cX7_stands 13 = .ok (.iconst 3, 1) := by decide +kernel
theorem dX7_stands_14 : decode cX7_stands 14 = .ok (.iaload, 1) := by decide +kernel
theorem dX7_stands_15 : decode cX7_stands 15 = .ok (.if_icmp .ge 42, 3) := by decide +kernel
theorem dX7_stands_18 : decode cX7_stands 18 = .ok (.aload_n 0, 1) := by decide +kernel
theorem dX7_stands_19 : decode cX7_stands 19 = .ok (.getfield 7, 3) := by decide +kernel
theorem dX7_stands_22 : decode cX7_stands 22 = .ok (.iconst 4, 1) := by decide +kernel
theorem dX7_stands_23 : decode cX7_stands 23 = .ok (.iload_n 2, 1) := by decide +kernel
theorem dX7_stands_24 : decode cX7_stands 24 = .ok (.iadd, 1) := by decide +kernel
theorem dX7_stands_25 : decode cX7_stands 25 = .ok (.iaload, 1) := by decide +kernel
theorem dX7_stands_26 : decode cX7_stands 26 = .ok (.iload_n 1, 1) := by decide +kernel
theorem dX7_stands_27 : decode cX7_stands 27 = .ok (.bipush 10, 2) := by decide +kernel
theorem dX7_stands_29 : decode cX7_stands 29 = .ok (.idiv, 1) := by decide +kernel
theorem dX7_stands_30 : decode cX7_stands 30 = .ok (.bipush 10, 2) := by decide +kernel
theorem dX7_stands_32 : decode cX7_stands 32 = .ok (.irem, 1) := by decide +kernel
theorem dX7_stands_33 : decode cX7_stands 33 = .ok (.if_icmp .ne 24, 3) := by decide +kernel
theorem dX7_stands_36 : decode cX7_stands 36 = .ok (.aload_n 0, 1) := by decide +kernel
theorem dX7_stands_37 : decode cX7_stands 37 = .ok (.getfield 7, 3) := by decide +kernel
theorem dX7_stands_40 : decode cX7_stands 40 = .ok (.iconst 4, 1) := by decide +kernel
theorem dX7_stands_41 : decode cX7_stands 41 = .ok (.iload_n 2, 1) := by decide +kernel
theorem dX7_stands_42 : decode cX7_stands 42 = .ok (.iadd, 1) := by decide +kernel
theorem dX7_stands_43 : decode cX7_stands 43 = .ok (.iconst 1, 1) := by decide +kernel
theorem dX7_stands_44 : decode cX7_stands 44 = .ok (.iadd, 1) := by decide +kernel
theorem dX7_stands_45 : decode cX7_stands 45 = .ok (.iaload, 1) := by decide +kernel
theorem dX7_stands_46 : decode cX7_stands 46 = .ok (.iload_n 1, 1) := by decide +kernel
theorem dX7_stands_47 : decode cX7_stands 47 = .ok (.bipush 10, 2) := by decide +kernel
theorem dX7_stands_49 : decode cX7_stands 49 = .ok (.irem, 1) := by decide +kernel
theorem dX7_stands_50 : decode cX7_stands 50 = .ok (.if_icmp .ne 7, 3) := by decide +kernel
theorem dX7_stands_53 : decode cX7_stands 53 = .ok (.iconst 1, 1) := by decide +kernel
theorem dX7_stands_54 : decode cX7_stands 54 = .ok (.goto 4, 3) := by decide +kernel
theorem dX7_stands_57 : decode cX7_stands 57 = .ok (.iconst 0, 1) := by decide +kernel
theorem dX7_stands_58 : decode cX7_stands 58 = .ok (.ireturn, 1) := by decide +kernel
theorem dX7_stands_59 : decode cX7_stands 59 = .ok (.aload_n 0, 1) := by decide +kernel
theorem dX7_stands_60 : decode cX7_stands 60 = .ok (.getfield 7, 3) := by decide +kernel
theorem dX7_stands_63 : decode cX7_stands 63 = .ok (.iconst 4, 1) := by decide +kernel
theorem dX7_stands_64 : decode cX7_stands 64 = .ok (.iload_n 2, 1) := by decide +kernel
theorem dX7_stands_65 : decode cX7_stands 65 = .ok (.iadd, 1) := by decide +kernel
theorem dX7_stands_66 : decode cX7_stands 66 = .ok (.iaload, 1) := by decide +kernel
theorem dX7_stands_67 : decode cX7_stands 67 = .ok (.iload_n 1, 1) := by decide +kernel
theorem dX7_stands_68 : decode cX7_stands 68 = .ok (.bipush 10, 2) := by decide +kernel
theorem dX7_stands_70 : decode cX7_stands 70 = .ok (.irem, 1) := by decide +kernel
theorem dX7_stands_71 : decode cX7_stands 71 = .ok (.if_icmp .ne 7, 3) := by decide +kernel
theorem dX7_stands_74 : decode cX7_stands 74 = .ok (.iconst 1, 1) := by decide +kernel
theorem dX7_stands_75 : decode cX7_stands 75 = .ok (.goto 4, 3) := by decide +kernel
theorem dX7_stands_78 : decode cX7_stands 78 = .ok (.iconst 0, 1) := by decide +kernel
theorem dX7_stands_79 : decode cX7_stands 79 = .ok (.ireturn, 1) := by decide +kernel
set_option maxRecDepth 20000 in
theorem ggX7_invertMorphism_X7_in : GoodIn wsX7_invertMorphism wsX7_in := goodIn_r _ [6] (by decide +kernel) (by decide +kernel)
set_option maxRecDepth 20000 in
theorem gX7_invertMorphism_X7_in : GoodIn wsX7_invertMorphism (va_wsS RX7 43 yX7_in wsX7_in) := goodIn_app (goodIn_of _ (by decide +kernel)) ggX7_invertMorphism_X7_in
set_option maxRecDepth 20000 in
theorem ggX7_invertMorphism_X7_imageOf : GoodIn wsX7_invertMorphism wsX7_imageOf := goodIn_r _ [9] (by decide +kernel) (by decide +kernel)
set_option maxRecDepth 20000 in
theorem gX7_invertMorphism_X7_imageOf : GoodIn wsX7_invertMorphism (va_wsS RX7 90 yX7_imageOf wsX7_imageOf) := goodIn_app (goodIn_of _ (by decide +kernel)) ggX7_invertMorphism_X7_imageOf
set_option maxRecDepth 20000 in
theorem ggX7_invertMorphism_X7_stands : GoodIn wsX7_invertMorphism wsX7_stands := goodIn_r _ [13, 2, 31, 32, 33, 34, 35, 36, 37, 38, 39, 40, 41] (by decide +kernel) (by decide +kernel)
set_option maxRecDepth 20000 in
theorem gX7_invertMorphism_X7_stands : GoodIn wsX7_invertMorphism (wsV RX7 93 RX7 yX7_stands wsX7_stands) := goodIn_app (goodIn_of _ (by decide +kernel)) ggX7_invertMorphism_X7_stands
set_option maxRecDepth 20000 in
theorem ggX7_invertMorphism_X7_appendTo : GoodIn wsX7_invertMorphism wsX7_appendTo := goodIn_r _ [17, 1, 31, 32, 33, 34, 35, 36, 37, 38, 39, 40, 41] (by decide +kernel) (by decide +kernel)
set_option maxRecDepth 20000 in
theorem gX7_invertMorphism_X7_appendTo : GoodIn wsX7_invertMorphism (wsV RX7 75 RX7 yX7_appendTo wsX7_appendTo) := goodIn_app (goodIn_of _ (by decide +kernel)) ggX7_invertMorphism_X7_appendTo
set_option maxRecDepth 20000 in
theorem ggX7_invertMorphism_X7_take : GoodIn wsX7_invertMorphism wsX7_take := goodIn_r _ [21, 1, 2, 22, 23, 24, 5, 25, 26, 27, 28, 29, 30, 31, 32, 33, 34, 35, 36, 37, 38, 39, 40, 41] (by decide +kernel) (by decide +kernel)
set_option maxRecDepth 20000 in
theorem gX7_invertMorphism_X7_take : GoodIn wsX7_invertMorphism (wsV RX7 65 RX7 yX7_take wsX7_take) := goodIn_app (goodIn_of _ (by decide +kernel)) ggX7_invertMorphism_X7_take
theorem dX7_invertMorphism_0 : decode cX7_invertMorphism 0 = .ok (.iload_n 1, 1) := by decide +kernel
theorem dX7_invertMorphism_1 : decode cX7_invertMorphism 1 = .ok (.iconst 0, 1) := by decide +kernel
theorem dX7_invertMorphism_2 : decode cX7_invertMorphism 2 = .ok (.iconst 4, 1) := by decide +kernel
theorem dX7_invertMorphism_3 : decode cX7_invertMorphism 3 = .ok (.invokestatic 43, 3) := by decide +kernel
theorem dX7_invertMorphism_6 : decode cX7_invertMorphism 6 = .ok (.ifCond .ne 5, 3) := by decide +kernel
theorem dX7_invertMorphism_9 : decode cX7_invertMorphism 9 = .ok (.iconst (-1), 1) := by decide +kernel
theorem dX7_invertMorphism_10 : decode cX7_invertMorphism 10 = .ok (.ireturn, 1) := by decide +kernel
theorem dX7_invertMorphism_11 : decode cX7_invertMorphism 11 = .ok (.aload_n 0, 1) := by decide +kernel
theorem dX7_invertMorphism_12 : decode cX7_invertMorphism 12 = .ok (.getfield 13, 3) := by decide +kernel
theorem dX7_invertMorphism_15 : decode cX7_invertMorphism 15 = .ok (.iconst 3, 1) := by decide +kernel
theorem dX7_invertMorphism_16 : decode cX7_invertMorphism 16 = .ok (.iconst 0, 1) := by decide +kernel
theorem dX7_invertMorphism_17 : decode cX7_invertMorphism 17 = .ok (.iastore, 1) := by decide +kernel
theorem dX7_invertMorphism_18 : decode cX7_invertMorphism 18 = .ok (.iconst 0, 1) := by decide +kernel
theorem dX7_invertMorphism_19 : decode cX7_invertMorphism 19 = .ok (.istore_n 2, 1) := by decide +kernel
theorem dX7_invertMorphism_20 : decode cX7_invertMorphism 20 = .ok (.iload_n 2, 1) := by decide +kernel
theorem dX7_invertMorphism_21 : decode cX7_invertMorphism 21 = .ok (.aload_n 0, 1) := by decide +kernel
theorem dX7_invertMorphism_22 : decode cX7_invertMorphism 22 = .ok (.getfield 7, 3) := by decide +kernel
theorem dX7_invertMorphism_25 : decode cX7_invertMorphism 25 = .ok (.iconst 3, 1) := by decide +kernel
theorem dX7_invertMorphism_26 : decode cX7_invertMorphism 26 = .ok (.iaload, 1) := by decide +kernel
theorem dX7_invertMorphism_27 : decode cX7_invertMorphism 27 = .ok (.if_icmp .ge 86, 3) := by decide +kernel
theorem dX7_invertMorphism_30 : decode cX7_invertMorphism 30 = .ok (.iload_n 1, 1) := by decide +kernel
theorem dX7_invertMorphism_31 : decode cX7_invertMorphism 31 = .ok (.iconst 0, 1) := by decide +kernel
theorem dX7_invertMorphism_32 : decode cX7_invertMorphism 32 = .ok (.invokestatic 90, 3) := by decide +kernel
theorem dX7_invertMorphism_35 : decode cX7_invertMorphism 35 = .ok (.bipush 99, 2) := by decide +kernel
theorem dX7_invertMorphism_37 : decode cX7_invertMorphism 37 = .ok (.if_icmp .le 7, 3) := by decide +kernel
theorem dX7_invertMorphism_40 : decode cX7_invertMorphism 40 = .ok (.iconst 0, 1) := by decide +kernel
theorem dX7_invertMorphism_41 : decode cX7_invertMorphism 41 = .ok (.goto 4, 3) := by decide +kernel
theorem dX7_invertMorphism_44 : decode cX7_invertMorphism 44 = .ok (.iconst 1, 1) := by decide +kernel
theorem dX7_invertMorphism_45 : decode cX7_invertMorphism 45 = .ok (.istore_n 3, 1) := by decide +kernel
theorem dX7_invertMorphism_46 : decode cX7_invertMorphism 46 = .ok (.aload_n 0, 1) := by decide +kernel
theorem dX7_invertMorphism_47 : decode cX7_invertMorphism 47 = .ok (.iload_n 1, 1) := by decide +kernel
theorem dX7_invertMorphism_48 : decode cX7_invertMorphism 48 = .ok (.iload_n 3, 1) := by decide +kernel
theorem dX7_invertMorphism_49 : decode cX7_invertMorphism 49 = .ok (.invokestatic 90, 3) := by decide +kernel
theorem dX7_invertMorphism_52 : decode cX7_invertMorphism 52 = .ok (.iload_n 2, 1) := by decide +kernel
theorem dX7_invertMorphism_53 : decode cX7_invertMorphism 53 = .ok (.invokevirtual 93, 3) := by decide +kernel
theorem dX7_invertMorphism_56 : decode cX7_invertMorphism 56 = .ok (.ifCond .eq 7, 3) := by decide +kernel
theorem dX7_invertMorphism_59 : decode cX7_invertMorphism 59 = .ok (.iload_n 3, 1) := by decide +kernel
theorem dX7_invertMorphism_60 : decode cX7_invertMorphism 60 = .ok (.goto 6, 3) := by decide +kernel
theorem dX7_invertMorphism_63 : decode cX7_invertMorphism 63 = .ok (.iconst 1, 1) := by decide +kernel
theorem dX7_invertMorphism_64 : decode cX7_invertMorphism 64 = .ok (.iload_n 3, 1) := by decide +kernel
theorem dX7_invertMorphism_65 : decode cX7_invertMorphism 65 = .ok (.isub, 1) := by decide +kernel
theorem dX7_invertMorphism_66 : decode cX7_invertMorphism 66 = .ok (.istore 4, 2) := by decide +kernel
theorem dX7_invertMorphism_68 : decode cX7_invertMorphism 68 = .ok (.iload_n 1, 1) := by decide +kernel
theorem dX7_invertMorphism_69 : decode cX7_invertMorphism 69 = .ok (.iload 4, 2) := by decide +kernel
theorem dX7_invertMorphism_71 : decode cX7_invertMorphism 71 = .ok (.invokestatic 90, 3) := by decide +kernel
theorem dX7_invertMorphism_74 : decode cX7_invertMorphism 74 = .ok (.istore 5, 2) := by decide +kernel
theorem dX7_invertMorphism_76 : decode cX7_invertMorphism 76 = .ok (.aload_n 0, 1) := by decide +kernel
theorem dX7_invertMorphism_77 : decode cX7_invertMorphism 77 = .ok (.iload 5, 2) := by decide +kernel
theorem dX7_invertMorphism_79 : decode cX7_invertMorphism 79 = .ok (.iload_n 2, 1) := by decide +kernel
theorem dX7_invertMorphism_80 : decode cX7_invertMorphism 80 = .ok (.invokevirtual 93, 3) := by decide +kernel
theorem dX7_invertMorphism_83 : decode cX7_invertMorphism 83 = .ok (.ifCond .ne 6, 3) := by decide +kernel
theorem dX7_invertMorphism_86 : decode cX7_invertMorphism 86 = .ok (.bipush (-3), 2) := by decide +kernel
theorem dX7_invertMorphism_88 : decode cX7_invertMorphism 88 = .ok (.ireturn, 1) := by decide +kernel
theorem dX7_invertMorphism_89 : decode cX7_invertMorphism 89 = .ok (.aload_n 0, 1) := by decide +kernel
theorem dX7_invertMorphism_90 : decode cX7_invertMorphism 90 = .ok (.iload 4, 2) := by decide +kernel
theorem dX7_invertMorphism_92 : decode cX7_invertMorphism 92 = .ok (.invokevirtual 75, 3) := by decide +kernel
theorem dX7_invertMorphism_95 : decode cX7_invertMorphism 95 = .ok (.iload_n 2, 1) := by decide +kernel
theorem dX7_invertMorphism_96 : decode cX7_invertMorphism 96 = .ok (.iload 5, 2) := by decide +kernel
theorem dX7_invertMorphism_98 : decode cX7_invertMorphism 98 = .ok (.bipush 99, 2) := by decide +kernel
theorem dX7_invertMorphism_100 : decode cX7_invertMorphism 100 = .ok (.if_icmp .le 7, 3) := by decide +kernel
theorem dX7_invertMorphism_103 : decode cX7_invertMorphism 103 = .ok (.iconst 2, 1) := by decide +kernel
theorem dX7_invertMorphism_104 : decode cX7_invertMorphism 104 = .ok (.goto 4, 3) := by decide +kernel
theorem dX7_invertMorphism_107 : decode cX7_invertMorphism 107 = .ok (.iconst 1, 1) := by decide +kernel
theorem dX7_invertMorphism_108 : decode cX7_invertMorphism 108 = .ok (.iadd, 1) := by decide +kernel
theorem dX7_invertMorphism_109 : decode cX7_invertMorphism 109 = .ok (.istore_n 2, 1) := by decide +kernel
theorem dX7_invertMorphism_110 : decode cX7_invertMorphism 110 = .ok (.goto (-90), 3) := by decide +kernel
theorem dX7_invertMorphism_113 : decode cX7_invertMorphism 113 = .ok (.aload_n 0, 1) := by decide +kernel
theorem dX7_invertMorphism_114 : decode cX7_invertMorphism 114 = .ok (.invokevirtual 65, 3) := by decide +kernel
theorem dX7_invertMorphism_117 : decode cX7_invertMorphism 117 = .ok (.aload_n 0, 1) := by decide +kernel
theorem dX7_invertMorphism_118 : decode cX7_invertMorphism 118 = .ok (.getfield 7, 3) := by decide +kernel
theorem dX7_invertMorphism_121 : decode cX7_invertMorphism 121 = .ok (.iconst 3, 1) := by decide +kernel
theorem dX7_invertMorphism_122 : decode cX7_invertMorphism 122 = .ok (.iaload, 1) := by decide +kernel
theorem dX7_invertMorphism_123 : decode cX7_invertMorphism 123 = .ok (.ireturn, 1) := by decide +kernel
set_option maxRecDepth 20000 in
theorem ggX7_undo_X7_copy : GoodIn wsX7_undo wsX7_copy := goodIn_r _ [7] (by decide +kernel) (by decide +kernel)
set_option maxRecDepth 20000 in
theorem gX7_undo_X7_copy : GoodIn wsX7_undo (va_wsS RX7 36 yX7_copy wsX7_copy) := goodIn_app (goodIn_of _ (by decide +kernel)) ggX7_undo_X7_copy
theorem dX7_undo_0 : decode cX7_undo 0 = .ok (.aload_n 0, 1) := by decide +kernel
theorem dX7_undo_1 : decode cX7_undo 1 = .ok (.getfield 32, 3) := by decide +kernel
theorem dX7_undo_4 : decode cX7_undo 4 = .ok (.ifCond .ne 6, 3) := by decide +kernel
theorem dX7_undo_7 : decode cX7_undo 7 = .ok (.bipush (-3), 2) := by decide +kernel
theorem dX7_undo_9 : decode cX7_undo 9 = .ok (.ireturn, 1) := by decide +kernel
theorem dX7_undo_10 : decode cX7_undo 10 = .ok (.aload_n 0, 1) := by decide +kernel
theorem dX7_undo_11 : decode cX7_undo 11 = .ok (.dup, 1) := by decide +kernel
theorem dX7_undo_12 : decode cX7_undo 12 = .ok (.getfield 32, 3) := by decide +kernel
theorem dX7_undo_15 : decode cX7_undo 15 = .ok (.iconst 1, 1) := by decide +kernel
theorem dX7_undo_16 : decode cX7_undo 16 = .ok (.isub, 1) := by decide +kernel
theorem dX7_undo_17 : decode cX7_undo 17 = .ok (.putfield 32, 3) := by decide +kernel
theorem dX7_undo_20 : decode cX7_undo 20 = .ok (.aload_n 0, 1) := by decide +kernel
theorem dX7_undo_21 : decode cX7_undo 21 = .ok (.getfield 16, 3) := by decide +kernel
theorem dX7_undo_24 : decode cX7_undo 24 = .ok (.bipush 64, 2) := by decide +kernel
theorem dX7_undo_26 : decode cX7_undo 26 = .ok (.aload_n 0, 1) := by decide +kernel
theorem dX7_undo_27 : decode cX7_undo 27 = .ok (.getfield 32, 3) := by decide +kernel
theorem dX7_undo_30 : decode cX7_undo 30 = .ok (.imul, 1) := by decide +kernel
theorem dX7_undo_31 : decode cX7_undo 31 = .ok (.aload_n 0, 1) := by decide +kernel
theorem dX7_undo_32 : decode cX7_undo 32 = .ok (.getfield 7, 3) := by decide +kernel
theorem dX7_undo_35 : decode cX7_undo 35 = .ok (.iconst 0, 1) := by decide +kernel
theorem dX7_undo_36 : decode cX7_undo 36 = .ok (.invokestatic 36, 3) := by decide +kernel
theorem dX7_undo_39 : decode cX7_undo 39 = .ok (.aload_n 0, 1) := by decide +kernel
theorem dX7_undo_40 : decode cX7_undo 40 = .ok (.getfield 32, 3) := by decide +kernel
theorem dX7_undo_43 : decode cX7_undo 43 = .ok (.ireturn, 1) := by decide +kernel
theorem dX7_length_0 : decode cX7_length 0 = .ok (.aload_n 0, 1) := by decide +kernel
theorem dX7_length_1 : decode cX7_length 1 = .ok (.getfield 7, 3) := by decide +kernel
theorem dX7_length_4 : decode cX7_length 4 = .ok (.iconst 3, 1) := by decide +kernel
theorem dX7_length_5 : decode cX7_length 5 = .ok (.iaload, 1) := by decide +kernel
theorem dX7_length_6 : decode cX7_length 6 = .ok (.ireturn, 1) := by decide +kernel
set_option maxRecDepth 20000 in
theorem ggX7_weight_X7_weightOf : GoodIn wsX7_weight wsX7_weightOf := goodIn_r _ [5] (by decide +kernel) (by decide +kernel)
set_option maxRecDepth 20000 in
theorem gX7_weight_X7_weightOf : GoodIn wsX7_weight (va_wsS RX7 68 yX7_weightOf wsX7_weightOf) := goodIn_app (goodIn_of _ (by decide +kernel)) ggX7_weight_X7_weightOf
theorem dX7_weight_0 : decode cX7_weight 0 = .ok (.aload_n 0, 1) := by decide +kernel
theorem dX7_weight_1 : decode cX7_weight 1 = .ok (.getfield 7, 3) := by decide +kernel
theorem dX7_weight_4 : decode cX7_weight 4 = .ok (.invokestatic 68, 3) := by decide +kernel
theorem dX7_weight_7 : decode cX7_weight 7 = .ok (.ireturn, 1) := by decide +kernel
theorem dX7_letterAt_0 : decode cX7_letterAt 0 = .ok (.iload_n 1, 1) := by decide +kernel
theorem dX7_letterAt_1 : decode cX7_letterAt 1 = .ok (.ifCond .ge 5, 3) := by decide +kernel
theorem dX7_letterAt_4 : decode cX7_letterAt 4 = .ok (.iconst (-1), 1) := by decide +kernel
theorem dX7_letterAt_5 : decode cX7_letterAt 5 = .ok (.ireturn, 1) := by decide +kernel
theorem dX7_letterAt_6 : decode cX7_letterAt 6 = .ok (.iload_n 1, 1) := by decide +kernel
theorem dX7_letterAt_7 : decode cX7_letterAt 7 = .ok (.aload_n 0, 1) := by decide +kernel
theorem dX7_letterAt_8 : decode cX7_letterAt 8 = .ok (.getfield 7, 3) := by decide +kernel
theorem dX7_letterAt_11 : decode cX7_letterAt 11 = .ok (.iconst 3, 1) := by decide +kernel
theorem dX7_letterAt_12 : decode cX7_letterAt 12 = .ok (.iaload, 1) := by decide +kernel
theorem dX7_letterAt_13 : decode cX7_letterAt 13 = .ok (.if_icmp .ge 14, 3) := by decide +kernel
theorem dX7_letterAt_16 : decode cX7_letterAt 16 = .ok (.aload_n 0, 1) := by decide +kernel
theorem dX7_letterAt_17 : decode cX7_letterAt 17 = .ok (.getfield 7, 3) := by decide +kernel
theorem dX7_letterAt_20 : decode cX7_letterAt 20 = .ok (.iconst 4, 1) := by decide +kernel
theorem dX7_letterAt_21 : decode cX7_letterAt 21 = .ok (.iload_n 1, 1) := by decide +kernel
theorem dX7_letterAt_22 : decode cX7_letterAt 22 = .ok (.iadd, 1) := by decide +kernel
theorem dX7_letterAt_23 : decode cX7_letterAt 23 = .ok (.iaload, 1) := by decide +kernel
theorem dX7_letterAt_24 : decode cX7_letterAt 24 = .ok (.goto 5, 3) := by decide +kernel
theorem dX7_letterAt_27 : decode cX7_letterAt 27 = .ok (.bipush (-3), 2) := by decide +kernel
theorem dX7_letterAt_29 : decode cX7_letterAt 29 = .ok (.ireturn, 1) := by decide +kernel
theorem dX7_compare_0 : decode cX7_compare 0 = .ok (.iconst 0, 1) := by decide +kernel
theorem dX7_compare_1 : decode cX7_compare 1 = .ok (.istore 4, 2) := by decide +kernel
theorem dX7_compare_3 : decode cX7_compare 3 = .ok (.iload 4, 2) := by decide +kernel
theorem dX7_compare_5 : decode cX7_compare 5 = .ok (.iload_n 3, 1) := by decide +kernel
theorem dX7_compare_6 : decode cX7_compare 6 = .ok (.if_icmp .ge 58, 3) := by decide +kernel
theorem dX7_compare_9 : decode cX7_compare 9 = .ok (.aload_n 0, 1) := by decide +kernel
theorem dX7_compare_10 : decode cX7_compare 10 = .ok (.getfield 7, 3) := by decide +kernel
theorem dX7_compare_13 : decode cX7_compare 13 = .ok (.iconst 4, 1) := by decide +kernel
theorem dX7_compare_14 : decode cX7_compare 14 = .ok (.iload_n 1, 1) := by decide +kernel
theorem dX7_compare_15 : decode cX7_compare 15 = .ok (.iadd, 1) := by decide +kernel
theorem dX7_compare_16 : decode cX7_compare 16 = .ok (.iload 4, 2) := by decide +kernel
theorem dX7_compare_18 : decode cX7_compare 18 = .ok (.iadd, 1) := by decide +kernel
theorem dX7_compare_19 : decode cX7_compare 19 = .ok (.iaload, 1) := by decide +kernel
theorem dX7_compare_20 : decode cX7_compare 20 = .ok (.aload_n 0, 1) := by decide +kernel
theorem dX7_compare_21 : decode cX7_compare 21 = .ok (.getfield 7, 3) := by decide +kernel
theorem dX7_compare_24 : decode cX7_compare 24 = .ok (.iconst 4, 1) := by decide +kernel
theorem dX7_compare_25 : decode cX7_compare 25 = .ok (.iload_n 2, 1) := by decide +kernel
theorem dX7_compare_26 : decode cX7_compare 26 = .ok (.iadd, 1) := by decide +kernel
theorem dX7_compare_27 : decode cX7_compare 27 = .ok (.iload 4, 2) := by decide +kernel
theorem dX7_compare_29 : decode cX7_compare 29 = .ok (.iadd, 1) := by decide +kernel
theorem dX7_compare_30 : decode cX7_compare 30 = .ok (.iaload, 1) := by decide +kernel
theorem dX7_compare_31 : decode cX7_compare 31 = .ok (.if_icmp .eq 27, 3) := by decide +kernel
theorem dX7_compare_34 : decode cX7_compare 34 = .ok (.aload_n 0, 1) := by decide +kernel
theorem dX7_compare_35 : decode cX7_compare 35 = .ok (.getfield 7, 3) := by decide +kernel
theorem dX7_compare_38 : decode cX7_compare 38 = .ok (.iconst 4, 1) := by decide +kernel
theorem dX7_compare_39 : decode cX7_compare 39 = .ok (.iload_n 1, 1) := by decide +kernel
theorem dX7_compare_40 : decode cX7_compare 40 = .ok (.iadd, 1) := by decide +kernel
theorem dX7_compare_41 : decode cX7_compare 41 = .ok (.iload 4, 2) := by decide +kernel
theorem dX7_compare_43 : decode cX7_compare 43 = .ok (.iadd, 1) := by decide +kernel
theorem dX7_compare_44 : decode cX7_compare 44 = .ok (.iaload, 1) := by decide +kernel
theorem dX7_compare_45 : decode cX7_compare 45 = .ok (.aload_n 0, 1) := by decide +kernel
theorem dX7_compare_46 : decode cX7_compare 46 = .ok (.getfield 7, 3) := by decide +kernel
theorem dX7_compare_49 : decode cX7_compare 49 = .ok (.iconst 4, 1) := by decide +kernel
theorem dX7_compare_50 : decode cX7_compare 50 = .ok (.iload_n 2, 1) := by decide +kernel
theorem dX7_compare_51 : decode cX7_compare 51 = .ok (.iadd, 1) := by decide +kernel
theorem dX7_compare_52 : decode cX7_compare 52 = .ok (.iload 4, 2) := by decide +kernel
theorem dX7_compare_54 : decode cX7_compare 54 = .ok (.iadd, 1) := by decide +kernel
theorem dX7_compare_55 : decode cX7_compare 55 = .ok (.iaload, 1) := by decide +kernel
theorem dX7_compare_56 : decode cX7_compare 56 = .ok (.isub, 1) := by decide +kernel
theorem dX7_compare_57 : decode cX7_compare 57 = .ok (.ireturn, 1) := by decide +kernel
theorem dX7_compare_58 : decode cX7_compare 58 = .ok (.iinc 4 1, 3) := by decide +kernel
theorem dX7_compare_61 : decode cX7_compare 61 = .ok (.goto (-58), 3) := by decide +kernel
theorem dX7_compare_64 : decode cX7_compare 64 = .ok (.iconst 0, 1) := by decide +kernel
theorem dX7_compare_65 : decode cX7_compare 65 = .ok (.ireturn, 1) := by decide +kernel
set_option maxRecDepth 20000 in
theorem ggX7_isFirst_X7_compare : GoodIn wsX7_isFirst wsX7_compare := goodIn_r _ [5, 6, 7, 8, 9, 10, 11, 12, 13, 14, 15, 16, 17] (by decide +kernel) (by decide +kernel)
set_option maxRecDepth 20000 in
theorem gX7_isFirst_X7_compare : GoodIn wsX7_isFirst (wsV RX7 96 RX7 yX7_compare wsX7_compare) := goodIn_app (goodIn_of _ (by decide +kernel)) ggX7_isFirst_X7_compare
theorem dX7_isFirst_0 : decode cX7_isFirst 0 = .ok (.iconst 0, 1) := by decide +kernel
theorem dX7_isFirst_1 : decode cX7_isFirst 1 = .ok (.istore_n 3, 1) := by decide +kernel
theorem dX7_isFirst_2 : decode cX7_isFirst 2 = .ok (.iload_n 3, 1) := by decide +kernel
theorem dX7_isFirst_3 : decode cX7_isFirst 3 = .ok (.iload_n 1, 1) := by decide +kernel
theorem dX7_isFirst_4 : decode cX7_isFirst 4 = .ok (.if_icmp .ge 21, 3) := by decide +kernel
theorem dX7_isFirst_7 : decode cX7_isFirst 7 = .ok (.aload_n 0, 1) := by decide +kernel
theorem dX7_isFirst_8 : decode cX7_isFirst 8 = .ok (.iload_n 3, 1) := by decide +kernel
theorem dX7_isFirst_9 : decode cX7_isFirst 9 = .ok (.iload_n 1, 1) := by decide +kernel
theorem dX7_isFirst_10 : decode cX7_isFirst 10 = .ok (.iload_n 2, 1) := by decide +kernel
theorem dX7_isFirst_11 : decode cX7_isFirst 11 = .ok (.invokevirtual 96, 3) := by decide +kernel
theorem dX7_isFirst_14 : decode cX7_isFirst 14 = .ok (.ifCond .ne 5, 3) := by decide +kernel
theorem dX7_isFirst_17 : decode cX7_isFirst 17 = .ok (.iconst 0, 1) := by decide +kernel
theorem dX7_isFirst_18 : decode cX7_isFirst 18 = .ok (.ireturn, 1) := by decide +kernel
theorem dX7_isFirst_19 : decode cX7_isFirst 19 = .ok (.iinc 3 1, 3) := by decide +kernel
theorem dX7_isFirst_22 : decode cX7_isFirst 22 = .ok (.goto (-20), 3) := by decide +kernel
theorem dX7_isFirst_25 : decode cX7_isFirst 25 = .ok (.iconst 1, 1) := by decide +kernel
theorem dX7_isFirst_26 : decode cX7_isFirst 26 = .ok (.ireturn, 1) := by decide +kernel
set_option maxRecDepth 20000 in
theorem ggX7_factorCount_X7_isFirst : GoodIn wsX7_factorCount wsX7_isFirst := goodIn_r _ [6, 7, 8, 9, 5, 10, 1, 11, 12, 13, 14, 15, 16, 17, 18, 19, 20, 21] (by decide +kernel) (by decide +kernel)
set_option maxRecDepth 20000 in
theorem gX7_factorCount_X7_isFirst : GoodIn wsX7_factorCount (wsV RX7 100 RX7 yX7_isFirst wsX7_isFirst) := goodIn_app (goodIn_of _ (by decide +kernel)) ggX7_factorCount_X7_isFirst
theorem dX7_factorCount_0 : decode cX7_factorCount 0 = .ok (.iload_n 1, 1) := by decide +kernel
theorem dX7_factorCount_1 : decode cX7_factorCount 1 = .ok (.ifCond .ge 5, 3) := by decide +kernel
theorem dX7_factorCount_4 : decode cX7_factorCount 4 = .ok (.iconst (-1), 1) := by decide +kernel
theorem dX7_factorCount_5 : decode cX7_factorCount 5 = .ok (.ireturn, 1) := by decide +kernel
theorem dX7_factorCount_6 : decode cX7_factorCount 6 = .ok (.iconst 0, 1) := by decide +kernel
theorem dX7_factorCount_7 : decode cX7_factorCount 7 = .ok (.istore_n 2, 1) := by decide +kernel
theorem dX7_factorCount_8 : decode cX7_factorCount 8 = .ok (.iconst 0, 1) := by decide +kernel
theorem dX7_factorCount_9 : decode cX7_factorCount 9 = .ok (.istore_n 3, 1) := by decide +kernel
theorem dX7_factorCount_10 : decode cX7_factorCount 10 = .ok (.iload_n 3, 1) := by decide +kernel
theorem dX7_factorCount_11 : decode cX7_factorCount 11 = .ok (.aload_n 0, 1) := by decide +kernel
theorem dX7_factorCount_12 : decode cX7_factorCount 12 = .ok (.getfield 7, 3) := by decide +kernel
theorem dX7_factorCount_15 : decode cX7_factorCount 15 = .ok (.iconst 3, 1) := by decide +kernel
theorem dX7_factorCount_16 : decode cX7_factorCount 16 = .ok (.iaload, 1) := by decide +kernel
theorem dX7_factorCount_17 : decode cX7_factorCount 17 = .ok (.iload_n 1, 1) := by decide +kernel
theorem dX7_factorCount_18 : decode cX7_factorCount 18 = .ok (.isub, 1) := by decide +kernel
theorem dX7_factorCount_19 : decode cX7_factorCount 19 = .ok (.if_icmp .gt 26, 3) := by decide +kernel
theorem dX7_factorCount_22 : decode cX7_factorCount 22 = .ok (.iload_n 2, 1) := by decide +kernel
theorem dX7_factorCount_23 : decode cX7_factorCount 23 = .ok (.aload_n 0, 1) := by decide +kernel
theorem dX7_factorCount_24 : decode cX7_factorCount 24 = .ok (.iload_n 3, 1) := by decide +kernel
theorem dX7_factorCount_25 : decode cX7_factorCount 25 = .ok (.iload_n 1, 1) := by decide +kernel
theorem dX7_factorCount_26 : decode cX7_factorCount 26 = .ok (.invokevirtual 100, 3) := by decide +kernel
theorem dX7_factorCount_29 : decode cX7_factorCount 29 = .ok (.ifCond .eq 7, 3) := by decide +kernel
theorem dX7_factorCount_32 : decode cX7_factorCount 32 = .ok (.iconst 1, 1) := by decide +kernel
theorem dX7_factorCount_33 : decode cX7_factorCount 33 = .ok (.goto 4, 3) := by decide +kernel
theorem dX7_factorCount_36 : decode cX7_factorCount 36 = .ok (.iconst 0, 1) := by decide +kernel
theorem dX7_factorCount_37 : decode cX7_factorCount 37 = .ok (.iadd, 1) := by decide +kernel
theorem dX7_factorCount_38 : decode cX7_factorCount 38 = .ok (.istore_n 2, 1) := by decide +kernel
theorem dX7_factorCount_39 : decode cX7_factorCount 39 = .ok (.iinc 3 1, 3) := by decide +kernel
theorem dX7_factorCount_42 : decode cX7_factorCount 42 = .ok (.goto (-32), 3) := by decide +kernel
theorem dX7_factorCount_45 : decode cX7_factorCount 45 = .ok (.iload_n 2, 1) := by decide +kernel
theorem dX7_factorCount_46 : decode cX7_factorCount 46 = .ok (.ireturn, 1) := by decide +kernel
theorem dX7_numberAt_0 : decode cX7_numberAt 0 = .ok (.iconst 0, 1) := by decide +kernel
theorem dX7_numberAt_1 : decode cX7_numberAt 1 = .ok (.istore_n 3, 1) := by decide +kernel
theorem dX7_numberAt_2 : decode cX7_numberAt 2 = .ok (.iconst 0, 1) := by decide +kernel
theorem dX7_numberAt_3 : decode cX7_numberAt 3 = .ok (.istore 4, 2) := by decide +kernel
theorem dX7_numberAt_5 : decode cX7_numberAt 5 = .ok (.iload 4, 2) := by decide +kernel
theorem dX7_numberAt_7 : decode cX7_numberAt 7 = .ok (.iload_n 2, 1) := by decide +kernel
theorem dX7_numberAt_8 : decode cX7_numberAt 8 = .ok (.if_icmp .ge 25, 3) := by decide +kernel
theorem dX7_numberAt_11 : decode cX7_numberAt 11 = .ok (.iconst 2, 1) := by decide +kernel
theorem dX7_numberAt_12 : decode cX7_numberAt 12 = .ok (.iload_n 3, 1) := by decide +kernel
theorem dX7_numberAt_13 : decode cX7_numberAt 13 = .ok (.imul, 1) := by decide +kernel
theorem dX7_numberAt_14 : decode cX7_numberAt 14 = .ok (.aload_n 0, 1) := by decide +kernel
theorem dX7_numberAt_15 : decode cX7_numberAt 15 = .ok (.getfield 7, 3) := by decide +kernel
theorem dX7_numberAt_18 : decode cX7_numberAt 18 = .ok (.iconst 4, 1) := by decide +kernel
theorem dX7_numberAt_19 : decode cX7_numberAt 19 = .ok (.iload_n 1, 1) := by decide +kernel
theorem dX7_numberAt_20 : decode cX7_numberAt 20 = .ok (.iadd, 1) := by decide +kernel
theorem dX7_numberAt_21 : decode cX7_numberAt 21 = .ok (.iload 4, 2) := by decide +kernel
theorem dX7_numberAt_23 : decode cX7_numberAt 23 = .ok (.iadd, 1) := by decide +kernel
theorem dX7_numberAt_24 : decode cX7_numberAt 24 = .ok (.iaload, 1) := by decide +kernel
theorem dX7_numberAt_25 : decode cX7_numberAt 25 = .ok (.iadd, 1) := by decide +kernel
theorem dX7_numberAt_26 : decode cX7_numberAt 26 = .ok (.istore_n 3, 1) := by decide +kernel
theorem dX7_numberAt_27 : decode cX7_numberAt 27 = .ok (.iinc 4 1, 3) := by decide +kernel
theorem dX7_numberAt_30 : decode cX7_numberAt 30 = .ok (.goto (-25), 3) := by decide +kernel
theorem dX7_numberAt_33 : decode cX7_numberAt 33 = .ok (.iload_n 3, 1) := by decide +kernel
theorem dX7_numberAt_34 : decode cX7_numberAt 34 = .ok (.ireturn, 1) := by decide +kernel
set_option maxRecDepth 20000 in
theorem ggX7_factorAt_X7_in : GoodIn wsX7_factorAt wsX7_in := goodIn_r _ [5] (by decide +kernel) (by decide +kernel)
set_option maxRecDepth 20000 in
theorem gX7_factorAt_X7_in : GoodIn wsX7_factorAt (va_wsS RX7 43 yX7_in wsX7_in) := goodIn_app (goodIn_of _ (by decide +kernel)) ggX7_factorAt_X7_in
set_option maxRecDepth 20000 in
theorem ggX7_factorAt_X7_isFirst : GoodIn wsX7_factorAt wsX7_isFirst := goodIn_r _ [9, 10, 11, 12, 4, 13, 1, 18, 19, 20, 21, 22, 23, 24, 25, 26, 27, 28] (by decide +kernel) (by decide +kernel)
set_option maxRecDepth 20000 in
theorem gX7_factorAt_X7_isFirst : GoodIn wsX7_factorAt (wsV RX7 100 RX7 yX7_isFirst wsX7_isFirst) := goodIn_app (goodIn_of _ (by decide +kernel)) ggX7_factorAt_X7_isFirst
set_option maxRecDepth 20000 in
theorem ggX7_factorAt_X7_compare : GoodIn wsX7_factorAt wsX7_compare := goodIn_r _ [13, 1, 18, 19, 20, 21, 22, 23, 24, 25, 26, 27, 28] (by decide +kernel) (by decide +kernel)
set_option maxRecDepth 20000 in
theorem gX7_factorAt_X7_compare : GoodIn wsX7_factorAt (wsV RX7 96 RX7 yX7_compare wsX7_compare) := goodIn_app (goodIn_of _ (by decide +kernel)) ggX7_factorAt_X7_compare
set_option maxRecDepth 20000 in
theorem ggX7_factorAt_X7_numberAt : GoodIn wsX7_factorAt wsX7_numberAt := goodIn_r _ [17, 1, 18, 19, 20, 21, 22, 23, 24, 25, 26, 27, 28] (by decide +kernel) (by decide +kernel)
set_option maxRecDepth 20000 in
theorem gX7_factorAt_X7_numberAt : GoodIn wsX7_factorAt (wsV RX7 103 RX7 yX7_numberAt wsX7_numberAt) := goodIn_app (goodIn_of _ (by decide +kernel)) ggX7_factorAt_X7_numberAt
theorem dX7_factorAt_0 : decode cX7_factorAt 0 = .ok (.iload_n 1, 1) := by decide +kernel
theorem dX7_factorAt_1 : decode cX7_factorAt 1 = .ok (.iconst 1, 1) := by decide +kernel
theorem dX7_factorAt_2 : decode cX7_factorAt 2 = .ok (.bipush 30, 2) := by decide +kernel
theorem dX7_factorAt_4 : decode cX7_factorAt 4 = .ok (.invokestatic 43, 3) := by decide +kernel
theorem dX7_factorAt_7 : decode cX7_factorAt 7 = .ok (.ifCond .eq 7, 3) := by decide +kernel
theorem dX7_factorAt_10 : decode cX7_factorAt 10 = .ok (.iload_n 2, 1) := by decide +kernel
theorem dX7_factorAt_11 : decode cX7_factorAt 11 = .ok (.ifCond .ge 5, 3) := by decide +kernel
theorem dX7_factorAt_14 : decode cX7_factorAt 14 = .ok (.iconst (-1), 1) := by decide +kernel
theorem dX7_factorAt_15 : decode cX7_factorAt 15 = .ok (.ireturn, 1) := by decide +kernel
theorem dX7_factorAt_16 : decode cX7_factorAt 16 = .ok (.iconst 0, 1) := by decide +kernel
theorem dX7_factorAt_17 : decode cX7_factorAt 17 = .ok (.istore_n 3, 1) := by decide +kernel
theorem dX7_factorAt_18 : decode cX7_factorAt 18 = .ok (.iload_n 3, 1) := by decide +kernel
theorem dX7_factorAt_19 : decode cX7_factorAt 19 = .ok (.aload_n 0, 1) := by decide +kernel
theorem dX7_factorAt_20 : decode cX7_factorAt 20 = .ok (.getfield 7, 3) := by decide +kernel
theorem dX7_factorAt_23 : decode cX7_factorAt 23 = .ok (.iconst 3, 1) := by decide +kernel
theorem dX7_factorAt_24 : decode cX7_factorAt 24 = .ok (.iaload, 1) := by decide +kernel
theorem dX7_factorAt_25 : decode cX7_factorAt 25 = .ok (.iload_n 1, 1) := by decide +kernel
theorem dX7_factorAt_26 : decode cX7_factorAt 26 = .ok (.isub, 1) := by decide +kernel
theorem dX7_factorAt_27 : decode cX7_factorAt 27 = .ok (.if_icmp .gt 78, 3) := by decide +kernel
theorem dX7_factorAt_30 : decode cX7_factorAt 30 = .ok (.iconst 0, 1) := by decide +kernel
theorem dX7_factorAt_31 : decode cX7_factorAt 31 = .ok (.istore 4, 2) := by decide +kernel
theorem dX7_factorAt_33 : decode cX7_factorAt 33 = .ok (.iconst 0, 1) := by decide +kernel
theorem dX7_factorAt_34 : decode cX7_factorAt 34 = .ok (.istore 5, 2) := by decide +kernel
theorem dX7_factorAt_36 : decode cX7_factorAt 36 = .ok (.iload 5, 2) := by decide +kernel
theorem dX7_factorAt_38 : decode cX7_factorAt 38 = .ok (.aload_n 0, 1) := by decide +kernel
theorem dX7_factorAt_39 : decode cX7_factorAt 39 = .ok (.getfield 7, 3) := by decide +kernel
theorem dX7_factorAt_42 : decode cX7_factorAt 42 = .ok (.iconst 3, 1) := by decide +kernel
theorem dX7_factorAt_43 : decode cX7_factorAt 43 = .ok (.iaload, 1) := by decide +kernel
theorem dX7_factorAt_44 : decode cX7_factorAt 44 = .ok (.iload_n 1, 1) := by decide +kernel
theorem dX7_factorAt_45 : decode cX7_factorAt 45 = .ok (.isub, 1) := by decide +kernel
theorem dX7_factorAt_46 : decode cX7_factorAt 46 = .ok (.if_icmp .gt 40, 3) := by decide +kernel
theorem dX7_factorAt_49 : decode cX7_factorAt 49 = .ok (.iload 4, 2) := by decide +kernel
theorem dX7_factorAt_51 : decode cX7_factorAt 51 = .ok (.aload_n 0, 1) := by decide +kernel
theorem dX7_factorAt_52 : decode cX7_factorAt 52 = .ok (.iload 5, 2) := by decide +kernel
theorem dX7_factorAt_54 : decode cX7_factorAt 54 = .ok (.iload_n 1, 1) := by decide +kernel
theorem dX7_factorAt_55 : decode cX7_factorAt 55 = .ok (.invokevirtual 100, 3) := by decide +kernel
theorem dX7_factorAt_58 : decode cX7_factorAt 58 = .ok (.ifCond .eq 18, 3) := by decide +kernel
theorem dX7_factorAt_61 : decode cX7_factorAt 61 = .ok (.aload_n 0, 1) := by decide +kernel
theorem dX7_factorAt_62 : decode cX7_factorAt 62 = .ok (.iload 5, 2) := by decide +kernel
theorem dX7_factorAt_64 : decode cX7_factorAt 64 = .ok (.iload_n 3, 1) := by decide +kernel
theorem dX7_factorAt_65 : decode cX7_factorAt 65 = .ok (.iload_n 1, 1) := by decide +kernel
theorem dX7_factorAt_66 : decode cX7_factorAt 66 = .ok (.invokevirtual 96, 3) := by decide +kernel
theorem dX7_factorAt_69 : decode cX7_factorAt 69 = .ok (.ifCond .ge 7, 3) := by decide +kernel
theorem dX7_factorAt_72 : decode cX7_factorAt 72 = .ok (.iconst 1, 1) := by decide +kernel
theorem dX7_factorAt_73 : decode cX7_factorAt 73 = .ok (.goto 4, 3) := by decide +kernel
theorem dX7_factorAt_76 : decode cX7_factorAt 76 = .ok (.iconst 0, 1) := by decide +kernel
theorem dX7_factorAt_77 : decode cX7_factorAt 77 = .ok (.iadd, 1) := by decide +kernel
theorem dX7_factorAt_78 : decode cX7_factorAt 78 = .ok (.istore 4, 2) := by decide +kernel
theorem dX7_factorAt_80 : decode cX7_factorAt 80 = .ok (.iinc 5 1, 3) := by decide +kernel
theorem dX7_factorAt_83 : decode cX7_factorAt 83 = .ok (.goto (-47), 3) := by decide +kernel
theorem dX7_factorAt_86 : decode cX7_factorAt 86 = .ok (.iload 4, 2) := by decide +kernel
theorem dX7_factorAt_88 : decode cX7_factorAt 88 = .ok (.iload_n 2, 1) := by decide +kernel
theorem dX7_factorAt_89 : decode cX7_factorAt 89 = .ok (.if_icmp .ne 10, 3) := by decide +kernel
theorem dX7_factorAt_92 : decode cX7_factorAt 92 = .ok (.aload_n 0, 1) := by decide +kernel
theorem dX7_factorAt_93 : decode cX7_factorAt 93 = .ok (.iload_n 3, 1) := by decide +kernel
theorem dX7_factorAt_94 : decode cX7_factorAt 94 = .ok (.iload_n 1, 1) := by decide +kernel
theorem dX7_factorAt_95 : decode cX7_factorAt 95 = .ok (.invokevirtual 103, 3) := by decide +kernel
theorem dX7_factorAt_98 : decode cX7_factorAt 98 = .ok (.ireturn, 1) := by decide +kernel
theorem dX7_factorAt_99 : decode cX7_factorAt 99 = .ok (.iinc 3 1, 3) := by decide +kernel
theorem dX7_factorAt_102 : decode cX7_factorAt 102 = .ok (.goto (-84), 3) := by decide +kernel
theorem dX7_factorAt_105 : decode cX7_factorAt 105 = .ok (.bipush (-3), 2) := by decide +kernel
theorem dX7_factorAt_107 : decode cX7_factorAt 107 = .ok (.ireturn, 1) := by decide +kernel
theorem dX7_unbalancedLength_0 : decode cX7_unbalancedLength 0 = .ok (.iconst 1, 1) := by decide +kernel
theorem dX7_unbalancedLength_1 : decode cX7_unbalancedLength 1 = .ok (.istore_n 1, 1) := by decide +kernel
theorem dX7_unbalancedLength_2 : decode cX7_unbalancedLength 2 = .ok (.iload_n 1, 1) := by decide +kernel
theorem dX7_unbalancedLength_3 : decode cX7_unbalancedLength 3 = .ok (.aload_n 0, 1) := by decide +kernel
theorem dX7_unbalancedLength_4 : decode cX7_unbalancedLength 4 = .ok (.getfield 7, 3) := by decide +kernel
theorem dX7_unbalancedLength_7 : decode cX7_unbalancedLength 7 = .ok (.iconst 3, 1) := by decide +kernel
theorem dX7_unbalancedLength_8 : decode cX7_unbalancedLength 8 = .ok (.iaload, 1) := by decide +kernel
theorem dX7_unbalancedLength_9 : decode cX7_unbalancedLength 9 = .ok (.if_icmp .gt 106, 3) := by decide +kernel
theorem dX7_unbalancedLength_12 : decode cX7_unbalancedLength 12 = .ok (.bipush 60, 2) := by decide +kernel
theorem dX7_unbalancedLength_14 : decode cX7_unbalancedLength 14 = .ok (.istore_n 2, 1) := by decide +kernel
theorem dX7_unbalancedLength_15 : decode cX7_unbalancedLength 15 = .ok (.iconst 0, 1) := by decide +kernel
theorem dX7_unbalancedLength_16 : decode cX7_unbalancedLength 16 = .ok (.istore_n 3, 1) := by decide +kernel
theorem dX7_unbalancedLength_17 : decode cX7_unbalancedLength 17 = .ok (.iconst 0, 1) := by decide +kernel
theorem dX7_unbalancedLength_18 : decode cX7_unbalancedLength 18 = .ok (.istore 4, 2) := by decide +kernel
theorem dX7_unbalancedLength_20 : decode cX7_unbalancedLength 20 = .ok (.iload 4, 2) := by decide +kernel
theorem dX7_unbalancedLength_22 : decode cX7_unbalancedLength 22 = .ok (.aload_n 0, 1) := by decide +kernel
theorem dX7_unbalancedLength_23 : decode cX7_unbalancedLength 23 = .ok (.getfield 7, 3) := by decide +kernel
theorem dX7_unbalancedLength_26 : decode cX7_unbalancedLength 26 = .ok (.iconst 3, 1) := by decide +kernel
theorem dX7_unbalancedLength_27 : decode cX7_unbalancedLength 27 = .ok (.iaload, 1) := by decide +kernel
theorem dX7_unbalancedLength_28 : decode cX7_unbalancedLength 28 = .ok (.iload_n 1, 1) := by decide +kernel
theorem dX7_unbalancedLength_29 : decode cX7_unbalancedLength 29 = .ok (.isub, 1) := by decide +kernel
theorem dX7_unbalancedLength_30 : decode cX7_unbalancedLength 30 = .ok (.if_icmp .gt 70, 3) := by decide +kernel
theorem dX7_unbalancedLength_33 : decode cX7_unbalancedLength 33 = .ok (.iconst 0, 1) := by decide +kernel
theorem dX7_unbalancedLength_34 : decode cX7_unbalancedLength 34 = .ok (.istore 5, 2) := by decide +kernel
theorem dX7_unbalancedLength_36 : decode cX7_unbalancedLength 36 = .ok (.iconst 0, 1) := by decide +kernel
theorem dX7_unbalancedLength_37 : decode cX7_unbalancedLength 37 = .ok (.istore 6, 2) := by decide +kernel
theorem dX7_unbalancedLength_39 : decode cX7_unbalancedLength 39 = .ok (.iload 6, 2) := by decide +kernel
theorem dX7_unbalancedLength_41 : decode cX7_unbalancedLength 41 = .ok (.iload_n 1, 1) := by decide +kernel
theorem dX7_unbalancedLength_42 : decode cX7_unbalancedLength 42 = .ok (.if_icmp .ge 26, 3) := by decide +kernel
theorem dX7_unbalancedLength_45 : decode cX7_unbalancedLength 45 = .ok (.iload 5, 2) := by decide +kernel
theorem dX7_unbalancedLength_47 : decode cX7_unbalancedLength 47 = .ok (.aload_n 0, 1) := by decide +kernel
theorem dX7_unbalancedLength_48 : decode cX7_unbalancedLength 48 = .ok (.getfield 7, 3) := by decide +kernel
theorem dX7_unbalancedLength_51 : decode cX7_unbalancedLength 51 = .ok (.iconst 4, 1) := by decide +kernel
theorem dX7_unbalancedLength_52 : decode cX7_unbalancedLength 52 = .ok (.iload 4, 2) := by decide +kernel
theorem dX7_unbalancedLength_54 : decode cX7_unbalancedLength 54 = .ok (.iadd, 1) := by decide +kernel
theorem dX7_unbalancedLength_55 : decode cX7_unbalancedLength 55 = .ok (.iload 6, 2) := by decide +kernel
theorem dX7_unbalancedLength_57 : decode cX7_unbalancedLength 57 = .ok (.iadd, 1) := by decide +kernel
theorem dX7_unbalancedLength_58 : decode cX7_unbalancedLength 58 = .ok (.iaload, 1) := by decide +kernel
theorem dX7_unbalancedLength_59 : decode cX7_unbalancedLength 59 = .ok (.iadd, 1) := by decide +kernel
theorem dX7_unbalancedLength_60 : decode cX7_unbalancedLength 60 = .ok (.istore 5, 2) := by decide +kernel
theorem dX7_unbalancedLength_62 : decode cX7_unbalancedLength 62 = .ok (.iinc 6 1, 3) := by decide +kernel
theorem dX7_unbalancedLength_65 : decode cX7_unbalancedLength 65 = .ok (.goto (-26), 3) := by decide +kernel
theorem dX7_unbalancedLength_68 : decode cX7_unbalancedLength 68 = .ok (.iload 5, 2) := by decide +kernel
theorem dX7_unbalancedLength_70 : decode cX7_unbalancedLength 70 = .ok (.iload_n 2, 1) := by decide +kernel
theorem dX7_unbalancedLength_71 : decode cX7_unbalancedLength 71 = .ok (.if_icmp .ge 8, 3) := by decide +kernel
theorem dX7_unbalancedLength_74 : decode cX7_unbalancedLength 74 = .ok (.iload 5, 2) := by decide +kernel
theorem dX7_unbalancedLength_76 : decode cX7_unbalancedLength 76 = .ok (.goto 4, 3) := by decide +kernel
theorem dX7_unbalancedLength_79 : decode cX7_unbalancedLength 79 = .ok (.iload_n 2, 1) := by decide +kernel
theorem dX7_unbalancedLength_80 : decode cX7_unbalancedLength 80 = .ok (.istore_n 2, 1) := by decide +kernel
theorem dX7_unbalancedLength_81 : decode cX7_unbalancedLength 81 = .ok (.iload 5, 2) := by decide +kernel
theorem dX7_unbalancedLength_83 : decode cX7_unbalancedLength 83 = .ok (.iload_n 3, 1) := by decide +kernel
theorem dX7_unbalancedLength_84 : decode cX7_unbalancedLength 84 = .ok (.if_icmp .le 8, 3) := by decide +kernel
theorem dX7_unbalancedLength_87 : decode cX7_unbalancedLength 87 = .ok (.iload 5, 2) := by decide +kernel
theorem dX7_unbalancedLength_89 : decode cX7_unbalancedLength 89 = .ok (.goto 4, 3) := by decide +kernel
theorem dX7_unbalancedLength_92 : decode cX7_unbalancedLength 92 = .ok (.iload_n 3, 1) := by decide +kernel
theorem dX7_unbalancedLength_93 : decode cX7_unbalancedLength 93 = .ok (.istore_n 3, 1) := by decide +kernel
theorem dX7_unbalancedLength_94 : decode cX7_unbalancedLength 94 = .ok (.iinc 4 1, 3) := by decide +kernel
theorem dX7_unbalancedLength_97 : decode cX7_unbalancedLength 97 = .ok (.goto (-77), 3) := by decide +kernel
theorem dX7_unbalancedLength_100 : decode cX7_unbalancedLength 100 = .ok (.iload_n 3, 1) := by decide +kernel
theorem dX7_unbalancedLength_101 : decode cX7_unbalancedLength 101 = .ok (.iload_n 2, 1) := by decide +kernel
theorem dX7_unbalancedLength_102 : decode cX7_unbalancedLength 102 = .ok (.isub, 1) := by decide +kernel
theorem dX7_unbalancedLength_103 : decode cX7_unbalancedLength 103 = .ok (.iconst 1, 1) := by decide +kernel
theorem dX7_unbalancedLength_104 : decode cX7_unbalancedLength 104 = .ok (.if_icmp .le 5, 3) := by decide +kernel
theorem dX7_unbalancedLength_107 : decode cX7_unbalancedLength 107 = .ok (.iload_n 1, 1) := by decide +kernel
theorem dX7_unbalancedLength_108 : decode cX7_unbalancedLength 108 = .ok (.ireturn, 1) := by decide +kernel
theorem dX7_unbalancedLength_109 : decode cX7_unbalancedLength 109 = .ok (.iinc 1 1, 3) := by decide +kernel
theorem dX7_unbalancedLength_112 : decode cX7_unbalancedLength 112 = .ok (.goto (-110), 3) := by decide +kernel
theorem dX7_unbalancedLength_115 : decode cX7_unbalancedLength 115 = .ok (.bipush (-3), 2) := by decide +kernel
theorem dX7_unbalancedLength_117 : decode cX7_unbalancedLength 117 = .ok (.ireturn, 1) := by decide +kernel
set_option maxRecDepth 20000 in
theorem ggX7_palindromeCount_X7_isPalindrome : GoodIn wsX7_palindromeCount wsX7_isPalindrome := goodIn_r _ [6, 1, 15, 16, 17, 18, 19, 20, 21, 22, 23, 24, 25] (by decide +kernel) (by decide +kernel)
set_option maxRecDepth 20000 in
theorem gX7_palindromeCount_X7_isPalindrome : GoodIn wsX7_palindromeCount (wsV RX7 86 RX7 yX7_isPalindrome wsX7_isPalindrome) := goodIn_app (goodIn_of _ (by decide +kernel)) ggX7_palindromeCount_X7_isPalindrome
set_option maxRecDepth 20000 in
theorem ggX7_palindromeCount_X7_isFirst : GoodIn wsX7_palindromeCount wsX7_isFirst := goodIn_r _ [10, 11, 12, 13, 5, 14, 1, 15, 16, 17, 18, 19, 20, 21, 22, 23, 24, 25] (by decide +kernel) (by decide +kernel)
set_option maxRecDepth 20000 in
theorem gX7_palindromeCount_X7_isFirst : GoodIn wsX7_palindromeCount (wsV RX7 100 RX7 yX7_isFirst wsX7_isFirst) := goodIn_app (goodIn_of _ (by decide +kernel)) ggX7_palindromeCount_X7_isFirst
theorem dX7_palindromeCount_0 : decode cX7_palindromeCount 0 = .ok (.iconst 1, 1) := by decide +kernel
theorem dX7_palindromeCount_1 : decode cX7_palindromeCount 1 = .ok (.istore_n 1, 1) := by decide +kernel
theorem dX7_palindromeCount_2 : decode cX7_palindromeCount 2 = .ok (.iconst 1, 1) := by decide +kernel
theorem dX7_palindromeCount_3 : decode cX7_palindromeCount 3 = .ok (.istore_n 2, 1) := by decide +kernel
theorem dX7_palindromeCount_4 : decode cX7_palindromeCount 4 = .ok (.iload_n 2, 1) := by decide +kernel
theorem dX7_palindromeCount_5 : decode cX7_palindromeCount 5 = .ok (.aload_n 0, 1) := by decide +kernel
theorem dX7_palindromeCount_6 : decode cX7_palindromeCount 6 = .ok (.getfield 7, 3) := by decide +kernel
theorem dX7_palindromeCount_9 : decode cX7_palindromeCount 9 = .ok (.iconst 3, 1) := by decide +kernel
theorem dX7_palindromeCount_10 : decode cX7_palindromeCount 10 = .ok (.iaload, 1) := by decide +kernel
theorem dX7_palindromeCount_11 : decode cX7_palindromeCount 11 = .ok (.if_icmp .gt 55, 3) := by decide +kernel
theorem dX7_palindromeCount_14 : decode cX7_palindromeCount 14 = .ok (.iconst 0, 1) := by decide +kernel
theorem dX7_palindromeCount_15 : decode cX7_palindromeCount 15 = .ok (.istore_n 3, 1) := by decide +kernel
theorem dX7_palindromeCount_16 : decode cX7_palindromeCount 16 = .ok (.iload_n 3, 1) := by decide +kernel
theorem dX7_palindromeCount_17 : decode cX7_palindromeCount 17 = .ok (.aload_n 0, 1) := by decide +kernel
theorem dX7_palindromeCount_18 : decode cX7_palindromeCount 18 = .ok (.getfield 7, 3) := by decide +kernel
theorem dX7_palindromeCount_21 : decode cX7_palindromeCount 21 = .ok (.iconst 3, 1) := by decide +kernel
theorem dX7_palindromeCount_22 : decode cX7_palindromeCount 22 = .ok (.iaload, 1) := by decide +kernel
theorem dX7_palindromeCount_23 : decode cX7_palindromeCount 23 = .ok (.iload_n 2, 1) := by decide +kernel
theorem dX7_palindromeCount_24 : decode cX7_palindromeCount 24 = .ok (.isub, 1) := by decide +kernel
theorem dX7_palindromeCount_25 : decode cX7_palindromeCount 25 = .ok (.if_icmp .gt 35, 3) := by decide +kernel
theorem dX7_palindromeCount_28 : decode cX7_palindromeCount 28 = .ok (.iload_n 1, 1) := by decide +kernel
theorem dX7_palindromeCount_29 : decode cX7_palindromeCount 29 = .ok (.aload_n 0, 1) := by decide +kernel
theorem dX7_palindromeCount_30 : decode cX7_palindromeCount 30 = .ok (.iload_n 3, 1) := by decide +kernel
theorem dX7_palindromeCount_31 : decode cX7_palindromeCount 31 = .ok (.iload_n 2, 1) := by decide +kernel
theorem dX7_palindromeCount_32 : decode cX7_palindromeCount 32 = .ok (.invokevirtual 86, 3) := by decide +kernel
theorem dX7_palindromeCount_35 : decode cX7_palindromeCount 35 = .ok (.ifCond .eq 16, 3) := by decide +kernel
theorem dX7_palindromeCount_38 : decode cX7_palindromeCount 38 = .ok (.aload_n 0, 1) := by decide +kernel
theorem dX7_palindromeCount_39 : decode cX7_palindromeCount 39 = .ok (.iload_n 3, 1) := by decide +kernel
theorem dX7_palindromeCount_40 : decode cX7_palindromeCount 40 = .ok (.iload_n 2, 1) := by decide +kernel
theorem dX7_palindromeCount_41 : decode cX7_palindromeCount 41 = .ok (.invokevirtual 100, 3) := by decide +kernel
theorem dX7_palindromeCount_44 : decode cX7_palindromeCount 44 = .ok (.ifCond .eq 7, 3) := by decide +kernel
theorem dX7_palindromeCount_47 : decode cX7_palindromeCount 47 = .ok (.iconst 1, 1) := by decide +kernel
theorem dX7_palindromeCount_48 : decode cX7_palindromeCount 48 = .ok (.goto 4, 3) := by decide +kernel
theorem dX7_palindromeCount_51 : decode cX7_palindromeCount 51 = .ok (.iconst 0, 1) := by decide +kernel
theorem dX7_palindromeCount_52 : decode cX7_palindromeCount 52 = .ok (.iadd, 1) := by decide +kernel
theorem dX7_palindromeCount_53 : decode cX7_palindromeCount 53 = .ok (.istore_n 1, 1) := by decide +kernel
theorem dX7_palindromeCount_54 : decode cX7_palindromeCount 54 = .ok (.iinc 3 1, 3) := by decide +kernel
theorem dX7_palindromeCount_57 : decode cX7_palindromeCount 57 = .ok (.goto (-41), 3) := by decide +kernel
theorem dX7_palindromeCount_60 : decode cX7_palindromeCount 60 = .ok (.iinc 2 1, 3) := by decide +kernel
theorem dX7_palindromeCount_63 : decode cX7_palindromeCount 63 = .ok (.goto (-59), 3) := by decide +kernel
theorem dX7_palindromeCount_66 : decode cX7_palindromeCount 66 = .ok (.iload_n 1, 1) := by decide +kernel
theorem dX7_palindromeCount_67 : decode cX7_palindromeCount 67 = .ok (.ireturn, 1) := by decide +kernel
set_option maxRecDepth 20000 in
theorem ggX7_longestPalindromicPrefix_X7_isPalindrome : GoodIn wsX7_longestPalindromicPrefix wsX7_isPalindrome := goodIn_r _ [6, 1, 7, 8, 9, 10, 11, 12, 13, 14, 15, 16, 17] (by decide +kernel) (by decide +kernel)
set_option maxRecDepth 20000 in
theorem gX7_longestPalindromicPrefix_X7_isPalindrome : GoodIn wsX7_longestPalindromicPrefix (wsV RX7 86 RX7 yX7_isPalindrome wsX7_isPalindrome) := goodIn_app (goodIn_of _ (by decide +kernel)) ggX7_longestPalindromicPrefix_X7_isPalindrome
theorem dX7_longestPalindromicPrefix_0 : decode cX7_longestPalindromicPrefix 0 = .ok (.aload_n 0, 1) := by decide +kernel
theorem dX7_longestPalindromicPrefix_1 : decode cX7_longestPalindromicPrefix 1 = .ok (.getfield 7, 3) := by decide +kernel
theorem dX7_longestPalindromicPrefix_4 : decode cX7_longestPalindromicPrefix 4 = .ok (.iconst 3, 1) := by decide +kernel
theorem dX7_longestPalindromicPrefix_5 : decode cX7_longestPalindromicPrefix 5 = .ok (.iaload, 1) := by decide +kernel
theorem dX7_longestPalindromicPrefix_6 : decode cX7_longestPalindromicPrefix 6 = .ok (.istore_n 1, 1) := by decide +kernel
theorem dX7_longestPalindromicPrefix_7 : decode cX7_longestPalindromicPrefix 7 = .ok (.aload_n 0, 1) := by decide +kernel
theorem dX7_longestPalindromicPrefix_8 : decode cX7_longestPalindromicPrefix 8 = .ok (.iconst 0, 1) := by decide +kernel
theorem dX7_longestPalindromicPrefix_9 : decode cX7_longestPalindromicPrefix 9 = .ok (.iload_n 1, 1) := by decide +kernel
theorem dX7_longestPalindromicPrefix_10 : decode cX7_longestPalindromicPrefix 10 = .ok (.invokevirtual 86, 3) := by decide +kernel
theorem dX7_longestPalindromicPrefix_13 : decode cX7_longestPalindromicPrefix 13 = .ok (.ifCond .ne 9, 3) := by decide +kernel
theorem dX7_longestPalindromicPrefix_16 : decode cX7_longestPalindromicPrefix 16 = .ok (.iinc 1 (-1), 3) := by decide +kernel
theorem dX7_longestPalindromicPrefix_19 : decode cX7_longestPalindromicPrefix 19 = .ok (.goto (-12), 3) := by decide +kernel
theorem dX7_longestPalindromicPrefix_22 : decode cX7_longestPalindromicPrefix 22 = .ok (.iload_n 1, 1) := by decide +kernel
theorem dX7_longestPalindromicPrefix_23 : decode cX7_longestPalindromicPrefix 23 = .ok (.ireturn, 1) := by decide +kernel
theorem dX7_isPeriod_0 : decode cX7_isPeriod 0 = .ok (.iconst 0, 1) := by decide +kernel
theorem dX7_isPeriod_1 : decode cX7_isPeriod 1 = .ok (.istore_n 2, 1) := by decide +kernel
theorem dX7_isPeriod_2 : decode cX7_isPeriod 2 = .ok (.iload_n 2, 1) := by decide +kernel
theorem dX7_isPeriod_3 : decode cX7_isPeriod 3 = .ok (.iload_n 1, 1) := by decide +kernel
theorem dX7_isPeriod_4 : decode cX7_isPeriod 4 = .ok (.iadd, 1) := by decide +kernel
theorem dX7_isPeriod_5 : decode cX7_isPeriod 5 = .ok (.aload_n 0, 1) := by decide +kernel
theorem dX7_isPeriod_6 : decode cX7_isPeriod 6 = .ok (.getfield 7, 3) := by decide +kernel
theorem dX7_isPeriod_9 : decode cX7_isPeriod 9 = .ok (.iconst 3, 1) := by decide +kernel
theorem dX7_isPeriod_10 : decode cX7_isPeriod 10 = .ok (.iaload, 1) := by decide +kernel
theorem dX7_isPeriod_11 : decode cX7_isPeriod 11 = .ok (.if_icmp .ge 32, 3) := by decide +kernel
theorem dX7_isPeriod_14 : decode cX7_isPeriod 14 = .ok (.aload_n 0, 1) := by decide +kernel
theorem dX7_isPeriod_15 : decode cX7_isPeriod 15 = .ok (.getfield 7, 3) := by decide +kernel
theorem dX7_isPeriod_18 : decode cX7_isPeriod 18 = .ok (.iconst 4, 1) := by decide +kernel
theorem dX7_isPeriod_19 : decode cX7_isPeriod 19 = .ok (.iload_n 2, 1) := by decide +kernel
theorem dX7_isPeriod_20 : decode cX7_isPeriod 20 = .ok (.iadd, 1) := by decide +kernel
theorem dX7_isPeriod_21 : decode cX7_isPeriod 21 = .ok (.iaload, 1) := by decide +kernel
theorem dX7_isPeriod_22 : decode cX7_isPeriod 22 = .ok (.aload_n 0, 1) := by decide +kernel
theorem dX7_isPeriod_23 : decode cX7_isPeriod 23 = .ok (.getfield 7, 3) := by decide +kernel
theorem dX7_isPeriod_26 : decode cX7_isPeriod 26 = .ok (.iconst 4, 1) := by decide +kernel
theorem dX7_isPeriod_27 : decode cX7_isPeriod 27 = .ok (.iload_n 2, 1) := by decide +kernel
theorem dX7_isPeriod_28 : decode cX7_isPeriod 28 = .ok (.iadd, 1) := by decide +kernel
theorem dX7_isPeriod_29 : decode cX7_isPeriod 29 = .ok (.iload_n 1, 1) := by decide +kernel
theorem dX7_isPeriod_30 : decode cX7_isPeriod 30 = .ok (.iadd, 1) := by decide +kernel
theorem dX7_isPeriod_31 : decode cX7_isPeriod 31 = .ok (.iaload, 1) := by decide +kernel
theorem dX7_isPeriod_32 : decode cX7_isPeriod 32 = .ok (.if_icmp .eq 5, 3) := by decide +kernel
theorem dX7_isPeriod_35 : decode cX7_isPeriod 35 = .ok (.iconst 0, 1) := by decide +kernel
theorem dX7_isPeriod_36 : decode cX7_isPeriod 36 = .ok (.ireturn, 1) := by decide +kernel
theorem dX7_isPeriod_37 : decode cX7_isPeriod 37 = .ok (.iinc 2 1, 3) := by decide +kernel
theorem dX7_isPeriod_40 : decode cX7_isPeriod 40 = .ok (.goto (-38), 3) := by decide +kernel
theorem dX7_isPeriod_43 : decode cX7_isPeriod 43 = .ok (.iconst 1, 1) := by decide +kernel
theorem dX7_isPeriod_44 : decode cX7_isPeriod 44 = .ok (.ireturn, 1) := by decide +kernel
set_option maxRecDepth 20000 in
theorem ggX7_leastPeriod_X7_isPeriod : GoodIn wsX7_leastPeriod wsX7_isPeriod := goodIn_r _ [6, 1, 7, 8, 9, 10, 11, 12, 13, 14, 15, 16, 17] (by decide +kernel) (by decide +kernel)
set_option maxRecDepth 20000 in
theorem gX7_leastPeriod_X7_isPeriod : GoodIn wsX7_leastPeriod (wsV RX7 106 RX7 yX7_isPeriod wsX7_isPeriod) := goodIn_app (goodIn_of _ (by decide +kernel)) ggX7_leastPeriod_X7_isPeriod
theorem dX7_leastPeriod_0 : decode cX7_leastPeriod 0 = .ok (.iconst 1, 1) := by decide +kernel
theorem dX7_leastPeriod_1 : decode cX7_leastPeriod 1 = .ok (.istore_n 1, 1) := by decide +kernel
theorem dX7_leastPeriod_2 : decode cX7_leastPeriod 2 = .ok (.iload_n 1, 1) := by decide +kernel
theorem dX7_leastPeriod_3 : decode cX7_leastPeriod 3 = .ok (.aload_n 0, 1) := by decide +kernel
theorem dX7_leastPeriod_4 : decode cX7_leastPeriod 4 = .ok (.getfield 7, 3) := by decide +kernel
theorem dX7_leastPeriod_7 : decode cX7_leastPeriod 7 = .ok (.iconst 3, 1) := by decide +kernel
theorem dX7_leastPeriod_8 : decode cX7_leastPeriod 8 = .ok (.iaload, 1) := by decide +kernel
theorem dX7_leastPeriod_9 : decode cX7_leastPeriod 9 = .ok (.if_icmp .gt 19, 3) := by decide +kernel
theorem dX7_leastPeriod_12 : decode cX7_leastPeriod 12 = .ok (.aload_n 0, 1) := by decide +kernel
theorem dX7_leastPeriod_13 : decode cX7_leastPeriod 13 = .ok (.iload_n 1, 1) := by decide +kernel
theorem dX7_leastPeriod_14 : decode cX7_leastPeriod 14 = .ok (.invokevirtual 106, 3) := by decide +kernel
theorem dX7_leastPeriod_17 : decode cX7_leastPeriod 17 = .ok (.ifCond .eq 5, 3) := by decide +kernel
theorem dX7_leastPeriod_20 : decode cX7_leastPeriod 20 = .ok (.iload_n 1, 1) := by decide +kernel
theorem dX7_leastPeriod_21 : decode cX7_leastPeriod 21 = .ok (.ireturn, 1) := by decide +kernel
theorem dX7_leastPeriod_22 : decode cX7_leastPeriod 22 = .ok (.iinc 1 1, 3) := by decide +kernel
theorem dX7_leastPeriod_25 : decode cX7_leastPeriod 25 = .ok (.goto (-23), 3) := by decide +kernel
theorem dX7_leastPeriod_28 : decode cX7_leastPeriod 28 = .ok (.bipush (-3), 2) := by decide +kernel
theorem dX7_leastPeriod_30 : decode cX7_leastPeriod 30 = .ok (.ireturn, 1) := by decide +kernel
set_option maxRecDepth 20000 in
theorem ggX7_isCentral_X7_divisor : GoodIn wsX7_isCentral wsX7_divisor := goodIn_r _ [5] (by decide +kernel) (by decide +kernel)
set_option maxRecDepth 20000 in
theorem gX7_isCentral_X7_divisor : GoodIn wsX7_isCentral (va_wsS RX7 47 yX7_divisor wsX7_divisor) := goodIn_app (goodIn_of _ (by decide +kernel)) ggX7_isCentral_X7_divisor
set_option maxRecDepth 20000 in
theorem ggX7_isCentral_X7_isPeriod : GoodIn wsX7_isCentral wsX7_isPeriod := goodIn_r _ [9, 1, 10, 11, 12, 13, 14, 15, 16, 17, 18, 19, 20] (by decide +kernel) (by decide +kernel)
set_option maxRecDepth 20000 in
theorem gX7_isCentral_X7_isPeriod : GoodIn wsX7_isCentral (wsV RX7 106 RX7 yX7_isPeriod wsX7_isPeriod) := goodIn_app (goodIn_of _ (by decide +kernel)) ggX7_isCentral_X7_isPeriod
theorem dX7_isCentral_0 : decode cX7_isCentral 0 = .ok (.aload_n 0, 1) := by decide +kernel
theorem dX7_isCentral_1 : decode cX7_isCentral 1 = .ok (.getfield 7, 3) := by decide +kernel
theorem dX7_isCentral_4 : decode cX7_isCentral 4 = .ok (.iconst 3, 1) := by decide +kernel
theorem dX7_isCentral_5 : decode cX7_isCentral 5 = .ok (.iaload, 1) := by decide +kernel
theorem dX7_isCentral_6 : decode cX7_isCentral 6 = .ok (.istore_n 1, 1) := by decide +kernel
theorem dX7_isCentral_7 : decode cX7_isCentral 7 = .ok (.iconst 1, 1) := by decide +kernel
theorem dX7_isCentral_8 : decode cX7_isCentral 8 = .ok (.istore_n 2, 1) := by decide +kernel
theorem dX7_isCentral_9 : decode cX7_isCentral 9 = .ok (.iload_n 2, 1) := by decide +kernel
theorem dX7_isCentral_10 : decode cX7_isCentral 10 = .ok (.iload_n 1, 1) := by decide +kernel
theorem dX7_isCentral_11 : decode cX7_isCentral 11 = .ok (.iconst 1, 1) := by decide +kernel
theorem dX7_isCentral_12 : decode cX7_isCentral 12 = .ok (.iadd, 1) := by decide +kernel
theorem dX7_isCentral_13 : decode cX7_isCentral 13 = .ok (.if_icmp .gt 42, 3) := by decide +kernel
theorem dX7_isCentral_16 : decode cX7_isCentral 16 = .ok (.iload_n 1, 1) := by decide +kernel
theorem dX7_isCentral_17 : decode cX7_isCentral 17 = .ok (.iconst 2, 1) := by decide +kernel
theorem dX7_isCentral_18 : decode cX7_isCentral 18 = .ok (.iadd, 1) := by decide +kernel
theorem dX7_isCentral_19 : decode cX7_isCentral 19 = .ok (.iload_n 2, 1) := by decide +kernel
theorem dX7_isCentral_20 : decode cX7_isCentral 20 = .ok (.isub, 1) := by decide +kernel
theorem dX7_isCentral_21 : decode cX7_isCentral 21 = .ok (.istore_n 3, 1) := by decide +kernel
theorem dX7_isCentral_22 : decode cX7_isCentral 22 = .ok (.iload_n 2, 1) := by decide +kernel
theorem dX7_isCentral_23 : decode cX7_isCentral 23 = .ok (.iload_n 3, 1) := by decide +kernel
theorem dX7_isCentral_24 : decode cX7_isCentral 24 = .ok (.invokestatic 47, 3) := by decide +kernel
theorem dX7_isCentral_27 : decode cX7_isCentral 27 = .ok (.iconst 1, 1) := by decide +kernel
theorem dX7_isCentral_28 : decode cX7_isCentral 28 = .ok (.if_icmp .ne 21, 3) := by decide +kernel
theorem dX7_isCentral_31 : decode cX7_isCentral 31 = .ok (.aload_n 0, 1) := by decide +kernel
theorem dX7_isCentral_32 : decode cX7_isCentral 32 = .ok (.iload_n 2, 1) := by decide +kernel
theorem dX7_isCentral_33 : decode cX7_isCentral 33 = .ok (.invokevirtual 106, 3) := by decide +kernel
theorem dX7_isCentral_36 : decode cX7_isCentral 36 = .ok (.ifCond .eq 13, 3) := by decide +kernel
theorem dX7_isCentral_39 : decode cX7_isCentral 39 = .ok (.aload_n 0, 1) := by decide +kernel
theorem dX7_isCentral_40 : decode cX7_isCentral 40 = .ok (.iload_n 3, 1) := by decide +kernel
theorem dX7_isCentral_41 : decode cX7_isCentral 41 = .ok (.invokevirtual 106, 3) := by decide +kernel
theorem dX7_isCentral_44 : decode cX7_isCentral 44 = .ok (.ifCond .eq 5, 3) := by decide +kernel
theorem dX7_isCentral_47 : decode cX7_isCentral 47 = .ok (.iconst 1, 1) := by decide +kernel
theorem dX7_isCentral_48 : decode cX7_isCentral 48 = .ok (.ireturn, 1) := by decide +kernel
theorem dX7_isCentral_49 : decode cX7_isCentral 49 = .ok (.iinc 2 1, 3) := by decide +kernel
theorem dX7_isCentral_52 : decode cX7_isCentral 52 = .ok (.goto (-43), 3) := by decide +kernel
theorem dX7_isCentral_55 : decode cX7_isCentral 55 = .ok (.iconst 0, 1) := by decide +kernel
theorem dX7_isCentral_56 : decode cX7_isCentral 56 = .ok (.ireturn, 1) := by decide +kernel
theorem dX7_begins_0 : decode cX7_begins 0 = .ok (.iconst 0, 1) := by decide +kernel
theorem dX7_begins_1 : decode cX7_begins 1 = .ok (.istore 4, 2) := by decide +kernel
theorem dX7_begins_3 : decode cX7_begins 3 = .ok (.iload 4, 2) := by decide +kernel
theorem dX7_begins_5 : decode cX7_begins 5 = .ok (.aload_n 0, 1) := by decide +kernel
theorem dX7_begins_6 : decode cX7_begins 6 = .ok (.getfield 7, 3) := by decide +kernel
theorem dX7_begins_9 : decode cX7_begins 9 = .ok (.iconst 3, 1) := by decide +kernel
theorem dX7_begins_10 : decode cX7_begins 10 = .ok (.iaload, 1) := by decide +kernel
theorem dX7_begins_11 : decode cX7_begins 11 = .ok (.if_icmp .ge 42, 3) := by decide +kernel
theorem dX7_begins_14 : decode cX7_begins 14 = .ok (.iload 4, 2) := by decide +kernel
theorem dX7_begins_16 : decode cX7_begins 16 = .ok (.iconst 1, 1) := by decide +kernel
theorem dX7_begins_17 : decode cX7_begins 17 = .ok (.iadd, 1) := by decide +kernel
theorem dX7_begins_18 : decode cX7_begins 18 = .ok (.iload_n 1, 1) := by decide +kernel
theorem dX7_begins_19 : decode cX7_begins 19 = .ok (.imul, 1) := by decide +kernel
theorem dX7_begins_20 : decode cX7_begins 20 = .ok (.iload_n 3, 1) := by decide +kernel
theorem dX7_begins_21 : decode cX7_begins 21 = .ok (.iadd, 1) := by decide +kernel
theorem dX7_begins_22 : decode cX7_begins 22 = .ok (.iload_n 2, 1) := by decide +kernel
theorem dX7_begins_23 : decode cX7_begins 23 = .ok (.idiv, 1) := by decide +kernel
theorem dX7_begins_24 : decode cX7_begins 24 = .ok (.iload 4, 2) := by decide +kernel
theorem dX7_begins_26 : decode cX7_begins 26 = .ok (.iload_n 1, 1) := by decide +kernel
theorem dX7_begins_27 : decode cX7_begins 27 = .ok (.imul, 1) := by decide +kernel
theorem dX7_begins_28 : decode cX7_begins 28 = .ok (.iload_n 3, 1) := by decide +kernel
theorem dX7_begins_29 : decode cX7_begins 29 = .ok (.iadd, 1) := by decide +kernel
theorem dX7_begins_30 : decode cX7_begins 30 = .ok (.iload_n 2, 1) := by decide +kernel
theorem dX7_begins_31 : decode cX7_begins 31 = .ok (.idiv, 1) := by decide +kernel
theorem dX7_begins_32 : decode cX7_begins 32 = .ok (.isub, 1) := by decide +kernel
theorem dX7_begins_33 : decode cX7_begins 33 = .ok (.aload_n 0, 1) := by decide +kernel
theorem dX7_begins_34 : decode cX7_begins 34 = .ok (.getfield 7, 3) := by decide +kernel
theorem dX7_begins_37 : decode cX7_begins 37 = .ok (.iconst 4, 1) := by decide +kernel
theorem dX7_begins_38 : decode cX7_begins 38 = .ok (.iload 4, 2) := by decide +kernel
theorem dX7_begins_40 : decode cX7_begins 40 = .ok (.iadd, 1) := by decide +kernel
theorem dX7_begins_41 : decode cX7_begins 41 = .ok (.iaload, 1) := by decide +kernel
theorem dX7_begins_42 : decode cX7_begins 42 = .ok (.if_icmp .eq 5, 3) := by decide +kernel
theorem dX7_begins_45 : decode cX7_begins 45 = .ok (.iconst 0, 1) := by decide +kernel
theorem dX7_begins_46 : decode cX7_begins 46 = .ok (.ireturn, 1) := by decide +kernel
theorem dX7_begins_47 : decode cX7_begins 47 = .ok (.iinc 4 1, 3) := by decide +kernel
theorem dX7_begins_50 : decode cX7_begins 50 = .ok (.goto (-47), 3) := by decide +kernel
theorem dX7_begins_53 : decode cX7_begins 53 = .ok (.iconst 1, 1) := by decide +kernel
theorem dX7_begins_54 : decode cX7_begins 54 = .ok (.ireturn, 1) := by decide +kernel
set_option maxRecDepth 20000 in
theorem ggX7_simplest_X7_divisor : GoodIn wsX7_simplest wsX7_divisor := goodIn_r _ [4] (by decide +kernel) (by decide +kernel)
set_option maxRecDepth 20000 in
theorem gX7_simplest_X7_divisor : GoodIn wsX7_simplest (va_wsS RX7 47 yX7_divisor wsX7_divisor) := goodIn_app (goodIn_of _ (by decide +kernel)) ggX7_simplest_X7_divisor
set_option maxRecDepth 20000 in
theorem ggX7_simplest_X7_begins : GoodIn wsX7_simplest wsX7_begins := goodIn_r _ [8, 9, 10, 11, 12, 13, 14, 15, 16, 17, 18, 19, 20] (by decide +kernel) (by decide +kernel)
set_option maxRecDepth 20000 in
theorem gX7_simplest_X7_begins : GoodIn wsX7_simplest (wsV RX7 109 RX7 yX7_begins wsX7_begins) := goodIn_app (goodIn_of _ (by decide +kernel)) ggX7_simplest_X7_begins
theorem dX7_simplest_0 : decode cX7_simplest 0 = .ok (.iconst 1, 1) := by decide +kernel
theorem dX7_simplest_1 : decode cX7_simplest 1 = .ok (.istore_n 2, 1) := by decide +kernel
theorem dX7_simplest_2 : decode cX7_simplest 2 = .ok (.iload_n 2, 1) := by decide +kernel
theorem dX7_simplest_3 : decode cX7_simplest 3 = .ok (.bipush 62, 2) := by decide +kernel
theorem dX7_simplest_5 : decode cX7_simplest 5 = .ok (.if_icmp .ge 77, 3) := by decide +kernel
theorem dX7_simplest_8 : decode cX7_simplest 8 = .ok (.iconst 0, 1) := by decide +kernel
theorem dX7_simplest_9 : decode cX7_simplest 9 = .ok (.istore_n 3, 1) := by decide +kernel
theorem dX7_simplest_10 : decode cX7_simplest 10 = .ok (.iload_n 3, 1) := by decide +kernel
theorem dX7_simplest_11 : decode cX7_simplest 11 = .ok (.iload_n 2, 1) := by decide +kernel
theorem dX7_simplest_12 : decode cX7_simplest 12 = .ok (.if_icmp .gt 64, 3) := by decide +kernel
theorem dX7_simplest_15 : decode cX7_simplest 15 = .ok (.iconst 0, 1) := by decide +kernel
theorem dX7_simplest_16 : decode cX7_simplest 16 = .ok (.istore 4, 2) := by decide +kernel
theorem dX7_simplest_18 : decode cX7_simplest 18 = .ok (.iload 4, 2) := by decide +kernel
theorem dX7_simplest_20 : decode cX7_simplest 20 = .ok (.iload_n 2, 1) := by decide +kernel
theorem dX7_simplest_21 : decode cX7_simplest 21 = .ok (.if_icmp .ge 49, 3) := by decide +kernel
theorem dX7_simplest_24 : decode cX7_simplest 24 = .ok (.iload_n 3, 1) := by decide +kernel
theorem dX7_simplest_25 : decode cX7_simplest 25 = .ok (.iload_n 2, 1) := by decide +kernel
theorem dX7_simplest_26 : decode cX7_simplest 26 = .ok (.invokestatic 47, 3) := by decide +kernel
theorem dX7_simplest_29 : decode cX7_simplest 29 = .ok (.iconst 1, 1) := by decide +kernel
theorem dX7_simplest_30 : decode cX7_simplest 30 = .ok (.if_icmp .ne 40, 3) := by decide +kernel
theorem dX7_simplest_33 : decode cX7_simplest 33 = .ok (.aload_n 0, 1) := by decide +kernel
theorem dX7_simplest_34 : decode cX7_simplest 34 = .ok (.iload_n 3, 1) := by decide +kernel
theorem dX7_simplest_35 : decode cX7_simplest 35 = .ok (.iload_n 2, 1) := by decide +kernel
theorem dX7_simplest_36 : decode cX7_simplest 36 = .ok (.iload 4, 2) := by decide +kernel
theorem dX7_simplest_38 : decode cX7_simplest 38 = .ok (.invokevirtual 109, 3) := by decide +kernel
theorem dX7_simplest_41 : decode cX7_simplest 41 = .ok (.ifCond .eq 23, 3) := by decide +kernel
theorem dX7_simplest_44 : decode cX7_simplest 44 = .ok (.iload_n 1, 1) := by decide +kernel
theorem dX7_simplest_45 : decode cX7_simplest 45 = .ok (.ifCond .ne 7, 3) := by decide +kernel
theorem dX7_simplest_48 : decode cX7_simplest 48 = .ok (.iload_n 3, 1) := by decide +kernel
theorem dX7_simplest_49 : decode cX7_simplest 49 = .ok (.goto 14, 3) := by decide +kernel
theorem dX7_simplest_52 : decode cX7_simplest 52 = .ok (.iload_n 1, 1) := by decide +kernel
theorem dX7_simplest_53 : decode cX7_simplest 53 = .ok (.iconst 1, 1) := by decide +kernel
theorem dX7_simplest_54 : decode cX7_simplest 54 = .ok (.if_icmp .ne 7, 3) := by decide +kernel
theorem dX7_simplest_57 : decode cX7_simplest 57 = .ok (.iload_n 2, 1) := by decide +kernel
theorem dX7_simplest_58 : decode cX7_simplest 58 = .ok (.goto 5, 3) := by decide +kernel
theorem dX7_simplest_61 : decode cX7_simplest 61 = .ok (.iload 4, 2) := by decide +kernel
theorem dX7_simplest_63 : decode cX7_simplest 63 = .ok (.ireturn, 1) := by decide +kernel
theorem dX7_simplest_64 : decode cX7_simplest 64 = .ok (.iinc 4 1, 3) := by decide +kernel
theorem dX7_simplest_67 : decode cX7_simplest 67 = .ok (.goto (-49), 3) := by decide +kernel
theorem dX7_simplest_70 : decode cX7_simplest 70 = .ok (.iinc 3 1, 3) := by decide +kernel
theorem dX7_simplest_73 : decode cX7_simplest 73 = .ok (.goto (-63), 3) := by decide +kernel
theorem dX7_simplest_76 : decode cX7_simplest 76 = .ok (.iinc 2 1, 3) := by decide +kernel
theorem dX7_simplest_79 : decode cX7_simplest 79 = .ok (.goto (-77), 3) := by decide +kernel
theorem dX7_simplest_82 : decode cX7_simplest 82 = .ok (.bipush (-3), 2) := by decide +kernel
theorem dX7_simplest_84 : decode cX7_simplest 84 = .ok (.ireturn, 1) := by decide +kernel
set_option maxRecDepth 20000 in
theorem ggX7_simplestSlope_X7_in : GoodIn wsX7_simplestSlope wsX7_in := goodIn_r _ [4] (by decide +kernel) (by decide +kernel)
set_option maxRecDepth 20000 in
theorem gX7_simplestSlope_X7_in : GoodIn wsX7_simplestSlope (va_wsS RX7 43 yX7_in wsX7_in) := goodIn_app (goodIn_of _ (by decide +kernel)) ggX7_simplestSlope_X7_in
set_option maxRecDepth 20000 in
theorem ggX7_simplestSlope_X7_simplest : GoodIn wsX7_simplestSlope wsX7_simplest := goodIn_r _ [8, 9, 10, 3, 11, 12, 13, 14, 15, 16, 17, 18, 19, 20, 21, 22, 23, 24, 25, 26, 27] (by decide +kernel) (by decide +kernel)
set_option maxRecDepth 20000 in
theorem gX7_simplestSlope_X7_simplest : GoodIn wsX7_simplestSlope (wsV RX7 112 RX7 yX7_simplest wsX7_simplest) := goodIn_app (goodIn_of _ (by decide +kernel)) ggX7_simplestSlope_X7_simplest
theorem dX7_simplestSlope_0 : decode cX7_simplestSlope 0 = .ok (.iload_n 1, 1) := by decide +kernel
theorem dX7_simplestSlope_1 : decode cX7_simplestSlope 1 = .ok (.iconst 0, 1) := by decide +kernel
theorem dX7_simplestSlope_2 : decode cX7_simplestSlope 2 = .ok (.iconst 2, 1) := by decide +kernel
theorem dX7_simplestSlope_3 : decode cX7_simplestSlope 3 = .ok (.invokestatic 43, 3) := by decide +kernel
theorem dX7_simplestSlope_6 : decode cX7_simplestSlope 6 = .ok (.ifCond .eq 11, 3) := by decide +kernel
theorem dX7_simplestSlope_9 : decode cX7_simplestSlope 9 = .ok (.aload_n 0, 1) := by decide +kernel
theorem dX7_simplestSlope_10 : decode cX7_simplestSlope 10 = .ok (.iload_n 1, 1) := by decide +kernel
theorem dX7_simplestSlope_11 : decode cX7_simplestSlope 11 = .ok (.invokevirtual 112, 3) := by decide +kernel
theorem dX7_simplestSlope_14 : decode cX7_simplestSlope 14 = .ok (.goto 4, 3) := by decide +kernel
theorem dX7_simplestSlope_17 : decode cX7_simplestSlope 17 = .ok (.iconst (-1), 1) := by decide +kernel
theorem dX7_simplestSlope_18 : decode cX7_simplestSlope 18 = .ok (.ireturn, 1) := by decide +kernel
theorem dX7_layPoints_0 : decode cX7_layPoints 0 = .ok (.iconst 0, 1) := by decide +kernel
theorem dX7_layPoints_1 : decode cX7_layPoints 1 = .ok (.istore_n 2, 1) := by decide +kernel
theorem dX7_layPoints_2 : decode cX7_layPoints 2 = .ok (.iload_n 2, 1) := by decide +kernel
theorem dX7_layPoints_3 : decode cX7_layPoints 3 = .ok (.aload_n 0, 1) := by decide +kernel
theorem dX7_layPoints_4 : decode cX7_layPoints 4 = .ok (.getfield 7, 3) := by decide +kernel
theorem dX7_layPoints_7 : decode cX7_layPoints 7 = .ok (.iconst 1, 1) := by decide +kernel
theorem dX7_layPoints_8 : decode cX7_layPoints 8 = .ok (.iaload, 1) := by decide +kernel
theorem dX7_layPoints_9 : decode cX7_layPoints 9 = .ok (.if_icmp .ge 16, 3) := by decide +kernel
theorem dX7_layPoints_12 : decode cX7_layPoints 12 = .ok (.aload_n 0, 1) := by decide +kernel
theorem dX7_layPoints_13 : decode cX7_layPoints 13 = .ok (.getfield 28, 3) := by decide +kernel
theorem dX7_layPoints_16 : decode cX7_layPoints 16 = .ok (.iload_n 2, 1) := by decide +kernel
theorem dX7_layPoints_17 : decode cX7_layPoints 17 = .ok (.iconst 0, 1) := by decide +kernel
theorem dX7_layPoints_18 : decode cX7_layPoints 18 = .ok (.bastore, 1) := by decide +kernel
theorem dX7_layPoints_19 : decode cX7_layPoints 19 = .ok (.iinc 2 1, 3) := by decide +kernel
theorem dX7_layPoints_22 : decode cX7_layPoints 22 = .ok (.goto (-20), 3) := by decide +kernel
theorem dX7_layPoints_25 : decode cX7_layPoints 25 = .ok (.iconst 0, 1) := by decide +kernel
theorem dX7_layPoints_26 : decode cX7_layPoints 26 = .ok (.istore_n 2, 1) := by decide +kernel
theorem dX7_layPoints_27 : decode cX7_layPoints 27 = .ok (.iconst 0, 1) := by decide +kernel
theorem dX7_layPoints_28 : decode cX7_layPoints 28 = .ok (.istore_n 3, 1) := by decide +kernel
theorem dX7_layPoints_29 : decode cX7_layPoints 29 = .ok (.iload_n 3, 1) := by decide +kernel
theorem dX7_layPoints_30 : decode cX7_layPoints 30 = .ok (.iload_n 1, 1) := by decide +kernel
theorem dX7_layPoints_31 : decode cX7_layPoints 31 = .ok (.if_icmp .ge 32, 3) := by decide +kernel
theorem dX7_layPoints_34 : decode cX7_layPoints 34 = .ok (.aload_n 0, 1) := by decide +kernel
theorem dX7_layPoints_35 : decode cX7_layPoints 35 = .ok (.getfield 28, 3) := by decide +kernel
theorem dX7_layPoints_38 : decode cX7_layPoints 38 = .ok (.iload_n 2, 1) := by decide +kernel
theorem dX7_layPoints_39 : decode cX7_layPoints 39 = .ok (.iconst 1, 1) := by decide +kernel
theorem dX7_layPoints_40 : decode cX7_layPoints 40 = .ok (.bastore, 1) := by decide +kernel
theorem dX7_layPoints_41 : decode cX7_layPoints 41 = .ok (.iload_n 2, 1) := by decide +kernel
theorem dX7_layPoints_42 : decode cX7_layPoints 42 = .ok (.aload_n 0, 1) := by decide +kernel
theorem dX7_layPoints_43 : decode cX7_layPoints 43 = .ok (.getfield 7, 3) := by decide +kernel
theorem dX7_layPoints_46 : decode cX7_layPoints 46 = .ok (.iconst 0, 1) := by decide +kernel
theorem dX7_layPoints_47 : decode cX7_layPoints 47 = .ok (.iaload, 1) := by decide +kernel
theorem dX7_layPoints_48 : decode cX7_layPoints 48 = .ok (.iadd, 1) := by decide +kernel
theorem dX7_layPoints_49 : decode cX7_layPoints 49 = .ok (.aload_n 0, 1) := by decide +kernel
theorem dX7_layPoints_50 : decode cX7_layPoints 50 = .ok (.getfield 7, 3) := by decide +kernel
theorem dX7_layPoints_53 : decode cX7_layPoints 53 = .ok (.iconst 1, 1) := by decide +kernel
theorem dX7_layPoints_54 : decode cX7_layPoints 54 = .ok (.iaload, 1) := by decide +kernel
theorem dX7_layPoints_55 : decode cX7_layPoints 55 = .ok (.irem, 1) := by decide +kernel
theorem dX7_layPoints_56 : decode cX7_layPoints 56 = .ok (.istore_n 2, 1) := by decide +kernel
theorem dX7_layPoints_57 : decode cX7_layPoints 57 = .ok (.iinc 3 1, 3) := by decide +kernel
theorem dX7_layPoints_60 : decode cX7_layPoints 60 = .ok (.goto (-31), 3) := by decide +kernel
theorem dX7_layPoints_63 : decode cX7_layPoints 63 = .ok (.return_, 1) := by decide +kernel
theorem dX7_gapsWith_0 : decode cX7_gapsWith 0 = .ok (.iconst 0, 1) := by decide +kernel
theorem dX7_gapsWith_1 : decode cX7_gapsWith 1 = .ok (.istore_n 2, 1) := by decide +kernel
theorem dX7_gapsWith_2 : decode cX7_gapsWith 2 = .ok (.iconst 0, 1) := by decide +kernel
theorem dX7_gapsWith_3 : decode cX7_gapsWith 3 = .ok (.istore_n 3, 1) := by decide +kernel
theorem dX7_gapsWith_4 : decode cX7_gapsWith 4 = .ok (.iload_n 3, 1) := by decide +kernel
theorem dX7_gapsWith_5 : decode cX7_gapsWith 5 = .ok (.aload_n 0, 1) := by decide +kernel
theorem dX7_gapsWith_6 : decode cX7_gapsWith 6 = .ok (.getfield 7, 3) := by decide +kernel
theorem dX7_gapsWith_9 : decode cX7_gapsWith 9 = .ok (.iconst 1, 1) := by decide +kernel
theorem dX7_gapsWith_10 : decode cX7_gapsWith 10 = .ok (.iaload, 1) := by decide +kernel
theorem dX7_gapsWith_11 : decode cX7_gapsWith 11 = .ok (.if_icmp .ge 60, 3) := by decide +kernel
theorem dX7_gapsWith_14 : decode cX7_gapsWith 14 = .ok (.aload_n 0, 1) := by decide +kernel
theorem dX7_gapsWith_15 : decode cX7_gapsWith 15 = .ok (.getfield 28, 3) := by decide +kernel
theorem dX7_gapsWith_18 : decode cX7_gapsWith 18 = .ok (.iload_n 3, 1) := by decide +kernel
theorem dX7_gapsWith_19 : decode cX7_gapsWith 19 = .ok (.baload, 1) := by decide +kernel
theorem dX7_gapsWith_20 : decode cX7_gapsWith 20 = .ok (.ifCond .eq 45, 3) := by decide +kernel
theorem dX7_gapsWith_23 : decode cX7_gapsWith 23 = .ok (.iconst 1, 1) := by decide +kernel
theorem dX7_gapsWith_24 : decode cX7_gapsWith 24 = .ok (.istore 4, 2) := by decide +kernel
theorem dX7_gapsWith_26 : decode cX7_gapsWith 26 = .ok (.aload_n 0, 1) := by decide +kernel
theorem dX7_gapsWith_27 : decode cX7_gapsWith 27 = .ok (.getfield 28, 3) := by decide +kernel
theorem dX7_gapsWith_30 : decode cX7_gapsWith 30 = .ok (.iload_n 3, 1) := by decide +kernel
theorem dX7_gapsWith_31 : decode cX7_gapsWith 31 = .ok (.iload 4, 2) := by decide +kernel
theorem dX7_gapsWith_33 : decode cX7_gapsWith 33 = .ok (.iadd, 1) := by decide +kernel
theorem dX7_gapsWith_34 : decode cX7_gapsWith 34 = .ok (.aload_n 0, 1) := by decide +kernel
theorem dX7_gapsWith_35 : decode cX7_gapsWith 35 = .ok (.getfield 7, 3) := by decide +kernel
theorem dX7_gapsWith_38 : decode cX7_gapsWith 38 = .ok (.iconst 1, 1) := by decide +kernel
theorem dX7_gapsWith_39 : decode cX7_gapsWith 39 = .ok (.iaload, 1) := by decide +kernel
theorem dX7_gapsWith_40 : decode cX7_gapsWith 40 = .ok (.irem, 1) := by decide +kernel
theorem dX7_gapsWith_41 : decode cX7_gapsWith 41 = .ok (.baload, 1) := by decide +kernel
theorem dX7_gapsWith_42 : decode cX7_gapsWith 42 = .ok (.ifCond .ne 9, 3) := by decide +kernel
theorem dX7_gapsWith_45 : decode cX7_gapsWith 45 = .ok (.iinc 4 1, 3) := by decide +kernel
theorem dX7_gapsWith_48 : decode cX7_gapsWith 48 = .ok (.goto (-22), 3) := by decide +kernel
theorem dX7_gapsWith_51 : decode cX7_gapsWith 51 = .ok (.iload_n 2, 1) := by decide +kernel
theorem dX7_gapsWith_52 : decode cX7_gapsWith 52 = .ok (.iload 4, 2) := by decide +kernel
theorem dX7_gapsWith_54 : decode cX7_gapsWith 54 = .ok (.iload_n 1, 1) := by decide +kernel
theorem dX7_gapsWith_55 : decode cX7_gapsWith 55 = .ok (.if_icmp .ne 7, 3) := by decide +kernel
theorem dX7_gapsWith_58 : decode cX7_gapsWith 58 = .ok (.iconst 1, 1) := by decide +kernel
theorem dX7_gapsWith_59 : decode cX7_gapsWith 59 = .ok (.goto 4, 3) := by decide +kernel
theorem dX7_gapsWith_62 : decode cX7_gapsWith 62 = .ok (.iconst 0, 1) := by decide +kernel
theorem dX7_gapsWith_63 : decode cX7_gapsWith 63 = .ok (.iadd, 1) := by decide +kernel
theorem dX7_gapsWith_64 : decode cX7_gapsWith 64 = .ok (.istore_n 2, 1) := by decide +kernel
theorem dX7_gapsWith_65 : decode cX7_gapsWith 65 = .ok (.iinc 3 1, 3) := by decide +kernel
theorem dX7_gapsWith_68 : decode cX7_gapsWith 68 = .ok (.goto (-64), 3) := by decide +kernel
theorem dX7_gapsWith_71 : decode cX7_gapsWith 71 = .ok (.iload_n 2, 1) := by decide +kernel
theorem dX7_gapsWith_72 : decode cX7_gapsWith 72 = .ok (.ireturn, 1) := by decide +kernel
set_option maxRecDepth 20000 in
theorem ggX7_sizeAt_X7_layPoints : GoodIn wsX7_sizeAt wsX7_layPoints := goodIn_r _ [6, 1, 7, 12, 13, 14, 15, 16, 17, 18, 19, 20, 21, 22] (by decide +kernel) (by decide +kernel)
set_option maxRecDepth 20000 in
theorem gX7_sizeAt_X7_layPoints : GoodIn wsX7_sizeAt (wsV RX7 116 RX7 yX7_layPoints wsX7_layPoints) := goodIn_app (goodIn_of _ (by decide +kernel)) ggX7_sizeAt_X7_layPoints
set_option maxRecDepth 20000 in
theorem ggX7_sizeAt_X7_gapsWith : GoodIn wsX7_sizeAt wsX7_gapsWith := goodIn_r _ [11, 1, 7, 12, 13, 14, 15, 16, 17, 18, 19, 20, 21, 22] (by decide +kernel) (by decide +kernel)
set_option maxRecDepth 20000 in
theorem gX7_sizeAt_X7_gapsWith : GoodIn wsX7_sizeAt (wsV RX7 119 RX7 yX7_gapsWith wsX7_gapsWith) := goodIn_app (goodIn_of _ (by decide +kernel)) ggX7_sizeAt_X7_gapsWith
theorem dX7_sizeAt_0 : decode cX7_sizeAt 0 = .ok (.aload_n 0, 1) := by decide +kernel
theorem dX7_sizeAt_1 : decode cX7_sizeAt 1 = .ok (.iload_n 1, 1) := by decide +kernel
theorem dX7_sizeAt_2 : decode cX7_sizeAt 2 = .ok (.invokevirtual 116, 3) := by decide +kernel
theorem dX7_sizeAt_5 : decode cX7_sizeAt 5 = .ok (.iconst 0, 1) := by decide +kernel
theorem dX7_sizeAt_6 : decode cX7_sizeAt 6 = .ok (.istore_n 3, 1) := by decide +kernel
theorem dX7_sizeAt_7 : decode cX7_sizeAt 7 = .ok (.iconst 1, 1) := by decide +kernel
theorem dX7_sizeAt_8 : decode cX7_sizeAt 8 = .ok (.istore 4, 2) := by decide +kernel
theorem dX7_sizeAt_10 : decode cX7_sizeAt 10 = .ok (.iload 4, 2) := by decide +kernel
theorem dX7_sizeAt_12 : decode cX7_sizeAt 12 = .ok (.aload_n 0, 1) := by decide +kernel
theorem dX7_sizeAt_13 : decode cX7_sizeAt 13 = .ok (.getfield 7, 3) := by decide +kernel
theorem dX7_sizeAt_16 : decode cX7_sizeAt 16 = .ok (.iconst 1, 1) := by decide +kernel
theorem dX7_sizeAt_17 : decode cX7_sizeAt 17 = .ok (.iaload, 1) := by decide +kernel
theorem dX7_sizeAt_18 : decode cX7_sizeAt 18 = .ok (.if_icmp .gt 29, 3) := by decide +kernel
theorem dX7_sizeAt_21 : decode cX7_sizeAt 21 = .ok (.aload_n 0, 1) := by decide +kernel
theorem dX7_sizeAt_22 : decode cX7_sizeAt 22 = .ok (.iload 4, 2) := by decide +kernel
theorem dX7_sizeAt_24 : decode cX7_sizeAt 24 = .ok (.invokevirtual 119, 3) := by decide +kernel
theorem dX7_sizeAt_27 : decode cX7_sizeAt 27 = .ok (.ifCond .le 14, 3) := by decide +kernel
theorem dX7_sizeAt_30 : decode cX7_sizeAt 30 = .ok (.iload_n 3, 1) := by decide +kernel
theorem dX7_sizeAt_31 : decode cX7_sizeAt 31 = .ok (.iload_n 2, 1) := by decide +kernel
theorem dX7_sizeAt_32 : decode cX7_sizeAt 32 = .ok (.if_icmp .ne 6, 3) := by decide +kernel
theorem dX7_sizeAt_35 : decode cX7_sizeAt 35 = .ok (.iload 4, 2) := by decide +kernel
theorem dX7_sizeAt_37 : decode cX7_sizeAt 37 = .ok (.ireturn, 1) := by decide +kernel
theorem dX7_sizeAt_38 : decode cX7_sizeAt 38 = .ok (.iinc 3 1, 3) := by decide +kernel
theorem dX7_sizeAt_41 : decode cX7_sizeAt 41 = .ok (.iinc 4 1, 3) := by decide +kernel
theorem dX7_sizeAt_44 : decode cX7_sizeAt 44 = .ok (.goto (-34), 3) := by decide +kernel
theorem dX7_sizeAt_47 : decode cX7_sizeAt 47 = .ok (.iload_n 2, 1) := by decide +kernel
theorem dX7_sizeAt_48 : decode cX7_sizeAt 48 = .ok (.ifCond .ge 7, 3) := by decide +kernel
theorem dX7_sizeAt_51 : decode cX7_sizeAt 51 = .ok (.iload_n 3, 1) := by decide +kernel
theorem dX7_sizeAt_52 : decode cX7_sizeAt 52 = .ok (.goto 5, 3) := by decide +kernel
theorem dX7_sizeAt_55 : decode cX7_sizeAt 55 = .ok (.bipush (-3), 2) := by decide +kernel
theorem dX7_sizeAt_57 : decode cX7_sizeAt 57 = .ok (.ireturn, 1) := by decide +kernel
set_option maxRecDepth 20000 in
theorem ggX7_gapSizeCount_X7_in : GoodIn wsX7_gapSizeCount wsX7_in := goodIn_r _ [4] (by decide +kernel) (by decide +kernel)
set_option maxRecDepth 20000 in
theorem gX7_gapSizeCount_X7_in : GoodIn wsX7_gapSizeCount (va_wsS RX7 43 yX7_in wsX7_in) := goodIn_app (goodIn_of _ (by decide +kernel)) ggX7_gapSizeCount_X7_in
set_option maxRecDepth 20000 in
theorem ggX7_gapSizeCount_X7_sizeAt : GoodIn wsX7_gapSizeCount wsX7_sizeAt := goodIn_r _ [8, 9, 10, 11, 12, 3, 13, 14, 15, 16, 17, 18, 19, 20, 21, 22, 23, 24, 25, 26, 27, 28, 29] (by decide +kernel) (by decide +kernel)
set_option maxRecDepth 20000 in
theorem gX7_gapSizeCount_X7_sizeAt : GoodIn wsX7_gapSizeCount (wsV RX7 122 RX7 yX7_sizeAt wsX7_sizeAt) := goodIn_app (goodIn_of _ (by decide +kernel)) ggX7_gapSizeCount_X7_sizeAt
theorem dX7_gapSizeCount_0 : decode cX7_gapSizeCount 0 = .ok (.iload_n 1, 1) := by decide +kernel
theorem dX7_gapSizeCount_1 : decode cX7_gapSizeCount 1 = .ok (.iconst 1, 1) := by decide +kernel
theorem dX7_gapSizeCount_2 : decode cX7_gapSizeCount 2 = .ok (.sipush 1000, 3) := by decide +kernel
theorem dX7_gapSizeCount_5 : decode cX7_gapSizeCount 5 = .ok (.invokestatic 43, 3) := by decide +kernel
theorem dX7_gapSizeCount_8 : decode cX7_gapSizeCount 8 = .ok (.ifCond .eq 12, 3) := by decide +kernel
theorem dX7_gapSizeCount_11 : decode cX7_gapSizeCount 11 = .ok (.aload_n 0, 1) := by decide +kernel
theorem dX7_gapSizeCount_12 : decode cX7_gapSizeCount 12 = .ok (.iload_n 1, 1) := by decide +kernel
theorem dX7_gapSizeCount_13 : decode cX7_gapSizeCount 13 = .ok (.iconst (-1), 1) := by decide +kernel
theorem dX7_gapSizeCount_14 : decode cX7_gapSizeCount 14 = .ok (.invokevirtual 122, 3) := by decide +kernel
theorem dX7_gapSizeCount_17 : decode cX7_gapSizeCount 17 = .ok (.goto 4, 3) := by decide +kernel
theorem dX7_gapSizeCount_20 : decode cX7_gapSizeCount 20 = .ok (.iconst (-1), 1) := by decide +kernel
theorem dX7_gapSizeCount_21 : decode cX7_gapSizeCount 21 = .ok (.ireturn, 1) := by decide +kernel
set_option maxRecDepth 20000 in
theorem ggX7_gapSize_X7_in : GoodIn wsX7_gapSize wsX7_in := goodIn_r _ [4] (by decide +kernel) (by decide +kernel)
set_option maxRecDepth 20000 in
theorem gX7_gapSize_X7_in : GoodIn wsX7_gapSize (va_wsS RX7 43 yX7_in wsX7_in) := goodIn_app (goodIn_of _ (by decide +kernel)) ggX7_gapSize_X7_in
set_option maxRecDepth 20000 in
theorem ggX7_gapSize_X7_sizeAt : GoodIn wsX7_gapSize wsX7_sizeAt := goodIn_r _ [8, 9, 10, 11, 12, 3, 13, 14, 15, 16, 17, 18, 19, 20, 21, 22, 23, 24, 25, 26, 27, 28, 29] (by decide +kernel) (by decide +kernel)
set_option maxRecDepth 20000 in
theorem gX7_gapSize_X7_sizeAt : GoodIn wsX7_gapSize (wsV RX7 122 RX7 yX7_sizeAt wsX7_sizeAt) := goodIn_app (goodIn_of _ (by decide +kernel)) ggX7_gapSize_X7_sizeAt
theorem dX7_gapSize_0 : decode cX7_gapSize 0 = .ok (.iload_n 1, 1) := by decide +kernel
theorem dX7_gapSize_1 : decode cX7_gapSize 1 = .ok (.iconst 1, 1) := by decide +kernel
theorem dX7_gapSize_2 : decode cX7_gapSize 2 = .ok (.sipush 1000, 3) := by decide +kernel
theorem dX7_gapSize_5 : decode cX7_gapSize 5 = .ok (.invokestatic 43, 3) := by decide +kernel
theorem dX7_gapSize_8 : decode cX7_gapSize 8 = .ok (.ifCond .eq 16, 3) := by decide +kernel
theorem dX7_gapSize_11 : decode cX7_gapSize 11 = .ok (.iload_n 2, 1) := by decide +kernel
theorem dX7_gapSize_12 : decode cX7_gapSize 12 = .ok (.ifCond .lt 12, 3) := by decide +kernel
theorem dX7_gapSize_15 : decode cX7_gapSize 15 = .ok (.aload_n 0, 1) := by decide +kernel
theorem dX7_gapSize_16 : decode cX7_gapSize 16 = .ok (.iload_n 1, 1) := by decide +kernel
theorem dX7_gapSize_17 : decode cX7_gapSize 17 = .ok (.iload_n 2, 1) := by decide +kernel
theorem dX7_gapSize_18 : decode cX7_gapSize 18 = .ok (.invokevirtual 122, 3) := by decide +kernel
theorem dX7_gapSize_21 : decode cX7_gapSize 21 = .ok (.goto 4, 3) := by decide +kernel
theorem dX7_gapSize_24 : decode cX7_gapSize 24 = .ok (.iconst (-1), 1) := by decide +kernel
theorem dX7_gapSize_25 : decode cX7_gapSize 25 = .ok (.ireturn, 1) := by decide +kernel
set_option maxRecDepth 20000 in
theorem ggX7_gapsOfSize_X7_in : GoodIn wsX7_gapsOfSize wsX7_in := goodIn_r _ [4] (by decide +kernel) (by decide +kernel)
set_option maxRecDepth 20000 in
theorem gX7_gapsOfSize_X7_in : GoodIn wsX7_gapsOfSize (va_wsS RX7 43 yX7_in wsX7_in) := goodIn_app (goodIn_of _ (by decide +kernel)) ggX7_gapsOfSize_X7_in
set_option maxRecDepth 20000 in
theorem ggX7_gapsOfSize_X7_layPoints : GoodIn wsX7_gapsOfSize wsX7_layPoints := goodIn_r _ [8, 9, 10, 15, 16, 17, 18, 19, 20, 21, 22, 23, 24, 25] (by decide +kernel) (by decide +kernel)
set_option maxRecDepth 20000 in
theorem gX7_gapsOfSize_X7_layPoints : GoodIn wsX7_gapsOfSize (wsV RX7 116 RX7 yX7_layPoints wsX7_layPoints) := goodIn_app (goodIn_of _ (by decide +kernel)) ggX7_gapsOfSize_X7_layPoints
set_option maxRecDepth 20000 in
theorem ggX7_gapsOfSize_X7_gapsWith : GoodIn wsX7_gapsOfSize wsX7_gapsWith := goodIn_r _ [14, 9, 10, 15, 16, 17, 18, 19, 20, 21, 22, 23, 24, 25] (by decide +kernel) (by decide +kernel)
set_option maxRecDepth 20000 in
theorem gX7_gapsOfSize_X7_gapsWith : GoodIn wsX7_gapsOfSize (wsV RX7 119 RX7 yX7_gapsWith wsX7_gapsWith) := goodIn_app (goodIn_of _ (by decide +kernel)) ggX7_gapsOfSize_X7_gapsWith
theorem dX7_gapsOfSize_0 : decode cX7_gapsOfSize 0 = .ok (.iload_n 1, 1) := by decide +kernel
theorem dX7_gapsOfSize_1 : decode cX7_gapsOfSize 1 = .ok (.iconst 1, 1) := by decide +kernel
theorem dX7_gapsOfSize_2 : decode cX7_gapsOfSize 2 = .ok (.sipush 1000, 3) := by decide +kernel
theorem dX7_gapsOfSize_5 : decode cX7_gapsOfSize 5 = .ok (.invokestatic 43, 3) := by decide +kernel
theorem dX7_gapsOfSize_8 : decode cX7_gapsOfSize 8 = .ok (.ifCond .eq 8, 3) := by decide +kernel
theorem dX7_gapsOfSize_11 : decode cX7_gapsOfSize 11 = .ok (.iload_n 2, 1) := by decide +kernel
theorem dX7_gapsOfSize_12 : decode cX7_gapsOfSize 12 = .ok (.iconst 1, 1) := by decide +kernel
theorem dX7_gapsOfSize_13 : decode cX7_gapsOfSize 13 = .ok (.if_icmp .ge 5, 3) := by decide +kernel
theorem dX7_gapsOfSize_16 : decode cX7_gapsOfSize 16 = .ok (.iconst (-1), 1) := by decide +kernel
theorem dX7_gapsOfSize_17 : decode cX7_gapsOfSize 17 = .ok (.ireturn, 1) := by decide +kernel
theorem dX7_gapsOfSize_18 : decode cX7_gapsOfSize 18 = .ok (.aload_n 0, 1) := by decide +kernel
theorem dX7_gapsOfSize_19 : decode cX7_gapsOfSize 19 = .ok (.iload_n 1, 1) := by decide +kernel
theorem dX7_gapsOfSize_20 : decode cX7_gapsOfSize 20 = .ok (.invokevirtual 116, 3) := by decide +kernel
theorem dX7_gapsOfSize_23 : decode cX7_gapsOfSize 23 = .ok (.aload_n 0, 1) := by decide +kernel
theorem dX7_gapsOfSize_24 : decode cX7_gapsOfSize 24 = .ok (.iload_n 2, 1) := by decide +kernel
theorem dX7_gapsOfSize_25 : decode cX7_gapsOfSize 25 = .ok (.invokevirtual 119, 3) := by decide +kernel
theorem dX7_gapsOfSize_28 : decode cX7_gapsOfSize 28 = .ok (.ireturn, 1) := by decide +kernel
theorem dX7_historySize_0 : decode cX7_historySize 0 = .ok (.aload_n 0, 1) := by decide +kernel
theorem dX7_historySize_1 : decode cX7_historySize 1 = .ok (.getfield 32, 3) := by decide +kernel
theorem dX7_historySize_4 : decode cX7_historySize 4 = .ok (.ireturn, 1) := by decide +kernel
theorem dJ13_bitCount_95d88_0 : decode cJ13_bitCount_95d88 0 = .ok (.lload_n 0, 1) := by decide +kernel
theorem dJ13_bitCount_95d88_1 : decode cJ13_bitCount_95d88 1 = .ok (.lload_n 0, 1) := by decide +kernel
theorem dJ13_bitCount_95d88_2 : decode cJ13_bitCount_95d88 2 = .ok (.iconst 1, 1) := by decide +kernel
theorem dJ13_bitCount_95d88_3 : decode cJ13_bitCount_95d88 3 = .ok (.lushr, 1) := by decide +kernel
theorem dJ13_bitCount_95d88_4 : decode cJ13_bitCount_95d88 4 = .ok (.ldc2_w 314, 3) := by decide +kernel
theorem dJ13_bitCount_95d88_7 : decode cJ13_bitCount_95d88 7 = .ok (.land, 1) := by decide +kernel
theorem dJ13_bitCount_95d88_8 : decode cJ13_bitCount_95d88 8 = .ok (.lsub, 1) := by decide +kernel
theorem dJ13_bitCount_95d88_9 : decode cJ13_bitCount_95d88 9 = .ok (.lstore_n 0, 1) := by decide +kernel
theorem dJ13_bitCount_95d88_10 : decode cJ13_bitCount_95d88 10 = .ok (.lload_n 0, 1) := by decide +kernel
theorem dJ13_bitCount_95d88_11 : decode cJ13_bitCount_95d88 11 = .ok (.ldc2_w 316, 3) := by decide +kernel
theorem dJ13_bitCount_95d88_14 : decode cJ13_bitCount_95d88 14 = .ok (.land, 1) := by decide +kernel
theorem dJ13_bitCount_95d88_15 : decode cJ13_bitCount_95d88 15 = .ok (.lload_n 0, 1) := by decide +kernel
theorem dJ13_bitCount_95d88_16 : decode cJ13_bitCount_95d88 16 = .ok (.iconst 2, 1) := by decide +kernel
theorem dJ13_bitCount_95d88_17 : decode cJ13_bitCount_95d88 17 = .ok (.lushr, 1) := by decide +kernel
theorem dJ13_bitCount_95d88_18 : decode cJ13_bitCount_95d88 18 = .ok (.ldc2_w 316, 3) := by decide +kernel
theorem dJ13_bitCount_95d88_21 : decode cJ13_bitCount_95d88 21 = .ok (.land, 1) := by decide +kernel
theorem dJ13_bitCount_95d88_22 : decode cJ13_bitCount_95d88 22 = .ok (.ladd, 1) := by decide +kernel
theorem dJ13_bitCount_95d88_23 : decode cJ13_bitCount_95d88 23 = .ok (.lstore_n 0, 1) := by decide +kernel
theorem dJ13_bitCount_95d88_24 : decode cJ13_bitCount_95d88 24 = .ok (.lload_n 0, 1) := by decide +kernel
theorem dJ13_bitCount_95d88_25 : decode cJ13_bitCount_95d88 25 = .ok (.lload_n 0, 1) := by decide +kernel
theorem dJ13_bitCount_95d88_26 : decode cJ13_bitCount_95d88 26 = .ok (.iconst 4, 1) := by decide +kernel
theorem dJ13_bitCount_95d88_27 : decode cJ13_bitCount_95d88 27 = .ok (.lushr, 1) := by decide +kernel
theorem dJ13_bitCount_95d88_28 : decode cJ13_bitCount_95d88 28 = .ok (.ladd, 1) := by decide +kernel
theorem dJ13_bitCount_95d88_29 : decode cJ13_bitCount_95d88 29 = .ok (.ldc2_w 318, 3) := by decide +kernel
theorem dJ13_bitCount_95d88_32 : decode cJ13_bitCount_95d88 32 = .ok (.land, 1) := by decide +kernel
theorem dJ13_bitCount_95d88_33 : decode cJ13_bitCount_95d88 33 = .ok (.lstore_n 0, 1) := by decide +kernel
theorem dJ13_bitCount_95d88_34 : decode cJ13_bitCount_95d88 34 = .ok (.lload_n 0, 1) := by decide +kernel
theorem dJ13_bitCount_95d88_35 : decode cJ13_bitCount_95d88 35 = .ok (.lload_n 0, 1) := by decide +kernel
theorem dJ13_bitCount_95d88_36 : decode cJ13_bitCount_95d88 36 = .ok (.bipush 8, 2) := by decide +kernel
theorem dJ13_bitCount_95d88_38 : decode cJ13_bitCount_95d88 38 = .ok (.lushr, 1) := by decide +kernel
theorem dJ13_bitCount_95d88_39 : decode cJ13_bitCount_95d88 39 = .ok (.ladd, 1) := by decide +kernel
theorem dJ13_bitCount_95d88_40 : decode cJ13_bitCount_95d88 40 = .ok (.lstore_n 0, 1) := by decide +kernel
theorem dJ13_bitCount_95d88_41 : decode cJ13_bitCount_95d88 41 = .ok (.lload_n 0, 1) := by decide +kernel
theorem dJ13_bitCount_95d88_42 : decode cJ13_bitCount_95d88 42 = .ok (.lload_n 0, 1) := by decide +kernel
theorem dJ13_bitCount_95d88_43 : decode cJ13_bitCount_95d88 43 = .ok (.bipush 16, 2) := by decide +kernel
theorem dJ13_bitCount_95d88_45 : decode cJ13_bitCount_95d88 45 = .ok (.lushr, 1) := by decide +kernel
theorem dJ13_bitCount_95d88_46 : decode cJ13_bitCount_95d88 46 = .ok (.ladd, 1) := by decide +kernel
theorem dJ13_bitCount_95d88_47 : decode cJ13_bitCount_95d88 47 = .ok (.lstore_n 0, 1) := by decide +kernel
theorem dJ13_bitCount_95d88_48 : decode cJ13_bitCount_95d88 48 = .ok (.lload_n 0, 1) := by decide +kernel
theorem dJ13_bitCount_95d88_49 : decode cJ13_bitCount_95d88 49 = .ok (.lload_n 0, 1) := by decide +kernel
theorem dJ13_bitCount_95d88_50 : decode cJ13_bitCount_95d88 50 = .ok (.bipush 32, 2) := by decide +kernel
theorem dJ13_bitCount_95d88_52 : decode cJ13_bitCount_95d88 52 = .ok (.lushr, 1) := by decide +kernel
theorem dJ13_bitCount_95d88_53 : decode cJ13_bitCount_95d88 53 = .ok (.ladd, 1) := by decide +kernel
theorem dJ13_bitCount_95d88_54 : decode cJ13_bitCount_95d88 54 = .ok (.lstore_n 0, 1) := by decide +kernel
theorem dJ13_bitCount_95d88_55 : decode cJ13_bitCount_95d88 55 = .ok (.lload_n 0, 1) := by decide +kernel
theorem dJ13_bitCount_95d88_56 : decode cJ13_bitCount_95d88 56 = .ok (.l2i, 1) := by decide +kernel
theorem dJ13_bitCount_95d88_57 : decode cJ13_bitCount_95d88 57 = .ok (.bipush 127, 2) := by decide +kernel
theorem dJ13_bitCount_95d88_59 : decode cJ13_bitCount_95d88 59 = .ok (.iand, 1) := by decide +kernel
theorem dJ13_bitCount_95d88_60 : decode cJ13_bitCount_95d88 60 = .ok (.ireturn, 1) := by decide +kernel
theorem dJ9_max_7cf53_0 : decode cJ9_max_7cf53 0 = .ok (.iload_n 0, 1) := by decide +kernel
theorem dJ9_max_7cf53_1 : decode cJ9_max_7cf53 1 = .ok (.iload_n 1, 1) := by decide +kernel
theorem dJ9_max_7cf53_2 : decode cJ9_max_7cf53 2 = .ok (.if_icmp .lt 7, 3) := by decide +kernel
theorem dJ9_max_7cf53_5 : decode cJ9_max_7cf53 5 = .ok (.iload_n 0, 1) := by decide +kernel
theorem dJ9_max_7cf53_6 : decode cJ9_max_7cf53 6 = .ok (.goto 4, 3) := by decide +kernel
theorem dJ9_max_7cf53_9 : decode cJ9_max_7cf53 9 = .ok (.iload_n 1, 1) := by decide +kernel
theorem dJ9_max_7cf53_10 : decode cJ9_max_7cf53 10 = .ok (.ireturn, 1) := by decide +kernel
theorem dJ9_min_7cf53_0 : decode cJ9_min_7cf53 0 = .ok (.iload_n 0, 1) := by decide +kernel
theorem dJ9_min_7cf53_1 : decode cJ9_min_7cf53 1 = .ok (.iload_n 1, 1) := by decide +kernel
theorem dJ9_min_7cf53_2 : decode cJ9_min_7cf53 2 = .ok (.if_icmp .gt 7, 3) := by decide +kernel
theorem dJ9_min_7cf53_5 : decode cJ9_min_7cf53 5 = .ok (.iload_n 0, 1) := by decide +kernel
theorem dJ9_min_7cf53_6 : decode cJ9_min_7cf53 6 = .ok (.goto 4, 3) := by decide +kernel
theorem dJ9_min_7cf53_9 : decode cJ9_min_7cf53 9 = .ok (.iload_n 1, 1) := by decide +kernel
theorem dJ9_min_7cf53_10 : decode cJ9_min_7cf53 10 = .ok (.ireturn, 1) := by decide +kernel
theorem dJ7_fill_53178_0 : decode cJ7_fill_53178 0 = .ok (.iconst 0, 1) := by decide +kernel
theorem dJ7_fill_53178_1 : decode cJ7_fill_53178 1 = .ok (.istore_n 2, 1) := by decide +kernel
theorem dJ7_fill_53178_2 : decode cJ7_fill_53178 2 = .ok (.aload_n 0, 1) := by decide +kernel
theorem dJ7_fill_53178_3 : decode cJ7_fill_53178 3 = .ok (.arraylength, 1) := by decide +kernel
theorem dJ7_fill_53178_4 : decode cJ7_fill_53178 4 = .ok (.istore_n 3, 1) := by decide +kernel
theorem dJ7_fill_53178_5 : decode cJ7_fill_53178 5 = .ok (.iload_n 2, 1) := by decide +kernel
theorem dJ7_fill_53178_6 : decode cJ7_fill_53178 6 = .ok (.iload_n 3, 1) := by decide +kernel
theorem dJ7_fill_53178_7 : decode cJ7_fill_53178 7 = .ok (.if_icmp .ge 13, 3) := by decide +kernel
theorem dJ7_fill_53178_10 : decode cJ7_fill_53178 10 = .ok (.aload_n 0, 1) := by decide +kernel
theorem dJ7_fill_53178_11 : decode cJ7_fill_53178 11 = .ok (.iload_n 2, 1) := by decide +kernel
theorem dJ7_fill_53178_12 : decode cJ7_fill_53178 12 = .ok (.iload_n 1, 1) := by decide +kernel
theorem dJ7_fill_53178_13 : decode cJ7_fill_53178 13 = .ok (.iastore, 1) := by decide +kernel
theorem dJ7_fill_53178_14 : decode cJ7_fill_53178 14 = .ok (.iinc 2 1, 3) := by decide +kernel
theorem dJ7_fill_53178_17 : decode cJ7_fill_53178 17 = .ok (.goto (-12), 3) := by decide +kernel
theorem dJ7_fill_53178_20 : decode cJ7_fill_53178 20 = .ok (.return_, 1) := by decide +kernel
