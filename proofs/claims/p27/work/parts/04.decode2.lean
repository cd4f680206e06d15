theorem dX0_tryFrom_69 : decode cX0_tryFrom 69 = .ok (.iadd, 1) := by decide +kernel
theorem dX0_tryFrom_70 : decode cX0_tryFrom 70 = .ok (.aload_n 1, 1) := by decide +kernel
theorem dX0_tryFrom_71 : decode cX0_tryFrom 71 = .ok (.iload_n 2, 1) := by decide +kernel
theorem dX0_tryFrom_72 : decode cX0_tryFrom 72 = .ok (.aload_n 3, 1) := by decide +kernel
theorem dX0_tryFrom_73 : decode cX0_tryFrom 73 = .ok (.iload 4, 2) := by decide +kernel
theorem dX0_tryFrom_75 : decode cX0_tryFrom 75 = .ok (.iload 6, 2) := by decide +kernel
theorem dX0_tryFrom_77 : decode cX0_tryFrom 77 = .ok (.invokestatic 92, 3) := by decide +kernel
theorem dX0_tryFrom_80 : decode cX0_tryFrom 80 = .ok (.iload 5, 2) := by decide +kernel
theorem dX0_tryFrom_82 : decode cX0_tryFrom 82 = .ok (.invokestatic 209, 3) := by decide +kernel
theorem dX0_tryFrom_85 : decode cX0_tryFrom 85 = .ok (.ifCond .eq 5, 3) := by decide +kernel
theorem dX0_tryFrom_88 : decode cX0_tryFrom 88 = .ok (.iconst 1, 1) := by decide +kernel
theorem dX0_tryFrom_89 : decode cX0_tryFrom 89 = .ok (.ireturn, 1) := by decide +kernel
theorem dX0_tryFrom_90 : decode cX0_tryFrom 90 = .ok (.iinc 6 1, 3) := by decide +kernel
theorem dX0_tryFrom_93 : decode cX0_tryFrom 93 = .ok (.goto (-60), 3) := by decide +kernel
theorem dX0_tryFrom_96 : decode cX0_tryFrom 96 = .ok (.iconst 0, 1) := by decide +kernel
theorem dX0_tryFrom_97 : decode cX0_tryFrom 97 = .ok (.ireturn, 1) := by decide +kernel
set_option maxRecDepth 20000 in
theorem ggX0_isFreeIn_X0_has : GoodIn wsX0_isFreeIn wsX0_has := goodIn_r _ [4] (by decide +kernel) (by decide +kernel)
set_option maxRecDepth 20000 in
theorem gX0_isFreeIn_X0_has : GoodIn wsX0_isFreeIn (va_wsS RX0 140 yX0_has wsX0_has) := goodIn_app (goodIn_of _ (by decide +kernel)) ggX0_isFreeIn_X0_has
theorem dX0_isFreeIn_0 : decode cX0_isFreeIn 0 = .ok (.iconst 0, 1) := by decide +kernel
theorem dX0_isFreeIn_1 : decode cX0_isFreeIn 1 = .ok (.istore 4, 2) := by decide +kernel
theorem dX0_isFreeIn_3 : decode cX0_isFreeIn 3 = .ok (.iload 4, 2) := by decide +kernel
theorem dX0_isFreeIn_5 : decode cX0_isFreeIn 5 = .ok (.iload_n 1, 1) := by decide +kernel
theorem dX0_isFreeIn_6 : decode cX0_isFreeIn 6 = .ok (.if_icmp .ge 28, 3) := by decide +kernel
theorem dX0_isFreeIn_9 : decode cX0_isFreeIn 9 = .ok (.iload_n 2, 1) := by decide +kernel
theorem dX0_isFreeIn_10 : decode cX0_isFreeIn 10 = .ok (.iload 4, 2) := by decide +kernel
theorem dX0_isFreeIn_12 : decode cX0_isFreeIn 12 = .ok (.invokestatic 140, 3) := by decide +kernel
theorem dX0_isFreeIn_15 : decode cX0_isFreeIn 15 = .ok (.ifCond .eq 13, 3) := by decide +kernel
theorem dX0_isFreeIn_18 : decode cX0_isFreeIn 18 = .ok (.aload_n 0, 1) := by decide +kernel
theorem dX0_isFreeIn_19 : decode cX0_isFreeIn 19 = .ok (.iload 4, 2) := by decide +kernel
theorem dX0_isFreeIn_21 : decode cX0_isFreeIn 21 = .ok (.iaload, 1) := by decide +kernel
theorem dX0_isFreeIn_22 : decode cX0_isFreeIn 22 = .ok (.iload_n 3, 1) := by decide +kernel
theorem dX0_isFreeIn_23 : decode cX0_isFreeIn 23 = .ok (.if_icmp .ne 5, 3) := by decide +kernel
theorem dX0_isFreeIn_26 : decode cX0_isFreeIn 26 = .ok (.iconst 0, 1) := by decide +kernel
theorem dX0_isFreeIn_27 : decode cX0_isFreeIn 27 = .ok (.ireturn, 1) := by decide +kernel
theorem dX0_isFreeIn_28 : decode cX0_isFreeIn 28 = .ok (.iinc 4 1, 3) := by decide +kernel
theorem dX0_isFreeIn_31 : decode cX0_isFreeIn 31 = .ok (.goto (-28), 3) := by decide +kernel
theorem dX0_isFreeIn_34 : decode cX0_isFreeIn 34 = .ok (.iconst 1, 1) := by decide +kernel
theorem dX0_isFreeIn_35 : decode cX0_isFreeIn 35 = .ok (.ireturn, 1) := by decide +kernel
set_option maxRecDepth 20000 in
theorem ggX0_shareOutOneSet_X0_shareOutFrom : GoodIn wsX0_shareOutOneSet wsX0_shareOutFrom := goodIn_r _ [6, 7, 1, 8, 9, 10, 11, 12, 13, 14, 15] (by decide +kernel) (by decide +kernel)
set_option maxRecDepth 20000 in
theorem gX0_shareOutOneSet_X0_shareOutFrom : GoodIn wsX0_shareOutOneSet (wsV RX0 217 RX0 yX0_shareOutFrom wsX0_shareOutFrom) := goodIn_app (goodIn_of _ (by decide +kernel)) ggX0_shareOutOneSet_X0_shareOutFrom
theorem dX0_shareOutOneSet_0 : decode cX0_shareOutOneSet 0 = .ok (.aload_n 0, 1) := by decide +kernel
theorem dX0_shareOutOneSet_1 : decode cX0_shareOutOneSet 1 = .ok (.getfield 31, 3) := by decide +kernel
theorem dX0_shareOutOneSet_4 : decode cX0_shareOutOneSet 4 = .ok (.iconst 0, 1) := by decide +kernel
theorem dX0_shareOutOneSet_5 : decode cX0_shareOutOneSet 5 = .ok (.lconst 0, 1) := by decide +kernel
theorem dX0_shareOutOneSet_6 : decode cX0_shareOutOneSet 6 = .ok (.lastore, 1) := by decide +kernel
theorem dX0_shareOutOneSet_7 : decode cX0_shareOutOneSet 7 = .ok (.iconst 1, 1) := by decide +kernel
theorem dX0_shareOutOneSet_8 : decode cX0_shareOutOneSet 8 = .ok (.istore_n 1, 1) := by decide +kernel
theorem dX0_shareOutOneSet_9 : decode cX0_shareOutOneSet 9 = .ok (.iload_n 1, 1) := by decide +kernel
theorem dX0_shareOutOneSet_10 : decode cX0_shareOutOneSet 10 = .ok (.sipush 1024, 3) := by decide +kernel
theorem dX0_shareOutOneSet_13 : decode cX0_shareOutOneSet 13 = .ok (.if_icmp .ge 35, 3) := by decide +kernel
theorem dX0_shareOutOneSet_16 : decode cX0_shareOutOneSet 16 = .ok (.aload_n 0, 1) := by decide +kernel
theorem dX0_shareOutOneSet_17 : decode cX0_shareOutOneSet 17 = .ok (.getfield 31, 3) := by decide +kernel
theorem dX0_shareOutOneSet_20 : decode cX0_shareOutOneSet 20 = .ok (.iload_n 1, 1) := by decide +kernel
theorem dX0_shareOutOneSet_21 : decode cX0_shareOutOneSet 21 = .ok (.laload, 1) := by decide +kernel
theorem dX0_shareOutOneSet_22 : decode cX0_shareOutOneSet 22 = .ok (.lstore_n 2, 1) := by decide +kernel
theorem dX0_shareOutOneSet_23 : decode cX0_shareOutOneSet 23 = .ok (.lload_n 2, 1) := by decide +kernel
theorem dX0_shareOutOneSet_24 : decode cX0_shareOutOneSet 24 = .ok (.lconst 0, 1) := by decide +kernel
theorem dX0_shareOutOneSet_25 : decode cX0_shareOutOneSet 25 = .ok (.lcmp, 1) := by decide +kernel
theorem dX0_shareOutOneSet_26 : decode cX0_shareOutOneSet 26 = .ok (.ifCond .eq 16, 3) := by decide +kernel
theorem dX0_shareOutOneSet_29 : decode cX0_shareOutOneSet 29 = .ok (.aload_n 0, 1) := by decide +kernel
theorem dX0_shareOutOneSet_30 : decode cX0_shareOutOneSet 30 = .ok (.getfield 31, 3) := by decide +kernel
theorem dX0_shareOutOneSet_33 : decode cX0_shareOutOneSet 33 = .ok (.iload_n 1, 1) := by decide +kernel
theorem dX0_shareOutOneSet_34 : decode cX0_shareOutOneSet 34 = .ok (.lconst 0, 1) := by decide +kernel
theorem dX0_shareOutOneSet_35 : decode cX0_shareOutOneSet 35 = .ok (.lastore, 1) := by decide +kernel
theorem dX0_shareOutOneSet_36 : decode cX0_shareOutOneSet 36 = .ok (.aload_n 0, 1) := by decide +kernel
theorem dX0_shareOutOneSet_37 : decode cX0_shareOutOneSet 37 = .ok (.iload_n 1, 1) := by decide +kernel
theorem dX0_shareOutOneSet_38 : decode cX0_shareOutOneSet 38 = .ok (.lload_n 2, 1) := by decide +kernel
theorem dX0_shareOutOneSet_39 : decode cX0_shareOutOneSet 39 = .ok (.invokevirtual 217, 3) := by decide +kernel
theorem dX0_shareOutOneSet_42 : decode cX0_shareOutOneSet 42 = .ok (.iinc 1 1, 3) := by decide +kernel
theorem dX0_shareOutOneSet_45 : decode cX0_shareOutOneSet 45 = .ok (.goto (-36), 3) := by decide +kernel
theorem dX0_shareOutOneSet_48 : decode cX0_shareOutOneSet 48 = .ok (.return_, 1) := by decide +kernel
theorem dX0_shareOutFrom_0 : decode cX0_shareOutFrom 0 = .ok (.iload_n 1, 1) := by decide +kernel
theorem dX0_shareOutFrom_1 : decode cX0_shareOutFrom 1 = .ok (.iload_n 1, 1) := by decide +kernel
theorem dX0_shareOutFrom_2 : decode cX0_shareOutFrom 2 = .ok (.ineg, 1) := by decide +kernel
theorem dX0_shareOutFrom_3 : decode cX0_shareOutFrom 3 = .ok (.iand, 1) := by decide +kernel
theorem dX0_shareOutFrom_4 : decode cX0_shareOutFrom 4 = .ok (.istore 4, 2) := by decide +kernel
theorem dX0_shareOutFrom_6 : decode cX0_shareOutFrom 6 = .ok (.iload_n 1, 1) := by decide +kernel
theorem dX0_shareOutFrom_7 : decode cX0_shareOutFrom 7 = .ok (.iload 4, 2) := by decide +kernel
theorem dX0_shareOutFrom_9 : decode cX0_shareOutFrom 9 = .ok (.iconst (-1), 1) := by decide +kernel
theorem dX0_shareOutFrom_10 : decode cX0_shareOutFrom 10 = .ok (.ixor, 1) := by decide +kernel
theorem dX0_shareOutFrom_11 : decode cX0_shareOutFrom 11 = .ok (.iand, 1) := by decide +kernel
theorem dX0_shareOutFrom_12 : decode cX0_shareOutFrom 12 = .ok (.istore 5, 2) := by decide +kernel
theorem dX0_shareOutFrom_14 : decode cX0_shareOutFrom 14 = .ok (.iload 5, 2) := by decide +kernel
theorem dX0_shareOutFrom_16 : decode cX0_shareOutFrom 16 = .ok (.istore 6, 2) := by decide +kernel
theorem dX0_shareOutFrom_18 : decode cX0_shareOutFrom 18 = .ok (.iconst 0, 1) := by decide +kernel
theorem dX0_shareOutFrom_19 : decode cX0_shareOutFrom 19 = .ok (.istore 7, 2) := by decide +kernel
theorem dX0_shareOutFrom_21 : decode cX0_shareOutFrom 21 = .ok (.iload 7, 2) := by decide +kernel
theorem dX0_shareOutFrom_23 : decode cX0_shareOutFrom 23 = .ok (.sipush 1024, 3) := by decide +kernel
theorem dX0_shareOutFrom_26 : decode cX0_shareOutFrom 26 = .ok (.if_icmp .ge 53, 3) := by decide +kernel
theorem dX0_shareOutFrom_29 : decode cX0_shareOutFrom 29 = .ok (.aload_n 0, 1) := by decide +kernel
theorem dX0_shareOutFrom_30 : decode cX0_shareOutFrom 30 = .ok (.getfield 27, 3) := by decide +kernel
theorem dX0_shareOutFrom_33 : decode cX0_shareOutFrom 33 = .ok (.iload 4, 2) := by decide +kernel
theorem dX0_shareOutFrom_35 : decode cX0_shareOutFrom 35 = .ok (.iload 6, 2) := by decide +kernel
theorem dX0_shareOutFrom_37 : decode cX0_shareOutFrom 37 = .ok (.ior, 1) := by decide +kernel
theorem dX0_shareOutFrom_38 : decode cX0_shareOutFrom 38 = .ok (.baload, 1) := by decide +kernel
theorem dX0_shareOutFrom_39 : decode cX0_shareOutFrom 39 = .ok (.ifCond .eq 19, 3) := by decide +kernel
theorem dX0_shareOutFrom_42 : decode cX0_shareOutFrom 42 = .ok (.aload_n 0, 1) := by decide +kernel
theorem dX0_shareOutFrom_43 : decode cX0_shareOutFrom 43 = .ok (.getfield 31, 3) := by decide +kernel
theorem dX0_shareOutFrom_46 : decode cX0_shareOutFrom 46 = .ok (.iload 5, 2) := by decide +kernel
theorem dX0_shareOutFrom_48 : decode cX0_shareOutFrom 48 = .ok (.iload 6, 2) := by decide +kernel
theorem dX0_shareOutFrom_50 : decode cX0_shareOutFrom 50 = .ok (.iconst (-1), 1) := by decide +kernel
theorem dX0_shareOutFrom_51 : decode cX0_shareOutFrom 51 = .ok (.ixor, 1) := by decide +kernel
theorem dX0_shareOutFrom_52 : decode cX0_shareOutFrom 52 = .ok (.iand, 1) := by decide +kernel
theorem dX0_shareOutFrom_53 : decode cX0_shareOutFrom 53 = .ok (.dup2, 1) := by decide +kernel
theorem dX0_shareOutFrom_54 : decode cX0_shareOutFrom 54 = .ok (.laload, 1) := by decide +kernel
theorem dX0_shareOutFrom_55 : decode cX0_shareOutFrom 55 = .ok (.lload_n 2, 1) := by decide +kernel
theorem dX0_shareOutFrom_56 : decode cX0_shareOutFrom 56 = .ok (.ladd, 1) := by decide +kernel
theorem dX0_shareOutFrom_57 : decode cX0_shareOutFrom 57 = .ok (.lastore, 1) := by decide +kernel
theorem dX0_shareOutFrom_58 : decode cX0_shareOutFrom 58 = .ok (.iload 6, 2) := by decide +kernel
theorem dX0_shareOutFrom_60 : decode cX0_shareOutFrom 60 = .ok (.ifCond .ne 4, 3) := by decide +kernel
theorem dX0_shareOutFrom_63 : decode cX0_shareOutFrom 63 = .ok (.return_, 1) := by decide +kernel
theorem dX0_shareOutFrom_64 : decode cX0_shareOutFrom 64 = .ok (.iload 6, 2) := by decide +kernel
theorem dX0_shareOutFrom_66 : decode cX0_shareOutFrom 66 = .ok (.iconst 1, 1) := by decide +kernel
theorem dX0_shareOutFrom_67 : decode cX0_shareOutFrom 67 = .ok (.isub, 1) := by decide +kernel
theorem dX0_shareOutFrom_68 : decode cX0_shareOutFrom 68 = .ok (.iload 5, 2) := by decide +kernel
theorem dX0_shareOutFrom_70 : decode cX0_shareOutFrom 70 = .ok (.iand, 1) := by decide +kernel
theorem dX0_shareOutFrom_71 : decode cX0_shareOutFrom 71 = .ok (.istore 6, 2) := by decide +kernel
theorem dX0_shareOutFrom_73 : decode cX0_shareOutFrom 73 = .ok (.iinc 7 1, 3) := by decide +kernel
theorem dX0_shareOutFrom_76 : decode cX0_shareOutFrom 76 = .ok (.goto (-55), 3) := by decide +kernel
theorem dX0_shareOutFrom_79 : decode cX0_shareOutFrom 79 = .ok (.return_, 1) := by decide +kernel
set_option maxRecDepth 20000 in
theorem ggX0_countByPairs_X0_oneToTintLast : GoodIn wsX0_countByPairs wsX0_oneToTintLast := goodIn_r _ [4, 5, 6, 3, 7, 8, 9, 10] (by decide +kernel) (by decide +kernel)
set_option maxRecDepth 20000 in
theorem gX0_countByPairs_X0_oneToTintLast : GoodIn wsX0_countByPairs (va_wsS RX0 221 yX0_oneToTintLast wsX0_oneToTintLast) := goodIn_app (goodIn_of _ (by decide +kernel)) ggX0_countByPairs_X0_oneToTintLast
set_option maxRecDepth 20000 in
theorem ggX0_countByPairs_J6_bitCount_0f7a4 : GoodIn wsX0_countByPairs wsJ6_bitCount_0f7a4 := goodIn_r _ [14, 15, 16, 17] (by decide +kernel) (by decide +kernel)
set_option maxRecDepth 20000 in
theorem gX0_countByPairs_J6_bitCount_0f7a4 : GoodIn wsX0_countByPairs (va_wsS RX0 77 yJ6_bitCount_0f7a4 wsJ6_bitCount_0f7a4) := goodIn_app (goodIn_of _ (by decide +kernel)) ggX0_countByPairs_J6_bitCount_0f7a4
set_option maxRecDepth 20000 in
theorem ggX0_countByPairs_X0_firstWithStranger : GoodIn wsX0_countByPairs wsX0_firstWithStranger := goodIn_r _ [20, 5, 6, 3, 7] (by decide +kernel) (by decide +kernel)
set_option maxRecDepth 20000 in
theorem gX0_countByPairs_X0_firstWithStranger : GoodIn wsX0_countByPairs (va_wsS RX0 225 yX0_firstWithStranger wsX0_firstWithStranger) := goodIn_app (goodIn_of _ (by decide +kernel)) ggX0_countByPairs_X0_firstWithStranger
set_option maxRecDepth 20000 in
theorem ggX0_countByPairs_X0_firstOf : GoodIn wsX0_countByPairs wsX0_firstOf := goodIn_r _ [23, 5, 6, 3, 7] (by decide +kernel) (by decide +kernel)
set_option maxRecDepth 20000 in
theorem gX0_countByPairs_X0_firstOf : GoodIn wsX0_countByPairs (va_wsS RX0 228 yX0_firstOf wsX0_firstOf) := goodIn_app (goodIn_of _ (by decide +kernel)) ggX0_countByPairs_X0_firstOf
set_option maxRecDepth 20000 in
theorem ggX0_countByPairs_X0_makeOne : GoodIn wsX0_countByPairs wsX0_makeOne := goodIn_r _ [26, 5, 6, 3, 7] (by decide +kernel) (by decide +kernel)
set_option maxRecDepth 20000 in
theorem gX0_countByPairs_X0_makeOne : GoodIn wsX0_countByPairs (va_wsS RX0 231 yX0_makeOne wsX0_makeOne) := goodIn_app (goodIn_of _ (by decide +kernel)) ggX0_countByPairs_X0_makeOne
set_option maxRecDepth 20000 in
theorem ggX0_countByPairs_X0_countByPairs : GoodIn wsX0_countByPairs wsX0_countByPairs := goodIn_r _ [0, 1, 2, 3, 4, 5, 6, 7, 8, 9, 10, 11, 12, 13, 14, 15, 16, 17, 18, 19, 20, 21, 22, 23, 24, 25, 26, 27, 28] (by decide +kernel) (by decide +kernel)
set_option maxRecDepth 20000 in
theorem gX0_countByPairs_X0_countByPairs : GoodIn wsX0_countByPairs (va_wsS RX0 174 yX0_countByPairs wsX0_countByPairs) := goodIn_app (goodIn_of _ (by decide +kernel)) ggX0_countByPairs_X0_countByPairs
theorem dX0_countByPairs_0 : decode cX0_countByPairs 0 = .ok (.iload_n 1, 1) := by decide +kernel
theorem dX0_countByPairs_1 : decode cX0_countByPairs 1 = .ok (.bipush 10, 2) := by decide +kernel
theorem dX0_countByPairs_3 : decode cX0_countByPairs 3 = .ok (.if_icmp .lt 5, 3) := by decide +kernel
theorem dX0_countByPairs_6 : decode cX0_countByPairs 6 = .ok (.lconst 0, 1) := by decide +kernel
theorem dX0_countByPairs_7 : decode cX0_countByPairs 7 = .ok (.lreturn, 1) := by decide +kernel
theorem dX0_countByPairs_8 : decode cX0_countByPairs 8 = .ok (.aload_n 0, 1) := by decide +kernel
theorem dX0_countByPairs_9 : decode cX0_countByPairs 9 = .ok (.iload_n 1, 1) := by decide +kernel
theorem dX0_countByPairs_10 : decode cX0_countByPairs 10 = .ok (.aaload, 1) := by decide +kernel
theorem dX0_countByPairs_11 : decode cX0_countByPairs 11 = .ok (.astore 4, 2) := by decide +kernel
theorem dX0_countByPairs_13 : decode cX0_countByPairs 13 = .ok (.iload_n 2, 1) := by decide +kernel
theorem dX0_countByPairs_14 : decode cX0_countByPairs 14 = .ok (.istore 5, 2) := by decide +kernel
theorem dX0_countByPairs_16 : decode cX0_countByPairs 16 = .ok (.lconst 0, 1) := by decide +kernel
theorem dX0_countByPairs_17 : decode cX0_countByPairs 17 = .ok (.lstore 6, 2) := by decide +kernel
theorem dX0_countByPairs_19 : decode cX0_countByPairs 19 = .ok (.lconst 1, 1) := by decide +kernel
theorem dX0_countByPairs_20 : decode cX0_countByPairs 20 = .ok (.lstore 8, 2) := by decide +kernel
theorem dX0_countByPairs_22 : decode cX0_countByPairs 22 = .ok (.iconst 0, 1) := by decide +kernel
theorem dX0_countByPairs_23 : decode cX0_countByPairs 23 = .ok (.istore 10, 2) := by decide +kernel
theorem dX0_countByPairs_25 : decode cX0_countByPairs 25 = .ok (.iload 10, 2) := by decide +kernel
theorem dX0_countByPairs_27 : decode cX0_countByPairs 27 = .ok (.bipush 55, 2) := by decide +kernel
theorem dX0_countByPairs_29 : decode cX0_countByPairs 29 = .ok (.if_icmp .ge 164, 3) := by decide +kernel
theorem dX0_countByPairs_32 : decode cX0_countByPairs 32 = .ok (.iload 5, 2) := by decide +kernel
theorem dX0_countByPairs_34 : decode cX0_countByPairs 34 = .ok (.ifCond .eq 159, 3) := by decide +kernel
theorem dX0_countByPairs_37 : decode cX0_countByPairs 37 = .ok (.aload 4, 2) := by decide +kernel
theorem dX0_countByPairs_39 : decode cX0_countByPairs 39 = .ok (.iload 5, 2) := by decide +kernel
theorem dX0_countByPairs_41 : decode cX0_countByPairs 41 = .ok (.invokestatic 221, 3) := by decide +kernel
theorem dX0_countByPairs_44 : decode cX0_countByPairs 44 = .ok (.istore 11, 2) := by decide +kernel
theorem dX0_countByPairs_46 : decode cX0_countByPairs 46 = .ok (.iload 11, 2) := by decide +kernel
theorem dX0_countByPairs_48 : decode cX0_countByPairs 48 = .ok (.iconst (-1), 1) := by decide +kernel
theorem dX0_countByPairs_49 : decode cX0_countByPairs 49 = .ok (.if_icmp .eq 36, 3) := by decide +kernel
theorem dX0_countByPairs_52 : decode cX0_countByPairs 52 = .ok (.lload 8, 2) := by decide +kernel
theorem dX0_countByPairs_54 : decode cX0_countByPairs 54 = .ok (.iload_n 3, 1) := by decide +kernel
theorem dX0_countByPairs_55 : decode cX0_countByPairs 55 = .ok (.aload 4, 2) := by decide +kernel
theorem dX0_countByPairs_57 : decode cX0_countByPairs 57 = .ok (.iload 11, 2) := by decide +kernel
theorem dX0_countByPairs_59 : decode cX0_countByPairs 59 = .ok (.iaload, 1) := by decide +kernel
theorem dX0_countByPairs_60 : decode cX0_countByPairs 60 = .ok (.iload 5, 2) := by decide +kernel
theorem dX0_countByPairs_62 : decode cX0_countByPairs 62 = .ok (.iand, 1) := by decide +kernel
theorem dX0_countByPairs_63 : decode cX0_countByPairs 63 = .ok (.invokestatic 77, 3) := by decide +kernel
theorem dX0_countByPairs_66 : decode cX0_countByPairs 66 = .ok (.isub, 1) := by decide +kernel
theorem dX0_countByPairs_67 : decode cX0_countByPairs 67 = .ok (.i2l, 1) := by decide +kernel
theorem dX0_countByPairs_68 : decode cX0_countByPairs 68 = .ok (.lmul, 1) := by decide +kernel
theorem dX0_countByPairs_69 : decode cX0_countByPairs 69 = .ok (.lstore 8, 2) := by decide +kernel
theorem dX0_countByPairs_71 : decode cX0_countByPairs 71 = .ok (.iload 5, 2) := by decide +kernel
theorem dX0_countByPairs_73 : decode cX0_countByPairs 73 = .ok (.iconst 1, 1) := by decide +kernel
theorem dX0_countByPairs_74 : decode cX0_countByPairs 74 = .ok (.iload 11, 2) := by decide +kernel
theorem dX0_countByPairs_76 : decode cX0_countByPairs 76 = .ok (.ishl, 1) := by decide +kernel
theorem dX0_countByPairs_77 : decode cX0_countByPairs 77 = .ok (.iconst (-1), 1) := by decide +kernel
theorem dX0_countByPairs_78 : decode cX0_countByPairs 78 = .ok (.ixor, 1) := by decide +kernel
theorem dX0_countByPairs_79 : decode cX0_countByPairs 79 = .ok (.iand, 1) := by decide +kernel
theorem dX0_countByPairs_80 : decode cX0_countByPairs 80 = .ok (.istore 5, 2) := by decide +kernel
theorem dX0_countByPairs_82 : decode cX0_countByPairs 82 = .ok (.goto 105, 3) := by decide +kernel
theorem dX0_countByPairs_85 : decode cX0_countByPairs 85 = .ok (.aload 4, 2) := by decide +kernel
theorem dX0_countByPairs_87 : decode cX0_countByPairs 87 = .ok (.iload 5, 2) := by decide +kernel
theorem dX0_countByPairs_89 : decode cX0_countByPairs 89 = .ok (.invokestatic 225, 3) := by decide +kernel
theorem dX0_countByPairs_92 : decode cX0_countByPairs 92 = .ok (.istore 12, 2) := by decide +kernel
theorem dX0_countByPairs_94 : decode cX0_countByPairs 94 = .ok (.iload 5, 2) := by decide +kernel
theorem dX0_countByPairs_96 : decode cX0_countByPairs 96 = .ok (.aload 4, 2) := by decide +kernel
theorem dX0_countByPairs_98 : decode cX0_countByPairs 98 = .ok (.iload 12, 2) := by decide +kernel
theorem dX0_countByPairs_100 : decode cX0_countByPairs 100 = .ok (.iaload, 1) := by decide +kernel
theorem dX0_countByPairs_101 : decode cX0_countByPairs 101 = .ok (.iconst (-1), 1) := by decide +kernel
theorem dX0_countByPairs_102 : decode cX0_countByPairs 102 = .ok (.ixor, 1) := by decide +kernel
theorem dX0_countByPairs_103 : decode cX0_countByPairs 103 = .ok (.iand, 1) := by decide +kernel
theorem dX0_countByPairs_104 : decode cX0_countByPairs 104 = .ok (.iconst 1, 1) := by decide +kernel
theorem dX0_countByPairs_105 : decode cX0_countByPairs 105 = .ok (.iload 12, 2) := by decide +kernel
theorem dX0_countByPairs_107 : decode cX0_countByPairs 107 = .ok (.ishl, 1) := by decide +kernel
theorem dX0_countByPairs_108 : decode cX0_countByPairs 108 = .ok (.iconst (-1), 1) := by decide +kernel
theorem dX0_countByPairs_109 : decode cX0_countByPairs 109 = .ok (.ixor, 1) := by decide +kernel
theorem dX0_countByPairs_110 : decode cX0_countByPairs 110 = .ok (.iand, 1) := by decide +kernel
theorem dX0_countByPairs_111 : decode cX0_countByPairs 111 = .ok (.invokestatic 228, 3) := by decide +kernel
theorem dX0_countByPairs_114 : decode cX0_countByPairs 114 = .ok (.istore 13, 2) := by decide +kernel
theorem dX0_countByPairs_116 : decode cX0_countByPairs 116 = .ok (.iload_n 1, 1) := by decide +kernel
theorem dX0_countByPairs_117 : decode cX0_countByPairs 117 = .ok (.iconst 1, 1) := by decide +kernel
theorem dX0_countByPairs_118 : decode cX0_countByPairs 118 = .ok (.iadd, 1) := by decide +kernel
theorem dX0_countByPairs_119 : decode cX0_countByPairs 119 = .ok (.bipush 10, 2) := by decide +kernel
theorem dX0_countByPairs_121 : decode cX0_countByPairs 121 = .ok (.if_icmp .ge 42, 3) := by decide +kernel
theorem dX0_countByPairs_124 : decode cX0_countByPairs 124 = .ok (.aload 4, 2) := by decide +kernel
theorem dX0_countByPairs_126 : decode cX0_countByPairs 126 = .ok (.aload_n 0, 1) := by decide +kernel
theorem dX0_countByPairs_127 : decode cX0_countByPairs 127 = .ok (.iload_n 1, 1) := by decide +kernel
theorem dX0_countByPairs_128 : decode cX0_countByPairs 128 = .ok (.iconst 1, 1) := by decide +kernel
theorem dX0_countByPairs_129 : decode cX0_countByPairs 129 = .ok (.iadd, 1) := by decide +kernel
theorem dX0_countByPairs_130 : decode cX0_countByPairs 130 = .ok (.aaload, 1) := by decide +kernel
theorem dX0_countByPairs_131 : decode cX0_countByPairs 131 = .ok (.iload 12, 2) := by decide +kernel
theorem dX0_countByPairs_133 : decode cX0_countByPairs 133 = .ok (.iload 13, 2) := by decide +kernel
theorem dX0_countByPairs_135 : decode cX0_countByPairs 135 = .ok (.invokestatic 231, 3) := by decide +kernel
theorem dX0_countByPairs_138 : decode cX0_countByPairs 138 = .ok (.lload 6, 2) := by decide +kernel
theorem dX0_countByPairs_140 : decode cX0_countByPairs 140 = .ok (.lload 8, 2) := by decide +kernel
theorem dX0_countByPairs_142 : decode cX0_countByPairs 142 = .ok (.aload_n 0, 1) := by decide +kernel
theorem dX0_countByPairs_143 : decode cX0_countByPairs 143 = .ok (.iload_n 1, 1) := by decide +kernel
theorem dX0_countByPairs_144 : decode cX0_countByPairs 144 = .ok (.iconst 1, 1) := by decide +kernel
theorem dX0_countByPairs_145 : decode cX0_countByPairs 145 = .ok (.iadd, 1) := by decide +kernel
theorem dX0_countByPairs_146 : decode cX0_countByPairs 146 = .ok (.iload 5, 2) := by decide +kernel
theorem dX0_countByPairs_148 : decode cX0_countByPairs 148 = .ok (.iconst 1, 1) := by decide +kernel
theorem dX0_countByPairs_149 : decode cX0_countByPairs 149 = .ok (.iload 13, 2) := by decide +kernel
theorem dX0_countByPairs_151 : decode cX0_countByPairs 151 = .ok (.ishl, 1) := by decide +kernel
theorem dX0_countByPairs_152 : decode cX0_countByPairs 152 = .ok (.iconst (-1), 1) := by decide +kernel
theorem dX0_countByPairs_153 : decode cX0_countByPairs 153 = .ok (.ixor, 1) := by decide +kernel
theorem dX0_countByPairs_154 : decode cX0_countByPairs 154 = .ok (.iand, 1) := by decide +kernel
theorem dX0_countByPairs_155 : decode cX0_countByPairs 155 = .ok (.iload_n 3, 1) := by decide +kernel
theorem dX0_countByPairs_156 : decode cX0_countByPairs 156 = .ok (.invokestatic 174, 3) := by decide +kernel
theorem dX0_countByPairs_159 : decode cX0_countByPairs 159 = .ok (.lmul, 1) := by decide +kernel
theorem dX0_countByPairs_160 : decode cX0_countByPairs 160 = .ok (.ladd, 1) := by decide +kernel
theorem dX0_countByPairs_161 : decode cX0_countByPairs 161 = .ok (.lstore 6, 2) := by decide +kernel
theorem dX0_countByPairs_163 : decode cX0_countByPairs 163 = .ok (.aload 4, 2) := by decide +kernel
theorem dX0_countByPairs_165 : decode cX0_countByPairs 165 = .ok (.iload 12, 2) := by decide +kernel
theorem dX0_countByPairs_167 : decode cX0_countByPairs 167 = .ok (.dup2, 1) := by decide +kernel
theorem dX0_countByPairs_168 : decode cX0_countByPairs 168 = .ok (.iaload, 1) := by decide +kernel
theorem dX0_countByPairs_169 : decode cX0_countByPairs 169 = .ok (.iconst 1, 1) := by decide +kernel
theorem dX0_countByPairs_170 : decode cX0_countByPairs 170 = .ok (.iload 13, 2) := by decide +kernel
theorem dX0_countByPairs_172 : decode cX0_countByPairs 172 = .ok (.ishl, 1) := by decide +kernel
theorem dX0_countByPairs_173 : decode cX0_countByPairs 173 = .ok (.ior, 1) := by decide +kernel
theorem dX0_countByPairs_174 : decode cX0_countByPairs 174 = .ok (.iastore, 1) := by decide +kernel
theorem dX0_countByPairs_175 : decode cX0_countByPairs 175 = .ok (.aload 4, 2) := by decide +kernel
theorem dX0_countByPairs_177 : decode cX0_countByPairs 177 = .ok (.iload 13, 2) := by decide +kernel
theorem dX0_countByPairs_179 : decode cX0_countByPairs 179 = .ok (.dup2, 1) := by decide +kernel
theorem dX0_countByPairs_180 : decode cX0_countByPairs 180 = .ok (.iaload, 1) := by decide +kernel
theorem dX0_countByPairs_181 : decode cX0_countByPairs 181 = .ok (.iconst 1, 1) := by decide +kernel
theorem dX0_countByPairs_182 : decode cX0_countByPairs 182 = .ok (.iload 12, 2) := by decide +kernel
theorem dX0_countByPairs_184 : decode cX0_countByPairs 184 = .ok (.ishl, 1) := by decide +kernel
theorem dX0_countByPairs_185 : decode cX0_countByPairs 185 = .ok (.ior, 1) := by decide +kernel
theorem dX0_countByPairs_186 : decode cX0_countByPairs 186 = .ok (.iastore, 1) := by decide +kernel
theorem dX0_countByPairs_187 : decode cX0_countByPairs 187 = .ok (.iinc 10 1, 3) := by decide +kernel
theorem dX0_countByPairs_190 : decode cX0_countByPairs 190 = .ok (.goto (-165), 3) := by decide +kernel
theorem dX0_countByPairs_193 : decode cX0_countByPairs 193 = .ok (.lload 6, 2) := by decide +kernel
theorem dX0_countByPairs_195 : decode cX0_countByPairs 195 = .ok (.lload 8, 2) := by decide +kernel
theorem dX0_countByPairs_197 : decode cX0_countByPairs 197 = .ok (.ladd, 1) := by decide +kernel
theorem dX0_countByPairs_198 : decode cX0_countByPairs 198 = .ok (.lreturn, 1) := by decide +kernel
set_option maxRecDepth 20000 in
theorem ggX0_oneToTintLast_X0_has : GoodIn wsX0_oneToTintLast wsX0_has := goodIn_r _ [4] (by decide +kernel) (by decide +kernel)
set_option maxRecDepth 20000 in
theorem gX0_oneToTintLast_X0_has : GoodIn wsX0_oneToTintLast (va_wsS RX0 140 yX0_has wsX0_has) := goodIn_app (goodIn_of _ (by decide +kernel)) ggX0_oneToTintLast_X0_has
set_option maxRecDepth 20000 in
theorem ggX0_oneToTintLast_X0_areAllNeighbours : GoodIn wsX0_oneToTintLast wsX0_areAllNeighbours := goodIn_r _ [7, 1, 2, 3, 4] (by decide +kernel) (by decide +kernel)
set_option maxRecDepth 20000 in
theorem gX0_oneToTintLast_X0_areAllNeighbours : GoodIn wsX0_oneToTintLast (va_wsS RX0 235 yX0_areAllNeighbours wsX0_areAllNeighbours) := goodIn_app (goodIn_of _ (by decide +kernel)) ggX0_oneToTintLast_X0_areAllNeighbours
theorem dX0_oneToTintLast_0 : decode cX0_oneToTintLast 0 = .ok (.iconst 0, 1) := by decide +kernel
theorem dX0_oneToTintLast_1 : decode cX0_oneToTintLast 1 = .ok (.istore_n 2, 1) := by decide +kernel
theorem dX0_oneToTintLast_2 : decode cX0_oneToTintLast 2 = .ok (.iload_n 2, 1) := by decide +kernel
theorem dX0_oneToTintLast_3 : decode cX0_oneToTintLast 3 = .ok (.bipush 10, 2) := by decide +kernel
theorem dX0_oneToTintLast_5 : decode cX0_oneToTintLast 5 = .ok (.if_icmp .ge 31, 3) := by decide +kernel
theorem dX0_oneToTintLast_8 : decode cX0_oneToTintLast 8 = .ok (.iload_n 1, 1) := by decide +kernel
theorem dX0_oneToTintLast_9 : decode cX0_oneToTintLast 9 = .ok (.iload_n 2, 1) := by decide +kernel
theorem dX0_oneToTintLast_10 : decode cX0_oneToTintLast 10 = .ok (.invokestatic 140, 3) := by decide +kernel
theorem dX0_oneToTintLast_13 : decode cX0_oneToTintLast 13 = .ok (.ifCond .eq 17, 3) := by decide +kernel
theorem dX0_oneToTintLast_16 : decode cX0_oneToTintLast 16 = .ok (.aload_n 0, 1) := by decide +kernel
theorem dX0_oneToTintLast_17 : decode cX0_oneToTintLast 17 = .ok (.aload_n 0, 1) := by decide +kernel
theorem dX0_oneToTintLast_18 : decode cX0_oneToTintLast 18 = .ok (.iload_n 2, 1) := by decide +kernel
theorem dX0_oneToTintLast_19 : decode cX0_oneToTintLast 19 = .ok (.iaload, 1) := by decide +kernel
theorem dX0_oneToTintLast_20 : decode cX0_oneToTintLast 20 = .ok (.iload_n 1, 1) := by decide +kernel
theorem dX0_oneToTintLast_21 : decode cX0_oneToTintLast 21 = .ok (.iand, 1) := by decide +kernel
theorem dX0_oneToTintLast_22 : decode cX0_oneToTintLast 22 = .ok (.invokestatic 235, 3) := by decide +kernel
theorem dX0_oneToTintLast_25 : decode cX0_oneToTintLast 25 = .ok (.ifCond .eq 5, 3) := by decide +kernel
theorem dX0_oneToTintLast_28 : decode cX0_oneToTintLast 28 = .ok (.iload_n 2, 1) := by decide +kernel
theorem dX0_oneToTintLast_29 : decode cX0_oneToTintLast 29 = .ok (.ireturn, 1) := by decide +kernel
theorem dX0_oneToTintLast_30 : decode cX0_oneToTintLast 30 = .ok (.iinc 2 1, 3) := by decide +kernel
theorem dX0_oneToTintLast_33 : decode cX0_oneToTintLast 33 = .ok (.goto (-31), 3) := by decide +kernel
theorem dX0_oneToTintLast_36 : decode cX0_oneToTintLast 36 = .ok (.iconst (-1), 1) := by decide +kernel
theorem dX0_oneToTintLast_37 : decode cX0_oneToTintLast 37 = .ok (.ireturn, 1) := by decide +kernel
set_option maxRecDepth 20000 in
theorem ggX0_areAllNeighbours_X0_has : GoodIn wsX0_areAllNeighbours wsX0_has := goodIn_r _ [4] (by decide +kernel) (by decide +kernel)
set_option maxRecDepth 20000 in
theorem gX0_areAllNeighbours_X0_has : GoodIn wsX0_areAllNeighbours (va_wsS RX0 140 yX0_has wsX0_has) := goodIn_app (goodIn_of _ (by decide +kernel)) ggX0_areAllNeighbours_X0_has
theorem dX0_areAllNeighbours_0 : decode cX0_areAllNeighbours 0 = .ok (.iconst 0, 1) := by decide +kernel
theorem dX0_areAllNeighbours_1 : decode cX0_areAllNeighbours 1 = .ok (.istore_n 2, 1) := by decide +kernel
theorem dX0_areAllNeighbours_2 : decode cX0_areAllNeighbours 2 = .ok (.iload_n 2, 1) := by decide +kernel
theorem dX0_areAllNeighbours_3 : decode cX0_areAllNeighbours 3 = .ok (.bipush 10, 2) := by decide +kernel
theorem dX0_areAllNeighbours_5 : decode cX0_areAllNeighbours 5 = .ok (.if_icmp .ge 35, 3) := by decide +kernel
theorem dX0_areAllNeighbours_8 : decode cX0_areAllNeighbours 8 = .ok (.iload_n 1, 1) := by decide +kernel
theorem dX0_areAllNeighbours_9 : decode cX0_areAllNeighbours 9 = .ok (.iload_n 2, 1) := by decide +kernel
theorem dX0_areAllNeighbours_10 : decode cX0_areAllNeighbours 10 = .ok (.invokestatic 140, 3) := by decide +kernel
theorem dX0_areAllNeighbours_13 : decode cX0_areAllNeighbours 13 = .ok (.ifCond .eq 21, 3) := by decide +kernel
theorem dX0_areAllNeighbours_16 : decode cX0_areAllNeighbours 16 = .ok (.iload_n 1, 1) := by decide +kernel
theorem dX0_areAllNeighbours_17 : decode cX0_areAllNeighbours 17 = .ok (.aload_n 0, 1) := by decide +kernel
theorem dX0_areAllNeighbours_18 : decode cX0_areAllNeighbours 18 = .ok (.iload_n 2, 1) := by decide +kernel
theorem dX0_areAllNeighbours_19 : decode cX0_areAllNeighbours 19 = .ok (.iaload, 1) := by decide +kernel
theorem dX0_areAllNeighbours_20 : decode cX0_areAllNeighbours 20 = .ok (.iconst (-1), 1) := by decide +kernel
theorem dX0_areAllNeighbours_21 : decode cX0_areAllNeighbours 21 = .ok (.ixor, 1) := by decide +kernel
theorem dX0_areAllNeighbours_22 : decode cX0_areAllNeighbours 22 = .ok (.iand, 1) := by decide +kernel
theorem dX0_areAllNeighbours_23 : decode cX0_areAllNeighbours 23 = .ok (.iconst 1, 1) := by decide +kernel
theorem dX0_areAllNeighbours_24 : decode cX0_areAllNeighbours 24 = .ok (.iload_n 2, 1) := by decide +kernel
theorem dX0_areAllNeighbours_25 : decode cX0_areAllNeighbours 25 = .ok (.ishl, 1) := by decide +kernel
theorem dX0_areAllNeighbours_26 : decode cX0_areAllNeighbours 26 = .ok (.iconst (-1), 1) := by decide +kernel
theorem dX0_areAllNeighbours_27 : decode cX0_areAllNeighbours 27 = .ok (.ixor, 1) := by decide +kernel
theorem dX0_areAllNeighbours_28 : decode cX0_areAllNeighbours 28 = .ok (.iand, 1) := by decide +kernel
theorem dX0_areAllNeighbours_29 : decode cX0_areAllNeighbours 29 = .ok (.ifCond .eq 5, 3) := by decide +kernel
theorem dX0_areAllNeighbours_32 : decode cX0_areAllNeighbours 32 = .ok (.iconst 0, 1) := by decide +kernel
theorem dX0_areAllNeighbours_33 : decode cX0_areAllNeighbours 33 = .ok (.ireturn, 1) := by decide +kernel
theorem dX0_areAllNeighbours_34 : decode cX0_areAllNeighbours 34 = .ok (.iinc 2 1, 3) := by decide +kernel
theorem dX0_areAllNeighbours_37 : decode cX0_areAllNeighbours 37 = .ok (.goto (-35), 3) := by decide +kernel
theorem dX0_areAllNeighbours_40 : decode cX0_areAllNeighbours 40 = .ok (.iconst 1, 1) := by decide +kernel
theorem dX0_areAllNeighbours_41 : decode cX0_areAllNeighbours 41 = .ok (.ireturn, 1) := by decide +kernel
set_option maxRecDepth 20000 in
theorem ggX0_firstWithStranger_X0_has : GoodIn wsX0_firstWithStranger wsX0_has := goodIn_r _ [4] (by decide +kernel) (by decide +kernel)
set_option maxRecDepth 20000 in
theorem gX0_firstWithStranger_X0_has : GoodIn wsX0_firstWithStranger (va_wsS RX0 140 yX0_has wsX0_has) := goodIn_app (goodIn_of _ (by decide +kernel)) ggX0_firstWithStranger_X0_has
theorem dX0_firstWithStranger_0 : decode cX0_firstWithStranger 0 = .ok (.iconst 0, 1) := by decide +kernel
theorem dX0_firstWithStranger_1 : decode cX0_firstWithStranger 1 = .ok (.istore_n 2, 1) := by decide +kernel
theorem dX0_firstWithStranger_2 : decode cX0_firstWithStranger 2 = .ok (.iload_n 2, 1) := by decide +kernel
theorem dX0_firstWithStranger_3 : decode cX0_firstWithStranger 3 = .ok (.bipush 9, 2) := by decide +kernel
theorem dX0_firstWithStranger_5 : decode cX0_firstWithStranger 5 = .ok (.if_icmp .ge 35, 3) := by decide +kernel
theorem dX0_firstWithStranger_8 : decode cX0_firstWithStranger 8 = .ok (.iload_n 1, 1) := by decide +kernel
theorem dX0_firstWithStranger_9 : decode cX0_firstWithStranger 9 = .ok (.iload_n 2, 1) := by decide +kernel
theorem dX0_firstWithStranger_10 : decode cX0_firstWithStranger 10 = .ok (.invokestatic 140, 3) := by decide +kernel
theorem dX0_firstWithStranger_13 : decode cX0_firstWithStranger 13 = .ok (.ifCond .eq 21, 3) := by decide +kernel
theorem dX0_firstWithStranger_16 : decode cX0_firstWithStranger 16 = .ok (.iload_n 1, 1) := by decide +kernel
theorem dX0_firstWithStranger_17 : decode cX0_firstWithStranger 17 = .ok (.aload_n 0, 1) := by decide +kernel
theorem dX0_firstWithStranger_18 : decode cX0_firstWithStranger 18 = .ok (.iload_n 2, 1) := by decide +kernel
theorem dX0_firstWithStranger_19 : decode cX0_firstWithStranger 19 = .ok (.iaload, 1) := by decide +kernel
theorem dX0_firstWithStranger_20 : decode cX0_firstWithStranger 20 = .ok (.iconst (-1), 1) := by decide +kernel
theorem dX0_firstWithStranger_21 : decode cX0_firstWithStranger 21 = .ok (.ixor, 1) := by decide +kernel
theorem dX0_firstWithStranger_22 : decode cX0_firstWithStranger 22 = .ok (.iand, 1) := by decide +kernel
theorem dX0_firstWithStranger_23 : decode cX0_firstWithStranger 23 = .ok (.iconst 1, 1) := by decide +kernel
theorem dX0_firstWithStranger_24 : decode cX0_firstWithStranger 24 = .ok (.iload_n 2, 1) := by decide +kernel
theorem dX0_firstWithStranger_25 : decode cX0_firstWithStranger 25 = .ok (.ishl, 1) := by decide +kernel
theorem dX0_firstWithStranger_26 : decode cX0_firstWithStranger 26 = .ok (.iconst (-1), 1) := by decide +kernel
theorem dX0_firstWithStranger_27 : decode cX0_firstWithStranger 27 = .ok (.ixor, 1) := by decide +kernel
theorem dX0_firstWithStranger_28 : decode cX0_firstWithStranger 28 = .ok (.iand, 1) := by decide +kernel
theorem dX0_firstWithStranger_29 : decode cX0_firstWithStranger 29 = .ok (.ifCond .eq 5, 3) := by decide +kernel
theorem dX0_firstWithStranger_32 : decode cX0_firstWithStranger 32 = .ok (.iload_n 2, 1) := by decide +kernel
theorem dX0_firstWithStranger_33 : decode cX0_firstWithStranger 33 = .ok (.ireturn, 1) := by decide +kernel
theorem dX0_firstWithStranger_34 : decode cX0_firstWithStranger 34 = .ok (.iinc 2 1, 3) := by decide +kernel
theorem dX0_firstWithStranger_37 : decode cX0_firstWithStranger 37 = .ok (.goto (-35), 3) := by decide +kernel
theorem dX0_firstWithStranger_40 : decode cX0_firstWithStranger 40 = .ok (.bipush 9, 2) := by decide +kernel
theorem dX0_firstWithStranger_42 : decode cX0_firstWithStranger 42 = .ok (.ireturn, 1) := by decide +kernel
set_option maxRecDepth 20000 in
theorem ggX0_firstOf_X0_has : GoodIn wsX0_firstOf wsX0_has := goodIn_r _ [4] (by decide +kernel) (by decide +kernel)
set_option maxRecDepth 20000 in
theorem gX0_firstOf_X0_has : GoodIn wsX0_firstOf (va_wsS RX0 140 yX0_has wsX0_has) := goodIn_app (goodIn_of _ (by decide +kernel)) ggX0_firstOf_X0_has
theorem dX0_firstOf_0 : decode cX0_firstOf 0 = .ok (.iconst 0, 1) := by decide +kernel
theorem dX0_firstOf_1 : decode cX0_firstOf 1 = .ok (.istore_n 1, 1) := by decide +kernel
theorem dX0_firstOf_2 : decode cX0_firstOf 2 = .ok (.iload_n 1, 1) := by decide +kernel
theorem dX0_firstOf_3 : decode cX0_firstOf 3 = .ok (.bipush 9, 2) := by decide +kernel
theorem dX0_firstOf_5 : decode cX0_firstOf 5 = .ok (.if_icmp .ge 19, 3) := by decide +kernel
theorem dX0_firstOf_8 : decode cX0_firstOf 8 = .ok (.iload_n 0, 1) := by decide +kernel
theorem dX0_firstOf_9 : decode cX0_firstOf 9 = .ok (.iload_n 1, 1) := by decide +kernel
theorem dX0_firstOf_10 : decode cX0_firstOf 10 = .ok (.invokestatic 140, 3) := by decide +kernel
theorem dX0_firstOf_13 : decode cX0_firstOf 13 = .ok (.ifCond .eq 5, 3) := by decide +kernel
theorem dX0_firstOf_16 : decode cX0_firstOf 16 = .ok (.iload_n 1, 1) := by decide +kernel
theorem dX0_firstOf_17 : decode cX0_firstOf 17 = .ok (.ireturn, 1) := by decide +kernel
theorem dX0_firstOf_18 : decode cX0_firstOf 18 = .ok (.iinc 1 1, 3) := by decide +kernel
theorem dX0_firstOf_21 : decode cX0_firstOf 21 = .ok (.goto (-19), 3) := by decide +kernel
theorem dX0_firstOf_24 : decode cX0_firstOf 24 = .ok (.bipush 9, 2) := by decide +kernel
theorem dX0_firstOf_26 : decode cX0_firstOf 26 = .ok (.ireturn, 1) := by decide +kernel
set_option maxRecDepth 20000 in
theorem ggX0_makeOne_X0_has : GoodIn wsX0_makeOne wsX0_has := goodIn_r _ [4] (by decide +kernel) (by decide +kernel)
set_option maxRecDepth 20000 in
theorem gX0_makeOne_X0_has : GoodIn wsX0_makeOne (va_wsS RX0 140 yX0_has wsX0_has) := goodIn_app (goodIn_of _ (by decide +kernel)) ggX0_makeOne_X0_has
theorem dX0_makeOne_0 : decode cX0_makeOne 0 = .ok (.iconst 0, 1) := by decide +kernel
theorem dX0_makeOne_1 : decode cX0_makeOne 1 = .ok (.istore 4, 2) := by decide +kernel
theorem dX0_makeOne_3 : decode cX0_makeOne 3 = .ok (.iload 4, 2) := by decide +kernel
theorem dX0_makeOne_5 : decode cX0_makeOne 5 = .ok (.bipush 10, 2) := by decide +kernel
theorem dX0_makeOne_7 : decode cX0_makeOne 7 = .ok (.if_icmp .ge 39, 3) := by decide +kernel
theorem dX0_makeOne_10 : decode cX0_makeOne 10 = .ok (.aload_n 1, 1) := by decide +kernel
theorem dX0_makeOne_11 : decode cX0_makeOne 11 = .ok (.iload 4, 2) := by decide +kernel
theorem dX0_makeOne_13 : decode cX0_makeOne 13 = .ok (.aload_n 0, 1) := by decide +kernel
theorem dX0_makeOne_14 : decode cX0_makeOne 14 = .ok (.iload 4, 2) := by decide +kernel
theorem dX0_makeOne_16 : decode cX0_makeOne 16 = .ok (.iaload, 1) := by decide +kernel
theorem dX0_makeOne_17 : decode cX0_makeOne 17 = .ok (.iload_n 3, 1) := by decide +kernel
theorem dX0_makeOne_18 : decode cX0_makeOne 18 = .ok (.invokestatic 140, 3) := by decide +kernel
theorem dX0_makeOne_21 : decode cX0_makeOne 21 = .ok (.ifCond .eq 14, 3) := by decide +kernel
theorem dX0_makeOne_24 : decode cX0_makeOne 24 = .ok (.aload_n 0, 1) := by decide +kernel
theorem dX0_makeOne_25 : decode cX0_makeOne 25 = .ok (.iload 4, 2) := by decide +kernel
theorem dX0_makeOne_27 : decode cX0_makeOne 27 = .ok (.iaload, 1) := by decide +kernel
theorem dX0_makeOne_28 : decode cX0_makeOne 28 = .ok (.iconst 1, 1) := by decide +kernel
theorem dX0_makeOne_29 : decode cX0_makeOne 29 = .ok (.iload_n 2, 1) := by decide +kernel
theorem dX0_makeOne_30 : decode cX0_makeOne 30 = .ok (.ishl, 1) := by decide +kernel
theorem dX0_makeOne_31 : decode cX0_makeOne 31 = .ok (.ior, 1) := by decide +kernel
theorem dX0_makeOne_32 : decode cX0_makeOne 32 = .ok (.goto 7, 3) := by decide +kernel
theorem dX0_makeOne_35 : decode cX0_makeOne 35 = .ok (.aload_n 0, 1) := by decide +kernel
theorem dX0_makeOne_36 : decode cX0_makeOne 36 = .ok (.iload 4, 2) := by decide +kernel
theorem dX0_makeOne_38 : decode cX0_makeOne 38 = .ok (.iaload, 1) := by decide +kernel
theorem dX0_makeOne_39 : decode cX0_makeOne 39 = .ok (.iastore, 1) := by decide +kernel
theorem dX0_makeOne_40 : decode cX0_makeOne 40 = .ok (.iinc 4 1, 3) := by decide +kernel
theorem dX0_makeOne_43 : decode cX0_makeOne 43 = .ok (.goto (-40), 3) := by decide +kernel
theorem dX0_makeOne_46 : decode cX0_makeOne 46 = .ok (.aload_n 1, 1) := by decide +kernel
theorem dX0_makeOne_47 : decode cX0_makeOne 47 = .ok (.iload_n 2, 1) := by decide +kernel
theorem dX0_makeOne_48 : decode cX0_makeOne 48 = .ok (.aload_n 0, 1) := by decide +kernel
theorem dX0_makeOne_49 : decode cX0_makeOne 49 = .ok (.iload_n 2, 1) := by decide +kernel
theorem dX0_makeOne_50 : decode cX0_makeOne 50 = .ok (.iaload, 1) := by decide +kernel
theorem dX0_makeOne_51 : decode cX0_makeOne 51 = .ok (.aload_n 0, 1) := by decide +kernel
theorem dX0_makeOne_52 : decode cX0_makeOne 52 = .ok (.iload_n 3, 1) := by decide +kernel
theorem dX0_makeOne_53 : decode cX0_makeOne 53 = .ok (.iaload, 1) := by decide +kernel
theorem dX0_makeOne_54 : decode cX0_makeOne 54 = .ok (.ior, 1) := by decide +kernel
theorem dX0_makeOne_55 : decode cX0_makeOne 55 = .ok (.iastore, 1) := by decide +kernel
theorem dX0_makeOne_56 : decode cX0_makeOne 56 = .ok (.return_, 1) := by decide +kernel
theorem dJ6_bitCount_0f7a4_0 : decode cJ6_bitCount_0f7a4 0 = .ok (.iload_n 0, 1) := by decide +kernel
theorem dJ6_bitCount_0f7a4_1 : decode cJ6_bitCount_0f7a4 1 = .ok (.iload_n 0, 1) := by decide +kernel
theorem dJ6_bitCount_0f7a4_2 : decode cJ6_bitCount_0f7a4 2 = .ok (.iconst 1, 1) := by decide +kernel
theorem dJ6_bitCount_0f7a4_3 : decode cJ6_bitCount_0f7a4 3 = .ok (.iushr, 1) := by decide +kernel
theorem dJ6_bitCount_0f7a4_4 : decode cJ6_bitCount_0f7a4 4 = .ok (.ldc_w 265, 3) := by decide +kernel
theorem dJ6_bitCount_0f7a4_7 : decode cJ6_bitCount_0f7a4 7 = .ok (.iand, 1) := by decide +kernel
theorem dJ6_bitCount_0f7a4_8 : decode cJ6_bitCount_0f7a4 8 = .ok (.isub, 1) := by decide +kernel
theorem dJ6_bitCount_0f7a4_9 : decode cJ6_bitCount_0f7a4 9 = .ok (.istore_n 0, 1) := by decide +kernel
theorem dJ6_bitCount_0f7a4_10 : decode cJ6_bitCount_0f7a4 10 = .ok (.iload_n 0, 1) := by decide +kernel
theorem dJ6_bitCount_0f7a4_11 : decode cJ6_bitCount_0f7a4 11 = .ok (.ldc_w 266, 3) := by decide +kernel
theorem dJ6_bitCount_0f7a4_14 : decode cJ6_bitCount_0f7a4 14 = .ok (.iand, 1) := by decide +kernel
theorem dJ6_bitCount_0f7a4_15 : decode cJ6_bitCount_0f7a4 15 = .ok (.iload_n 0, 1) := by decide +kernel
theorem dJ6_bitCount_0f7a4_16 : decode cJ6_bitCount_0f7a4 16 = .ok (.iconst 2, 1) := by decide +kernel
theorem dJ6_bitCount_0f7a4_17 : decode cJ6_bitCount_0f7a4 17 = .ok (.iushr, 1) := by decide +kernel
theorem dJ6_bitCount_0f7a4_18 : decode cJ6_bitCount_0f7a4 18 = .ok (.ldc_w 266, 3) := by decide +kernel
theorem dJ6_bitCount_0f7a4_21 : decode cJ6_bitCount_0f7a4 21 = .ok (.iand, 1) := by decide +kernel
theorem dJ6_bitCount_0f7a4_22 : decode cJ6_bitCount_0f7a4 22 = .ok (.iadd, 1) := by decide +kernel
theorem dJ6_bitCount_0f7a4_23 : decode cJ6_bitCount_0f7a4 23 = .ok (.istore_n 0, 1) := by decide +kernel
theorem dJ6_bitCount_0f7a4_24 : decode cJ6_bitCount_0f7a4 24 = .ok (.iload_n 0, 1) := by decide +kernel
theorem dJ6_bitCount_0f7a4_25 : decode cJ6_bitCount_0f7a4 25 = .ok (.iload_n 0, 1) := by decide +kernel
theorem dJ6_bitCount_0f7a4_26 : decode cJ6_bitCount_0f7a4 26 = .ok (.iconst 4, 1) := by decide +kernel
theorem dJ6_bitCount_0f7a4_27 : decode cJ6_bitCount_0f7a4 27 = .ok (.iushr, 1) := by decide +kernel
theorem dJ6_bitCount_0f7a4_28 : decode cJ6_bitCount_0f7a4 28 = .ok (.iadd, 1) := by decide +kernel
theorem dJ6_bitCount_0f7a4_29 : decode cJ6_bitCount_0f7a4 29 = .ok (.ldc_w 267, 3) := by decide +kernel
theorem dJ6_bitCount_0f7a4_32 : decode cJ6_bitCount_0f7a4 32 = .ok (.iand, 1) := by decide +kernel
theorem dJ6_bitCount_0f7a4_33 : decode cJ6_bitCount_0f7a4 33 = .ok (.istore_n 0, 1) := by decide +kernel
theorem dJ6_bitCount_0f7a4_34 : decode cJ6_bitCount_0f7a4 34 = .ok (.iload_n 0, 1) := by decide +kernel
theorem dJ6_bitCount_0f7a4_35 : decode cJ6_bitCount_0f7a4 35 = .ok (.iload_n 0, 1) := by decide +kernel
theorem dJ6_bitCount_0f7a4_36 : decode cJ6_bitCount_0f7a4 36 = .ok (.bipush 8, 2) := by decide +kernel
theorem dJ6_bitCount_0f7a4_38 : decode cJ6_bitCount_0f7a4 38 = .ok (.iushr, 1) := by decide +kernel
theorem dJ6_bitCount_0f7a4_39 : decode cJ6_bitCount_0f7a4 39 = .ok (.iadd, 1) := by decide +kernel
theorem dJ6_bitCount_0f7a4_40 : decode cJ6_bitCount_0f7a4 40 = .ok (.istore_n 0, 1) := by decide +kernel
theorem dJ6_bitCount_0f7a4_41 : decode cJ6_bitCount_0f7a4 41 = .ok (.iload_n 0, 1) := by decide +kernel
theorem dJ6_bitCount_0f7a4_42 : decode cJ6_bitCount_0f7a4 42 = .ok (.iload_n 0, 1) := by decide +kernel
theorem dJ6_bitCount_0f7a4_43 : decode cJ6_bitCount_0f7a4 43 = .ok (.bipush 16, 2) := by decide +kernel
theorem dJ6_bitCount_0f7a4_45 : decode cJ6_bitCount_0f7a4 45 = .ok (.iushr, 1) := by decide +kernel
theorem dJ6_bitCount_0f7a4_46 : decode cJ6_bitCount_0f7a4 46 = .ok (.iadd, 1) := by decide +kernel
theorem dJ6_bitCount_0f7a4_47 : decode cJ6_bitCount_0f7a4 47 = .ok (.istore_n 0, 1) := by decide +kernel
theorem dJ6_bitCount_0f7a4_48 : decode cJ6_bitCount_0f7a4 48 = .ok (.iload_n 0, 1) := by decide +kernel
theorem dJ6_bitCount_0f7a4_49 : decode cJ6_bitCount_0f7a4 49 = .ok (.bipush 63, 2) := by decide +kernel
theorem dJ6_bitCount_0f7a4_51 : decode cJ6_bitCount_0f7a4 51 = .ok (.iand, 1) := by decide +kernel
theorem dJ6_bitCount_0f7a4_52 : decode cJ6_bitCount_0f7a4 52 = .ok (.ireturn, 1) := by decide +kernel
theorem dJ13_bitCount_95d88_0 : decode cJ13_bitCount_95d88 0 = .ok (.lload_n 0, 1) := by decide +kernel
theorem dJ13_bitCount_95d88_1 : decode cJ13_bitCount_95d88 1 = .ok (.lload_n 0, 1) := by decide +kernel
theorem dJ13_bitCount_95d88_2 : decode cJ13_bitCount_95d88 2 = .ok (.iconst 1, 1) := by decide +kernel
theorem dJ13_bitCount_95d88_3 : decode cJ13_bitCount_95d88 3 = .ok (.lushr, 1) := by decide +kernel
theorem dJ13_bitCount_95d88_4 : decode cJ13_bitCount_95d88 4 = .ok (.ldc2_w 314, 3) := by decide +kernel
theorem dJ13_bitCount_95d88_7 : decode cJ13_bitCount_95d88 7 = .ok (.land, 1) := by decide +kernel
theorem dJ13_bitCount_95d88_8 : decode cJ13_bitCount_95d88 8 = .ok (.lsub, 1) := by decide +kernel
theorem dJ13_bitCount_95d88_9 : decode cJ13_bitCount_95d88 9 = .ok (.lstore_n 0, 1) := by decide +kernel
theorem dJ13_bitCount_95d88_10 : decode cJ13_bitCount_95d88 10 = .ok (.lload_n 0, 1) := by decide +kernel
theorem dJ13_bitCount_95d88_11 : decode cJ13_bitCount_95d88 11 = .ok (.ldc2_w 316, 3) := by decide +kernel
theorem dJ13_bitCount_95d88_14 : decode cJ13_bitCount_95d88 14 = .ok (.land, 1) := by decide +kernel
theorem dJ13_bitCount_95d88_15 : decode cJ13_bitCount_95d88 15 = .ok (.lload_n 0, 1) := by decide +kernel
theorem dJ13_bitCount_95d88_16 : decode cJ13_bitCount_95d88 16 = .ok (.iconst 2, 1) := by decide +kernel
theorem dJ13_bitCount_95d88_17 : decode cJ13_bitCount_95d88 17 = .ok (.lushr, 1) := by decide +kernel
theorem dJ13_bitCount_95d88_18 : decode cJ13_bitCount_95d88 18 = .ok (.ldc2_w 316, 3) := by decide +kernel
theorem dJ13_bitCount_95d88_21 : decode cJ13_bitCount_95d88 21 = .ok (.land, 1) := by decide +kernel
theorem dJ13_bitCount_95d88_22 : decode cJ13_bitCount_95d88 22 = .ok (.ladd, 1) := by decide +kernel
theorem dJ13_bitCount_95d88_23 : decode cJ13_bitCount_95d88 23 = .ok (.lstore_n 0, 1) := by decide +kernel
theorem dJ13_bitCount_95d88_24 : decode cJ13_bitCount_95d88 24 = .ok (.lload_n 0, 1) := by decide +kernel
theorem dJ13_bitCount_95d88_25 : decode cJ13_bitCount_95d88 25 = .ok (.lload_n 0, 1) := by decide +kernel
theorem dJ13_bitCount_95d88_26 : decode cJ13_bitCount_95d88 26 = .ok (.iconst 4, 1) := by decide +kernel
theorem dJ13_bitCount_95d88_27 : decode cJ13_bitCount_95d88 27 = .ok (.lushr, 1) := by decide +kernel
theorem dJ13_bitCount_95d88_28 : decode cJ13_bitCount_95d88 28 = .ok (.ladd, 1) := by decide +kernel
theorem dJ13_bitCount_95d88_29 : decode cJ13_bitCount_95d88 29 = .ok (.ldc2_w 318, 3) := by decide +kernel
theorem dJ13_bitCount_95d88_32 : decode cJ13_bitCount_95d88 32 = .ok (.land, 1) := by decide +kernel
theorem dJ13_bitCount_95d88_33 : decode cJ13_bitCount_95d88 33 = .ok (.lstore_n 0, 1) := by decide +kernel
theorem dJ13_bitCount_95d88_34 : decode cJ13_bitCount_95d88 34 = .ok (.lload_n 0, 1) := by decide +kernel
theorem dJ13_bitCount_95d88_35 : decode cJ13_bitCount_95d88 35 = .ok (.lload_n 0, 1) := by decide +kernel
theorem dJ13_bitCount_95d88_36 : decode cJ13_bitCount_95d88 36 = .ok (.bipush 8, 2) := by decide +kernel
theorem dJ13_bitCount_95d88_38 : decode cJ13_bitCount_95d88 38 = .ok (.lushr, 1) := by decide +kernel
theorem dJ13_bitCount_95d88_39 : decode cJ13_bitCount_95d88 39 = .ok (.ladd, 1) := by decide +kernel
theorem dJ13_bitCount_95d88_40 : decode cJ13_bitCount_95d88 40 = .ok (.lstore_n 0, 1) := by decide +kernel
theorem dJ13_bitCount_95d88_41 : decode cJ13_bitCount_95d88 41 = .ok (.lload_n 0, 1) := by decide +kernel
theorem dJ13_bitCount_95d88_42 : decode cJ13_bitCount_95d88 42 = .ok (.lload_n 0, 1) := by decide +kernel
theorem dJ13_bitCount_95d88_43 : decode cJ13_bitCount_95d88 43 = .ok (.bipush 16, 2) := by decide +kernel
theorem dJ13_bitCount_95d88_45 : decode cJ13_bitCount_95d88 45 = .ok (.lushr, 1) := by decide +kernel
theorem dJ13_bitCount_95d88_46 : decode cJ13_bitCount_95d88 46 = .ok (.ladd, 1) := by decide +kernel
theorem dJ13_bitCount_95d88_47 : decode cJ13_bitCount_95d88 47 = .ok (.lstore_n 0, 1) := by decide +kernel
theorem dJ13_bitCount_95d88_48 : decode cJ13_bitCount_95d88 48 = .ok (.lload_n 0, 1) := by decide +kernel
theorem dJ13_bitCount_95d88_49 : decode cJ13_bitCount_95d88 49 = .ok (.lload_n 0, 1) := by decide +kernel
theorem dJ13_bitCount_95d88_50 : decode cJ13_bitCount_95d88 50 = .ok (.bipush 32, 2) := by decide +kernel
theorem dJ13_bitCount_95d88_52 : decode cJ13_bitCount_95d88 52 = .ok (.lushr, 1) := by decide +kernel
theorem dJ13_bitCount_95d88_53 : decode cJ13_bitCount_95d88 53 = .ok (.ladd, 1) := by decide +kernel
theorem dJ13_bitCount_95d88_54 : decode cJ13_bitCount_95d88 54 = .ok (.lstore_n 0, 1) := by decide +kernel
theorem dJ13_bitCount_95d88_55 : decode cJ13_bitCount_95d88 55 = .ok (.lload_n 0, 1) := by decide +kernel
theorem dJ13_bitCount_95d88_56 : decode cJ13_bitCount_95d88 56 = .ok (.l2i, 1) := by decide +kernel
theorem dJ13_bitCount_95d88_57 : decode cJ13_bitCount_95d88 57 = .ok (.bipush 127, 2) := by decide +kernel
theorem dJ13_bitCount_95d88_59 : decode cJ13_bitCount_95d88 59 = .ok (.iand, 1) := by decide +kernel
theorem dJ13_bitCount_95d88_60 : decode cJ13_bitCount_95d88 60 = .ok (.ireturn, 1) := by decide +kernel
theorem dJ9_max_7cf53_0 : decode cJ9_max_7cf53 0 = .ok (.iload_n 0, 1) := by decide +kernel
theorem dJ9_max_7cf53_1 : decode cJ9_max_7cf53 1 = .ok (.iload_n 1, 1) := by decide +kernel
theorem dJ9_max_7cf53_2 : decode cJ9_max_7cf53 2 = .ok (.if_icmp .lt 7, 3) := by decide +kernel
theorem dJ9_max_7cf53_5 : decode cJ9_max_7cf53 5 = .ok (.iload_n 0, 1) := by decide +kernel
theorem dJ9_max_7cf53_6 : decode cJ9_max_7cf53 6 = .ok (.goto 4, 3) := by decide +kernel
theorem dJ9_max_7cf53_9 : decode cJ9_max_7cf53 9 = .ok (.iload_n 1, 1) := by decide +kernel
theorem dJ9_max_7cf53_10 : decode cJ9_max_7cf53 10 = .ok (.ireturn, 1) := by decide +kernel
theorem dJ7_fill_d0a16_0 : decode cJ7_fill_d0a16 0 = .ok (.iconst 0, 1) := by decide +kernel
theorem dJ7_fill_d0a16_1 : decode cJ7_fill_d0a16 1 = .ok (.istore_n 3, 1) := by decide +kernel
theorem dJ7_fill_d0a16_2 : decode cJ7_fill_d0a16 2 = .ok (.aload_n 0, 1) := by decide +kernel
theorem dJ7_fill_d0a16_3 : decode cJ7_fill_d0a16 3 = .ok (.arraylength, 1) := by decide +kernel
theorem dJ7_fill_d0a16_4 : decode cJ7_fill_d0a16 4 = .ok (.istore 4, 2) := by decide +kernel
theorem dJ7_fill_d0a16_6 : decode cJ7_fill_d0a16 6 = .ok (.iload_n 3, 1) := by decide +kernel
theorem dJ7_fill_d0a16_7 : decode cJ7_fill_d0a16 7 = .ok (.iload 4, 2) := by decide +kernel
theorem dJ7_fill_d0a16_9 : decode cJ7_fill_d0a16 9 = .ok (.if_icmp .ge 13, 3) := by decide +kernel
theorem dJ7_fill_d0a16_12 : decode cJ7_fill_d0a16 12 = .ok (.aload_n 0, 1) := by decide +kernel
theorem dJ7_fill_d0a16_13 : decode cJ7_fill_d0a16 13 = .ok (.iload_n 3, 1) := by decide +kernel
theorem dJ7_fill_d0a16_14 : decode cJ7_fill_d0a16 14 = .ok (.lload_n 1, 1) := by decide +kernel
theorem dJ7_fill_d0a16_15 : decode cJ7_fill_d0a16 15 = .ok (.lastore, 1) := by decide +kernel
theorem dJ7_fill_d0a16_16 : decode cJ7_fill_d0a16 16 = .ok (.iinc 3 1, 3) := by decide +kernel
theorem dJ7_fill_d0a16_19 : decode cJ7_fill_d0a16 19 = .ok (.goto (-13), 3) := by decide +kernel
theorem dJ7_fill_d0a16_22 : decode cJ7_fill_d0a16 22 = .ok (.return_, 1) := by decide +kernel
abbrev vwCl : List vw_C := [(RX0, TX0, 8)]
