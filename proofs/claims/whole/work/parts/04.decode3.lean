theorem dX1_goes_41 : decode cX1_goes 41 = .ok (.ireturn, 1) := by decide +kernel
theorem dX1_told_0 : decode cX1_told 0 = .ok (.aload_n 0, 1) := by decide +kernel
theorem dX1_told_1 : decode cX1_told 1 = .ok (.iconst 0, 1) := by decide +kernel
theorem dX1_told_2 : decode cX1_told 2 = .ok (.putfield 29, 3) := by decide +kernel
theorem dX1_told_5 : decode cX1_told 5 = .ok (.iload_n 1, 1) := by decide +kernel
theorem dX1_told_6 : decode cX1_told 6 = .ok (.ireturn, 1) := by decide +kernel
set_option maxRecDepth 20000 in
theorem ggX1_isCell_X1_in : GoodIn wsX1_isCell wsX1_in := goodIn_r _ [4] (by decide +kernel) (by decide +kernel)
set_option maxRecDepth 20000 in
theorem gX1_isCell_X1_in : GoodIn wsX1_isCell (va_wsS RX1 33 yX1_in wsX1_in) := goodIn_app (goodIn_of _ (by decide +kernel)) ggX1_isCell_X1_in
theorem dX1_isCell_0 : decode cX1_isCell 0 = .ok (.iload_n 0, 1) := by decide +kernel
theorem dX1_isCell_1 : decode cX1_isCell 1 = .ok (.iconst 0, 1) := by decide +kernel
theorem dX1_isCell_2 : decode cX1_isCell 2 = .ok (.iconst 5, 1) := by decide +kernel
theorem dX1_isCell_3 : decode cX1_isCell 3 = .ok (.invokestatic 33, 3) := by decide +kernel
theorem dX1_isCell_6 : decode cX1_isCell 6 = .ok (.ifCond .eq 16, 3) := by decide +kernel
theorem dX1_isCell_9 : decode cX1_isCell 9 = .ok (.iload_n 1, 1) := by decide +kernel
theorem dX1_isCell_10 : decode cX1_isCell 10 = .ok (.iconst 0, 1) := by decide +kernel
theorem dX1_isCell_11 : decode cX1_isCell 11 = .ok (.iconst 5, 1) := by decide +kernel
theorem dX1_isCell_12 : decode cX1_isCell 12 = .ok (.invokestatic 33, 3) := by decide +kernel
theorem dX1_isCell_15 : decode cX1_isCell 15 = .ok (.ifCond .eq 7, 3) := by decide +kernel
theorem dX1_isCell_18 : decode cX1_isCell 18 = .ok (.iconst 1, 1) := by decide +kernel
theorem dX1_isCell_19 : decode cX1_isCell 19 = .ok (.goto 4, 3) := by decide +kernel
theorem dX1_isCell_22 : decode cX1_isCell 22 = .ok (.iconst 0, 1) := by decide +kernel
theorem dX1_isCell_23 : decode cX1_isCell 23 = .ok (.ireturn, 1) := by decide +kernel
set_option maxRecDepth 20000 in
theorem ggX1_isCountry_X1_in : GoodIn wsX1_isCountry wsX1_in := goodIn_r _ [4] (by decide +kernel) (by decide +kernel)
set_option maxRecDepth 20000 in
theorem gX1_isCountry_X1_in : GoodIn wsX1_isCountry (va_wsS RX1 33 yX1_in wsX1_in) := goodIn_app (goodIn_of _ (by decide +kernel)) ggX1_isCountry_X1_in
theorem dX1_isCountry_0 : decode cX1_isCountry 0 = .ok (.iload_n 0, 1) := by decide +kernel
theorem dX1_isCountry_1 : decode cX1_isCountry 1 = .ok (.iconst 0, 1) := by decide +kernel
theorem dX1_isCountry_2 : decode cX1_isCountry 2 = .ok (.bipush 9, 2) := by decide +kernel
theorem dX1_isCountry_4 : decode cX1_isCountry 4 = .ok (.invokestatic 33, 3) := by decide +kernel
theorem dX1_isCountry_7 : decode cX1_isCountry 7 = .ok (.ireturn, 1) := by decide +kernel
theorem dX1_bits_0 : decode cX1_bits 0 = .ok (.iconst 0, 1) := by decide +kernel
theorem dX1_bits_1 : decode cX1_bits 1 = .ok (.istore_n 2, 1) := by decide +kernel
theorem dX1_bits_2 : decode cX1_bits 2 = .ok (.iconst 0, 1) := by decide +kernel
theorem dX1_bits_3 : decode cX1_bits 3 = .ok (.istore_n 3, 1) := by decide +kernel
theorem dX1_bits_4 : decode cX1_bits 4 = .ok (.iload_n 3, 1) := by decide +kernel
theorem dX1_bits_5 : decode cX1_bits 5 = .ok (.bipush 36, 2) := by decide +kernel
theorem dX1_bits_7 : decode cX1_bits 7 = .ok (.if_icmp .ge 18, 3) := by decide +kernel
theorem dX1_bits_10 : decode cX1_bits 10 = .ok (.iload_n 2, 1) := by decide +kernel
theorem dX1_bits_11 : decode cX1_bits 11 = .ok (.lload_n 0, 1) := by decide +kernel
theorem dX1_bits_12 : decode cX1_bits 12 = .ok (.iload_n 3, 1) := by decide +kernel
theorem dX1_bits_13 : decode cX1_bits 13 = .ok (.lshr, 1) := by decide +kernel
theorem dX1_bits_14 : decode cX1_bits 14 = .ok (.lconst 1, 1) := by decide +kernel
theorem dX1_bits_15 : decode cX1_bits 15 = .ok (.land, 1) := by decide +kernel
theorem dX1_bits_16 : decode cX1_bits 16 = .ok (.l2i, 1) := by decide +kernel
theorem dX1_bits_17 : decode cX1_bits 17 = .ok (.iadd, 1) := by decide +kernel
theorem dX1_bits_18 : decode cX1_bits 18 = .ok (.istore_n 2, 1) := by decide +kernel
theorem dX1_bits_19 : decode cX1_bits 19 = .ok (.iinc 3 1, 3) := by decide +kernel
theorem dX1_bits_22 : decode cX1_bits 22 = .ok (.goto (-18), 3) := by decide +kernel
theorem dX1_bits_25 : decode cX1_bits 25 = .ok (.iload_n 2, 1) := by decide +kernel
theorem dX1_bits_26 : decode cX1_bits 26 = .ok (.ireturn, 1) := by decide +kernel
theorem dX1_spread_0 : decode cX1_spread 0 = .ok (.lload_n 0, 1) := by decide +kernel
theorem dX1_spread_1 : decode cX1_spread 1 = .ok (.lload_n 0, 1) := by decide +kernel
theorem dX1_spread_2 : decode cX1_spread 2 = .ok (.bipush 6, 2) := by decide +kernel
theorem dX1_spread_4 : decode cX1_spread 4 = .ok (.lshl, 1) := by decide +kernel
theorem dX1_spread_5 : decode cX1_spread 5 = .ok (.lor, 1) := by decide +kernel
theorem dX1_spread_6 : decode cX1_spread 6 = .ok (.lload_n 0, 1) := by decide +kernel
theorem dX1_spread_7 : decode cX1_spread 7 = .ok (.bipush 6, 2) := by decide +kernel
theorem dX1_spread_9 : decode cX1_spread 9 = .ok (.lshr, 1) := by decide +kernel
theorem dX1_spread_10 : decode cX1_spread 10 = .ok (.lor, 1) := by decide +kernel
theorem dX1_spread_11 : decode cX1_spread 11 = .ok (.lload_n 0, 1) := by decide +kernel
theorem dX1_spread_12 : decode cX1_spread 12 = .ok (.ldc2_w 37, 3) := by decide +kernel
theorem dX1_spread_15 : decode cX1_spread 15 = .ok (.land, 1) := by decide +kernel
theorem dX1_spread_16 : decode cX1_spread 16 = .ok (.iconst 1, 1) := by decide +kernel
theorem dX1_spread_17 : decode cX1_spread 17 = .ok (.lshl, 1) := by decide +kernel
theorem dX1_spread_18 : decode cX1_spread 18 = .ok (.lor, 1) := by decide +kernel
theorem dX1_spread_19 : decode cX1_spread 19 = .ok (.lload_n 0, 1) := by decide +kernel
theorem dX1_spread_20 : decode cX1_spread 20 = .ok (.ldc2_w 39, 3) := by decide +kernel
theorem dX1_spread_23 : decode cX1_spread 23 = .ok (.land, 1) := by decide +kernel
theorem dX1_spread_24 : decode cX1_spread 24 = .ok (.iconst 1, 1) := by decide +kernel
theorem dX1_spread_25 : decode cX1_spread 25 = .ok (.lshr, 1) := by decide +kernel
theorem dX1_spread_26 : decode cX1_spread 26 = .ok (.lor, 1) := by decide +kernel
theorem dX1_spread_27 : decode cX1_spread 27 = .ok (.ldc2_w 41, 3) := by decide +kernel
theorem dX1_spread_30 : decode cX1_spread 30 = .ok (.land, 1) := by decide +kernel
theorem dX1_spread_31 : decode cX1_spread 31 = .ok (.lreturn, 1) := by decide +kernel
set_option maxRecDepth 20000 in
theorem ggX1_reach_X1_spread : GoodIn wsX1_reach wsX1_spread := goodIn_r _ [4, 5, 6, 7] (by decide +kernel) (by decide +kernel)
set_option maxRecDepth 20000 in
theorem gX1_reach_X1_spread : GoodIn wsX1_reach (va_wsS RX1 43 yX1_spread wsX1_spread) := goodIn_app (goodIn_of _ (by decide +kernel)) ggX1_reach_X1_spread
theorem dX1_reach_0 : decode cX1_reach 0 = .ok (.lconst 0, 1) := by decide +kernel
theorem dX1_reach_1 : decode cX1_reach 1 = .ok (.lstore 4, 2) := by decide +kernel
theorem dX1_reach_3 : decode cX1_reach 3 = .ok (.lload_n 0, 1) := by decide +kernel
theorem dX1_reach_4 : decode cX1_reach 4 = .ok (.lload_n 2, 1) := by decide +kernel
theorem dX1_reach_5 : decode cX1_reach 5 = .ok (.land, 1) := by decide +kernel
theorem dX1_reach_6 : decode cX1_reach 6 = .ok (.lstore 6, 2) := by decide +kernel
theorem dX1_reach_8 : decode cX1_reach 8 = .ok (.lload 6, 2) := by decide +kernel
theorem dX1_reach_10 : decode cX1_reach 10 = .ok (.lload 4, 2) := by decide +kernel
theorem dX1_reach_12 : decode cX1_reach 12 = .ok (.lcmp, 1) := by decide +kernel
theorem dX1_reach_13 : decode cX1_reach 13 = .ok (.ifCond .eq 19, 3) := by decide +kernel
theorem dX1_reach_16 : decode cX1_reach 16 = .ok (.lload 6, 2) := by decide +kernel
theorem dX1_reach_18 : decode cX1_reach 18 = .ok (.lstore 4, 2) := by decide +kernel
theorem dX1_reach_20 : decode cX1_reach 20 = .ok (.lload 6, 2) := by decide +kernel
theorem dX1_reach_22 : decode cX1_reach 22 = .ok (.invokestatic 43, 3) := by decide +kernel
theorem dX1_reach_25 : decode cX1_reach 25 = .ok (.lload_n 2, 1) := by decide +kernel
theorem dX1_reach_26 : decode cX1_reach 26 = .ok (.land, 1) := by decide +kernel
theorem dX1_reach_27 : decode cX1_reach 27 = .ok (.lstore 6, 2) := by decide +kernel
theorem dX1_reach_29 : decode cX1_reach 29 = .ok (.goto (-21), 3) := by decide +kernel
theorem dX1_reach_32 : decode cX1_reach 32 = .ok (.lload 6, 2) := by decide +kernel
theorem dX1_reach_34 : decode cX1_reach 34 = .ok (.lreturn, 1) := by decide +kernel
set_option maxRecDepth 20000 in
theorem ggX1_looks_X1_spread : GoodIn wsX1_looks wsX1_spread := goodIn_r _ [8, 9, 10, 11] (by decide +kernel) (by decide +kernel)
set_option maxRecDepth 20000 in
theorem gX1_looks_X1_spread : GoodIn wsX1_looks (va_wsS RX1 43 yX1_spread wsX1_spread) := goodIn_app (goodIn_of _ (by decide +kernel)) ggX1_looks_X1_spread
theorem dX1_looks_0 : decode cX1_looks 0 = .ok (.aload_n 0, 1) := by decide +kernel
theorem dX1_looks_1 : decode cX1_looks 1 = .ok (.iconst 0, 1) := by decide +kernel
theorem dX1_looks_2 : decode cX1_looks 2 = .ok (.putfield 47, 3) := by decide +kernel
theorem dX1_looks_5 : decode cX1_looks 5 = .ok (.iconst 0, 1) := by decide +kernel
theorem dX1_looks_6 : decode cX1_looks 6 = .ok (.istore_n 1, 1) := by decide +kernel
theorem dX1_looks_7 : decode cX1_looks 7 = .ok (.iload_n 1, 1) := by decide +kernel
theorem dX1_looks_8 : decode cX1_looks 8 = .ok (.bipush 10, 2) := by decide +kernel
theorem dX1_looks_10 : decode cX1_looks 10 = .ok (.if_icmp .ge 83, 3) := by decide +kernel
theorem dX1_looks_13 : decode cX1_looks 13 = .ok (.aload_n 0, 1) := by decide +kernel
theorem dX1_looks_14 : decode cX1_looks 14 = .ok (.getfield 16, 3) := by decide +kernel
theorem dX1_looks_17 : decode cX1_looks 17 = .ok (.iload_n 1, 1) := by decide +kernel
theorem dX1_looks_18 : decode cX1_looks 18 = .ok (.lconst 0, 1) := by decide +kernel
theorem dX1_looks_19 : decode cX1_looks 19 = .ok (.lastore, 1) := by decide +kernel
theorem dX1_looks_20 : decode cX1_looks 20 = .ok (.iconst 0, 1) := by decide +kernel
theorem dX1_looks_21 : decode cX1_looks 21 = .ok (.istore_n 2, 1) := by decide +kernel
theorem dX1_looks_22 : decode cX1_looks 22 = .ok (.iload_n 2, 1) := by decide +kernel
theorem dX1_looks_23 : decode cX1_looks 23 = .ok (.bipush 36, 2) := by decide +kernel
theorem dX1_looks_25 : decode cX1_looks 25 = .ok (.if_icmp .ge 35, 3) := by decide +kernel
theorem dX1_looks_28 : decode cX1_looks 28 = .ok (.aload_n 0, 1) := by decide +kernel
theorem dX1_looks_29 : decode cX1_looks 29 = .ok (.getfield 16, 3) := by decide +kernel
theorem dX1_looks_32 : decode cX1_looks 32 = .ok (.iload_n 1, 1) := by decide +kernel
theorem dX1_looks_33 : decode cX1_looks 33 = .ok (.dup2, 1) := by decide +kernel
theorem dX1_looks_34 : decode cX1_looks 34 = .ok (.laload, 1) := by decide +kernel
theorem dX1_looks_35 : decode cX1_looks 35 = .ok (.aload_n 0, 1) := by decide +kernel
theorem dX1_looks_36 : decode cX1_looks 36 = .ok (.getfield 9, 3) := by decide +kernel
theorem dX1_looks_39 : decode cX1_looks 39 = .ok (.iload_n 2, 1) := by decide +kernel
theorem dX1_looks_40 : decode cX1_looks 40 = .ok (.iaload, 1) := by decide +kernel
theorem dX1_looks_41 : decode cX1_looks 41 = .ok (.iload_n 1, 1) := by decide +kernel
theorem dX1_looks_42 : decode cX1_looks 42 = .ok (.if_icmp .ne 9, 3) := by decide +kernel
theorem dX1_looks_45 : decode cX1_looks 45 = .ok (.lconst 1, 1) := by decide +kernel
theorem dX1_looks_46 : decode cX1_looks 46 = .ok (.iload_n 2, 1) := by decide +kernel
theorem dX1_looks_47 : decode cX1_looks 47 = .ok (.lshl, 1) := by decide +kernel
theorem dX1_looks_48 : decode cX1_looks 48 = .ok (.goto 4, 3) := by decide +kernel
theorem dX1_looks_51 : decode cX1_looks 51 = .ok (.lconst 0, 1) := by decide +kernel
theorem dX1_looks_52 : decode cX1_looks 52 = .ok (.lor, 1) := by decide +kernel
theorem dX1_looks_53 : decode cX1_looks 53 = .ok (.lastore, 1) := by decide +kernel
theorem dX1_looks_54 : decode cX1_looks 54 = .ok (.iinc 2 1, 3) := by decide +kernel
theorem dX1_looks_57 : decode cX1_looks 57 = .ok (.goto (-35), 3) := by decide +kernel
theorem dX1_looks_60 : decode cX1_looks 60 = .ok (.aload_n 0, 1) := by decide +kernel
theorem dX1_looks_61 : decode cX1_looks 61 = .ok (.dup, 1) := by decide +kernel
theorem dX1_looks_62 : decode cX1_looks 62 = .ok (.getfield 47, 3) := by decide +kernel
theorem dX1_looks_65 : decode cX1_looks 65 = .ok (.aload_n 0, 1) := by decide +kernel
theorem dX1_looks_66 : decode cX1_looks 66 = .ok (.getfield 16, 3) := by decide +kernel
theorem dX1_looks_69 : decode cX1_looks 69 = .ok (.iload_n 1, 1) := by decide +kernel
theorem dX1_looks_70 : decode cX1_looks 70 = .ok (.laload, 1) := by decide +kernel
theorem dX1_looks_71 : decode cX1_looks 71 = .ok (.lconst 0, 1) := by decide +kernel
theorem dX1_looks_72 : decode cX1_looks 72 = .ok (.lcmp, 1) := by decide +kernel
theorem dX1_looks_73 : decode cX1_looks 73 = .ok (.ifCond .ne 7, 3) := by decide +kernel
theorem dX1_looks_76 : decode cX1_looks 76 = .ok (.iconst 0, 1) := by decide +kernel
theorem dX1_looks_77 : decode cX1_looks 77 = .ok (.goto 6, 3) := by decide +kernel
theorem dX1_looks_80 : decode cX1_looks 80 = .ok (.iconst 1, 1) := by decide +kernel
theorem dX1_looks_81 : decode cX1_looks 81 = .ok (.iload_n 1, 1) := by decide +kernel
theorem dX1_looks_82 : decode cX1_looks 82 = .ok (.ishl, 1) := by decide +kernel
theorem dX1_looks_83 : decode cX1_looks 83 = .ok (.ior, 1) := by decide +kernel
theorem dX1_looks_84 : decode cX1_looks 84 = .ok (.putfield 47, 3) := by decide +kernel
theorem dX1_looks_87 : decode cX1_looks 87 = .ok (.iinc 1 1, 3) := by decide +kernel
theorem dX1_looks_90 : decode cX1_looks 90 = .ok (.goto (-83), 3) := by decide +kernel
theorem dX1_looks_93 : decode cX1_looks 93 = .ok (.iconst 0, 1) := by decide +kernel
theorem dX1_looks_94 : decode cX1_looks 94 = .ok (.istore_n 1, 1) := by decide +kernel
theorem dX1_looks_95 : decode cX1_looks 95 = .ok (.iload_n 1, 1) := by decide +kernel
theorem dX1_looks_96 : decode cX1_looks 96 = .ok (.bipush 10, 2) := by decide +kernel
theorem dX1_looks_98 : decode cX1_looks 98 = .ok (.if_icmp .ge 72, 3) := by decide +kernel
theorem dX1_looks_101 : decode cX1_looks 101 = .ok (.aload_n 0, 1) := by decide +kernel
theorem dX1_looks_102 : decode cX1_looks 102 = .ok (.getfield 20, 3) := by decide +kernel
theorem dX1_looks_105 : decode cX1_looks 105 = .ok (.iload_n 1, 1) := by decide +kernel
theorem dX1_looks_106 : decode cX1_looks 106 = .ok (.iconst 0, 1) := by decide +kernel
theorem dX1_looks_107 : decode cX1_looks 107 = .ok (.iastore, 1) := by decide +kernel
theorem dX1_looks_108 : decode cX1_looks 108 = .ok (.iconst 0, 1) := by decide +kernel
theorem dX1_looks_109 : decode cX1_looks 109 = .ok (.istore_n 2, 1) := by decide +kernel
theorem dX1_looks_110 : decode cX1_looks 110 = .ok (.iload_n 2, 1) := by decide +kernel
theorem dX1_looks_111 : decode cX1_looks 111 = .ok (.bipush 10, 2) := by decide +kernel
theorem dX1_looks_113 : decode cX1_looks 113 = .ok (.if_icmp .ge 51, 3) := by decide +kernel
theorem dX1_looks_116 : decode cX1_looks 116 = .ok (.aload_n 0, 1) := by decide +kernel
theorem dX1_looks_117 : decode cX1_looks 117 = .ok (.getfield 20, 3) := by decide +kernel
theorem dX1_looks_120 : decode cX1_looks 120 = .ok (.iload_n 1, 1) := by decide +kernel
theorem dX1_looks_121 : decode cX1_looks 121 = .ok (.dup2, 1) := by decide +kernel
theorem dX1_looks_122 : decode cX1_looks 122 = .ok (.iaload, 1) := by decide +kernel
theorem dX1_looks_123 : decode cX1_looks 123 = .ok (.iload_n 2, 1) := by decide +kernel
theorem dX1_looks_124 : decode cX1_looks 124 = .ok (.iload_n 1, 1) := by decide +kernel
theorem dX1_looks_125 : decode cX1_looks 125 = .ok (.if_icmp .eq 30, 3) := by decide +kernel
theorem dX1_looks_128 : decode cX1_looks 128 = .ok (.aload_n 0, 1) := by decide +kernel
theorem dX1_looks_129 : decode cX1_looks 129 = .ok (.getfield 16, 3) := by decide +kernel
theorem dX1_looks_132 : decode cX1_looks 132 = .ok (.iload_n 1, 1) := by decide +kernel
theorem dX1_looks_133 : decode cX1_looks 133 = .ok (.laload, 1) := by decide +kernel
theorem dX1_looks_134 : decode cX1_looks 134 = .ok (.invokestatic 43, 3) := by decide +kernel
theorem dX1_looks_137 : decode cX1_looks 137 = .ok (.aload_n 0, 1) := by decide +kernel
theorem dX1_looks_138 : decode cX1_looks 138 = .ok (.getfield 16, 3) := by decide +kernel
theorem dX1_looks_141 : decode cX1_looks 141 = .ok (.iload_n 2, 1) := by decide +kernel
theorem dX1_looks_142 : decode cX1_looks 142 = .ok (.laload, 1) := by decide +kernel
theorem dX1_looks_143 : decode cX1_looks 143 = .ok (.land, 1) := by decide +kernel
theorem dX1_looks_144 : decode cX1_looks 144 = .ok (.lconst 0, 1) := by decide +kernel
theorem dX1_looks_145 : decode cX1_looks 145 = .ok (.lcmp, 1) := by decide +kernel
theorem dX1_looks_146 : decode cX1_looks 146 = .ok (.ifCond .eq 9, 3) := by decide +kernel
theorem dX1_looks_149 : decode cX1_looks 149 = .ok (.iconst 1, 1) := by decide +kernel
theorem dX1_looks_150 : decode cX1_looks 150 = .ok (.iload_n 2, 1) := by decide +kernel
theorem dX1_looks_151 : decode cX1_looks 151 = .ok (.ishl, 1) := by decide +kernel
theorem dX1_looks_152 : decode cX1_looks 152 = .ok (.goto 4, 3) := by decide +kernel
theorem dX1_looks_155 : decode cX1_looks 155 = .ok (.iconst 0, 1) := by decide +kernel
theorem dX1_looks_156 : decode cX1_looks 156 = .ok (.ior, 1) := by decide +kernel
theorem dX1_looks_157 : decode cX1_looks 157 = .ok (.iastore, 1) := by decide +kernel
theorem dX1_looks_158 : decode cX1_looks 158 = .ok (.iinc 2 1, 3) := by decide +kernel
theorem dX1_looks_161 : decode cX1_looks 161 = .ok (.goto (-51), 3) := by decide +kernel
theorem dX1_looks_164 : decode cX1_looks 164 = .ok (.iinc 1 1, 3) := by decide +kernel
theorem dX1_looks_167 : decode cX1_looks 167 = .ok (.goto (-72), 3) := by decide +kernel
theorem dX1_looks_170 : decode cX1_looks 170 = .ok (.return_, 1) := by decide +kernel
theorem dX1_isThere_0 : decode cX1_isThere 0 = .ok (.aload_n 0, 1) := by decide +kernel
theorem dX1_isThere_1 : decode cX1_isThere 1 = .ok (.getfield 47, 3) := by decide +kernel
theorem dX1_isThere_4 : decode cX1_isThere 4 = .ok (.iload_n 1, 1) := by decide +kernel
theorem dX1_isThere_5 : decode cX1_isThere 5 = .ok (.ishr, 1) := by decide +kernel
theorem dX1_isThere_6 : decode cX1_isThere 6 = .ok (.iconst 1, 1) := by decide +kernel
theorem dX1_isThere_7 : decode cX1_isThere 7 = .ok (.iand, 1) := by decide +kernel
theorem dX1_isThere_8 : decode cX1_isThere 8 = .ok (.iconst 1, 1) := by decide +kernel
theorem dX1_isThere_9 : decode cX1_isThere 9 = .ok (.if_icmp .ne 7, 3) := by decide +kernel
theorem dX1_isThere_12 : decode cX1_isThere 12 = .ok (.iconst 1, 1) := by decide +kernel
theorem dX1_isThere_13 : decode cX1_isThere 13 = .ok (.goto 4, 3) := by decide +kernel
theorem dX1_isThere_16 : decode cX1_isThere 16 = .ok (.iconst 0, 1) := by decide +kernel
theorem dX1_isThere_17 : decode cX1_isThere 17 = .ok (.ireturn, 1) := by decide +kernel
theorem dX1_paints_0 : decode cX1_paints 0 = .ok (.aload_n 0, 1) := by decide +kernel
theorem dX1_paints_1 : decode cX1_paints 1 = .ok (.getfield 9, 3) := by decide +kernel
theorem dX1_paints_4 : decode cX1_paints 4 = .ok (.iload_n 1, 1) := by decide +kernel
theorem dX1_paints_5 : decode cX1_paints 5 = .ok (.iaload, 1) := by decide +kernel
theorem dX1_paints_6 : decode cX1_paints 6 = .ok (.istore_n 3, 1) := by decide +kernel
theorem dX1_paints_7 : decode cX1_paints 7 = .ok (.aload_n 0, 1) := by decide +kernel
theorem dX1_paints_8 : decode cX1_paints 8 = .ok (.getfield 9, 3) := by decide +kernel
theorem dX1_paints_11 : decode cX1_paints 11 = .ok (.iload_n 1, 1) := by decide +kernel
theorem dX1_paints_12 : decode cX1_paints 12 = .ok (.iload_n 2, 1) := by decide +kernel
theorem dX1_paints_13 : decode cX1_paints 13 = .ok (.iastore, 1) := by decide +kernel
theorem dX1_paints_14 : decode cX1_paints 14 = .ok (.iload_n 3, 1) := by decide +kernel
theorem dX1_paints_15 : decode cX1_paints 15 = .ok (.iload_n 2, 1) := by decide +kernel
theorem dX1_paints_16 : decode cX1_paints 16 = .ok (.if_icmp .ne 7, 3) := by decide +kernel
theorem dX1_paints_19 : decode cX1_paints 19 = .ok (.iconst 0, 1) := by decide +kernel
theorem dX1_paints_20 : decode cX1_paints 20 = .ok (.goto 4, 3) := by decide +kernel
theorem dX1_paints_23 : decode cX1_paints 23 = .ok (.iconst 1, 1) := by decide +kernel
theorem dX1_paints_24 : decode cX1_paints 24 = .ok (.ireturn, 1) := by decide +kernel
set_option maxRecDepth 20000 in
theorem ggX1_paint_X1_isCell : GoodIn wsX1_paint wsX1_isCell := goodIn_r _ [5, 6, 7, 4, 8] (by decide +kernel) (by decide +kernel)
set_option maxRecDepth 20000 in
theorem gX1_paint_X1_isCell : GoodIn wsX1_paint (va_wsS RX1 50 yX1_isCell wsX1_isCell) := goodIn_app (goodIn_of _ (by decide +kernel)) ggX1_paint_X1_isCell
set_option maxRecDepth 20000 in
theorem ggX1_paint_X1_isCountry : GoodIn wsX1_paint wsX1_isCountry := goodIn_r _ [11, 6, 7, 4, 8] (by decide +kernel) (by decide +kernel)
set_option maxRecDepth 20000 in
theorem gX1_paint_X1_isCountry : GoodIn wsX1_paint (va_wsS RX1 54 yX1_isCountry wsX1_isCountry) := goodIn_app (goodIn_of _ (by decide +kernel)) ggX1_paint_X1_isCountry
set_option maxRecDepth 20000 in
theorem ggX1_paint_X1_goes : GoodIn wsX1_paint wsX1_goes := goodIn_r _ [15, 16, 21, 22, 23, 24, 25, 26, 27, 28] (by decide +kernel) (by decide +kernel)
set_option maxRecDepth 20000 in
theorem gX1_paint_X1_goes : GoodIn wsX1_paint (wsV RX1 58 RX1 yX1_goes wsX1_goes) := goodIn_app (goodIn_of _ (by decide +kernel)) ggX1_paint_X1_goes
set_option maxRecDepth 20000 in
theorem ggX1_paint_X1_paints : GoodIn wsX1_paint wsX1_paints := goodIn_r _ [20, 1, 21, 22, 23, 24, 25, 26, 27, 28] (by decide +kernel) (by decide +kernel)
set_option maxRecDepth 20000 in
theorem gX1_paint_X1_paints : GoodIn wsX1_paint (wsV RX1 62 RX1 yX1_paints wsX1_paints) := goodIn_app (goodIn_of _ (by decide +kernel)) ggX1_paint_X1_paints
theorem dX1_paint_0 : decode cX1_paint 0 = .ok (.aload_n 0, 1) := by decide +kernel
theorem dX1_paint_1 : decode cX1_paint 1 = .ok (.iload_n 1, 1) := by decide +kernel
theorem dX1_paint_2 : decode cX1_paint 2 = .ok (.iload_n 2, 1) := by decide +kernel
theorem dX1_paint_3 : decode cX1_paint 3 = .ok (.invokestatic 50, 3) := by decide +kernel
theorem dX1_paint_6 : decode cX1_paint 6 = .ok (.iload_n 3, 1) := by decide +kernel
theorem dX1_paint_7 : decode cX1_paint 7 = .ok (.iconst (-1), 1) := by decide +kernel
theorem dX1_paint_8 : decode cX1_paint 8 = .ok (.if_icmp .eq 10, 3) := by decide +kernel
theorem dX1_paint_11 : decode cX1_paint 11 = .ok (.iload_n 3, 1) := by decide +kernel
theorem dX1_paint_12 : decode cX1_paint 12 = .ok (.invokestatic 54, 3) := by decide +kernel
theorem dX1_paint_15 : decode cX1_paint 15 = .ok (.ifCond .eq 7, 3) := by decide +kernel
theorem dX1_paint_18 : decode cX1_paint 18 = .ok (.iconst 1, 1) := by decide +kernel
theorem dX1_paint_19 : decode cX1_paint 19 = .ok (.goto 4, 3) := by decide +kernel
theorem dX1_paint_22 : decode cX1_paint 22 = .ok (.iconst 0, 1) := by decide +kernel
theorem dX1_paint_23 : decode cX1_paint 23 = .ok (.iconst 1, 1) := by decide +kernel
theorem dX1_paint_24 : decode cX1_paint 24 = .ok (.invokevirtual 58, 3) := by decide +kernel
theorem dX1_paint_27 : decode cX1_paint 27 = .ok (.ifCond .ne 5, 3) := by decide +kernel
theorem dX1_paint_30 : decode cX1_paint 30 = .ok (.iconst 0, 1) := by decide +kernel
theorem dX1_paint_31 : decode cX1_paint 31 = .ok (.ireturn, 1) := by decide +kernel
theorem dX1_paint_32 : decode cX1_paint 32 = .ok (.aload_n 0, 1) := by decide +kernel
theorem dX1_paint_33 : decode cX1_paint 33 = .ok (.getfield 9, 3) := by decide +kernel
theorem dX1_paint_36 : decode cX1_paint 36 = .ok (.bipush 6, 2) := by decide +kernel
theorem dX1_paint_38 : decode cX1_paint 38 = .ok (.iload_n 1, 1) := by decide +kernel
theorem dX1_paint_39 : decode cX1_paint 39 = .ok (.imul, 1) := by decide +kernel
theorem dX1_paint_40 : decode cX1_paint 40 = .ok (.iload_n 2, 1) := by decide +kernel
theorem dX1_paint_41 : decode cX1_paint 41 = .ok (.iadd, 1) := by decide +kernel
theorem dX1_paint_42 : decode cX1_paint 42 = .ok (.iaload, 1) := by decide +kernel
theorem dX1_paint_43 : decode cX1_paint 43 = .ok (.istore 4, 2) := by decide +kernel
theorem dX1_paint_45 : decode cX1_paint 45 = .ok (.aload_n 0, 1) := by decide +kernel
theorem dX1_paint_46 : decode cX1_paint 46 = .ok (.bipush 6, 2) := by decide +kernel
theorem dX1_paint_48 : decode cX1_paint 48 = .ok (.iload_n 1, 1) := by decide +kernel
theorem dX1_paint_49 : decode cX1_paint 49 = .ok (.imul, 1) := by decide +kernel
theorem dX1_paint_50 : decode cX1_paint 50 = .ok (.iload_n 2, 1) := by decide +kernel
theorem dX1_paint_51 : decode cX1_paint 51 = .ok (.iadd, 1) := by decide +kernel
theorem dX1_paint_52 : decode cX1_paint 52 = .ok (.iload_n 3, 1) := by decide +kernel
theorem dX1_paint_53 : decode cX1_paint 53 = .ok (.invokevirtual 62, 3) := by decide +kernel
theorem dX1_paint_56 : decode cX1_paint 56 = .ok (.istore 5, 2) := by decide +kernel
theorem dX1_paint_58 : decode cX1_paint 58 = .ok (.iload 4, 2) := by decide +kernel
theorem dX1_paint_60 : decode cX1_paint 60 = .ok (.ireturn, 1) := by decide +kernel
set_option maxRecDepth 20000 in
theorem ggX1_paintBlock_X1_isCell : GoodIn wsX1_paintBlock wsX1_isCell := goodIn_r _ [4, 5, 6, 3, 7] (by decide +kernel) (by decide +kernel)
set_option maxRecDepth 20000 in
theorem gX1_paintBlock_X1_isCell : GoodIn wsX1_paintBlock (va_wsS RX1 50 yX1_isCell wsX1_isCell) := goodIn_app (goodIn_of _ (by decide +kernel)) ggX1_paintBlock_X1_isCell
set_option maxRecDepth 20000 in
theorem ggX1_paintBlock_X1_isCountry : GoodIn wsX1_paintBlock wsX1_isCountry := goodIn_r _ [10, 5, 6, 3, 7] (by decide +kernel) (by decide +kernel)
set_option maxRecDepth 20000 in
theorem gX1_paintBlock_X1_isCountry : GoodIn wsX1_paintBlock (va_wsS RX1 54 yX1_isCountry wsX1_isCountry) := goodIn_app (goodIn_of _ (by decide +kernel)) ggX1_paintBlock_X1_isCountry
set_option maxRecDepth 20000 in
theorem ggX1_paintBlock_X1_goes : GoodIn wsX1_paintBlock wsX1_goes := goodIn_r _ [14, 15, 21, 22, 23, 24, 25, 26, 27, 28] (by decide +kernel) (by decide +kernel)
set_option maxRecDepth 20000 in
theorem gX1_paintBlock_X1_goes : GoodIn wsX1_paintBlock (wsV RX1 58 RX1 yX1_goes wsX1_goes) := goodIn_app (goodIn_of _ (by decide +kernel)) ggX1_paintBlock_X1_goes
set_option maxRecDepth 20000 in
theorem ggX1_paintBlock_X1_in : GoodIn wsX1_paintBlock wsX1_in := goodIn_r _ [7] (by decide +kernel) (by decide +kernel)
set_option maxRecDepth 20000 in
theorem gX1_paintBlock_X1_in : GoodIn wsX1_paintBlock (va_wsS RX1 33 yX1_in wsX1_in) := goodIn_app (goodIn_of _ (by decide +kernel)) ggX1_paintBlock_X1_in
set_option maxRecDepth 20000 in
theorem ggX1_paintBlock_X1_paints : GoodIn wsX1_paintBlock wsX1_paints := goodIn_r _ [19, 20, 21, 22, 23, 24, 25, 26, 27, 28] (by decide +kernel) (by decide +kernel)
set_option maxRecDepth 20000 in
theorem gX1_paintBlock_X1_paints : GoodIn wsX1_paintBlock (wsV RX1 62 RX1 yX1_paints wsX1_paints) := goodIn_app (goodIn_of _ (by decide +kernel)) ggX1_paintBlock_X1_paints
theorem dX1_paintBlock_0 : decode cX1_paintBlock 0 = .ok (.iload_n 1, 1) := by decide +kernel
theorem dX1_paintBlock_1 : decode cX1_paintBlock 1 = .ok (.iload_n 2, 1) := by decide +kernel
theorem dX1_paintBlock_2 : decode cX1_paintBlock 2 = .ok (.invokestatic 50, 3) := by decide +kernel
theorem dX1_paintBlock_5 : decode cX1_paintBlock 5 = .ok (.ifCond .eq 16, 3) := by decide +kernel
theorem dX1_paintBlock_8 : decode cX1_paintBlock 8 = .ok (.iload_n 3, 1) := by decide +kernel
theorem dX1_paintBlock_9 : decode cX1_paintBlock 9 = .ok (.iload 4, 2) := by decide +kernel
theorem dX1_paintBlock_11 : decode cX1_paintBlock 11 = .ok (.invokestatic 50, 3) := by decide +kernel
theorem dX1_paintBlock_14 : decode cX1_paintBlock 14 = .ok (.ifCond .eq 7, 3) := by decide +kernel
theorem dX1_paintBlock_17 : decode cX1_paintBlock 17 = .ok (.iconst 1, 1) := by decide +kernel
theorem dX1_paintBlock_18 : decode cX1_paintBlock 18 = .ok (.goto 4, 3) := by decide +kernel
theorem dX1_paintBlock_21 : decode cX1_paintBlock 21 = .ok (.iconst 0, 1) := by decide +kernel
theorem dX1_paintBlock_22 : decode cX1_paintBlock 22 = .ok (.istore 6, 2) := by decide +kernel
theorem dX1_paintBlock_24 : decode cX1_paintBlock 24 = .ok (.aload_n 0, 1) := by decide +kernel
theorem dX1_paintBlock_25 : decode cX1_paintBlock 25 = .ok (.iload 6, 2) := by decide +kernel
theorem dX1_paintBlock_27 : decode cX1_paintBlock 27 = .ok (.iload 5, 2) := by decide +kernel
theorem dX1_paintBlock_29 : decode cX1_paintBlock 29 = .ok (.iconst (-1), 1) := by decide +kernel
theorem dX1_paintBlock_30 : decode cX1_paintBlock 30 = .ok (.if_icmp .eq 11, 3) := by decide +kernel
theorem dX1_paintBlock_33 : decode cX1_paintBlock 33 = .ok (.iload 5, 2) := by decide +kernel
theorem dX1_paintBlock_35 : decode cX1_paintBlock 35 = .ok (.invokestatic 54, 3) := by decide +kernel
theorem dX1_paintBlock_38 : decode cX1_paintBlock 38 = .ok (.ifCond .eq 18, 3) := by decide +kernel
theorem dX1_paintBlock_41 : decode cX1_paintBlock 41 = .ok (.iload_n 3, 1) := by decide +kernel
theorem dX1_paintBlock_42 : decode cX1_paintBlock 42 = .ok (.iload_n 1, 1) := by decide +kernel
theorem dX1_paintBlock_43 : decode cX1_paintBlock 43 = .ok (.if_icmp .lt 13, 3) := by decide +kernel
theorem dX1_paintBlock_46 : decode cX1_paintBlock 46 = .ok (.iload 4, 2) := by decide +kernel
theorem dX1_paintBlock_48 : decode cX1_paintBlock 48 = .ok (.iload_n 2, 1) := by decide +kernel
theorem dX1_paintBlock_49 : decode cX1_paintBlock 49 = .ok (.if_icmp .lt 7, 3) := by decide +kernel
theorem dX1_paintBlock_52 : decode cX1_paintBlock 52 = .ok (.iconst 1, 1) := by decide +kernel
theorem dX1_paintBlock_53 : decode cX1_paintBlock 53 = .ok (.goto 4, 3) := by decide +kernel
theorem dX1_paintBlock_56 : decode cX1_paintBlock 56 = .ok (.iconst 0, 1) := by decide +kernel
theorem dX1_paintBlock_57 : decode cX1_paintBlock 57 = .ok (.iconst 1, 1) := by decide +kernel
theorem dX1_paintBlock_58 : decode cX1_paintBlock 58 = .ok (.invokevirtual 58, 3) := by decide +kernel
theorem dX1_paintBlock_61 : decode cX1_paintBlock 61 = .ok (.ifCond .ne 5, 3) := by decide +kernel
theorem dX1_paintBlock_64 : decode cX1_paintBlock 64 = .ok (.iconst 0, 1) := by decide +kernel
theorem dX1_paintBlock_65 : decode cX1_paintBlock 65 = .ok (.ireturn, 1) := by decide +kernel
theorem dX1_paintBlock_66 : decode cX1_paintBlock 66 = .ok (.iconst 0, 1) := by decide +kernel
theorem dX1_paintBlock_67 : decode cX1_paintBlock 67 = .ok (.istore 7, 2) := by decide +kernel
theorem dX1_paintBlock_69 : decode cX1_paintBlock 69 = .ok (.iconst 0, 1) := by decide +kernel
theorem dX1_paintBlock_70 : decode cX1_paintBlock 70 = .ok (.istore 8, 2) := by decide +kernel
theorem dX1_paintBlock_72 : decode cX1_paintBlock 72 = .ok (.iload 8, 2) := by decide +kernel
theorem dX1_paintBlock_74 : decode cX1_paintBlock 74 = .ok (.bipush 36, 2) := by decide +kernel
theorem dX1_paintBlock_76 : decode cX1_paintBlock 76 = .ok (.if_icmp .ge 53, 3) := by decide +kernel
theorem dX1_paintBlock_79 : decode cX1_paintBlock 79 = .ok (.iload 7, 2) := by decide +kernel
theorem dX1_paintBlock_81 : decode cX1_paintBlock 81 = .ok (.iload 8, 2) := by decide +kernel
theorem dX1_paintBlock_83 : decode cX1_paintBlock 83 = .ok (.bipush 6, 2) := by decide +kernel
theorem dX1_paintBlock_85 : decode cX1_paintBlock 85 = .ok (.idiv, 1) := by decide +kernel
theorem dX1_paintBlock_86 : decode cX1_paintBlock 86 = .ok (.iload_n 1, 1) := by decide +kernel
theorem dX1_paintBlock_87 : decode cX1_paintBlock 87 = .ok (.iload_n 3, 1) := by decide +kernel
theorem dX1_paintBlock_88 : decode cX1_paintBlock 88 = .ok (.invokestatic 33, 3) := by decide +kernel
theorem dX1_paintBlock_91 : decode cX1_paintBlock 91 = .ok (.ifCond .eq 28, 3) := by decide +kernel
theorem dX1_paintBlock_94 : decode cX1_paintBlock 94 = .ok (.iload 8, 2) := by decide +kernel
theorem dX1_paintBlock_96 : decode cX1_paintBlock 96 = .ok (.bipush 6, 2) := by decide +kernel
theorem dX1_paintBlock_98 : decode cX1_paintBlock 98 = .ok (.irem, 1) := by decide +kernel
theorem dX1_paintBlock_99 : decode cX1_paintBlock 99 = .ok (.iload_n 2, 1) := by decide +kernel
theorem dX1_paintBlock_100 : decode cX1_paintBlock 100 = .ok (.iload 4, 2) := by decide +kernel
theorem dX1_paintBlock_102 : decode cX1_paintBlock 102 = .ok (.invokestatic 33, 3) := by decide +kernel
theorem dX1_paintBlock_105 : decode cX1_paintBlock 105 = .ok (.ifCond .eq 14, 3) := by decide +kernel
theorem dX1_paintBlock_108 : decode cX1_paintBlock 108 = .ok (.aload_n 0, 1) := by decide +kernel
theorem dX1_paintBlock_109 : decode cX1_paintBlock 109 = .ok (.iload 8, 2) := by decide +kernel
theorem dX1_paintBlock_111 : decode cX1_paintBlock 111 = .ok (.iload 5, 2) := by decide +kernel
theorem dX1_paintBlock_113 : decode cX1_paintBlock 113 = .ok (.invokevirtual 62, 3) := by decide +kernel
theorem dX1_paintBlock_116 : decode cX1_paintBlock 116 = .ok (.goto 4, 3) := by decide +kernel
theorem dX1_paintBlock_119 : decode cX1_paintBlock 119 = .ok (.iconst 0, 1) := by decide +kernel
theorem dX1_paintBlock_120 : decode cX1_paintBlock 120 = .ok (.iadd, 1) := by decide +kernel
theorem dX1_paintBlock_121 : decode cX1_paintBlock 121 = .ok (.istore 7, 2) := by decide +kernel
theorem dX1_paintBlock_123 : decode cX1_paintBlock 123 = .ok (.iinc 8 1, 3) := by decide +kernel
theorem dX1_paintBlock_126 : decode cX1_paintBlock 126 = .ok (.goto (-54), 3) := by decide +kernel
theorem dX1_paintBlock_129 : decode cX1_paintBlock 129 = .ok (.iload 7, 2) := by decide +kernel
theorem dX1_paintBlock_131 : decode cX1_paintBlock 131 = .ok (.ireturn, 1) := by decide +kernel
set_option maxRecDepth 20000 in
theorem ggX1_countryAt_X1_isCell : GoodIn wsX1_countryAt wsX1_isCell := goodIn_r _ [5, 6, 7, 4, 8] (by decide +kernel) (by decide +kernel)
set_option maxRecDepth 20000 in
theorem gX1_countryAt_X1_isCell : GoodIn wsX1_countryAt (va_wsS RX1 50 yX1_isCell wsX1_isCell) := goodIn_app (goodIn_of _ (by decide +kernel)) ggX1_countryAt_X1_isCell
set_option maxRecDepth 20000 in
theorem ggX1_countryAt_X1_goes : GoodIn wsX1_countryAt wsX1_goes := goodIn_r _ [12, 13, 14, 15, 16, 17, 18, 19, 20, 21] (by decide +kernel) (by decide +kernel)
set_option maxRecDepth 20000 in
theorem gX1_countryAt_X1_goes : GoodIn wsX1_countryAt (wsV RX1 58 RX1 yX1_goes wsX1_goes) := goodIn_app (goodIn_of _ (by decide +kernel)) ggX1_countryAt_X1_goes
theorem dX1_countryAt_0 : decode cX1_countryAt 0 = .ok (.aload_n 0, 1) := by decide +kernel
theorem dX1_countryAt_1 : decode cX1_countryAt 1 = .ok (.iload_n 1, 1) := by decide +kernel
theorem dX1_countryAt_2 : decode cX1_countryAt 2 = .ok (.iload_n 2, 1) := by decide +kernel
theorem dX1_countryAt_3 : decode cX1_countryAt 3 = .ok (.invokestatic 50, 3) := by decide +kernel
theorem dX1_countryAt_6 : decode cX1_countryAt 6 = .ok (.iconst 1, 1) := by decide +kernel
theorem dX1_countryAt_7 : decode cX1_countryAt 7 = .ok (.iconst 1, 1) := by decide +kernel
theorem dX1_countryAt_8 : decode cX1_countryAt 8 = .ok (.invokevirtual 58, 3) := by decide +kernel
theorem dX1_countryAt_11 : decode cX1_countryAt 11 = .ok (.ifCond .eq 17, 3) := by decide +kernel
theorem dX1_countryAt_14 : decode cX1_countryAt 14 = .ok (.aload_n 0, 1) := by decide +kernel
theorem dX1_countryAt_15 : decode cX1_countryAt 15 = .ok (.getfield 9, 3) := by decide +kernel
theorem dX1_countryAt_18 : decode cX1_countryAt 18 = .ok (.bipush 6, 2) := by decide +kernel
theorem dX1_countryAt_20 : decode cX1_countryAt 20 = .ok (.iload_n 1, 1) := by decide +kernel
theorem dX1_countryAt_21 : decode cX1_countryAt 21 = .ok (.imul, 1) := by decide +kernel
theorem dX1_countryAt_22 : decode cX1_countryAt 22 = .ok (.iload_n 2, 1) := by decide +kernel
theorem dX1_countryAt_23 : decode cX1_countryAt 23 = .ok (.iadd, 1) := by decide +kernel
theorem dX1_countryAt_24 : decode cX1_countryAt 24 = .ok (.iaload, 1) := by decide +kernel
theorem dX1_countryAt_25 : decode cX1_countryAt 25 = .ok (.goto 4, 3) := by decide +kernel
theorem dX1_countryAt_28 : decode cX1_countryAt 28 = .ok (.iconst 0, 1) := by decide +kernel
theorem dX1_countryAt_29 : decode cX1_countryAt 29 = .ok (.ireturn, 1) := by decide +kernel
set_option maxRecDepth 20000 in
theorem ggX1_countries_X1_looks : GoodIn wsX1_countries wsX1_looks := goodIn_r _ [6, 1, 7, 8, 9, 10, 11, 5, 12, 13, 14, 15, 24, 25, 26, 27, 28, 29, 30, 31] (by decide +kernel) (by decide +kernel)
set_option maxRecDepth 20000 in
theorem gX1_countries_X1_looks : GoodIn wsX1_countries (wsV RX1 66 RX1 yX1_looks wsX1_looks) := goodIn_app (goodIn_of _ (by decide +kernel)) ggX1_countries_X1_looks
set_option maxRecDepth 20000 in
theorem ggX1_countries_X1_bits : GoodIn wsX1_countries wsX1_bits := goodIn_r _ [18] (by decide +kernel) (by decide +kernel)
set_option maxRecDepth 20000 in
theorem gX1_countries_X1_bits : GoodIn wsX1_countries (va_wsS RX1 69 yX1_bits wsX1_bits) := goodIn_app (goodIn_of _ (by decide +kernel)) ggX1_countries_X1_bits
set_option maxRecDepth 20000 in
theorem ggX1_countries_X1_told : GoodIn wsX1_countries wsX1_told := goodIn_r _ [22, 23, 24, 25, 26, 27, 28, 29, 30, 31] (by decide +kernel) (by decide +kernel)
set_option maxRecDepth 20000 in
theorem gX1_countries_X1_told : GoodIn wsX1_countries (wsV RX1 73 RX1 yX1_told wsX1_told) := goodIn_app (goodIn_of _ (by decide +kernel)) ggX1_countries_X1_told
theorem dX1_countries_0 : decode cX1_countries 0 = .ok (.aload_n 0, 1) := by decide +kernel
theorem dX1_countries_1 : decode cX1_countries 1 = .ok (.invokevirtual 66, 3) := by decide +kernel
theorem dX1_countries_4 : decode cX1_countries 4 = .ok (.aload_n 0, 1) := by decide +kernel
theorem dX1_countries_5 : decode cX1_countries 5 = .ok (.aload_n 0, 1) := by decide +kernel
theorem dX1_countries_6 : decode cX1_countries 6 = .ok (.getfield 47, 3) := by decide +kernel
theorem dX1_countries_9 : decode cX1_countries 9 = .ok (.i2l, 1) := by decide +kernel
theorem dX1_countries_10 : decode cX1_countries 10 = .ok (.invokestatic 69, 3) := by decide +kernel
theorem dX1_countries_13 : decode cX1_countries 13 = .ok (.invokevirtual 73, 3) := by decide +kernel
theorem dX1_countries_16 : decode cX1_countries 16 = .ok (.ireturn, 1) := by decide +kernel
set_option maxRecDepth 20000 in
theorem ggX1_area_X1_looks : GoodIn wsX1_area wsX1_looks := goodIn_r _ [6, 7, 1, 8, 9, 10, 11, 5, 12, 13, 14, 15, 30, 31, 32, 33, 34, 35, 36, 37] (by decide +kernel) (by decide +kernel)
set_option maxRecDepth 20000 in
theorem gX1_area_X1_looks : GoodIn wsX1_area (wsV RX1 66 RX1 yX1_looks wsX1_looks) := goodIn_app (goodIn_of _ (by decide +kernel)) ggX1_area_X1_looks
set_option maxRecDepth 20000 in
theorem ggX1_area_X1_isCountry : GoodIn wsX1_area wsX1_isCountry := goodIn_r _ [18, 19, 20, 5, 21] (by decide +kernel) (by decide +kernel)
set_option maxRecDepth 20000 in
theorem gX1_area_X1_isCountry : GoodIn wsX1_area (va_wsS RX1 54 yX1_isCountry wsX1_isCountry) := goodIn_app (goodIn_of _ (by decide +kernel)) ggX1_area_X1_isCountry
set_option maxRecDepth 20000 in
theorem ggX1_area_X1_goes : GoodIn wsX1_area wsX1_goes := goodIn_r _ [25, 26, 30, 31, 32, 33, 34, 35, 36, 37] (by decide +kernel) (by decide +kernel)
set_option maxRecDepth 20000 in
theorem gX1_area_X1_goes : GoodIn wsX1_area (wsV RX1 58 RX1 yX1_goes wsX1_goes) := goodIn_app (goodIn_of _ (by decide +kernel)) ggX1_area_X1_goes
set_option maxRecDepth 20000 in
theorem ggX1_area_X1_bits : GoodIn wsX1_area wsX1_bits := goodIn_r _ [29] (by decide +kernel) (by decide +kernel)
set_option maxRecDepth 20000 in
theorem gX1_area_X1_bits : GoodIn wsX1_area (va_wsS RX1 69 yX1_bits wsX1_bits) := goodIn_app (goodIn_of _ (by decide +kernel)) ggX1_area_X1_bits
theorem dX1_area_0 : decode cX1_area 0 = .ok (.aload_n 0, 1) := by decide +kernel
theorem dX1_area_1 : decode cX1_area 1 = .ok (.invokevirtual 66, 3) := by decide +kernel
theorem dX1_area_4 : decode cX1_area 4 = .ok (.aload_n 0, 1) := by decide +kernel
theorem dX1_area_5 : decode cX1_area 5 = .ok (.iload_n 1, 1) := by decide +kernel
theorem dX1_area_6 : decode cX1_area 6 = .ok (.invokestatic 54, 3) := by decide +kernel
theorem dX1_area_9 : decode cX1_area 9 = .ok (.iconst 1, 1) := by decide +kernel
theorem dX1_area_10 : decode cX1_area 10 = .ok (.iconst 1, 1) := by decide +kernel
theorem dX1_area_11 : decode cX1_area 11 = .ok (.invokevirtual 58, 3) := by decide +kernel
theorem dX1_area_14 : decode cX1_area 14 = .ok (.ifCond .eq 15, 3) := by decide +kernel
theorem dX1_area_17 : decode cX1_area 17 = .ok (.aload_n 0, 1) := by decide +kernel
theorem dX1_area_18 : decode cX1_area 18 = .ok (.getfield 16, 3) := by decide +kernel
theorem dX1_area_21 : decode cX1_area 21 = .ok (.iload_n 1, 1) := by decide +kernel
theorem dX1_area_22 : decode cX1_area 22 = .ok (.laload, 1) := by decide +kernel
theorem dX1_area_23 : decode cX1_area 23 = .ok (.invokestatic 69, 3) := by decide +kernel
theorem dX1_area_26 : decode cX1_area 26 = .ok (.goto 4, 3) := by decide +kernel
theorem dX1_area_29 : decode cX1_area 29 = .ok (.iconst 0, 1) := by decide +kernel
theorem dX1_area_30 : decode cX1_area 30 = .ok (.ireturn, 1) := by decide +kernel
set_option maxRecDepth 20000 in
theorem ggX1_piece_X1_reach : GoodIn wsX1_piece wsX1_reach := goodIn_r _ [4, 5, 6, 3, 7, 8, 9, 10] (by decide +kernel) (by decide +kernel)
set_option maxRecDepth 20000 in
theorem gX1_piece_X1_reach : GoodIn wsX1_piece (va_wsS RX1 77 yX1_reach wsX1_reach) := goodIn_app (goodIn_of _ (by decide +kernel)) ggX1_piece_X1_reach
theorem dX1_piece_0 : decode cX1_piece 0 = .ok (.lload_n 0, 1) := by decide +kernel
theorem dX1_piece_1 : decode cX1_piece 1 = .ok (.lload_n 0, 1) := by decide +kernel
theorem dX1_piece_2 : decode cX1_piece 2 = .ok (.lneg, 1) := by decide +kernel
theorem dX1_piece_3 : decode cX1_piece 3 = .ok (.land, 1) := by decide +kernel
theorem dX1_piece_4 : decode cX1_piece 4 = .ok (.lload_n 0, 1) := by decide +kernel
theorem dX1_piece_5 : decode cX1_piece 5 = .ok (.invokestatic 77, 3) := by decide +kernel
theorem dX1_piece_8 : decode cX1_piece 8 = .ok (.lreturn, 1) := by decide +kernel
set_option maxRecDepth 20000 in
theorem ggX1_piecesOf_X1_piece : GoodIn wsX1_piecesOf wsX1_piece := goodIn_r _ [6, 7, 8, 5, 9, 10, 11, 12, 13, 14, 15] (by decide +kernel) (by decide +kernel)
set_option maxRecDepth 20000 in
theorem gX1_piecesOf_X1_piece : GoodIn wsX1_piecesOf (va_wsS RX1 81 yX1_piece wsX1_piece) := goodIn_app (goodIn_of _ (by decide +kernel)) ggX1_piecesOf_X1_piece
theorem dX1_piecesOf_0 : decode cX1_piecesOf 0 = .ok (.iconst 0, 1) := by decide +kernel
theorem dX1_piecesOf_1 : decode cX1_piecesOf 1 = .ok (.istore_n 2, 1) := by decide +kernel
theorem dX1_piecesOf_2 : decode cX1_piecesOf 2 = .ok (.aload_n 0, 1) := by decide +kernel
theorem dX1_piecesOf_3 : decode cX1_piecesOf 3 = .ok (.getfield 16, 3) := by decide +kernel
theorem dX1_piecesOf_6 : decode cX1_piecesOf 6 = .ok (.iload_n 1, 1) := by decide +kernel
theorem dX1_piecesOf_7 : decode cX1_piecesOf 7 = .ok (.laload, 1) := by decide +kernel
theorem dX1_piecesOf_8 : decode cX1_piecesOf 8 = .ok (.lstore_n 3, 1) := by decide +kernel
theorem dX1_piecesOf_9 : decode cX1_piecesOf 9 = .ok (.lload_n 3, 1) := by decide +kernel
theorem dX1_piecesOf_10 : decode cX1_piecesOf 10 = .ok (.lconst 0, 1) := by decide +kernel
theorem dX1_piecesOf_11 : decode cX1_piecesOf 11 = .ok (.lcmp, 1) := by decide +kernel
theorem dX1_piecesOf_12 : decode cX1_piecesOf 12 = .ok (.ifCond .eq 20, 3) := by decide +kernel
theorem dX1_piecesOf_15 : decode cX1_piecesOf 15 = .ok (.lload_n 3, 1) := by decide +kernel
theorem dX1_piecesOf_16 : decode cX1_piecesOf 16 = .ok (.lload_n 3, 1) := by decide +kernel
theorem dX1_piecesOf_17 : decode cX1_piecesOf 17 = .ok (.invokestatic 81, 3) := by decide +kernel
theorem dX1_piecesOf_20 : decode cX1_piecesOf 20 = .ok (.ldc2_w 84, 3) := by decide +kernel
theorem dX1_piecesOf_23 : decode cX1_piecesOf 23 = .ok (.lxor, 1) := by decide +kernel
theorem dX1_piecesOf_24 : decode cX1_piecesOf 24 = .ok (.land, 1) := by decide +kernel
theorem dX1_piecesOf_25 : decode cX1_piecesOf 25 = .ok (.lstore_n 3, 1) := by decide +kernel
theorem dX1_piecesOf_26 : decode cX1_piecesOf 26 = .ok (.iinc 2 1, 3) := by decide +kernel
theorem dX1_piecesOf_29 : decode cX1_piecesOf 29 = .ok (.goto (-20), 3) := by decide +kernel
theorem dX1_piecesOf_32 : decode cX1_piecesOf 32 = .ok (.iload_n 2, 1) := by decide +kernel
theorem dX1_piecesOf_33 : decode cX1_piecesOf 33 = .ok (.ireturn, 1) := by decide +kernel
set_option maxRecDepth 20000 in
theorem ggX1_pieces_X1_looks : GoodIn wsX1_pieces wsX1_looks := goodIn_r _ [5, 6, 7, 8, 9, 10, 11, 4, 12, 13, 14, 15, 38, 39, 40, 41, 42, 43, 44, 45] (by decide +kernel) (by decide +kernel)
set_option maxRecDepth 20000 in
theorem gX1_pieces_X1_looks : GoodIn wsX1_pieces (wsV RX1 66 RX1 yX1_looks wsX1_looks) := goodIn_app (goodIn_of _ (by decide +kernel)) ggX1_pieces_X1_looks
set_option maxRecDepth 20000 in
theorem ggX1_pieces_X1_isCountry : GoodIn wsX1_pieces wsX1_isCountry := goodIn_r _ [18, 19, 20, 4, 21] (by decide +kernel) (by decide +kernel)
set_option maxRecDepth 20000 in
theorem gX1_pieces_X1_isCountry : GoodIn wsX1_pieces (va_wsS RX1 54 yX1_isCountry wsX1_isCountry) := goodIn_app (goodIn_of _ (by decide +kernel)) ggX1_pieces_X1_isCountry
set_option maxRecDepth 20000 in
theorem ggX1_pieces_X1_goes : GoodIn wsX1_pieces wsX1_goes := goodIn_r _ [25, 26, 38, 39, 40, 41, 42, 43, 44, 45] (by decide +kernel) (by decide +kernel)
set_option maxRecDepth 20000 in
theorem gX1_pieces_X1_goes : GoodIn wsX1_pieces (wsV RX1 58 RX1 yX1_goes wsX1_goes) := goodIn_app (goodIn_of _ (by decide +kernel)) ggX1_pieces_X1_goes
set_option maxRecDepth 20000 in
theorem ggX1_pieces_X1_piecesOf : GoodIn wsX1_pieces wsX1_piecesOf := goodIn_r _ [30, 7, 31, 32, 33, 4, 34, 35, 36, 37, 10, 11, 12, 13, 14, 15, 38, 39, 40, 41, 42, 43, 44, 45] (by decide +kernel) (by decide +kernel)
set_option maxRecDepth 20000 in
theorem gX1_pieces_X1_piecesOf : GoodIn wsX1_pieces (wsV RX1 86 RX1 yX1_piecesOf wsX1_piecesOf) := goodIn_app (goodIn_of _ (by decide +kernel)) ggX1_pieces_X1_piecesOf
theorem dX1_pieces_0 : decode cX1_pieces 0 = .ok (.aload_n 0, 1) := by decide +kernel
theorem dX1_pieces_1 : decode cX1_pieces 1 = .ok (.invokevirtual 66, 3) := by decide +kernel
theorem dX1_pieces_4 : decode cX1_pieces 4 = .ok (.aload_n 0, 1) := by decide +kernel
theorem dX1_pieces_5 : decode cX1_pieces 5 = .ok (.iload_n 1, 1) := by decide +kernel
theorem dX1_pieces_6 : decode cX1_pieces 6 = .ok (.invokestatic 54, 3) := by decide +kernel
theorem dX1_pieces_9 : decode cX1_pieces 9 = .ok (.iconst 1, 1) := by decide +kernel
theorem dX1_pieces_10 : decode cX1_pieces 10 = .ok (.iconst 1, 1) := by decide +kernel
theorem dX1_pieces_11 : decode cX1_pieces 11 = .ok (.invokevirtual 58, 3) := by decide +kernel
theorem dX1_pieces_14 : decode cX1_pieces 14 = .ok (.ifCond .eq 11, 3) := by decide +kernel
theorem dX1_pieces_17 : decode cX1_pieces 17 = .ok (.aload_n 0, 1) := by decide +kernel
theorem dX1_pieces_18 : decode cX1_pieces 18 = .ok (.iload_n 1, 1) := by decide +kernel
theorem dX1_pieces_19 : decode cX1_pieces 19 = .ok (.invokevirtual 86, 3) := by decide +kernel
theorem dX1_pieces_22 : decode cX1_pieces 22 = .ok (.goto 4, 3) := by decide +kernel
theorem dX1_pieces_25 : decode cX1_pieces 25 = .ok (.iconst 0, 1) := by decide +kernel
theorem dX1_pieces_26 : decode cX1_pieces 26 = .ok (.ireturn, 1) := by decide +kernel
set_option maxRecDepth 20000 in
theorem ggX1_largestPiece_X1_looks : GoodIn wsX1_largestPiece wsX1_looks := goodIn_r _ [7, 8, 1, 9, 10, 11, 12, 6, 13, 14, 15, 16, 37, 38, 39, 40, 41, 42, 43, 44] (by decide +kernel) (by decide +kernel)
set_option maxRecDepth 20000 in
theorem gX1_largestPiece_X1_looks : GoodIn wsX1_largestPiece (wsV RX1 66 RX1 yX1_looks wsX1_looks) := goodIn_app (goodIn_of _ (by decide +kernel)) ggX1_largestPiece_X1_looks
set_option maxRecDepth 20000 in
theorem ggX1_largestPiece_X1_isCountry : GoodIn wsX1_largestPiece wsX1_isCountry := goodIn_r _ [19, 20, 21, 6, 22] (by decide +kernel) (by decide +kernel)
set_option maxRecDepth 20000 in
theorem gX1_largestPiece_X1_isCountry : GoodIn wsX1_largestPiece (va_wsS RX1 54 yX1_isCountry wsX1_isCountry) := goodIn_app (goodIn_of _ (by decide +kernel)) ggX1_largestPiece_X1_isCountry
set_option maxRecDepth 20000 in
theorem ggX1_largestPiece_X1_goes : GoodIn wsX1_largestPiece wsX1_goes := goodIn_r _ [26, 27, 37, 38, 39, 40, 41, 42, 43, 44] (by decide +kernel) (by decide +kernel)
set_option maxRecDepth 20000 in
theorem gX1_largestPiece_X1_goes : GoodIn wsX1_largestPiece (wsV RX1 58 RX1 yX1_goes wsX1_goes) := goodIn_app (goodIn_of _ (by decide +kernel)) ggX1_largestPiece_X1_goes
set_option maxRecDepth 20000 in
theorem ggX1_largestPiece_X1_piece : GoodIn wsX1_largestPiece wsX1_piece := goodIn_r _ [30, 31, 32, 6, 33, 11, 12, 13, 14, 15, 16] (by decide +kernel) (by decide +kernel)
set_option maxRecDepth 20000 in
theorem gX1_largestPiece_X1_piece : GoodIn wsX1_largestPiece (va_wsS RX1 81 yX1_piece wsX1_piece) := goodIn_app (goodIn_of _ (by decide +kernel)) ggX1_largestPiece_X1_piece
set_option maxRecDepth 20000 in
theorem ggX1_largestPiece_X1_bits : GoodIn wsX1_largestPiece wsX1_bits := goodIn_r _ [36] (by decide +kernel) (by decide +kernel)
set_option maxRecDepth 20000 in
theorem gX1_largestPiece_X1_bits : GoodIn wsX1_largestPiece (va_wsS RX1 69 yX1_bits wsX1_bits) := goodIn_app (goodIn_of _ (by decide +kernel)) ggX1_largestPiece_X1_bits
theorem dX1_largestPiece_0 : decode cX1_largestPiece 0 = .ok (.aload_n 0, 1) := by decide +kernel
theorem dX1_largestPiece_1 : decode cX1_largestPiece 1 = .ok (.invokevirtual 66, 3) := by decide +kernel
theorem dX1_largestPiece_4 : decode cX1_largestPiece 4 = .ok (.aload_n 0, 1) := by decide +kernel
theorem dX1_largestPiece_5 : decode cX1_largestPiece 5 = .ok (.iload_n 1, 1) := by decide +kernel
theorem dX1_largestPiece_6 : decode cX1_largestPiece 6 = .ok (.invokestatic 54, 3) := by decide +kernel
theorem dX1_largestPiece_9 : decode cX1_largestPiece 9 = .ok (.iconst 1, 1) := by decide +kernel
theorem dX1_largestPiece_10 : decode cX1_largestPiece 10 = .ok (.iconst 1, 1) := by decide +kernel
theorem dX1_largestPiece_11 : decode cX1_largestPiece 11 = .ok (.invokevirtual 58, 3) := by decide +kernel
theorem dX1_largestPiece_14 : decode cX1_largestPiece 14 = .ok (.ifCond .ne 5, 3) := by decide +kernel
theorem dX1_largestPiece_17 : decode cX1_largestPiece 17 = .ok (.iconst 0, 1) := by decide +kernel
theorem dX1_largestPiece_18 : decode cX1_largestPiece 18 = .ok (.ireturn, 1) := by decide +kernel
theorem dX1_largestPiece_19 : decode cX1_largestPiece 19 = .ok (.iconst 0, 1) := by decide +kernel
theorem dX1_largestPiece_20 : decode cX1_largestPiece 20 = .ok (.istore_n 2, 1) := by decide +kernel
theorem dX1_largestPiece_21 : decode cX1_largestPiece 21 = .ok (.aload_n 0, 1) := by decide +kernel
theorem dX1_largestPiece_22 : decode cX1_largestPiece 22 = .ok (.getfield 16, 3) := by decide +kernel
theorem dX1_largestPiece_25 : decode cX1_largestPiece 25 = .ok (.iload_n 1, 1) := by decide +kernel
theorem dX1_largestPiece_26 : decode cX1_largestPiece 26 = .ok (.laload, 1) := by decide +kernel
theorem dX1_largestPiece_27 : decode cX1_largestPiece 27 = .ok (.lstore_n 3, 1) := by decide +kernel
theorem dX1_largestPiece_28 : decode cX1_largestPiece 28 = .ok (.lload_n 3, 1) := by decide +kernel
theorem dX1_largestPiece_29 : decode cX1_largestPiece 29 = .ok (.lconst 0, 1) := by decide +kernel
theorem dX1_largestPiece_30 : decode cX1_largestPiece 30 = .ok (.lcmp, 1) := by decide +kernel
theorem dX1_largestPiece_31 : decode cX1_largestPiece 31 = .ok (.ifCond .eq 39, 3) := by decide +kernel
theorem dX1_largestPiece_34 : decode cX1_largestPiece 34 = .ok (.lload_n 3, 1) := by decide +kernel
theorem dX1_largestPiece_35 : decode cX1_largestPiece 35 = .ok (.invokestatic 81, 3) := by decide +kernel
theorem dX1_largestPiece_38 : decode cX1_largestPiece 38 = .ok (.invokestatic 69, 3) := by decide +kernel
theorem dX1_largestPiece_41 : decode cX1_largestPiece 41 = .ok (.istore 5, 2) := by decide +kernel
theorem dX1_largestPiece_43 : decode cX1_largestPiece 43 = .ok (.iload 5, 2) := by decide +kernel
theorem dX1_largestPiece_45 : decode cX1_largestPiece 45 = .ok (.iload_n 2, 1) := by decide +kernel
theorem dX1_largestPiece_46 : decode cX1_largestPiece 46 = .ok (.if_icmp .le 8, 3) := by decide +kernel
theorem dX1_largestPiece_49 : decode cX1_largestPiece 49 = .ok (.iload 5, 2) := by decide +kernel
theorem dX1_largestPiece_51 : decode cX1_largestPiece 51 = .ok (.goto 4, 3) := by decide +kernel
theorem dX1_largestPiece_54 : decode cX1_largestPiece 54 = .ok (.iload_n 2, 1) := by decide +kernel
theorem dX1_largestPiece_55 : decode cX1_largestPiece 55 = .ok (.istore_n 2, 1) := by decide +kernel
theorem dX1_largestPiece_56 : decode cX1_largestPiece 56 = .ok (.lload_n 3, 1) := by decide +kernel
theorem dX1_largestPiece_57 : decode cX1_largestPiece 57 = .ok (.lload_n 3, 1) := by decide +kernel
theorem dX1_largestPiece_58 : decode cX1_largestPiece 58 = .ok (.invokestatic 81, 3) := by decide +kernel
theorem dX1_largestPiece_61 : decode cX1_largestPiece 61 = .ok (.ldc2_w 84, 3) := by decide +kernel
theorem dX1_largestPiece_64 : decode cX1_largestPiece 64 = .ok (.lxor, 1) := by decide +kernel
theorem dX1_largestPiece_65 : decode cX1_largestPiece 65 = .ok (.land, 1) := by decide +kernel
theorem dX1_largestPiece_66 : decode cX1_largestPiece 66 = .ok (.lstore_n 3, 1) := by decide +kernel
theorem dX1_largestPiece_67 : decode cX1_largestPiece 67 = .ok (.goto (-39), 3) := by decide +kernel
theorem dX1_largestPiece_70 : decode cX1_largestPiece 70 = .ok (.iload_n 2, 1) := by decide +kernel
theorem dX1_largestPiece_71 : decode cX1_largestPiece 71 = .ok (.ireturn, 1) := by decide +kernel
set_option maxRecDepth 20000 in
theorem ggX1_scattered_X1_looks : GoodIn wsX1_scattered wsX1_looks := goodIn_r _ [6, 7, 8, 9, 10, 11, 12, 5, 13, 14, 15, 16, 28, 29, 30, 31, 32, 33, 34, 35] (by decide +kernel) (by decide +kernel)
set_option maxRecDepth 20000 in
theorem gX1_scattered_X1_looks : GoodIn wsX1_scattered (wsV RX1 66 RX1 yX1_looks wsX1_looks) := goodIn_app (goodIn_of _ (by decide +kernel)) ggX1_scattered_X1_looks
set_option maxRecDepth 20000 in
theorem ggX1_scattered_X1_piecesOf : GoodIn wsX1_scattered wsX1_piecesOf := goodIn_r _ [20, 8, 21, 22, 23, 5, 24, 25, 26, 27, 11, 12, 13, 14, 15, 16, 28, 29, 30, 31, 32, 33, 34, 35] (by decide +kernel) (by decide +kernel)
set_option maxRecDepth 20000 in
theorem gX1_scattered_X1_piecesOf : GoodIn wsX1_scattered (wsV RX1 86 RX1 yX1_piecesOf wsX1_piecesOf) := goodIn_app (goodIn_of _ (by decide +kernel)) ggX1_scattered_X1_piecesOf
theorem dX1_scattered_0 : decode cX1_scattered 0 = .ok (.aload_n 0, 1) := by decide +kernel
theorem dX1_scattered_1 : decode cX1_scattered 1 = .ok (.invokevirtual 66, 3) := by decide +kernel
theorem dX1_scattered_4 : decode cX1_scattered 4 = .ok (.aload_n 0, 1) := by decide +kernel
theorem dX1_scattered_5 : decode cX1_scattered 5 = .ok (.iconst 0, 1) := by decide +kernel
theorem dX1_scattered_6 : decode cX1_scattered 6 = .ok (.putfield 29, 3) := by decide +kernel
theorem dX1_scattered_9 : decode cX1_scattered 9 = .ok (.iconst 0, 1) := by decide +kernel
theorem dX1_scattered_10 : decode cX1_scattered 10 = .ok (.istore_n 1, 1) := by decide +kernel
theorem dX1_scattered_11 : decode cX1_scattered 11 = .ok (.iconst 0, 1) := by decide +kernel
theorem dX1_scattered_12 : decode cX1_scattered 12 = .ok (.istore_n 2, 1) := by decide +kernel
theorem dX1_scattered_13 : decode cX1_scattered 13 = .ok (.iload_n 2, 1) := by decide +kernel
theorem dX1_scattered_14 : decode cX1_scattered 14 = .ok (.bipush 10, 2) := by decide +kernel
theorem dX1_scattered_16 : decode cX1_scattered 16 = .ok (.if_icmp .ge 26, 3) := by decide +kernel
theorem dX1_scattered_19 : decode cX1_scattered 19 = .ok (.iload_n 1, 1) := by decide +kernel
theorem dX1_scattered_20 : decode cX1_scattered 20 = .ok (.aload_n 0, 1) := by decide +kernel
theorem dX1_scattered_21 : decode cX1_scattered 21 = .ok (.iload_n 2, 1) := by decide +kernel
theorem dX1_scattered_22 : decode cX1_scattered 22 = .ok (.invokevirtual 86, 3) := by decide +kernel
theorem dX1_scattered_25 : decode cX1_scattered 25 = .ok (.iconst 1, 1) := by decide +kernel
theorem dX1_scattered_26 : decode cX1_scattered 26 = .ok (.if_icmp .le 7, 3) := by decide +kernel
theorem dX1_scattered_29 : decode cX1_scattered 29 = .ok (.iconst 1, 1) := by decide +kernel
theorem dX1_scattered_30 : decode cX1_scattered 30 = .ok (.goto 4, 3) := by decide +kernel
theorem dX1_scattered_33 : decode cX1_scattered 33 = .ok (.iconst 0, 1) := by decide +kernel
theorem dX1_scattered_34 : decode cX1_scattered 34 = .ok (.iadd, 1) := by decide +kernel
theorem dX1_scattered_35 : decode cX1_scattered 35 = .ok (.istore_n 1, 1) := by decide +kernel
theorem dX1_scattered_36 : decode cX1_scattered 36 = .ok (.iinc 2 1, 3) := by decide +kernel
theorem dX1_scattered_39 : decode cX1_scattered 39 = .ok (.goto (-26), 3) := by decide +kernel
theorem dX1_scattered_42 : decode cX1_scattered 42 = .ok (.iload_n 1, 1) := by decide +kernel
theorem dX1_scattered_43 : decode cX1_scattered 43 = .ok (.ireturn, 1) := by decide +kernel
set_option maxRecDepth 20000 in
theorem ggX1_neighbours_X1_looks : GoodIn wsX1_neighbours wsX1_looks := goodIn_r _ [6, 7, 8, 9, 1, 10, 11, 5, 12, 13, 14, 15, 30, 31, 32, 33, 34, 35, 36, 37] (by decide +kernel) (by decide +kernel)
set_option maxRecDepth 20000 in
theorem gX1_neighbours_X1_looks : GoodIn wsX1_neighbours (wsV RX1 66 RX1 yX1_looks wsX1_looks) := goodIn_app (goodIn_of _ (by decide +kernel)) ggX1_neighbours_X1_looks
set_option maxRecDepth 20000 in
theorem ggX1_neighbours_X1_isCountry : GoodIn wsX1_neighbours wsX1_isCountry := goodIn_r _ [18, 19, 20, 5, 21] (by decide +kernel) (by decide +kernel)
set_option maxRecDepth 20000 in
theorem gX1_neighbours_X1_isCountry : GoodIn wsX1_neighbours (va_wsS RX1 54 yX1_isCountry wsX1_isCountry) := goodIn_app (goodIn_of _ (by decide +kernel)) ggX1_neighbours_X1_isCountry
set_option maxRecDepth 20000 in
theorem ggX1_neighbours_X1_goes : GoodIn wsX1_neighbours wsX1_goes := goodIn_r _ [25, 26, 30, 31, 32, 33, 34, 35, 36, 37] (by decide +kernel) (by decide +kernel)
set_option maxRecDepth 20000 in
theorem gX1_neighbours_X1_goes : GoodIn wsX1_neighbours (wsV RX1 58 RX1 yX1_goes wsX1_goes) := goodIn_app (goodIn_of _ (by decide +kernel)) ggX1_neighbours_X1_goes
set_option maxRecDepth 20000 in
theorem ggX1_neighbours_X1_bits : GoodIn wsX1_neighbours wsX1_bits := goodIn_r _ [29] (by decide +kernel) (by decide +kernel)
set_option maxRecDepth 20000 in
theorem gX1_neighbours_X1_bits : GoodIn wsX1_neighbours (va_wsS RX1 69 yX1_bits wsX1_bits) := goodIn_app (goodIn_of _ (by decide +kernel)) ggX1_neighbours_X1_bits
theorem dX1_neighbours_0 : decode cX1_neighbours 0 = .ok (.aload_n 0, 1) := by decide +kernel
theorem dX1_neighbours_1 : decode cX1_neighbours 1 = .ok (.invokevirtual 66, 3) := by decide +kernel
theorem dX1_neighbours_4 : decode cX1_neighbours 4 = .ok (.aload_n 0, 1) := by decide +kernel
theorem dX1_neighbours_5 : decode cX1_neighbours 5 = .ok (.iload_n 1, 1) := by decide +kernel
theorem dX1_neighbours_6 : decode cX1_neighbours 6 = .ok (.invokestatic 54, 3) := by decide +kernel
theorem dX1_neighbours_9 : decode cX1_neighbours 9 = .ok (.iconst 1, 1) := by decide +kernel
theorem dX1_neighbours_10 : decode cX1_neighbours 10 = .ok (.iconst 1, 1) := by decide +kernel
theorem dX1_neighbours_11 : decode cX1_neighbours 11 = .ok (.invokevirtual 58, 3) := by decide +kernel
theorem dX1_neighbours_14 : decode cX1_neighbours 14 = .ok (.ifCond .eq 16, 3) := by decide +kernel
theorem dX1_neighbours_17 : decode cX1_neighbours 17 = .ok (.aload_n 0, 1) := by decide +kernel
theorem dX1_neighbours_18 : decode cX1_neighbours 18 = .ok (.getfield 20, 3) := by decide +kernel
theorem dX1_neighbours_21 : decode cX1_neighbours 21 = .ok (.iload_n 1, 1) := by decide +kernel
theorem dX1_neighbours_22 : decode cX1_neighbours 22 = .ok (.iaload, 1) := by decide +kernel
theorem dX1_neighbours_23 : decode cX1_neighbours 23 = .ok (.i2l, 1) := by decide +kernel
theorem dX1_neighbours_24 : decode cX1_neighbours 24 = .ok (.invokestatic 69, 3) := by decide +kernel
theorem dX1_neighbours_27 : decode cX1_neighbours 27 = .ok (.goto 4, 3) := by decide +kernel
theorem dX1_neighbours_30 : decode cX1_neighbours 30 = .ok (.iconst 0, 1) := by decide +kernel
theorem dX1_neighbours_31 : decode cX1_neighbours 31 = .ok (.ireturn, 1) := by decide +kernel
set_option maxRecDepth 20000 in
theorem ggX1_touches_X1_bits : GoodIn wsX1_touches wsX1_bits := goodIn_r _ [5] (by decide +kernel) (by decide +kernel)
set_option maxRecDepth 20000 in
theorem gX1_touches_X1_bits : GoodIn wsX1_touches (va_wsS RX1 69 yX1_bits wsX1_bits) := goodIn_app (goodIn_of _ (by decide +kernel)) ggX1_touches_X1_bits
theorem dX1_touches_0 : decode cX1_touches 0 = .ok (.lload_n 0, 1) := by decide +kernel
theorem dX1_touches_1 : decode cX1_touches 1 = .ok (.ldc2_w 37, 3) := by decide +kernel
theorem dX1_touches_4 : decode cX1_touches 4 = .ok (.land, 1) := by decide +kernel
theorem dX1_touches_5 : decode cX1_touches 5 = .ok (.iconst 1, 1) := by decide +kernel
theorem dX1_touches_6 : decode cX1_touches 6 = .ok (.lshl, 1) := by decide +kernel
theorem dX1_touches_7 : decode cX1_touches 7 = .ok (.lload_n 2, 1) := by decide +kernel
theorem dX1_touches_8 : decode cX1_touches 8 = .ok (.land, 1) := by decide +kernel
theorem dX1_touches_9 : decode cX1_touches 9 = .ok (.invokestatic 69, 3) := by decide +kernel
theorem dX1_touches_12 : decode cX1_touches 12 = .ok (.lload_n 0, 1) := by decide +kernel
theorem dX1_touches_13 : decode cX1_touches 13 = .ok (.bipush 6, 2) := by decide +kernel
theorem dX1_touches_15 : decode cX1_touches 15 = .ok (.lshl, 1) := by decide +kernel
theorem dX1_touches_16 : decode cX1_touches 16 = .ok (.lload_n 2, 1) := by decide +kernel
theorem dX1_touches_17 : decode cX1_touches 17 = .ok (.land, 1) := by decide +kernel
theorem dX1_touches_18 : decode cX1_touches 18 = .ok (.invokestatic 69, 3) := by decide +kernel
theorem dX1_touches_21 : decode cX1_touches 21 = .ok (.iadd, 1) := by decide +kernel
theorem dX1_touches_22 : decode cX1_touches 22 = .ok (.ireturn, 1) := by decide +kernel
set_option maxRecDepth 20000 in
theorem ggX1_border_X1_looks : GoodIn wsX1_border wsX1_looks := goodIn_r _ [6, 7, 1, 8, 9, 10, 11, 5, 12, 13, 14, 15, 33, 34, 35, 36, 37, 38, 39, 40] (by decide +kernel) (by decide +kernel)
set_option maxRecDepth 20000 in
theorem gX1_border_X1_looks : GoodIn wsX1_border (wsV RX1 66 RX1 yX1_looks wsX1_looks) := goodIn_app (goodIn_of _ (by decide +kernel)) ggX1_border_X1_looks
set_option maxRecDepth 20000 in
theorem ggX1_border_X1_isCountry : GoodIn wsX1_border wsX1_isCountry := goodIn_r _ [18, 19, 20, 5, 21] (by decide +kernel) (by decide +kernel)
set_option maxRecDepth 20000 in
theorem gX1_border_X1_isCountry : GoodIn wsX1_border (va_wsS RX1 54 yX1_isCountry wsX1_isCountry) := goodIn_app (goodIn_of _ (by decide +kernel)) ggX1_border_X1_isCountry
set_option maxRecDepth 20000 in
theorem ggX1_border_X1_goes : GoodIn wsX1_border wsX1_goes := goodIn_r _ [25, 26, 33, 34, 35, 36, 37, 38, 39, 40] (by decide +kernel) (by decide +kernel)
set_option maxRecDepth 20000 in
theorem gX1_border_X1_goes : GoodIn wsX1_border (wsV RX1 58 RX1 yX1_goes wsX1_goes) := goodIn_app (goodIn_of _ (by decide +kernel)) ggX1_border_X1_goes
set_option maxRecDepth 20000 in
theorem ggX1_border_X1_touches : GoodIn wsX1_border wsX1_touches := goodIn_r _ [29, 13, 30, 31, 5, 32] (by decide +kernel) (by decide +kernel)
set_option maxRecDepth 20000 in
theorem gX1_border_X1_touches : GoodIn wsX1_border (va_wsS RX1 89 yX1_touches wsX1_touches) := goodIn_app (goodIn_of _ (by decide +kernel)) ggX1_border_X1_touches
theorem dX1_border_0 : decode cX1_border 0 = .ok (.aload_n 0, 1) := by decide +kernel
theorem dX1_border_1 : decode cX1_border 1 = .ok (.invokevirtual 66, 3) := by decide +kernel
