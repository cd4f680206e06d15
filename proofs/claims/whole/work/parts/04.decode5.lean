theorem dX1_tintInOrder_66 : decode cX1_tintInOrder 66 = .ok (.iconst (-1), 1) := by decide +kernel
theorem dX1_tintInOrder_67 : decode cX1_tintInOrder 67 = .ok (.if_icmp .eq 32, 3) := by decide +kernel
theorem dX1_tintInOrder_70 : decode cX1_tintInOrder 70 = .ok (.iload_n 1, 1) := by decide +kernel
theorem dX1_tintInOrder_71 : decode cX1_tintInOrder 71 = .ok (.ifCond .eq 33, 3) := by decide +kernel
theorem dX1_tintInOrder_74 : decode cX1_tintInOrder 74 = .ok (.aload_n 0, 1) := by decide +kernel
theorem dX1_tintInOrder_75 : decode cX1_tintInOrder 75 = .ok (.getfield 20, 3) := by decide +kernel
theorem dX1_tintInOrder_78 : decode cX1_tintInOrder 78 = .ok (.iload 5, 2) := by decide +kernel
theorem dX1_tintInOrder_80 : decode cX1_tintInOrder 80 = .ok (.iaload, 1) := by decide +kernel
theorem dX1_tintInOrder_81 : decode cX1_tintInOrder 81 = .ok (.i2l, 1) := by decide +kernel
theorem dX1_tintInOrder_82 : decode cX1_tintInOrder 82 = .ok (.invokestatic 69, 3) := by decide +kernel
theorem dX1_tintInOrder_85 : decode cX1_tintInOrder 85 = .ok (.aload_n 0, 1) := by decide +kernel
theorem dX1_tintInOrder_86 : decode cX1_tintInOrder 86 = .ok (.getfield 20, 3) := by decide +kernel
theorem dX1_tintInOrder_89 : decode cX1_tintInOrder 89 = .ok (.iload 4, 2) := by decide +kernel
theorem dX1_tintInOrder_91 : decode cX1_tintInOrder 91 = .ok (.iaload, 1) := by decide +kernel
theorem dX1_tintInOrder_92 : decode cX1_tintInOrder 92 = .ok (.i2l, 1) := by decide +kernel
theorem dX1_tintInOrder_93 : decode cX1_tintInOrder 93 = .ok (.invokestatic 69, 3) := by decide +kernel
theorem dX1_tintInOrder_96 : decode cX1_tintInOrder 96 = .ok (.if_icmp .le 8, 3) := by decide +kernel
theorem dX1_tintInOrder_99 : decode cX1_tintInOrder 99 = .ok (.iload 5, 2) := by decide +kernel
theorem dX1_tintInOrder_101 : decode cX1_tintInOrder 101 = .ok (.goto 5, 3) := by decide +kernel
theorem dX1_tintInOrder_104 : decode cX1_tintInOrder 104 = .ok (.iload 4, 2) := by decide +kernel
theorem dX1_tintInOrder_106 : decode cX1_tintInOrder 106 = .ok (.istore 4, 2) := by decide +kernel
theorem dX1_tintInOrder_108 : decode cX1_tintInOrder 108 = .ok (.iinc 5 1, 3) := by decide +kernel
theorem dX1_tintInOrder_111 : decode cX1_tintInOrder 111 = .ok (.goto (-84), 3) := by decide +kernel
theorem dX1_tintInOrder_114 : decode cX1_tintInOrder 114 = .ok (.aload_n 0, 1) := by decide +kernel
theorem dX1_tintInOrder_115 : decode cX1_tintInOrder 115 = .ok (.getfield 13, 3) := by decide +kernel
theorem dX1_tintInOrder_118 : decode cX1_tintInOrder 118 = .ok (.iload 4, 2) := by decide +kernel
theorem dX1_tintInOrder_120 : decode cX1_tintInOrder 120 = .ok (.aload_n 0, 1) := by decide +kernel
theorem dX1_tintInOrder_121 : decode cX1_tintInOrder 121 = .ok (.aload_n 0, 1) := by decide +kernel
theorem dX1_tintInOrder_122 : decode cX1_tintInOrder 122 = .ok (.getfield 20, 3) := by decide +kernel
theorem dX1_tintInOrder_125 : decode cX1_tintInOrder 125 = .ok (.iload 4, 2) := by decide +kernel
theorem dX1_tintInOrder_127 : decode cX1_tintInOrder 127 = .ok (.iaload, 1) := by decide +kernel
theorem dX1_tintInOrder_128 : decode cX1_tintInOrder 128 = .ok (.iload_n 3, 1) := by decide +kernel
theorem dX1_tintInOrder_129 : decode cX1_tintInOrder 129 = .ok (.iand, 1) := by decide +kernel
theorem dX1_tintInOrder_130 : decode cX1_tintInOrder 130 = .ok (.invokevirtual 106, 3) := by decide +kernel
theorem dX1_tintInOrder_133 : decode cX1_tintInOrder 133 = .ok (.iastore, 1) := by decide +kernel
theorem dX1_tintInOrder_134 : decode cX1_tintInOrder 134 = .ok (.aload_n 0, 1) := by decide +kernel
theorem dX1_tintInOrder_135 : decode cX1_tintInOrder 135 = .ok (.getfield 13, 3) := by decide +kernel
theorem dX1_tintInOrder_138 : decode cX1_tintInOrder 138 = .ok (.iload 4, 2) := by decide +kernel
theorem dX1_tintInOrder_140 : decode cX1_tintInOrder 140 = .ok (.iaload, 1) := by decide +kernel
theorem dX1_tintInOrder_141 : decode cX1_tintInOrder 141 = .ok (.iload_n 2, 1) := by decide +kernel
theorem dX1_tintInOrder_142 : decode cX1_tintInOrder 142 = .ok (.if_icmp .le 13, 3) := by decide +kernel
theorem dX1_tintInOrder_145 : decode cX1_tintInOrder 145 = .ok (.aload_n 0, 1) := by decide +kernel
theorem dX1_tintInOrder_146 : decode cX1_tintInOrder 146 = .ok (.getfield 13, 3) := by decide +kernel
theorem dX1_tintInOrder_149 : decode cX1_tintInOrder 149 = .ok (.iload 4, 2) := by decide +kernel
theorem dX1_tintInOrder_151 : decode cX1_tintInOrder 151 = .ok (.iaload, 1) := by decide +kernel
theorem dX1_tintInOrder_152 : decode cX1_tintInOrder 152 = .ok (.goto 4, 3) := by decide +kernel
theorem dX1_tintInOrder_155 : decode cX1_tintInOrder 155 = .ok (.iload_n 2, 1) := by decide +kernel
theorem dX1_tintInOrder_156 : decode cX1_tintInOrder 156 = .ok (.istore_n 2, 1) := by decide +kernel
theorem dX1_tintInOrder_157 : decode cX1_tintInOrder 157 = .ok (.iload_n 3, 1) := by decide +kernel
theorem dX1_tintInOrder_158 : decode cX1_tintInOrder 158 = .ok (.iconst 1, 1) := by decide +kernel
theorem dX1_tintInOrder_159 : decode cX1_tintInOrder 159 = .ok (.iload 4, 2) := by decide +kernel
theorem dX1_tintInOrder_161 : decode cX1_tintInOrder 161 = .ok (.ishl, 1) := by decide +kernel
theorem dX1_tintInOrder_162 : decode cX1_tintInOrder 162 = .ok (.ior, 1) := by decide +kernel
theorem dX1_tintInOrder_163 : decode cX1_tintInOrder 163 = .ok (.istore_n 3, 1) := by decide +kernel
theorem dX1_tintInOrder_164 : decode cX1_tintInOrder 164 = .ok (.goto (-151), 3) := by decide +kernel
theorem dX1_tintInOrder_167 : decode cX1_tintInOrder 167 = .ok (.iload_n 2, 1) := by decide +kernel
theorem dX1_tintInOrder_168 : decode cX1_tintInOrder 168 = .ok (.ireturn, 1) := by decide +kernel
set_option maxRecDepth 20000 in
theorem ggX1_begins_X1_looks : GoodIn wsX1_begins wsX1_looks := goodIn_r _ [6, 7, 8, 9, 10, 11, 12, 5, 13, 14, 15, 16, 17, 18, 19, 20, 21, 22, 23, 24] (by decide +kernel) (by decide +kernel)
set_option maxRecDepth 20000 in
theorem gX1_begins_X1_looks : GoodIn wsX1_begins (wsV RX1 66 RX1 yX1_looks wsX1_looks) := goodIn_app (goodIn_of _ (by decide +kernel)) ggX1_begins_X1_looks
theorem dX1_begins_0 : decode cX1_begins 0 = .ok (.aload_n 0, 1) := by decide +kernel
theorem dX1_begins_1 : decode cX1_begins 1 = .ok (.invokevirtual 66, 3) := by decide +kernel
theorem dX1_begins_4 : decode cX1_begins 4 = .ok (.iconst 0, 1) := by decide +kernel
theorem dX1_begins_5 : decode cX1_begins 5 = .ok (.istore_n 1, 1) := by decide +kernel
theorem dX1_begins_6 : decode cX1_begins 6 = .ok (.iload_n 1, 1) := by decide +kernel
theorem dX1_begins_7 : decode cX1_begins 7 = .ok (.sipush 1024, 3) := by decide +kernel
theorem dX1_begins_10 : decode cX1_begins 10 = .ok (.if_icmp .ge 24, 3) := by decide +kernel
theorem dX1_begins_13 : decode cX1_begins 13 = .ok (.aload_n 0, 1) := by decide +kernel
theorem dX1_begins_14 : decode cX1_begins 14 = .ok (.getfield 23, 3) := by decide +kernel
theorem dX1_begins_17 : decode cX1_begins 17 = .ok (.iload_n 1, 1) := by decide +kernel
theorem dX1_begins_18 : decode cX1_begins 18 = .ok (.iload_n 1, 1) := by decide +kernel
theorem dX1_begins_19 : decode cX1_begins 19 = .ok (.ifCond .ne 7, 3) := by decide +kernel
theorem dX1_begins_22 : decode cX1_begins 22 = .ok (.lconst 1, 1) := by decide +kernel
theorem dX1_begins_23 : decode cX1_begins 23 = .ok (.goto 4, 3) := by decide +kernel
theorem dX1_begins_26 : decode cX1_begins 26 = .ok (.lconst 0, 1) := by decide +kernel
theorem dX1_begins_27 : decode cX1_begins 27 = .ok (.lastore, 1) := by decide +kernel
theorem dX1_begins_28 : decode cX1_begins 28 = .ok (.iinc 1 1, 3) := by decide +kernel
theorem dX1_begins_31 : decode cX1_begins 31 = .ok (.goto (-25), 3) := by decide +kernel
theorem dX1_begins_34 : decode cX1_begins 34 = .ok (.return_, 1) := by decide +kernel
set_option maxRecDepth 20000 in
theorem ggX1_adds_X1_areNear : GoodIn wsX1_adds wsX1_areNear := goodIn_r _ [8, 2, 9, 10, 11, 12, 13, 14, 15, 16, 17] (by decide +kernel) (by decide +kernel)
set_option maxRecDepth 20000 in
theorem gX1_adds_X1_areNear : GoodIn wsX1_adds (wsV RX1 95 RX1 yX1_areNear wsX1_areNear) := goodIn_app (goodIn_of _ (by decide +kernel)) ggX1_adds_X1_areNear
theorem dX1_adds_0 : decode cX1_adds 0 = .ok (.iconst 0, 1) := by decide +kernel
theorem dX1_adds_1 : decode cX1_adds 1 = .ok (.istore_n 1, 1) := by decide +kernel
theorem dX1_adds_2 : decode cX1_adds 2 = .ok (.iload_n 1, 1) := by decide +kernel
theorem dX1_adds_3 : decode cX1_adds 3 = .ok (.sipush 1024, 3) := by decide +kernel
theorem dX1_adds_6 : decode cX1_adds 6 = .ok (.if_icmp .ge 16, 3) := by decide +kernel
theorem dX1_adds_9 : decode cX1_adds 9 = .ok (.aload_n 0, 1) := by decide +kernel
theorem dX1_adds_10 : decode cX1_adds 10 = .ok (.getfield 26, 3) := by decide +kernel
theorem dX1_adds_13 : decode cX1_adds 13 = .ok (.iload_n 1, 1) := by decide +kernel
theorem dX1_adds_14 : decode cX1_adds 14 = .ok (.lconst 0, 1) := by decide +kernel
theorem dX1_adds_15 : decode cX1_adds 15 = .ok (.lastore, 1) := by decide +kernel
theorem dX1_adds_16 : decode cX1_adds 16 = .ok (.iinc 1 1, 3) := by decide +kernel
theorem dX1_adds_19 : decode cX1_adds 19 = .ok (.goto (-17), 3) := by decide +kernel
theorem dX1_adds_22 : decode cX1_adds 22 = .ok (.iconst 0, 1) := by decide +kernel
theorem dX1_adds_23 : decode cX1_adds 23 = .ok (.istore_n 1, 1) := by decide +kernel
theorem dX1_adds_24 : decode cX1_adds 24 = .ok (.iload_n 1, 1) := by decide +kernel
theorem dX1_adds_25 : decode cX1_adds 25 = .ok (.sipush 1024, 3) := by decide +kernel
theorem dX1_adds_28 : decode cX1_adds 28 = .ok (.if_icmp .ge 67, 3) := by decide +kernel
theorem dX1_adds_31 : decode cX1_adds 31 = .ok (.aload_n 0, 1) := by decide +kernel
theorem dX1_adds_32 : decode cX1_adds 32 = .ok (.iload_n 1, 1) := by decide +kernel
theorem dX1_adds_33 : decode cX1_adds 33 = .ok (.iconst 0, 1) := by decide +kernel
theorem dX1_adds_34 : decode cX1_adds 34 = .ok (.invokevirtual 95, 3) := by decide +kernel
theorem dX1_adds_37 : decode cX1_adds 37 = .ok (.ifCond .eq 52, 3) := by decide +kernel
theorem dX1_adds_40 : decode cX1_adds 40 = .ok (.aload_n 0, 1) := by decide +kernel
theorem dX1_adds_41 : decode cX1_adds 41 = .ok (.getfield 47, 3) := by decide +kernel
theorem dX1_adds_44 : decode cX1_adds 44 = .ok (.iload_n 1, 1) := by decide +kernel
theorem dX1_adds_45 : decode cX1_adds 45 = .ok (.iconst (-1), 1) := by decide +kernel
theorem dX1_adds_46 : decode cX1_adds 46 = .ok (.ixor, 1) := by decide +kernel
theorem dX1_adds_47 : decode cX1_adds 47 = .ok (.iand, 1) := by decide +kernel
theorem dX1_adds_48 : decode cX1_adds 48 = .ok (.istore_n 2, 1) := by decide +kernel
theorem dX1_adds_49 : decode cX1_adds 49 = .ok (.iload_n 2, 1) := by decide +kernel
theorem dX1_adds_50 : decode cX1_adds 50 = .ok (.istore_n 3, 1) := by decide +kernel
theorem dX1_adds_51 : decode cX1_adds 51 = .ok (.iload_n 3, 1) := by decide +kernel
theorem dX1_adds_52 : decode cX1_adds 52 = .ok (.ifCond .lt 37, 3) := by decide +kernel
theorem dX1_adds_55 : decode cX1_adds 55 = .ok (.aload_n 0, 1) := by decide +kernel
theorem dX1_adds_56 : decode cX1_adds 56 = .ok (.getfield 26, 3) := by decide +kernel
theorem dX1_adds_59 : decode cX1_adds 59 = .ok (.iload_n 3, 1) := by decide +kernel
theorem dX1_adds_60 : decode cX1_adds 60 = .ok (.iload_n 1, 1) := by decide +kernel
theorem dX1_adds_61 : decode cX1_adds 61 = .ok (.ior, 1) := by decide +kernel
theorem dX1_adds_62 : decode cX1_adds 62 = .ok (.dup2, 1) := by decide +kernel
theorem dX1_adds_63 : decode cX1_adds 63 = .ok (.laload, 1) := by decide +kernel
theorem dX1_adds_64 : decode cX1_adds 64 = .ok (.aload_n 0, 1) := by decide +kernel
theorem dX1_adds_65 : decode cX1_adds 65 = .ok (.getfield 23, 3) := by decide +kernel
theorem dX1_adds_68 : decode cX1_adds 68 = .ok (.iload_n 3, 1) := by decide +kernel
theorem dX1_adds_69 : decode cX1_adds 69 = .ok (.laload, 1) := by decide +kernel
theorem dX1_adds_70 : decode cX1_adds 70 = .ok (.ladd, 1) := by decide +kernel
theorem dX1_adds_71 : decode cX1_adds 71 = .ok (.lastore, 1) := by decide +kernel
theorem dX1_adds_72 : decode cX1_adds 72 = .ok (.iload_n 3, 1) := by decide +kernel
theorem dX1_adds_73 : decode cX1_adds 73 = .ok (.ifCond .ne 7, 3) := by decide +kernel
theorem dX1_adds_76 : decode cX1_adds 76 = .ok (.iconst (-1), 1) := by decide +kernel
theorem dX1_adds_77 : decode cX1_adds 77 = .ok (.goto 8, 3) := by decide +kernel
theorem dX1_adds_80 : decode cX1_adds 80 = .ok (.iload_n 3, 1) := by decide +kernel
theorem dX1_adds_81 : decode cX1_adds 81 = .ok (.iconst 1, 1) := by decide +kernel
theorem dX1_adds_82 : decode cX1_adds 82 = .ok (.isub, 1) := by decide +kernel
theorem dX1_adds_83 : decode cX1_adds 83 = .ok (.iload_n 2, 1) := by decide +kernel
theorem dX1_adds_84 : decode cX1_adds 84 = .ok (.iand, 1) := by decide +kernel
theorem dX1_adds_85 : decode cX1_adds 85 = .ok (.istore_n 3, 1) := by decide +kernel
theorem dX1_adds_86 : decode cX1_adds 86 = .ok (.goto (-35), 3) := by decide +kernel
theorem dX1_adds_89 : decode cX1_adds 89 = .ok (.iinc 1 1, 3) := by decide +kernel
theorem dX1_adds_92 : decode cX1_adds 92 = .ok (.goto (-68), 3) := by decide +kernel
theorem dX1_adds_95 : decode cX1_adds 95 = .ok (.iconst 0, 1) := by decide +kernel
theorem dX1_adds_96 : decode cX1_adds 96 = .ok (.istore_n 1, 1) := by decide +kernel
theorem dX1_adds_97 : decode cX1_adds 97 = .ok (.iload_n 1, 1) := by decide +kernel
theorem dX1_adds_98 : decode cX1_adds 98 = .ok (.sipush 1024, 3) := by decide +kernel
theorem dX1_adds_101 : decode cX1_adds 101 = .ok (.if_icmp .ge 21, 3) := by decide +kernel
theorem dX1_adds_104 : decode cX1_adds 104 = .ok (.aload_n 0, 1) := by decide +kernel
theorem dX1_adds_105 : decode cX1_adds 105 = .ok (.getfield 23, 3) := by decide +kernel
theorem dX1_adds_108 : decode cX1_adds 108 = .ok (.iload_n 1, 1) := by decide +kernel
theorem dX1_adds_109 : decode cX1_adds 109 = .ok (.aload_n 0, 1) := by decide +kernel
theorem dX1_adds_110 : decode cX1_adds 110 = .ok (.getfield 26, 3) := by decide +kernel
theorem dX1_adds_113 : decode cX1_adds 113 = .ok (.iload_n 1, 1) := by decide +kernel
theorem dX1_adds_114 : decode cX1_adds 114 = .ok (.laload, 1) := by decide +kernel
theorem dX1_adds_115 : decode cX1_adds 115 = .ok (.lastore, 1) := by decide +kernel
theorem dX1_adds_116 : decode cX1_adds 116 = .ok (.iinc 1 1, 3) := by decide +kernel
theorem dX1_adds_119 : decode cX1_adds 119 = .ok (.goto (-22), 3) := by decide +kernel
theorem dX1_adds_122 : decode cX1_adds 122 = .ok (.return_, 1) := by decide +kernel
set_option maxRecDepth 20000 in
theorem ggX1_fewest_X1_begins : GoodIn wsX1_fewest wsX1_begins := goodIn_r _ [7, 1, 8, 9, 10, 6, 11, 2, 12, 13, 14, 15, 16, 17, 18, 19, 20, 30, 31, 32, 33, 34, 35, 36, 37] (by decide +kernel) (by decide +kernel)
set_option maxRecDepth 20000 in
theorem gX1_fewest_X1_begins : GoodIn wsX1_fewest (wsV RX1 115 RX1 yX1_begins wsX1_begins) := goodIn_app (goodIn_of _ (by decide +kernel)) ggX1_fewest_X1_begins
set_option maxRecDepth 20000 in
theorem ggX1_fewest_X1_adds : GoodIn wsX1_fewest wsX1_adds := goodIn_r _ [24, 25, 2, 1, 26, 27, 28, 6, 29, 14, 30, 31, 32, 33, 34, 35, 36, 37] (by decide +kernel) (by decide +kernel)
set_option maxRecDepth 20000 in
theorem gX1_fewest_X1_adds : GoodIn wsX1_fewest (wsV RX1 118 RX1 yX1_adds wsX1_adds) := goodIn_app (goodIn_of _ (by decide +kernel)) ggX1_fewest_X1_adds
theorem dX1_fewest_0 : decode cX1_fewest 0 = .ok (.aload_n 0, 1) := by decide +kernel
theorem dX1_fewest_1 : decode cX1_fewest 1 = .ok (.invokevirtual 115, 3) := by decide +kernel
theorem dX1_fewest_4 : decode cX1_fewest 4 = .ok (.iconst 0, 1) := by decide +kernel
theorem dX1_fewest_5 : decode cX1_fewest 5 = .ok (.istore_n 1, 1) := by decide +kernel
theorem dX1_fewest_6 : decode cX1_fewest 6 = .ok (.aload_n 0, 1) := by decide +kernel
theorem dX1_fewest_7 : decode cX1_fewest 7 = .ok (.getfield 23, 3) := by decide +kernel
theorem dX1_fewest_10 : decode cX1_fewest 10 = .ok (.aload_n 0, 1) := by decide +kernel
theorem dX1_fewest_11 : decode cX1_fewest 11 = .ok (.getfield 47, 3) := by decide +kernel
theorem dX1_fewest_14 : decode cX1_fewest 14 = .ok (.laload, 1) := by decide +kernel
theorem dX1_fewest_15 : decode cX1_fewest 15 = .ok (.lconst 0, 1) := by decide +kernel
theorem dX1_fewest_16 : decode cX1_fewest 16 = .ok (.lcmp, 1) := by decide +kernel
theorem dX1_fewest_17 : decode cX1_fewest 17 = .ok (.ifCond .ne 13, 3) := by decide +kernel
theorem dX1_fewest_20 : decode cX1_fewest 20 = .ok (.aload_n 0, 1) := by decide +kernel
theorem dX1_fewest_21 : decode cX1_fewest 21 = .ok (.invokevirtual 118, 3) := by decide +kernel
theorem dX1_fewest_24 : decode cX1_fewest 24 = .ok (.iinc 1 1, 3) := by decide +kernel
theorem dX1_fewest_27 : decode cX1_fewest 27 = .ok (.goto (-21), 3) := by decide +kernel
theorem dX1_fewest_30 : decode cX1_fewest 30 = .ok (.iload_n 1, 1) := by decide +kernel
theorem dX1_fewest_31 : decode cX1_fewest 31 = .ok (.ireturn, 1) := by decide +kernel
set_option maxRecDepth 20000 in
theorem ggX1_fewestTints_X1_fewest : GoodIn wsX1_fewestTints wsX1_fewest := goodIn_r _ [5, 6, 7, 8, 9, 10, 4, 11, 12, 13, 14, 15, 16, 17, 18, 19, 20, 21, 22, 23, 24, 25, 26, 27, 28, 29, 30, 31, 32, 33, 39, 40, 41, 42, 43, 44, 45, 46] (by decide +kernel) (by decide +kernel)
set_option maxRecDepth 20000 in
theorem gX1_fewestTints_X1_fewest : GoodIn wsX1_fewestTints (wsV RX1 121 RX1 yX1_fewest wsX1_fewest) := goodIn_app (goodIn_of _ (by decide +kernel)) ggX1_fewestTints_X1_fewest
set_option maxRecDepth 20000 in
theorem ggX1_fewestTints_X1_told : GoodIn wsX1_fewestTints wsX1_told := goodIn_r _ [37, 38, 39, 40, 41, 42, 43, 44, 45, 46] (by decide +kernel) (by decide +kernel)
set_option maxRecDepth 20000 in
theorem gX1_fewestTints_X1_told : GoodIn wsX1_fewestTints (wsV RX1 73 RX1 yX1_told wsX1_told) := goodIn_app (goodIn_of _ (by decide +kernel)) ggX1_fewestTints_X1_told
theorem dX1_fewestTints_0 : decode cX1_fewestTints 0 = .ok (.aload_n 0, 1) := by decide +kernel
theorem dX1_fewestTints_1 : decode cX1_fewestTints 1 = .ok (.aload_n 0, 1) := by decide +kernel
theorem dX1_fewestTints_2 : decode cX1_fewestTints 2 = .ok (.invokevirtual 121, 3) := by decide +kernel
theorem dX1_fewestTints_5 : decode cX1_fewestTints 5 = .ok (.invokevirtual 73, 3) := by decide +kernel
theorem dX1_fewestTints_8 : decode cX1_fewestTints 8 = .ok (.ireturn, 1) := by decide +kernel
theorem dX1_isApart_0 : decode cX1_isApart 0 = .ok (.iconst 1, 1) := by decide +kernel
theorem dX1_isApart_1 : decode cX1_isApart 1 = .ok (.istore_n 2, 1) := by decide +kernel
theorem dX1_isApart_2 : decode cX1_isApart 2 = .ok (.iconst 0, 1) := by decide +kernel
theorem dX1_isApart_3 : decode cX1_isApart 3 = .ok (.istore_n 3, 1) := by decide +kernel
theorem dX1_isApart_4 : decode cX1_isApart 4 = .ok (.iload_n 3, 1) := by decide +kernel
theorem dX1_isApart_5 : decode cX1_isApart 5 = .ok (.iload_n 1, 1) := by decide +kernel
theorem dX1_isApart_6 : decode cX1_isApart 6 = .ok (.if_icmp .ge 47, 3) := by decide +kernel
theorem dX1_isApart_9 : decode cX1_isApart 9 = .ok (.iload_n 2, 1) := by decide +kernel
theorem dX1_isApart_10 : decode cX1_isApart 10 = .ok (.ifCond .eq 35, 3) := by decide +kernel
theorem dX1_isApart_13 : decode cX1_isApart 13 = .ok (.aload_n 0, 1) := by decide +kernel
theorem dX1_isApart_14 : decode cX1_isApart 14 = .ok (.getfield 20, 3) := by decide +kernel
theorem dX1_isApart_17 : decode cX1_isApart 17 = .ok (.iload_n 1, 1) := by decide +kernel
theorem dX1_isApart_18 : decode cX1_isApart 18 = .ok (.iaload, 1) := by decide +kernel
theorem dX1_isApart_19 : decode cX1_isApart 19 = .ok (.iload_n 3, 1) := by decide +kernel
theorem dX1_isApart_20 : decode cX1_isApart 20 = .ok (.ishr, 1) := by decide +kernel
theorem dX1_isApart_21 : decode cX1_isApart 21 = .ok (.iconst 1, 1) := by decide +kernel
theorem dX1_isApart_22 : decode cX1_isApart 22 = .ok (.iand, 1) := by decide +kernel
theorem dX1_isApart_23 : decode cX1_isApart 23 = .ok (.ifCond .eq 18, 3) := by decide +kernel
theorem dX1_isApart_26 : decode cX1_isApart 26 = .ok (.aload_n 0, 1) := by decide +kernel
theorem dX1_isApart_27 : decode cX1_isApart 27 = .ok (.getfield 13, 3) := by decide +kernel
theorem dX1_isApart_30 : decode cX1_isApart 30 = .ok (.iload_n 3, 1) := by decide +kernel
theorem dX1_isApart_31 : decode cX1_isApart 31 = .ok (.iaload, 1) := by decide +kernel
theorem dX1_isApart_32 : decode cX1_isApart 32 = .ok (.aload_n 0, 1) := by decide +kernel
theorem dX1_isApart_33 : decode cX1_isApart 33 = .ok (.getfield 13, 3) := by decide +kernel
theorem dX1_isApart_36 : decode cX1_isApart 36 = .ok (.iload_n 1, 1) := by decide +kernel
theorem dX1_isApart_37 : decode cX1_isApart 37 = .ok (.iaload, 1) := by decide +kernel
theorem dX1_isApart_38 : decode cX1_isApart 38 = .ok (.if_icmp .eq 7, 3) := by decide +kernel
theorem dX1_isApart_41 : decode cX1_isApart 41 = .ok (.iconst 1, 1) := by decide +kernel
theorem dX1_isApart_42 : decode cX1_isApart 42 = .ok (.goto 4, 3) := by decide +kernel
theorem dX1_isApart_45 : decode cX1_isApart 45 = .ok (.iconst 0, 1) := by decide +kernel
theorem dX1_isApart_46 : decode cX1_isApart 46 = .ok (.istore_n 2, 1) := by decide +kernel
theorem dX1_isApart_47 : decode cX1_isApart 47 = .ok (.iinc 3 1, 3) := by decide +kernel
theorem dX1_isApart_50 : decode cX1_isApart 50 = .ok (.goto (-46), 3) := by decide +kernel
theorem dX1_isApart_53 : decode cX1_isApart 53 = .ok (.iload_n 2, 1) := by decide +kernel
theorem dX1_isApart_54 : decode cX1_isApart 54 = .ok (.ireturn, 1) := by decide +kernel
set_option maxRecDepth 20000 in
theorem ggX1_next_X1_in : GoodIn wsX1_next wsX1_in := goodIn_r _ [4] (by decide +kernel) (by decide +kernel)
set_option maxRecDepth 20000 in
theorem gX1_next_X1_in : GoodIn wsX1_next (va_wsS RX1 33 yX1_in wsX1_in) := goodIn_app (goodIn_of _ (by decide +kernel)) ggX1_next_X1_in
set_option maxRecDepth 20000 in
theorem ggX1_next_X1_isThere : GoodIn wsX1_next wsX1_isThere := goodIn_r _ [8, 9, 10, 11, 12, 13, 14, 15, 16, 17] (by decide +kernel) (by decide +kernel)
set_option maxRecDepth 20000 in
theorem gX1_next_X1_isThere : GoodIn wsX1_next (wsV RX1 103 RX1 yX1_isThere wsX1_isThere) := goodIn_app (goodIn_of _ (by decide +kernel)) ggX1_next_X1_isThere
theorem dX1_next_0 : decode cX1_next 0 = .ok (.iload_n 1, 1) := by decide +kernel
theorem dX1_next_1 : decode cX1_next 1 = .ok (.iload_n 2, 1) := by decide +kernel
theorem dX1_next_2 : decode cX1_next 2 = .ok (.iadd, 1) := by decide +kernel
theorem dX1_next_3 : decode cX1_next 3 = .ok (.istore_n 3, 1) := by decide +kernel
theorem dX1_next_4 : decode cX1_next 4 = .ok (.iload_n 3, 1) := by decide +kernel
theorem dX1_next_5 : decode cX1_next 5 = .ok (.iconst 0, 1) := by decide +kernel
theorem dX1_next_6 : decode cX1_next 6 = .ok (.bipush 9, 2) := by decide +kernel
theorem dX1_next_8 : decode cX1_next 8 = .ok (.invokestatic 33, 3) := by decide +kernel
theorem dX1_next_11 : decode cX1_next 11 = .ok (.ifCond .eq 18, 3) := by decide +kernel
theorem dX1_next_14 : decode cX1_next 14 = .ok (.aload_n 0, 1) := by decide +kernel
theorem dX1_next_15 : decode cX1_next 15 = .ok (.iload_n 3, 1) := by decide +kernel
theorem dX1_next_16 : decode cX1_next 16 = .ok (.invokevirtual 103, 3) := by decide +kernel
theorem dX1_next_19 : decode cX1_next 19 = .ok (.ifCond .ne 10, 3) := by decide +kernel
theorem dX1_next_22 : decode cX1_next 22 = .ok (.iload_n 3, 1) := by decide +kernel
theorem dX1_next_23 : decode cX1_next 23 = .ok (.iload_n 2, 1) := by decide +kernel
theorem dX1_next_24 : decode cX1_next 24 = .ok (.iadd, 1) := by decide +kernel
theorem dX1_next_25 : decode cX1_next 25 = .ok (.istore_n 3, 1) := by decide +kernel
theorem dX1_next_26 : decode cX1_next 26 = .ok (.goto (-22), 3) := by decide +kernel
theorem dX1_next_29 : decode cX1_next 29 = .ok (.iload_n 3, 1) := by decide +kernel
theorem dX1_next_30 : decode cX1_next 30 = .ok (.ireturn, 1) := by decide +kernel
set_option maxRecDepth 20000 in
theorem ggX1_tintWithFewest_X1_fewest : GoodIn wsX1_tintWithFewest wsX1_fewest := goodIn_r _ [7, 8, 9, 10, 11, 12, 6, 13, 14, 15, 16, 17, 18, 19, 20, 21, 22, 23, 24, 25, 26, 27, 28, 29, 30, 31, 32, 33, 34, 35, 51, 52, 53, 54, 55, 56, 57, 58] (by decide +kernel) (by decide +kernel)
set_option maxRecDepth 20000 in
theorem gX1_tintWithFewest_X1_fewest : GoodIn wsX1_tintWithFewest (wsV RX1 121 RX1 yX1_fewest wsX1_fewest) := goodIn_app (goodIn_of _ (by decide +kernel)) ggX1_tintWithFewest_X1_fewest
set_option maxRecDepth 20000 in
theorem ggX1_tintWithFewest_X1_next : GoodIn wsX1_tintWithFewest wsX1_next := goodIn_r _ [39, 40, 41, 6, 42, 43, 44, 45, 46, 9, 51, 52, 53, 54, 55, 56, 57, 58] (by decide +kernel) (by decide +kernel)
set_option maxRecDepth 20000 in
theorem gX1_tintWithFewest_X1_next : GoodIn wsX1_tintWithFewest (wsV RX1 124 RX1 yX1_next wsX1_next) := goodIn_app (goodIn_of _ (by decide +kernel)) ggX1_tintWithFewest_X1_next
set_option maxRecDepth 20000 in
theorem ggX1_tintWithFewest_X1_isApart : GoodIn wsX1_tintWithFewest wsX1_isApart := goodIn_r _ [50, 20, 2, 51, 52, 53, 54, 55, 56, 57, 58] (by decide +kernel) (by decide +kernel)
set_option maxRecDepth 20000 in
theorem gX1_tintWithFewest_X1_isApart : GoodIn wsX1_tintWithFewest (wsV RX1 127 RX1 yX1_isApart wsX1_isApart) := goodIn_app (goodIn_of _ (by decide +kernel)) ggX1_tintWithFewest_X1_isApart
theorem dX1_tintWithFewest_0 : decode cX1_tintWithFewest 0 = .ok (.aload_n 0, 1) := by decide +kernel
theorem dX1_tintWithFewest_1 : decode cX1_tintWithFewest 1 = .ok (.iconst 0, 1) := by decide +kernel
theorem dX1_tintWithFewest_2 : decode cX1_tintWithFewest 2 = .ok (.putfield 29, 3) := by decide +kernel
theorem dX1_tintWithFewest_5 : decode cX1_tintWithFewest 5 = .ok (.aload_n 0, 1) := by decide +kernel
theorem dX1_tintWithFewest_6 : decode cX1_tintWithFewest 6 = .ok (.invokevirtual 121, 3) := by decide +kernel
theorem dX1_tintWithFewest_9 : decode cX1_tintWithFewest 9 = .ok (.istore_n 1, 1) := by decide +kernel
theorem dX1_tintWithFewest_10 : decode cX1_tintWithFewest 10 = .ok (.aload_n 0, 1) := by decide +kernel
theorem dX1_tintWithFewest_11 : decode cX1_tintWithFewest 11 = .ok (.iconst (-1), 1) := by decide +kernel
theorem dX1_tintWithFewest_12 : decode cX1_tintWithFewest 12 = .ok (.iconst 1, 1) := by decide +kernel
theorem dX1_tintWithFewest_13 : decode cX1_tintWithFewest 13 = .ok (.invokevirtual 124, 3) := by decide +kernel
theorem dX1_tintWithFewest_16 : decode cX1_tintWithFewest 16 = .ok (.istore_n 2, 1) := by decide +kernel
theorem dX1_tintWithFewest_17 : decode cX1_tintWithFewest 17 = .ok (.iload_n 2, 1) := by decide +kernel
theorem dX1_tintWithFewest_18 : decode cX1_tintWithFewest 18 = .ok (.bipush 10, 2) := by decide +kernel
theorem dX1_tintWithFewest_20 : decode cX1_tintWithFewest 20 = .ok (.if_icmp .ge 10, 3) := by decide +kernel
theorem dX1_tintWithFewest_23 : decode cX1_tintWithFewest 23 = .ok (.aload_n 0, 1) := by decide +kernel
theorem dX1_tintWithFewest_24 : decode cX1_tintWithFewest 24 = .ok (.getfield 13, 3) := by decide +kernel
theorem dX1_tintWithFewest_27 : decode cX1_tintWithFewest 27 = .ok (.iload_n 2, 1) := by decide +kernel
theorem dX1_tintWithFewest_28 : decode cX1_tintWithFewest 28 = .ok (.iconst 0, 1) := by decide +kernel
theorem dX1_tintWithFewest_29 : decode cX1_tintWithFewest 29 = .ok (.iastore, 1) := by decide +kernel
theorem dX1_tintWithFewest_30 : decode cX1_tintWithFewest 30 = .ok (.iload_n 2, 1) := by decide +kernel
theorem dX1_tintWithFewest_31 : decode cX1_tintWithFewest 31 = .ok (.bipush 10, 2) := by decide +kernel
theorem dX1_tintWithFewest_33 : decode cX1_tintWithFewest 33 = .ok (.if_icmp .ge 95, 3) := by decide +kernel
theorem dX1_tintWithFewest_36 : decode cX1_tintWithFewest 36 = .ok (.aload_n 0, 1) := by decide +kernel
theorem dX1_tintWithFewest_37 : decode cX1_tintWithFewest 37 = .ok (.getfield 13, 3) := by decide +kernel
theorem dX1_tintWithFewest_40 : decode cX1_tintWithFewest 40 = .ok (.iload_n 2, 1) := by decide +kernel
theorem dX1_tintWithFewest_41 : decode cX1_tintWithFewest 41 = .ok (.dup2, 1) := by decide +kernel
theorem dX1_tintWithFewest_42 : decode cX1_tintWithFewest 42 = .ok (.iaload, 1) := by decide +kernel
theorem dX1_tintWithFewest_43 : decode cX1_tintWithFewest 43 = .ok (.iconst 1, 1) := by decide +kernel
theorem dX1_tintWithFewest_44 : decode cX1_tintWithFewest 44 = .ok (.iadd, 1) := by decide +kernel
theorem dX1_tintWithFewest_45 : decode cX1_tintWithFewest 45 = .ok (.iastore, 1) := by decide +kernel
theorem dX1_tintWithFewest_46 : decode cX1_tintWithFewest 46 = .ok (.aload_n 0, 1) := by decide +kernel
theorem dX1_tintWithFewest_47 : decode cX1_tintWithFewest 47 = .ok (.getfield 13, 3) := by decide +kernel
theorem dX1_tintWithFewest_50 : decode cX1_tintWithFewest 50 = .ok (.iload_n 2, 1) := by decide +kernel
theorem dX1_tintWithFewest_51 : decode cX1_tintWithFewest 51 = .ok (.iaload, 1) := by decide +kernel
theorem dX1_tintWithFewest_52 : decode cX1_tintWithFewest 52 = .ok (.iload_n 1, 1) := by decide +kernel
theorem dX1_tintWithFewest_53 : decode cX1_tintWithFewest 53 = .ok (.if_icmp .gt 24, 3) := by decide +kernel
theorem dX1_tintWithFewest_56 : decode cX1_tintWithFewest 56 = .ok (.aload_n 0, 1) := by decide +kernel
theorem dX1_tintWithFewest_57 : decode cX1_tintWithFewest 57 = .ok (.iload_n 2, 1) := by decide +kernel
theorem dX1_tintWithFewest_58 : decode cX1_tintWithFewest 58 = .ok (.invokevirtual 127, 3) := by decide +kernel
theorem dX1_tintWithFewest_61 : decode cX1_tintWithFewest 61 = .ok (.ifCond .ne 16, 3) := by decide +kernel
theorem dX1_tintWithFewest_64 : decode cX1_tintWithFewest 64 = .ok (.aload_n 0, 1) := by decide +kernel
theorem dX1_tintWithFewest_65 : decode cX1_tintWithFewest 65 = .ok (.getfield 13, 3) := by decide +kernel
theorem dX1_tintWithFewest_68 : decode cX1_tintWithFewest 68 = .ok (.iload_n 2, 1) := by decide +kernel
theorem dX1_tintWithFewest_69 : decode cX1_tintWithFewest 69 = .ok (.dup2, 1) := by decide +kernel
theorem dX1_tintWithFewest_70 : decode cX1_tintWithFewest 70 = .ok (.iaload, 1) := by decide +kernel
theorem dX1_tintWithFewest_71 : decode cX1_tintWithFewest 71 = .ok (.iconst 1, 1) := by decide +kernel
theorem dX1_tintWithFewest_72 : decode cX1_tintWithFewest 72 = .ok (.iadd, 1) := by decide +kernel
theorem dX1_tintWithFewest_73 : decode cX1_tintWithFewest 73 = .ok (.iastore, 1) := by decide +kernel
theorem dX1_tintWithFewest_74 : decode cX1_tintWithFewest 74 = .ok (.goto (-28), 3) := by decide +kernel
theorem dX1_tintWithFewest_77 : decode cX1_tintWithFewest 77 = .ok (.aload_n 0, 1) := by decide +kernel
theorem dX1_tintWithFewest_78 : decode cX1_tintWithFewest 78 = .ok (.getfield 13, 3) := by decide +kernel
theorem dX1_tintWithFewest_81 : decode cX1_tintWithFewest 81 = .ok (.iload_n 2, 1) := by decide +kernel
theorem dX1_tintWithFewest_82 : decode cX1_tintWithFewest 82 = .ok (.iaload, 1) := by decide +kernel
theorem dX1_tintWithFewest_83 : decode cX1_tintWithFewest 83 = .ok (.iload_n 1, 1) := by decide +kernel
theorem dX1_tintWithFewest_84 : decode cX1_tintWithFewest 84 = .ok (.if_icmp .gt 7, 3) := by decide +kernel
theorem dX1_tintWithFewest_87 : decode cX1_tintWithFewest 87 = .ok (.iconst 1, 1) := by decide +kernel
theorem dX1_tintWithFewest_88 : decode cX1_tintWithFewest 88 = .ok (.goto 4, 3) := by decide +kernel
theorem dX1_tintWithFewest_91 : decode cX1_tintWithFewest 91 = .ok (.iconst 0, 1) := by decide +kernel
theorem dX1_tintWithFewest_92 : decode cX1_tintWithFewest 92 = .ok (.istore_n 3, 1) := by decide +kernel
theorem dX1_tintWithFewest_93 : decode cX1_tintWithFewest 93 = .ok (.aload_n 0, 1) := by decide +kernel
theorem dX1_tintWithFewest_94 : decode cX1_tintWithFewest 94 = .ok (.iload_n 2, 1) := by decide +kernel
theorem dX1_tintWithFewest_95 : decode cX1_tintWithFewest 95 = .ok (.iload_n 3, 1) := by decide +kernel
theorem dX1_tintWithFewest_96 : decode cX1_tintWithFewest 96 = .ok (.ifCond .eq 7, 3) := by decide +kernel
theorem dX1_tintWithFewest_99 : decode cX1_tintWithFewest 99 = .ok (.iconst 1, 1) := by decide +kernel
theorem dX1_tintWithFewest_100 : decode cX1_tintWithFewest 100 = .ok (.goto 4, 3) := by decide +kernel
theorem dX1_tintWithFewest_103 : decode cX1_tintWithFewest 103 = .ok (.iconst (-1), 1) := by decide +kernel
theorem dX1_tintWithFewest_104 : decode cX1_tintWithFewest 104 = .ok (.invokevirtual 124, 3) := by decide +kernel
theorem dX1_tintWithFewest_107 : decode cX1_tintWithFewest 107 = .ok (.istore_n 2, 1) := by decide +kernel
theorem dX1_tintWithFewest_108 : decode cX1_tintWithFewest 108 = .ok (.iload_n 3, 1) := by decide +kernel
theorem dX1_tintWithFewest_109 : decode cX1_tintWithFewest 109 = .ok (.ifCond .eq 16, 3) := by decide +kernel
theorem dX1_tintWithFewest_112 : decode cX1_tintWithFewest 112 = .ok (.iload_n 2, 1) := by decide +kernel
theorem dX1_tintWithFewest_113 : decode cX1_tintWithFewest 113 = .ok (.bipush 10, 2) := by decide +kernel
theorem dX1_tintWithFewest_115 : decode cX1_tintWithFewest 115 = .ok (.if_icmp .ge 10, 3) := by decide +kernel
theorem dX1_tintWithFewest_118 : decode cX1_tintWithFewest 118 = .ok (.aload_n 0, 1) := by decide +kernel
theorem dX1_tintWithFewest_119 : decode cX1_tintWithFewest 119 = .ok (.getfield 13, 3) := by decide +kernel
theorem dX1_tintWithFewest_122 : decode cX1_tintWithFewest 122 = .ok (.iload_n 2, 1) := by decide +kernel
theorem dX1_tintWithFewest_123 : decode cX1_tintWithFewest 123 = .ok (.iconst 0, 1) := by decide +kernel
theorem dX1_tintWithFewest_124 : decode cX1_tintWithFewest 124 = .ok (.iastore, 1) := by decide +kernel
theorem dX1_tintWithFewest_125 : decode cX1_tintWithFewest 125 = .ok (.goto (-95), 3) := by decide +kernel
theorem dX1_tintWithFewest_128 : decode cX1_tintWithFewest 128 = .ok (.iload_n 1, 1) := by decide +kernel
theorem dX1_tintWithFewest_129 : decode cX1_tintWithFewest 129 = .ok (.ireturn, 1) := by decide +kernel
set_option maxRecDepth 20000 in
theorem ggX1_count_X1_in : GoodIn wsX1_count wsX1_in := goodIn_r _ [6] (by decide +kernel) (by decide +kernel)
set_option maxRecDepth 20000 in
theorem gX1_count_X1_in : GoodIn wsX1_count (va_wsS RX1 33 yX1_in wsX1_in) := goodIn_app (goodIn_of _ (by decide +kernel)) ggX1_count_X1_in
set_option maxRecDepth 20000 in
theorem ggX1_count_X1_goes : GoodIn wsX1_count wsX1_goes := goodIn_r _ [10, 11, 38, 39, 40, 41, 42, 43, 44, 45] (by decide +kernel) (by decide +kernel)
set_option maxRecDepth 20000 in
theorem gX1_count_X1_goes : GoodIn wsX1_count (wsV RX1 58 RX1 yX1_goes wsX1_goes) := goodIn_app (goodIn_of _ (by decide +kernel)) ggX1_count_X1_goes
set_option maxRecDepth 20000 in
theorem ggX1_count_X1_begins : GoodIn wsX1_count wsX1_begins := goodIn_r _ [15, 1, 16, 17, 18, 5, 19, 2, 20, 21, 22, 23, 24, 25, 26, 27, 28, 38, 39, 40, 41, 42, 43, 44, 45] (by decide +kernel) (by decide +kernel)
set_option maxRecDepth 20000 in
theorem gX1_count_X1_begins : GoodIn wsX1_count (wsV RX1 115 RX1 yX1_begins wsX1_begins) := goodIn_app (goodIn_of _ (by decide +kernel)) ggX1_count_X1_begins
set_option maxRecDepth 20000 in
theorem ggX1_count_X1_adds : GoodIn wsX1_count wsX1_adds := goodIn_r _ [32, 33, 2, 1, 34, 35, 36, 5, 37, 22, 38, 39, 40, 41, 42, 43, 44, 45] (by decide +kernel) (by decide +kernel)
set_option maxRecDepth 20000 in
theorem gX1_count_X1_adds : GoodIn wsX1_count (wsV RX1 118 RX1 yX1_adds wsX1_adds) := goodIn_app (goodIn_of _ (by decide +kernel)) ggX1_count_X1_adds
theorem dX1_count_0 : decode cX1_count 0 = .ok (.aload_n 0, 1) := by decide +kernel
theorem dX1_count_1 : decode cX1_count 1 = .ok (.iload_n 1, 1) := by decide +kernel
theorem dX1_count_2 : decode cX1_count 2 = .ok (.iconst 0, 1) := by decide +kernel
theorem dX1_count_3 : decode cX1_count 3 = .ok (.bipush 10, 2) := by decide +kernel
theorem dX1_count_5 : decode cX1_count 5 = .ok (.invokestatic 33, 3) := by decide +kernel
theorem dX1_count_8 : decode cX1_count 8 = .ok (.iconst 1, 1) := by decide +kernel
theorem dX1_count_9 : decode cX1_count 9 = .ok (.iconst 1, 1) := by decide +kernel
theorem dX1_count_10 : decode cX1_count 10 = .ok (.invokevirtual 58, 3) := by decide +kernel
theorem dX1_count_13 : decode cX1_count 13 = .ok (.ifCond .ne 5, 3) := by decide +kernel
theorem dX1_count_16 : decode cX1_count 16 = .ok (.lconst 0, 1) := by decide +kernel
theorem dX1_count_17 : decode cX1_count 17 = .ok (.lreturn, 1) := by decide +kernel
theorem dX1_count_18 : decode cX1_count 18 = .ok (.aload_n 0, 1) := by decide +kernel
theorem dX1_count_19 : decode cX1_count 19 = .ok (.invokevirtual 115, 3) := by decide +kernel
theorem dX1_count_22 : decode cX1_count 22 = .ok (.iconst 0, 1) := by decide +kernel
theorem dX1_count_23 : decode cX1_count 23 = .ok (.istore_n 2, 1) := by decide +kernel
theorem dX1_count_24 : decode cX1_count 24 = .ok (.iload_n 2, 1) := by decide +kernel
theorem dX1_count_25 : decode cX1_count 25 = .ok (.iload_n 1, 1) := by decide +kernel
theorem dX1_count_26 : decode cX1_count 26 = .ok (.if_icmp .ge 13, 3) := by decide +kernel
theorem dX1_count_29 : decode cX1_count 29 = .ok (.aload_n 0, 1) := by decide +kernel
theorem dX1_count_30 : decode cX1_count 30 = .ok (.invokevirtual 118, 3) := by decide +kernel
theorem dX1_count_33 : decode cX1_count 33 = .ok (.iinc 2 1, 3) := by decide +kernel
theorem dX1_count_36 : decode cX1_count 36 = .ok (.goto (-12), 3) := by decide +kernel
theorem dX1_count_39 : decode cX1_count 39 = .ok (.aload_n 0, 1) := by decide +kernel
theorem dX1_count_40 : decode cX1_count 40 = .ok (.getfield 23, 3) := by decide +kernel
theorem dX1_count_43 : decode cX1_count 43 = .ok (.aload_n 0, 1) := by decide +kernel
theorem dX1_count_44 : decode cX1_count 44 = .ok (.getfield 47, 3) := by decide +kernel
theorem dX1_count_47 : decode cX1_count 47 = .ok (.laload, 1) := by decide +kernel
theorem dX1_count_48 : decode cX1_count 48 = .ok (.lreturn, 1) := by decide +kernel
set_option maxRecDepth 20000 in
theorem ggX1_tintings_X1_count : GoodIn wsX1_tintings wsX1_count := goodIn_r _ [5, 6, 7, 8, 9, 4, 10, 11, 12, 13, 14, 15, 16, 17, 18, 19, 20, 21, 22, 23, 24, 25, 26, 27, 28, 29, 30, 31, 32, 33, 34, 35, 36, 37, 38, 39, 40, 41, 42, 43, 44, 45, 46, 47, 48, 49] (by decide +kernel) (by decide +kernel)
set_option maxRecDepth 20000 in
theorem gX1_tintings_X1_count : GoodIn wsX1_tintings (wsV RX1 130 RX1 yX1_count wsX1_count) := goodIn_app (goodIn_of _ (by decide +kernel)) ggX1_tintings_X1_count
theorem dX1_tintings_0 : decode cX1_tintings 0 = .ok (.aload_n 0, 1) := by decide +kernel
theorem dX1_tintings_1 : decode cX1_tintings 1 = .ok (.iload_n 1, 1) := by decide +kernel
theorem dX1_tintings_2 : decode cX1_tintings 2 = .ok (.invokevirtual 130, 3) := by decide +kernel
theorem dX1_tintings_5 : decode cX1_tintings 5 = .ok (.lreturn, 1) := by decide +kernel
set_option maxRecDepth 20000 in
theorem ggX1_tintingsByPairs_X1_count : GoodIn wsX1_tintingsByPairs wsX1_count := goodIn_r _ [5, 6, 7, 8, 9, 4, 10, 11, 12, 13, 14, 15, 16, 17, 18, 19, 20, 21, 22, 23, 24, 25, 26, 27, 28, 29, 30, 31, 32, 33, 34, 35, 36, 37, 38, 39, 40, 41, 42, 43, 44, 45, 46, 47, 48, 49] (by decide +kernel) (by decide +kernel)
set_option maxRecDepth 20000 in
theorem gX1_tintingsByPairs_X1_count : GoodIn wsX1_tintingsByPairs (wsV RX1 130 RX1 yX1_count wsX1_count) := goodIn_app (goodIn_of _ (by decide +kernel)) ggX1_tintingsByPairs_X1_count
theorem dX1_tintingsByPairs_0 : decode cX1_tintingsByPairs 0 = .ok (.aload_n 0, 1) := by decide +kernel
theorem dX1_tintingsByPairs_1 : decode cX1_tintingsByPairs 1 = .ok (.iload_n 1, 1) := by decide +kernel
theorem dX1_tintingsByPairs_2 : decode cX1_tintingsByPairs 2 = .ok (.invokevirtual 130, 3) := by decide +kernel
theorem dX1_tintingsByPairs_5 : decode cX1_tintingsByPairs 5 = .ok (.lreturn, 1) := by decide +kernel
theorem dJ6_bitCount_0f7a4_0 : decode cJ6_bitCount_0f7a4 0 = .ok (.iload_n 0, 1) := by decide +kernel
theorem dJ6_bitCount_0f7a4_1 : decode cJ6_bitCount_0f7a4 1 = .ok (.iload_n 0, 1) := by decide +kernel
theorem dJ6_bitCount_0f7a4_2 : decode cJ6_bitCount_0f7a4 2 = .ok (.iconst 1, 1) := by decide +kernel
theorem dJ6_bitCount_0f7a4_3 : decode cJ6_bitCount_0f7a4 3 = .ok (.iushr, 1) := by decide +kernel
theorem dJ6_bitCount_0f7a4_4 : decode cJ6_bitCount_0f7a4 4 = .ok (.ldc_w 265, 3) := by decide +kernel
theorem dJ6_bitCount_0f7a4_7 : decode cJ6_bitCount_0f7a4 7 = .ok (.iand, 1) := by decide +kernel
theorem dJ6_bitCount_0f7a4_8 : decode cJ6_bitCount_0f7a4 8 = .ok (.isub, 1) := by decide +kernel
theorem dJ6_bitCount_0f7a4_9 : decode cJ6_bitCount_0f7a4 9 = .ok (.istore_n 0, 1) := by decide +kernel
theorem dJ6_bitCount_0f7a4_10 : decode cJ6_bitCount_0f7a4 10 = .ok (.iload_n 0, 1) := by decide +kernel
theorem dJ6_bitCount_0f7a4_11 : decode cJ6_bitCount_0f7a4 11 = .ok (.ldc_w 266, 3) := by decide +kernel
theorem dJ6_bitCount_0f7a4_14 : decode cJ6_bitCount_0f7a4 14 = .ok (.iand, 1) := by decide +kernel
theorem dJ6_bitCount_0f7a4_15 : decode cJ6_bitCount_0f7a4 15 = .ok (.iload_n 0, 1) := by decide +kernel
theorem dJ6_bitCount_0f7a4_16 : decode cJ6_bitCount_0f7a4 16 = .ok (.iconst 2, 1) := by decide +kernel
theorem dJ6_bitCount_0f7a4_17 : decode cJ6_bitCount_0f7a4 17 = .ok (.iushr, 1) := by decide +kernel
theorem dJ6_bitCount_0f7a4_18 : decode cJ6_bitCount_0f7a4 18 = .ok (.ldc_w 266, 3) := by decide +kernel
theorem dJ6_bitCount_0f7a4_21 : decode cJ6_bitCount_0f7a4 21 = .ok (.iand, 1) := by decide +kernel
theorem dJ6_bitCount_0f7a4_22 : decode cJ6_bitCount_0f7a4 22 = .ok (.iadd, 1) := by decide +kernel
theorem dJ6_bitCount_0f7a4_23 : decode cJ6_bitCount_0f7a4 23 = .ok (.istore_n 0, 1) := by decide +kernel
theorem dJ6_bitCount_0f7a4_24 : decode cJ6_bitCount_0f7a4 24 = .ok (.iload_n 0, 1) := by decide +kernel
theorem dJ6_bitCount_0f7a4_25 : decode cJ6_bitCount_0f7a4 25 = .ok (.iload_n 0, 1) := by decide +kernel
theorem dJ6_bitCount_0f7a4_26 : decode cJ6_bitCount_0f7a4 26 = .ok (.iconst 4, 1) := by decide +kernel
theorem dJ6_bitCount_0f7a4_27 : decode cJ6_bitCount_0f7a4 27 = .ok (.iushr, 1) := by decide +kernel
theorem dJ6_bitCount_0f7a4_28 : decode cJ6_bitCount_0f7a4 28 = .ok (.iadd, 1) := by decide +kernel
theorem dJ6_bitCount_0f7a4_29 : decode cJ6_bitCount_0f7a4 29 = .ok (.ldc_w 267, 3) := by decide +kernel
theorem dJ6_bitCount_0f7a4_32 : decode cJ6_bitCount_0f7a4 32 = .ok (.iand, 1) := by decide +kernel
theorem dJ6_bitCount_0f7a4_33 : decode cJ6_bitCount_0f7a4 33 = .ok (.istore_n 0, 1) := by decide +kernel
theorem dJ6_bitCount_0f7a4_34 : decode cJ6_bitCount_0f7a4 34 = .ok (.iload_n 0, 1) := by decide +kernel
theorem dJ6_bitCount_0f7a4_35 : decode cJ6_bitCount_0f7a4 35 = .ok (.iload_n 0, 1) := by decide +kernel
theorem dJ6_bitCount_0f7a4_36 : decode cJ6_bitCount_0f7a4 36 = .ok (.bipush 8, 2) := by decide +kernel
theorem dJ6_bitCount_0f7a4_38 : decode cJ6_bitCount_0f7a4 38 = .ok (.iushr, 1) := by decide +kernel
theorem dJ6_bitCount_0f7a4_39 : decode cJ6_bitCount_0f7a4 39 = .ok (.iadd, 1) := by decide +kernel
theorem dJ6_bitCount_0f7a4_40 : decode cJ6_bitCount_0f7a4 40 = .ok (.istore_n 0, 1) := by decide +kernel
theorem dJ6_bitCount_0f7a4_41 : decode cJ6_bitCount_0f7a4 41 = .ok (.iload_n 0, 1) := by decide +kernel
theorem dJ6_bitCount_0f7a4_42 : decode cJ6_bitCount_0f7a4 42 = .ok (.iload_n 0, 1) := by decide +kernel
theorem dJ6_bitCount_0f7a4_43 : decode cJ6_bitCount_0f7a4 43 = .ok (.bipush 16, 2) := by decide +kernel
theorem dJ6_bitCount_0f7a4_45 : decode cJ6_bitCount_0f7a4 45 = .ok (.iushr, 1) := by decide +kernel
theorem dJ6_bitCount_0f7a4_46 : decode cJ6_bitCount_0f7a4 46 = .ok (.iadd, 1) := by decide +kernel
theorem dJ6_bitCount_0f7a4_47 : decode cJ6_bitCount_0f7a4 47 = .ok (.istore_n 0, 1) := by decide +kernel
theorem dJ6_bitCount_0f7a4_48 : decode cJ6_bitCount_0f7a4 48 = .ok (.iload_n 0, 1) := by decide +kernel
theorem dJ6_bitCount_0f7a4_49 : decode cJ6_bitCount_0f7a4 49 = .ok (.bipush 63, 2) := by decide +kernel
theorem dJ6_bitCount_0f7a4_51 : decode cJ6_bitCount_0f7a4 51 = .ok (.iand, 1) := by decide +kernel
theorem dJ6_bitCount_0f7a4_52 : decode cJ6_bitCount_0f7a4 52 = .ok (.ireturn, 1) := by decide +kernel
theorem dJ13_bitCount_95d88_0 : decode cJ13_bitCount_95d88 0 = .ok (.lload_n 0, 1) := by decide +kernel
theorem dJ13_bitCount_95d88_1 : decode cJ13_bitCount_95d88 1 = .ok (.lload_n 0, 1) := by decide +kernel
theorem dJ13_bitCount_95d88_2 : decode cJ13_bitCount_95d88 2 = .ok (.iconst 1, 1) := by decide +kernel
theorem dJ13_bitCount_95d88_3 : decode cJ13_bitCount_95d88 3 = .ok (.lushr, 1) := by decide +kernel
theorem dJ13_bitCount_95d88_4 : decode cJ13_bitCount_95d88 4 = .ok (.ldc2_w 314, 3) := by decide +kernel
theorem dJ13_bitCount_95d88_7 : decode cJ13_bitCount_95d88 7 = .ok (.land, 1) := by decide +kernel
theorem dJ13_bitCount_95d88_8 : decode cJ13_bitCount_95d88 8 = .ok (.lsub, 1) := by decide +kernel
theorem dJ13_bitCount_95d88_9 : decode cJ13_bitCount_95d88 9 = .ok (.lstore_n 0, 1) := by decide +kernel
theorem dJ13_bitCount_95d88_10 : decode cJ13_bitCount_95d88 10 = .ok (.lload_n 0, 1) := by decide +kernel
theorem dJ13_bitCount_95d88_11 : decode cJ13_bitCount_95d88 11 = .ok (.ldc2_w 316, 3) := by decide +kernel
theorem dJ13_bitCount_95d88_14 : decode cJ13_bitCount_95d88 14 = .ok (.land, 1) := by decide +kernel
theorem dJ13_bitCount_95d88_15 : decode cJ13_bitCount_95d88 15 = .ok (.lload_n 0, 1) := by decide +kernel
theorem dJ13_bitCount_95d88_16 : decode cJ13_bitCount_95d88 16 = .ok (.iconst 2, 1) := by decide +kernel
theorem dJ13_bitCount_95d88_17 : decode cJ13_bitCount_95d88 17 = .ok (.lushr, 1) := by decide +kernel
theorem dJ13_bitCount_95d88_18 : decode cJ13_bitCount_95d88 18 = .ok (.ldc2_w 316, 3) := by decide +kernel
theorem dJ13_bitCount_95d88_21 : decode cJ13_bitCount_95d88 21 = .ok (.land, 1) := by decide +kernel
theorem dJ13_bitCount_95d88_22 : decode cJ13_bitCount_95d88 22 = .ok (.ladd, 1) := by decide +kernel
theorem dJ13_bitCount_95d88_23 : decode cJ13_bitCount_95d88 23 = .ok (.lstore_n 0, 1) := by decide +kernel
theorem dJ13_bitCount_95d88_24 : decode cJ13_bitCount_95d88 24 = .ok (.lload_n 0, 1) := by decide +kernel
theorem dJ13_bitCount_95d88_25 : decode cJ13_bitCount_95d88 25 = .ok (.lload_n 0, 1) := by decide +kernel
theorem dJ13_bitCount_95d88_26 : decode cJ13_bitCount_95d88 26 = .ok (.iconst 4, 1) := by decide +kernel
theorem dJ13_bitCount_95d88_27 : decode cJ13_bitCount_95d88 27 = .ok (.lushr, 1) := by decide +kernel
theorem dJ13_bitCount_95d88_28 : decode cJ13_bitCount_95d88 28 = .ok (.ladd, 1) := by decide +kernel
theorem dJ13_bitCount_95d88_29 : decode cJ13_bitCount_95d88 29 = .ok (.ldc2_w 318, 3) := by decide +kernel
theorem dJ13_bitCount_95d88_32 : decode cJ13_bitCount_95d88 32 = .ok (.land, 1) := by decide +kernel
theorem dJ13_bitCount_95d88_33 : decode cJ13_bitCount_95d88 33 = .ok (.lstore_n 0, 1) := by decide +kernel
theorem dJ13_bitCount_95d88_34 : decode cJ13_bitCount_95d88 34 = .ok (.lload_n 0, 1) := by decide +kernel
theorem dJ13_bitCount_95d88_35 : decode cJ13_bitCount_95d88 35 = .ok (.lload_n 0, 1) := by decide +kernel
theorem dJ13_bitCount_95d88_36 : decode cJ13_bitCount_95d88 36 = .ok (.bipush 8, 2) := by decide +kernel
theorem dJ13_bitCount_95d88_38 : decode cJ13_bitCount_95d88 38 = .ok (.lushr, 1) := by decide +kernel
theorem dJ13_bitCount_95d88_39 : decode cJ13_bitCount_95d88 39 = .ok (.ladd, 1) := by decide +kernel
theorem dJ13_bitCount_95d88_40 : decode cJ13_bitCount_95d88 40 = .ok (.lstore_n 0, 1) := by decide +kernel
theorem dJ13_bitCount_95d88_41 : decode cJ13_bitCount_95d88 41 = .ok (.lload_n 0, 1) := by decide +kernel
theorem dJ13_bitCount_95d88_42 : decode cJ13_bitCount_95d88 42 = .ok (.lload_n 0, 1) := by decide +kernel
theorem dJ13_bitCount_95d88_43 : decode cJ13_bitCount_95d88 43 = .ok (.bipush 16, 2) := by decide +kernel
theorem dJ13_bitCount_95d88_45 : decode cJ13_bitCount_95d88 45 = .ok (.lushr, 1) := by decide +kernel
theorem dJ13_bitCount_95d88_46 : decode cJ13_bitCount_95d88 46 = .ok (.ladd, 1) := by decide +kernel
theorem dJ13_bitCount_95d88_47 : decode cJ13_bitCount_95d88 47 = .ok (.lstore_n 0, 1) := by decide +kernel
theorem dJ13_bitCount_95d88_48 : decode cJ13_bitCount_95d88 48 = .ok (.lload_n 0, 1) := by decide +kernel
theorem dJ13_bitCount_95d88_49 : decode cJ13_bitCount_95d88 49 = .ok (.lload_n 0, 1) := by decide +kernel
theorem dJ13_bitCount_95d88_50 : decode cJ13_bitCount_95d88 50 = .ok (.bipush 32, 2) := by decide +kernel
theorem dJ13_bitCount_95d88_52 : decode cJ13_bitCount_95d88 52 = .ok (.lushr, 1) := by decide +kernel
theorem dJ13_bitCount_95d88_53 : decode cJ13_bitCount_95d88 53 = .ok (.ladd, 1) := by decide +kernel
theorem dJ13_bitCount_95d88_54 : decode cJ13_bitCount_95d88 54 = .ok (.lstore_n 0, 1) := by decide +kernel
theorem dJ13_bitCount_95d88_55 : decode cJ13_bitCount_95d88 55 = .ok (.lload_n 0, 1) := by decide +kernel
theorem dJ13_bitCount_95d88_56 : decode cJ13_bitCount_95d88 56 = .ok (.l2i, 1) := by decide +kernel
theorem dJ13_bitCount_95d88_57 : decode cJ13_bitCount_95d88 57 = .ok (.bipush 127, 2) := by decide +kernel
theorem dJ13_bitCount_95d88_59 : decode cJ13_bitCount_95d88 59 = .ok (.iand, 1) := by decide +kernel
theorem dJ13_bitCount_95d88_60 : decode cJ13_bitCount_95d88 60 = .ok (.ireturn, 1) := by decide +kernel
theorem dJ9_max_7cf53_0 : decode cJ9_max_7cf53 0 = .ok (.iload_n 0, 1) := by decide +kernel
theorem dJ9_max_7cf53_1 : decode cJ9_max_7cf53 1 = .ok (.iload_n 1, 1) := by decide +kernel
theorem dJ9_max_7cf53_2 : decode cJ9_max_7cf53 2 = .ok (.if_icmp .lt 7, 3) := by decide +kernel
theorem dJ9_max_7cf53_5 : decode cJ9_max_7cf53 5 = .ok (.iload_n 0, 1) := by decide +kernel
theorem dJ9_max_7cf53_6 : decode cJ9_max_7cf53 6 = .ok (.goto 4, 3) := by decide +kernel
theorem dJ9_max_7cf53_9 : decode cJ9_max_7cf53 9 = .ok (.iload_n 1, 1) := by decide +kernel
theorem dJ9_max_7cf53_10 : decode cJ9_max_7cf53 10 = .ok (.ireturn, 1) := by decide +kernel
theorem dJ7_fill_d0a16_0 : decode cJ7_fill_d0a16 0 = .ok (.iconst 0, 1) := by decide +kernel
theorem dJ7_fill_d0a16_1 : decode cJ7_fill_d0a16 1 = .ok (.istore_n 3, 1) := by decide +kernel
theorem dJ7_fill_d0a16_2 : decode cJ7_fill_d0a16 2 = .ok (.aload_n 0, 1) := by decide +kernel
theorem dJ7_fill_d0a16_3 : decode cJ7_fill_d0a16 3 = .ok (.arraylength, 1) := by decide +kernel
theorem dJ7_fill_d0a16_4 : decode cJ7_fill_d0a16 4 = .ok (.istore 4, 2) := by decide +kernel
theorem dJ7_fill_d0a16_6 : decode cJ7_fill_d0a16 6 = .ok (.iload_n 3, 1) := by decide +kernel
theorem dJ7_fill_d0a16_7 : decode cJ7_fill_d0a16 7 = .ok (.iload 4, 2) := by decide +kernel
theorem dJ7_fill_d0a16_9 : decode cJ7_fill_d0a16 9 = .ok (.if_icmp .ge 13, 3) := by decide +kernel
theorem dJ7_fill_d0a16_12 : decode cJ7_fill_d0a16 12 = .ok (.aload_n 0, 1) := by decide +kernel
theorem dJ7_fill_d0a16_13 : decode cJ7_fill_d0a16 13 = .ok (.iload_n 3, 1) := by decide +kernel
theorem dJ7_fill_d0a16_14 : decode cJ7_fill_d0a16 14 = .ok (.lload_n 1, 1) := by decide +kernel
theorem dJ7_fill_d0a16_15 : decode cJ7_fill_d0a16 15 = .ok (.lastore, 1) := by decide +kernel
theorem dJ7_fill_d0a16_16 : decode cJ7_fill_d0a16 16 = .ok (.iinc 3 1, 3) := by decide +kernel
theorem dJ7_fill_d0a16_19 : decode cJ7_fill_d0a16 19 = .ok (.goto (-13), 3) := by decide +kernel
theorem dJ7_fill_d0a16_22 : decode cJ7_fill_d0a16 22 = .ok (.return_, 1) := by decide +kernel
set_option maxRecDepth 20000 in
theorem ggL_paint_X0_paint : GoodIn wsL_paint wsX0_paint := goodIn_ca (goodIn_ca (goodIn_r _ [7, 8, 9, 6, 10, 11, 12, 13, 14, 15, 16, 17, 18, 19, 20, 21, 22, 23, 24, 25, 26, 27, 28, 29, 30, 31, 32, 33, 34, 35, 36, 37, 38, 39, 40, 41, 42, 43, 44, 45, 46, 47, 48, 49, 50, 51, 52, 53, 54, 55, 56, 57, 58, 59, 60, 61, 62, 63, 64, 65, 66] (by decide +kernel) (by decide +kernel)) (goodIn_sub (fun _ h => List.mem_cons_of_mem _ (List.mem_append_left _ (List.mem_append_right _ h))) (by decide +kernel))) (goodIn_sub (fun _ h => List.mem_cons_of_mem _ (List.mem_append_right _ h)) (by decide +kernel))
set_option maxRecDepth 20000 in
theorem gL_paint_X0_paint : GoodIn wsL_paint (wsV RL 7 RX0 yX0_paint wsX0_paint) := goodIn_app (goodIn_of _ (by decide +kernel)) ggL_paint_X0_paint
theorem dL_paint_0 : decode cL_paint 0 = .ok (.aload 4, 2) := by decide +kernel
theorem dL_paint_2 : decode cL_paint 2 = .ok (.iconst 0, 1) := by decide +kernel
theorem dL_paint_3 : decode cL_paint 3 = .ok (.aload_n 0, 1) := by decide +kernel
theorem dL_paint_4 : decode cL_paint 4 = .ok (.iload_n 1, 1) := by decide +kernel
theorem dL_paint_5 : decode cL_paint 5 = .ok (.iload_n 2, 1) := by decide +kernel
theorem dL_paint_6 : decode cL_paint 6 = .ok (.iload_n 3, 1) := by decide +kernel
theorem dL_paint_7 : decode cL_paint 7 = .ok (.invokevirtual 7, 3) := by decide +kernel
theorem dL_paint_10 : decode cL_paint 10 = .ok (.i2l, 1) := by decide +kernel
theorem dL_paint_11 : decode cL_paint 11 = .ok (.lastore, 1) := by decide +kernel
theorem dL_paint_12 : decode cL_paint 12 = .ok (.goto 11, 3) := by decide +kernel
theorem dL_paint_15 : decode cL_paint 15 = .ok (.astore 5, 2) := by decide +kernel
theorem dL_paint_17 : decode cL_paint 17 = .ok (.iconst 1, 1) := by decide +kernel
theorem dL_paint_18 : decode cL_paint 18 = .ok (.ireturn, 1) := by decide +kernel
theorem dL_paint_19 : decode cL_paint 19 = .ok (.astore 5, 2) := by decide +kernel
theorem dL_paint_21 : decode cL_paint 21 = .ok (.iconst 2, 1) := by decide +kernel
theorem dL_paint_22 : decode cL_paint 22 = .ok (.ireturn, 1) := by decide +kernel
theorem dL_paint_23 : decode cL_paint 23 = .ok (.iconst 0, 1) := by decide +kernel
theorem dL_paint_24 : decode cL_paint 24 = .ok (.ireturn, 1) := by decide +kernel
set_option maxRecDepth 20000 in
theorem ggL_paintBlock_X0_paintBlock : GoodIn wsL_paintBlock wsX0_paintBlock := goodIn_ca (goodIn_ca (goodIn_r _ [7, 8, 9, 10, 11, 12, 6, 13, 14, 15, 16, 17, 18, 19, 20, 21, 22, 23, 24, 25, 26, 27, 28, 29, 30, 31, 32, 33, 34, 35, 36, 37, 38, 39, 40, 41, 42, 43, 44, 45, 46, 47, 48, 49, 50, 51, 52, 53, 54, 55, 56, 57, 58, 59, 60, 61, 62, 63, 64, 65, 66, 67, 68, 69, 70, 71, 72, 73] (by decide +kernel) (by decide +kernel)) (goodIn_sub (fun _ h => List.mem_cons_of_mem _ (List.mem_append_left _ (List.mem_append_right _ h))) (by decide +kernel))) (goodIn_sub (fun _ h => List.mem_cons_of_mem _ (List.mem_append_right _ h)) (by decide +kernel))
set_option maxRecDepth 20000 in
theorem gL_paintBlock_X0_paintBlock : GoodIn wsL_paintBlock (wsV RL 17 RX0 yX0_paintBlock wsX0_paintBlock) := goodIn_app (goodIn_of _ (by decide +kernel)) ggL_paintBlock_X0_paintBlock
theorem dL_paintBlock_0 : decode cL_paintBlock 0 = .ok (.aload 6, 2) := by decide +kernel
theorem dL_paintBlock_2 : decode cL_paintBlock 2 = .ok (.iconst 0, 1) := by decide +kernel
theorem dL_paintBlock_3 : decode cL_paintBlock 3 = .ok (.aload_n 0, 1) := by decide +kernel
theorem dL_paintBlock_4 : decode cL_paintBlock 4 = .ok (.iload_n 1, 1) := by decide +kernel
theorem dL_paintBlock_5 : decode cL_paintBlock 5 = .ok (.iload_n 2, 1) := by decide +kernel
theorem dL_paintBlock_6 : decode cL_paintBlock 6 = .ok (.iload_n 3, 1) := by decide +kernel
theorem dL_paintBlock_7 : decode cL_paintBlock 7 = .ok (.iload 4, 2) := by decide +kernel
theorem dL_paintBlock_9 : decode cL_paintBlock 9 = .ok (.iload 5, 2) := by decide +kernel
theorem dL_paintBlock_11 : decode cL_paintBlock 11 = .ok (.invokevirtual 17, 3) := by decide +kernel
theorem dL_paintBlock_14 : decode cL_paintBlock 14 = .ok (.i2l, 1) := by decide +kernel
theorem dL_paintBlock_15 : decode cL_paintBlock 15 = .ok (.lastore, 1) := by decide +kernel
theorem dL_paintBlock_16 : decode cL_paintBlock 16 = .ok (.goto 11, 3) := by decide +kernel
theorem dL_paintBlock_19 : decode cL_paintBlock 19 = .ok (.astore 7, 2) := by decide +kernel
theorem dL_paintBlock_21 : decode cL_paintBlock 21 = .ok (.iconst 1, 1) := by decide +kernel
theorem dL_paintBlock_22 : decode cL_paintBlock 22 = .ok (.ireturn, 1) := by decide +kernel
theorem dL_paintBlock_23 : decode cL_paintBlock 23 = .ok (.astore 7, 2) := by decide +kernel
theorem dL_paintBlock_25 : decode cL_paintBlock 25 = .ok (.iconst 2, 1) := by decide +kernel
theorem dL_paintBlock_26 : decode cL_paintBlock 26 = .ok (.ireturn, 1) := by decide +kernel
theorem dL_paintBlock_27 : decode cL_paintBlock 27 = .ok (.iconst 0, 1) := by decide +kernel
theorem dL_paintBlock_28 : decode cL_paintBlock 28 = .ok (.ireturn, 1) := by decide +kernel
set_option maxRecDepth 20000 in
theorem ggL_countryAt_X0_countryAt : GoodIn wsL_countryAt wsX0_countryAt := goodIn_ca (goodIn_r _ [6, 7, 8, 5, 9, 10, 11, 12, 13, 14, 15, 16, 17, 18, 19, 20, 21, 22, 23, 24, 25, 26, 27] (by decide +kernel) (by decide +kernel)) (goodIn_sub (fun _ h => List.mem_cons_of_mem _ (List.mem_append_right _ h)) (by decide +kernel))
set_option maxRecDepth 20000 in
theorem gL_countryAt_X0_countryAt : GoodIn wsL_countryAt (wsV RL 21 RX0 yX0_countryAt wsX0_countryAt) := goodIn_app (goodIn_of _ (by decide +kernel)) ggL_countryAt_X0_countryAt
theorem dL_countryAt_0 : decode cL_countryAt 0 = .ok (.aload_n 3, 1) := by decide +kernel
theorem dL_countryAt_1 : decode cL_countryAt 1 = .ok (.iconst 0, 1) := by decide +kernel
theorem dL_countryAt_2 : decode cL_countryAt 2 = .ok (.aload_n 0, 1) := by decide +kernel
theorem dL_countryAt_3 : decode cL_countryAt 3 = .ok (.iload_n 1, 1) := by decide +kernel
theorem dL_countryAt_4 : decode cL_countryAt 4 = .ok (.iload_n 2, 1) := by decide +kernel
theorem dL_countryAt_5 : decode cL_countryAt 5 = .ok (.invokevirtual 21, 3) := by decide +kernel
theorem dL_countryAt_8 : decode cL_countryAt 8 = .ok (.i2l, 1) := by decide +kernel
theorem dL_countryAt_9 : decode cL_countryAt 9 = .ok (.lastore, 1) := by decide +kernel
theorem dL_countryAt_10 : decode cL_countryAt 10 = .ok (.goto 7, 3) := by decide +kernel
theorem dL_countryAt_13 : decode cL_countryAt 13 = .ok (.astore 4, 2) := by decide +kernel
theorem dL_countryAt_15 : decode cL_countryAt 15 = .ok (.iconst 1, 1) := by decide +kernel
theorem dL_countryAt_16 : decode cL_countryAt 16 = .ok (.ireturn, 1) := by decide +kernel
theorem dL_countryAt_17 : decode cL_countryAt 17 = .ok (.iconst 0, 1) := by decide +kernel
theorem dL_countryAt_18 : decode cL_countryAt 18 = .ok (.ireturn, 1) := by decide +kernel
set_option maxRecDepth 20000 in
theorem ggL_area_X0_area : GoodIn wsL_area wsX0_area := goodIn_ca (goodIn_r _ [6, 7, 8, 9, 5, 10, 11, 12, 13, 14, 15, 16, 17, 18, 19, 20, 21, 22, 23, 24, 25, 26, 27] (by decide +kernel) (by decide +kernel)) (goodIn_sub (fun _ h => List.mem_cons_of_mem _ (List.mem_append_right _ h)) (by decide +kernel))
set_option maxRecDepth 20000 in
theorem gL_area_X0_area : GoodIn wsL_area (wsV RL 25 RX0 yX0_area wsX0_area) := goodIn_app (goodIn_of _ (by decide +kernel)) ggL_area_X0_area
theorem dL_area_0 : decode cL_area 0 = .ok (.aload_n 2, 1) := by decide +kernel
theorem dL_area_1 : decode cL_area 1 = .ok (.iconst 0, 1) := by decide +kernel
theorem dL_area_2 : decode cL_area 2 = .ok (.aload_n 0, 1) := by decide +kernel
theorem dL_area_3 : decode cL_area 3 = .ok (.iload_n 1, 1) := by decide +kernel
theorem dL_area_4 : decode cL_area 4 = .ok (.invokevirtual 25, 3) := by decide +kernel
theorem dL_area_7 : decode cL_area 7 = .ok (.i2l, 1) := by decide +kernel
theorem dL_area_8 : decode cL_area 8 = .ok (.lastore, 1) := by decide +kernel
theorem dL_area_9 : decode cL_area 9 = .ok (.goto 6, 3) := by decide +kernel
theorem dL_area_12 : decode cL_area 12 = .ok (.astore_n 3, 1) := by decide +kernel
theorem dL_area_13 : decode cL_area 13 = .ok (.iconst 1, 1) := by decide +kernel
theorem dL_area_14 : decode cL_area 14 = .ok (.ireturn, 1) := by decide +kernel
theorem dL_area_15 : decode cL_area 15 = .ok (.iconst 0, 1) := by decide +kernel
theorem dL_area_16 : decode cL_area 16 = .ok (.ireturn, 1) := by decide +kernel
set_option maxRecDepth 20000 in
theorem ggL_pieces_X0_pieces : GoodIn wsL_pieces wsX0_pieces := goodIn_ca (goodIn_r _ [6, 7, 8, 9, 5, 10, 11, 12, 13, 14, 15, 16, 17, 18, 19, 20, 21, 22, 23, 24, 25, 26, 27, 28, 29, 30, 31, 32, 33, 34, 35, 36, 37, 38, 39, 40, 41, 42, 43, 44, 45, 46, 47, 48] (by decide +kernel) (by decide +kernel)) (goodIn_sub (fun _ h => List.mem_cons_of_mem _ (List.mem_append_right _ h)) (by decide +kernel))
set_option maxRecDepth 20000 in
theorem gL_pieces_X0_pieces : GoodIn wsL_pieces (wsV RL 29 RX0 yX0_pieces wsX0_pieces) := goodIn_app (goodIn_of _ (by decide +kernel)) ggL_pieces_X0_pieces
theorem dL_pieces_0 : decode cL_pieces 0 = .ok (.aload_n 2, 1) := by decide +kernel
theorem dL_pieces_1 : decode cL_pieces 1 = .ok (.iconst 0, 1) := by decide +kernel
theorem dL_pieces_2 : decode cL_pieces 2 = .ok (.aload_n 0, 1) := by decide +kernel
theorem dL_pieces_3 : decode cL_pieces 3 = .ok (.iload_n 1, 1) := by decide +kernel
theorem dL_pieces_4 : decode cL_pieces 4 = .ok (.invokevirtual 29, 3) := by decide +kernel
theorem dL_pieces_7 : decode cL_pieces 7 = .ok (.i2l, 1) := by decide +kernel
theorem dL_pieces_8 : decode cL_pieces 8 = .ok (.lastore, 1) := by decide +kernel
theorem dL_pieces_9 : decode cL_pieces 9 = .ok (.goto 6, 3) := by decide +kernel
theorem dL_pieces_12 : decode cL_pieces 12 = .ok (.astore_n 3, 1) := by decide +kernel
theorem dL_pieces_13 : decode cL_pieces 13 = .ok (.iconst 1, 1) := by decide +kernel
theorem dL_pieces_14 : decode cL_pieces 14 = .ok (.ireturn, 1) := by decide +kernel
theorem dL_pieces_15 : decode cL_pieces 15 = .ok (.iconst 0, 1) := by decide +kernel
theorem dL_pieces_16 : decode cL_pieces 16 = .ok (.ireturn, 1) := by decide +kernel
set_option maxRecDepth 20000 in
theorem ggL_largestPiece_X0_largestPiece : GoodIn wsL_largestPiece wsX0_largestPiece := goodIn_ca (goodIn_r _ [6, 7, 8, 9, 10, 11, 12, 13, 14, 5, 15, 16, 17, 18, 19, 20, 21, 22, 23, 24, 25, 26, 27, 28, 29, 30, 31, 32, 33, 34, 35, 36, 37, 38, 39, 40, 41, 42, 43, 44, 45, 46, 47, 48, 49, 50, 51, 52, 53, 54, 55, 56] (by decide +kernel) (by decide +kernel)) (goodIn_sub (fun _ h => List.mem_cons_of_mem _ (List.mem_append_right _ h)) (by decide +kernel))
set_option maxRecDepth 20000 in
theorem gL_largestPiece_X0_largestPiece : GoodIn wsL_largestPiece (wsV RL 32 RX0 yX0_largestPiece wsX0_largestPiece) := goodIn_app (goodIn_of _ (by decide +kernel)) ggL_largestPiece_X0_largestPiece
theorem dL_largestPiece_0 : decode cL_largestPiece 0 = .ok (.aload_n 2, 1) := by decide +kernel
theorem dL_largestPiece_1 : decode cL_largestPiece 1 = .ok (.iconst 0, 1) := by decide +kernel
theorem dL_largestPiece_2 : decode cL_largestPiece 2 = .ok (.aload_n 0, 1) := by decide +kernel
theorem dL_largestPiece_3 : decode cL_largestPiece 3 = .ok (.iload_n 1, 1) := by decide +kernel
theorem dL_largestPiece_4 : decode cL_largestPiece 4 = .ok (.invokevirtual 32, 3) := by decide +kernel
theorem dL_largestPiece_7 : decode cL_largestPiece 7 = .ok (.i2l, 1) := by decide +kernel
theorem dL_largestPiece_8 : decode cL_largestPiece 8 = .ok (.lastore, 1) := by decide +kernel
theorem dL_largestPiece_9 : decode cL_largestPiece 9 = .ok (.goto 6, 3) := by decide +kernel
theorem dL_largestPiece_12 : decode cL_largestPiece 12 = .ok (.astore_n 3, 1) := by decide +kernel
theorem dL_largestPiece_13 : decode cL_largestPiece 13 = .ok (.iconst 1, 1) := by decide +kernel
theorem dL_largestPiece_14 : decode cL_largestPiece 14 = .ok (.ireturn, 1) := by decide +kernel
theorem dL_largestPiece_15 : decode cL_largestPiece 15 = .ok (.iconst 0, 1) := by decide +kernel
theorem dL_largestPiece_16 : decode cL_largestPiece 16 = .ok (.ireturn, 1) := by decide +kernel
set_option maxRecDepth 20000 in
theorem ggL_neighbours_X0_neighbours : GoodIn wsL_neighbours wsX0_neighbours := goodIn_ca (goodIn_r _ [6, 7, 8, 9, 5, 10, 11, 12, 13, 14, 15, 16, 17, 18, 19, 20, 21, 22, 23, 24, 25, 26, 27] (by decide +kernel) (by decide +kernel)) (goodIn_sub (fun _ h => List.mem_cons_of_mem _ (List.mem_append_right _ h)) (by decide +kernel))
set_option maxRecDepth 20000 in
theorem gL_neighbours_X0_neighbours : GoodIn wsL_neighbours (wsV RL 35 RX0 yX0_neighbours wsX0_neighbours) := goodIn_app (goodIn_of _ (by decide +kernel)) ggL_neighbours_X0_neighbours
theorem dL_neighbours_0 : decode cL_neighbours 0 = .ok (.aload_n 2, 1) := by decide +kernel
theorem dL_neighbours_1 : decode cL_neighbours 1 = .ok (.iconst 0, 1) := by decide +kernel
theorem dL_neighbours_2 : decode cL_neighbours 2 = .ok (.aload_n 0, 1) := by decide +kernel
theorem dL_neighbours_3 : decode cL_neighbours 3 = .ok (.iload_n 1, 1) := by decide +kernel
theorem dL_neighbours_4 : decode cL_neighbours 4 = .ok (.invokevirtual 35, 3) := by decide +kernel
theorem dL_neighbours_7 : decode cL_neighbours 7 = .ok (.i2l, 1) := by decide +kernel
theorem dL_neighbours_8 : decode cL_neighbours 8 = .ok (.lastore, 1) := by decide +kernel
theorem dL_neighbours_9 : decode cL_neighbours 9 = .ok (.goto 6, 3) := by decide +kernel
theorem dL_neighbours_12 : decode cL_neighbours 12 = .ok (.astore_n 3, 1) := by decide +kernel
theorem dL_neighbours_13 : decode cL_neighbours 13 = .ok (.iconst 1, 1) := by decide +kernel
theorem dL_neighbours_14 : decode cL_neighbours 14 = .ok (.ireturn, 1) := by decide +kernel
theorem dL_neighbours_15 : decode cL_neighbours 15 = .ok (.iconst 0, 1) := by decide +kernel
theorem dL_neighbours_16 : decode cL_neighbours 16 = .ok (.ireturn, 1) := by decide +kernel
set_option maxRecDepth 20000 in
theorem ggL_border_X0_border : GoodIn wsL_border wsX0_border := goodIn_ca (goodIn_r _ [6, 7, 8, 9, 5, 10, 11, 12, 13, 14, 15, 16, 17, 18, 19, 20, 21, 22, 23, 24, 25, 26, 27, 28, 29, 30, 31, 32, 33, 34, 35, 36, 37, 38, 39, 40, 41, 42] (by decide +kernel) (by decide +kernel)) (goodIn_sub (fun _ h => List.mem_cons_of_mem _ (List.mem_append_right _ h)) (by decide +kernel))
set_option maxRecDepth 20000 in
theorem gL_border_X0_border : GoodIn wsL_border (wsV RL 38 RX0 yX0_border wsX0_border) := goodIn_app (goodIn_of _ (by decide +kernel)) ggL_border_X0_border
theorem dL_border_0 : decode cL_border 0 = .ok (.aload_n 3, 1) := by decide +kernel
theorem dL_border_1 : decode cL_border 1 = .ok (.iconst 0, 1) := by decide +kernel
theorem dL_border_2 : decode cL_border 2 = .ok (.aload_n 0, 1) := by decide +kernel
theorem dL_border_3 : decode cL_border 3 = .ok (.iload_n 1, 1) := by decide +kernel
theorem dL_border_4 : decode cL_border 4 = .ok (.iload_n 2, 1) := by decide +kernel
theorem dL_border_5 : decode cL_border 5 = .ok (.invokevirtual 38, 3) := by decide +kernel
theorem dL_border_8 : decode cL_border 8 = .ok (.i2l, 1) := by decide +kernel
theorem dL_border_9 : decode cL_border 9 = .ok (.lastore, 1) := by decide +kernel
theorem dL_border_10 : decode cL_border 10 = .ok (.goto 7, 3) := by decide +kernel
theorem dL_border_13 : decode cL_border 13 = .ok (.astore 4, 2) := by decide +kernel
theorem dL_border_15 : decode cL_border 15 = .ok (.iconst 1, 1) := by decide +kernel
theorem dL_border_16 : decode cL_border 16 = .ok (.ireturn, 1) := by decide +kernel
theorem dL_border_17 : decode cL_border 17 = .ok (.iconst 0, 1) := by decide +kernel
theorem dL_border_18 : decode cL_border 18 = .ok (.ireturn, 1) := by decide +kernel
set_option maxRecDepth 20000 in
theorem ggL_enclosed_X0_enclosed : GoodIn wsL_enclosed wsX0_enclosed := goodIn_ca (goodIn_r _ [6, 7, 8, 9, 10, 11, 12, 5, 13, 14, 15, 16, 17, 18, 19, 20, 21, 22, 23, 24, 25, 26, 27, 28, 29, 30, 31, 32, 33, 34, 35, 36, 37, 38, 39, 40, 41, 42, 43, 44, 45, 46, 47, 48, 49, 50] (by decide +kernel) (by decide +kernel)) (goodIn_sub (fun _ h => List.mem_cons_of_mem _ (List.mem_append_right _ h)) (by decide +kernel))
set_option maxRecDepth 20000 in
theorem gL_enclosed_X0_enclosed : GoodIn wsL_enclosed (wsV RL 41 RX0 yX0_enclosed wsX0_enclosed) := goodIn_app (goodIn_of _ (by decide +kernel)) ggL_enclosed_X0_enclosed
theorem dL_enclosed_0 : decode cL_enclosed 0 = .ok (.aload_n 2, 1) := by decide +kernel
theorem dL_enclosed_1 : decode cL_enclosed 1 = .ok (.iconst 0, 1) := by decide +kernel
theorem dL_enclosed_2 : decode cL_enclosed 2 = .ok (.aload_n 0, 1) := by decide +kernel
theorem dL_enclosed_3 : decode cL_enclosed 3 = .ok (.iload_n 1, 1) := by decide +kernel
theorem dL_enclosed_4 : decode cL_enclosed 4 = .ok (.invokevirtual 41, 3) := by decide +kernel
theorem dL_enclosed_7 : decode cL_enclosed 7 = .ok (.i2l, 1) := by decide +kernel
theorem dL_enclosed_8 : decode cL_enclosed 8 = .ok (.lastore, 1) := by decide +kernel
theorem dL_enclosed_9 : decode cL_enclosed 9 = .ok (.goto 6, 3) := by decide +kernel
theorem dL_enclosed_12 : decode cL_enclosed 12 = .ok (.astore_n 3, 1) := by decide +kernel
theorem dL_enclosed_13 : decode cL_enclosed 13 = .ok (.iconst 1, 1) := by decide +kernel
theorem dL_enclosed_14 : decode cL_enclosed 14 = .ok (.ireturn, 1) := by decide +kernel
theorem dL_enclosed_15 : decode cL_enclosed 15 = .ok (.iconst 0, 1) := by decide +kernel
theorem dL_enclosed_16 : decode cL_enclosed 16 = .ok (.ireturn, 1) := by decide +kernel
set_option maxRecDepth 20000 in
theorem ggL_tint_X0_tint : GoodIn wsL_tint wsX0_tint := goodIn_ca (goodIn_ca (goodIn_r _ [7, 8, 9, 10, 6, 11, 12, 13, 14, 15, 16, 17, 18, 19, 20, 21, 22, 23, 24, 25, 26] (by decide +kernel) (by decide +kernel)) (goodIn_sub (fun _ h => List.mem_cons_of_mem _ (List.mem_append_left _ (List.mem_append_right _ h))) (by decide +kernel))) (goodIn_sub (fun _ h => List.mem_cons_of_mem _ (List.mem_append_right _ h)) (by decide +kernel))
set_option maxRecDepth 20000 in
theorem gL_tint_X0_tint : GoodIn wsL_tint (wsV RL 44 RX0 yX0_tint wsX0_tint) := goodIn_app (goodIn_of _ (by decide +kernel)) ggL_tint_X0_tint
theorem dL_tint_0 : decode cL_tint 0 = .ok (.aload_n 3, 1) := by decide +kernel
theorem dL_tint_1 : decode cL_tint 1 = .ok (.iconst 0, 1) := by decide +kernel
