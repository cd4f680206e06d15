theorem dX1_border_4 : decode cX1_border 4 = .ok (.aload_n 0, 1) := by decide +kernel
theorem dX1_border_5 : decode cX1_border 5 = .ok (.iload_n 1, 1) := by decide +kernel
theorem dX1_border_6 : decode cX1_border 6 = .ok (.invokestatic 54, 3) := by decide +kernel
theorem dX1_border_9 : decode cX1_border 9 = .ok (.ifCond .eq 14, 3) := by decide +kernel
theorem dX1_border_12 : decode cX1_border 12 = .ok (.iload_n 2, 1) := by decide +kernel
theorem dX1_border_13 : decode cX1_border 13 = .ok (.invokestatic 54, 3) := by decide +kernel
theorem dX1_border_16 : decode cX1_border 16 = .ok (.ifCond .eq 7, 3) := by decide +kernel
theorem dX1_border_19 : decode cX1_border 19 = .ok (.iconst 1, 1) := by decide +kernel
theorem dX1_border_20 : decode cX1_border 20 = .ok (.goto 4, 3) := by decide +kernel
theorem dX1_border_23 : decode cX1_border 23 = .ok (.iconst 0, 1) := by decide +kernel
theorem dX1_border_24 : decode cX1_border 24 = .ok (.iconst 1, 1) := by decide +kernel
theorem dX1_border_25 : decode cX1_border 25 = .ok (.iconst 1, 1) := by decide +kernel
theorem dX1_border_26 : decode cX1_border 26 = .ok (.invokevirtual 58, 3) := by decide +kernel
theorem dX1_border_29 : decode cX1_border 29 = .ok (.ifCond .ne 5, 3) := by decide +kernel
theorem dX1_border_32 : decode cX1_border 32 = .ok (.iconst 0, 1) := by decide +kernel
theorem dX1_border_33 : decode cX1_border 33 = .ok (.ireturn, 1) := by decide +kernel
theorem dX1_border_34 : decode cX1_border 34 = .ok (.iload_n 1, 1) := by decide +kernel
theorem dX1_border_35 : decode cX1_border 35 = .ok (.iload_n 2, 1) := by decide +kernel
theorem dX1_border_36 : decode cX1_border 36 = .ok (.if_icmp .ne 7, 3) := by decide +kernel
theorem dX1_border_39 : decode cX1_border 39 = .ok (.iconst 0, 1) := by decide +kernel
theorem dX1_border_40 : decode cX1_border 40 = .ok (.goto 34, 3) := by decide +kernel
theorem dX1_border_43 : decode cX1_border 43 = .ok (.aload_n 0, 1) := by decide +kernel
theorem dX1_border_44 : decode cX1_border 44 = .ok (.getfield 16, 3) := by decide +kernel
theorem dX1_border_47 : decode cX1_border 47 = .ok (.iload_n 1, 1) := by decide +kernel
theorem dX1_border_48 : decode cX1_border 48 = .ok (.laload, 1) := by decide +kernel
theorem dX1_border_49 : decode cX1_border 49 = .ok (.aload_n 0, 1) := by decide +kernel
theorem dX1_border_50 : decode cX1_border 50 = .ok (.getfield 16, 3) := by decide +kernel
theorem dX1_border_53 : decode cX1_border 53 = .ok (.iload_n 2, 1) := by decide +kernel
theorem dX1_border_54 : decode cX1_border 54 = .ok (.laload, 1) := by decide +kernel
theorem dX1_border_55 : decode cX1_border 55 = .ok (.invokestatic 89, 3) := by decide +kernel
theorem dX1_border_58 : decode cX1_border 58 = .ok (.aload_n 0, 1) := by decide +kernel
theorem dX1_border_59 : decode cX1_border 59 = .ok (.getfield 16, 3) := by decide +kernel
theorem dX1_border_62 : decode cX1_border 62 = .ok (.iload_n 2, 1) := by decide +kernel
theorem dX1_border_63 : decode cX1_border 63 = .ok (.laload, 1) := by decide +kernel
theorem dX1_border_64 : decode cX1_border 64 = .ok (.aload_n 0, 1) := by decide +kernel
theorem dX1_border_65 : decode cX1_border 65 = .ok (.getfield 16, 3) := by decide +kernel
theorem dX1_border_68 : decode cX1_border 68 = .ok (.iload_n 1, 1) := by decide +kernel
theorem dX1_border_69 : decode cX1_border 69 = .ok (.laload, 1) := by decide +kernel
theorem dX1_border_70 : decode cX1_border 70 = .ok (.invokestatic 89, 3) := by decide +kernel
theorem dX1_border_73 : decode cX1_border 73 = .ok (.iadd, 1) := by decide +kernel
theorem dX1_border_74 : decode cX1_border 74 = .ok (.ireturn, 1) := by decide +kernel
set_option maxRecDepth 20000 in
theorem ggX1_enclosed_X1_looks : GoodIn wsX1_enclosed wsX1_looks := goodIn_r _ [9, 10, 2, 11, 12, 13, 14, 8, 15, 16, 17, 1, 35, 36, 37, 38, 39, 40, 41, 42] (by decide +kernel) (by decide +kernel)
set_option maxRecDepth 20000 in
theorem gX1_enclosed_X1_looks : GoodIn wsX1_enclosed (wsV RX1 66 RX1 yX1_looks wsX1_looks) := goodIn_app (goodIn_of _ (by decide +kernel)) ggX1_enclosed_X1_looks
set_option maxRecDepth 20000 in
theorem ggX1_enclosed_X1_isCountry : GoodIn wsX1_enclosed wsX1_isCountry := goodIn_r _ [20, 21, 22, 8, 23] (by decide +kernel) (by decide +kernel)
set_option maxRecDepth 20000 in
theorem gX1_enclosed_X1_isCountry : GoodIn wsX1_enclosed (va_wsS RX1 54 yX1_isCountry wsX1_isCountry) := goodIn_app (goodIn_of _ (by decide +kernel)) ggX1_enclosed_X1_isCountry
set_option maxRecDepth 20000 in
theorem ggX1_enclosed_X1_goes : GoodIn wsX1_enclosed wsX1_goes := goodIn_r _ [27, 28, 35, 36, 37, 38, 39, 40, 41, 42] (by decide +kernel) (by decide +kernel)
set_option maxRecDepth 20000 in
theorem gX1_enclosed_X1_goes : GoodIn wsX1_enclosed (wsV RX1 58 RX1 yX1_goes wsX1_goes) := goodIn_app (goodIn_of _ (by decide +kernel)) ggX1_enclosed_X1_goes
set_option maxRecDepth 20000 in
theorem ggX1_enclosed_X1_reach : GoodIn wsX1_enclosed wsX1_reach := goodIn_r _ [31, 13, 14, 8, 15, 16, 17, 1] (by decide +kernel) (by decide +kernel)
set_option maxRecDepth 20000 in
theorem gX1_enclosed_X1_reach : GoodIn wsX1_enclosed (va_wsS RX1 77 yX1_reach wsX1_reach) := goodIn_app (goodIn_of _ (by decide +kernel)) ggX1_enclosed_X1_reach
set_option maxRecDepth 20000 in
theorem ggX1_enclosed_X1_bits : GoodIn wsX1_enclosed wsX1_bits := goodIn_r _ [34] (by decide +kernel) (by decide +kernel)
set_option maxRecDepth 20000 in
theorem gX1_enclosed_X1_bits : GoodIn wsX1_enclosed (va_wsS RX1 69 yX1_bits wsX1_bits) := goodIn_app (goodIn_of _ (by decide +kernel)) ggX1_enclosed_X1_bits
theorem dX1_enclosed_0 : decode cX1_enclosed 0 = .ok (.aload_n 0, 1) := by decide +kernel
theorem dX1_enclosed_1 : decode cX1_enclosed 1 = .ok (.invokevirtual 66, 3) := by decide +kernel
theorem dX1_enclosed_4 : decode cX1_enclosed 4 = .ok (.aload_n 0, 1) := by decide +kernel
theorem dX1_enclosed_5 : decode cX1_enclosed 5 = .ok (.iload_n 1, 1) := by decide +kernel
theorem dX1_enclosed_6 : decode cX1_enclosed 6 = .ok (.invokestatic 54, 3) := by decide +kernel
theorem dX1_enclosed_9 : decode cX1_enclosed 9 = .ok (.iconst 1, 1) := by decide +kernel
theorem dX1_enclosed_10 : decode cX1_enclosed 10 = .ok (.iconst 1, 1) := by decide +kernel
theorem dX1_enclosed_11 : decode cX1_enclosed 11 = .ok (.invokevirtual 58, 3) := by decide +kernel
theorem dX1_enclosed_14 : decode cX1_enclosed 14 = .ok (.ifCond .ne 5, 3) := by decide +kernel
theorem dX1_enclosed_17 : decode cX1_enclosed 17 = .ok (.iconst 0, 1) := by decide +kernel
theorem dX1_enclosed_18 : decode cX1_enclosed 18 = .ok (.ireturn, 1) := by decide +kernel
theorem dX1_enclosed_19 : decode cX1_enclosed 19 = .ok (.ldc2_w 41, 3) := by decide +kernel
theorem dX1_enclosed_22 : decode cX1_enclosed 22 = .ok (.aload_n 0, 1) := by decide +kernel
theorem dX1_enclosed_23 : decode cX1_enclosed 23 = .ok (.getfield 16, 3) := by decide +kernel
theorem dX1_enclosed_26 : decode cX1_enclosed 26 = .ok (.iload_n 1, 1) := by decide +kernel
theorem dX1_enclosed_27 : decode cX1_enclosed 27 = .ok (.laload, 1) := by decide +kernel
theorem dX1_enclosed_28 : decode cX1_enclosed 28 = .ok (.ldc2_w 84, 3) := by decide +kernel
theorem dX1_enclosed_31 : decode cX1_enclosed 31 = .ok (.lxor, 1) := by decide +kernel
theorem dX1_enclosed_32 : decode cX1_enclosed 32 = .ok (.land, 1) := by decide +kernel
theorem dX1_enclosed_33 : decode cX1_enclosed 33 = .ok (.lstore_n 2, 1) := by decide +kernel
theorem dX1_enclosed_34 : decode cX1_enclosed 34 = .ok (.lload_n 2, 1) := by decide +kernel
theorem dX1_enclosed_35 : decode cX1_enclosed 35 = .ok (.ldc2_w 93, 3) := by decide +kernel
theorem dX1_enclosed_38 : decode cX1_enclosed 38 = .ok (.lload_n 2, 1) := by decide +kernel
theorem dX1_enclosed_39 : decode cX1_enclosed 39 = .ok (.invokestatic 77, 3) := by decide +kernel
theorem dX1_enclosed_42 : decode cX1_enclosed 42 = .ok (.ldc2_w 84, 3) := by decide +kernel
theorem dX1_enclosed_45 : decode cX1_enclosed 45 = .ok (.lxor, 1) := by decide +kernel
theorem dX1_enclosed_46 : decode cX1_enclosed 46 = .ok (.land, 1) := by decide +kernel
theorem dX1_enclosed_47 : decode cX1_enclosed 47 = .ok (.invokestatic 69, 3) := by decide +kernel
theorem dX1_enclosed_50 : decode cX1_enclosed 50 = .ok (.ireturn, 1) := by decide +kernel
theorem dX1_areNear_0 : decode cX1_areNear 0 = .ok (.iload_n 1, 1) := by decide +kernel
theorem dX1_areNear_1 : decode cX1_areNear 1 = .ok (.aload_n 0, 1) := by decide +kernel
theorem dX1_areNear_2 : decode cX1_areNear 2 = .ok (.getfield 47, 3) := by decide +kernel
theorem dX1_areNear_5 : decode cX1_areNear 5 = .ok (.iconst (-1), 1) := by decide +kernel
theorem dX1_areNear_6 : decode cX1_areNear 6 = .ok (.ixor, 1) := by decide +kernel
theorem dX1_areNear_7 : decode cX1_areNear 7 = .ok (.iand, 1) := by decide +kernel
theorem dX1_areNear_8 : decode cX1_areNear 8 = .ok (.ifCond .ne 7, 3) := by decide +kernel
theorem dX1_areNear_11 : decode cX1_areNear 11 = .ok (.iconst 1, 1) := by decide +kernel
theorem dX1_areNear_12 : decode cX1_areNear 12 = .ok (.goto 4, 3) := by decide +kernel
theorem dX1_areNear_15 : decode cX1_areNear 15 = .ok (.iconst 0, 1) := by decide +kernel
theorem dX1_areNear_16 : decode cX1_areNear 16 = .ok (.istore_n 3, 1) := by decide +kernel
theorem dX1_areNear_17 : decode cX1_areNear 17 = .ok (.iconst 0, 1) := by decide +kernel
theorem dX1_areNear_18 : decode cX1_areNear 18 = .ok (.istore 4, 2) := by decide +kernel
theorem dX1_areNear_20 : decode cX1_areNear 20 = .ok (.iload 4, 2) := by decide +kernel
theorem dX1_areNear_22 : decode cX1_areNear 22 = .ok (.bipush 10, 2) := by decide +kernel
theorem dX1_areNear_24 : decode cX1_areNear 24 = .ok (.if_icmp .ge 61, 3) := by decide +kernel
theorem dX1_areNear_27 : decode cX1_areNear 27 = .ok (.iload_n 1, 1) := by decide +kernel
theorem dX1_areNear_28 : decode cX1_areNear 28 = .ok (.iconst 1, 1) := by decide +kernel
theorem dX1_areNear_29 : decode cX1_areNear 29 = .ok (.iload 4, 2) := by decide +kernel
theorem dX1_areNear_31 : decode cX1_areNear 31 = .ok (.ishl, 1) := by decide +kernel
theorem dX1_areNear_32 : decode cX1_areNear 32 = .ok (.iconst (-1), 1) := by decide +kernel
theorem dX1_areNear_33 : decode cX1_areNear 33 = .ok (.ixor, 1) := by decide +kernel
theorem dX1_areNear_34 : decode cX1_areNear 34 = .ok (.iand, 1) := by decide +kernel
theorem dX1_areNear_35 : decode cX1_areNear 35 = .ok (.istore 5, 2) := by decide +kernel
theorem dX1_areNear_37 : decode cX1_areNear 37 = .ok (.iload_n 3, 1) := by decide +kernel
theorem dX1_areNear_38 : decode cX1_areNear 38 = .ok (.ifCond .eq 39, 3) := by decide +kernel
theorem dX1_areNear_41 : decode cX1_areNear 41 = .ok (.iload_n 1, 1) := by decide +kernel
theorem dX1_areNear_42 : decode cX1_areNear 42 = .ok (.iload 4, 2) := by decide +kernel
theorem dX1_areNear_44 : decode cX1_areNear 44 = .ok (.ishr, 1) := by decide +kernel
theorem dX1_areNear_45 : decode cX1_areNear 45 = .ok (.iconst 1, 1) := by decide +kernel
theorem dX1_areNear_46 : decode cX1_areNear 46 = .ok (.iand, 1) := by decide +kernel
theorem dX1_areNear_47 : decode cX1_areNear 47 = .ok (.ifCond .eq 26, 3) := by decide +kernel
theorem dX1_areNear_50 : decode cX1_areNear 50 = .ok (.aload_n 0, 1) := by decide +kernel
theorem dX1_areNear_51 : decode cX1_areNear 51 = .ok (.getfield 20, 3) := by decide +kernel
theorem dX1_areNear_54 : decode cX1_areNear 54 = .ok (.iload 4, 2) := by decide +kernel
theorem dX1_areNear_56 : decode cX1_areNear 56 = .ok (.iaload, 1) := by decide +kernel
theorem dX1_areNear_57 : decode cX1_areNear 57 = .ok (.iload 5, 2) := by decide +kernel
theorem dX1_areNear_59 : decode cX1_areNear 59 = .ok (.iand, 1) := by decide +kernel
theorem dX1_areNear_60 : decode cX1_areNear 60 = .ok (.iload_n 2, 1) := by decide +kernel
theorem dX1_areNear_61 : decode cX1_areNear 61 = .ok (.ifCond .eq 8, 3) := by decide +kernel
theorem dX1_areNear_64 : decode cX1_areNear 64 = .ok (.iload 5, 2) := by decide +kernel
theorem dX1_areNear_66 : decode cX1_areNear 66 = .ok (.goto 4, 3) := by decide +kernel
theorem dX1_areNear_69 : decode cX1_areNear 69 = .ok (.iconst 0, 1) := by decide +kernel
theorem dX1_areNear_70 : decode cX1_areNear 70 = .ok (.if_icmp .ne 7, 3) := by decide +kernel
theorem dX1_areNear_73 : decode cX1_areNear 73 = .ok (.iconst 1, 1) := by decide +kernel
theorem dX1_areNear_74 : decode cX1_areNear 74 = .ok (.goto 4, 3) := by decide +kernel
theorem dX1_areNear_77 : decode cX1_areNear 77 = .ok (.iconst 0, 1) := by decide +kernel
theorem dX1_areNear_78 : decode cX1_areNear 78 = .ok (.istore_n 3, 1) := by decide +kernel
theorem dX1_areNear_79 : decode cX1_areNear 79 = .ok (.iinc 4 1, 3) := by decide +kernel
theorem dX1_areNear_82 : decode cX1_areNear 82 = .ok (.goto (-62), 3) := by decide +kernel
theorem dX1_areNear_85 : decode cX1_areNear 85 = .ok (.iload_n 3, 1) := by decide +kernel
theorem dX1_areNear_86 : decode cX1_areNear 86 = .ok (.ireturn, 1) := by decide +kernel
set_option maxRecDepth 20000 in
theorem ggX1_allNeighbours_X1_looks : GoodIn wsX1_allNeighbours wsX1_looks := goodIn_r _ [6, 7, 8, 9, 10, 11, 12, 5, 13, 14, 15, 16, 24, 25, 26, 27, 28, 29, 30, 31] (by decide +kernel) (by decide +kernel)
set_option maxRecDepth 20000 in
theorem gX1_allNeighbours_X1_looks : GoodIn wsX1_allNeighbours (wsV RX1 66 RX1 yX1_looks wsX1_looks) := goodIn_app (goodIn_of _ (by decide +kernel)) ggX1_allNeighbours_X1_looks
set_option maxRecDepth 20000 in
theorem ggX1_allNeighbours_X1_bits : GoodIn wsX1_allNeighbours wsX1_bits := goodIn_r _ [19] (by decide +kernel) (by decide +kernel)
set_option maxRecDepth 20000 in
theorem gX1_allNeighbours_X1_bits : GoodIn wsX1_allNeighbours (va_wsS RX1 69 yX1_bits wsX1_bits) := goodIn_app (goodIn_of _ (by decide +kernel)) ggX1_allNeighbours_X1_bits
set_option maxRecDepth 20000 in
theorem ggX1_allNeighbours_X1_areNear : GoodIn wsX1_allNeighbours wsX1_areNear := goodIn_r _ [23, 7, 10, 24, 25, 26, 27, 28, 29, 30, 31] (by decide +kernel) (by decide +kernel)
set_option maxRecDepth 20000 in
theorem gX1_allNeighbours_X1_areNear : GoodIn wsX1_allNeighbours (wsV RX1 95 RX1 yX1_areNear wsX1_areNear) := goodIn_app (goodIn_of _ (by decide +kernel)) ggX1_allNeighbours_X1_areNear
theorem dX1_allNeighbours_0 : decode cX1_allNeighbours 0 = .ok (.aload_n 0, 1) := by decide +kernel
theorem dX1_allNeighbours_1 : decode cX1_allNeighbours 1 = .ok (.invokevirtual 66, 3) := by decide +kernel
theorem dX1_allNeighbours_4 : decode cX1_allNeighbours 4 = .ok (.aload_n 0, 1) := by decide +kernel
theorem dX1_allNeighbours_5 : decode cX1_allNeighbours 5 = .ok (.iconst 0, 1) := by decide +kernel
theorem dX1_allNeighbours_6 : decode cX1_allNeighbours 6 = .ok (.putfield 29, 3) := by decide +kernel
theorem dX1_allNeighbours_9 : decode cX1_allNeighbours 9 = .ok (.iconst 0, 1) := by decide +kernel
theorem dX1_allNeighbours_10 : decode cX1_allNeighbours 10 = .ok (.istore_n 1, 1) := by decide +kernel
theorem dX1_allNeighbours_11 : decode cX1_allNeighbours 11 = .ok (.iconst 0, 1) := by decide +kernel
theorem dX1_allNeighbours_12 : decode cX1_allNeighbours 12 = .ok (.istore_n 2, 1) := by decide +kernel
theorem dX1_allNeighbours_13 : decode cX1_allNeighbours 13 = .ok (.iload_n 2, 1) := by decide +kernel
theorem dX1_allNeighbours_14 : decode cX1_allNeighbours 14 = .ok (.sipush 1024, 3) := by decide +kernel
theorem dX1_allNeighbours_17 : decode cX1_allNeighbours 17 = .ok (.if_icmp .ge 37, 3) := by decide +kernel
theorem dX1_allNeighbours_20 : decode cX1_allNeighbours 20 = .ok (.iload_n 2, 1) := by decide +kernel
theorem dX1_allNeighbours_21 : decode cX1_allNeighbours 21 = .ok (.i2l, 1) := by decide +kernel
theorem dX1_allNeighbours_22 : decode cX1_allNeighbours 22 = .ok (.invokestatic 69, 3) := by decide +kernel
theorem dX1_allNeighbours_25 : decode cX1_allNeighbours 25 = .ok (.iload_n 1, 1) := by decide +kernel
theorem dX1_allNeighbours_26 : decode cX1_allNeighbours 26 = .ok (.if_icmp .le 20, 3) := by decide +kernel
theorem dX1_allNeighbours_29 : decode cX1_allNeighbours 29 = .ok (.aload_n 0, 1) := by decide +kernel
theorem dX1_allNeighbours_30 : decode cX1_allNeighbours 30 = .ok (.iload_n 2, 1) := by decide +kernel
theorem dX1_allNeighbours_31 : decode cX1_allNeighbours 31 = .ok (.iconst 1, 1) := by decide +kernel
theorem dX1_allNeighbours_32 : decode cX1_allNeighbours 32 = .ok (.invokevirtual 95, 3) := by decide +kernel
theorem dX1_allNeighbours_35 : decode cX1_allNeighbours 35 = .ok (.ifCond .eq 11, 3) := by decide +kernel
theorem dX1_allNeighbours_38 : decode cX1_allNeighbours 38 = .ok (.iload_n 2, 1) := by decide +kernel
theorem dX1_allNeighbours_39 : decode cX1_allNeighbours 39 = .ok (.i2l, 1) := by decide +kernel
theorem dX1_allNeighbours_40 : decode cX1_allNeighbours 40 = .ok (.invokestatic 69, 3) := by decide +kernel
theorem dX1_allNeighbours_43 : decode cX1_allNeighbours 43 = .ok (.goto 4, 3) := by decide +kernel
theorem dX1_allNeighbours_46 : decode cX1_allNeighbours 46 = .ok (.iload_n 1, 1) := by decide +kernel
theorem dX1_allNeighbours_47 : decode cX1_allNeighbours 47 = .ok (.istore_n 1, 1) := by decide +kernel
theorem dX1_allNeighbours_48 : decode cX1_allNeighbours 48 = .ok (.iinc 2 1, 3) := by decide +kernel
theorem dX1_allNeighbours_51 : decode cX1_allNeighbours 51 = .ok (.goto (-38), 3) := by decide +kernel
theorem dX1_allNeighbours_54 : decode cX1_allNeighbours 54 = .ok (.iload_n 1, 1) := by decide +kernel
theorem dX1_allNeighbours_55 : decode cX1_allNeighbours 55 = .ok (.ireturn, 1) := by decide +kernel
set_option maxRecDepth 20000 in
theorem ggX1_tint_X1_isCountry : GoodIn wsX1_tint wsX1_isCountry := goodIn_r _ [5, 6, 7, 4, 8] (by decide +kernel) (by decide +kernel)
set_option maxRecDepth 20000 in
theorem gX1_tint_X1_isCountry : GoodIn wsX1_tint (va_wsS RX1 54 yX1_isCountry wsX1_isCountry) := goodIn_app (goodIn_of _ (by decide +kernel)) ggX1_tint_X1_isCountry
set_option maxRecDepth 20000 in
theorem ggX1_tint_X1_in : GoodIn wsX1_tint wsX1_in := goodIn_r _ [8] (by decide +kernel) (by decide +kernel)
set_option maxRecDepth 20000 in
theorem gX1_tint_X1_in : GoodIn wsX1_tint (va_wsS RX1 33 yX1_in wsX1_in) := goodIn_app (goodIn_of _ (by decide +kernel)) ggX1_tint_X1_in
set_option maxRecDepth 20000 in
theorem ggX1_tint_X1_goes : GoodIn wsX1_tint wsX1_goes := goodIn_r _ [12, 13, 14, 15, 16, 17, 18, 19, 20, 21] (by decide +kernel) (by decide +kernel)
set_option maxRecDepth 20000 in
theorem gX1_tint_X1_goes : GoodIn wsX1_tint (wsV RX1 58 RX1 yX1_goes wsX1_goes) := goodIn_app (goodIn_of _ (by decide +kernel)) ggX1_tint_X1_goes
theorem dX1_tint_0 : decode cX1_tint 0 = .ok (.aload_n 0, 1) := by decide +kernel
theorem dX1_tint_1 : decode cX1_tint 1 = .ok (.iload_n 1, 1) := by decide +kernel
theorem dX1_tint_2 : decode cX1_tint 2 = .ok (.invokestatic 54, 3) := by decide +kernel
theorem dX1_tint_5 : decode cX1_tint 5 = .ok (.iload_n 2, 1) := by decide +kernel
theorem dX1_tint_6 : decode cX1_tint 6 = .ok (.iconst 0, 1) := by decide +kernel
theorem dX1_tint_7 : decode cX1_tint 7 = .ok (.bipush 10, 2) := by decide +kernel
theorem dX1_tint_9 : decode cX1_tint 9 = .ok (.invokestatic 33, 3) := by decide +kernel
theorem dX1_tint_12 : decode cX1_tint 12 = .ok (.iconst 1, 1) := by decide +kernel
theorem dX1_tint_13 : decode cX1_tint 13 = .ok (.invokevirtual 58, 3) := by decide +kernel
theorem dX1_tint_16 : decode cX1_tint 16 = .ok (.ifCond .ne 5, 3) := by decide +kernel
theorem dX1_tint_19 : decode cX1_tint 19 = .ok (.iconst 0, 1) := by decide +kernel
theorem dX1_tint_20 : decode cX1_tint 20 = .ok (.ireturn, 1) := by decide +kernel
theorem dX1_tint_21 : decode cX1_tint 21 = .ok (.aload_n 0, 1) := by decide +kernel
theorem dX1_tint_22 : decode cX1_tint 22 = .ok (.getfield 13, 3) := by decide +kernel
theorem dX1_tint_25 : decode cX1_tint 25 = .ok (.iload_n 1, 1) := by decide +kernel
theorem dX1_tint_26 : decode cX1_tint 26 = .ok (.iaload, 1) := by decide +kernel
theorem dX1_tint_27 : decode cX1_tint 27 = .ok (.istore_n 3, 1) := by decide +kernel
theorem dX1_tint_28 : decode cX1_tint 28 = .ok (.aload_n 0, 1) := by decide +kernel
theorem dX1_tint_29 : decode cX1_tint 29 = .ok (.getfield 13, 3) := by decide +kernel
theorem dX1_tint_32 : decode cX1_tint 32 = .ok (.iload_n 1, 1) := by decide +kernel
theorem dX1_tint_33 : decode cX1_tint 33 = .ok (.iload_n 2, 1) := by decide +kernel
theorem dX1_tint_34 : decode cX1_tint 34 = .ok (.iastore, 1) := by decide +kernel
theorem dX1_tint_35 : decode cX1_tint 35 = .ok (.iload_n 3, 1) := by decide +kernel
theorem dX1_tint_36 : decode cX1_tint 36 = .ok (.ireturn, 1) := by decide +kernel
set_option maxRecDepth 20000 in
theorem ggX1_tintOf_X1_isCountry : GoodIn wsX1_tintOf wsX1_isCountry := goodIn_r _ [5, 6, 7, 4, 8] (by decide +kernel) (by decide +kernel)
set_option maxRecDepth 20000 in
theorem gX1_tintOf_X1_isCountry : GoodIn wsX1_tintOf (va_wsS RX1 54 yX1_isCountry wsX1_isCountry) := goodIn_app (goodIn_of _ (by decide +kernel)) ggX1_tintOf_X1_isCountry
set_option maxRecDepth 20000 in
theorem ggX1_tintOf_X1_goes : GoodIn wsX1_tintOf wsX1_goes := goodIn_r _ [12, 13, 14, 15, 16, 17, 18, 19, 20, 21] (by decide +kernel) (by decide +kernel)
set_option maxRecDepth 20000 in
theorem gX1_tintOf_X1_goes : GoodIn wsX1_tintOf (wsV RX1 58 RX1 yX1_goes wsX1_goes) := goodIn_app (goodIn_of _ (by decide +kernel)) ggX1_tintOf_X1_goes
theorem dX1_tintOf_0 : decode cX1_tintOf 0 = .ok (.aload_n 0, 1) := by decide +kernel
theorem dX1_tintOf_1 : decode cX1_tintOf 1 = .ok (.iload_n 1, 1) := by decide +kernel
theorem dX1_tintOf_2 : decode cX1_tintOf 2 = .ok (.invokestatic 54, 3) := by decide +kernel
theorem dX1_tintOf_5 : decode cX1_tintOf 5 = .ok (.iconst 1, 1) := by decide +kernel
theorem dX1_tintOf_6 : decode cX1_tintOf 6 = .ok (.iconst 1, 1) := by decide +kernel
theorem dX1_tintOf_7 : decode cX1_tintOf 7 = .ok (.invokevirtual 58, 3) := by decide +kernel
theorem dX1_tintOf_10 : decode cX1_tintOf 10 = .ok (.ifCond .eq 12, 3) := by decide +kernel
theorem dX1_tintOf_13 : decode cX1_tintOf 13 = .ok (.aload_n 0, 1) := by decide +kernel
theorem dX1_tintOf_14 : decode cX1_tintOf 14 = .ok (.getfield 13, 3) := by decide +kernel
theorem dX1_tintOf_17 : decode cX1_tintOf 17 = .ok (.iload_n 1, 1) := by decide +kernel
theorem dX1_tintOf_18 : decode cX1_tintOf 18 = .ok (.iaload, 1) := by decide +kernel
theorem dX1_tintOf_19 : decode cX1_tintOf 19 = .ok (.goto 4, 3) := by decide +kernel
theorem dX1_tintOf_22 : decode cX1_tintOf 22 = .ok (.iconst 0, 1) := by decide +kernel
theorem dX1_tintOf_23 : decode cX1_tintOf 23 = .ok (.ireturn, 1) := by decide +kernel
set_option maxRecDepth 20000 in
theorem ggX1_inConflict_X1_looks : GoodIn wsX1_inConflict wsX1_looks := goodIn_r _ [7, 8, 9, 10, 1, 11, 12, 6, 13, 14, 15, 16, 17, 18, 19, 20, 21, 22, 23, 24] (by decide +kernel) (by decide +kernel)
set_option maxRecDepth 20000 in
theorem gX1_inConflict_X1_looks : GoodIn wsX1_inConflict (wsV RX1 66 RX1 yX1_looks wsX1_looks) := goodIn_app (goodIn_of _ (by decide +kernel)) ggX1_inConflict_X1_looks
theorem dX1_inConflict_0 : decode cX1_inConflict 0 = .ok (.aload_n 0, 1) := by decide +kernel
theorem dX1_inConflict_1 : decode cX1_inConflict 1 = .ok (.invokevirtual 66, 3) := by decide +kernel
theorem dX1_inConflict_4 : decode cX1_inConflict 4 = .ok (.iconst 0, 1) := by decide +kernel
theorem dX1_inConflict_5 : decode cX1_inConflict 5 = .ok (.istore_n 1, 1) := by decide +kernel
theorem dX1_inConflict_6 : decode cX1_inConflict 6 = .ok (.iconst 0, 1) := by decide +kernel
theorem dX1_inConflict_7 : decode cX1_inConflict 7 = .ok (.istore_n 2, 1) := by decide +kernel
theorem dX1_inConflict_8 : decode cX1_inConflict 8 = .ok (.iload_n 2, 1) := by decide +kernel
theorem dX1_inConflict_9 : decode cX1_inConflict 9 = .ok (.bipush 10, 2) := by decide +kernel
theorem dX1_inConflict_11 : decode cX1_inConflict 11 = .ok (.if_icmp .ge 68, 3) := by decide +kernel
theorem dX1_inConflict_14 : decode cX1_inConflict 14 = .ok (.iconst 0, 1) := by decide +kernel
theorem dX1_inConflict_15 : decode cX1_inConflict 15 = .ok (.istore_n 3, 1) := by decide +kernel
theorem dX1_inConflict_16 : decode cX1_inConflict 16 = .ok (.iload_n 3, 1) := by decide +kernel
theorem dX1_inConflict_17 : decode cX1_inConflict 17 = .ok (.iload_n 2, 1) := by decide +kernel
theorem dX1_inConflict_18 : decode cX1_inConflict 18 = .ok (.if_icmp .ge 55, 3) := by decide +kernel
theorem dX1_inConflict_21 : decode cX1_inConflict 21 = .ok (.iload_n 1, 1) := by decide +kernel
theorem dX1_inConflict_22 : decode cX1_inConflict 22 = .ok (.aload_n 0, 1) := by decide +kernel
theorem dX1_inConflict_23 : decode cX1_inConflict 23 = .ok (.getfield 20, 3) := by decide +kernel
theorem dX1_inConflict_26 : decode cX1_inConflict 26 = .ok (.iload_n 2, 1) := by decide +kernel
theorem dX1_inConflict_27 : decode cX1_inConflict 27 = .ok (.iaload, 1) := by decide +kernel
theorem dX1_inConflict_28 : decode cX1_inConflict 28 = .ok (.iload_n 3, 1) := by decide +kernel
theorem dX1_inConflict_29 : decode cX1_inConflict 29 = .ok (.ishr, 1) := by decide +kernel
theorem dX1_inConflict_30 : decode cX1_inConflict 30 = .ok (.iconst 1, 1) := by decide +kernel
theorem dX1_inConflict_31 : decode cX1_inConflict 31 = .ok (.iand, 1) := by decide +kernel
theorem dX1_inConflict_32 : decode cX1_inConflict 32 = .ok (.iconst 1, 1) := by decide +kernel
theorem dX1_inConflict_33 : decode cX1_inConflict 33 = .ok (.if_icmp .ne 31, 3) := by decide +kernel
theorem dX1_inConflict_36 : decode cX1_inConflict 36 = .ok (.aload_n 0, 1) := by decide +kernel
theorem dX1_inConflict_37 : decode cX1_inConflict 37 = .ok (.getfield 13, 3) := by decide +kernel
theorem dX1_inConflict_40 : decode cX1_inConflict 40 = .ok (.iload_n 2, 1) := by decide +kernel
theorem dX1_inConflict_41 : decode cX1_inConflict 41 = .ok (.iaload, 1) := by decide +kernel
theorem dX1_inConflict_42 : decode cX1_inConflict 42 = .ok (.ifCond .le 22, 3) := by decide +kernel
theorem dX1_inConflict_45 : decode cX1_inConflict 45 = .ok (.aload_n 0, 1) := by decide +kernel
theorem dX1_inConflict_46 : decode cX1_inConflict 46 = .ok (.getfield 13, 3) := by decide +kernel
theorem dX1_inConflict_49 : decode cX1_inConflict 49 = .ok (.iload_n 2, 1) := by decide +kernel
theorem dX1_inConflict_50 : decode cX1_inConflict 50 = .ok (.iaload, 1) := by decide +kernel
theorem dX1_inConflict_51 : decode cX1_inConflict 51 = .ok (.aload_n 0, 1) := by decide +kernel
theorem dX1_inConflict_52 : decode cX1_inConflict 52 = .ok (.getfield 13, 3) := by decide +kernel
theorem dX1_inConflict_55 : decode cX1_inConflict 55 = .ok (.iload_n 3, 1) := by decide +kernel
theorem dX1_inConflict_56 : decode cX1_inConflict 56 = .ok (.iaload, 1) := by decide +kernel
theorem dX1_inConflict_57 : decode cX1_inConflict 57 = .ok (.if_icmp .ne 7, 3) := by decide +kernel
theorem dX1_inConflict_60 : decode cX1_inConflict 60 = .ok (.iconst 1, 1) := by decide +kernel
theorem dX1_inConflict_61 : decode cX1_inConflict 61 = .ok (.goto 4, 3) := by decide +kernel
theorem dX1_inConflict_64 : decode cX1_inConflict 64 = .ok (.iconst 0, 1) := by decide +kernel
theorem dX1_inConflict_65 : decode cX1_inConflict 65 = .ok (.iadd, 1) := by decide +kernel
theorem dX1_inConflict_66 : decode cX1_inConflict 66 = .ok (.istore_n 1, 1) := by decide +kernel
theorem dX1_inConflict_67 : decode cX1_inConflict 67 = .ok (.iinc 3 1, 3) := by decide +kernel
theorem dX1_inConflict_70 : decode cX1_inConflict 70 = .ok (.goto (-54), 3) := by decide +kernel
theorem dX1_inConflict_73 : decode cX1_inConflict 73 = .ok (.iinc 2 1, 3) := by decide +kernel
theorem dX1_inConflict_76 : decode cX1_inConflict 76 = .ok (.goto (-68), 3) := by decide +kernel
theorem dX1_inConflict_79 : decode cX1_inConflict 79 = .ok (.iload_n 1, 1) := by decide +kernel
theorem dX1_inConflict_80 : decode cX1_inConflict 80 = .ok (.ireturn, 1) := by decide +kernel
set_option maxRecDepth 20000 in
theorem ggX1_conflicts_X1_inConflict : GoodIn wsX1_conflicts wsX1_inConflict := goodIn_r _ [5, 6, 7, 8, 9, 10, 4, 11, 12, 13, 14, 15, 16, 17, 18, 19, 20, 26, 27, 28, 29, 30, 31, 32, 33] (by decide +kernel) (by decide +kernel)
set_option maxRecDepth 20000 in
theorem gX1_conflicts_X1_inConflict : GoodIn wsX1_conflicts (wsV RX1 99 RX1 yX1_inConflict wsX1_inConflict) := goodIn_app (goodIn_of _ (by decide +kernel)) ggX1_conflicts_X1_inConflict
set_option maxRecDepth 20000 in
theorem ggX1_conflicts_X1_told : GoodIn wsX1_conflicts wsX1_told := goodIn_r _ [24, 25, 26, 27, 28, 29, 30, 31, 32, 33] (by decide +kernel) (by decide +kernel)
set_option maxRecDepth 20000 in
theorem gX1_conflicts_X1_told : GoodIn wsX1_conflicts (wsV RX1 73 RX1 yX1_told wsX1_told) := goodIn_app (goodIn_of _ (by decide +kernel)) ggX1_conflicts_X1_told
theorem dX1_conflicts_0 : decode cX1_conflicts 0 = .ok (.aload_n 0, 1) := by decide +kernel
theorem dX1_conflicts_1 : decode cX1_conflicts 1 = .ok (.aload_n 0, 1) := by decide +kernel
theorem dX1_conflicts_2 : decode cX1_conflicts 2 = .ok (.invokevirtual 99, 3) := by decide +kernel
theorem dX1_conflicts_5 : decode cX1_conflicts 5 = .ok (.invokevirtual 73, 3) := by decide +kernel
theorem dX1_conflicts_8 : decode cX1_conflicts 8 = .ok (.ireturn, 1) := by decide +kernel
set_option maxRecDepth 20000 in
theorem ggX1_isTinted_X1_inConflict : GoodIn wsX1_isTinted wsX1_inConflict := goodIn_r _ [7, 8, 2, 9, 10, 11, 6, 12, 13, 14, 15, 16, 17, 18, 19, 20, 21, 26, 27, 28, 29, 30, 31, 32, 33] (by decide +kernel) (by decide +kernel)
set_option maxRecDepth 20000 in
theorem gX1_isTinted_X1_inConflict : GoodIn wsX1_isTinted (wsV RX1 99 RX1 yX1_inConflict wsX1_inConflict) := goodIn_app (goodIn_of _ (by decide +kernel)) ggX1_isTinted_X1_inConflict
set_option maxRecDepth 20000 in
theorem ggX1_isTinted_X1_isThere : GoodIn wsX1_isTinted wsX1_isThere := goodIn_r _ [25, 13, 26, 27, 28, 29, 30, 31, 32, 33] (by decide +kernel) (by decide +kernel)
set_option maxRecDepth 20000 in
theorem gX1_isTinted_X1_isThere : GoodIn wsX1_isTinted (wsV RX1 103 RX1 yX1_isThere wsX1_isThere) := goodIn_app (goodIn_of _ (by decide +kernel)) ggX1_isTinted_X1_isThere
theorem dX1_isTinted_0 : decode cX1_isTinted 0 = .ok (.aload_n 0, 1) := by decide +kernel
theorem dX1_isTinted_1 : decode cX1_isTinted 1 = .ok (.iconst 0, 1) := by decide +kernel
theorem dX1_isTinted_2 : decode cX1_isTinted 2 = .ok (.putfield 29, 3) := by decide +kernel
theorem dX1_isTinted_5 : decode cX1_isTinted 5 = .ok (.aload_n 0, 1) := by decide +kernel
theorem dX1_isTinted_6 : decode cX1_isTinted 6 = .ok (.invokevirtual 99, 3) := by decide +kernel
theorem dX1_isTinted_9 : decode cX1_isTinted 9 = .ok (.ifCond .ne 7, 3) := by decide +kernel
theorem dX1_isTinted_12 : decode cX1_isTinted 12 = .ok (.iconst 1, 1) := by decide +kernel
theorem dX1_isTinted_13 : decode cX1_isTinted 13 = .ok (.goto 4, 3) := by decide +kernel
theorem dX1_isTinted_16 : decode cX1_isTinted 16 = .ok (.iconst 0, 1) := by decide +kernel
theorem dX1_isTinted_17 : decode cX1_isTinted 17 = .ok (.istore_n 1, 1) := by decide +kernel
theorem dX1_isTinted_18 : decode cX1_isTinted 18 = .ok (.iconst 0, 1) := by decide +kernel
theorem dX1_isTinted_19 : decode cX1_isTinted 19 = .ok (.istore_n 2, 1) := by decide +kernel
theorem dX1_isTinted_20 : decode cX1_isTinted 20 = .ok (.iload_n 2, 1) := by decide +kernel
theorem dX1_isTinted_21 : decode cX1_isTinted 21 = .ok (.bipush 10, 2) := by decide +kernel
theorem dX1_isTinted_23 : decode cX1_isTinted 23 = .ok (.if_icmp .ge 36, 3) := by decide +kernel
theorem dX1_isTinted_26 : decode cX1_isTinted 26 = .ok (.iload_n 1, 1) := by decide +kernel
theorem dX1_isTinted_27 : decode cX1_isTinted 27 = .ok (.ifCond .eq 24, 3) := by decide +kernel
theorem dX1_isTinted_30 : decode cX1_isTinted 30 = .ok (.aload_n 0, 1) := by decide +kernel
theorem dX1_isTinted_31 : decode cX1_isTinted 31 = .ok (.iload_n 2, 1) := by decide +kernel
theorem dX1_isTinted_32 : decode cX1_isTinted 32 = .ok (.invokevirtual 103, 3) := by decide +kernel
theorem dX1_isTinted_35 : decode cX1_isTinted 35 = .ok (.ifCond .eq 12, 3) := by decide +kernel
theorem dX1_isTinted_38 : decode cX1_isTinted 38 = .ok (.aload_n 0, 1) := by decide +kernel
theorem dX1_isTinted_39 : decode cX1_isTinted 39 = .ok (.getfield 13, 3) := by decide +kernel
theorem dX1_isTinted_42 : decode cX1_isTinted 42 = .ok (.iload_n 2, 1) := by decide +kernel
theorem dX1_isTinted_43 : decode cX1_isTinted 43 = .ok (.iaload, 1) := by decide +kernel
theorem dX1_isTinted_44 : decode cX1_isTinted 44 = .ok (.ifCond .le 7, 3) := by decide +kernel
theorem dX1_isTinted_47 : decode cX1_isTinted 47 = .ok (.iconst 1, 1) := by decide +kernel
theorem dX1_isTinted_48 : decode cX1_isTinted 48 = .ok (.goto 4, 3) := by decide +kernel
theorem dX1_isTinted_51 : decode cX1_isTinted 51 = .ok (.iconst 0, 1) := by decide +kernel
theorem dX1_isTinted_52 : decode cX1_isTinted 52 = .ok (.istore_n 1, 1) := by decide +kernel
theorem dX1_isTinted_53 : decode cX1_isTinted 53 = .ok (.iinc 2 1, 3) := by decide +kernel
theorem dX1_isTinted_56 : decode cX1_isTinted 56 = .ok (.goto (-36), 3) := by decide +kernel
theorem dX1_isTinted_59 : decode cX1_isTinted 59 = .ok (.iload_n 1, 1) := by decide +kernel
theorem dX1_isTinted_60 : decode cX1_isTinted 60 = .ok (.ireturn, 1) := by decide +kernel
theorem dX1_least_0 : decode cX1_least 0 = .ok (.iconst 1, 1) := by decide +kernel
theorem dX1_least_1 : decode cX1_least 1 = .ok (.istore_n 2, 1) := by decide +kernel
theorem dX1_least_2 : decode cX1_least 2 = .ok (.iconst 0, 1) := by decide +kernel
theorem dX1_least_3 : decode cX1_least 3 = .ok (.istore_n 3, 1) := by decide +kernel
theorem dX1_least_4 : decode cX1_least 4 = .ok (.iload_n 3, 1) := by decide +kernel
theorem dX1_least_5 : decode cX1_least 5 = .ok (.bipush 10, 2) := by decide +kernel
theorem dX1_least_7 : decode cX1_least 7 = .ok (.if_icmp .ge 58, 3) := by decide +kernel
theorem dX1_least_10 : decode cX1_least 10 = .ok (.iload_n 1, 1) := by decide +kernel
theorem dX1_least_11 : decode cX1_least 11 = .ok (.iload_n 3, 1) := by decide +kernel
theorem dX1_least_12 : decode cX1_least 12 = .ok (.ishr, 1) := by decide +kernel
theorem dX1_least_13 : decode cX1_least 13 = .ok (.iconst 1, 1) := by decide +kernel
theorem dX1_least_14 : decode cX1_least 14 = .ok (.iand, 1) := by decide +kernel
theorem dX1_least_15 : decode cX1_least 15 = .ok (.iconst 1, 1) := by decide +kernel
theorem dX1_least_16 : decode cX1_least 16 = .ok (.if_icmp .ne 17, 3) := by decide +kernel
theorem dX1_least_19 : decode cX1_least 19 = .ok (.aload_n 0, 1) := by decide +kernel
theorem dX1_least_20 : decode cX1_least 20 = .ok (.getfield 13, 3) := by decide +kernel
theorem dX1_least_23 : decode cX1_least 23 = .ok (.iload_n 3, 1) := by decide +kernel
theorem dX1_least_24 : decode cX1_least 24 = .ok (.iaload, 1) := by decide +kernel
theorem dX1_least_25 : decode cX1_least 25 = .ok (.iload_n 2, 1) := by decide +kernel
theorem dX1_least_26 : decode cX1_least 26 = .ok (.if_icmp .ne 7, 3) := by decide +kernel
theorem dX1_least_29 : decode cX1_least 29 = .ok (.iconst 1, 1) := by decide +kernel
theorem dX1_least_30 : decode cX1_least 30 = .ok (.goto 4, 3) := by decide +kernel
theorem dX1_least_33 : decode cX1_least 33 = .ok (.iconst 0, 1) := by decide +kernel
theorem dX1_least_34 : decode cX1_least 34 = .ok (.istore 4, 2) := by decide +kernel
theorem dX1_least_36 : decode cX1_least 36 = .ok (.iload_n 2, 1) := by decide +kernel
theorem dX1_least_37 : decode cX1_least 37 = .ok (.iload 4, 2) := by decide +kernel
theorem dX1_least_39 : decode cX1_least 39 = .ok (.ifCond .eq 7, 3) := by decide +kernel
theorem dX1_least_42 : decode cX1_least 42 = .ok (.iconst 1, 1) := by decide +kernel
theorem dX1_least_43 : decode cX1_least 43 = .ok (.goto 4, 3) := by decide +kernel
theorem dX1_least_46 : decode cX1_least 46 = .ok (.iconst 0, 1) := by decide +kernel
theorem dX1_least_47 : decode cX1_least 47 = .ok (.iadd, 1) := by decide +kernel
theorem dX1_least_48 : decode cX1_least 48 = .ok (.istore_n 2, 1) := by decide +kernel
theorem dX1_least_49 : decode cX1_least 49 = .ok (.iload 4, 2) := by decide +kernel
theorem dX1_least_51 : decode cX1_least 51 = .ok (.ifCond .eq 7, 3) := by decide +kernel
theorem dX1_least_54 : decode cX1_least 54 = .ok (.iconst 0, 1) := by decide +kernel
theorem dX1_least_55 : decode cX1_least 55 = .ok (.goto 6, 3) := by decide +kernel
theorem dX1_least_58 : decode cX1_least 58 = .ok (.iload_n 3, 1) := by decide +kernel
theorem dX1_least_59 : decode cX1_least 59 = .ok (.iconst 1, 1) := by decide +kernel
theorem dX1_least_60 : decode cX1_least 60 = .ok (.iadd, 1) := by decide +kernel
theorem dX1_least_61 : decode cX1_least 61 = .ok (.istore_n 3, 1) := by decide +kernel
theorem dX1_least_62 : decode cX1_least 62 = .ok (.goto (-58), 3) := by decide +kernel
theorem dX1_least_65 : decode cX1_least 65 = .ok (.iload_n 2, 1) := by decide +kernel
theorem dX1_least_66 : decode cX1_least 66 = .ok (.ireturn, 1) := by decide +kernel
set_option maxRecDepth 20000 in
theorem ggX1_leastFree_X1_looks : GoodIn wsX1_leastFree wsX1_looks := goodIn_r _ [6, 7, 8, 9, 1, 10, 11, 5, 12, 13, 14, 15, 32, 33, 34, 35, 36, 37, 38, 39] (by decide +kernel) (by decide +kernel)
set_option maxRecDepth 20000 in
theorem gX1_leastFree_X1_looks : GoodIn wsX1_leastFree (wsV RX1 66 RX1 yX1_looks wsX1_looks) := goodIn_app (goodIn_of _ (by decide +kernel)) ggX1_leastFree_X1_looks
set_option maxRecDepth 20000 in
theorem ggX1_leastFree_X1_isCountry : GoodIn wsX1_leastFree wsX1_isCountry := goodIn_r _ [18, 19, 20, 5, 21] (by decide +kernel) (by decide +kernel)
set_option maxRecDepth 20000 in
theorem gX1_leastFree_X1_isCountry : GoodIn wsX1_leastFree (va_wsS RX1 54 yX1_isCountry wsX1_isCountry) := goodIn_app (goodIn_of _ (by decide +kernel)) ggX1_leastFree_X1_isCountry
set_option maxRecDepth 20000 in
theorem ggX1_leastFree_X1_goes : GoodIn wsX1_leastFree wsX1_goes := goodIn_r _ [25, 26, 32, 33, 34, 35, 36, 37, 38, 39] (by decide +kernel) (by decide +kernel)
set_option maxRecDepth 20000 in
theorem gX1_leastFree_X1_goes : GoodIn wsX1_leastFree (wsV RX1 58 RX1 yX1_goes wsX1_goes) := goodIn_app (goodIn_of _ (by decide +kernel)) ggX1_leastFree_X1_goes
set_option maxRecDepth 20000 in
theorem ggX1_leastFree_X1_least : GoodIn wsX1_leastFree wsX1_least := goodIn_r _ [30, 31, 32, 33, 34, 35, 36, 37, 38, 39] (by decide +kernel) (by decide +kernel)
set_option maxRecDepth 20000 in
theorem gX1_leastFree_X1_least : GoodIn wsX1_leastFree (wsV RX1 106 RX1 yX1_least wsX1_least) := goodIn_app (goodIn_of _ (by decide +kernel)) ggX1_leastFree_X1_least
theorem dX1_leastFree_0 : decode cX1_leastFree 0 = .ok (.aload_n 0, 1) := by decide +kernel
theorem dX1_leastFree_1 : decode cX1_leastFree 1 = .ok (.invokevirtual 66, 3) := by decide +kernel
theorem dX1_leastFree_4 : decode cX1_leastFree 4 = .ok (.aload_n 0, 1) := by decide +kernel
theorem dX1_leastFree_5 : decode cX1_leastFree 5 = .ok (.iload_n 1, 1) := by decide +kernel
theorem dX1_leastFree_6 : decode cX1_leastFree 6 = .ok (.invokestatic 54, 3) := by decide +kernel
theorem dX1_leastFree_9 : decode cX1_leastFree 9 = .ok (.iconst 1, 1) := by decide +kernel
theorem dX1_leastFree_10 : decode cX1_leastFree 10 = .ok (.iconst 1, 1) := by decide +kernel
theorem dX1_leastFree_11 : decode cX1_leastFree 11 = .ok (.invokevirtual 58, 3) := by decide +kernel
theorem dX1_leastFree_14 : decode cX1_leastFree 14 = .ok (.ifCond .eq 16, 3) := by decide +kernel
theorem dX1_leastFree_17 : decode cX1_leastFree 17 = .ok (.aload_n 0, 1) := by decide +kernel
theorem dX1_leastFree_18 : decode cX1_leastFree 18 = .ok (.aload_n 0, 1) := by decide +kernel
theorem dX1_leastFree_19 : decode cX1_leastFree 19 = .ok (.getfield 20, 3) := by decide +kernel
theorem dX1_leastFree_22 : decode cX1_leastFree 22 = .ok (.iload_n 1, 1) := by decide +kernel
theorem dX1_leastFree_23 : decode cX1_leastFree 23 = .ok (.iaload, 1) := by decide +kernel
theorem dX1_leastFree_24 : decode cX1_leastFree 24 = .ok (.invokevirtual 106, 3) := by decide +kernel
theorem dX1_leastFree_27 : decode cX1_leastFree 27 = .ok (.goto 4, 3) := by decide +kernel
theorem dX1_leastFree_30 : decode cX1_leastFree 30 = .ok (.iconst 0, 1) := by decide +kernel
theorem dX1_leastFree_31 : decode cX1_leastFree 31 = .ok (.ireturn, 1) := by decide +kernel
set_option maxRecDepth 20000 in
theorem ggX1_isChain_X1_looks : GoodIn wsX1_isChain wsX1_looks := goodIn_r _ [6, 7, 8, 9, 10, 11, 12, 5, 13, 14, 15, 16, 32, 33, 34, 35, 36, 37, 38, 39] (by decide +kernel) (by decide +kernel)
set_option maxRecDepth 20000 in
theorem gX1_isChain_X1_looks : GoodIn wsX1_isChain (wsV RX1 66 RX1 yX1_looks wsX1_looks) := goodIn_app (goodIn_of _ (by decide +kernel)) ggX1_isChain_X1_looks
set_option maxRecDepth 20000 in
theorem ggX1_isChain_X1_isCountry : GoodIn wsX1_isChain wsX1_isCountry := goodIn_r _ [19, 20, 21, 5, 22] (by decide +kernel) (by decide +kernel)
set_option maxRecDepth 20000 in
theorem gX1_isChain_X1_isCountry : GoodIn wsX1_isChain (va_wsS RX1 54 yX1_isCountry wsX1_isCountry) := goodIn_app (goodIn_of _ (by decide +kernel)) ggX1_isChain_X1_isCountry
set_option maxRecDepth 20000 in
theorem ggX1_isChain_X1_in : GoodIn wsX1_isChain wsX1_in := goodIn_r _ [22] (by decide +kernel) (by decide +kernel)
set_option maxRecDepth 20000 in
theorem gX1_isChain_X1_in : GoodIn wsX1_isChain (va_wsS RX1 33 yX1_in wsX1_in) := goodIn_app (goodIn_of _ (by decide +kernel)) ggX1_isChain_X1_in
set_option maxRecDepth 20000 in
theorem ggX1_isChain_X1_isThere : GoodIn wsX1_isChain wsX1_isThere := goodIn_r _ [26, 7, 32, 33, 34, 35, 36, 37, 38, 39] (by decide +kernel) (by decide +kernel)
set_option maxRecDepth 20000 in
theorem gX1_isChain_X1_isThere : GoodIn wsX1_isChain (wsV RX1 103 RX1 yX1_isThere wsX1_isThere) := goodIn_app (goodIn_of _ (by decide +kernel)) ggX1_isChain_X1_isThere
set_option maxRecDepth 20000 in
theorem ggX1_isChain_X1_goes : GoodIn wsX1_isChain wsX1_goes := goodIn_r _ [30, 31, 32, 33, 34, 35, 36, 37, 38, 39] (by decide +kernel) (by decide +kernel)
set_option maxRecDepth 20000 in
theorem gX1_isChain_X1_goes : GoodIn wsX1_isChain (wsV RX1 58 RX1 yX1_goes wsX1_goes) := goodIn_app (goodIn_of _ (by decide +kernel)) ggX1_isChain_X1_goes
theorem dX1_isChain_0 : decode cX1_isChain 0 = .ok (.aload_n 0, 1) := by decide +kernel
theorem dX1_isChain_1 : decode cX1_isChain 1 = .ok (.invokevirtual 66, 3) := by decide +kernel
theorem dX1_isChain_4 : decode cX1_isChain 4 = .ok (.iload_n 1, 1) := by decide +kernel
theorem dX1_isChain_5 : decode cX1_isChain 5 = .ok (.invokestatic 54, 3) := by decide +kernel
theorem dX1_isChain_8 : decode cX1_isChain 8 = .ok (.istore_n 3, 1) := by decide +kernel
theorem dX1_isChain_9 : decode cX1_isChain 9 = .ok (.aload_n 0, 1) := by decide +kernel
theorem dX1_isChain_10 : decode cX1_isChain 10 = .ok (.iload_n 3, 1) := by decide +kernel
theorem dX1_isChain_11 : decode cX1_isChain 11 = .ok (.iload_n 2, 1) := by decide +kernel
theorem dX1_isChain_12 : decode cX1_isChain 12 = .ok (.iconst 1, 1) := by decide +kernel
theorem dX1_isChain_13 : decode cX1_isChain 13 = .ok (.bipush 10, 2) := by decide +kernel
theorem dX1_isChain_15 : decode cX1_isChain 15 = .ok (.invokestatic 33, 3) := by decide +kernel
theorem dX1_isChain_18 : decode cX1_isChain 18 = .ok (.iload_n 3, 1) := by decide +kernel
theorem dX1_isChain_19 : decode cX1_isChain 19 = .ok (.ifCond .eq 24, 3) := by decide +kernel
theorem dX1_isChain_22 : decode cX1_isChain 22 = .ok (.aload_n 0, 1) := by decide +kernel
theorem dX1_isChain_23 : decode cX1_isChain 23 = .ok (.iload_n 1, 1) := by decide +kernel
theorem dX1_isChain_24 : decode cX1_isChain 24 = .ok (.invokevirtual 103, 3) := by decide +kernel
theorem dX1_isChain_27 : decode cX1_isChain 27 = .ok (.ifCond .eq 16, 3) := by decide +kernel
theorem dX1_isChain_30 : decode cX1_isChain 30 = .ok (.aload_n 0, 1) := by decide +kernel
theorem dX1_isChain_31 : decode cX1_isChain 31 = .ok (.getfield 13, 3) := by decide +kernel
theorem dX1_isChain_34 : decode cX1_isChain 34 = .ok (.iload_n 1, 1) := by decide +kernel
theorem dX1_isChain_35 : decode cX1_isChain 35 = .ok (.iaload, 1) := by decide +kernel
theorem dX1_isChain_36 : decode cX1_isChain 36 = .ok (.ifCond .le 7, 3) := by decide +kernel
theorem dX1_isChain_39 : decode cX1_isChain 39 = .ok (.iconst 1, 1) := by decide +kernel
theorem dX1_isChain_40 : decode cX1_isChain 40 = .ok (.goto 4, 3) := by decide +kernel
theorem dX1_isChain_43 : decode cX1_isChain 43 = .ok (.iconst 0, 1) := by decide +kernel
theorem dX1_isChain_44 : decode cX1_isChain 44 = .ok (.invokevirtual 58, 3) := by decide +kernel
theorem dX1_isChain_47 : decode cX1_isChain 47 = .ok (.ireturn, 1) := by decide +kernel
set_option maxRecDepth 20000 in
theorem ggX1_links_X1_isThere : GoodIn wsX1_links wsX1_isThere := goodIn_r _ [7, 8, 9, 10, 11, 12, 13, 14, 15, 16] (by decide +kernel) (by decide +kernel)
set_option maxRecDepth 20000 in
theorem gX1_links_X1_isThere : GoodIn wsX1_links (wsV RX1 103 RX1 yX1_isThere wsX1_isThere) := goodIn_app (goodIn_of _ (by decide +kernel)) ggX1_links_X1_isThere
theorem dX1_links_0 : decode cX1_links 0 = .ok (.iconst 0, 1) := by decide +kernel
theorem dX1_links_1 : decode cX1_links 1 = .ok (.istore_n 3, 1) := by decide +kernel
theorem dX1_links_2 : decode cX1_links 2 = .ok (.iconst 0, 1) := by decide +kernel
theorem dX1_links_3 : decode cX1_links 3 = .ok (.istore 4, 2) := by decide +kernel
theorem dX1_links_5 : decode cX1_links 5 = .ok (.iload 4, 2) := by decide +kernel
theorem dX1_links_7 : decode cX1_links 7 = .ok (.bipush 10, 2) := by decide +kernel
theorem dX1_links_9 : decode cX1_links 9 = .ok (.if_icmp .ge 56, 3) := by decide +kernel
theorem dX1_links_12 : decode cX1_links 12 = .ok (.iload_n 3, 1) := by decide +kernel
theorem dX1_links_13 : decode cX1_links 13 = .ok (.aload_n 0, 1) := by decide +kernel
theorem dX1_links_14 : decode cX1_links 14 = .ok (.iload 4, 2) := by decide +kernel
theorem dX1_links_16 : decode cX1_links 16 = .ok (.invokevirtual 103, 3) := by decide +kernel
theorem dX1_links_19 : decode cX1_links 19 = .ok (.ifCond .eq 37, 3) := by decide +kernel
theorem dX1_links_22 : decode cX1_links 22 = .ok (.aload_n 0, 1) := by decide +kernel
theorem dX1_links_23 : decode cX1_links 23 = .ok (.getfield 13, 3) := by decide +kernel
theorem dX1_links_26 : decode cX1_links 26 = .ok (.iload 4, 2) := by decide +kernel
theorem dX1_links_28 : decode cX1_links 28 = .ok (.iaload, 1) := by decide +kernel
theorem dX1_links_29 : decode cX1_links 29 = .ok (.iload_n 2, 1) := by decide +kernel
theorem dX1_links_30 : decode cX1_links 30 = .ok (.if_icmp .eq 19, 3) := by decide +kernel
theorem dX1_links_33 : decode cX1_links 33 = .ok (.aload_n 0, 1) := by decide +kernel
theorem dX1_links_34 : decode cX1_links 34 = .ok (.getfield 13, 3) := by decide +kernel
theorem dX1_links_37 : decode cX1_links 37 = .ok (.iload 4, 2) := by decide +kernel
theorem dX1_links_39 : decode cX1_links 39 = .ok (.iaload, 1) := by decide +kernel
theorem dX1_links_40 : decode cX1_links 40 = .ok (.aload_n 0, 1) := by decide +kernel
theorem dX1_links_41 : decode cX1_links 41 = .ok (.getfield 13, 3) := by decide +kernel
theorem dX1_links_44 : decode cX1_links 44 = .ok (.iload_n 1, 1) := by decide +kernel
theorem dX1_links_45 : decode cX1_links 45 = .ok (.iaload, 1) := by decide +kernel
theorem dX1_links_46 : decode cX1_links 46 = .ok (.if_icmp .ne 10, 3) := by decide +kernel
theorem dX1_links_49 : decode cX1_links 49 = .ok (.iconst 1, 1) := by decide +kernel
theorem dX1_links_50 : decode cX1_links 50 = .ok (.iload 4, 2) := by decide +kernel
theorem dX1_links_52 : decode cX1_links 52 = .ok (.ishl, 1) := by decide +kernel
theorem dX1_links_53 : decode cX1_links 53 = .ok (.goto 4, 3) := by decide +kernel
theorem dX1_links_56 : decode cX1_links 56 = .ok (.iconst 0, 1) := by decide +kernel
theorem dX1_links_57 : decode cX1_links 57 = .ok (.ior, 1) := by decide +kernel
theorem dX1_links_58 : decode cX1_links 58 = .ok (.istore_n 3, 1) := by decide +kernel
theorem dX1_links_59 : decode cX1_links 59 = .ok (.iinc 4 1, 3) := by decide +kernel
theorem dX1_links_62 : decode cX1_links 62 = .ok (.goto (-57), 3) := by decide +kernel
theorem dX1_links_65 : decode cX1_links 65 = .ok (.iconst 0, 1) := by decide +kernel
theorem dX1_links_66 : decode cX1_links 66 = .ok (.istore 4, 2) := by decide +kernel
theorem dX1_links_68 : decode cX1_links 68 = .ok (.iconst 1, 1) := by decide +kernel
theorem dX1_links_69 : decode cX1_links 69 = .ok (.iload_n 1, 1) := by decide +kernel
theorem dX1_links_70 : decode cX1_links 70 = .ok (.ishl, 1) := by decide +kernel
theorem dX1_links_71 : decode cX1_links 71 = .ok (.istore 5, 2) := by decide +kernel
theorem dX1_links_73 : decode cX1_links 73 = .ok (.iload 5, 2) := by decide +kernel
theorem dX1_links_75 : decode cX1_links 75 = .ok (.iload 4, 2) := by decide +kernel
theorem dX1_links_77 : decode cX1_links 77 = .ok (.if_icmp .eq 55, 3) := by decide +kernel
theorem dX1_links_80 : decode cX1_links 80 = .ok (.iload 5, 2) := by decide +kernel
theorem dX1_links_82 : decode cX1_links 82 = .ok (.istore 4, 2) := by decide +kernel
theorem dX1_links_84 : decode cX1_links 84 = .ok (.iconst 0, 1) := by decide +kernel
theorem dX1_links_85 : decode cX1_links 85 = .ok (.istore 6, 2) := by decide +kernel
theorem dX1_links_87 : decode cX1_links 87 = .ok (.iload 6, 2) := by decide +kernel
theorem dX1_links_89 : decode cX1_links 89 = .ok (.bipush 10, 2) := by decide +kernel
theorem dX1_links_91 : decode cX1_links 91 = .ok (.if_icmp .ge 38, 3) := by decide +kernel
theorem dX1_links_94 : decode cX1_links 94 = .ok (.iload 5, 2) := by decide +kernel
theorem dX1_links_96 : decode cX1_links 96 = .ok (.iload 4, 2) := by decide +kernel
theorem dX1_links_98 : decode cX1_links 98 = .ok (.iload 6, 2) := by decide +kernel
theorem dX1_links_100 : decode cX1_links 100 = .ok (.ishr, 1) := by decide +kernel
theorem dX1_links_101 : decode cX1_links 101 = .ok (.iconst 1, 1) := by decide +kernel
theorem dX1_links_102 : decode cX1_links 102 = .ok (.iand, 1) := by decide +kernel
theorem dX1_links_103 : decode cX1_links 103 = .ok (.iconst 1, 1) := by decide +kernel
theorem dX1_links_104 : decode cX1_links 104 = .ok (.if_icmp .ne 15, 3) := by decide +kernel
theorem dX1_links_107 : decode cX1_links 107 = .ok (.aload_n 0, 1) := by decide +kernel
theorem dX1_links_108 : decode cX1_links 108 = .ok (.getfield 20, 3) := by decide +kernel
theorem dX1_links_111 : decode cX1_links 111 = .ok (.iload 6, 2) := by decide +kernel
theorem dX1_links_113 : decode cX1_links 113 = .ok (.iaload, 1) := by decide +kernel
theorem dX1_links_114 : decode cX1_links 114 = .ok (.iload_n 3, 1) := by decide +kernel
theorem dX1_links_115 : decode cX1_links 115 = .ok (.iand, 1) := by decide +kernel
theorem dX1_links_116 : decode cX1_links 116 = .ok (.goto 4, 3) := by decide +kernel
theorem dX1_links_119 : decode cX1_links 119 = .ok (.iconst 0, 1) := by decide +kernel
theorem dX1_links_120 : decode cX1_links 120 = .ok (.ior, 1) := by decide +kernel
theorem dX1_links_121 : decode cX1_links 121 = .ok (.istore 5, 2) := by decide +kernel
theorem dX1_links_123 : decode cX1_links 123 = .ok (.iinc 6 1, 3) := by decide +kernel
theorem dX1_links_126 : decode cX1_links 126 = .ok (.goto (-39), 3) := by decide +kernel
theorem dX1_links_129 : decode cX1_links 129 = .ok (.goto (-56), 3) := by decide +kernel
theorem dX1_links_132 : decode cX1_links 132 = .ok (.iload 5, 2) := by decide +kernel
theorem dX1_links_134 : decode cX1_links 134 = .ok (.ireturn, 1) := by decide +kernel
set_option maxRecDepth 20000 in
theorem ggX1_chain_X1_isChain : GoodIn wsX1_chain wsX1_isChain := goodIn_r _ [5, 6, 7, 8, 9, 4, 10, 11, 12, 13, 14, 15, 16, 17, 18, 19, 20, 21, 22, 23, 24, 25, 26, 27, 28, 29, 30, 31, 32, 33, 34, 35, 43, 44, 45, 46, 47, 48, 49, 50] (by decide +kernel) (by decide +kernel)
set_option maxRecDepth 20000 in
theorem gX1_chain_X1_isChain : GoodIn wsX1_chain (wsV RX1 109 RX1 yX1_isChain wsX1_isChain) := goodIn_app (goodIn_of _ (by decide +kernel)) ggX1_chain_X1_isChain
set_option maxRecDepth 20000 in
theorem ggX1_chain_X1_links : GoodIn wsX1_chain wsX1_links := goodIn_r _ [39, 6, 14, 27, 28, 29, 4, 30, 11, 43, 44, 45, 46, 47, 48, 49, 50] (by decide +kernel) (by decide +kernel)
set_option maxRecDepth 20000 in
theorem gX1_chain_X1_links : GoodIn wsX1_chain (wsV RX1 112 RX1 yX1_links wsX1_links) := goodIn_app (goodIn_of _ (by decide +kernel)) ggX1_chain_X1_links
set_option maxRecDepth 20000 in
theorem ggX1_chain_X1_bits : GoodIn wsX1_chain wsX1_bits := goodIn_r _ [42] (by decide +kernel) (by decide +kernel)
set_option maxRecDepth 20000 in
theorem gX1_chain_X1_bits : GoodIn wsX1_chain (va_wsS RX1 69 yX1_bits wsX1_bits) := goodIn_app (goodIn_of _ (by decide +kernel)) ggX1_chain_X1_bits
theorem dX1_chain_0 : decode cX1_chain 0 = .ok (.aload_n 0, 1) := by decide +kernel
theorem dX1_chain_1 : decode cX1_chain 1 = .ok (.iload_n 1, 1) := by decide +kernel
theorem dX1_chain_2 : decode cX1_chain 2 = .ok (.iload_n 2, 1) := by decide +kernel
theorem dX1_chain_3 : decode cX1_chain 3 = .ok (.invokevirtual 109, 3) := by decide +kernel
theorem dX1_chain_6 : decode cX1_chain 6 = .ok (.ifCond .eq 16, 3) := by decide +kernel
theorem dX1_chain_9 : decode cX1_chain 9 = .ok (.aload_n 0, 1) := by decide +kernel
theorem dX1_chain_10 : decode cX1_chain 10 = .ok (.iload_n 1, 1) := by decide +kernel
theorem dX1_chain_11 : decode cX1_chain 11 = .ok (.iload_n 2, 1) := by decide +kernel
theorem dX1_chain_12 : decode cX1_chain 12 = .ok (.invokevirtual 112, 3) := by decide +kernel
theorem dX1_chain_15 : decode cX1_chain 15 = .ok (.i2l, 1) := by decide +kernel
theorem dX1_chain_16 : decode cX1_chain 16 = .ok (.invokestatic 69, 3) := by decide +kernel
theorem dX1_chain_19 : decode cX1_chain 19 = .ok (.goto 4, 3) := by decide +kernel
theorem dX1_chain_22 : decode cX1_chain 22 = .ok (.iconst 0, 1) := by decide +kernel
theorem dX1_chain_23 : decode cX1_chain 23 = .ok (.ireturn, 1) := by decide +kernel
set_option maxRecDepth 20000 in
theorem ggX1_exchange_X1_isChain : GoodIn wsX1_exchange wsX1_isChain := goodIn_r _ [6, 1, 7, 8, 9, 5, 10, 11, 12, 13, 14, 15, 16, 17, 18, 19, 20, 21, 22, 23, 24, 25, 26, 27, 28, 29, 30, 31, 32, 33, 34, 35, 43, 44, 45, 46, 47, 48, 49, 50] (by decide +kernel) (by decide +kernel)
set_option maxRecDepth 20000 in
theorem gX1_exchange_X1_isChain : GoodIn wsX1_exchange (wsV RX1 109 RX1 yX1_isChain wsX1_isChain) := goodIn_app (goodIn_of _ (by decide +kernel)) ggX1_exchange_X1_isChain
set_option maxRecDepth 20000 in
theorem ggX1_exchange_X1_links : GoodIn wsX1_exchange wsX1_links := goodIn_r _ [39, 1, 14, 27, 28, 29, 5, 30, 11, 43, 44, 45, 46, 47, 48, 49, 50] (by decide +kernel) (by decide +kernel)
set_option maxRecDepth 20000 in
theorem gX1_exchange_X1_links : GoodIn wsX1_exchange (wsV RX1 112 RX1 yX1_links wsX1_links) := goodIn_app (goodIn_of _ (by decide +kernel)) ggX1_exchange_X1_links
set_option maxRecDepth 20000 in
theorem ggX1_exchange_X1_bits : GoodIn wsX1_exchange wsX1_bits := goodIn_r _ [42] (by decide +kernel) (by decide +kernel)
set_option maxRecDepth 20000 in
theorem gX1_exchange_X1_bits : GoodIn wsX1_exchange (va_wsS RX1 69 yX1_bits wsX1_bits) := goodIn_app (goodIn_of _ (by decide +kernel)) ggX1_exchange_X1_bits
theorem dX1_exchange_0 : decode cX1_exchange 0 = .ok (.aload_n 0, 1) := by decide +kernel
theorem dX1_exchange_1 : decode cX1_exchange 1 = .ok (.iload_n 1, 1) := by decide +kernel
theorem dX1_exchange_2 : decode cX1_exchange 2 = .ok (.iload_n 2, 1) := by decide +kernel
theorem dX1_exchange_3 : decode cX1_exchange 3 = .ok (.invokevirtual 109, 3) := by decide +kernel
theorem dX1_exchange_6 : decode cX1_exchange 6 = .ok (.ifCond .ne 5, 3) := by decide +kernel
theorem dX1_exchange_9 : decode cX1_exchange 9 = .ok (.iconst 0, 1) := by decide +kernel
theorem dX1_exchange_10 : decode cX1_exchange 10 = .ok (.ireturn, 1) := by decide +kernel
theorem dX1_exchange_11 : decode cX1_exchange 11 = .ok (.aload_n 0, 1) := by decide +kernel
theorem dX1_exchange_12 : decode cX1_exchange 12 = .ok (.iload_n 1, 1) := by decide +kernel
theorem dX1_exchange_13 : decode cX1_exchange 13 = .ok (.iload_n 2, 1) := by decide +kernel
theorem dX1_exchange_14 : decode cX1_exchange 14 = .ok (.invokevirtual 112, 3) := by decide +kernel
theorem dX1_exchange_17 : decode cX1_exchange 17 = .ok (.istore_n 3, 1) := by decide +kernel
theorem dX1_exchange_18 : decode cX1_exchange 18 = .ok (.aload_n 0, 1) := by decide +kernel
theorem dX1_exchange_19 : decode cX1_exchange 19 = .ok (.getfield 13, 3) := by decide +kernel
theorem dX1_exchange_22 : decode cX1_exchange 22 = .ok (.iload_n 1, 1) := by decide +kernel
theorem dX1_exchange_23 : decode cX1_exchange 23 = .ok (.iaload, 1) := by decide +kernel
theorem dX1_exchange_24 : decode cX1_exchange 24 = .ok (.istore 4, 2) := by decide +kernel
theorem dX1_exchange_26 : decode cX1_exchange 26 = .ok (.iconst 0, 1) := by decide +kernel
theorem dX1_exchange_27 : decode cX1_exchange 27 = .ok (.istore 5, 2) := by decide +kernel
theorem dX1_exchange_29 : decode cX1_exchange 29 = .ok (.iload 5, 2) := by decide +kernel
theorem dX1_exchange_31 : decode cX1_exchange 31 = .ok (.bipush 10, 2) := by decide +kernel
theorem dX1_exchange_33 : decode cX1_exchange 33 = .ok (.if_icmp .ge 44, 3) := by decide +kernel
theorem dX1_exchange_36 : decode cX1_exchange 36 = .ok (.iload_n 3, 1) := by decide +kernel
theorem dX1_exchange_37 : decode cX1_exchange 37 = .ok (.iload 5, 2) := by decide +kernel
theorem dX1_exchange_39 : decode cX1_exchange 39 = .ok (.ishr, 1) := by decide +kernel
theorem dX1_exchange_40 : decode cX1_exchange 40 = .ok (.iconst 1, 1) := by decide +kernel
theorem dX1_exchange_41 : decode cX1_exchange 41 = .ok (.iand, 1) := by decide +kernel
theorem dX1_exchange_42 : decode cX1_exchange 42 = .ok (.iconst 1, 1) := by decide +kernel
theorem dX1_exchange_43 : decode cX1_exchange 43 = .ok (.if_icmp .ne 28, 3) := by decide +kernel
theorem dX1_exchange_46 : decode cX1_exchange 46 = .ok (.aload_n 0, 1) := by decide +kernel
theorem dX1_exchange_47 : decode cX1_exchange 47 = .ok (.getfield 13, 3) := by decide +kernel
theorem dX1_exchange_50 : decode cX1_exchange 50 = .ok (.iload 5, 2) := by decide +kernel
theorem dX1_exchange_52 : decode cX1_exchange 52 = .ok (.aload_n 0, 1) := by decide +kernel
theorem dX1_exchange_53 : decode cX1_exchange 53 = .ok (.getfield 13, 3) := by decide +kernel
theorem dX1_exchange_56 : decode cX1_exchange 56 = .ok (.iload 5, 2) := by decide +kernel
theorem dX1_exchange_58 : decode cX1_exchange 58 = .ok (.iaload, 1) := by decide +kernel
theorem dX1_exchange_59 : decode cX1_exchange 59 = .ok (.iload 4, 2) := by decide +kernel
theorem dX1_exchange_61 : decode cX1_exchange 61 = .ok (.if_icmp .ne 7, 3) := by decide +kernel
theorem dX1_exchange_64 : decode cX1_exchange 64 = .ok (.iload_n 2, 1) := by decide +kernel
theorem dX1_exchange_65 : decode cX1_exchange 65 = .ok (.goto 5, 3) := by decide +kernel
theorem dX1_exchange_68 : decode cX1_exchange 68 = .ok (.iload 4, 2) := by decide +kernel
theorem dX1_exchange_70 : decode cX1_exchange 70 = .ok (.iastore, 1) := by decide +kernel
theorem dX1_exchange_71 : decode cX1_exchange 71 = .ok (.iinc 5 1, 3) := by decide +kernel
theorem dX1_exchange_74 : decode cX1_exchange 74 = .ok (.goto (-45), 3) := by decide +kernel
theorem dX1_exchange_77 : decode cX1_exchange 77 = .ok (.iload 4, 2) := by decide +kernel
theorem dX1_exchange_79 : decode cX1_exchange 79 = .ok (.iload_n 2, 1) := by decide +kernel
theorem dX1_exchange_80 : decode cX1_exchange 80 = .ok (.if_icmp .ne 7, 3) := by decide +kernel
theorem dX1_exchange_83 : decode cX1_exchange 83 = .ok (.iconst 0, 1) := by decide +kernel
theorem dX1_exchange_84 : decode cX1_exchange 84 = .ok (.goto 8, 3) := by decide +kernel
theorem dX1_exchange_87 : decode cX1_exchange 87 = .ok (.iload_n 3, 1) := by decide +kernel
theorem dX1_exchange_88 : decode cX1_exchange 88 = .ok (.i2l, 1) := by decide +kernel
theorem dX1_exchange_89 : decode cX1_exchange 89 = .ok (.invokestatic 69, 3) := by decide +kernel
theorem dX1_exchange_92 : decode cX1_exchange 92 = .ok (.ireturn, 1) := by decide +kernel
set_option maxRecDepth 20000 in
theorem ggX1_tintInOrder_X1_looks : GoodIn wsX1_tintInOrder wsX1_looks := goodIn_r _ [9, 2, 10, 11, 3, 12, 13, 8, 14, 15, 16, 17, 29, 30, 31, 32, 33, 34, 35, 36] (by decide +kernel) (by decide +kernel)
set_option maxRecDepth 20000 in
theorem gX1_tintInOrder_X1_looks : GoodIn wsX1_tintInOrder (wsV RX1 66 RX1 yX1_looks wsX1_looks) := goodIn_app (goodIn_of _ (by decide +kernel)) ggX1_tintInOrder_X1_looks
set_option maxRecDepth 20000 in
theorem ggX1_tintInOrder_X1_isThere : GoodIn wsX1_tintInOrder wsX1_isThere := goodIn_r _ [21, 2, 29, 30, 31, 32, 33, 34, 35, 36] (by decide +kernel) (by decide +kernel)
set_option maxRecDepth 20000 in
theorem gX1_tintInOrder_X1_isThere : GoodIn wsX1_tintInOrder (wsV RX1 103 RX1 yX1_isThere wsX1_isThere) := goodIn_app (goodIn_of _ (by decide +kernel)) ggX1_tintInOrder_X1_isThere
set_option maxRecDepth 20000 in
theorem ggX1_tintInOrder_X1_bits : GoodIn wsX1_tintInOrder wsX1_bits := goodIn_r _ [24] (by decide +kernel) (by decide +kernel)
set_option maxRecDepth 20000 in
theorem gX1_tintInOrder_X1_bits : GoodIn wsX1_tintInOrder (va_wsS RX1 69 yX1_bits wsX1_bits) := goodIn_app (goodIn_of _ (by decide +kernel)) ggX1_tintInOrder_X1_bits
set_option maxRecDepth 20000 in
theorem ggX1_tintInOrder_X1_least : GoodIn wsX1_tintInOrder wsX1_least := goodIn_r _ [28, 4, 29, 30, 31, 32, 33, 34, 35, 36] (by decide +kernel) (by decide +kernel)
set_option maxRecDepth 20000 in
theorem gX1_tintInOrder_X1_least : GoodIn wsX1_tintInOrder (wsV RX1 106 RX1 yX1_least wsX1_least) := goodIn_app (goodIn_of _ (by decide +kernel)) ggX1_tintInOrder_X1_least
theorem dX1_tintInOrder_0 : decode cX1_tintInOrder 0 = .ok (.aload_n 0, 1) := by decide +kernel
theorem dX1_tintInOrder_1 : decode cX1_tintInOrder 1 = .ok (.invokevirtual 66, 3) := by decide +kernel
theorem dX1_tintInOrder_4 : decode cX1_tintInOrder 4 = .ok (.aload_n 0, 1) := by decide +kernel
theorem dX1_tintInOrder_5 : decode cX1_tintInOrder 5 = .ok (.iconst 0, 1) := by decide +kernel
theorem dX1_tintInOrder_6 : decode cX1_tintInOrder 6 = .ok (.putfield 29, 3) := by decide +kernel
theorem dX1_tintInOrder_9 : decode cX1_tintInOrder 9 = .ok (.iconst 0, 1) := by decide +kernel
theorem dX1_tintInOrder_10 : decode cX1_tintInOrder 10 = .ok (.istore_n 2, 1) := by decide +kernel
theorem dX1_tintInOrder_11 : decode cX1_tintInOrder 11 = .ok (.iconst 0, 1) := by decide +kernel
theorem dX1_tintInOrder_12 : decode cX1_tintInOrder 12 = .ok (.istore_n 3, 1) := by decide +kernel
theorem dX1_tintInOrder_13 : decode cX1_tintInOrder 13 = .ok (.iload_n 3, 1) := by decide +kernel
theorem dX1_tintInOrder_14 : decode cX1_tintInOrder 14 = .ok (.aload_n 0, 1) := by decide +kernel
theorem dX1_tintInOrder_15 : decode cX1_tintInOrder 15 = .ok (.getfield 47, 3) := by decide +kernel
theorem dX1_tintInOrder_18 : decode cX1_tintInOrder 18 = .ok (.if_icmp .eq 149, 3) := by decide +kernel
theorem dX1_tintInOrder_21 : decode cX1_tintInOrder 21 = .ok (.iconst (-1), 1) := by decide +kernel
theorem dX1_tintInOrder_22 : decode cX1_tintInOrder 22 = .ok (.istore 4, 2) := by decide +kernel
theorem dX1_tintInOrder_24 : decode cX1_tintInOrder 24 = .ok (.iconst 0, 1) := by decide +kernel
theorem dX1_tintInOrder_25 : decode cX1_tintInOrder 25 = .ok (.istore 5, 2) := by decide +kernel
theorem dX1_tintInOrder_27 : decode cX1_tintInOrder 27 = .ok (.iload 5, 2) := by decide +kernel
theorem dX1_tintInOrder_29 : decode cX1_tintInOrder 29 = .ok (.bipush 10, 2) := by decide +kernel
theorem dX1_tintInOrder_31 : decode cX1_tintInOrder 31 = .ok (.if_icmp .ge 83, 3) := by decide +kernel
theorem dX1_tintInOrder_34 : decode cX1_tintInOrder 34 = .ok (.aload_n 0, 1) := by decide +kernel
theorem dX1_tintInOrder_35 : decode cX1_tintInOrder 35 = .ok (.iload 5, 2) := by decide +kernel
theorem dX1_tintInOrder_37 : decode cX1_tintInOrder 37 = .ok (.invokevirtual 103, 3) := by decide +kernel
theorem dX1_tintInOrder_40 : decode cX1_tintInOrder 40 = .ok (.ifCond .eq 16, 3) := by decide +kernel
theorem dX1_tintInOrder_43 : decode cX1_tintInOrder 43 = .ok (.iload_n 3, 1) := by decide +kernel
theorem dX1_tintInOrder_44 : decode cX1_tintInOrder 44 = .ok (.iload 5, 2) := by decide +kernel
theorem dX1_tintInOrder_46 : decode cX1_tintInOrder 46 = .ok (.ishr, 1) := by decide +kernel
theorem dX1_tintInOrder_47 : decode cX1_tintInOrder 47 = .ok (.iconst 1, 1) := by decide +kernel
theorem dX1_tintInOrder_48 : decode cX1_tintInOrder 48 = .ok (.iand, 1) := by decide +kernel
theorem dX1_tintInOrder_49 : decode cX1_tintInOrder 49 = .ok (.ifCond .ne 7, 3) := by decide +kernel
theorem dX1_tintInOrder_52 : decode cX1_tintInOrder 52 = .ok (.iconst 1, 1) := by decide +kernel
theorem dX1_tintInOrder_53 : decode cX1_tintInOrder 53 = .ok (.goto 4, 3) := by decide +kernel
theorem dX1_tintInOrder_56 : decode cX1_tintInOrder 56 = .ok (.iconst 0, 1) := by decide +kernel
theorem dX1_tintInOrder_57 : decode cX1_tintInOrder 57 = .ok (.istore 6, 2) := by decide +kernel
theorem dX1_tintInOrder_59 : decode cX1_tintInOrder 59 = .ok (.iload 6, 2) := by decide +kernel
theorem dX1_tintInOrder_61 : decode cX1_tintInOrder 61 = .ok (.ifCond .eq 43, 3) := by decide +kernel
theorem dX1_tintInOrder_64 : decode cX1_tintInOrder 64 = .ok (.iload 4, 2) := by decide +kernel
