theorem dX0_leastFreeBeside_1 : decode cX0_leastFreeBeside 1 = .ok (.istore_n 2, 1) := by decide +kernel
theorem dX0_leastFreeBeside_2 : decode cX0_leastFreeBeside 2 = .ok (.iload_n 2, 1) := by decide +kernel
theorem dX0_leastFreeBeside_3 : decode cX0_leastFreeBeside 3 = .ok (.bipush 10, 2) := by decide +kernel
theorem dX0_leastFreeBeside_5 : decode cX0_leastFreeBeside 5 = .ok (.if_icmp .ge 21, 3) := by decide +kernel
theorem dX0_leastFreeBeside_8 : decode cX0_leastFreeBeside 8 = .ok (.aload_n 0, 1) := by decide +kernel
theorem dX0_leastFreeBeside_9 : decode cX0_leastFreeBeside 9 = .ok (.iload_n 2, 1) := by decide +kernel
theorem dX0_leastFreeBeside_10 : decode cX0_leastFreeBeside 10 = .ok (.invokevirtual 124, 3) := by decide +kernel
theorem dX0_leastFreeBeside_13 : decode cX0_leastFreeBeside 13 = .ok (.iload_n 1, 1) := by decide +kernel
theorem dX0_leastFreeBeside_14 : decode cX0_leastFreeBeside 14 = .ok (.iand, 1) := by decide +kernel
theorem dX0_leastFreeBeside_15 : decode cX0_leastFreeBeside 15 = .ok (.ifCond .ne 5, 3) := by decide +kernel
theorem dX0_leastFreeBeside_18 : decode cX0_leastFreeBeside 18 = .ok (.iload_n 2, 1) := by decide +kernel
theorem dX0_leastFreeBeside_19 : decode cX0_leastFreeBeside 19 = .ok (.ireturn, 1) := by decide +kernel
theorem dX0_leastFreeBeside_20 : decode cX0_leastFreeBeside 20 = .ok (.iinc 2 1, 3) := by decide +kernel
theorem dX0_leastFreeBeside_23 : decode cX0_leastFreeBeside 23 = .ok (.goto (-21), 3) := by decide +kernel
theorem dX0_leastFreeBeside_26 : decode cX0_leastFreeBeside 26 = .ok (.bipush 10, 2) := by decide +kernel
theorem dX0_leastFreeBeside_28 : decode cX0_leastFreeBeside 28 = .ok (.ireturn, 1) := by decide +kernel
set_option maxRecDepth 20000 in
theorem ggX0_giveLeastFree_X0_has : GoodIn wsX0_giveLeastFree wsX0_has := goodIn_r _ [10] (by decide +kernel) (by decide +kernel)
set_option maxRecDepth 20000 in
theorem gX0_giveLeastFree_X0_has : GoodIn wsX0_giveLeastFree (va_wsS RX0 140 yX0_has wsX0_has) := goodIn_app (goodIn_of _ (by decide +kernel)) ggX0_giveLeastFree_X0_has
set_option maxRecDepth 20000 in
theorem ggX0_giveLeastFree_X0_leastFreeBeside : GoodIn wsX0_giveLeastFree wsX0_leastFreeBeside := goodIn_r _ [14, 15, 16, 17, 9, 18, 1, 19, 20, 21, 22, 23, 24, 25, 26] (by decide +kernel) (by decide +kernel)
set_option maxRecDepth 20000 in
theorem gX0_giveLeastFree_X0_leastFreeBeside : GoodIn wsX0_giveLeastFree (wsV RX0 131 RX0 yX0_leastFreeBeside wsX0_leastFreeBeside) := goodIn_app (goodIn_of _ (by decide +kernel)) ggX0_giveLeastFree_X0_leastFreeBeside
theorem dX0_giveLeastFree_0 : decode cX0_giveLeastFree 0 = .ok (.iconst 0, 1) := by decide +kernel
theorem dX0_giveLeastFree_1 : decode cX0_giveLeastFree 1 = .ok (.istore_n 2, 1) := by decide +kernel
theorem dX0_giveLeastFree_2 : decode cX0_giveLeastFree 2 = .ok (.iconst 0, 1) := by decide +kernel
theorem dX0_giveLeastFree_3 : decode cX0_giveLeastFree 3 = .ok (.istore_n 3, 1) := by decide +kernel
theorem dX0_giveLeastFree_4 : decode cX0_giveLeastFree 4 = .ok (.iload_n 3, 1) := by decide +kernel
theorem dX0_giveLeastFree_5 : decode cX0_giveLeastFree 5 = .ok (.bipush 10, 2) := by decide +kernel
theorem dX0_giveLeastFree_7 : decode cX0_giveLeastFree 7 = .ok (.if_icmp .ge 44, 3) := by decide +kernel
theorem dX0_giveLeastFree_10 : decode cX0_giveLeastFree 10 = .ok (.iload_n 1, 1) := by decide +kernel
theorem dX0_giveLeastFree_11 : decode cX0_giveLeastFree 11 = .ok (.iload_n 3, 1) := by decide +kernel
theorem dX0_giveLeastFree_12 : decode cX0_giveLeastFree 12 = .ok (.invokestatic 140, 3) := by decide +kernel
theorem dX0_giveLeastFree_15 : decode cX0_giveLeastFree 15 = .ok (.ifCond .eq 30, 3) := by decide +kernel
theorem dX0_giveLeastFree_18 : decode cX0_giveLeastFree 18 = .ok (.aload_n 0, 1) := by decide +kernel
theorem dX0_giveLeastFree_19 : decode cX0_giveLeastFree 19 = .ok (.getfield 21, 3) := by decide +kernel
theorem dX0_giveLeastFree_22 : decode cX0_giveLeastFree 22 = .ok (.iload_n 3, 1) := by decide +kernel
theorem dX0_giveLeastFree_23 : decode cX0_giveLeastFree 23 = .ok (.aload_n 0, 1) := by decide +kernel
theorem dX0_giveLeastFree_24 : decode cX0_giveLeastFree 24 = .ok (.aload_n 0, 1) := by decide +kernel
theorem dX0_giveLeastFree_25 : decode cX0_giveLeastFree 25 = .ok (.getfield 17, 3) := by decide +kernel
theorem dX0_giveLeastFree_28 : decode cX0_giveLeastFree 28 = .ok (.iload_n 3, 1) := by decide +kernel
theorem dX0_giveLeastFree_29 : decode cX0_giveLeastFree 29 = .ok (.iaload, 1) := by decide +kernel
theorem dX0_giveLeastFree_30 : decode cX0_giveLeastFree 30 = .ok (.invokevirtual 131, 3) := by decide +kernel
theorem dX0_giveLeastFree_33 : decode cX0_giveLeastFree 33 = .ok (.iastore, 1) := by decide +kernel
theorem dX0_giveLeastFree_34 : decode cX0_giveLeastFree 34 = .ok (.iload_n 2, 1) := by decide +kernel
theorem dX0_giveLeastFree_35 : decode cX0_giveLeastFree 35 = .ok (.aload_n 0, 1) := by decide +kernel
theorem dX0_giveLeastFree_36 : decode cX0_giveLeastFree 36 = .ok (.getfield 21, 3) := by decide +kernel
theorem dX0_giveLeastFree_39 : decode cX0_giveLeastFree 39 = .ok (.iload_n 3, 1) := by decide +kernel
theorem dX0_giveLeastFree_40 : decode cX0_giveLeastFree 40 = .ok (.iaload, 1) := by decide +kernel
theorem dX0_giveLeastFree_41 : decode cX0_giveLeastFree 41 = .ok (.invokestatic 92, 3) := by decide +kernel
theorem dX0_giveLeastFree_44 : decode cX0_giveLeastFree 44 = .ok (.istore_n 2, 1) := by decide +kernel
theorem dX0_giveLeastFree_45 : decode cX0_giveLeastFree 45 = .ok (.iinc 3 1, 3) := by decide +kernel
theorem dX0_giveLeastFree_48 : decode cX0_giveLeastFree 48 = .ok (.goto (-44), 3) := by decide +kernel
theorem dX0_giveLeastFree_51 : decode cX0_giveLeastFree 51 = .ok (.iload_n 2, 1) := by decide +kernel
theorem dX0_giveLeastFree_52 : decode cX0_giveLeastFree 52 = .ok (.ireturn, 1) := by decide +kernel
set_option maxRecDepth 20000 in
theorem ggX0_chainOf_X0_wearing : GoodIn wsX0_chainOf wsX0_wearing := goodIn_r _ [8, 2, 12, 13, 14, 15, 16, 17, 18, 19] (by decide +kernel) (by decide +kernel)
set_option maxRecDepth 20000 in
theorem gX0_chainOf_X0_wearing : GoodIn wsX0_chainOf (wsV RX0 124 RX0 yX0_wearing wsX0_wearing) := goodIn_app (goodIn_of _ (by decide +kernel)) ggX0_chainOf_X0_wearing
set_option maxRecDepth 20000 in
theorem ggX0_chainOf_X0_has : GoodIn wsX0_chainOf wsX0_has := goodIn_r _ [11] (by decide +kernel) (by decide +kernel)
set_option maxRecDepth 20000 in
theorem gX0_chainOf_X0_has : GoodIn wsX0_chainOf (va_wsS RX0 140 yX0_has wsX0_has) := goodIn_app (goodIn_of _ (by decide +kernel)) ggX0_chainOf_X0_has
theorem dX0_chainOf_0 : decode cX0_chainOf 0 = .ok (.aload_n 0, 1) := by decide +kernel
theorem dX0_chainOf_1 : decode cX0_chainOf 1 = .ok (.getfield 13, 3) := by decide +kernel
theorem dX0_chainOf_4 : decode cX0_chainOf 4 = .ok (.aload_n 0, 1) := by decide +kernel
theorem dX0_chainOf_5 : decode cX0_chainOf 5 = .ok (.aload_n 0, 1) := by decide +kernel
theorem dX0_chainOf_6 : decode cX0_chainOf 6 = .ok (.getfield 21, 3) := by decide +kernel
theorem dX0_chainOf_9 : decode cX0_chainOf 9 = .ok (.iload_n 1, 1) := by decide +kernel
theorem dX0_chainOf_10 : decode cX0_chainOf 10 = .ok (.iaload, 1) := by decide +kernel
theorem dX0_chainOf_11 : decode cX0_chainOf 11 = .ok (.invokevirtual 124, 3) := by decide +kernel
theorem dX0_chainOf_14 : decode cX0_chainOf 14 = .ok (.aload_n 0, 1) := by decide +kernel
theorem dX0_chainOf_15 : decode cX0_chainOf 15 = .ok (.iload_n 2, 1) := by decide +kernel
theorem dX0_chainOf_16 : decode cX0_chainOf 16 = .ok (.invokevirtual 124, 3) := by decide +kernel
theorem dX0_chainOf_19 : decode cX0_chainOf 19 = .ok (.ior, 1) := by decide +kernel
theorem dX0_chainOf_20 : decode cX0_chainOf 20 = .ok (.iand, 1) := by decide +kernel
theorem dX0_chainOf_21 : decode cX0_chainOf 21 = .ok (.istore_n 3, 1) := by decide +kernel
theorem dX0_chainOf_22 : decode cX0_chainOf 22 = .ok (.iconst 1, 1) := by decide +kernel
theorem dX0_chainOf_23 : decode cX0_chainOf 23 = .ok (.iload_n 1, 1) := by decide +kernel
theorem dX0_chainOf_24 : decode cX0_chainOf 24 = .ok (.ishl, 1) := by decide +kernel
theorem dX0_chainOf_25 : decode cX0_chainOf 25 = .ok (.istore 4, 2) := by decide +kernel
theorem dX0_chainOf_27 : decode cX0_chainOf 27 = .ok (.iconst 0, 1) := by decide +kernel
theorem dX0_chainOf_28 : decode cX0_chainOf 28 = .ok (.istore 5, 2) := by decide +kernel
theorem dX0_chainOf_30 : decode cX0_chainOf 30 = .ok (.iload 5, 2) := by decide +kernel
theorem dX0_chainOf_32 : decode cX0_chainOf 32 = .ok (.bipush 10, 2) := by decide +kernel
theorem dX0_chainOf_34 : decode cX0_chainOf 34 = .ok (.if_icmp .ge 57, 3) := by decide +kernel
theorem dX0_chainOf_37 : decode cX0_chainOf 37 = .ok (.iload 4, 2) := by decide +kernel
theorem dX0_chainOf_39 : decode cX0_chainOf 39 = .ok (.istore 6, 2) := by decide +kernel
theorem dX0_chainOf_41 : decode cX0_chainOf 41 = .ok (.iconst 0, 1) := by decide +kernel
theorem dX0_chainOf_42 : decode cX0_chainOf 42 = .ok (.istore 7, 2) := by decide +kernel
theorem dX0_chainOf_44 : decode cX0_chainOf 44 = .ok (.iload 7, 2) := by decide +kernel
theorem dX0_chainOf_46 : decode cX0_chainOf 46 = .ok (.bipush 10, 2) := by decide +kernel
theorem dX0_chainOf_48 : decode cX0_chainOf 48 = .ok (.if_icmp .ge 33, 3) := by decide +kernel
theorem dX0_chainOf_51 : decode cX0_chainOf 51 = .ok (.iload 4, 2) := by decide +kernel
theorem dX0_chainOf_53 : decode cX0_chainOf 53 = .ok (.iload 7, 2) := by decide +kernel
theorem dX0_chainOf_55 : decode cX0_chainOf 55 = .ok (.invokestatic 140, 3) := by decide +kernel
theorem dX0_chainOf_58 : decode cX0_chainOf 58 = .ok (.ifCond .eq 17, 3) := by decide +kernel
theorem dX0_chainOf_61 : decode cX0_chainOf 61 = .ok (.iload 6, 2) := by decide +kernel
theorem dX0_chainOf_63 : decode cX0_chainOf 63 = .ok (.aload_n 0, 1) := by decide +kernel
theorem dX0_chainOf_64 : decode cX0_chainOf 64 = .ok (.getfield 17, 3) := by decide +kernel
theorem dX0_chainOf_67 : decode cX0_chainOf 67 = .ok (.iload 7, 2) := by decide +kernel
theorem dX0_chainOf_69 : decode cX0_chainOf 69 = .ok (.iaload, 1) := by decide +kernel
theorem dX0_chainOf_70 : decode cX0_chainOf 70 = .ok (.iload_n 3, 1) := by decide +kernel
theorem dX0_chainOf_71 : decode cX0_chainOf 71 = .ok (.iand, 1) := by decide +kernel
theorem dX0_chainOf_72 : decode cX0_chainOf 72 = .ok (.ior, 1) := by decide +kernel
theorem dX0_chainOf_73 : decode cX0_chainOf 73 = .ok (.istore 6, 2) := by decide +kernel
theorem dX0_chainOf_75 : decode cX0_chainOf 75 = .ok (.iinc 7 1, 3) := by decide +kernel
theorem dX0_chainOf_78 : decode cX0_chainOf 78 = .ok (.goto (-34), 3) := by decide +kernel
theorem dX0_chainOf_81 : decode cX0_chainOf 81 = .ok (.iload 6, 2) := by decide +kernel
theorem dX0_chainOf_83 : decode cX0_chainOf 83 = .ok (.istore 4, 2) := by decide +kernel
theorem dX0_chainOf_85 : decode cX0_chainOf 85 = .ok (.iinc 5 1, 3) := by decide +kernel
theorem dX0_chainOf_88 : decode cX0_chainOf 88 = .ok (.goto (-58), 3) := by decide +kernel
theorem dX0_chainOf_91 : decode cX0_chainOf 91 = .ok (.iload 4, 2) := by decide +kernel
theorem dX0_chainOf_93 : decode cX0_chainOf 93 = .ok (.ireturn, 1) := by decide +kernel
set_option maxRecDepth 20000 in
theorem ggX0_tryFewest_X0_tryFrom : GoodIn wsX0_tryFewest wsX0_tryFrom := goodIn_r _ [7, 8, 9, 10, 11, 12, 13, 6, 14, 4, 5, 15, 16, 17] (by decide +kernel) (by decide +kernel)
set_option maxRecDepth 20000 in
theorem gX0_tryFewest_X0_tryFrom : GoodIn wsX0_tryFewest (va_wsS RX0 209 yX0_tryFrom wsX0_tryFrom) := goodIn_app (goodIn_of _ (by decide +kernel)) ggX0_tryFewest_X0_tryFrom
theorem dX0_tryFewest_0 : decode cX0_tryFewest 0 = .ok (.iconst 0, 1) := by decide +kernel
theorem dX0_tryFewest_1 : decode cX0_tryFewest 1 = .ok (.istore_n 1, 1) := by decide +kernel
theorem dX0_tryFewest_2 : decode cX0_tryFewest 2 = .ok (.iload_n 1, 1) := by decide +kernel
theorem dX0_tryFewest_3 : decode cX0_tryFewest 3 = .ok (.bipush 10, 2) := by decide +kernel
theorem dX0_tryFewest_5 : decode cX0_tryFewest 5 = .ok (.if_icmp .gt 32, 3) := by decide +kernel
theorem dX0_tryFewest_8 : decode cX0_tryFewest 8 = .ok (.iconst 0, 1) := by decide +kernel
theorem dX0_tryFewest_9 : decode cX0_tryFewest 9 = .ok (.aload_n 0, 1) := by decide +kernel
theorem dX0_tryFewest_10 : decode cX0_tryFewest 10 = .ok (.getfield 17, 3) := by decide +kernel
theorem dX0_tryFewest_13 : decode cX0_tryFewest 13 = .ok (.aload_n 0, 1) := by decide +kernel
theorem dX0_tryFewest_14 : decode cX0_tryFewest 14 = .ok (.getfield 13, 3) := by decide +kernel
theorem dX0_tryFewest_17 : decode cX0_tryFewest 17 = .ok (.aload_n 0, 1) := by decide +kernel
theorem dX0_tryFewest_18 : decode cX0_tryFewest 18 = .ok (.getfield 24, 3) := by decide +kernel
theorem dX0_tryFewest_21 : decode cX0_tryFewest 21 = .ok (.iconst 0, 1) := by decide +kernel
theorem dX0_tryFewest_22 : decode cX0_tryFewest 22 = .ok (.iload_n 1, 1) := by decide +kernel
theorem dX0_tryFewest_23 : decode cX0_tryFewest 23 = .ok (.invokestatic 209, 3) := by decide +kernel
theorem dX0_tryFewest_26 : decode cX0_tryFewest 26 = .ok (.ifCond .eq 5, 3) := by decide +kernel
theorem dX0_tryFewest_29 : decode cX0_tryFewest 29 = .ok (.iload_n 1, 1) := by decide +kernel
theorem dX0_tryFewest_30 : decode cX0_tryFewest 30 = .ok (.ireturn, 1) := by decide +kernel
theorem dX0_tryFewest_31 : decode cX0_tryFewest 31 = .ok (.iinc 1 1, 3) := by decide +kernel
theorem dX0_tryFewest_34 : decode cX0_tryFewest 34 = .ok (.goto (-32), 3) := by decide +kernel
theorem dX0_tryFewest_37 : decode cX0_tryFewest 37 = .ok (.bipush 10, 2) := by decide +kernel
theorem dX0_tryFewest_39 : decode cX0_tryFewest 39 = .ok (.ireturn, 1) := by decide +kernel
set_option maxRecDepth 20000 in
theorem ggX0_tryFrom_X0_has : GoodIn wsX0_tryFrom wsX0_has := goodIn_r _ [8] (by decide +kernel) (by decide +kernel)
set_option maxRecDepth 20000 in
theorem gX0_tryFrom_X0_has : GoodIn wsX0_tryFrom (va_wsS RX0 140 yX0_has wsX0_has) := goodIn_app (goodIn_of _ (by decide +kernel)) ggX0_tryFrom_X0_has
set_option maxRecDepth 20000 in
theorem ggX0_tryFrom_X0_tryFrom : GoodIn wsX0_tryFrom wsX0_tryFrom := goodIn_r _ [0, 1, 2, 3, 4, 5, 6, 7, 8, 9, 10, 11, 12, 13] (by decide +kernel) (by decide +kernel)
set_option maxRecDepth 20000 in
theorem gX0_tryFrom_X0_tryFrom : GoodIn wsX0_tryFrom (va_wsS RX0 209 yX0_tryFrom wsX0_tryFrom) := goodIn_app (goodIn_of _ (by decide +kernel)) ggX0_tryFrom_X0_tryFrom
set_option maxRecDepth 20000 in
theorem ggX0_tryFrom_X0_isFreeIn : GoodIn wsX0_tryFrom wsX0_isFreeIn := goodIn_r _ [13, 5, 6, 7, 8] (by decide +kernel) (by decide +kernel)
set_option maxRecDepth 20000 in
theorem gX0_tryFrom_X0_isFreeIn : GoodIn wsX0_tryFrom (va_wsS RX0 213 yX0_isFreeIn wsX0_isFreeIn) := goodIn_app (goodIn_of _ (by decide +kernel)) ggX0_tryFrom_X0_isFreeIn
theorem dX0_tryFrom_0 : decode cX0_tryFrom 0 = .ok (.iload_n 0, 1) := by decide +kernel
theorem dX0_tryFrom_1 : decode cX0_tryFrom 1 = .ok (.bipush 10, 2) := by decide +kernel
theorem dX0_tryFrom_3 : decode cX0_tryFrom 3 = .ok (.if_icmp .lt 5, 3) := by decide +kernel
theorem dX0_tryFrom_6 : decode cX0_tryFrom 6 = .ok (.iconst 1, 1) := by decide +kernel
theorem dX0_tryFrom_7 : decode cX0_tryFrom 7 = .ok (.ireturn, 1) := by decide +kernel
theorem dX0_tryFrom_8 : decode cX0_tryFrom 8 = .ok (.iload_n 2, 1) := by decide +kernel
theorem dX0_tryFrom_9 : decode cX0_tryFrom 9 = .ok (.iload_n 0, 1) := by decide +kernel
theorem dX0_tryFrom_10 : decode cX0_tryFrom 10 = .ok (.invokestatic 140, 3) := by decide +kernel
theorem dX0_tryFrom_13 : decode cX0_tryFrom 13 = .ok (.ifCond .ne 17, 3) := by decide +kernel
theorem dX0_tryFrom_16 : decode cX0_tryFrom 16 = .ok (.iload_n 0, 1) := by decide +kernel
theorem dX0_tryFrom_17 : decode cX0_tryFrom 17 = .ok (.iconst 1, 1) := by decide +kernel
theorem dX0_tryFrom_18 : decode cX0_tryFrom 18 = .ok (.iadd, 1) := by decide +kernel
theorem dX0_tryFrom_19 : decode cX0_tryFrom 19 = .ok (.aload_n 1, 1) := by decide +kernel
theorem dX0_tryFrom_20 : decode cX0_tryFrom 20 = .ok (.iload_n 2, 1) := by decide +kernel
theorem dX0_tryFrom_21 : decode cX0_tryFrom 21 = .ok (.aload_n 3, 1) := by decide +kernel
theorem dX0_tryFrom_22 : decode cX0_tryFrom 22 = .ok (.iload 4, 2) := by decide +kernel
theorem dX0_tryFrom_24 : decode cX0_tryFrom 24 = .ok (.iload 5, 2) := by decide +kernel
theorem dX0_tryFrom_26 : decode cX0_tryFrom 26 = .ok (.invokestatic 209, 3) := by decide +kernel
theorem dX0_tryFrom_29 : decode cX0_tryFrom 29 = .ok (.ireturn, 1) := by decide +kernel
theorem dX0_tryFrom_30 : decode cX0_tryFrom 30 = .ok (.iconst 1, 1) := by decide +kernel
theorem dX0_tryFrom_31 : decode cX0_tryFrom 31 = .ok (.istore 6, 2) := by decide +kernel
theorem dX0_tryFrom_33 : decode cX0_tryFrom 33 = .ok (.iload 6, 2) := by decide +kernel
theorem dX0_tryFrom_35 : decode cX0_tryFrom 35 = .ok (.iload 5, 2) := by decide +kernel
theorem dX0_tryFrom_37 : decode cX0_tryFrom 37 = .ok (.if_icmp .gt 59, 3) := by decide +kernel
theorem dX0_tryFrom_40 : decode cX0_tryFrom 40 = .ok (.iload 6, 2) := by decide +kernel
theorem dX0_tryFrom_42 : decode cX0_tryFrom 42 = .ok (.iload 4, 2) := by decide +kernel
theorem dX0_tryFrom_44 : decode cX0_tryFrom 44 = .ok (.iconst 1, 1) := by decide +kernel
theorem dX0_tryFrom_45 : decode cX0_tryFrom 45 = .ok (.iadd, 1) := by decide +kernel
theorem dX0_tryFrom_46 : decode cX0_tryFrom 46 = .ok (.if_icmp .gt 50, 3) := by decide +kernel
theorem dX0_tryFrom_49 : decode cX0_tryFrom 49 = .ok (.aload_n 3, 1) := by decide +kernel
theorem dX0_tryFrom_50 : decode cX0_tryFrom 50 = .ok (.iload_n 0, 1) := by decide +kernel
theorem dX0_tryFrom_51 : decode cX0_tryFrom 51 = .ok (.aload_n 1, 1) := by decide +kernel
theorem dX0_tryFrom_52 : decode cX0_tryFrom 52 = .ok (.iload_n 0, 1) := by decide +kernel
theorem dX0_tryFrom_53 : decode cX0_tryFrom 53 = .ok (.iaload, 1) := by decide +kernel
theorem dX0_tryFrom_54 : decode cX0_tryFrom 54 = .ok (.iload 6, 2) := by decide +kernel
theorem dX0_tryFrom_56 : decode cX0_tryFrom 56 = .ok (.invokestatic 213, 3) := by decide +kernel
theorem dX0_tryFrom_59 : decode cX0_tryFrom 59 = .ok (.ifCond .eq 31, 3) := by decide +kernel
theorem dX0_tryFrom_62 : decode cX0_tryFrom 62 = .ok (.aload_n 3, 1) := by decide +kernel
theorem dX0_tryFrom_63 : decode cX0_tryFrom 63 = .ok (.iload_n 0, 1) := by decide +kernel
theorem dX0_tryFrom_64 : decode cX0_tryFrom 64 = .ok (.iload 6, 2) := by decide +kernel
theorem dX0_tryFrom_66 : decode cX0_tryFrom 66 = .ok (.iastore, 1) := by decide +kernel
theorem dX0_tryFrom_67 : decode cX0_tryFrom 67 = .ok (.iload_n 0, 1) := by decide +kernel
theorem dX0_tryFrom_68 : decode cX0_tryFrom 68 = .ok (.iconst 1, 1) := by decide +kernel
theorem dX0_tryFrom_69 : decode cX0_tryFrom 69 = .ok (.iadd, 1) := by decide +kernel
theorem dX0_tryFrom_70 : decode cX0_tryFrom 70 = .ok (.aload_n 1, 1) := by decide +kernel
theorem dX0_tryFrom_71 : decode cX0_tryFrom 71 = .ok (.iload_n 2, 1) := by decide +kernel
theorem dX0_tryFrom_72 : decode cX0_tryFrom 72 = .ok (.aload_n 3, 1) := by decide +kernel
theorem dX0_tryFrom_73 : decode cX0_tryFrom 73 = .ok (.iload 4, 2) := by decide +kernel
theorem dX0_tryFrom_75 : decode cX0_tryFrom 75 = .ok (.iload 6, 2) := by decide +kernel
theorem dX0_tryFrom_77 : decode cX0_tryFrom 77 = .ok (.invokestatic 92, 3) := by decide +kernel
theorem dX0_tryFrom_80 : decode cX0_tryFrom 80 = .ok (.iload 5, 2) := by decide +kernel
theorem dX0_tryFrom_82 : decode cX0_tryFrom 82 = .ok (.invokestatic 209, 3) := by decide +kernel
theorem dX0_tryFrom_85 : decode cX0_tryFrom 85 = .ok (.ifCond .eq 5, 3) := by decide +kernel
theorem dX0_tryFrom_88 : decode cX0_tryFrom 88 = .ok (.iconst 1, 1) := by decide +kernel
theorem dX0_tryFrom_89 : decode cX0_tryFrom 89 = .ok (.ireturn, 1) := by decide +kernel
theorem dX0_tryFrom_90 : decode cX0_tryFrom 90 = .ok (.iinc 6 1, 3) := by decide +kernel
theorem dX0_tryFrom_93 : decode cX0_tryFrom 93 = .ok (.goto (-60), 3) := by decide +kernel
theorem dX0_tryFrom_96 : decode cX0_tryFrom 96 = .ok (.iconst 0, 1) := by decide +kernel
theorem dX0_tryFrom_97 : decode cX0_tryFrom 97 = .ok (.ireturn, 1) := by decide +kernel
set_option maxRecDepth 20000 in
theorem ggX0_isFreeIn_X0_has : GoodIn wsX0_isFreeIn wsX0_has := goodIn_r _ [4] (by decide +kernel) (by decide +kernel)
set_option maxRecDepth 20000 in
theorem gX0_isFreeIn_X0_has : GoodIn wsX0_isFreeIn (va_wsS RX0 140 yX0_has wsX0_has) := goodIn_app (goodIn_of _ (by decide +kernel)) ggX0_isFreeIn_X0_has
theorem dX0_isFreeIn_0 : decode cX0_isFreeIn 0 = .ok (.iconst 0, 1) := by decide +kernel
theorem dX0_isFreeIn_1 : decode cX0_isFreeIn 1 = .ok (.istore 4, 2) := by decide +kernel
theorem dX0_isFreeIn_3 : decode cX0_isFreeIn 3 = .ok (.iload 4, 2) := by decide +kernel
theorem dX0_isFreeIn_5 : decode cX0_isFreeIn 5 = .ok (.iload_n 1, 1) := by decide +kernel
theorem dX0_isFreeIn_6 : decode cX0_isFreeIn 6 = .ok (.if_icmp .ge 28, 3) := by decide +kernel
theorem dX0_isFreeIn_9 : decode cX0_isFreeIn 9 = .ok (.iload_n 2, 1) := by decide +kernel
theorem dX0_isFreeIn_10 : decode cX0_isFreeIn 10 = .ok (.iload 4, 2) := by decide +kernel
theorem dX0_isFreeIn_12 : decode cX0_isFreeIn 12 = .ok (.invokestatic 140, 3) := by decide +kernel
theorem dX0_isFreeIn_15 : decode cX0_isFreeIn 15 = .ok (.ifCond .eq 13, 3) := by decide +kernel
theorem dX0_isFreeIn_18 : decode cX0_isFreeIn 18 = .ok (.aload_n 0, 1) := by decide +kernel
theorem dX0_isFreeIn_19 : decode cX0_isFreeIn 19 = .ok (.iload 4, 2) := by decide +kernel
theorem dX0_isFreeIn_21 : decode cX0_isFreeIn 21 = .ok (.iaload, 1) := by decide +kernel
theorem dX0_isFreeIn_22 : decode cX0_isFreeIn 22 = .ok (.iload_n 3, 1) := by decide +kernel
theorem dX0_isFreeIn_23 : decode cX0_isFreeIn 23 = .ok (.if_icmp .ne 5, 3) := by decide +kernel
theorem dX0_isFreeIn_26 : decode cX0_isFreeIn 26 = .ok (.iconst 0, 1) := by decide +kernel
theorem dX0_isFreeIn_27 : decode cX0_isFreeIn 27 = .ok (.ireturn, 1) := by decide +kernel
theorem dX0_isFreeIn_28 : decode cX0_isFreeIn 28 = .ok (.iinc 4 1, 3) := by decide +kernel
theorem dX0_isFreeIn_31 : decode cX0_isFreeIn 31 = .ok (.goto (-28), 3) := by decide +kernel
theorem dX0_isFreeIn_34 : decode cX0_isFreeIn 34 = .ok (.iconst 1, 1) := by decide +kernel
theorem dX0_isFreeIn_35 : decode cX0_isFreeIn 35 = .ok (.ireturn, 1) := by decide +kernel
set_option maxRecDepth 20000 in
theorem ggX0_shareOutOneSet_X0_shareOutFrom : GoodIn wsX0_shareOutOneSet wsX0_shareOutFrom := goodIn_r _ [6, 7, 1, 8, 9, 10, 11, 12, 13, 14, 15] (by decide +kernel) (by decide +kernel)
set_option maxRecDepth 20000 in
theorem gX0_shareOutOneSet_X0_shareOutFrom : GoodIn wsX0_shareOutOneSet (wsV RX0 217 RX0 yX0_shareOutFrom wsX0_shareOutFrom) := goodIn_app (goodIn_of _ (by decide +kernel)) ggX0_shareOutOneSet_X0_shareOutFrom
theorem dX0_shareOutOneSet_0 : decode cX0_shareOutOneSet 0 = .ok (.aload_n 0, 1) := by decide +kernel
theorem dX0_shareOutOneSet_1 : decode cX0_shareOutOneSet 1 = .ok (.getfield 31, 3) := by decide +kernel
theorem dX0_shareOutOneSet_4 : decode cX0_shareOutOneSet 4 = .ok (.iconst 0, 1) := by decide +kernel
theorem dX0_shareOutOneSet_5 : decode cX0_shareOutOneSet 5 = .ok (.lconst 0, 1) := by decide +kernel
theorem dX0_shareOutOneSet_6 : decode cX0_shareOutOneSet 6 = .ok (.lastore, 1) := by decide +kernel
theorem dX0_shareOutOneSet_7 : decode cX0_shareOutOneSet 7 = .ok (.iconst 1, 1) := by decide +kernel
theorem dX0_shareOutOneSet_8 : decode cX0_shareOutOneSet 8 = .ok (.istore_n 1, 1) := by decide +kernel
theorem dX0_shareOutOneSet_9 : decode cX0_shareOutOneSet 9 = .ok (.iload_n 1, 1) := by decide +kernel
theorem dX0_shareOutOneSet_10 : decode cX0_shareOutOneSet 10 = .ok (.sipush 1024, 3) := by decide +kernel
theorem dX0_shareOutOneSet_13 : decode cX0_shareOutOneSet 13 = .ok (.if_icmp .ge 35, 3) := by decide +kernel
theorem dX0_shareOutOneSet_16 : decode cX0_shareOutOneSet 16 = .ok (.aload_n 0, 1) := by decide +kernel
theorem dX0_shareOutOneSet_17 : decode cX0_shareOutOneSet 17 = .ok (.getfield 31, 3) := by decide +kernel
theorem dX0_shareOutOneSet_20 : decode cX0_shareOutOneSet 20 = .ok (.iload_n 1, 1) := by decide +kernel
theorem dX0_shareOutOneSet_21 : decode cX0_shareOutOneSet 21 = .ok (.laload, 1) := by decide +kernel
theorem dX0_shareOutOneSet_22 : decode cX0_shareOutOneSet 22 = .ok (.lstore_n 2, 1) := by decide +kernel
theorem dX0_shareOutOneSet_23 : decode cX0_shareOutOneSet 23 = .ok (.lload_n 2, 1) := by decide +kernel
theorem dX0_shareOutOneSet_24 : decode cX0_shareOutOneSet 24 = .ok (.lconst 0, 1) := by decide +kernel
theorem dX0_shareOutOneSet_25 : decode cX0_shareOutOneSet 25 = .ok (.lcmp, 1) := by decide +kernel
theorem dX0_shareOutOneSet_26 : decode cX0_shareOutOneSet 26 = .ok (.ifCond .eq 16, 3) := by decide +kernel
theorem dX0_shareOutOneSet_29 : decode cX0_shareOutOneSet 29 = .ok (.aload_n 0, 1) := by decide +kernel
theorem dX0_shareOutOneSet_30 : decode cX0_shareOutOneSet 30 = .ok (.getfield 31, 3) := by decide +kernel
theorem dX0_shareOutOneSet_33 : decode cX0_shareOutOneSet 33 = .ok (.iload_n 1, 1) := by decide +kernel
theorem dX0_shareOutOneSet_34 : decode cX0_shareOutOneSet 34 = .ok (.lconst 0, 1) := by decide +kernel
theorem dX0_shareOutOneSet_35 : decode cX0_shareOutOneSet 35 = .ok (.lastore, 1) := by decide +kernel
theorem dX0_shareOutOneSet_36 : decode cX0_shareOutOneSet 36 = .ok (.aload_n 0, 1) := by decide +kernel
theorem dX0_shareOutOneSet_37 : decode cX0_shareOutOneSet 37 = .ok (.iload_n 1, 1) := by decide +kernel
theorem dX0_shareOutOneSet_38 : decode cX0_shareOutOneSet 38 = .ok (.lload_n 2, 1) := by decide +kernel
theorem dX0_shareOutOneSet_39 : decode cX0_shareOutOneSet 39 = .ok (.invokevirtual 217, 3) := by decide +kernel
theorem dX0_shareOutOneSet_42 : decode cX0_shareOutOneSet 42 = .ok (.iinc 1 1, 3) := by decide +kernel
theorem dX0_shareOutOneSet_45 : decode cX0_shareOutOneSet 45 = .ok (.goto (-36), 3) := by decide +kernel
theorem dX0_shareOutOneSet_48 : decode cX0_shareOutOneSet 48 = .ok (.return_, 1) := by decide +kernel
theorem dX0_shareOutFrom_0 : decode cX0_shareOutFrom 0 = .ok (.iload_n 1, 1) := by decide +kernel
theorem dX0_shareOutFrom_1 : decode cX0_shareOutFrom 1 = .ok (.iload_n 1, 1) := by decide +kernel
theorem dX0_shareOutFrom_2 : decode cX0_shareOutFrom 2 = .ok (.ineg, 1) := by decide +kernel
theorem dX0_shareOutFrom_3 : decode cX0_shareOutFrom 3 = .ok (.iand, 1) := by decide +kernel
theorem dX0_shareOutFrom_4 : decode cX0_shareOutFrom 4 = .ok (.istore 4, 2) := by decide +kernel
theorem dX0_shareOutFrom_6 : decode cX0_shareOutFrom 6 = .ok (.iload_n 1, 1) := by decide +kernel
theorem dX0_shareOutFrom_7 : decode cX0_shareOutFrom 7 = .ok (.iload 4, 2) := by decide +kernel
theorem dX0_shareOutFrom_9 : decode cX0_shareOutFrom 9 = .ok (.iconst (-1), 1) := by decide +kernel
theorem dX0_shareOutFrom_10 : decode cX0_shareOutFrom 10 = .ok (.ixor, 1) := by decide +kernel
theorem dX0_shareOutFrom_11 : decode cX0_shareOutFrom 11 = .ok (.iand, 1) := by decide +kernel
theorem dX0_shareOutFrom_12 : decode cX0_shareOutFrom 12 = .ok (.istore 5, 2) := by decide +kernel
theorem dX0_shareOutFrom_14 : decode cX0_shareOutFrom 14 = .ok (.iload 5, 2) := by decide +kernel
theorem dX0_shareOutFrom_16 : decode cX0_shareOutFrom 16 = .ok (.istore 6, 2) := by decide +kernel
theorem dX0_shareOutFrom_18 : decode cX0_shareOutFrom 18 = .ok (.iconst 0, 1) := by decide +kernel
theorem dX0_shareOutFrom_19 : decode cX0_shareOutFrom 19 = .ok (.istore 7, 2) := by decide +kernel
theorem dX0_shareOutFrom_21 : decode cX0_shareOutFrom 21 = .ok (.iload 7, 2) := by decide +kernel
theorem dX0_shareOutFrom_23 : decode cX0_shareOutFrom 23 = .ok (.sipush 1024, 3) := by decide +kernel
theorem dX0_shareOutFrom_26 : decode cX0_shareOutFrom 26 = .ok (.if_icmp .ge 53, 3) := by decide +kernel
theorem dX0_shareOutFrom_29 : decode cX0_shareOutFrom 29 = .ok (.aload_n 0, 1) := by decide +kernel
theorem dX0_shareOutFrom_30 : decode cX0_shareOutFrom 30 = .ok (.getfield 27, 3) := by decide +kernel
theorem dX0_shareOutFrom_33 : decode cX0_shareOutFrom 33 = .ok (.iload 4, 2) := by decide +kernel
theorem dX0_shareOutFrom_35 : decode cX0_shareOutFrom 35 = .ok (.iload 6, 2) := by decide +kernel
theorem dX0_shareOutFrom_37 : decode cX0_shareOutFrom 37 = .ok (.ior, 1) := by decide +kernel
theorem dX0_shareOutFrom_38 : decode cX0_shareOutFrom 38 = .ok (.baload, 1) := by decide +kernel
theorem dX0_shareOutFrom_39 : decode cX0_shareOutFrom 39 = .ok (.ifCond .eq 19, 3) := by decide +kernel
theorem dX0_shareOutFrom_42 : decode cX0_shareOutFrom 42 = .ok (.aload_n 0, 1) := by decide +kernel
theorem dX0_shareOutFrom_43 : decode cX0_shareOutFrom 43 = .ok (.getfield 31, 3) := by decide +kernel
theorem dX0_shareOutFrom_46 : decode cX0_shareOutFrom 46 = .ok (.iload 5, 2) := by decide +kernel
theorem dX0_shareOutFrom_48 : decode cX0_shareOutFrom 48 = .ok (.iload 6, 2) := by decide +kernel
theorem dX0_shareOutFrom_50 : decode cX0_shareOutFrom 50 = .ok (.iconst (-1), 1) := by decide +kernel
theorem dX0_shareOutFrom_51 : decode cX0_shareOutFrom 51 = .ok (.ixor, 1) := by decide +kernel
theorem dX0_shareOutFrom_52 : decode cX0_shareOutFrom 52 = .ok (.iand, 1) := by decide +kernel
theorem dX0_shareOutFrom_53 : decode cX0_shareOutFrom 53 = .ok (.dup2, 1) := by decide +kernel
theorem dX0_shareOutFrom_54 : decode cX0_shareOutFrom 54 = .ok (.laload, 1) := by decide +kernel
theorem dX0_shareOutFrom_55 : decode cX0_shareOutFrom 55 = .ok (.lload_n 2, 1) := by decide +kernel
theorem dX0_shareOutFrom_56 : decode cX0_shareOutFrom 56 = .ok (.ladd, 1) := by decide +kernel
theorem dX0_shareOutFrom_57 : decode cX0_shareOutFrom 57 = .ok (.lastore, 1) := by decide +kernel
theorem dX0_shareOutFrom_58 : decode cX0_shareOutFrom 58 = .ok (.iload 6, 2) := by decide +kernel
theorem dX0_shareOutFrom_60 : decode cX0_shareOutFrom 60 = .ok (.ifCond .ne 4, 3) := by decide +kernel
theorem dX0_shareOutFrom_63 : decode cX0_shareOutFrom 63 = .ok (.return_, 1) := by decide +kernel
theorem dX0_shareOutFrom_64 : decode cX0_shareOutFrom 64 = .ok (.iload 6, 2) := by decide +kernel
theorem dX0_shareOutFrom_66 : decode cX0_shareOutFrom 66 = .ok (.iconst 1, 1) := by decide +kernel
theorem dX0_shareOutFrom_67 : decode cX0_shareOutFrom 67 = .ok (.isub, 1) := by decide +kernel
theorem dX0_shareOutFrom_68 : decode cX0_shareOutFrom 68 = .ok (.iload 5, 2) := by decide +kernel
theorem dX0_shareOutFrom_70 : decode cX0_shareOutFrom 70 = .ok (.iand, 1) := by decide +kernel
theorem dX0_shareOutFrom_71 : decode cX0_shareOutFrom 71 = .ok (.istore 6, 2) := by decide +kernel
theorem dX0_shareOutFrom_73 : decode cX0_shareOutFrom 73 = .ok (.iinc 7 1, 3) := by decide +kernel
theorem dX0_shareOutFrom_76 : decode cX0_shareOutFrom 76 = .ok (.goto (-55), 3) := by decide +kernel
theorem dX0_shareOutFrom_79 : decode cX0_shareOutFrom 79 = .ok (.return_, 1) := by decide +kernel
set_option maxRecDepth 20000 in
theorem ggX0_countByPairs_X0_oneToTintLast : GoodIn wsX0_countByPairs wsX0_oneToTintLast := goodIn_r _ [4, 5, 6, 3, 7, 8, 9, 10] (by decide +kernel) (by decide +kernel)
set_option maxRecDepth 20000 in
theorem gX0_countByPairs_X0_oneToTintLast : GoodIn wsX0_countByPairs (va_wsS RX0 221 yX0_oneToTintLast wsX0_oneToTintLast) := goodIn_app (goodIn_of _ (by decide +kernel)) ggX0_countByPairs_X0_oneToTintLast
set_option maxRecDepth 20000 in
theorem ggX0_countByPairs_J6_bitCount_0f7a4 : GoodIn wsX0_countByPairs wsJ6_bitCount_0f7a4 := goodIn_r _ [14, 15, 16, 17] (by decide +kernel) (by decide +kernel)
set_option maxRecDepth 20000 in
theorem gX0_countByPairs_J6_bitCount_0f7a4 : GoodIn wsX0_countByPairs (va_wsS RX0 77 yJ6_bitCount_0f7a4 wsJ6_bitCount_0f7a4) := goodIn_app (goodIn_of _ (by decide +kernel)) ggX0_countByPairs_J6_bitCount_0f7a4
set_option maxRecDepth 20000 in
theorem ggX0_countByPairs_X0_firstWithStranger : GoodIn wsX0_countByPairs wsX0_firstWithStranger := goodIn_r _ [20, 5, 6, 3, 7] (by decide +kernel) (by decide +kernel)
set_option maxRecDepth 20000 in
theorem gX0_countByPairs_X0_firstWithStranger : GoodIn wsX0_countByPairs (va_wsS RX0 225 yX0_firstWithStranger wsX0_firstWithStranger) := goodIn_app (goodIn_of _ (by decide +kernel)) ggX0_countByPairs_X0_firstWithStranger
set_option maxRecDepth 20000 in
theorem ggX0_countByPairs_X0_firstOf : GoodIn wsX0_countByPairs wsX0_firstOf := goodIn_r _ [23, 5, 6, 3, 7] (by decide +kernel) (by decide +kernel)
set_option maxRecDepth 20000 in
theorem gX0_countByPairs_X0_firstOf : GoodIn wsX0_countByPairs (va_wsS RX0 228 yX0_firstOf wsX0_firstOf) := goodIn_app (goodIn_of _ (by decide +kernel)) ggX0_countByPairs_X0_firstOf
set_option maxRecDepth 20000 in
theorem ggX0_countByPairs_X0_makeOne : GoodIn wsX0_countByPairs wsX0_makeOne := goodIn_r _ [26, 5, 6, 3, 7] (by decide +kernel) (by decide +kernel)
set_option maxRecDepth 20000 in
theorem gX0_countByPairs_X0_makeOne : GoodIn wsX0_countByPairs (va_wsS RX0 231 yX0_makeOne wsX0_makeOne) := goodIn_app (goodIn_of _ (by decide +kernel)) ggX0_countByPairs_X0_makeOne
set_option maxRecDepth 20000 in
theorem ggX0_countByPairs_X0_countByPairs : GoodIn wsX0_countByPairs wsX0_countByPairs := goodIn_r _ [0, 1, 2, 3, 4, 5, 6, 7, 8, 9, 10, 11, 12, 13, 14, 15, 16, 17, 18, 19, 20, 21, 22, 23, 24, 25, 26, 27, 28] (by decide +kernel) (by decide +kernel)
set_option maxRecDepth 20000 in
theorem gX0_countByPairs_X0_countByPairs : GoodIn wsX0_countByPairs (va_wsS RX0 174 yX0_countByPairs wsX0_countByPairs) := goodIn_app (goodIn_of _ (by decide +kernel)) ggX0_countByPairs_X0_countByPairs
theorem dX0_countByPairs_0 : decode cX0_countByPairs 0 = .ok (.iload_n 1, 1) := by decide +kernel
theorem dX0_countByPairs_1 : decode cX0_countByPairs 1 = .ok (.bipush 10, 2) := by decide +kernel
theorem dX0_countByPairs_3 : decode cX0_countByPairs 3 = .ok (.if_icmp .lt 5, 3) := by decide +kernel
theorem dX0_countByPairs_6 : decode cX0_countByPairs 6 = .ok (.lconst 0, 1) := by decide +kernel
theorem dX0_countByPairs_7 : decode cX0_countByPairs 7 = .ok (.lreturn, 1) := by decide +kernel
theorem dX0_countByPairs_8 : decode cX0_countByPairs 8 = .ok (.aload_n 0, 1) := by decide +kernel
theorem dX0_countByPairs_9 : decode cX0_countByPairs 9 = .ok (.iload_n 1, 1) := by decide +kernel
theorem dX0_countByPairs_10 : decode cX0_countByPairs 10 = .ok (.aaload, 1) := by decide +kernel
theorem dX0_countByPairs_11 : decode cX0_countByPairs 11 = .ok (.astore 4, 2) := by decide +kernel
theorem dX0_countByPairs_13 : decode cX0_countByPairs 13 = .ok (.iload_n 2, 1) := by decide +kernel
theorem dX0_countByPairs_14 : decode cX0_countByPairs 14 = .ok (.istore 5, 2) := by decide +kernel
theorem dX0_countByPairs_16 : decode cX0_countByPairs 16 = .ok (.lconst 0, 1) := by decide +kernel
theorem dX0_countByPairs_17 : decode cX0_countByPairs 17 = .ok (.lstore 6, 2) := by decide +kernel
theorem dX0_countByPairs_19 : decode cX0_countByPairs 19 = .ok (.lconst 1, 1) := by decide +kernel
theorem dX0_countByPairs_20 : decode cX0_countByPairs 20 = .ok (.lstore 8, 2) := by decide +kernel
theorem dX0_countByPairs_22 : decode cX0_countByPairs 22 = .ok (.iconst 0, 1) := by decide +kernel
theorem dX0_countByPairs_23 : decode cX0_countByPairs 23 = .ok (.istore 10, 2) := by decide +kernel
theorem dX0_countByPairs_25 : decode cX0_countByPairs 25 = .ok (.iload 10, 2) := by decide +kernel
theorem dX0_countByPairs_27 : decode cX0_countByPairs 27 = .ok (.bipush 55, 2) := by decide +kernel
theorem dX0_countByPairs_29 : decode cX0_countByPairs 29 = .ok (.if_icmp .ge 164, 3) := by decide +kernel
theorem dX0_countByPairs_32 : decode cX0_countByPairs 32 = .ok (.iload 5, 2) := by decide +kernel
theorem dX0_countByPairs_34 : decode cX0_countByPairs 34 = .ok (.ifCond .eq 159, 3) := by decide +kernel
theorem dX0_countByPairs_37 : decode cX0_countByPairs 37 = .ok (.aload 4, 2) := by decide +kernel
theorem dX0_countByPairs_39 : decode cX0_countByPairs 39 = .ok (.iload 5, 2) := by decide +kernel
theorem dX0_countByPairs_41 : decode cX0_countByPairs 41 = .ok (.invokestatic 221, 3) := by decide +kernel
theorem dX0_countByPairs_44 : decode cX0_countByPairs 44 = .ok (.istore 11, 2) := by decide +kernel
theorem dX0_countByPairs_46 : decode cX0_countByPairs 46 = .ok (.iload 11, 2) := by decide +kernel
theorem dX0_countByPairs_48 : decode cX0_countByPairs 48 = .ok (.iconst (-1), 1) := by decide +kernel
theorem dX0_countByPairs_49 : decode cX0_countByPairs 49 = .ok (.if_icmp .eq 36, 3) := by decide +kernel
theorem dX0_countByPairs_52 : decode cX0_countByPairs 52 = .ok (.lload 8, 2) := by decide +kernel
theorem dX0_countByPairs_54 : decode cX0_countByPairs 54 = .ok (.iload_n 3, 1) := by decide +kernel
theorem dX0_countByPairs_55 : decode cX0_countByPairs 55 = .ok (.aload 4, 2) := by decide +kernel
theorem dX0_countByPairs_57 : decode cX0_countByPairs 57 = .ok (.iload 11, 2) := by decide +kernel
theorem dX0_countByPairs_59 : decode cX0_countByPairs 59 = .ok (.iaload, 1) := by decide +kernel
theorem dX0_countByPairs_60 : decode cX0_countByPairs 60 = .ok (.iload 5, 2) := by decide +kernel
theorem dX0_countByPairs_62 : decode cX0_countByPairs 62 = .ok (.iand, 1) := by decide +kernel
theorem dX0_countByPairs_63 : decode cX0_countByPairs 63 = .ok (.invokestatic 77, 3) := by decide +kernel
theorem dX0_countByPairs_66 : decode cX0_countByPairs 66 = .ok (.isub, 1) := by decide +kernel
theorem dX0_countByPairs_67 : decode cX0_countByPairs 67 = .ok (.i2l, 1) := by decide +kernel
theorem dX0_countByPairs_68 : decode cX0_countByPairs 68 = .ok (.lmul, 1) := by decide +kernel
theorem dX0_countByPairs_69 : decode cX0_countByPairs 69 = .ok (.lstore 8, 2) := by decide +kernel
theorem dX0_countByPairs_71 : decode cX0_countByPairs 71 = .ok (.iload 5, 2) := by decide +kernel
theorem dX0_countByPairs_73 : decode cX0_countByPairs 73 = .ok (.iconst 1, 1) := by decide +kernel
theorem dX0_countByPairs_74 : decode cX0_countByPairs 74 = .ok (.iload 11, 2) := by decide +kernel
theorem dX0_countByPairs_76 : decode cX0_countByPairs 76 = .ok (.ishl, 1) := by decide +kernel
theorem dX0_countByPairs_77 : decode cX0_countByPairs 77 = .ok (.iconst (-1), 1) := by decide +kernel
theorem dX0_countByPairs_78 : decode cX0_countByPairs 78 = .ok (.ixor, 1) := by decide +kernel
theorem dX0_countByPairs_79 : decode cX0_countByPairs 79 = .ok (.iand, 1) := by decide +kernel
theorem dX0_countByPairs_80 : decode cX0_countByPairs 80 = .ok (.istore 5, 2) := by decide +kernel
theorem dX0_countByPairs_82 : decode cX0_countByPairs 82 = .ok (.goto 105, 3) := by decide +kernel
theorem dX0_countByPairs_85 : decode cX0_countByPairs 85 = .ok (.aload 4, 2) := by decide +kernel
theorem dX0_countByPairs_87 : decode cX0_countByPairs 87 = .ok (.iload 5, 2) := by decide +kernel
theorem dX0_countByPairs_89 : decode cX0_countByPairs 89 = .ok (.invokestatic 225, 3) := by decide +kernel
theorem dX0_countByPairs_92 : decode cX0_countByPairs 92 = .ok (.istore 12, 2) := by decide +kernel
theorem dX0_countByPairs_94 : decode cX0_countByPairs 94 = .ok (.iload 5, 2) := by decide +kernel
theorem dX0_countByPairs_96 : decode cX0_countByPairs 96 = .ok (.aload 4, 2) := by decide +kernel
theorem dX0_countByPairs_98 : decode cX0_countByPairs 98 = .ok (.iload 12, 2) := by decide +kernel
theorem dX0_countByPairs_100 : decode cX0_countByPairs 100 = .ok (.iaload, 1) := by decide +kernel
theorem dX0_countByPairs_101 : decode cX0_countByPairs 101 = .ok (.iconst (-1), 1) := by decide +kernel
theorem dX0_countByPairs_102 : decode cX0_countByPairs 102 = .ok (.ixor, 1) := by decide +kernel
theorem dX0_countByPairs_103 : decode cX0_countByPairs 103 = .ok (.iand, 1) := by decide +kernel
theorem dX0_countByPairs_104 : decode cX0_countByPairs 104 = .ok (.iconst 1, 1) := by decide +kernel
theorem dX0_countByPairs_105 : decode cX0_countByPairs 105 = .ok (.iload 12, 2) := by decide +kernel
theorem dX0_countByPairs_107 : decode cX0_countByPairs 107 = .ok (.ishl, 1) := by decide +kernel
theorem dX0_countByPairs_108 : decode cX0_countByPairs 108 = .ok (.iconst (-1), 1) := by decide +kernel
theorem dX0_countByPairs_109 : decode cX0_countByPairs 109 = .ok (.ixor, 1) := by decide +kernel
theorem dX0_countByPairs_110 : decode cX0_countByPairs 110 = .ok (.iand, 1) := by decide +kernel
theorem dX0_countByPairs_111 : decode cX0_countByPairs 111 = .ok (.invokestatic 228, 3) := by decide +kernel
theorem dX0_countByPairs_114 : decode cX0_countByPairs 114 = .ok (.istore 13, 2) := by decide +kernel
theorem dX0_countByPairs_116 : decode cX0_countByPairs 116 = .ok (.iload_n 1, 1) := by decide +kernel
theorem dX0_countByPairs_117 : decode cX0_countByPairs 117 = .ok (.iconst 1, 1) := by decide +kernel
theorem dX0_countByPairs_118 : decode cX0_countByPairs 118 = .ok (.iadd, 1) := by decide +kernel
theorem dX0_countByPairs_119 : decode cX0_countByPairs 119 = .ok (.bipush 10, 2) := by decide +kernel
theorem dX0_countByPairs_121 : decode cX0_countByPairs 121 = .ok (.if_icmp .ge 42, 3) := by decide +kernel
theorem dX0_countByPairs_124 : decode cX0_countByPairs 124 = .ok (.aload 4, 2) := by decide +kernel
theorem dX0_countByPairs_126 : decode cX0_countByPairs 126 = .ok (.aload_n 0, 1) := by decide +kernel
theorem dX0_countByPairs_127 : decode cX0_countByPairs 127 = .ok (.iload_n 1, 1) := by decide +kernel
theorem dX0_countByPairs_128 : decode cX0_countByPairs 128 = .ok (.iconst 1, 1) := by decide +kernel
theorem dX0_countByPairs_129 : decode cX0_countByPairs 129 = .ok (.iadd, 1) := by decide +kernel
theorem dX0_countByPairs_130 : decode cX0_countByPairs 130 = .ok (.aaload, 1) := by decide +kernel
theorem dX0_countByPairs_131 : decode cX0_countByPairs 131 = .ok (.iload 12, 2) := by decide +kernel
theorem dX0_countByPairs_133 : decode cX0_countByPairs 133 = .ok (.iload 13, 2) := by decide +kernel
theorem dX0_countByPairs_135 : decode cX0_countByPairs 135 = .ok (.invokestatic 231, 3) := by decide +kernel
theorem dX0_countByPairs_138 : decode cX0_countByPairs 138 = .ok (.lload 6, 2) := by decide +kernel
theorem dX0_countByPairs_140 : decode cX0_countByPairs 140 = .ok (.lload 8, 2) := by decide +kernel
theorem dX0_countByPairs_142 : decode cX0_countByPairs 142 = .ok (.aload_n 0, 1) := by decide +kernel
theorem dX0_countByPairs_143 : decode cX0_countByPairs 143 = .ok (.iload_n 1, 1) := by decide +kernel
theorem dX0_countByPairs_144 : decode cX0_countByPairs 144 = .ok (.iconst 1, 1) := by decide +kernel
theorem dX0_countByPairs_145 : decode cX0_countByPairs 145 = .ok (.iadd, 1) := by decide +kernel
theorem dX0_countByPairs_146 : decode cX0_countByPairs 146 = .ok (.iload 5, 2) := by decide +kernel
theorem dX0_countByPairs_148 : decode cX0_countByPairs 148 = .ok (.iconst 1, 1) := by decide +kernel
theorem dX0_countByPairs_149 : decode cX0_countByPairs 149 = .ok (.iload 13, 2) := by decide +kernel
theorem dX0_countByPairs_151 : decode cX0_countByPairs 151 = .ok (.ishl, 1) := by decide +kernel
theorem dX0_countByPairs_152 : decode cX0_countByPairs 152 = .ok (.iconst (-1), 1) := by decide +kernel
theorem dX0_countByPairs_153 : decode cX0_countByPairs 153 = .ok (.ixor, 1) := by decide +kernel
theorem dX0_countByPairs_154 : decode cX0_countByPairs 154 = .ok (.iand, 1) := by decide +kernel
theorem dX0_countByPairs_155 : decode cX0_countByPairs 155 = .ok (.iload_n 3, 1) := by decide +kernel
theorem dX0_countByPairs_156 : decode cX0_countByPairs 156 = .ok (.invokestatic 174, 3) := by decide +kernel
theorem dX0_countByPairs_159 : decode cX0_countByPairs 159 = .ok (.lmul, 1) := by decide +kernel
theorem dX0_countByPairs_160 : decode cX0_countByPairs 160 = .ok (.ladd, 1) := by decide +kernel
theorem dX0_countByPairs_161 : decode cX0_countByPairs 161 = .ok (.lstore 6, 2) := by decide +kernel
theorem dX0_countByPairs_163 : decode cX0_countByPairs 163 = .ok (.aload 4, 2) := by decide +kernel
theorem dX0_countByPairs_165 : decode cX0_countByPairs 165 = .ok (.iload 12, 2) := by decide +kernel
theorem dX0_countByPairs_167 : decode cX0_countByPairs 167 = .ok (.dup2, 1) := by decide +kernel
theorem dX0_countByPairs_168 : decode cX0_countByPairs 168 = .ok (.iaload, 1) := by decide +kernel
theorem dX0_countByPairs_169 : decode cX0_countByPairs 169 = .ok (.iconst 1, 1) := by decide +kernel
theorem dX0_countByPairs_170 : decode cX0_countByPairs 170 = .ok (.iload 13, 2) := by decide +kernel
theorem dX0_countByPairs_172 : decode cX0_countByPairs 172 = .ok (.ishl, 1) := by decide +kernel
theorem dX0_countByPairs_173 : decode cX0_countByPairs 173 = .ok (.ior, 1) := by decide +kernel
theorem dX0_countByPairs_174 : decode cX0_countByPairs 174 = .ok (.iastore, 1) := by decide +kernel
theorem dX0_countByPairs_175 : decode cX0_countByPairs 175 = .ok (.aload 4, 2) := by decide +kernel
theorem dX0_countByPairs_177 : decode cX0_countByPairs 177 = .ok (.iload 13, 2) := by decide +kernel
theorem dX0_countByPairs_179 : decode cX0_countByPairs 179 = .ok (.dup2, 1) := by decide +kernel
theorem dX0_countByPairs_180 : decode cX0_countByPairs 180 = .ok (.iaload, 1) := by decide +kernel
theorem dX0_countByPairs_181 : decode cX0_countByPairs 181 = .ok (.iconst 1, 1) := by decide +kernel
theorem dX0_countByPairs_182 : decode cX0_countByPairs 182 = .ok (.iload 12, 2) := by decide +kernel
theorem dX0_countByPairs_184 : decode cX0_countByPairs 184 = .ok (.ishl, 1) := by decide +kernel
theorem dX0_countByPairs_185 : decode cX0_countByPairs 185 = .ok (.ior, 1) := by decide +kernel
theorem dX0_countByPairs_186 : decode cX0_countByPairs 186 = .ok (.iastore, 1) := by decide +kernel
theorem dX0_countByPairs_187 : decode cX0_countByPairs 187 = .ok (.iinc 10 1, 3) := by decide +kernel
theorem dX0_countByPairs_190 : decode cX0_countByPairs 190 = .ok (.goto (-165), 3) := by decide +kernel
theorem dX0_countByPairs_193 : decode cX0_countByPairs 193 = .ok (.lload 6, 2) := by decide +kernel
theorem dX0_countByPairs_195 : decode cX0_countByPairs 195 = .ok (.lload 8, 2) := by decide +kernel
theorem dX0_countByPairs_197 : decode cX0_countByPairs 197 = .ok (.ladd, 1) := by decide +kernel
theorem dX0_countByPairs_198 : decode cX0_countByPairs 198 = .ok (.lreturn, 1) := by decide +kernel
set_option maxRecDepth 20000 in
theorem ggX0_oneToTintLast_X0_has : GoodIn wsX0_oneToTintLast wsX0_has := goodIn_r _ [4] (by decide +kernel) (by decide +kernel)
set_option maxRecDepth 20000 in
theorem gX0_oneToTintLast_X0_has : GoodIn wsX0_oneToTintLast (va_wsS RX0 140 yX0_has wsX0_has) := goodIn_app (goodIn_of _ (by decide +kernel)) ggX0_oneToTintLast_X0_has
set_option maxRecDepth 20000 in
theorem ggX0_oneToTintLast_X0_areAllNeighbours : GoodIn wsX0_oneToTintLast wsX0_areAllNeighbours := goodIn_r _ [7, 1, 2, 3, 4] (by decide +kernel) (by decide +kernel)
set_option maxRecDepth 20000 in
theorem gX0_oneToTintLast_X0_areAllNeighbours : GoodIn wsX0_oneToTintLast (va_wsS RX0 235 yX0_areAllNeighbours wsX0_areAllNeighbours) := goodIn_app (goodIn_of _ (by decide +kernel)) ggX0_oneToTintLast_X0_areAllNeighbours
theorem dX0_oneToTintLast_0 : decode cX0_oneToTintLast 0 = .ok (.iconst 0, 1) := by decide +kernel
theorem dX0_oneToTintLast_1 : decode cX0_oneToTintLast 1 = .ok (.istore_n 2, 1) := by decide +kernel
theorem dX0_oneToTintLast_2 : decode cX0_oneToTintLast 2 = .ok (.iload_n 2, 1) := by decide +kernel
theorem dX0_oneToTintLast_3 : decode cX0_oneToTintLast 3 = .ok (.bipush 10, 2) := by decide +kernel
theorem dX0_oneToTintLast_5 : decode cX0_oneToTintLast 5 = .ok (.if_icmp .ge 31, 3) := by decide +kernel
theorem dX0_oneToTintLast_8 : decode cX0_oneToTintLast 8 = .ok (.iload_n 1, 1) := by decide +kernel
theorem dX0_oneToTintLast_9 : decode cX0_oneToTintLast 9 = .ok (.iload_n 2, 1) := by decide +kernel
theorem dX0_oneToTintLast_10 : decode cX0_oneToTintLast 10 = .ok (.invokestatic 140, 3) := by decide +kernel
theorem dX0_oneToTintLast_13 : decode cX0_oneToTintLast 13 = .ok (.ifCond .eq 17, 3) := by decide +kernel
theorem dX0_oneToTintLast_16 : decode cX0_oneToTintLast 16 = .ok (.aload_n 0, 1) := by decide +kernel
theorem dX0_oneToTintLast_17 : decode cX0_oneToTintLast 17 = .ok (.aload_n 0, 1) := by decide +kernel
theorem dX0_oneToTintLast_18 : decode cX0_oneToTintLast 18 = .ok (.iload_n 2, 1) := by decide +kernel
theorem dX0_oneToTintLast_19 : decode cX0_oneToTintLast 19 = .ok (.iaload, 1) := by decide +kernel
theorem dX0_oneToTintLast_20 : decode cX0_oneToTintLast 20 = .ok (.iload_n 1, 1) := by decide +kernel
theorem dX0_oneToTintLast_21 : decode cX0_oneToTintLast 21 = .ok (.iand, 1) := by decide +kernel
theorem dX0_oneToTintLast_22 : decode cX0_oneToTintLast 22 = .ok (.invokestatic 235, 3) := by decide +kernel
theorem dX0_oneToTintLast_25 : decode cX0_oneToTintLast 25 = .ok (.ifCond .eq 5, 3) := by decide +kernel
theorem dX0_oneToTintLast_28 : decode cX0_oneToTintLast 28 = .ok (.iload_n 2, 1) := by decide +kernel
theorem dX0_oneToTintLast_29 : decode cX0_oneToTintLast 29 = .ok (.ireturn, 1) := by decide +kernel
theorem dX0_oneToTintLast_30 : decode cX0_oneToTintLast 30 = .ok (.iinc 2 1, 3) := by decide +kernel
theorem dX0_oneToTintLast_33 : decode cX0_oneToTintLast 33 = .ok (.goto (-31), 3) := by decide +kernel
theorem dX0_oneToTintLast_36 : decode cX0_oneToTintLast 36 = .ok (.iconst (-1), 1) := by decide +kernel
theorem dX0_oneToTintLast_37 : decode cX0_oneToTintLast 37 = .ok (.ireturn, 1) := by decide +kernel
set_option maxRecDepth 20000 in
theorem ggX0_areAllNeighbours_X0_has : GoodIn wsX0_areAllNeighbours wsX0_has := goodIn_r _ [4] (by decide +kernel) (by decide +kernel)
set_option maxRecDepth 20000 in
theorem gX0_areAllNeighbours_X0_has : GoodIn wsX0_areAllNeighbours (va_wsS RX0 140 yX0_has wsX0_has) := goodIn_app (goodIn_of _ (by decide +kernel)) ggX0_areAllNeighbours_X0_has
theorem dX0_areAllNeighbours_0 : decode cX0_areAllNeighbours 0 = .ok (.iconst 0, 1) := by decide +kernel
theorem dX0_areAllNeighbours_1 : decode cX0_areAllNeighbours 1 = .ok (.istore_n 2, 1) := by decide +kernel
theorem dX0_areAllNeighbours_2 : decode cX0_areAllNeighbours 2 = .ok (.iload_n 2, 1) := by decide +kernel
theorem dX0_areAllNeighbours_3 : decode cX0_areAllNeighbours 3 = .ok (.bipush 10, 2) := by decide +kernel
theorem dX0_areAllNeighbours_5 : decode cX0_areAllNeighbours 5 = .ok (.if_icmp .ge 35, 3) := by decide +kernel
theorem dX0_areAllNeighbours_8 : decode cX0_areAllNeighbours 8 = .ok (.iload_n 1, 1) := by decide +kernel
theorem dX0_areAllNeighbours_9 : decode cX0_areAllNeighbours 9 = .ok (.iload_n 2, 1) := by decide +kernel
theorem dX0_areAllNeighbours_10 : decode cX0_areAllNeighbours 10 = .ok (.invokestatic 140, 3) := by decide +kernel
theorem dX0_areAllNeighbours_13 : decode cX0_areAllNeighbours 13 = .ok (.ifCond .eq 21, 3) := by decide +kernel
theorem dX0_areAllNeighbours_16 : decode cX0_areAllNeighbours 16 = .ok (.iload_n 1, 1) := by decide +kernel
theorem dX0_areAllNeighbours_17 : decode cX0_areAllNeighbours 17 = .ok (.aload_n 0, 1) := by decide +kernel
theorem dX0_areAllNeighbours_18 : decode cX0_areAllNeighbours 18 = .ok (.iload_n 2, 1) := by decide +kernel
theorem dX0_areAllNeighbours_19 : decode cX0_areAllNeighbours 19 = .ok (.iaload, 1) := by decide +kernel
theorem dX0_areAllNeighbours_20 : decode cX0_areAllNeighbours 20 = .ok (.iconst (-1), 1) := by decide +kernel
theorem dX0_areAllNeighbours_21 : decode cX0_areAllNeighbours 21 = .ok (.ixor, 1) := by decide +kernel
theorem dX0_areAllNeighbours_22 : decode cX0_areAllNeighbours 22 = .ok (.iand, 1) := by decide +kernel
theorem dX0_areAllNeighbours_23 : decode cX0_areAllNeighbours 23 = .ok (.iconst 1, 1) := by decide +kernel
theorem dX0_areAllNeighbours_24 : decode cX0_areAllNeighbours 24 = .ok (.iload_n 2, 1) := by decide +kernel
theorem dX0_areAllNeighbours_25 : decode cX0_areAllNeighbours 25 = .ok (.ishl, 1) := by decide +kernel
theorem dX0_areAllNeighbours_26 : decode cX0_areAllNeighbours 26 = .ok (.iconst (-1), 1) := by decide +kernel
theorem dX0_areAllNeighbours_27 : decode cX0_areAllNeighbours 27 = .ok (.ixor, 1) := by decide +kernel
theorem dX0_areAllNeighbours_28 : decode cX0_areAllNeighbours 28 = .ok (.iand, 1) := by decide +kernel
theorem dX0_areAllNeighbours_29 : decode cX0_areAllNeighbours 29 = .ok (.ifCond .eq 5, 3) := by decide +kernel
theorem dX0_areAllNeighbours_32 : decode cX0_areAllNeighbours 32 = .ok (.iconst 0, 1) := by decide +kernel
theorem dX0_areAllNeighbours_33 : decode cX0_areAllNeighbours 33 = .ok (.ireturn, 1) := by decide +kernel
theorem dX0_areAllNeighbours_34 : decode cX0_areAllNeighbours 34 = .ok (.iinc 2 1, 3) := by decide +kernel
theorem dX0_areAllNeighbours_37 : decode cX0_areAllNeighbours 37 = .ok (.goto (-35), 3) := by decide +kernel
theorem dX0_areAllNeighbours_40 : decode cX0_areAllNeighbours 40 = .ok (.iconst 1, 1) := by decide +kernel
theorem dX0_areAllNeighbours_41 : decode cX0_areAllNeighbours 41 = .ok (.ireturn, 1) := by decide +kernel
set_option maxRecDepth 20000 in
theorem ggX0_firstWithStranger_X0_has : GoodIn wsX0_firstWithStranger wsX0_has := goodIn_r _ [4] (by decide +kernel) (by decide +kernel)
set_option maxRecDepth 20000 in
theorem gX0_firstWithStranger_X0_has : GoodIn wsX0_firstWithStranger (va_wsS RX0 140 yX0_has wsX0_has) := goodIn_app (goodIn_of _ (by decide +kernel)) ggX0_firstWithStranger_X0_has
theorem dX0_firstWithStranger_0 : decode cX0_firstWithStranger 0 = .ok (.iconst 0, 1) := by decide +kernel
theorem dX0_firstWithStranger_1 : decode cX0_firstWithStranger 1 = .ok (.istore_n 2, 1) := by decide +kernel
theorem dX0_firstWithStranger_2 : decode cX0_firstWithStranger 2 = .ok (.iload_n 2, 1) := by decide +kernel
theorem dX0_firstWithStranger_3 : decode cX0_firstWithStranger 3 = .ok (.bipush 9, 2) := by decide +kernel
theorem dX0_firstWithStranger_5 : decode cX0_firstWithStranger 5 = .ok (.if_icmp .ge 35, 3) := by decide +kernel
theorem dX0_firstWithStranger_8 : decode cX0_firstWithStranger 8 = .ok (.iload_n 1, 1) := by decide +kernel
theorem dX0_firstWithStranger_9 : decode cX0_firstWithStranger 9 = .ok (.iload_n 2, 1) := by decide +kernel
theorem dX0_firstWithStranger_10 : decode cX0_firstWithStranger 10 = .ok (.invokestatic 140, 3) := by decide +kernel
theorem dX0_firstWithStranger_13 : decode cX0_firstWithStranger 13 = .ok (.ifCond .eq 21, 3) := by decide +kernel
theorem dX0_firstWithStranger_16 : decode cX0_firstWithStranger 16 = .ok (.iload_n 1, 1) := by decide +kernel
theorem dX0_firstWithStranger_17 : decode cX0_firstWithStranger 17 = .ok (.aload_n 0, 1) := by decide +kernel
theorem dX0_firstWithStranger_18 : decode cX0_firstWithStranger 18 = .ok (.iload_n 2, 1) := by decide +kernel
theorem dX0_firstWithStranger_19 : decode cX0_firstWithStranger 19 = .ok (.iaload, 1) := by decide +kernel
theorem dX0_firstWithStranger_20 : decode cX0_firstWithStranger 20 = .ok (.iconst (-1), 1) := by decide +kernel
theorem dX0_firstWithStranger_21 : decode cX0_firstWithStranger 21 = .ok (.ixor, 1) := by decide +kernel
theorem dX0_firstWithStranger_22 : decode cX0_firstWithStranger 22 = .ok (.iand, 1) := by decide +kernel
theorem dX0_firstWithStranger_23 : decode cX0_firstWithStranger 23 = .ok (.iconst 1, 1) := by decide +kernel
theorem dX0_firstWithStranger_24 : decode cX0_firstWithStranger 24 = .ok (.iload_n 2, 1) := by decide +kernel
theorem dX0_firstWithStranger_25 : decode cX0_firstWithStranger 25 = .ok (.ishl, 1) := by decide +kernel
theorem dX0_firstWithStranger_26 : decode cX0_firstWithStranger 26 = .ok (.iconst (-1), 1) := by decide +kernel
theorem dX0_firstWithStranger_27 : decode cX0_firstWithStranger 27 = .ok (.ixor, 1) := by decide +kernel
theorem dX0_firstWithStranger_28 : decode cX0_firstWithStranger 28 = .ok (.iand, 1) := by decide +kernel
theorem dX0_firstWithStranger_29 : decode cX0_firstWithStranger 29 = .ok (.ifCond .eq 5, 3) := by decide +kernel
theorem dX0_firstWithStranger_32 : decode cX0_firstWithStranger 32 = .ok (.iload_n 2, 1) := by decide +kernel
theorem dX0_firstWithStranger_33 : decode cX0_firstWithStranger 33 = .ok (.ireturn, 1) := by decide +kernel
theorem dX0_firstWithStranger_34 : decode cX0_firstWithStranger 34 = .ok (.iinc 2 1, 3) := by decide +kernel
theorem dX0_firstWithStranger_37 : decode cX0_firstWithStranger 37 = .ok (.goto (-35), 3) := by decide +kernel
theorem dX0_firstWithStranger_40 : decode cX0_firstWithStranger 40 = .ok (.bipush 9, 2) := by decide +kernel
theorem dX0_firstWithStranger_42 : decode cX0_firstWithStranger 42 = .ok (.ireturn, 1) := by decide +kernel
set_option maxRecDepth 20000 in
theorem ggX0_firstOf_X0_has : GoodIn wsX0_firstOf wsX0_has := goodIn_r _ [4] (by decide +kernel) (by decide +kernel)
set_option maxRecDepth 20000 in
theorem gX0_firstOf_X0_has : GoodIn wsX0_firstOf (va_wsS RX0 140 yX0_has wsX0_has) := goodIn_app (goodIn_of _ (by decide +kernel)) ggX0_firstOf_X0_has
theorem dX0_firstOf_0 : decode cX0_firstOf 0 = .ok (.iconst 0, 1) := by decide +kernel
theorem dX0_firstOf_1 : decode cX0_firstOf 1 = .ok (.istore_n 1, 1) := by decide +kernel
theorem dX0_firstOf_2 : decode cX0_firstOf 2 = .ok (.iload_n 1, 1) := by decide +kernel
theorem dX0_firstOf_3 : decode cX0_firstOf 3 = .ok (.bipush 9, 2) := by decide +kernel
theorem dX0_firstOf_5 : decode cX0_firstOf 5 = .ok (.if_icmp .ge 19, 3) := by decide +kernel
theorem dX0_firstOf_8 : decode cX0_firstOf 8 = .ok (.iload_n 0, 1) := by decide +kernel
theorem dX0_firstOf_9 : decode cX0_firstOf 9 = .ok (.iload_n 1, 1) := by decide +kernel
theorem dX0_firstOf_10 : decode cX0_firstOf 10 = .ok (.invokestatic 140, 3) := by decide +kernel
theorem dX0_firstOf_13 : decode cX0_firstOf 13 = .ok (.ifCond .eq 5, 3) := by decide +kernel
theorem dX0_firstOf_16 : decode cX0_firstOf 16 = .ok (.iload_n 1, 1) := by decide +kernel
theorem dX0_firstOf_17 : decode cX0_firstOf 17 = .ok (.ireturn, 1) := by decide +kernel
theorem dX0_firstOf_18 : decode cX0_firstOf 18 = .ok (.iinc 1 1, 3) := by decide +kernel
theorem dX0_firstOf_21 : decode cX0_firstOf 21 = .ok (.goto (-19), 3) := by decide +kernel
theorem dX0_firstOf_24 : decode cX0_firstOf 24 = .ok (.bipush 9, 2) := by decide +kernel
theorem dX0_firstOf_26 : decode cX0_firstOf 26 = .ok (.ireturn, 1) := by decide +kernel
set_option maxRecDepth 20000 in
theorem ggX0_makeOne_X0_has : GoodIn wsX0_makeOne wsX0_has := goodIn_r _ [4] (by decide +kernel) (by decide +kernel)
set_option maxRecDepth 20000 in
theorem gX0_makeOne_X0_has : GoodIn wsX0_makeOne (va_wsS RX0 140 yX0_has wsX0_has) := goodIn_app (goodIn_of _ (by decide +kernel)) ggX0_makeOne_X0_has
theorem dX0_makeOne_0 : decode cX0_makeOne 0 = .ok (.iconst 0, 1) := by decide +kernel
theorem dX0_makeOne_1 : decode cX0_makeOne 1 = .ok (.istore 4, 2) := by decide +kernel
theorem dX0_makeOne_3 : decode cX0_makeOne 3 = .ok (.iload 4, 2) := by decide +kernel
theorem dX0_makeOne_5 : decode cX0_makeOne 5 = .ok (.bipush 10, 2) := by decide +kernel
theorem dX0_makeOne_7 : decode cX0_makeOne 7 = .ok (.if_icmp .ge 39, 3) := by decide +kernel
theorem dX0_makeOne_10 : decode cX0_makeOne 10 = .ok (.aload_n 1, 1) := by decide +kernel
theorem dX0_makeOne_11 : decode cX0_makeOne 11 = .ok (.iload 4, 2) := by decide +kernel
theorem dX0_makeOne_13 : decode cX0_makeOne 13 = .ok (.aload_n 0, 1) := by decide +kernel
theorem dX0_makeOne_14 : decode cX0_makeOne 14 = .ok (.iload 4, 2) := by decide +kernel
theorem dX0_makeOne_16 : decode cX0_makeOne 16 = .ok (.iaload, 1) := by decide +kernel
theorem dX0_makeOne_17 : decode cX0_makeOne 17 = .ok (.iload_n 3, 1) := by decide +kernel
theorem dX0_makeOne_18 : decode cX0_makeOne 18 = .ok (.invokestatic 140, 3) := by decide +kernel
theorem dX0_makeOne_21 : decode cX0_makeOne 21 = .ok (.ifCond .eq 14, 3) := by decide +kernel
theorem dX0_makeOne_24 : decode cX0_makeOne 24 = .ok (.aload_n 0, 1) := by decide +kernel
theorem dX0_makeOne_25 : decode cX0_makeOne 25 = .ok (.iload 4, 2) := by decide +kernel
theorem dX0_makeOne_27 : decode cX0_makeOne 27 = .ok (.iaload, 1) := by decide +kernel
theorem dX0_makeOne_28 : decode cX0_makeOne 28 = .ok (.iconst 1, 1) := by decide +kernel
theorem dX0_makeOne_29 : decode cX0_makeOne 29 = .ok (.iload_n 2, 1) := by decide +kernel
theorem dX0_makeOne_30 : decode cX0_makeOne 30 = .ok (.ishl, 1) := by decide +kernel
theorem dX0_makeOne_31 : decode cX0_makeOne 31 = .ok (.ior, 1) := by decide +kernel
theorem dX0_makeOne_32 : decode cX0_makeOne 32 = .ok (.goto 7, 3) := by decide +kernel
theorem dX0_makeOne_35 : decode cX0_makeOne 35 = .ok (.aload_n 0, 1) := by decide +kernel
theorem dX0_makeOne_36 : decode cX0_makeOne 36 = .ok (.iload 4, 2) := by decide +kernel
theorem dX0_makeOne_38 : decode cX0_makeOne 38 = .ok (.iaload, 1) := by decide +kernel
theorem dX0_makeOne_39 : decode cX0_makeOne 39 = .ok (.iastore, 1) := by decide +kernel
theorem dX0_makeOne_40 : decode cX0_makeOne 40 = .ok (.iinc 4 1, 3) := by decide +kernel
theorem dX0_makeOne_43 : decode cX0_makeOne 43 = .ok (.goto (-40), 3) := by decide +kernel
theorem dX0_makeOne_46 : decode cX0_makeOne 46 = .ok (.aload_n 1, 1) := by decide +kernel
theorem dX0_makeOne_47 : decode cX0_makeOne 47 = .ok (.iload_n 2, 1) := by decide +kernel
theorem dX0_makeOne_48 : decode cX0_makeOne 48 = .ok (.aload_n 0, 1) := by decide +kernel
theorem dX0_makeOne_49 : decode cX0_makeOne 49 = .ok (.iload_n 2, 1) := by decide +kernel
theorem dX0_makeOne_50 : decode cX0_makeOne 50 = .ok (.iaload, 1) := by decide +kernel
theorem dX0_makeOne_51 : decode cX0_makeOne 51 = .ok (.aload_n 0, 1) := by decide +kernel
theorem dX0_makeOne_52 : decode cX0_makeOne 52 = .ok (.iload_n 3, 1) := by decide +kernel
theorem dX0_makeOne_53 : decode cX0_makeOne 53 = .ok (.iaload, 1) := by decide +kernel
theorem dX0_makeOne_54 : decode cX0_makeOne 54 = .ok (.ior, 1) := by decide +kernel
theorem dX0_makeOne_55 : decode cX0_makeOne 55 = .ok (.iastore, 1) := by decide +kernel
theorem dX0_makeOne_56 : decode cX0_makeOne 56 = .ok (.return_, 1) := by decide +kernel
theorem dX1_init_0 : decode cX1_init 0 = .ok (.aload_n 0, 1) := by decide +kernel
theorem dX1_init_1 : decode cX1_init 1 = .ok (.invokespecial 3, 3) := by decide +kernel
theorem dX1_init_4 : decode cX1_init 4 = .ok (.aload_n 0, 1) := by decide +kernel
theorem dX1_init_5 : decode cX1_init 5 = .ok (.bipush 36, 2) := by decide +kernel
theorem dX1_init_7 : decode cX1_init 7 = .ok (.newarray .int, 2) := by decide +kernel
theorem dX1_init_9 : decode cX1_init 9 = .ok (.putfield 9, 3) := by decide +kernel
theorem dX1_init_12 : decode cX1_init 12 = .ok (.aload_n 0, 1) := by decide +kernel
theorem dX1_init_13 : decode cX1_init 13 = .ok (.bipush 10, 2) := by decide +kernel
theorem dX1_init_15 : decode cX1_init 15 = .ok (.newarray .int, 2) := by decide +kernel
theorem dX1_init_17 : decode cX1_init 17 = .ok (.putfield 13, 3) := by decide +kernel
theorem dX1_init_20 : decode cX1_init 20 = .ok (.aload_n 0, 1) := by decide +kernel
theorem dX1_init_21 : decode cX1_init 21 = .ok (.bipush 10, 2) := by decide +kernel
theorem dX1_init_23 : decode cX1_init 23 = .ok (.newarray .long, 2) := by decide +kernel
theorem dX1_init_25 : decode cX1_init 25 = .ok (.putfield 16, 3) := by decide +kernel
theorem dX1_init_28 : decode cX1_init 28 = .ok (.aload_n 0, 1) := by decide +kernel
theorem dX1_init_29 : decode cX1_init 29 = .ok (.bipush 10, 2) := by decide +kernel
theorem dX1_init_31 : decode cX1_init 31 = .ok (.newarray .int, 2) := by decide +kernel
theorem dX1_init_33 : decode cX1_init 33 = .ok (.putfield 20, 3) := by decide +kernel
theorem dX1_init_36 : decode cX1_init 36 = .ok (.aload_n 0, 1) := by decide +kernel
theorem dX1_init_37 : decode cX1_init 37 = .ok (.sipush 1024, 3) := by decide +kernel
theorem dX1_init_40 : decode cX1_init 40 = .ok (.newarray .long, 2) := by decide +kernel
theorem dX1_init_42 : decode cX1_init 42 = .ok (.putfield 23, 3) := by decide +kernel
theorem dX1_init_45 : decode cX1_init 45 = .ok (.aload_n 0, 1) := by decide +kernel
theorem dX1_init_46 : decode cX1_init 46 = .ok (.sipush 1024, 3) := by decide +kernel
theorem dX1_init_49 : decode cX1_init 49 = .ok (.newarray .long, 2) := by decide +kernel
theorem dX1_init_51 : decode cX1_init 51 = .ok (.putfield 26, 3) := by decide +kernel
theorem dX1_init_54 : decode cX1_init 54 = .ok (.iconst 0, 1) := by decide +kernel
theorem dX1_init_55 : decode cX1_init 55 = .ok (.istore_n 1, 1) := by decide +kernel
theorem dX1_init_56 : decode cX1_init 56 = .ok (.iload_n 1, 1) := by decide +kernel
theorem dX1_init_57 : decode cX1_init 57 = .ok (.bipush 36, 2) := by decide +kernel
theorem dX1_init_59 : decode cX1_init 59 = .ok (.if_icmp .ge 16, 3) := by decide +kernel
theorem dX1_init_62 : decode cX1_init 62 = .ok (.aload_n 0, 1) := by decide +kernel
theorem dX1_init_63 : decode cX1_init 63 = .ok (.getfield 9, 3) := by decide +kernel
theorem dX1_init_66 : decode cX1_init 66 = .ok (.iload_n 1, 1) := by decide +kernel
theorem dX1_init_67 : decode cX1_init 67 = .ok (.iconst (-1), 1) := by decide +kernel
theorem dX1_init_68 : decode cX1_init 68 = .ok (.iastore, 1) := by decide +kernel
theorem dX1_init_69 : decode cX1_init 69 = .ok (.iinc 1 1, 3) := by decide +kernel
theorem dX1_init_72 : decode cX1_init 72 = .ok (.goto (-16), 3) := by decide +kernel
theorem dX1_init_75 : decode cX1_init 75 = .ok (.return_, 1) := by decide +kernel
theorem dX1_thrown_0 : decode cX1_thrown 0 = .ok (.aload_n 0, 1) := by decide +kernel
theorem dX1_thrown_1 : decode cX1_thrown 1 = .ok (.getfield 29, 3) := by decide +kernel
theorem dX1_thrown_4 : decode cX1_thrown 4 = .ok (.ireturn, 1) := by decide +kernel
theorem dX1_in_0 : decode cX1_in 0 = .ok (.iload_n 0, 1) := by decide +kernel
theorem dX1_in_1 : decode cX1_in 1 = .ok (.iload_n 1, 1) := by decide +kernel
theorem dX1_in_2 : decode cX1_in 2 = .ok (.if_icmp .lt 12, 3) := by decide +kernel
theorem dX1_in_5 : decode cX1_in 5 = .ok (.iload_n 0, 1) := by decide +kernel
theorem dX1_in_6 : decode cX1_in 6 = .ok (.iload_n 2, 1) := by decide +kernel
theorem dX1_in_7 : decode cX1_in 7 = .ok (.if_icmp .gt 7, 3) := by decide +kernel
theorem dX1_in_10 : decode cX1_in 10 = .ok (.iconst 1, 1) := by decide +kernel
theorem dX1_in_11 : decode cX1_in 11 = .ok (.goto 4, 3) := by decide +kernel
theorem dX1_in_14 : decode cX1_in 14 = .ok (.iconst 0, 1) := by decide +kernel
theorem dX1_in_15 : decode cX1_in 15 = .ok (.ireturn, 1) := by decide +kernel
theorem dX1_goes_0 : decode cX1_goes 0 = .ok (.aload_n 0, 1) := by decide +kernel
theorem dX1_goes_1 : decode cX1_goes 1 = .ok (.iload_n 1, 1) := by decide +kernel
theorem dX1_goes_2 : decode cX1_goes 2 = .ok (.ifCond .ne 7, 3) := by decide +kernel
theorem dX1_goes_5 : decode cX1_goes 5 = .ok (.iconst 1, 1) := by decide +kernel
theorem dX1_goes_6 : decode cX1_goes 6 = .ok (.goto 20, 3) := by decide +kernel
theorem dX1_goes_9 : decode cX1_goes 9 = .ok (.iload_n 2, 1) := by decide +kernel
theorem dX1_goes_10 : decode cX1_goes 10 = .ok (.ifCond .ne 7, 3) := by decide +kernel
theorem dX1_goes_13 : decode cX1_goes 13 = .ok (.iconst 2, 1) := by decide +kernel
theorem dX1_goes_14 : decode cX1_goes 14 = .ok (.goto 12, 3) := by decide +kernel
theorem dX1_goes_17 : decode cX1_goes 17 = .ok (.iload_n 3, 1) := by decide +kernel
theorem dX1_goes_18 : decode cX1_goes 18 = .ok (.ifCond .ne 7, 3) := by decide +kernel
theorem dX1_goes_21 : decode cX1_goes 21 = .ok (.iconst 3, 1) := by decide +kernel
theorem dX1_goes_22 : decode cX1_goes 22 = .ok (.goto 4, 3) := by decide +kernel
theorem dX1_goes_25 : decode cX1_goes 25 = .ok (.iconst 0, 1) := by decide +kernel
theorem dX1_goes_26 : decode cX1_goes 26 = .ok (.putfield 29, 3) := by decide +kernel
theorem dX1_goes_29 : decode cX1_goes 29 = .ok (.aload_n 0, 1) := by decide +kernel
theorem dX1_goes_30 : decode cX1_goes 30 = .ok (.getfield 29, 3) := by decide +kernel
theorem dX1_goes_33 : decode cX1_goes 33 = .ok (.ifCond .ne 7, 3) := by decide +kernel
theorem dX1_goes_36 : decode cX1_goes 36 = .ok (.iconst 1, 1) := by decide +kernel
theorem dX1_goes_37 : decode cX1_goes 37 = .ok (.goto 4, 3) := by decide +kernel
theorem dX1_goes_40 : decode cX1_goes 40 = .ok (.iconst 0, 1) := by decide +kernel
