theorem dX0_checkCell_24 : decode cX0_checkCell 24 = .ok (.ldc 180, 2) := by decide +kernel
theorem dX0_checkCell_26 : decode cX0_checkCell 26 = .ok (.invokespecial 182, 3) := by decide +kernel
theorem dX0_checkCell_29 : decode cX0_checkCell 29 = .ok (.athrow, 1) := by decide +kernel
theorem dX0_checkCell_30 : decode cX0_checkCell 30 = .ok (.return_, 1) := by decide +kernel
theorem dX0_checkCountry_0 : decode cX0_checkCountry 0 = .ok (.iload_n 0, 1) := by decide +kernel
theorem dX0_checkCountry_1 : decode cX0_checkCountry 1 = .ok (.ifCond .lt 9, 3) := by decide +kernel
theorem dX0_checkCountry_4 : decode cX0_checkCountry 4 = .ok (.iload_n 0, 1) := by decide +kernel
theorem dX0_checkCountry_5 : decode cX0_checkCountry 5 = .ok (.bipush 10, 2) := by decide +kernel
theorem dX0_checkCountry_7 : decode cX0_checkCountry 7 = .ok (.if_icmp .lt 13, 3) := by decide +kernel
theorem dX0_checkCountry_10 : decode cX0_checkCountry 10 = .ok (.new 178, 3) := by decide +kernel
theorem dX0_checkCountry_13 : decode cX0_checkCountry 13 = .ok (.dup, 1) := by decide +kernel
theorem dX0_checkCountry_14 : decode cX0_checkCountry 14 = .ok (.ldc 183, 2) := by decide +kernel
theorem dX0_checkCountry_16 : decode cX0_checkCountry 16 = .ok (.invokespecial 182, 3) := by decide +kernel
theorem dX0_checkCountry_19 : decode cX0_checkCountry 19 = .ok (.athrow, 1) := by decide +kernel
theorem dX0_checkCountry_20 : decode cX0_checkCountry 20 = .ok (.return_, 1) := by decide +kernel
theorem dX0_checkPaint_0 : decode cX0_checkPaint 0 = .ok (.iload_n 0, 1) := by decide +kernel
theorem dX0_checkPaint_1 : decode cX0_checkPaint 1 = .ok (.iconst (-1), 1) := by decide +kernel
theorem dX0_checkPaint_2 : decode cX0_checkPaint 2 = .ok (.if_icmp .eq 23, 3) := by decide +kernel
theorem dX0_checkPaint_5 : decode cX0_checkPaint 5 = .ok (.iload_n 0, 1) := by decide +kernel
theorem dX0_checkPaint_6 : decode cX0_checkPaint 6 = .ok (.ifCond .lt 9, 3) := by decide +kernel
theorem dX0_checkPaint_9 : decode cX0_checkPaint 9 = .ok (.iload_n 0, 1) := by decide +kernel
theorem dX0_checkPaint_10 : decode cX0_checkPaint 10 = .ok (.bipush 10, 2) := by decide +kernel
theorem dX0_checkPaint_12 : decode cX0_checkPaint 12 = .ok (.if_icmp .lt 13, 3) := by decide +kernel
theorem dX0_checkPaint_15 : decode cX0_checkPaint 15 = .ok (.new 59, 3) := by decide +kernel
theorem dX0_checkPaint_18 : decode cX0_checkPaint 18 = .ok (.dup, 1) := by decide +kernel
theorem dX0_checkPaint_19 : decode cX0_checkPaint 19 = .ok (.ldc 185, 2) := by decide +kernel
theorem dX0_checkPaint_21 : decode cX0_checkPaint 21 = .ok (.invokespecial 63, 3) := by decide +kernel
theorem dX0_checkPaint_24 : decode cX0_checkPaint 24 = .ok (.athrow, 1) := by decide +kernel
theorem dX0_checkPaint_25 : decode cX0_checkPaint 25 = .ok (.return_, 1) := by decide +kernel
theorem dX0_checkTint_0 : decode cX0_checkTint 0 = .ok (.iload_n 0, 1) := by decide +kernel
theorem dX0_checkTint_1 : decode cX0_checkTint 1 = .ok (.iconst 1, 1) := by decide +kernel
theorem dX0_checkTint_2 : decode cX0_checkTint 2 = .ok (.if_icmp .lt 9, 3) := by decide +kernel
theorem dX0_checkTint_5 : decode cX0_checkTint 5 = .ok (.iload_n 0, 1) := by decide +kernel
theorem dX0_checkTint_6 : decode cX0_checkTint 6 = .ok (.bipush 10, 2) := by decide +kernel
theorem dX0_checkTint_8 : decode cX0_checkTint 8 = .ok (.if_icmp .le 13, 3) := by decide +kernel
theorem dX0_checkTint_11 : decode cX0_checkTint 11 = .ok (.new 59, 3) := by decide +kernel
theorem dX0_checkTint_14 : decode cX0_checkTint 14 = .ok (.dup, 1) := by decide +kernel
theorem dX0_checkTint_15 : decode cX0_checkTint 15 = .ok (.ldc 187, 2) := by decide +kernel
theorem dX0_checkTint_17 : decode cX0_checkTint 17 = .ok (.invokespecial 63, 3) := by decide +kernel
theorem dX0_checkTint_20 : decode cX0_checkTint 20 = .ok (.athrow, 1) := by decide +kernel
theorem dX0_checkTint_21 : decode cX0_checkTint 21 = .ok (.return_, 1) := by decide +kernel
theorem dX0_checkNumberOfTints_0 : decode cX0_checkNumberOfTints 0 = .ok (.iload_n 0, 1) := by decide +kernel
theorem dX0_checkNumberOfTints_1 : decode cX0_checkNumberOfTints 1 = .ok (.ifCond .lt 9, 3) := by decide +kernel
theorem dX0_checkNumberOfTints_4 : decode cX0_checkNumberOfTints 4 = .ok (.iload_n 0, 1) := by decide +kernel
theorem dX0_checkNumberOfTints_5 : decode cX0_checkNumberOfTints 5 = .ok (.bipush 10, 2) := by decide +kernel
theorem dX0_checkNumberOfTints_7 : decode cX0_checkNumberOfTints 7 = .ok (.if_icmp .le 13, 3) := by decide +kernel
theorem dX0_checkNumberOfTints_10 : decode cX0_checkNumberOfTints 10 = .ok (.new 59, 3) := by decide +kernel
theorem dX0_checkNumberOfTints_13 : decode cX0_checkNumberOfTints 13 = .ok (.dup, 1) := by decide +kernel
theorem dX0_checkNumberOfTints_14 : decode cX0_checkNumberOfTints 14 = .ok (.ldc 189, 2) := by decide +kernel
theorem dX0_checkNumberOfTints_16 : decode cX0_checkNumberOfTints 16 = .ok (.invokespecial 63, 3) := by decide +kernel
theorem dX0_checkNumberOfTints_19 : decode cX0_checkNumberOfTints 19 = .ok (.athrow, 1) := by decide +kernel
theorem dX0_checkNumberOfTints_20 : decode cX0_checkNumberOfTints 20 = .ok (.return_, 1) := by decide +kernel
set_option maxRecDepth 20000 in
theorem ggX0_checkTinted_X0_has : GoodIn wsX0_checkTinted wsX0_has := goodIn_r _ [8] (by decide +kernel) (by decide +kernel)
set_option maxRecDepth 20000 in
theorem gX0_checkTinted_X0_has : GoodIn wsX0_checkTinted (va_wsS RX0 140 yX0_has wsX0_has) := goodIn_app (goodIn_of _ (by decide +kernel)) ggX0_checkTinted_X0_has
theorem dX0_checkTinted_0 : decode cX0_checkTinted 0 = .ok (.aload_n 0, 1) := by decide +kernel
theorem dX0_checkTinted_1 : decode cX0_checkTinted 1 = .ok (.getfield 13, 3) := by decide +kernel
theorem dX0_checkTinted_4 : decode cX0_checkTinted 4 = .ok (.iload_n 1, 1) := by decide +kernel
theorem dX0_checkTinted_5 : decode cX0_checkTinted 5 = .ok (.invokestatic 140, 3) := by decide +kernel
theorem dX0_checkTinted_8 : decode cX0_checkTinted 8 = .ok (.ifCond .eq 12, 3) := by decide +kernel
theorem dX0_checkTinted_11 : decode cX0_checkTinted 11 = .ok (.aload_n 0, 1) := by decide +kernel
theorem dX0_checkTinted_12 : decode cX0_checkTinted 12 = .ok (.getfield 21, 3) := by decide +kernel
theorem dX0_checkTinted_15 : decode cX0_checkTinted 15 = .ok (.iload_n 1, 1) := by decide +kernel
theorem dX0_checkTinted_16 : decode cX0_checkTinted 16 = .ok (.iaload, 1) := by decide +kernel
theorem dX0_checkTinted_17 : decode cX0_checkTinted 17 = .ok (.ifCond .ne 13, 3) := by decide +kernel
theorem dX0_checkTinted_20 : decode cX0_checkTinted 20 = .ok (.new 191, 3) := by decide +kernel
theorem dX0_checkTinted_23 : decode cX0_checkTinted 23 = .ok (.dup, 1) := by decide +kernel
theorem dX0_checkTinted_24 : decode cX0_checkTinted 24 = .ok (.ldc 193, 2) := by decide +kernel
theorem dX0_checkTinted_26 : decode cX0_checkTinted 26 = .ok (.invokespecial 195, 3) := by decide +kernel
theorem dX0_checkTinted_29 : decode cX0_checkTinted 29 = .ok (.athrow, 1) := by decide +kernel
theorem dX0_checkTinted_30 : decode cX0_checkTinted 30 = .ok (.return_, 1) := by decide +kernel
theorem dX0_block_0 : decode cX0_block 0 = .ok (.lconst 0, 1) := by decide +kernel
theorem dX0_block_1 : decode cX0_block 1 = .ok (.lstore 4, 2) := by decide +kernel
theorem dX0_block_3 : decode cX0_block 3 = .ok (.iload_n 0, 1) := by decide +kernel
theorem dX0_block_4 : decode cX0_block 4 = .ok (.istore 6, 2) := by decide +kernel
theorem dX0_block_6 : decode cX0_block 6 = .ok (.iload 6, 2) := by decide +kernel
theorem dX0_block_8 : decode cX0_block 8 = .ok (.iload_n 2, 1) := by decide +kernel
theorem dX0_block_9 : decode cX0_block 9 = .ok (.if_icmp .gt 39, 3) := by decide +kernel
theorem dX0_block_12 : decode cX0_block 12 = .ok (.iload_n 1, 1) := by decide +kernel
theorem dX0_block_13 : decode cX0_block 13 = .ok (.istore 7, 2) := by decide +kernel
theorem dX0_block_15 : decode cX0_block 15 = .ok (.iload 7, 2) := by decide +kernel
theorem dX0_block_17 : decode cX0_block 17 = .ok (.iload_n 3, 1) := by decide +kernel
theorem dX0_block_18 : decode cX0_block 18 = .ok (.if_icmp .gt 24, 3) := by decide +kernel
theorem dX0_block_21 : decode cX0_block 21 = .ok (.lload 4, 2) := by decide +kernel
theorem dX0_block_23 : decode cX0_block 23 = .ok (.lconst 1, 1) := by decide +kernel
theorem dX0_block_24 : decode cX0_block 24 = .ok (.iload 6, 2) := by decide +kernel
theorem dX0_block_26 : decode cX0_block 26 = .ok (.bipush 6, 2) := by decide +kernel
theorem dX0_block_28 : decode cX0_block 28 = .ok (.imul, 1) := by decide +kernel
theorem dX0_block_29 : decode cX0_block 29 = .ok (.iload 7, 2) := by decide +kernel
theorem dX0_block_31 : decode cX0_block 31 = .ok (.iadd, 1) := by decide +kernel
theorem dX0_block_32 : decode cX0_block 32 = .ok (.lshl, 1) := by decide +kernel
theorem dX0_block_33 : decode cX0_block 33 = .ok (.lor, 1) := by decide +kernel
theorem dX0_block_34 : decode cX0_block 34 = .ok (.lstore 4, 2) := by decide +kernel
theorem dX0_block_36 : decode cX0_block 36 = .ok (.iinc 7 1, 3) := by decide +kernel
theorem dX0_block_39 : decode cX0_block 39 = .ok (.goto (-24), 3) := by decide +kernel
theorem dX0_block_42 : decode cX0_block 42 = .ok (.iinc 6 1, 3) := by decide +kernel
theorem dX0_block_45 : decode cX0_block 45 = .ok (.goto (-39), 3) := by decide +kernel
theorem dX0_block_48 : decode cX0_block 48 = .ok (.lload 4, 2) := by decide +kernel
theorem dX0_block_50 : decode cX0_block 50 = .ok (.lreturn, 1) := by decide +kernel
theorem dX0_above_0 : decode cX0_above 0 = .ok (.lload_n 0, 1) := by decide +kernel
theorem dX0_above_1 : decode cX0_above 1 = .ok (.bipush 6, 2) := by decide +kernel
theorem dX0_above_3 : decode cX0_above 3 = .ok (.lushr, 1) := by decide +kernel
theorem dX0_above_4 : decode cX0_above 4 = .ok (.lreturn, 1) := by decide +kernel
theorem dX0_below_0 : decode cX0_below 0 = .ok (.lload_n 0, 1) := by decide +kernel
theorem dX0_below_1 : decode cX0_below 1 = .ok (.bipush 6, 2) := by decide +kernel
theorem dX0_below_3 : decode cX0_below 3 = .ok (.lshl, 1) := by decide +kernel
theorem dX0_below_4 : decode cX0_below 4 = .ok (.ldc2_w 110, 3) := by decide +kernel
theorem dX0_below_7 : decode cX0_below 7 = .ok (.land, 1) := by decide +kernel
theorem dX0_below_8 : decode cX0_below 8 = .ok (.lreturn, 1) := by decide +kernel
theorem dX0_leftOf_0 : decode cX0_leftOf 0 = .ok (.lload_n 0, 1) := by decide +kernel
theorem dX0_leftOf_1 : decode cX0_leftOf 1 = .ok (.ldc2_w 196, 3) := by decide +kernel
theorem dX0_leftOf_4 : decode cX0_leftOf 4 = .ok (.land, 1) := by decide +kernel
theorem dX0_leftOf_5 : decode cX0_leftOf 5 = .ok (.iconst 1, 1) := by decide +kernel
theorem dX0_leftOf_6 : decode cX0_leftOf 6 = .ok (.lushr, 1) := by decide +kernel
theorem dX0_leftOf_7 : decode cX0_leftOf 7 = .ok (.lreturn, 1) := by decide +kernel
theorem dX0_rightOf_0 : decode cX0_rightOf 0 = .ok (.lload_n 0, 1) := by decide +kernel
theorem dX0_rightOf_1 : decode cX0_rightOf 1 = .ok (.ldc2_w 198, 3) := by decide +kernel
theorem dX0_rightOf_4 : decode cX0_rightOf 4 = .ok (.land, 1) := by decide +kernel
theorem dX0_rightOf_5 : decode cX0_rightOf 5 = .ok (.iconst 1, 1) := by decide +kernel
theorem dX0_rightOf_6 : decode cX0_rightOf 6 = .ok (.lshl, 1) := by decide +kernel
theorem dX0_rightOf_7 : decode cX0_rightOf 7 = .ok (.lreturn, 1) := by decide +kernel
set_option maxRecDepth 20000 in
theorem ggX0_spread_X0_above : GoodIn wsX0_spread wsX0_above := goodIn_r _ [4] (by decide +kernel) (by decide +kernel)
set_option maxRecDepth 20000 in
theorem gX0_spread_X0_above : GoodIn wsX0_spread (va_wsS RX0 98 yX0_above wsX0_above) := goodIn_app (goodIn_of _ (by decide +kernel)) ggX0_spread_X0_above
set_option maxRecDepth 20000 in
theorem ggX0_spread_X0_below : GoodIn wsX0_spread wsX0_below := goodIn_r _ [7, 8] (by decide +kernel) (by decide +kernel)
set_option maxRecDepth 20000 in
theorem gX0_spread_X0_below : GoodIn wsX0_spread (va_wsS RX0 101 yX0_below wsX0_below) := goodIn_app (goodIn_of _ (by decide +kernel)) ggX0_spread_X0_below
set_option maxRecDepth 20000 in
theorem ggX0_spread_X0_leftOf : GoodIn wsX0_spread wsX0_leftOf := goodIn_r _ [11, 12] (by decide +kernel) (by decide +kernel)
set_option maxRecDepth 20000 in
theorem gX0_spread_X0_leftOf : GoodIn wsX0_spread (va_wsS RX0 104 yX0_leftOf wsX0_leftOf) := goodIn_app (goodIn_of _ (by decide +kernel)) ggX0_spread_X0_leftOf
set_option maxRecDepth 20000 in
theorem ggX0_spread_X0_rightOf : GoodIn wsX0_spread wsX0_rightOf := goodIn_r _ [15, 16] (by decide +kernel) (by decide +kernel)
set_option maxRecDepth 20000 in
theorem gX0_spread_X0_rightOf : GoodIn wsX0_spread (va_wsS RX0 107 yX0_rightOf wsX0_rightOf) := goodIn_app (goodIn_of _ (by decide +kernel)) ggX0_spread_X0_rightOf
theorem dX0_spread_0 : decode cX0_spread 0 = .ok (.lload_n 0, 1) := by decide +kernel
theorem dX0_spread_1 : decode cX0_spread 1 = .ok (.lload_n 0, 1) := by decide +kernel
theorem dX0_spread_2 : decode cX0_spread 2 = .ok (.invokestatic 98, 3) := by decide +kernel
theorem dX0_spread_5 : decode cX0_spread 5 = .ok (.lor, 1) := by decide +kernel
theorem dX0_spread_6 : decode cX0_spread 6 = .ok (.lload_n 0, 1) := by decide +kernel
theorem dX0_spread_7 : decode cX0_spread 7 = .ok (.invokestatic 101, 3) := by decide +kernel
theorem dX0_spread_10 : decode cX0_spread 10 = .ok (.lor, 1) := by decide +kernel
theorem dX0_spread_11 : decode cX0_spread 11 = .ok (.lload_n 0, 1) := by decide +kernel
theorem dX0_spread_12 : decode cX0_spread 12 = .ok (.invokestatic 104, 3) := by decide +kernel
theorem dX0_spread_15 : decode cX0_spread 15 = .ok (.lor, 1) := by decide +kernel
theorem dX0_spread_16 : decode cX0_spread 16 = .ok (.lload_n 0, 1) := by decide +kernel
theorem dX0_spread_17 : decode cX0_spread 17 = .ok (.invokestatic 107, 3) := by decide +kernel
theorem dX0_spread_20 : decode cX0_spread 20 = .ok (.lor, 1) := by decide +kernel
theorem dX0_spread_21 : decode cX0_spread 21 = .ok (.lreturn, 1) := by decide +kernel
set_option maxRecDepth 20000 in
theorem ggX0_reach_X0_spread : GoodIn wsX0_reach wsX0_spread := goodIn_r _ [4, 5, 6, 3, 7, 8, 9, 10, 11, 12, 13, 14, 15, 16, 17, 18, 19] (by decide +kernel) (by decide +kernel)
set_option maxRecDepth 20000 in
theorem gX0_reach_X0_spread : GoodIn wsX0_reach (va_wsS RX0 200 yX0_spread wsX0_spread) := goodIn_app (goodIn_of _ (by decide +kernel)) ggX0_reach_X0_spread
theorem dX0_reach_0 : decode cX0_reach 0 = .ok (.lload_n 0, 1) := by decide +kernel
theorem dX0_reach_1 : decode cX0_reach 1 = .ok (.lstore 4, 2) := by decide +kernel
theorem dX0_reach_3 : decode cX0_reach 3 = .ok (.iconst 0, 1) := by decide +kernel
theorem dX0_reach_4 : decode cX0_reach 4 = .ok (.istore 6, 2) := by decide +kernel
theorem dX0_reach_6 : decode cX0_reach 6 = .ok (.iload 6, 2) := by decide +kernel
theorem dX0_reach_8 : decode cX0_reach 8 = .ok (.bipush 36, 2) := by decide +kernel
theorem dX0_reach_10 : decode cX0_reach 10 = .ok (.if_icmp .ge 33, 3) := by decide +kernel
theorem dX0_reach_13 : decode cX0_reach 13 = .ok (.lload 4, 2) := by decide +kernel
theorem dX0_reach_15 : decode cX0_reach 15 = .ok (.invokestatic 200, 3) := by decide +kernel
theorem dX0_reach_18 : decode cX0_reach 18 = .ok (.lload_n 2, 1) := by decide +kernel
theorem dX0_reach_19 : decode cX0_reach 19 = .ok (.land, 1) := by decide +kernel
theorem dX0_reach_20 : decode cX0_reach 20 = .ok (.lstore 7, 2) := by decide +kernel
theorem dX0_reach_22 : decode cX0_reach 22 = .ok (.lload 7, 2) := by decide +kernel
theorem dX0_reach_24 : decode cX0_reach 24 = .ok (.lload 4, 2) := by decide +kernel
theorem dX0_reach_26 : decode cX0_reach 26 = .ok (.lcmp, 1) := by decide +kernel
theorem dX0_reach_27 : decode cX0_reach 27 = .ok (.ifCond .ne 6, 3) := by decide +kernel
theorem dX0_reach_30 : decode cX0_reach 30 = .ok (.lload 4, 2) := by decide +kernel
theorem dX0_reach_32 : decode cX0_reach 32 = .ok (.lreturn, 1) := by decide +kernel
theorem dX0_reach_33 : decode cX0_reach 33 = .ok (.lload 7, 2) := by decide +kernel
theorem dX0_reach_35 : decode cX0_reach 35 = .ok (.lstore 4, 2) := by decide +kernel
theorem dX0_reach_37 : decode cX0_reach 37 = .ok (.iinc 6 1, 3) := by decide +kernel
theorem dX0_reach_40 : decode cX0_reach 40 = .ok (.goto (-34), 3) := by decide +kernel
theorem dX0_reach_43 : decode cX0_reach 43 = .ok (.lload 4, 2) := by decide +kernel
theorem dX0_reach_45 : decode cX0_reach 45 = .ok (.lreturn, 1) := by decide +kernel
set_option maxRecDepth 20000 in
theorem ggX0_pieceIn_X0_reach : GoodIn wsX0_pieceIn wsX0_reach := goodIn_r _ [4, 5, 6, 3, 7, 8, 9, 10, 11, 12, 13, 14, 15, 16, 17, 18, 19, 20, 21, 22] (by decide +kernel) (by decide +kernel)
set_option maxRecDepth 20000 in
theorem gX0_pieceIn_X0_reach : GoodIn wsX0_pieceIn (va_wsS RX0 114 yX0_reach wsX0_reach) := goodIn_app (goodIn_of _ (by decide +kernel)) ggX0_pieceIn_X0_reach
theorem dX0_pieceIn_0 : decode cX0_pieceIn 0 = .ok (.lload_n 0, 1) := by decide +kernel
theorem dX0_pieceIn_1 : decode cX0_pieceIn 1 = .ok (.lload_n 0, 1) := by decide +kernel
theorem dX0_pieceIn_2 : decode cX0_pieceIn 2 = .ok (.lneg, 1) := by decide +kernel
theorem dX0_pieceIn_3 : decode cX0_pieceIn 3 = .ok (.land, 1) := by decide +kernel
theorem dX0_pieceIn_4 : decode cX0_pieceIn 4 = .ok (.lload_n 0, 1) := by decide +kernel
theorem dX0_pieceIn_5 : decode cX0_pieceIn 5 = .ok (.invokestatic 114, 3) := by decide +kernel
theorem dX0_pieceIn_8 : decode cX0_pieceIn 8 = .ok (.lreturn, 1) := by decide +kernel
set_option maxRecDepth 20000 in
theorem ggX0_countPieces_X0_pieceIn : GoodIn wsX0_countPieces wsX0_pieceIn := goodIn_r _ [5, 6, 7, 4, 8, 9, 10, 11, 12, 13, 14, 15, 16, 17, 18, 19, 20, 21, 22, 23, 24, 25, 26] (by decide +kernel) (by decide +kernel)
set_option maxRecDepth 20000 in
theorem gX0_countPieces_X0_pieceIn : GoodIn wsX0_countPieces (va_wsS RX0 88 yX0_pieceIn wsX0_pieceIn) := goodIn_app (goodIn_of _ (by decide +kernel)) ggX0_countPieces_X0_pieceIn
theorem dX0_countPieces_0 : decode cX0_countPieces 0 = .ok (.lload_n 0, 1) := by decide +kernel
theorem dX0_countPieces_1 : decode cX0_countPieces 1 = .ok (.lstore_n 2, 1) := by decide +kernel
theorem dX0_countPieces_2 : decode cX0_countPieces 2 = .ok (.iconst 0, 1) := by decide +kernel
theorem dX0_countPieces_3 : decode cX0_countPieces 3 = .ok (.istore 4, 2) := by decide +kernel
theorem dX0_countPieces_5 : decode cX0_countPieces 5 = .ok (.iload 4, 2) := by decide +kernel
theorem dX0_countPieces_7 : decode cX0_countPieces 7 = .ok (.bipush 36, 2) := by decide +kernel
theorem dX0_countPieces_9 : decode cX0_countPieces 9 = .ok (.if_icmp .ge 26, 3) := by decide +kernel
theorem dX0_countPieces_12 : decode cX0_countPieces 12 = .ok (.lload_n 2, 1) := by decide +kernel
theorem dX0_countPieces_13 : decode cX0_countPieces 13 = .ok (.lconst 0, 1) := by decide +kernel
theorem dX0_countPieces_14 : decode cX0_countPieces 14 = .ok (.lcmp, 1) := by decide +kernel
theorem dX0_countPieces_15 : decode cX0_countPieces 15 = .ok (.ifCond .eq 20, 3) := by decide +kernel
theorem dX0_countPieces_18 : decode cX0_countPieces 18 = .ok (.lload_n 2, 1) := by decide +kernel
theorem dX0_countPieces_19 : decode cX0_countPieces 19 = .ok (.lload_n 2, 1) := by decide +kernel
theorem dX0_countPieces_20 : decode cX0_countPieces 20 = .ok (.invokestatic 88, 3) := by decide +kernel
theorem dX0_countPieces_23 : decode cX0_countPieces 23 = .ok (.ldc2_w 70, 3) := by decide +kernel
theorem dX0_countPieces_26 : decode cX0_countPieces 26 = .ok (.lxor, 1) := by decide +kernel
theorem dX0_countPieces_27 : decode cX0_countPieces 27 = .ok (.land, 1) := by decide +kernel
theorem dX0_countPieces_28 : decode cX0_countPieces 28 = .ok (.lstore_n 2, 1) := by decide +kernel
theorem dX0_countPieces_29 : decode cX0_countPieces 29 = .ok (.iinc 4 1, 3) := by decide +kernel
theorem dX0_countPieces_32 : decode cX0_countPieces 32 = .ok (.goto (-27), 3) := by decide +kernel
theorem dX0_countPieces_35 : decode cX0_countPieces 35 = .ok (.iload 4, 2) := by decide +kernel
theorem dX0_countPieces_37 : decode cX0_countPieces 37 = .ok (.ireturn, 1) := by decide +kernel
theorem dX0_cellsOf_0 : decode cX0_cellsOf 0 = .ok (.iload_n 1, 1) := by decide +kernel
theorem dX0_cellsOf_1 : decode cX0_cellsOf 1 = .ok (.ifCond .lt 16, 3) := by decide +kernel
theorem dX0_cellsOf_4 : decode cX0_cellsOf 4 = .ok (.iload_n 1, 1) := by decide +kernel
theorem dX0_cellsOf_5 : decode cX0_cellsOf 5 = .ok (.bipush 10, 2) := by decide +kernel
theorem dX0_cellsOf_7 : decode cX0_cellsOf 7 = .ok (.if_icmp .ge 10, 3) := by decide +kernel
theorem dX0_cellsOf_10 : decode cX0_cellsOf 10 = .ok (.aload_n 0, 1) := by decide +kernel
theorem dX0_cellsOf_11 : decode cX0_cellsOf 11 = .ok (.getfield 9, 3) := by decide +kernel
theorem dX0_cellsOf_14 : decode cX0_cellsOf 14 = .ok (.iload_n 1, 1) := by decide +kernel
theorem dX0_cellsOf_15 : decode cX0_cellsOf 15 = .ok (.laload, 1) := by decide +kernel
theorem dX0_cellsOf_16 : decode cX0_cellsOf 16 = .ok (.lreturn, 1) := by decide +kernel
theorem dX0_cellsOf_17 : decode cX0_cellsOf 17 = .ok (.ldc2_w 110, 3) := by decide +kernel
theorem dX0_cellsOf_20 : decode cX0_cellsOf 20 = .ok (.lstore_n 2, 1) := by decide +kernel
theorem dX0_cellsOf_21 : decode cX0_cellsOf 21 = .ok (.iconst 0, 1) := by decide +kernel
theorem dX0_cellsOf_22 : decode cX0_cellsOf 22 = .ok (.istore 4, 2) := by decide +kernel
theorem dX0_cellsOf_24 : decode cX0_cellsOf 24 = .ok (.iload 4, 2) := by decide +kernel
theorem dX0_cellsOf_26 : decode cX0_cellsOf 26 = .ok (.bipush 10, 2) := by decide +kernel
theorem dX0_cellsOf_28 : decode cX0_cellsOf 28 = .ok (.if_icmp .ge 23, 3) := by decide +kernel
theorem dX0_cellsOf_31 : decode cX0_cellsOf 31 = .ok (.lload_n 2, 1) := by decide +kernel
theorem dX0_cellsOf_32 : decode cX0_cellsOf 32 = .ok (.aload_n 0, 1) := by decide +kernel
theorem dX0_cellsOf_33 : decode cX0_cellsOf 33 = .ok (.getfield 9, 3) := by decide +kernel
theorem dX0_cellsOf_36 : decode cX0_cellsOf 36 = .ok (.iload 4, 2) := by decide +kernel
theorem dX0_cellsOf_38 : decode cX0_cellsOf 38 = .ok (.laload, 1) := by decide +kernel
theorem dX0_cellsOf_39 : decode cX0_cellsOf 39 = .ok (.ldc2_w 70, 3) := by decide +kernel
theorem dX0_cellsOf_42 : decode cX0_cellsOf 42 = .ok (.lxor, 1) := by decide +kernel
theorem dX0_cellsOf_43 : decode cX0_cellsOf 43 = .ok (.land, 1) := by decide +kernel
theorem dX0_cellsOf_44 : decode cX0_cellsOf 44 = .ok (.lstore_n 2, 1) := by decide +kernel
theorem dX0_cellsOf_45 : decode cX0_cellsOf 45 = .ok (.iinc 4 1, 3) := by decide +kernel
theorem dX0_cellsOf_48 : decode cX0_cellsOf 48 = .ok (.goto (-24), 3) := by decide +kernel
theorem dX0_cellsOf_51 : decode cX0_cellsOf 51 = .ok (.lload_n 2, 1) := by decide +kernel
theorem dX0_cellsOf_52 : decode cX0_cellsOf 52 = .ok (.lreturn, 1) := by decide +kernel
theorem dX0_ownerOf_0 : decode cX0_ownerOf 0 = .ok (.iconst 0, 1) := by decide +kernel
theorem dX0_ownerOf_1 : decode cX0_ownerOf 1 = .ok (.istore_n 3, 1) := by decide +kernel
theorem dX0_ownerOf_2 : decode cX0_ownerOf 2 = .ok (.iload_n 3, 1) := by decide +kernel
theorem dX0_ownerOf_3 : decode cX0_ownerOf 3 = .ok (.bipush 10, 2) := by decide +kernel
theorem dX0_ownerOf_5 : decode cX0_ownerOf 5 = .ok (.if_icmp .ge 24, 3) := by decide +kernel
theorem dX0_ownerOf_8 : decode cX0_ownerOf 8 = .ok (.aload_n 0, 1) := by decide +kernel
theorem dX0_ownerOf_9 : decode cX0_ownerOf 9 = .ok (.getfield 9, 3) := by decide +kernel
theorem dX0_ownerOf_12 : decode cX0_ownerOf 12 = .ok (.iload_n 3, 1) := by decide +kernel
theorem dX0_ownerOf_13 : decode cX0_ownerOf 13 = .ok (.laload, 1) := by decide +kernel
theorem dX0_ownerOf_14 : decode cX0_ownerOf 14 = .ok (.lload_n 1, 1) := by decide +kernel
theorem dX0_ownerOf_15 : decode cX0_ownerOf 15 = .ok (.land, 1) := by decide +kernel
theorem dX0_ownerOf_16 : decode cX0_ownerOf 16 = .ok (.lconst 0, 1) := by decide +kernel
theorem dX0_ownerOf_17 : decode cX0_ownerOf 17 = .ok (.lcmp, 1) := by decide +kernel
theorem dX0_ownerOf_18 : decode cX0_ownerOf 18 = .ok (.ifCond .eq 5, 3) := by decide +kernel
theorem dX0_ownerOf_21 : decode cX0_ownerOf 21 = .ok (.iload_n 3, 1) := by decide +kernel
theorem dX0_ownerOf_22 : decode cX0_ownerOf 22 = .ok (.ireturn, 1) := by decide +kernel
theorem dX0_ownerOf_23 : decode cX0_ownerOf 23 = .ok (.iinc 3 1, 3) := by decide +kernel
theorem dX0_ownerOf_26 : decode cX0_ownerOf 26 = .ok (.goto (-24), 3) := by decide +kernel
theorem dX0_ownerOf_29 : decode cX0_ownerOf 29 = .ok (.iconst (-1), 1) := by decide +kernel
theorem dX0_ownerOf_30 : decode cX0_ownerOf 30 = .ok (.ireturn, 1) := by decide +kernel
set_option maxRecDepth 20000 in
theorem ggX0_cover_X0_findNeighbours : GoodIn wsX0_cover wsX0_findNeighbours := goodIn_r _ [7, 8, 1, 9, 10, 11, 6, 12, 13, 14, 15, 16, 17, 18, 19, 20, 21, 22, 23, 24, 25, 26, 27, 28, 29, 30, 31, 32, 33, 34, 35, 36, 37, 38, 39] (by decide +kernel) (by decide +kernel)
set_option maxRecDepth 20000 in
theorem gX0_cover_X0_findNeighbours : GoodIn wsX0_cover (wsV RX0 203 RX0 yX0_findNeighbours wsX0_findNeighbours) := goodIn_app (goodIn_of _ (by decide +kernel)) ggX0_cover_X0_findNeighbours
theorem dX0_cover_0 : decode cX0_cover 0 = .ok (.iconst 0, 1) := by decide +kernel
theorem dX0_cover_1 : decode cX0_cover 1 = .ok (.istore 4, 2) := by decide +kernel
theorem dX0_cover_3 : decode cX0_cover 3 = .ok (.iload 4, 2) := by decide +kernel
theorem dX0_cover_5 : decode cX0_cover 5 = .ok (.bipush 10, 2) := by decide +kernel
theorem dX0_cover_7 : decode cX0_cover 7 = .ok (.if_icmp .ge 24, 3) := by decide +kernel
theorem dX0_cover_10 : decode cX0_cover 10 = .ok (.aload_n 0, 1) := by decide +kernel
theorem dX0_cover_11 : decode cX0_cover 11 = .ok (.getfield 9, 3) := by decide +kernel
theorem dX0_cover_14 : decode cX0_cover 14 = .ok (.iload 4, 2) := by decide +kernel
theorem dX0_cover_16 : decode cX0_cover 16 = .ok (.dup2, 1) := by decide +kernel
theorem dX0_cover_17 : decode cX0_cover 17 = .ok (.laload, 1) := by decide +kernel
theorem dX0_cover_18 : decode cX0_cover 18 = .ok (.lload_n 1, 1) := by decide +kernel
theorem dX0_cover_19 : decode cX0_cover 19 = .ok (.ldc2_w 70, 3) := by decide +kernel
theorem dX0_cover_22 : decode cX0_cover 22 = .ok (.lxor, 1) := by decide +kernel
theorem dX0_cover_23 : decode cX0_cover 23 = .ok (.land, 1) := by decide +kernel
theorem dX0_cover_24 : decode cX0_cover 24 = .ok (.lastore, 1) := by decide +kernel
theorem dX0_cover_25 : decode cX0_cover 25 = .ok (.iinc 4 1, 3) := by decide +kernel
theorem dX0_cover_28 : decode cX0_cover 28 = .ok (.goto (-25), 3) := by decide +kernel
theorem dX0_cover_31 : decode cX0_cover 31 = .ok (.iload_n 3, 1) := by decide +kernel
theorem dX0_cover_32 : decode cX0_cover 32 = .ok (.ifCond .lt 19, 3) := by decide +kernel
theorem dX0_cover_35 : decode cX0_cover 35 = .ok (.iload_n 3, 1) := by decide +kernel
theorem dX0_cover_36 : decode cX0_cover 36 = .ok (.bipush 10, 2) := by decide +kernel
theorem dX0_cover_38 : decode cX0_cover 38 = .ok (.if_icmp .ge 13, 3) := by decide +kernel
theorem dX0_cover_41 : decode cX0_cover 41 = .ok (.aload_n 0, 1) := by decide +kernel
theorem dX0_cover_42 : decode cX0_cover 42 = .ok (.getfield 9, 3) := by decide +kernel
theorem dX0_cover_45 : decode cX0_cover 45 = .ok (.iload_n 3, 1) := by decide +kernel
theorem dX0_cover_46 : decode cX0_cover 46 = .ok (.dup2, 1) := by decide +kernel
theorem dX0_cover_47 : decode cX0_cover 47 = .ok (.laload, 1) := by decide +kernel
theorem dX0_cover_48 : decode cX0_cover 48 = .ok (.lload_n 1, 1) := by decide +kernel
theorem dX0_cover_49 : decode cX0_cover 49 = .ok (.lor, 1) := by decide +kernel
theorem dX0_cover_50 : decode cX0_cover 50 = .ok (.lastore, 1) := by decide +kernel
theorem dX0_cover_51 : decode cX0_cover 51 = .ok (.aload_n 0, 1) := by decide +kernel
theorem dX0_cover_52 : decode cX0_cover 52 = .ok (.invokevirtual 203, 3) := by decide +kernel
theorem dX0_cover_55 : decode cX0_cover 55 = .ok (.return_, 1) := by decide +kernel
theorem dX0_has_0 : decode cX0_has 0 = .ok (.iload_n 0, 1) := by decide +kernel
theorem dX0_has_1 : decode cX0_has 1 = .ok (.iconst 1, 1) := by decide +kernel
theorem dX0_has_2 : decode cX0_has 2 = .ok (.iload_n 1, 1) := by decide +kernel
theorem dX0_has_3 : decode cX0_has 3 = .ok (.ishl, 1) := by decide +kernel
theorem dX0_has_4 : decode cX0_has 4 = .ok (.iand, 1) := by decide +kernel
theorem dX0_has_5 : decode cX0_has 5 = .ok (.ifCond .eq 7, 3) := by decide +kernel
theorem dX0_has_8 : decode cX0_has 8 = .ok (.iconst 1, 1) := by decide +kernel
theorem dX0_has_9 : decode cX0_has 9 = .ok (.goto 4, 3) := by decide +kernel
theorem dX0_has_12 : decode cX0_has 12 = .ok (.iconst 0, 1) := by decide +kernel
theorem dX0_has_13 : decode cX0_has 13 = .ok (.ireturn, 1) := by decide +kernel
set_option maxRecDepth 20000 in
theorem ggX0_findNeighbours_X0_spread : GoodIn wsX0_findNeighbours wsX0_spread := goodIn_r _ [7, 8, 9, 6, 10, 11, 12, 13, 14, 15, 16, 17, 18, 19, 20, 21, 22] (by decide +kernel) (by decide +kernel)
set_option maxRecDepth 20000 in
theorem gX0_findNeighbours_X0_spread : GoodIn wsX0_findNeighbours (va_wsS RX0 200 yX0_spread wsX0_spread) := goodIn_app (goodIn_of _ (by decide +kernel)) ggX0_findNeighbours_X0_spread
set_option maxRecDepth 20000 in
theorem ggX0_findNeighbours_X0_thoseIn : GoodIn wsX0_findNeighbours wsX0_thoseIn := goodIn_r _ [26, 2, 27, 28, 29, 30, 31, 32, 33, 34] (by decide +kernel) (by decide +kernel)
set_option maxRecDepth 20000 in
theorem gX0_findNeighbours_X0_thoseIn : GoodIn wsX0_findNeighbours (wsV RX0 206 RX0 yX0_thoseIn wsX0_thoseIn) := goodIn_app (goodIn_of _ (by decide +kernel)) ggX0_findNeighbours_X0_thoseIn
theorem dX0_findNeighbours_0 : decode cX0_findNeighbours 0 = .ok (.aload_n 0, 1) := by decide +kernel
theorem dX0_findNeighbours_1 : decode cX0_findNeighbours 1 = .ok (.iconst 0, 1) := by decide +kernel
theorem dX0_findNeighbours_2 : decode cX0_findNeighbours 2 = .ok (.putfield 13, 3) := by decide +kernel
theorem dX0_findNeighbours_5 : decode cX0_findNeighbours 5 = .ok (.iconst 0, 1) := by decide +kernel
theorem dX0_findNeighbours_6 : decode cX0_findNeighbours 6 = .ok (.istore_n 1, 1) := by decide +kernel
theorem dX0_findNeighbours_7 : decode cX0_findNeighbours 7 = .ok (.iload_n 1, 1) := by decide +kernel
theorem dX0_findNeighbours_8 : decode cX0_findNeighbours 8 = .ok (.bipush 10, 2) := by decide +kernel
theorem dX0_findNeighbours_10 : decode cX0_findNeighbours 10 = .ok (.if_icmp .ge 57, 3) := by decide +kernel
theorem dX0_findNeighbours_13 : decode cX0_findNeighbours 13 = .ok (.aload_n 0, 1) := by decide +kernel
theorem dX0_findNeighbours_14 : decode cX0_findNeighbours 14 = .ok (.getfield 9, 3) := by decide +kernel
theorem dX0_findNeighbours_17 : decode cX0_findNeighbours 17 = .ok (.iload_n 1, 1) := by decide +kernel
theorem dX0_findNeighbours_18 : decode cX0_findNeighbours 18 = .ok (.laload, 1) := by decide +kernel
theorem dX0_findNeighbours_19 : decode cX0_findNeighbours 19 = .ok (.lconst 0, 1) := by decide +kernel
theorem dX0_findNeighbours_20 : decode cX0_findNeighbours 20 = .ok (.lcmp, 1) := by decide +kernel
theorem dX0_findNeighbours_21 : decode cX0_findNeighbours 21 = .ok (.ifCond .eq 15, 3) := by decide +kernel
theorem dX0_findNeighbours_24 : decode cX0_findNeighbours 24 = .ok (.aload_n 0, 1) := by decide +kernel
theorem dX0_findNeighbours_25 : decode cX0_findNeighbours 25 = .ok (.dup, 1) := by decide +kernel
theorem dX0_findNeighbours_26 : decode cX0_findNeighbours 26 = .ok (.getfield 13, 3) := by decide +kernel
theorem dX0_findNeighbours_29 : decode cX0_findNeighbours 29 = .ok (.iconst 1, 1) := by decide +kernel
theorem dX0_findNeighbours_30 : decode cX0_findNeighbours 30 = .ok (.iload_n 1, 1) := by decide +kernel
theorem dX0_findNeighbours_31 : decode cX0_findNeighbours 31 = .ok (.ishl, 1) := by decide +kernel
theorem dX0_findNeighbours_32 : decode cX0_findNeighbours 32 = .ok (.ior, 1) := by decide +kernel
theorem dX0_findNeighbours_33 : decode cX0_findNeighbours 33 = .ok (.putfield 13, 3) := by decide +kernel
theorem dX0_findNeighbours_36 : decode cX0_findNeighbours 36 = .ok (.aload_n 0, 1) := by decide +kernel
theorem dX0_findNeighbours_37 : decode cX0_findNeighbours 37 = .ok (.getfield 17, 3) := by decide +kernel
theorem dX0_findNeighbours_40 : decode cX0_findNeighbours 40 = .ok (.iload_n 1, 1) := by decide +kernel
theorem dX0_findNeighbours_41 : decode cX0_findNeighbours 41 = .ok (.aload_n 0, 1) := by decide +kernel
theorem dX0_findNeighbours_42 : decode cX0_findNeighbours 42 = .ok (.aload_n 0, 1) := by decide +kernel
theorem dX0_findNeighbours_43 : decode cX0_findNeighbours 43 = .ok (.getfield 9, 3) := by decide +kernel
theorem dX0_findNeighbours_46 : decode cX0_findNeighbours 46 = .ok (.iload_n 1, 1) := by decide +kernel
theorem dX0_findNeighbours_47 : decode cX0_findNeighbours 47 = .ok (.laload, 1) := by decide +kernel
theorem dX0_findNeighbours_48 : decode cX0_findNeighbours 48 = .ok (.invokestatic 200, 3) := by decide +kernel
theorem dX0_findNeighbours_51 : decode cX0_findNeighbours 51 = .ok (.invokevirtual 206, 3) := by decide +kernel
theorem dX0_findNeighbours_54 : decode cX0_findNeighbours 54 = .ok (.iconst 1, 1) := by decide +kernel
theorem dX0_findNeighbours_55 : decode cX0_findNeighbours 55 = .ok (.iload_n 1, 1) := by decide +kernel
theorem dX0_findNeighbours_56 : decode cX0_findNeighbours 56 = .ok (.ishl, 1) := by decide +kernel
theorem dX0_findNeighbours_57 : decode cX0_findNeighbours 57 = .ok (.iconst (-1), 1) := by decide +kernel
theorem dX0_findNeighbours_58 : decode cX0_findNeighbours 58 = .ok (.ixor, 1) := by decide +kernel
theorem dX0_findNeighbours_59 : decode cX0_findNeighbours 59 = .ok (.iand, 1) := by decide +kernel
theorem dX0_findNeighbours_60 : decode cX0_findNeighbours 60 = .ok (.iastore, 1) := by decide +kernel
theorem dX0_findNeighbours_61 : decode cX0_findNeighbours 61 = .ok (.iinc 1 1, 3) := by decide +kernel
theorem dX0_findNeighbours_64 : decode cX0_findNeighbours 64 = .ok (.goto (-57), 3) := by decide +kernel
theorem dX0_findNeighbours_67 : decode cX0_findNeighbours 67 = .ok (.return_, 1) := by decide +kernel
theorem dX0_thoseIn_0 : decode cX0_thoseIn 0 = .ok (.iconst 0, 1) := by decide +kernel
theorem dX0_thoseIn_1 : decode cX0_thoseIn 1 = .ok (.istore_n 3, 1) := by decide +kernel
theorem dX0_thoseIn_2 : decode cX0_thoseIn 2 = .ok (.iconst 0, 1) := by decide +kernel
theorem dX0_thoseIn_3 : decode cX0_thoseIn 3 = .ok (.istore 4, 2) := by decide +kernel
theorem dX0_thoseIn_5 : decode cX0_thoseIn 5 = .ok (.iload 4, 2) := by decide +kernel
theorem dX0_thoseIn_7 : decode cX0_thoseIn 7 = .ok (.bipush 10, 2) := by decide +kernel
theorem dX0_thoseIn_9 : decode cX0_thoseIn 9 = .ok (.if_icmp .ge 30, 3) := by decide +kernel
theorem dX0_thoseIn_12 : decode cX0_thoseIn 12 = .ok (.aload_n 0, 1) := by decide +kernel
theorem dX0_thoseIn_13 : decode cX0_thoseIn 13 = .ok (.getfield 9, 3) := by decide +kernel
theorem dX0_thoseIn_16 : decode cX0_thoseIn 16 = .ok (.iload 4, 2) := by decide +kernel
theorem dX0_thoseIn_18 : decode cX0_thoseIn 18 = .ok (.laload, 1) := by decide +kernel
theorem dX0_thoseIn_19 : decode cX0_thoseIn 19 = .ok (.lload_n 1, 1) := by decide +kernel
theorem dX0_thoseIn_20 : decode cX0_thoseIn 20 = .ok (.land, 1) := by decide +kernel
theorem dX0_thoseIn_21 : decode cX0_thoseIn 21 = .ok (.lconst 0, 1) := by decide +kernel
theorem dX0_thoseIn_22 : decode cX0_thoseIn 22 = .ok (.lcmp, 1) := by decide +kernel
theorem dX0_thoseIn_23 : decode cX0_thoseIn 23 = .ok (.ifCond .eq 10, 3) := by decide +kernel
theorem dX0_thoseIn_26 : decode cX0_thoseIn 26 = .ok (.iload_n 3, 1) := by decide +kernel
theorem dX0_thoseIn_27 : decode cX0_thoseIn 27 = .ok (.iconst 1, 1) := by decide +kernel
theorem dX0_thoseIn_28 : decode cX0_thoseIn 28 = .ok (.iload 4, 2) := by decide +kernel
theorem dX0_thoseIn_30 : decode cX0_thoseIn 30 = .ok (.ishl, 1) := by decide +kernel
theorem dX0_thoseIn_31 : decode cX0_thoseIn 31 = .ok (.ior, 1) := by decide +kernel
theorem dX0_thoseIn_32 : decode cX0_thoseIn 32 = .ok (.istore_n 3, 1) := by decide +kernel
theorem dX0_thoseIn_33 : decode cX0_thoseIn 33 = .ok (.iinc 4 1, 3) := by decide +kernel
theorem dX0_thoseIn_36 : decode cX0_thoseIn 36 = .ok (.goto (-31), 3) := by decide +kernel
theorem dX0_thoseIn_39 : decode cX0_thoseIn 39 = .ok (.iload_n 3, 1) := by decide +kernel
theorem dX0_thoseIn_40 : decode cX0_thoseIn 40 = .ok (.ireturn, 1) := by decide +kernel
set_option maxRecDepth 20000 in
theorem ggX0_withNeighbours_X0_has : GoodIn wsX0_withNeighbours wsX0_has := goodIn_r _ [6] (by decide +kernel) (by decide +kernel)
set_option maxRecDepth 20000 in
theorem gX0_withNeighbours_X0_has : GoodIn wsX0_withNeighbours (va_wsS RX0 140 yX0_has wsX0_has) := goodIn_app (goodIn_of _ (by decide +kernel)) ggX0_withNeighbours_X0_has
set_option maxRecDepth 20000 in
theorem ggX0_withNeighbours_J6_bitCount_0f7a4 : GoodIn wsX0_withNeighbours wsJ6_bitCount_0f7a4 := goodIn_r _ [10, 11, 12, 13] (by decide +kernel) (by decide +kernel)
set_option maxRecDepth 20000 in
theorem gX0_withNeighbours_J6_bitCount_0f7a4 : GoodIn wsX0_withNeighbours (va_wsS RX0 77 yJ6_bitCount_0f7a4 wsJ6_bitCount_0f7a4) := goodIn_app (goodIn_of _ (by decide +kernel)) ggX0_withNeighbours_J6_bitCount_0f7a4
theorem dX0_withNeighbours_0 : decode cX0_withNeighbours 0 = .ok (.iconst 0, 1) := by decide +kernel
theorem dX0_withNeighbours_1 : decode cX0_withNeighbours 1 = .ok (.istore_n 2, 1) := by decide +kernel
theorem dX0_withNeighbours_2 : decode cX0_withNeighbours 2 = .ok (.iconst 0, 1) := by decide +kernel
theorem dX0_withNeighbours_3 : decode cX0_withNeighbours 3 = .ok (.istore_n 3, 1) := by decide +kernel
theorem dX0_withNeighbours_4 : decode cX0_withNeighbours 4 = .ok (.iload_n 3, 1) := by decide +kernel
theorem dX0_withNeighbours_5 : decode cX0_withNeighbours 5 = .ok (.bipush 10, 2) := by decide +kernel
theorem dX0_withNeighbours_7 : decode cX0_withNeighbours 7 = .ok (.if_icmp .ge 39, 3) := by decide +kernel
theorem dX0_withNeighbours_10 : decode cX0_withNeighbours 10 = .ok (.aload_n 0, 1) := by decide +kernel
theorem dX0_withNeighbours_11 : decode cX0_withNeighbours 11 = .ok (.getfield 13, 3) := by decide +kernel
theorem dX0_withNeighbours_14 : decode cX0_withNeighbours 14 = .ok (.iload_n 3, 1) := by decide +kernel
theorem dX0_withNeighbours_15 : decode cX0_withNeighbours 15 = .ok (.invokestatic 140, 3) := by decide +kernel
theorem dX0_withNeighbours_18 : decode cX0_withNeighbours 18 = .ok (.ifCond .eq 22, 3) := by decide +kernel
theorem dX0_withNeighbours_21 : decode cX0_withNeighbours 21 = .ok (.aload_n 0, 1) := by decide +kernel
theorem dX0_withNeighbours_22 : decode cX0_withNeighbours 22 = .ok (.getfield 17, 3) := by decide +kernel
theorem dX0_withNeighbours_25 : decode cX0_withNeighbours 25 = .ok (.iload_n 3, 1) := by decide +kernel
theorem dX0_withNeighbours_26 : decode cX0_withNeighbours 26 = .ok (.iaload, 1) := by decide +kernel
theorem dX0_withNeighbours_27 : decode cX0_withNeighbours 27 = .ok (.invokestatic 77, 3) := by decide +kernel
theorem dX0_withNeighbours_30 : decode cX0_withNeighbours 30 = .ok (.iload_n 1, 1) := by decide +kernel
theorem dX0_withNeighbours_31 : decode cX0_withNeighbours 31 = .ok (.if_icmp .ne 9, 3) := by decide +kernel
theorem dX0_withNeighbours_34 : decode cX0_withNeighbours 34 = .ok (.iload_n 2, 1) := by decide +kernel
theorem dX0_withNeighbours_35 : decode cX0_withNeighbours 35 = .ok (.iconst 1, 1) := by decide +kernel
theorem dX0_withNeighbours_36 : decode cX0_withNeighbours 36 = .ok (.iload_n 3, 1) := by decide +kernel
theorem dX0_withNeighbours_37 : decode cX0_withNeighbours 37 = .ok (.ishl, 1) := by decide +kernel
theorem dX0_withNeighbours_38 : decode cX0_withNeighbours 38 = .ok (.ior, 1) := by decide +kernel
theorem dX0_withNeighbours_39 : decode cX0_withNeighbours 39 = .ok (.istore_n 2, 1) := by decide +kernel
theorem dX0_withNeighbours_40 : decode cX0_withNeighbours 40 = .ok (.iinc 3 1, 3) := by decide +kernel
theorem dX0_withNeighbours_43 : decode cX0_withNeighbours 43 = .ok (.goto (-39), 3) := by decide +kernel
theorem dX0_withNeighbours_46 : decode cX0_withNeighbours 46 = .ok (.iload_n 2, 1) := by decide +kernel
theorem dX0_withNeighbours_47 : decode cX0_withNeighbours 47 = .ok (.ireturn, 1) := by decide +kernel
theorem dX0_markSetsOfNeighbours_0 : decode cX0_markSetsOfNeighbours 0 = .ok (.aload_n 0, 1) := by decide +kernel
theorem dX0_markSetsOfNeighbours_1 : decode cX0_markSetsOfNeighbours 1 = .ok (.getfield 27, 3) := by decide +kernel
theorem dX0_markSetsOfNeighbours_4 : decode cX0_markSetsOfNeighbours 4 = .ok (.iconst 0, 1) := by decide +kernel
theorem dX0_markSetsOfNeighbours_5 : decode cX0_markSetsOfNeighbours 5 = .ok (.iconst 1, 1) := by decide +kernel
theorem dX0_markSetsOfNeighbours_6 : decode cX0_markSetsOfNeighbours 6 = .ok (.bastore, 1) := by decide +kernel
theorem dX0_markSetsOfNeighbours_7 : decode cX0_markSetsOfNeighbours 7 = .ok (.iconst 0, 1) := by decide +kernel
theorem dX0_markSetsOfNeighbours_8 : decode cX0_markSetsOfNeighbours 8 = .ok (.istore_n 1, 1) := by decide +kernel
theorem dX0_markSetsOfNeighbours_9 : decode cX0_markSetsOfNeighbours 9 = .ok (.iload_n 1, 1) := by decide +kernel
theorem dX0_markSetsOfNeighbours_10 : decode cX0_markSetsOfNeighbours 10 = .ok (.bipush 10, 2) := by decide +kernel
theorem dX0_markSetsOfNeighbours_12 : decode cX0_markSetsOfNeighbours 12 = .ok (.if_icmp .ge 61, 3) := by decide +kernel
theorem dX0_markSetsOfNeighbours_15 : decode cX0_markSetsOfNeighbours 15 = .ok (.iconst 0, 1) := by decide +kernel
theorem dX0_markSetsOfNeighbours_16 : decode cX0_markSetsOfNeighbours 16 = .ok (.istore_n 2, 1) := by decide +kernel
theorem dX0_markSetsOfNeighbours_17 : decode cX0_markSetsOfNeighbours 17 = .ok (.iload_n 2, 1) := by decide +kernel
theorem dX0_markSetsOfNeighbours_18 : decode cX0_markSetsOfNeighbours 18 = .ok (.iconst 1, 1) := by decide +kernel
theorem dX0_markSetsOfNeighbours_19 : decode cX0_markSetsOfNeighbours 19 = .ok (.iload_n 1, 1) := by decide +kernel
theorem dX0_markSetsOfNeighbours_20 : decode cX0_markSetsOfNeighbours 20 = .ok (.ishl, 1) := by decide +kernel
theorem dX0_markSetsOfNeighbours_21 : decode cX0_markSetsOfNeighbours 21 = .ok (.if_icmp .ge 46, 3) := by decide +kernel
theorem dX0_markSetsOfNeighbours_24 : decode cX0_markSetsOfNeighbours 24 = .ok (.aload_n 0, 1) := by decide +kernel
theorem dX0_markSetsOfNeighbours_25 : decode cX0_markSetsOfNeighbours 25 = .ok (.getfield 27, 3) := by decide +kernel
theorem dX0_markSetsOfNeighbours_28 : decode cX0_markSetsOfNeighbours 28 = .ok (.iload_n 2, 1) := by decide +kernel
theorem dX0_markSetsOfNeighbours_29 : decode cX0_markSetsOfNeighbours 29 = .ok (.iconst 1, 1) := by decide +kernel
theorem dX0_markSetsOfNeighbours_30 : decode cX0_markSetsOfNeighbours 30 = .ok (.iload_n 1, 1) := by decide +kernel
theorem dX0_markSetsOfNeighbours_31 : decode cX0_markSetsOfNeighbours 31 = .ok (.ishl, 1) := by decide +kernel
theorem dX0_markSetsOfNeighbours_32 : decode cX0_markSetsOfNeighbours 32 = .ok (.ior, 1) := by decide +kernel
theorem dX0_markSetsOfNeighbours_33 : decode cX0_markSetsOfNeighbours 33 = .ok (.aload_n 0, 1) := by decide +kernel
theorem dX0_markSetsOfNeighbours_34 : decode cX0_markSetsOfNeighbours 34 = .ok (.getfield 27, 3) := by decide +kernel
theorem dX0_markSetsOfNeighbours_37 : decode cX0_markSetsOfNeighbours 37 = .ok (.iload_n 2, 1) := by decide +kernel
theorem dX0_markSetsOfNeighbours_38 : decode cX0_markSetsOfNeighbours 38 = .ok (.baload, 1) := by decide +kernel
theorem dX0_markSetsOfNeighbours_39 : decode cX0_markSetsOfNeighbours 39 = .ok (.ifCond .eq 20, 3) := by decide +kernel
theorem dX0_markSetsOfNeighbours_42 : decode cX0_markSetsOfNeighbours 42 = .ok (.iload_n 2, 1) := by decide +kernel
theorem dX0_markSetsOfNeighbours_43 : decode cX0_markSetsOfNeighbours 43 = .ok (.aload_n 0, 1) := by decide +kernel
theorem dX0_markSetsOfNeighbours_44 : decode cX0_markSetsOfNeighbours 44 = .ok (.getfield 17, 3) := by decide +kernel
theorem dX0_markSetsOfNeighbours_47 : decode cX0_markSetsOfNeighbours 47 = .ok (.iload_n 1, 1) := by decide +kernel
theorem dX0_markSetsOfNeighbours_48 : decode cX0_markSetsOfNeighbours 48 = .ok (.iaload, 1) := by decide +kernel
theorem dX0_markSetsOfNeighbours_49 : decode cX0_markSetsOfNeighbours 49 = .ok (.iconst (-1), 1) := by decide +kernel
theorem dX0_markSetsOfNeighbours_50 : decode cX0_markSetsOfNeighbours 50 = .ok (.ixor, 1) := by decide +kernel
theorem dX0_markSetsOfNeighbours_51 : decode cX0_markSetsOfNeighbours 51 = .ok (.iand, 1) := by decide +kernel
theorem dX0_markSetsOfNeighbours_52 : decode cX0_markSetsOfNeighbours 52 = .ok (.ifCond .ne 7, 3) := by decide +kernel
theorem dX0_markSetsOfNeighbours_55 : decode cX0_markSetsOfNeighbours 55 = .ok (.iconst 1, 1) := by decide +kernel
theorem dX0_markSetsOfNeighbours_56 : decode cX0_markSetsOfNeighbours 56 = .ok (.goto 4, 3) := by decide +kernel
theorem dX0_markSetsOfNeighbours_59 : decode cX0_markSetsOfNeighbours 59 = .ok (.iconst 0, 1) := by decide +kernel
theorem dX0_markSetsOfNeighbours_60 : decode cX0_markSetsOfNeighbours 60 = .ok (.bastore, 1) := by decide +kernel
theorem dX0_markSetsOfNeighbours_61 : decode cX0_markSetsOfNeighbours 61 = .ok (.iinc 2 1, 3) := by decide +kernel
theorem dX0_markSetsOfNeighbours_64 : decode cX0_markSetsOfNeighbours 64 = .ok (.goto (-47), 3) := by decide +kernel
theorem dX0_markSetsOfNeighbours_67 : decode cX0_markSetsOfNeighbours 67 = .ok (.iinc 1 1, 3) := by decide +kernel
theorem dX0_markSetsOfNeighbours_70 : decode cX0_markSetsOfNeighbours 70 = .ok (.goto (-61), 3) := by decide +kernel
theorem dX0_markSetsOfNeighbours_73 : decode cX0_markSetsOfNeighbours 73 = .ok (.return_, 1) := by decide +kernel
theorem dX0_markSetsWithoutNeighbours_0 : decode cX0_markSetsWithoutNeighbours 0 = .ok (.aload_n 0, 1) := by decide +kernel
theorem dX0_markSetsWithoutNeighbours_1 : decode cX0_markSetsWithoutNeighbours 1 = .ok (.getfield 27, 3) := by decide +kernel
theorem dX0_markSetsWithoutNeighbours_4 : decode cX0_markSetsWithoutNeighbours 4 = .ok (.iconst 0, 1) := by decide +kernel
theorem dX0_markSetsWithoutNeighbours_5 : decode cX0_markSetsWithoutNeighbours 5 = .ok (.iconst 1, 1) := by decide +kernel
theorem dX0_markSetsWithoutNeighbours_6 : decode cX0_markSetsWithoutNeighbours 6 = .ok (.bastore, 1) := by decide +kernel
theorem dX0_markSetsWithoutNeighbours_7 : decode cX0_markSetsWithoutNeighbours 7 = .ok (.iconst 0, 1) := by decide +kernel
theorem dX0_markSetsWithoutNeighbours_8 : decode cX0_markSetsWithoutNeighbours 8 = .ok (.istore_n 1, 1) := by decide +kernel
theorem dX0_markSetsWithoutNeighbours_9 : decode cX0_markSetsWithoutNeighbours 9 = .ok (.iload_n 1, 1) := by decide +kernel
theorem dX0_markSetsWithoutNeighbours_10 : decode cX0_markSetsWithoutNeighbours 10 = .ok (.bipush 10, 2) := by decide +kernel
theorem dX0_markSetsWithoutNeighbours_12 : decode cX0_markSetsWithoutNeighbours 12 = .ok (.if_icmp .ge 59, 3) := by decide +kernel
theorem dX0_markSetsWithoutNeighbours_15 : decode cX0_markSetsWithoutNeighbours 15 = .ok (.iconst 0, 1) := by decide +kernel
theorem dX0_markSetsWithoutNeighbours_16 : decode cX0_markSetsWithoutNeighbours 16 = .ok (.istore_n 2, 1) := by decide +kernel
theorem dX0_markSetsWithoutNeighbours_17 : decode cX0_markSetsWithoutNeighbours 17 = .ok (.iload_n 2, 1) := by decide +kernel
theorem dX0_markSetsWithoutNeighbours_18 : decode cX0_markSetsWithoutNeighbours 18 = .ok (.iconst 1, 1) := by decide +kernel
theorem dX0_markSetsWithoutNeighbours_19 : decode cX0_markSetsWithoutNeighbours 19 = .ok (.iload_n 1, 1) := by decide +kernel
theorem dX0_markSetsWithoutNeighbours_20 : decode cX0_markSetsWithoutNeighbours 20 = .ok (.ishl, 1) := by decide +kernel
theorem dX0_markSetsWithoutNeighbours_21 : decode cX0_markSetsWithoutNeighbours 21 = .ok (.if_icmp .ge 44, 3) := by decide +kernel
theorem dX0_markSetsWithoutNeighbours_24 : decode cX0_markSetsWithoutNeighbours 24 = .ok (.aload_n 0, 1) := by decide +kernel
theorem dX0_markSetsWithoutNeighbours_25 : decode cX0_markSetsWithoutNeighbours 25 = .ok (.getfield 27, 3) := by decide +kernel
theorem dX0_markSetsWithoutNeighbours_28 : decode cX0_markSetsWithoutNeighbours 28 = .ok (.iload_n 2, 1) := by decide +kernel
theorem dX0_markSetsWithoutNeighbours_29 : decode cX0_markSetsWithoutNeighbours 29 = .ok (.iconst 1, 1) := by decide +kernel
theorem dX0_markSetsWithoutNeighbours_30 : decode cX0_markSetsWithoutNeighbours 30 = .ok (.iload_n 1, 1) := by decide +kernel
theorem dX0_markSetsWithoutNeighbours_31 : decode cX0_markSetsWithoutNeighbours 31 = .ok (.ishl, 1) := by decide +kernel
theorem dX0_markSetsWithoutNeighbours_32 : decode cX0_markSetsWithoutNeighbours 32 = .ok (.ior, 1) := by decide +kernel
theorem dX0_markSetsWithoutNeighbours_33 : decode cX0_markSetsWithoutNeighbours 33 = .ok (.aload_n 0, 1) := by decide +kernel
theorem dX0_markSetsWithoutNeighbours_34 : decode cX0_markSetsWithoutNeighbours 34 = .ok (.getfield 27, 3) := by decide +kernel
theorem dX0_markSetsWithoutNeighbours_37 : decode cX0_markSetsWithoutNeighbours 37 = .ok (.iload_n 2, 1) := by decide +kernel
theorem dX0_markSetsWithoutNeighbours_38 : decode cX0_markSetsWithoutNeighbours 38 = .ok (.baload, 1) := by decide +kernel
theorem dX0_markSetsWithoutNeighbours_39 : decode cX0_markSetsWithoutNeighbours 39 = .ok (.ifCond .eq 18, 3) := by decide +kernel
theorem dX0_markSetsWithoutNeighbours_42 : decode cX0_markSetsWithoutNeighbours 42 = .ok (.iload_n 2, 1) := by decide +kernel
theorem dX0_markSetsWithoutNeighbours_43 : decode cX0_markSetsWithoutNeighbours 43 = .ok (.aload_n 0, 1) := by decide +kernel
theorem dX0_markSetsWithoutNeighbours_44 : decode cX0_markSetsWithoutNeighbours 44 = .ok (.getfield 17, 3) := by decide +kernel
theorem dX0_markSetsWithoutNeighbours_47 : decode cX0_markSetsWithoutNeighbours 47 = .ok (.iload_n 1, 1) := by decide +kernel
theorem dX0_markSetsWithoutNeighbours_48 : decode cX0_markSetsWithoutNeighbours 48 = .ok (.iaload, 1) := by decide +kernel
theorem dX0_markSetsWithoutNeighbours_49 : decode cX0_markSetsWithoutNeighbours 49 = .ok (.iand, 1) := by decide +kernel
theorem dX0_markSetsWithoutNeighbours_50 : decode cX0_markSetsWithoutNeighbours 50 = .ok (.ifCond .ne 7, 3) := by decide +kernel
theorem dX0_markSetsWithoutNeighbours_53 : decode cX0_markSetsWithoutNeighbours 53 = .ok (.iconst 1, 1) := by decide +kernel
theorem dX0_markSetsWithoutNeighbours_54 : decode cX0_markSetsWithoutNeighbours 54 = .ok (.goto 4, 3) := by decide +kernel
theorem dX0_markSetsWithoutNeighbours_57 : decode cX0_markSetsWithoutNeighbours 57 = .ok (.iconst 0, 1) := by decide +kernel
theorem dX0_markSetsWithoutNeighbours_58 : decode cX0_markSetsWithoutNeighbours 58 = .ok (.bastore, 1) := by decide +kernel
theorem dX0_markSetsWithoutNeighbours_59 : decode cX0_markSetsWithoutNeighbours 59 = .ok (.iinc 2 1, 3) := by decide +kernel
theorem dX0_markSetsWithoutNeighbours_62 : decode cX0_markSetsWithoutNeighbours 62 = .ok (.goto (-45), 3) := by decide +kernel
theorem dX0_markSetsWithoutNeighbours_65 : decode cX0_markSetsWithoutNeighbours 65 = .ok (.iinc 1 1, 3) := by decide +kernel
theorem dX0_markSetsWithoutNeighbours_68 : decode cX0_markSetsWithoutNeighbours 68 = .ok (.goto (-59), 3) := by decide +kernel
theorem dX0_markSetsWithoutNeighbours_71 : decode cX0_markSetsWithoutNeighbours 71 = .ok (.return_, 1) := by decide +kernel
theorem dX0_wearing_0 : decode cX0_wearing 0 = .ok (.iconst 0, 1) := by decide +kernel
theorem dX0_wearing_1 : decode cX0_wearing 1 = .ok (.istore_n 2, 1) := by decide +kernel
theorem dX0_wearing_2 : decode cX0_wearing 2 = .ok (.iconst 0, 1) := by decide +kernel
theorem dX0_wearing_3 : decode cX0_wearing 3 = .ok (.istore_n 3, 1) := by decide +kernel
theorem dX0_wearing_4 : decode cX0_wearing 4 = .ok (.iload_n 3, 1) := by decide +kernel
theorem dX0_wearing_5 : decode cX0_wearing 5 = .ok (.bipush 10, 2) := by decide +kernel
theorem dX0_wearing_7 : decode cX0_wearing 7 = .ok (.if_icmp .ge 25, 3) := by decide +kernel
theorem dX0_wearing_10 : decode cX0_wearing 10 = .ok (.aload_n 0, 1) := by decide +kernel
theorem dX0_wearing_11 : decode cX0_wearing 11 = .ok (.getfield 21, 3) := by decide +kernel
theorem dX0_wearing_14 : decode cX0_wearing 14 = .ok (.iload_n 3, 1) := by decide +kernel
theorem dX0_wearing_15 : decode cX0_wearing 15 = .ok (.iaload, 1) := by decide +kernel
theorem dX0_wearing_16 : decode cX0_wearing 16 = .ok (.iload_n 1, 1) := by decide +kernel
theorem dX0_wearing_17 : decode cX0_wearing 17 = .ok (.if_icmp .ne 9, 3) := by decide +kernel
theorem dX0_wearing_20 : decode cX0_wearing 20 = .ok (.iload_n 2, 1) := by decide +kernel
theorem dX0_wearing_21 : decode cX0_wearing 21 = .ok (.iconst 1, 1) := by decide +kernel
theorem dX0_wearing_22 : decode cX0_wearing 22 = .ok (.iload_n 3, 1) := by decide +kernel
theorem dX0_wearing_23 : decode cX0_wearing 23 = .ok (.ishl, 1) := by decide +kernel
theorem dX0_wearing_24 : decode cX0_wearing 24 = .ok (.ior, 1) := by decide +kernel
theorem dX0_wearing_25 : decode cX0_wearing 25 = .ok (.istore_n 2, 1) := by decide +kernel
theorem dX0_wearing_26 : decode cX0_wearing 26 = .ok (.iinc 3 1, 3) := by decide +kernel
theorem dX0_wearing_29 : decode cX0_wearing 29 = .ok (.goto (-25), 3) := by decide +kernel
theorem dX0_wearing_32 : decode cX0_wearing 32 = .ok (.iload_n 2, 1) := by decide +kernel
theorem dX0_wearing_33 : decode cX0_wearing 33 = .ok (.ireturn, 1) := by decide +kernel
set_option maxRecDepth 20000 in
theorem ggX0_leastFreeBeside_X0_wearing : GoodIn wsX0_leastFreeBeside wsX0_wearing := goodIn_r _ [5, 6, 7, 8, 9, 10, 11, 12, 13, 14] (by decide +kernel) (by decide +kernel)
set_option maxRecDepth 20000 in
theorem gX0_leastFreeBeside_X0_wearing : GoodIn wsX0_leastFreeBeside (wsV RX0 124 RX0 yX0_wearing wsX0_wearing) := goodIn_app (goodIn_of _ (by decide +kernel)) ggX0_leastFreeBeside_X0_wearing
theorem dX0_leastFreeBeside_0 : decode cX0_leastFreeBeside 0 = .ok (.iconst 1, 1) := by decide +kernel
theorem dX0_leastFreeBeside_1 : decode cX0_leastFreeBeside 1 = .ok (.istore_n 2, 1) := by decide +kernel
theorem dX0_leastFreeBeside_2 : decode cX0_leastFreeBeside 2 = .ok (.iload_n 2, 1) := by decide +kernel
theorem dX0_leastFreeBeside_3 : decode cX0_leastFreeBeside 3 = .ok (.bipush 10, 2) := by decide +kernel
theorem dX0_leastFreeBeside_5 : decode cX0_leastFreeBeside 5 = .ok (.if_icmp .ge 21, 3) := by decide +kernel
theorem dX0_leastFreeBeside_8 : decode cX0_leastFreeBeside 8 = .ok (.aload_n 0, 1) := by decide +kernel
theorem dX0_leastFreeBeside_9 : decode cX0_leastFreeBeside 9 = .ok (.iload_n 2, 1) := by decide +kernel
theorem dX0_leastFreeBeside_10 : decode cX0_leastFreeBeside 10 = .ok (.invokevirtual 124, 3) := by decide +kernel
theorem dX0_leastFreeBeside_13 : decode cX0_leastFreeBeside 13 = .ok (.iload_n 1, 1) := by decide +kernel
theorem dX0_leastFreeBeside_14 : decode cX0_leastFreeBeside 14 = .ok (.iand, 1) := by decide +kernel
theorem dX0_leastFreeBeside_15 : decode cX0_leastFreeBeside 15 = .ok (.ifCond .ne 5, 3) := by decide +kernel
theorem dX0_leastFreeBeside_18 : decode cX0_leastFreeBeside 18 = .ok (.iload_n 2, 1) := by decide +kernel
theorem dX0_leastFreeBeside_19 : decode cX0_leastFreeBeside 19 = .ok (.ireturn, 1) := by decide +kernel
theorem dX0_leastFreeBeside_20 : decode cX0_leastFreeBeside 20 = .ok (.iinc 2 1, 3) := by decide +kernel
theorem dX0_leastFreeBeside_23 : decode cX0_leastFreeBeside 23 = .ok (.goto (-21), 3) := by decide +kernel
theorem dX0_leastFreeBeside_26 : decode cX0_leastFreeBeside 26 = .ok (.bipush 10, 2) := by decide +kernel
theorem dX0_leastFreeBeside_28 : decode cX0_leastFreeBeside 28 = .ok (.ireturn, 1) := by decide +kernel
set_option maxRecDepth 20000 in
theorem ggX0_giveLeastFree_X0_has : GoodIn wsX0_giveLeastFree wsX0_has := goodIn_r _ [10] (by decide +kernel) (by decide +kernel)
set_option maxRecDepth 20000 in
theorem gX0_giveLeastFree_X0_has : GoodIn wsX0_giveLeastFree (va_wsS RX0 140 yX0_has wsX0_has) := goodIn_app (goodIn_of _ (by decide +kernel)) ggX0_giveLeastFree_X0_has
set_option maxRecDepth 20000 in
theorem ggX0_giveLeastFree_X0_leastFreeBeside : GoodIn wsX0_giveLeastFree wsX0_leastFreeBeside := goodIn_r _ [14, 15, 16, 17, 9, 18, 1, 19, 20, 21, 22, 23, 24, 25, 26] (by decide +kernel) (by decide +kernel)
set_option maxRecDepth 20000 in
theorem gX0_giveLeastFree_X0_leastFreeBeside : GoodIn wsX0_giveLeastFree (wsV RX0 131 RX0 yX0_leastFreeBeside wsX0_leastFreeBeside) := goodIn_app (goodIn_of _ (by decide +kernel)) ggX0_giveLeastFree_X0_leastFreeBeside
theorem dX0_giveLeastFree_0 : decode cX0_giveLeastFree 0 = .ok (.iconst 0, 1) := by decide +kernel
theorem dX0_giveLeastFree_1 : decode cX0_giveLeastFree 1 = .ok (.istore_n 2, 1) := by decide +kernel
theorem dX0_giveLeastFree_2 : decode cX0_giveLeastFree 2 = .ok (.iconst 0, 1) := by decide +kernel
theorem dX0_giveLeastFree_3 : decode cX0_giveLeastFree 3 = .ok (.istore_n 3, 1) := by decide +kernel
theorem dX0_giveLeastFree_4 : decode cX0_giveLeastFree 4 = .ok (.iload_n 3, 1) := by decide +kernel
theorem dX0_giveLeastFree_5 : decode cX0_giveLeastFree 5 = .ok (.bipush 10, 2) := by decide +kernel
theorem dX0_giveLeastFree_7 : decode cX0_giveLeastFree 7 = .ok (.if_icmp .ge 44, 3) := by decide +kernel
theorem dX0_giveLeastFree_10 : decode cX0_giveLeastFree 10 = .ok (.iload_n 1, 1) := by decide +kernel
theorem dX0_giveLeastFree_11 : decode cX0_giveLeastFree 11 = .ok (.iload_n 3, 1) := by decide +kernel
theorem dX0_giveLeastFree_12 : decode cX0_giveLeastFree 12 = .ok (.invokestatic 140, 3) := by decide +kernel
theorem dX0_giveLeastFree_15 : decode cX0_giveLeastFree 15 = .ok (.ifCond .eq 30, 3) := by decide +kernel
theorem dX0_giveLeastFree_18 : decode cX0_giveLeastFree 18 = .ok (.aload_n 0, 1) := by decide +kernel
theorem dX0_giveLeastFree_19 : decode cX0_giveLeastFree 19 = .ok (.getfield 21, 3) := by decide +kernel
theorem dX0_giveLeastFree_22 : decode cX0_giveLeastFree 22 = .ok (.iload_n 3, 1) := by decide +kernel
theorem dX0_giveLeastFree_23 : decode cX0_giveLeastFree 23 = .ok (.aload_n 0, 1) := by decide +kernel
theorem dX0_giveLeastFree_24 : decode cX0_giveLeastFree 24 = .ok (.aload_n 0, 1) := by decide +kernel
theorem dX0_giveLeastFree_25 : decode cX0_giveLeastFree 25 = .ok (.getfield 17, 3) := by decide +kernel
theorem dX0_giveLeastFree_28 : decode cX0_giveLeastFree 28 = .ok (.iload_n 3, 1) := by decide +kernel
theorem dX0_giveLeastFree_29 : decode cX0_giveLeastFree 29 = .ok (.iaload, 1) := by decide +kernel
theorem dX0_giveLeastFree_30 : decode cX0_giveLeastFree 30 = .ok (.invokevirtual 131, 3) := by decide +kernel
theorem dX0_giveLeastFree_33 : decode cX0_giveLeastFree 33 = .ok (.iastore, 1) := by decide +kernel
theorem dX0_giveLeastFree_34 : decode cX0_giveLeastFree 34 = .ok (.iload_n 2, 1) := by decide +kernel
theorem dX0_giveLeastFree_35 : decode cX0_giveLeastFree 35 = .ok (.aload_n 0, 1) := by decide +kernel
theorem dX0_giveLeastFree_36 : decode cX0_giveLeastFree 36 = .ok (.getfield 21, 3) := by decide +kernel
theorem dX0_giveLeastFree_39 : decode cX0_giveLeastFree 39 = .ok (.iload_n 3, 1) := by decide +kernel
theorem dX0_giveLeastFree_40 : decode cX0_giveLeastFree 40 = .ok (.iaload, 1) := by decide +kernel
theorem dX0_giveLeastFree_41 : decode cX0_giveLeastFree 41 = .ok (.invokestatic 92, 3) := by decide +kernel
theorem dX0_giveLeastFree_44 : decode cX0_giveLeastFree 44 = .ok (.istore_n 2, 1) := by decide +kernel
theorem dX0_giveLeastFree_45 : decode cX0_giveLeastFree 45 = .ok (.iinc 3 1, 3) := by decide +kernel
theorem dX0_giveLeastFree_48 : decode cX0_giveLeastFree 48 = .ok (.goto (-44), 3) := by decide +kernel
theorem dX0_giveLeastFree_51 : decode cX0_giveLeastFree 51 = .ok (.iload_n 2, 1) := by decide +kernel
theorem dX0_giveLeastFree_52 : decode cX0_giveLeastFree 52 = .ok (.ireturn, 1) := by decide +kernel
set_option maxRecDepth 20000 in
theorem ggX0_chainOf_X0_wearing : GoodIn wsX0_chainOf wsX0_wearing := goodIn_r _ [8, 2, 12, 13, 14, 15, 16, 17, 18, 19] (by decide +kernel) (by decide +kernel)
set_option maxRecDepth 20000 in
theorem gX0_chainOf_X0_wearing : GoodIn wsX0_chainOf (wsV RX0 124 RX0 yX0_wearing wsX0_wearing) := goodIn_app (goodIn_of _ (by decide +kernel)) ggX0_chainOf_X0_wearing
set_option maxRecDepth 20000 in
theorem ggX0_chainOf_X0_has : GoodIn wsX0_chainOf wsX0_has := goodIn_r _ [11] (by decide +kernel) (by decide +kernel)
set_option maxRecDepth 20000 in
theorem gX0_chainOf_X0_has : GoodIn wsX0_chainOf (va_wsS RX0 140 yX0_has wsX0_has) := goodIn_app (goodIn_of _ (by decide +kernel)) ggX0_chainOf_X0_has
theorem dX0_chainOf_0 : decode cX0_chainOf 0 = .ok (.aload_n 0, 1) := by decide +kernel
theorem dX0_chainOf_1 : decode cX0_chainOf 1 = .ok (.getfield 13, 3) := by decide +kernel
theorem dX0_chainOf_4 : decode cX0_chainOf 4 = .ok (.aload_n 0, 1) := by decide +kernel
theorem dX0_chainOf_5 : decode cX0_chainOf 5 = .ok (.aload_n 0, 1) := by decide +kernel
theorem dX0_chainOf_6 : decode cX0_chainOf 6 = .ok (.getfield 21, 3) := by decide +kernel
theorem dX0_chainOf_9 : decode cX0_chainOf 9 = .ok (.iload_n 1, 1) := by decide +kernel
theorem dX0_chainOf_10 : decode cX0_chainOf 10 = .ok (.iaload, 1) := by decide +kernel
theorem dX0_chainOf_11 : decode cX0_chainOf 11 = .ok (.invokevirtual 124, 3) := by decide +kernel
theorem dX0_chainOf_14 : decode cX0_chainOf 14 = .ok (.aload_n 0, 1) := by decide +kernel
theorem dX0_chainOf_15 : decode cX0_chainOf 15 = .ok (.iload_n 2, 1) := by decide +kernel
theorem dX0_chainOf_16 : decode cX0_chainOf 16 = .ok (.invokevirtual 124, 3) := by decide +kernel
theorem dX0_chainOf_19 : decode cX0_chainOf 19 = .ok (.ior, 1) := by decide +kernel
theorem dX0_chainOf_20 : decode cX0_chainOf 20 = .ok (.iand, 1) := by decide +kernel
theorem dX0_chainOf_21 : decode cX0_chainOf 21 = .ok (.istore_n 3, 1) := by decide +kernel
theorem dX0_chainOf_22 : decode cX0_chainOf 22 = .ok (.iconst 1, 1) := by decide +kernel
theorem dX0_chainOf_23 : decode cX0_chainOf 23 = .ok (.iload_n 1, 1) := by decide +kernel
theorem dX0_chainOf_24 : decode cX0_chainOf 24 = .ok (.ishl, 1) := by decide +kernel
theorem dX0_chainOf_25 : decode cX0_chainOf 25 = .ok (.istore 4, 2) := by decide +kernel
theorem dX0_chainOf_27 : decode cX0_chainOf 27 = .ok (.iconst 0, 1) := by decide +kernel
theorem dX0_chainOf_28 : decode cX0_chainOf 28 = .ok (.istore 5, 2) := by decide +kernel
theorem dX0_chainOf_30 : decode cX0_chainOf 30 = .ok (.iload 5, 2) := by decide +kernel
theorem dX0_chainOf_32 : decode cX0_chainOf 32 = .ok (.bipush 10, 2) := by decide +kernel
theorem dX0_chainOf_34 : decode cX0_chainOf 34 = .ok (.if_icmp .ge 57, 3) := by decide +kernel
theorem dX0_chainOf_37 : decode cX0_chainOf 37 = .ok (.iload 4, 2) := by decide +kernel
theorem dX0_chainOf_39 : decode cX0_chainOf 39 = .ok (.istore 6, 2) := by decide +kernel
theorem dX0_chainOf_41 : decode cX0_chainOf 41 = .ok (.iconst 0, 1) := by decide +kernel
theorem dX0_chainOf_42 : decode cX0_chainOf 42 = .ok (.istore 7, 2) := by decide +kernel
theorem dX0_chainOf_44 : decode cX0_chainOf 44 = .ok (.iload 7, 2) := by decide +kernel
theorem dX0_chainOf_46 : decode cX0_chainOf 46 = .ok (.bipush 10, 2) := by decide +kernel
theorem dX0_chainOf_48 : decode cX0_chainOf 48 = .ok (.if_icmp .ge 33, 3) := by decide +kernel
theorem dX0_chainOf_51 : decode cX0_chainOf 51 = .ok (.iload 4, 2) := by decide +kernel
theorem dX0_chainOf_53 : decode cX0_chainOf 53 = .ok (.iload 7, 2) := by decide +kernel
theorem dX0_chainOf_55 : decode cX0_chainOf 55 = .ok (.invokestatic 140, 3) := by decide +kernel
theorem dX0_chainOf_58 : decode cX0_chainOf 58 = .ok (.ifCond .eq 17, 3) := by decide +kernel
theorem dX0_chainOf_61 : decode cX0_chainOf 61 = .ok (.iload 6, 2) := by decide +kernel
theorem dX0_chainOf_63 : decode cX0_chainOf 63 = .ok (.aload_n 0, 1) := by decide +kernel
theorem dX0_chainOf_64 : decode cX0_chainOf 64 = .ok (.getfield 17, 3) := by decide +kernel
theorem dX0_chainOf_67 : decode cX0_chainOf 67 = .ok (.iload 7, 2) := by decide +kernel
theorem dX0_chainOf_69 : decode cX0_chainOf 69 = .ok (.iaload, 1) := by decide +kernel
theorem dX0_chainOf_70 : decode cX0_chainOf 70 = .ok (.iload_n 3, 1) := by decide +kernel
theorem dX0_chainOf_71 : decode cX0_chainOf 71 = .ok (.iand, 1) := by decide +kernel
theorem dX0_chainOf_72 : decode cX0_chainOf 72 = .ok (.ior, 1) := by decide +kernel
theorem dX0_chainOf_73 : decode cX0_chainOf 73 = .ok (.istore 6, 2) := by decide +kernel
theorem dX0_chainOf_75 : decode cX0_chainOf 75 = .ok (.iinc 7 1, 3) := by decide +kernel
theorem dX0_chainOf_78 : decode cX0_chainOf 78 = .ok (.goto (-34), 3) := by decide +kernel
theorem dX0_chainOf_81 : decode cX0_chainOf 81 = .ok (.iload 6, 2) := by decide +kernel
theorem dX0_chainOf_83 : decode cX0_chainOf 83 = .ok (.istore 4, 2) := by decide +kernel
theorem dX0_chainOf_85 : decode cX0_chainOf 85 = .ok (.iinc 5 1, 3) := by decide +kernel
theorem dX0_chainOf_88 : decode cX0_chainOf 88 = .ok (.goto (-58), 3) := by decide +kernel
theorem dX0_chainOf_91 : decode cX0_chainOf 91 = .ok (.iload 4, 2) := by decide +kernel
theorem dX0_chainOf_93 : decode cX0_chainOf 93 = .ok (.ireturn, 1) := by decide +kernel
set_option maxRecDepth 20000 in
theorem ggX0_tryFewest_X0_tryFrom : GoodIn wsX0_tryFewest wsX0_tryFrom := goodIn_r _ [7, 8, 9, 10, 11, 12, 13, 6, 14, 4, 5, 15, 16, 17] (by decide +kernel) (by decide +kernel)
set_option maxRecDepth 20000 in
theorem gX0_tryFewest_X0_tryFrom : GoodIn wsX0_tryFewest (va_wsS RX0 209 yX0_tryFrom wsX0_tryFrom) := goodIn_app (goodIn_of _ (by decide +kernel)) ggX0_tryFewest_X0_tryFrom
theorem dX0_tryFewest_0 : decode cX0_tryFewest 0 = .ok (.iconst 0, 1) := by decide +kernel
theorem dX0_tryFewest_1 : decode cX0_tryFewest 1 = .ok (.istore_n 1, 1) := by decide +kernel
theorem dX0_tryFewest_2 : decode cX0_tryFewest 2 = .ok (.iload_n 1, 1) := by decide +kernel
theorem dX0_tryFewest_3 : decode cX0_tryFewest 3 = .ok (.bipush 10, 2) := by decide +kernel
theorem dX0_tryFewest_5 : decode cX0_tryFewest 5 = .ok (.if_icmp .gt 32, 3) := by decide +kernel
theorem dX0_tryFewest_8 : decode cX0_tryFewest 8 = .ok (.iconst 0, 1) := by decide +kernel
theorem dX0_tryFewest_9 : decode cX0_tryFewest 9 = .ok (.aload_n 0, 1) := by decide +kernel
theorem dX0_tryFewest_10 : decode cX0_tryFewest 10 = .ok (.getfield 17, 3) := by decide +kernel
theorem dX0_tryFewest_13 : decode cX0_tryFewest 13 = .ok (.aload_n 0, 1) := by decide +kernel
theorem dX0_tryFewest_14 : decode cX0_tryFewest 14 = .ok (.getfield 13, 3) := by decide +kernel
theorem dX0_tryFewest_17 : decode cX0_tryFewest 17 = .ok (.aload_n 0, 1) := by decide +kernel
theorem dX0_tryFewest_18 : decode cX0_tryFewest 18 = .ok (.getfield 24, 3) := by decide +kernel
theorem dX0_tryFewest_21 : decode cX0_tryFewest 21 = .ok (.iconst 0, 1) := by decide +kernel
theorem dX0_tryFewest_22 : decode cX0_tryFewest 22 = .ok (.iload_n 1, 1) := by decide +kernel
theorem dX0_tryFewest_23 : decode cX0_tryFewest 23 = .ok (.invokestatic 209, 3) := by decide +kernel
theorem dX0_tryFewest_26 : decode cX0_tryFewest 26 = .ok (.ifCond .eq 5, 3) := by decide +kernel
theorem dX0_tryFewest_29 : decode cX0_tryFewest 29 = .ok (.iload_n 1, 1) := by decide +kernel
theorem dX0_tryFewest_30 : decode cX0_tryFewest 30 = .ok (.ireturn, 1) := by decide +kernel
theorem dX0_tryFewest_31 : decode cX0_tryFewest 31 = .ok (.iinc 1 1, 3) := by decide +kernel
theorem dX0_tryFewest_34 : decode cX0_tryFewest 34 = .ok (.goto (-32), 3) := by decide +kernel
theorem dX0_tryFewest_37 : decode cX0_tryFewest 37 = .ok (.bipush 10, 2) := by decide +kernel
theorem dX0_tryFewest_39 : decode cX0_tryFewest 39 = .ok (.ireturn, 1) := by decide +kernel
set_option maxRecDepth 20000 in
theorem ggX0_tryFrom_X0_has : GoodIn wsX0_tryFrom wsX0_has := goodIn_r _ [8] (by decide +kernel) (by decide +kernel)
set_option maxRecDepth 20000 in
theorem gX0_tryFrom_X0_has : GoodIn wsX0_tryFrom (va_wsS RX0 140 yX0_has wsX0_has) := goodIn_app (goodIn_of _ (by decide +kernel)) ggX0_tryFrom_X0_has
set_option maxRecDepth 20000 in
theorem ggX0_tryFrom_X0_tryFrom : GoodIn wsX0_tryFrom wsX0_tryFrom := goodIn_r _ [0, 1, 2, 3, 4, 5, 6, 7, 8, 9, 10, 11, 12, 13] (by decide +kernel) (by decide +kernel)
set_option maxRecDepth 20000 in
theorem gX0_tryFrom_X0_tryFrom : GoodIn wsX0_tryFrom (va_wsS RX0 209 yX0_tryFrom wsX0_tryFrom) := goodIn_app (goodIn_of _ (by decide +kernel)) ggX0_tryFrom_X0_tryFrom
set_option maxRecDepth 20000 in
theorem ggX0_tryFrom_X0_isFreeIn : GoodIn wsX0_tryFrom wsX0_isFreeIn := goodIn_r _ [13, 5, 6, 7, 8] (by decide +kernel) (by decide +kernel)
set_option maxRecDepth 20000 in
theorem gX0_tryFrom_X0_isFreeIn : GoodIn wsX0_tryFrom (va_wsS RX0 213 yX0_isFreeIn wsX0_isFreeIn) := goodIn_app (goodIn_of _ (by decide +kernel)) ggX0_tryFrom_X0_isFreeIn
theorem dX0_tryFrom_0 : decode cX0_tryFrom 0 = .ok (.iload_n 0, 1) := by decide +kernel
theorem dX0_tryFrom_1 : decode cX0_tryFrom 1 = .ok (.bipush 10, 2) := by decide +kernel
theorem dX0_tryFrom_3 : decode cX0_tryFrom 3 = .ok (.if_icmp .lt 5, 3) := by decide +kernel
theorem dX0_tryFrom_6 : decode cX0_tryFrom 6 = .ok (.iconst 1, 1) := by decide +kernel
theorem dX0_tryFrom_7 : decode cX0_tryFrom 7 = .ok (.ireturn, 1) := by decide +kernel
theorem dX0_tryFrom_8 : decode cX0_tryFrom 8 = .ok (.iload_n 2, 1) := by decide +kernel
theorem dX0_tryFrom_9 : decode cX0_tryFrom 9 = .ok (.iload_n 0, 1) := by decide +kernel
theorem dX0_tryFrom_10 : decode cX0_tryFrom 10 = .ok (.invokestatic 140, 3) := by decide +kernel
theorem dX0_tryFrom_13 : decode cX0_tryFrom 13 = .ok (.ifCond .ne 17, 3) := by decide +kernel
theorem dX0_tryFrom_16 : decode cX0_tryFrom 16 = .ok (.iload_n 0, 1) := by decide +kernel
theorem dX0_tryFrom_17 : decode cX0_tryFrom 17 = .ok (.iconst 1, 1) := by decide +kernel
theorem dX0_tryFrom_18 : decode cX0_tryFrom 18 = .ok (.iadd, 1) := by decide +kernel
theorem dX0_tryFrom_19 : decode cX0_tryFrom 19 = .ok (.aload_n 1, 1) := by decide +kernel
theorem dX0_tryFrom_20 : decode cX0_tryFrom 20 = .ok (.iload_n 2, 1) := by decide +kernel
theorem dX0_tryFrom_21 : decode cX0_tryFrom 21 = .ok (.aload_n 3, 1) := by decide +kernel
theorem dX0_tryFrom_22 : decode cX0_tryFrom 22 = .ok (.iload 4, 2) := by decide +kernel
theorem dX0_tryFrom_24 : decode cX0_tryFrom 24 = .ok (.iload 5, 2) := by decide +kernel
theorem dX0_tryFrom_26 : decode cX0_tryFrom 26 = .ok (.invokestatic 209, 3) := by decide +kernel
theorem dX0_tryFrom_29 : decode cX0_tryFrom 29 = .ok (.ireturn, 1) := by decide +kernel
theorem dX0_tryFrom_30 : decode cX0_tryFrom 30 = .ok (.iconst 1, 1) := by decide +kernel
theorem dX0_tryFrom_31 : decode cX0_tryFrom 31 = .ok (.istore 6, 2) := by decide +kernel
theorem dX0_tryFrom_33 : decode cX0_tryFrom 33 = .ok (.iload 6, 2) := by decide +kernel
theorem dX0_tryFrom_35 : decode cX0_tryFrom 35 = .ok (.iload 5, 2) := by decide +kernel
theorem dX0_tryFrom_37 : decode cX0_tryFrom 37 = .ok (.if_icmp .gt 59, 3) := by decide +kernel
theorem dX0_tryFrom_40 : decode cX0_tryFrom 40 = .ok (.iload 6, 2) := by decide +kernel
theorem dX0_tryFrom_42 : decode cX0_tryFrom 42 = .ok (.iload 4, 2) := by decide +kernel
theorem dX0_tryFrom_44 : decode cX0_tryFrom 44 = .ok (.iconst 1, 1) := by decide +kernel
theorem dX0_tryFrom_45 : decode cX0_tryFrom 45 = .ok (.iadd, 1) := by decide +kernel
theorem dX0_tryFrom_46 : decode cX0_tryFrom 46 = .ok (.if_icmp .gt 50, 3) := by decide +kernel
theorem dX0_tryFrom_49 : decode cX0_tryFrom 49 = .ok (.aload_n 3, 1) := by decide +kernel
theorem dX0_tryFrom_50 : decode cX0_tryFrom 50 = .ok (.iload_n 0, 1) := by decide +kernel
theorem dX0_tryFrom_51 : decode cX0_tryFrom 51 = .ok (.aload_n 1, 1) := by decide +kernel
theorem dX0_tryFrom_52 : decode cX0_tryFrom 52 = .ok (.iload_n 0, 1) := by decide +kernel
theorem dX0_tryFrom_53 : decode cX0_tryFrom 53 = .ok (.iaload, 1) := by decide +kernel
theorem dX0_tryFrom_54 : decode cX0_tryFrom 54 = .ok (.iload 6, 2) := by decide +kernel
theorem dX0_tryFrom_56 : decode cX0_tryFrom 56 = .ok (.invokestatic 213, 3) := by decide +kernel
theorem dX0_tryFrom_59 : decode cX0_tryFrom 59 = .ok (.ifCond .eq 31, 3) := by decide +kernel
theorem dX0_tryFrom_62 : decode cX0_tryFrom 62 = .ok (.aload_n 3, 1) := by decide +kernel
theorem dX0_tryFrom_63 : decode cX0_tryFrom 63 = .ok (.iload_n 0, 1) := by decide +kernel
theorem dX0_tryFrom_64 : decode cX0_tryFrom 64 = .ok (.iload 6, 2) := by decide +kernel
theorem dX0_tryFrom_66 : decode cX0_tryFrom 66 = .ok (.iastore, 1) := by decide +kernel
theorem dX0_tryFrom_67 : decode cX0_tryFrom 67 = .ok (.iload_n 0, 1) := by decide +kernel
theorem dX0_tryFrom_68 : decode cX0_tryFrom 68 = .ok (.iconst 1, 1) := by decide +kernel
