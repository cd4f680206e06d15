theorem dL_tint_2 : decode cL_tint 2 = .ok (.aload_n 0, 1) := by decide +kernel
theorem dL_tint_3 : decode cL_tint 3 = .ok (.iload_n 1, 1) := by decide +kernel
theorem dL_tint_4 : decode cL_tint 4 = .ok (.iload_n 2, 1) := by decide +kernel
theorem dL_tint_5 : decode cL_tint 5 = .ok (.invokevirtual 44, 3) := by decide +kernel
theorem dL_tint_8 : decode cL_tint 8 = .ok (.i2l, 1) := by decide +kernel
theorem dL_tint_9 : decode cL_tint 9 = .ok (.lastore, 1) := by decide +kernel
theorem dL_tint_10 : decode cL_tint 10 = .ok (.goto 11, 3) := by decide +kernel
theorem dL_tint_13 : decode cL_tint 13 = .ok (.astore 4, 2) := by decide +kernel
theorem dL_tint_15 : decode cL_tint 15 = .ok (.iconst 1, 1) := by decide +kernel
theorem dL_tint_16 : decode cL_tint 16 = .ok (.ireturn, 1) := by decide +kernel
theorem dL_tint_17 : decode cL_tint 17 = .ok (.astore 4, 2) := by decide +kernel
theorem dL_tint_19 : decode cL_tint 19 = .ok (.iconst 2, 1) := by decide +kernel
theorem dL_tint_20 : decode cL_tint 20 = .ok (.ireturn, 1) := by decide +kernel
theorem dL_tint_21 : decode cL_tint 21 = .ok (.iconst 0, 1) := by decide +kernel
theorem dL_tint_22 : decode cL_tint 22 = .ok (.ireturn, 1) := by decide +kernel
set_option maxRecDepth 20000 in
theorem ggL_tintOf_X0_tintOf : GoodIn wsL_tintOf wsX0_tintOf := goodIn_ca (goodIn_r _ [6, 7, 8, 9, 5, 10, 11, 12, 13, 14, 15, 16, 17, 18, 19, 20] (by decide +kernel) (by decide +kernel)) (goodIn_sub (fun _ h => List.mem_cons_of_mem _ (List.mem_append_right _ h)) (by decide +kernel))
set_option maxRecDepth 20000 in
theorem gL_tintOf_X0_tintOf : GoodIn wsL_tintOf (wsV RL 47 RX0 yX0_tintOf wsX0_tintOf) := goodIn_app (goodIn_of _ (by decide +kernel)) ggL_tintOf_X0_tintOf
theorem dL_tintOf_0 : decode cL_tintOf 0 = .ok (.aload_n 2, 1) := by decide +kernel
theorem dL_tintOf_1 : decode cL_tintOf 1 = .ok (.iconst 0, 1) := by decide +kernel
theorem dL_tintOf_2 : decode cL_tintOf 2 = .ok (.aload_n 0, 1) := by decide +kernel
theorem dL_tintOf_3 : decode cL_tintOf 3 = .ok (.iload_n 1, 1) := by decide +kernel
theorem dL_tintOf_4 : decode cL_tintOf 4 = .ok (.invokevirtual 47, 3) := by decide +kernel
theorem dL_tintOf_7 : decode cL_tintOf 7 = .ok (.i2l, 1) := by decide +kernel
theorem dL_tintOf_8 : decode cL_tintOf 8 = .ok (.lastore, 1) := by decide +kernel
theorem dL_tintOf_9 : decode cL_tintOf 9 = .ok (.goto 6, 3) := by decide +kernel
theorem dL_tintOf_12 : decode cL_tintOf 12 = .ok (.astore_n 3, 1) := by decide +kernel
theorem dL_tintOf_13 : decode cL_tintOf 13 = .ok (.iconst 1, 1) := by decide +kernel
theorem dL_tintOf_14 : decode cL_tintOf 14 = .ok (.ireturn, 1) := by decide +kernel
theorem dL_tintOf_15 : decode cL_tintOf 15 = .ok (.iconst 0, 1) := by decide +kernel
theorem dL_tintOf_16 : decode cL_tintOf 16 = .ok (.ireturn, 1) := by decide +kernel
set_option maxRecDepth 20000 in
theorem ggL_leastFree_X0_leastFree : GoodIn wsL_leastFree wsX0_leastFree := goodIn_ca (goodIn_r _ [6, 7, 8, 9, 5, 10, 11, 12, 13, 14, 15, 16, 17, 18, 19, 20, 21, 22, 23, 24, 25, 26, 27, 28, 29] (by decide +kernel) (by decide +kernel)) (goodIn_sub (fun _ h => List.mem_cons_of_mem _ (List.mem_append_right _ h)) (by decide +kernel))
set_option maxRecDepth 20000 in
theorem gL_leastFree_X0_leastFree : GoodIn wsL_leastFree (wsV RL 50 RX0 yX0_leastFree wsX0_leastFree) := goodIn_app (goodIn_of _ (by decide +kernel)) ggL_leastFree_X0_leastFree
theorem dL_leastFree_0 : decode cL_leastFree 0 = .ok (.aload_n 2, 1) := by decide +kernel
theorem dL_leastFree_1 : decode cL_leastFree 1 = .ok (.iconst 0, 1) := by decide +kernel
theorem dL_leastFree_2 : decode cL_leastFree 2 = .ok (.aload_n 0, 1) := by decide +kernel
theorem dL_leastFree_3 : decode cL_leastFree 3 = .ok (.iload_n 1, 1) := by decide +kernel
theorem dL_leastFree_4 : decode cL_leastFree 4 = .ok (.invokevirtual 50, 3) := by decide +kernel
theorem dL_leastFree_7 : decode cL_leastFree 7 = .ok (.i2l, 1) := by decide +kernel
theorem dL_leastFree_8 : decode cL_leastFree 8 = .ok (.lastore, 1) := by decide +kernel
theorem dL_leastFree_9 : decode cL_leastFree 9 = .ok (.goto 6, 3) := by decide +kernel
theorem dL_leastFree_12 : decode cL_leastFree 12 = .ok (.astore_n 3, 1) := by decide +kernel
theorem dL_leastFree_13 : decode cL_leastFree 13 = .ok (.iconst 1, 1) := by decide +kernel
theorem dL_leastFree_14 : decode cL_leastFree 14 = .ok (.ireturn, 1) := by decide +kernel
theorem dL_leastFree_15 : decode cL_leastFree 15 = .ok (.iconst 0, 1) := by decide +kernel
theorem dL_leastFree_16 : decode cL_leastFree 16 = .ok (.ireturn, 1) := by decide +kernel
set_option maxRecDepth 20000 in
theorem ggL_chain_X0_chain : GoodIn wsL_chain wsX0_chain := goodIn_ca (goodIn_ca (goodIn_ca (goodIn_r _ [8, 9, 10, 7, 11, 12, 13, 14, 15, 16, 17, 18, 19, 20, 21, 22, 23, 24, 25, 26, 27, 28, 29, 30, 31, 32, 33, 34, 35, 36, 37, 38, 39, 40, 41, 42, 43, 44, 45, 46, 47, 48, 49, 50, 51, 52, 53] (by decide +kernel) (by decide +kernel)) (goodIn_sub (fun _ h => List.mem_cons_of_mem _ (List.mem_append_left _ (List.mem_append_left _ (List.mem_append_right _ h)))) (by decide +kernel))) (goodIn_sub (fun _ h => List.mem_cons_of_mem _ (List.mem_append_left _ (List.mem_append_right _ h))) (by decide +kernel))) (goodIn_sub (fun _ h => List.mem_cons_of_mem _ (List.mem_append_right _ h)) (by decide +kernel))
set_option maxRecDepth 20000 in
theorem gL_chain_X0_chain : GoodIn wsL_chain (wsV RL 53 RX0 yX0_chain wsX0_chain) := goodIn_app (goodIn_of _ (by decide +kernel)) ggL_chain_X0_chain
theorem dL_chain_0 : decode cL_chain 0 = .ok (.aload_n 3, 1) := by decide +kernel
theorem dL_chain_1 : decode cL_chain 1 = .ok (.iconst 0, 1) := by decide +kernel
theorem dL_chain_2 : decode cL_chain 2 = .ok (.aload_n 0, 1) := by decide +kernel
theorem dL_chain_3 : decode cL_chain 3 = .ok (.iload_n 1, 1) := by decide +kernel
theorem dL_chain_4 : decode cL_chain 4 = .ok (.iload_n 2, 1) := by decide +kernel
theorem dL_chain_5 : decode cL_chain 5 = .ok (.invokevirtual 53, 3) := by decide +kernel
theorem dL_chain_8 : decode cL_chain 8 = .ok (.i2l, 1) := by decide +kernel
theorem dL_chain_9 : decode cL_chain 9 = .ok (.lastore, 1) := by decide +kernel
theorem dL_chain_10 : decode cL_chain 10 = .ok (.goto 15, 3) := by decide +kernel
theorem dL_chain_13 : decode cL_chain 13 = .ok (.astore 4, 2) := by decide +kernel
theorem dL_chain_15 : decode cL_chain 15 = .ok (.iconst 1, 1) := by decide +kernel
theorem dL_chain_16 : decode cL_chain 16 = .ok (.ireturn, 1) := by decide +kernel
theorem dL_chain_17 : decode cL_chain 17 = .ok (.astore 4, 2) := by decide +kernel
theorem dL_chain_19 : decode cL_chain 19 = .ok (.iconst 2, 1) := by decide +kernel
theorem dL_chain_20 : decode cL_chain 20 = .ok (.ireturn, 1) := by decide +kernel
theorem dL_chain_21 : decode cL_chain 21 = .ok (.astore 4, 2) := by decide +kernel
theorem dL_chain_23 : decode cL_chain 23 = .ok (.iconst 3, 1) := by decide +kernel
theorem dL_chain_24 : decode cL_chain 24 = .ok (.ireturn, 1) := by decide +kernel
theorem dL_chain_25 : decode cL_chain 25 = .ok (.iconst 0, 1) := by decide +kernel
theorem dL_chain_26 : decode cL_chain 26 = .ok (.ireturn, 1) := by decide +kernel
set_option maxRecDepth 20000 in
theorem ggL_exchange_X0_exchange : GoodIn wsL_exchange wsX0_exchange := goodIn_ca (goodIn_ca (goodIn_ca (goodIn_r _ [8, 9, 10, 11, 7, 12, 13, 14, 15, 16, 17, 18, 19, 20, 21, 22, 23, 24, 25, 26, 27, 28, 29, 30, 31, 32, 33, 34, 35, 36, 37, 38, 39, 40, 41, 42, 43, 44, 45, 46, 47, 48, 49, 50, 51, 52, 53] (by decide +kernel) (by decide +kernel)) (goodIn_sub (fun _ h => List.mem_cons_of_mem _ (List.mem_append_left _ (List.mem_append_left _ (List.mem_append_right _ h)))) (by decide +kernel))) (goodIn_sub (fun _ h => List.mem_cons_of_mem _ (List.mem_append_left _ (List.mem_append_right _ h))) (by decide +kernel))) (goodIn_sub (fun _ h => List.mem_cons_of_mem _ (List.mem_append_right _ h)) (by decide +kernel))
set_option maxRecDepth 20000 in
theorem gL_exchange_X0_exchange : GoodIn wsL_exchange (wsV RL 58 RX0 yX0_exchange wsX0_exchange) := goodIn_app (goodIn_of _ (by decide +kernel)) ggL_exchange_X0_exchange
theorem dL_exchange_0 : decode cL_exchange 0 = .ok (.aload_n 3, 1) := by decide +kernel
theorem dL_exchange_1 : decode cL_exchange 1 = .ok (.iconst 0, 1) := by decide +kernel
theorem dL_exchange_2 : decode cL_exchange 2 = .ok (.aload_n 0, 1) := by decide +kernel
theorem dL_exchange_3 : decode cL_exchange 3 = .ok (.iload_n 1, 1) := by decide +kernel
theorem dL_exchange_4 : decode cL_exchange 4 = .ok (.iload_n 2, 1) := by decide +kernel
theorem dL_exchange_5 : decode cL_exchange 5 = .ok (.invokevirtual 58, 3) := by decide +kernel
theorem dL_exchange_8 : decode cL_exchange 8 = .ok (.i2l, 1) := by decide +kernel
theorem dL_exchange_9 : decode cL_exchange 9 = .ok (.lastore, 1) := by decide +kernel
theorem dL_exchange_10 : decode cL_exchange 10 = .ok (.goto 15, 3) := by decide +kernel
theorem dL_exchange_13 : decode cL_exchange 13 = .ok (.astore 4, 2) := by decide +kernel
theorem dL_exchange_15 : decode cL_exchange 15 = .ok (.iconst 1, 1) := by decide +kernel
theorem dL_exchange_16 : decode cL_exchange 16 = .ok (.ireturn, 1) := by decide +kernel
theorem dL_exchange_17 : decode cL_exchange 17 = .ok (.astore 4, 2) := by decide +kernel
theorem dL_exchange_19 : decode cL_exchange 19 = .ok (.iconst 2, 1) := by decide +kernel
theorem dL_exchange_20 : decode cL_exchange 20 = .ok (.ireturn, 1) := by decide +kernel
theorem dL_exchange_21 : decode cL_exchange 21 = .ok (.astore 4, 2) := by decide +kernel
theorem dL_exchange_23 : decode cL_exchange 23 = .ok (.iconst 3, 1) := by decide +kernel
theorem dL_exchange_24 : decode cL_exchange 24 = .ok (.ireturn, 1) := by decide +kernel
theorem dL_exchange_25 : decode cL_exchange 25 = .ok (.iconst 0, 1) := by decide +kernel
theorem dL_exchange_26 : decode cL_exchange 26 = .ok (.ireturn, 1) := by decide +kernel
set_option maxRecDepth 20000 in
theorem ggL_tintings_X0_tintings : GoodIn wsL_tintings wsX0_tintings := goodIn_ca (goodIn_r _ [6, 7, 8, 9, 10, 5, 11, 12, 13, 14, 15, 16, 17, 18, 19, 20, 21, 22, 23, 24, 25, 26, 27, 28, 29, 30, 31, 32, 33, 34, 35, 36, 37, 38, 39] (by decide +kernel) (by decide +kernel)) (goodIn_sub (fun _ h => List.mem_cons_of_mem _ (List.mem_append_right _ h)) (by decide +kernel))
set_option maxRecDepth 20000 in
theorem gL_tintings_X0_tintings : GoodIn wsL_tintings (wsV RL 61 RX0 yX0_tintings wsX0_tintings) := goodIn_app (goodIn_of _ (by decide +kernel)) ggL_tintings_X0_tintings
theorem dL_tintings_0 : decode cL_tintings 0 = .ok (.aload_n 2, 1) := by decide +kernel
theorem dL_tintings_1 : decode cL_tintings 1 = .ok (.iconst 0, 1) := by decide +kernel
theorem dL_tintings_2 : decode cL_tintings 2 = .ok (.aload_n 0, 1) := by decide +kernel
theorem dL_tintings_3 : decode cL_tintings 3 = .ok (.iload_n 1, 1) := by decide +kernel
theorem dL_tintings_4 : decode cL_tintings 4 = .ok (.invokevirtual 61, 3) := by decide +kernel
theorem dL_tintings_7 : decode cL_tintings 7 = .ok (.lastore, 1) := by decide +kernel
theorem dL_tintings_8 : decode cL_tintings 8 = .ok (.goto 6, 3) := by decide +kernel
theorem dL_tintings_11 : decode cL_tintings 11 = .ok (.astore_n 3, 1) := by decide +kernel
theorem dL_tintings_12 : decode cL_tintings 12 = .ok (.iconst 1, 1) := by decide +kernel
theorem dL_tintings_13 : decode cL_tintings 13 = .ok (.ireturn, 1) := by decide +kernel
theorem dL_tintings_14 : decode cL_tintings 14 = .ok (.iconst 0, 1) := by decide +kernel
theorem dL_tintings_15 : decode cL_tintings 15 = .ok (.ireturn, 1) := by decide +kernel
set_option maxRecDepth 20000 in
theorem ggL_tintingsByPairs_X0_tintingsByPairs : GoodIn wsL_tintingsByPairs wsX0_tintingsByPairs := goodIn_ca (goodIn_r _ [6, 7, 8, 9, 10, 11, 12, 13, 14, 15, 5, 16, 17, 18, 19, 20, 21, 22, 23, 24, 25, 26, 27, 28, 29, 30, 31, 32, 33, 34, 35, 36, 37, 38, 39, 40, 41, 42, 43, 44, 45, 46, 47, 48, 49, 50, 51, 52, 53, 54] (by decide +kernel) (by decide +kernel)) (goodIn_sub (fun _ h => List.mem_cons_of_mem _ (List.mem_append_right _ h)) (by decide +kernel))
set_option maxRecDepth 20000 in
theorem gL_tintingsByPairs_X0_tintingsByPairs : GoodIn wsL_tintingsByPairs (wsV RL 65 RX0 yX0_tintingsByPairs wsX0_tintingsByPairs) := goodIn_app (goodIn_of _ (by decide +kernel)) ggL_tintingsByPairs_X0_tintingsByPairs
theorem dL_tintingsByPairs_0 : decode cL_tintingsByPairs 0 = .ok (.aload_n 2, 1) := by decide +kernel
theorem dL_tintingsByPairs_1 : decode cL_tintingsByPairs 1 = .ok (.iconst 0, 1) := by decide +kernel
theorem dL_tintingsByPairs_2 : decode cL_tintingsByPairs 2 = .ok (.aload_n 0, 1) := by decide +kernel
theorem dL_tintingsByPairs_3 : decode cL_tintingsByPairs 3 = .ok (.iload_n 1, 1) := by decide +kernel
theorem dL_tintingsByPairs_4 : decode cL_tintingsByPairs 4 = .ok (.invokevirtual 65, 3) := by decide +kernel
theorem dL_tintingsByPairs_7 : decode cL_tintingsByPairs 7 = .ok (.lastore, 1) := by decide +kernel
theorem dL_tintingsByPairs_8 : decode cL_tintingsByPairs 8 = .ok (.goto 6, 3) := by decide +kernel
theorem dL_tintingsByPairs_11 : decode cL_tintingsByPairs 11 = .ok (.astore_n 3, 1) := by decide +kernel
theorem dL_tintingsByPairs_12 : decode cL_tintingsByPairs 12 = .ok (.iconst 1, 1) := by decide +kernel
theorem dL_tintingsByPairs_13 : decode cL_tintingsByPairs 13 = .ok (.ireturn, 1) := by decide +kernel
theorem dL_tintingsByPairs_14 : decode cL_tintingsByPairs 14 = .ok (.iconst 0, 1) := by decide +kernel
theorem dL_tintingsByPairs_15 : decode cL_tintingsByPairs 15 = .ok (.ireturn, 1) := by decide +kernel
set_option maxRecDepth 20000 in
theorem ggL_law_X0_init : GoodIn wsL_law wsX0_init := goodIn_r _ [9, 10, 11, 12, 6, 13, 14, 15, 16, 17, 18, 19, 20, 21, 22, 23, 552, 553, 554, 555, 556, 557, 558, 559] (by decide +kernel) (by decide +kernel)
set_option maxRecDepth 20000 in
theorem gL_law_X0_init : GoodIn wsL_law (wsX0_init) := ggL_law_X0_init
set_option maxRecDepth 20000 in
theorem ggL_law_X1_init : GoodIn wsL_law wsX1_init := goodIn_r _ [26, 27, 11, 12, 15, 28, 29, 6, 30, 31, 32, 33, 560, 561, 562, 563, 564, 565, 566, 567] (by decide +kernel) (by decide +kernel)
set_option maxRecDepth 20000 in
theorem gL_law_X1_init : GoodIn wsL_law (wsX1_init) := ggL_law_X1_init
set_option maxRecDepth 20000 in
theorem ggL_law_L_paint : GoodIn wsL_law wsL_paint := goodIn_ca (goodIn_ca (goodIn_r _ [37, 38, 39, 40, 41, 42, 2, 43, 44, 45, 46, 47, 48, 49, 50, 51, 52, 53, 54, 55, 56, 57, 58, 59, 60, 13, 61, 62, 63, 64, 65, 66, 67, 68, 69, 14, 16, 70, 71, 72, 73, 74, 75, 76, 77, 78, 79, 80, 81, 82, 83, 84, 85, 86, 87, 88, 89, 90, 91, 552, 553, 554, 555, 556, 557, 558, 559] (by decide +kernel) (by decide +kernel)) (goodIn_sub (fun _ h => List.mem_append_left _ (List.mem_append_left _ (List.mem_append_right _ h))) (by decide +kernel))) (goodIn_sub (fun _ h => List.mem_append_left _ (List.mem_append_right _ h)) (by decide +kernel))
set_option maxRecDepth 20000 in
theorem gL_law_L_paint : GoodIn wsL_law (va_wsS RL 72 yL_paint wsL_paint) := goodIn_app (goodIn_of _ (by decide +kernel)) ggL_law_L_paint
set_option maxRecDepth 20000 in
theorem ggL_law_X1_paint : GoodIn wsL_law wsX1_paint := goodIn_r _ [95, 28, 96, 97, 5, 98, 99, 100, 101, 102, 103, 104, 105, 106, 107, 108, 109, 110, 111, 112, 113, 560, 561, 562, 563, 564, 565, 566, 567] (by decide +kernel) (by decide +kernel)
set_option maxRecDepth 20000 in
theorem gL_law_X1_paint : GoodIn wsL_law (wsV RL 77 RX1 yX1_paint wsX1_paint) := goodIn_app (goodIn_of _ (by decide +kernel)) ggL_law_X1_paint
set_option maxRecDepth 20000 in
theorem ggL_law_X1_thrown : GoodIn wsL_law wsX1_thrown := goodIn_r _ [117, 109, 560, 561, 562, 563, 564, 565, 566, 567] (by decide +kernel) (by decide +kernel)
set_option maxRecDepth 20000 in
theorem gL_law_X1_thrown : GoodIn wsL_law (wsV RL 78 RX1 yX1_thrown wsX1_thrown) := goodIn_app (goodIn_of _ (by decide +kernel)) ggL_law_X1_thrown
set_option maxRecDepth 20000 in
theorem ggL_law_L_paintBlock : GoodIn wsL_law wsL_paintBlock := goodIn_ca (goodIn_ca (goodIn_r _ [120, 38, 39, 121, 122, 123, 2, 124, 52, 53, 65, 44, 45, 46, 47, 48, 49, 50, 51, 54, 55, 56, 125, 126, 127, 128, 13, 79, 129, 130, 131, 132, 133, 134, 135, 61, 62, 63, 64, 66, 67, 68, 69, 14, 16, 70, 71, 72, 73, 74, 75, 76, 77, 78, 80, 81, 82, 83, 84, 85, 86, 87, 88, 89, 90, 91, 552, 553, 554, 555, 556, 557, 558, 559] (by decide +kernel) (by decide +kernel)) (goodIn_sub (fun _ h => List.mem_append_left _ (List.mem_append_right _ h)) (by decide +kernel))) (goodIn_sub (fun _ h => List.mem_append_left _ (List.mem_append_left _ (List.mem_append_right _ h))) (by decide +kernel))
set_option maxRecDepth 20000 in
theorem gL_law_L_paintBlock : GoodIn wsL_law (va_wsS RL 82 yL_paintBlock wsL_paintBlock) := goodIn_app (goodIn_of _ (by decide +kernel)) ggL_law_L_paintBlock
set_option maxRecDepth 20000 in
theorem ggL_law_X1_paintBlock : GoodIn wsL_law wsX1_paintBlock := goodIn_r _ [139, 96, 97, 5, 98, 99, 100, 101, 102, 103, 104, 105, 106, 107, 108, 109, 110, 111, 112, 113, 28, 560, 561, 562, 563, 564, 565, 566, 567] (by decide +kernel) (by decide +kernel)
set_option maxRecDepth 20000 in
theorem gL_law_X1_paintBlock : GoodIn wsL_law (wsV RL 85 RX1 yX1_paintBlock wsX1_paintBlock) := goodIn_app (goodIn_of _ (by decide +kernel)) ggL_law_X1_paintBlock
set_option maxRecDepth 20000 in
theorem ggL_law_L_countryAt : GoodIn wsL_law wsL_countryAt := goodIn_ca (goodIn_r _ [142, 38, 143, 144, 145, 2, 146, 44, 45, 46, 47, 48, 54, 55, 56, 57, 58, 59, 60, 13, 552, 553, 554, 555, 556, 557, 558, 559] (by decide +kernel) (by decide +kernel)) (goodIn_sub (fun _ h => List.mem_append_left _ (List.mem_append_left _ (List.mem_append_right _ h))) (by decide +kernel))
set_option maxRecDepth 20000 in
theorem gL_law_L_countryAt : GoodIn wsL_law (va_wsS RL 86 yL_countryAt wsL_countryAt) := goodIn_app (goodIn_of _ (by decide +kernel)) ggL_law_L_countryAt
set_option maxRecDepth 20000 in
theorem ggL_law_X1_countryAt : GoodIn wsL_law wsX1_countryAt := goodIn_r _ [150, 28, 96, 97, 5, 98, 99, 100, 101, 105, 106, 107, 108, 109, 560, 561, 562, 563, 564, 565, 566, 567] (by decide +kernel) (by decide +kernel)
set_option maxRecDepth 20000 in
theorem gL_law_X1_countryAt : GoodIn wsL_law (wsV RL 89 RX1 yX1_countryAt wsX1_countryAt) := goodIn_app (goodIn_of _ (by decide +kernel)) ggL_law_X1_countryAt
set_option maxRecDepth 20000 in
theorem ggL_law_X0_countries : GoodIn wsL_law wsX0_countries := goodIn_r _ [154, 14, 155, 156, 157, 158, 159, 160, 161, 552, 553, 554, 555, 556, 557, 558, 559] (by decide +kernel) (by decide +kernel)
set_option maxRecDepth 20000 in
theorem gL_law_X0_countries : GoodIn wsL_law (wsV RL 90 RX0 yX0_countries wsX0_countries) := goodIn_app (goodIn_of _ (by decide +kernel)) ggL_law_X0_countries
set_option maxRecDepth 20000 in
theorem ggL_law_X1_countries : GoodIn wsL_law wsX1_countries := goodIn_r _ [165, 166, 167, 168, 169, 5, 170, 30, 28, 31, 171, 172, 173, 174, 175, 176, 177, 178, 179, 180, 181, 182, 183, 109, 560, 561, 562, 563, 564, 565, 566, 567] (by decide +kernel) (by decide +kernel)
set_option maxRecDepth 20000 in
theorem gL_law_X1_countries : GoodIn wsL_law (wsV RL 93 RX1 yX1_countries wsX1_countries) := goodIn_app (goodIn_of _ (by decide +kernel)) ggL_law_X1_countries
set_option maxRecDepth 20000 in
theorem ggL_law_L_area : GoodIn wsL_law wsL_area := goodIn_ca (goodIn_r _ [186, 38, 187, 188, 189, 2, 190, 13, 191, 192, 193, 47, 48, 129, 130, 131, 132, 133, 134, 135, 552, 553, 554, 555, 556, 557, 558, 559] (by decide +kernel) (by decide +kernel)) (goodIn_sub (fun _ h => List.mem_append_left _ (List.mem_append_left _ (List.mem_append_right _ h))) (by decide +kernel))
set_option maxRecDepth 20000 in
theorem gL_law_L_area : GoodIn wsL_law (va_wsS RL 94 yL_area wsL_area) := goodIn_app (goodIn_of _ (by decide +kernel)) ggL_law_L_area
set_option maxRecDepth 20000 in
theorem ggL_law_X1_area : GoodIn wsL_law wsX1_area := goodIn_r _ [197, 30, 167, 168, 169, 5, 170, 166, 28, 31, 171, 172, 173, 174, 175, 176, 102, 103, 104, 99, 100, 101, 105, 106, 107, 108, 109, 177, 178, 179, 560, 561, 562, 563, 564, 565, 566, 567] (by decide +kernel) (by decide +kernel)
set_option maxRecDepth 20000 in
theorem gL_law_X1_area : GoodIn wsL_law (wsV RL 97 RX1 yX1_area wsX1_area) := goodIn_app (goodIn_of _ (by decide +kernel)) ggL_law_X1_area
set_option maxRecDepth 20000 in
theorem ggL_law_L_pieces : GoodIn wsL_law wsL_pieces := goodIn_ca (goodIn_r _ [200, 38, 201, 202, 203, 2, 204, 13, 191, 192, 193, 47, 48, 205, 206, 207, 65, 208, 209, 210, 211, 212, 213, 70, 71, 72, 73, 74, 75, 76, 77, 78, 79, 80, 81, 82, 83, 84, 85, 86, 87, 552, 553, 554, 555, 556, 557, 558, 559] (by decide +kernel) (by decide +kernel)) (goodIn_sub (fun _ h => List.mem_append_left _ (List.mem_append_left _ (List.mem_append_right _ h))) (by decide +kernel))
set_option maxRecDepth 20000 in
theorem gL_law_L_pieces : GoodIn wsL_law (va_wsS RL 98 yL_pieces wsL_pieces) := goodIn_app (goodIn_of _ (by decide +kernel)) ggL_law_L_pieces
set_option maxRecDepth 20000 in
theorem ggL_law_X1_pieces : GoodIn wsL_law wsX1_pieces := goodIn_r _ [217, 167, 168, 169, 5, 170, 166, 30, 28, 31, 171, 172, 173, 174, 175, 176, 102, 103, 104, 99, 100, 101, 105, 106, 107, 108, 109, 218, 219, 220, 221, 222, 223, 224, 225, 226, 227, 228, 560, 561, 562, 563, 564, 565, 566, 567] (by decide +kernel) (by decide +kernel)
set_option maxRecDepth 20000 in
theorem gL_law_X1_pieces : GoodIn wsL_law (wsV RL 100 RX1 yX1_pieces wsX1_pieces) := goodIn_app (goodIn_of _ (by decide +kernel)) ggL_law_X1_pieces
set_option maxRecDepth 20000 in
theorem ggL_law_L_largestPiece : GoodIn wsL_law wsL_largestPiece := goodIn_ca (goodIn_r _ [231, 38, 232, 233, 234, 2, 235, 13, 236, 237, 238, 239, 65, 191, 192, 193, 47, 48, 208, 209, 210, 211, 212, 213, 70, 71, 72, 73, 74, 75, 76, 77, 78, 79, 80, 81, 82, 83, 84, 85, 86, 87, 129, 130, 131, 132, 133, 134, 135, 552, 553, 554, 555, 556, 557, 558, 559] (by decide +kernel) (by decide +kernel)) (goodIn_sub (fun _ h => List.mem_append_left _ (List.mem_append_left _ (List.mem_append_right _ h))) (by decide +kernel))
set_option maxRecDepth 20000 in
theorem gL_law_L_largestPiece : GoodIn wsL_law (va_wsS RL 101 yL_largestPiece wsL_largestPiece) := goodIn_app (goodIn_of _ (by decide +kernel)) ggL_law_L_largestPiece
set_option maxRecDepth 20000 in
theorem ggL_law_X1_largestPiece : GoodIn wsL_law wsX1_largestPiece := goodIn_r _ [243, 30, 222, 167, 168, 169, 5, 170, 166, 28, 31, 171, 172, 173, 174, 175, 176, 102, 103, 104, 99, 100, 101, 105, 106, 107, 108, 109, 223, 224, 225, 226, 227, 228, 177, 178, 179, 560, 561, 562, 563, 564, 565, 566, 567] (by decide +kernel) (by decide +kernel)
set_option maxRecDepth 20000 in
theorem gL_law_X1_largestPiece : GoodIn wsL_law (wsV RL 103 RX1 yX1_largestPiece wsX1_largestPiece) := goodIn_app (goodIn_of _ (by decide +kernel)) ggL_law_X1_largestPiece
set_option maxRecDepth 20000 in
theorem ggL_law_X0_scattered : GoodIn wsL_law wsX0_scattered := goodIn_r _ [247, 13, 205, 206, 2, 207, 65, 208, 209, 210, 211, 212, 213, 70, 71, 72, 73, 74, 75, 76, 77, 78, 79, 80, 81, 82, 83, 84, 85, 86, 87, 552, 553, 554, 555, 556, 557, 558, 559] (by decide +kernel) (by decide +kernel)
set_option maxRecDepth 20000 in
theorem gL_law_X0_scattered : GoodIn wsL_law (wsV RL 104 RX0 yX0_scattered wsX0_scattered) := goodIn_app (goodIn_of _ (by decide +kernel)) ggL_law_X0_scattered
set_option maxRecDepth 20000 in
theorem ggL_law_X1_scattered : GoodIn wsL_law wsX1_scattered := goodIn_r _ [251, 109, 167, 168, 169, 5, 170, 166, 30, 28, 31, 171, 172, 173, 174, 175, 176, 218, 219, 220, 221, 222, 223, 224, 225, 226, 227, 228, 560, 561, 562, 563, 564, 565, 566, 567] (by decide +kernel) (by decide +kernel)
set_option maxRecDepth 20000 in
theorem gL_law_X1_scattered : GoodIn wsL_law (wsV RL 107 RX1 yX1_scattered wsX1_scattered) := goodIn_app (goodIn_of _ (by decide +kernel)) ggL_law_X1_scattered
set_option maxRecDepth 20000 in
theorem ggL_law_L_neighbours : GoodIn wsL_law wsL_neighbours := goodIn_ca (goodIn_r _ [254, 38, 255, 256, 257, 2, 258, 16, 191, 192, 193, 47, 48, 155, 156, 157, 158, 159, 160, 161, 552, 553, 554, 555, 556, 557, 558, 559] (by decide +kernel) (by decide +kernel)) (goodIn_sub (fun _ h => List.mem_append_left _ (List.mem_append_left _ (List.mem_append_right _ h))) (by decide +kernel))
set_option maxRecDepth 20000 in
theorem gL_law_L_neighbours : GoodIn wsL_law (va_wsS RL 108 yL_neighbours wsL_neighbours) := goodIn_app (goodIn_of _ (by decide +kernel)) ggL_law_L_neighbours
set_option maxRecDepth 20000 in
theorem ggL_law_X1_neighbours : GoodIn wsL_law wsX1_neighbours := goodIn_r _ [262, 31, 167, 168, 169, 5, 170, 166, 30, 28, 171, 172, 173, 174, 175, 176, 102, 103, 104, 99, 100, 101, 105, 106, 107, 108, 109, 177, 178, 179, 560, 561, 562, 563, 564, 565, 566, 567] (by decide +kernel) (by decide +kernel)
set_option maxRecDepth 20000 in
theorem gL_law_X1_neighbours : GoodIn wsL_law (wsV RL 110 RX1 yX1_neighbours wsX1_neighbours) := goodIn_app (goodIn_of _ (by decide +kernel)) ggL_law_X1_neighbours
set_option maxRecDepth 20000 in
theorem ggL_law_L_border : GoodIn wsL_law wsL_border := goodIn_ca (goodIn_r _ [265, 38, 266, 267, 268, 2, 269, 13, 191, 192, 193, 47, 48, 73, 74, 75, 129, 130, 131, 132, 133, 134, 135, 76, 77, 78, 79, 80, 81, 82, 83, 84, 85, 86, 87, 552, 553, 554, 555, 556, 557, 558, 559] (by decide +kernel) (by decide +kernel)) (goodIn_sub (fun _ h => List.mem_append_left _ (List.mem_append_left _ (List.mem_append_right _ h))) (by decide +kernel))
set_option maxRecDepth 20000 in
theorem gL_law_L_border : GoodIn wsL_law (va_wsS RL 111 yL_border wsL_border) := goodIn_app (goodIn_of _ (by decide +kernel)) ggL_law_L_border
set_option maxRecDepth 20000 in
theorem ggL_law_X1_border : GoodIn wsL_law wsX1_border := goodIn_r _ [273, 30, 167, 168, 169, 5, 170, 166, 28, 31, 171, 172, 173, 174, 175, 176, 102, 103, 104, 99, 100, 101, 105, 106, 107, 108, 109, 274, 275, 276, 177, 178, 179, 560, 561, 562, 563, 564, 565, 566, 567] (by decide +kernel) (by decide +kernel)
set_option maxRecDepth 20000 in
theorem gL_law_X1_border : GoodIn wsL_law (wsV RL 113 RX1 yX1_border wsX1_border) := goodIn_app (goodIn_of _ (by decide +kernel)) ggL_law_X1_border
set_option maxRecDepth 20000 in
theorem ggL_law_L_enclosed : GoodIn wsL_law wsL_enclosed := goodIn_ca (goodIn_r _ [279, 38, 280, 281, 282, 2, 283, 79, 13, 65, 284, 191, 192, 193, 47, 48, 211, 212, 213, 70, 71, 72, 73, 74, 75, 76, 77, 78, 80, 81, 82, 83, 84, 85, 86, 87, 129, 130, 131, 132, 133, 134, 135, 552, 553, 554, 555, 556, 557, 558, 559] (by decide +kernel) (by decide +kernel)) (goodIn_sub (fun _ h => List.mem_append_left _ (List.mem_append_left _ (List.mem_append_right _ h))) (by decide +kernel))
set_option maxRecDepth 20000 in
theorem gL_law_L_enclosed : GoodIn wsL_law (va_wsS RL 114 yL_enclosed wsL_enclosed) := goodIn_app (goodIn_of _ (by decide +kernel)) ggL_law_L_enclosed
set_option maxRecDepth 20000 in
theorem ggL_law_X1_enclosed : GoodIn wsL_law wsX1_enclosed := goodIn_r _ [288, 176, 30, 222, 289, 167, 168, 169, 5, 170, 166, 28, 31, 171, 172, 173, 174, 175, 102, 103, 104, 99, 100, 101, 105, 106, 107, 108, 109, 226, 227, 228, 177, 178, 179, 560, 561, 562, 563, 564, 565, 566, 567] (by decide +kernel) (by decide +kernel)
set_option maxRecDepth 20000 in
theorem gL_law_X1_enclosed : GoodIn wsL_law (wsV RL 116 RX1 yX1_enclosed wsX1_enclosed) := goodIn_app (goodIn_of _ (by decide +kernel)) ggL_law_X1_enclosed
set_option maxRecDepth 20000 in
theorem ggL_law_X0_allNeighbours : GoodIn wsL_law wsX0_allNeighbours := goodIn_r _ [293, 20, 14, 236, 237, 238, 239, 294, 295, 296, 2, 297, 16, 155, 156, 157, 158, 159, 160, 161, 552, 553, 554, 555, 556, 557, 558, 559] (by decide +kernel) (by decide +kernel)
set_option maxRecDepth 20000 in
theorem gL_law_X0_allNeighbours : GoodIn wsL_law (wsV RL 117 RX0 yX0_allNeighbours wsX0_allNeighbours) := goodIn_app (goodIn_of _ (by decide +kernel)) ggL_law_X0_allNeighbours
set_option maxRecDepth 20000 in
theorem ggL_law_X1_allNeighbours : GoodIn wsL_law wsX1_allNeighbours := goodIn_r _ [301, 109, 167, 168, 169, 5, 170, 166, 30, 28, 31, 171, 172, 173, 174, 175, 176, 177, 178, 179, 302, 303, 304, 305, 560, 561, 562, 563, 564, 565, 566, 567] (by decide +kernel) (by decide +kernel)
set_option maxRecDepth 20000 in
theorem gL_law_X1_allNeighbours : GoodIn wsL_law (wsV RL 120 RX1 yX1_allNeighbours wsX1_allNeighbours) := goodIn_app (goodIn_of _ (by decide +kernel)) ggL_law_X1_allNeighbours
set_option maxRecDepth 20000 in
theorem ggL_law_L_tint : GoodIn wsL_law wsL_tint := goodIn_ca (goodIn_ca (goodIn_r _ [308, 38, 39, 309, 310, 311, 2, 312, 17, 191, 192, 193, 47, 48, 313, 314, 315, 52, 53, 552, 553, 554, 555, 556, 557, 558, 559] (by decide +kernel) (by decide +kernel)) (goodIn_sub (fun _ h => List.mem_append_left _ (List.mem_append_left _ (List.mem_append_right _ h))) (by decide +kernel))) (goodIn_sub (fun _ h => List.mem_append_left _ (List.mem_append_right _ h)) (by decide +kernel))
set_option maxRecDepth 20000 in
theorem gL_law_L_tint : GoodIn wsL_law (va_wsS RL 121 yL_tint wsL_tint) := goodIn_app (goodIn_of _ (by decide +kernel)) ggL_law_L_tint
set_option maxRecDepth 20000 in
theorem ggL_law_X1_tint : GoodIn wsL_law wsX1_tint := goodIn_r _ [319, 29, 102, 103, 5, 104, 99, 100, 101, 105, 106, 107, 108, 109, 560, 561, 562, 563, 564, 565, 566, 567] (by decide +kernel) (by decide +kernel)
set_option maxRecDepth 20000 in
theorem gL_law_X1_tint : GoodIn wsL_law (wsV RL 123 RX1 yX1_tint wsX1_tint) := goodIn_app (goodIn_of _ (by decide +kernel)) ggL_law_X1_tint
set_option maxRecDepth 20000 in
theorem ggL_law_L_tintOf : GoodIn wsL_law wsL_tintOf := goodIn_ca (goodIn_r _ [322, 38, 323, 324, 325, 2, 326, 17, 191, 192, 193, 47, 48, 552, 553, 554, 555, 556, 557, 558, 559] (by decide +kernel) (by decide +kernel)) (goodIn_sub (fun _ h => List.mem_append_left _ (List.mem_append_left _ (List.mem_append_right _ h))) (by decide +kernel))
set_option maxRecDepth 20000 in
theorem gL_law_L_tintOf : GoodIn wsL_law (va_wsS RL 124 yL_tintOf wsL_tintOf) := goodIn_app (goodIn_of _ (by decide +kernel)) ggL_law_L_tintOf
set_option maxRecDepth 20000 in
theorem ggL_law_X1_tintOf : GoodIn wsL_law wsX1_tintOf := goodIn_r _ [330, 29, 102, 103, 5, 104, 99, 100, 101, 105, 106, 107, 108, 109, 560, 561, 562, 563, 564, 565, 566, 567] (by decide +kernel) (by decide +kernel)
set_option maxRecDepth 20000 in
theorem gL_law_X1_tintOf : GoodIn wsL_law (wsV RL 126 RX1 yX1_tintOf wsX1_tintOf) := goodIn_app (goodIn_of _ (by decide +kernel)) ggL_law_X1_tintOf
set_option maxRecDepth 20000 in
theorem ggL_law_X0_conflicts : GoodIn wsL_law wsX0_conflicts := goodIn_r _ [334, 17, 16, 335, 336, 337, 2, 338, 155, 156, 157, 158, 159, 160, 161, 552, 553, 554, 555, 556, 557, 558, 559] (by decide +kernel) (by decide +kernel)
set_option maxRecDepth 20000 in
theorem gL_law_X0_conflicts : GoodIn wsL_law (wsV RL 127 RX0 yX0_conflicts wsX0_conflicts) := goodIn_app (goodIn_of _ (by decide +kernel)) ggL_law_X0_conflicts
set_option maxRecDepth 20000 in
theorem ggL_law_X1_conflicts : GoodIn wsL_law wsX1_conflicts := goodIn_r _ [342, 343, 344, 345, 5, 346, 31, 29, 167, 168, 169, 170, 166, 30, 28, 171, 172, 173, 174, 175, 176, 180, 181, 182, 183, 109, 560, 561, 562, 563, 564, 565, 566, 567] (by decide +kernel) (by decide +kernel)
set_option maxRecDepth 20000 in
theorem gL_law_X1_conflicts : GoodIn wsL_law (wsV RL 130 RX1 yX1_conflicts wsX1_conflicts) := goodIn_app (goodIn_of _ (by decide +kernel)) ggL_law_X1_conflicts
set_option maxRecDepth 20000 in
theorem ggL_law_X0_isTinted : GoodIn wsL_law wsX0_isTinted := goodIn_r _ [350, 14, 335, 336, 337, 2, 338, 17, 351, 332, 333, 334, 16, 155, 156, 157, 158, 159, 160, 161, 552, 553, 554, 555, 556, 557, 558, 559] (by decide +kernel) (by decide +kernel)
set_option maxRecDepth 20000 in
theorem gL_law_X0_isTinted : GoodIn wsL_law (wsV RL 131 RX0 yX0_isTinted wsX0_isTinted) := goodIn_app (goodIn_of _ (by decide +kernel)) ggL_law_X0_isTinted
set_option maxRecDepth 20000 in
theorem ggL_law_X1_isTinted : GoodIn wsL_law wsX1_isTinted := goodIn_r _ [355, 109, 29, 343, 344, 345, 5, 346, 31, 167, 168, 169, 170, 166, 30, 28, 171, 172, 173, 174, 175, 176, 356, 357, 358, 359, 560, 561, 562, 563, 564, 565, 566, 567] (by decide +kernel) (by decide +kernel)
set_option maxRecDepth 20000 in
theorem gL_law_X1_isTinted : GoodIn wsL_law (wsV RL 135 RX1 yX1_isTinted wsX1_isTinted) := goodIn_app (goodIn_of _ (by decide +kernel)) ggL_law_X1_isTinted
set_option maxRecDepth 20000 in
theorem ggL_law_L_leastFree : GoodIn wsL_law wsL_leastFree := goodIn_ca (goodIn_r _ [362, 38, 363, 364, 365, 2, 366, 16, 191, 192, 193, 47, 48, 367, 368, 369, 370, 335, 336, 337, 338, 17, 552, 553, 554, 555, 556, 557, 558, 559] (by decide +kernel) (by decide +kernel)) (goodIn_sub (fun _ h => List.mem_append_left _ (List.mem_append_left _ (List.mem_append_right _ h))) (by decide +kernel))
set_option maxRecDepth 20000 in
theorem gL_law_L_leastFree : GoodIn wsL_law (va_wsS RL 136 yL_leastFree wsL_leastFree) := goodIn_app (goodIn_of _ (by decide +kernel)) ggL_law_L_leastFree
set_option maxRecDepth 20000 in
theorem ggL_law_X1_leastFree : GoodIn wsL_law wsX1_leastFree := goodIn_r _ [374, 31, 167, 168, 169, 5, 170, 166, 30, 28, 171, 172, 173, 174, 175, 176, 102, 103, 104, 99, 100, 101, 105, 106, 107, 108, 109, 375, 376, 377, 378, 29, 560, 561, 562, 563, 564, 565, 566, 567] (by decide +kernel) (by decide +kernel)
set_option maxRecDepth 20000 in
theorem gL_law_X1_leastFree : GoodIn wsL_law (wsV RL 138 RX1 yX1_leastFree wsX1_leastFree) := goodIn_app (goodIn_of _ (by decide +kernel)) ggL_law_X1_leastFree
set_option maxRecDepth 20000 in
theorem ggL_law_L_chain : GoodIn wsL_law wsL_chain := goodIn_ca (goodIn_ca (goodIn_ca (goodIn_r _ [381, 38, 39, 382, 383, 384, 385, 2, 386, 191, 192, 193, 47, 48, 313, 314, 315, 52, 53, 387, 388, 389, 390, 391, 392, 14, 17, 393, 394, 395, 396, 397, 398, 399, 16, 335, 336, 337, 338, 155, 156, 157, 158, 159, 160, 161, 552, 553, 554, 555, 556, 557, 558, 559] (by decide +kernel) (by decide +kernel)) (goodIn_sub (fun _ h => List.mem_append_left _ (List.mem_append_left _ (List.mem_append_right _ h))) (by decide +kernel))) (goodIn_sub (fun _ h => List.mem_append_left _ (List.mem_append_right _ h)) (by decide +kernel))) (goodIn_sub (fun _ h => List.mem_append_right _ h) (by decide +kernel))
set_option maxRecDepth 20000 in
theorem gL_law_L_chain : GoodIn wsL_law (va_wsS RL 139 yL_chain wsL_chain) := goodIn_app (goodIn_of _ (by decide +kernel)) ggL_law_L_chain
set_option maxRecDepth 20000 in
theorem ggL_law_X1_chain : GoodIn wsL_law wsX1_chain := goodIn_r _ [403, 404, 405, 406, 5, 407, 29, 167, 168, 169, 170, 166, 30, 28, 31, 171, 172, 173, 174, 175, 176, 102, 103, 104, 99, 100, 101, 356, 357, 358, 359, 105, 106, 107, 108, 109, 408, 409, 410, 411, 177, 178, 179, 560, 561, 562, 563, 564, 565, 566, 567] (by decide +kernel) (by decide +kernel)
set_option maxRecDepth 20000 in
theorem gL_law_X1_chain : GoodIn wsL_law (wsV RL 141 RX1 yX1_chain wsX1_chain) := goodIn_app (goodIn_of _ (by decide +kernel)) ggL_law_X1_chain
set_option maxRecDepth 20000 in
theorem ggL_law_L_exchange : GoodIn wsL_law wsL_exchange := goodIn_ca (goodIn_ca (goodIn_ca (goodIn_r _ [414, 38, 39, 382, 415, 416, 417, 2, 418, 17, 191, 192, 193, 47, 48, 313, 314, 315, 52, 53, 387, 388, 389, 390, 391, 392, 14, 393, 394, 395, 396, 397, 398, 399, 16, 335, 336, 337, 338, 155, 156, 157, 158, 159, 160, 161, 552, 553, 554, 555, 556, 557, 558, 559] (by decide +kernel) (by decide +kernel)) (goodIn_sub (fun _ h => List.mem_append_left _ (List.mem_append_left _ (List.mem_append_right _ h))) (by decide +kernel))) (goodIn_sub (fun _ h => List.mem_append_left _ (List.mem_append_right _ h)) (by decide +kernel))) (goodIn_sub (fun _ h => List.mem_append_right _ h) (by decide +kernel))
set_option maxRecDepth 20000 in
theorem gL_law_L_exchange : GoodIn wsL_law (va_wsS RL 142 yL_exchange wsL_exchange) := goodIn_app (goodIn_of _ (by decide +kernel)) ggL_law_L_exchange
set_option maxRecDepth 20000 in
theorem ggL_law_X1_exchange : GoodIn wsL_law wsX1_exchange := goodIn_r _ [422, 29, 404, 405, 406, 5, 407, 167, 168, 169, 170, 166, 30, 28, 31, 171, 172, 173, 174, 175, 176, 102, 103, 104, 99, 100, 101, 356, 357, 358, 359, 105, 106, 107, 108, 109, 408, 409, 410, 411, 177, 178, 179, 560, 561, 562, 563, 564, 565, 566, 567] (by decide +kernel) (by decide +kernel)
set_option maxRecDepth 20000 in
theorem gL_law_X1_exchange : GoodIn wsL_law (wsV RL 144 RX1 yX1_exchange wsX1_exchange) := goodIn_app (goodIn_of _ (by decide +kernel)) ggL_law_X1_exchange
set_option maxRecDepth 20000 in
theorem ggL_law_X0_tintInOrder : GoodIn wsL_law wsX0_tintInOrder := goodIn_r _ [426, 14, 17, 236, 237, 238, 239, 393, 394, 2, 395, 427, 428, 429, 430, 16, 367, 368, 369, 370, 335, 336, 337, 338, 431, 432, 433, 434, 155, 156, 157, 158, 159, 160, 161, 552, 553, 554, 555, 556, 557, 558, 559] (by decide +kernel) (by decide +kernel)
set_option maxRecDepth 20000 in
theorem gL_law_X0_tintInOrder : GoodIn wsL_law (wsV RL 145 RX0 yX0_tintInOrder wsX0_tintInOrder) := goodIn_app (goodIn_of _ (by decide +kernel)) ggL_law_X0_tintInOrder
set_option maxRecDepth 20000 in
theorem ggL_law_X1_tintInOrder : GoodIn wsL_law wsX1_tintInOrder := goodIn_r _ [438, 109, 166, 31, 29, 167, 168, 169, 5, 170, 30, 28, 171, 172, 173, 174, 175, 176, 356, 357, 358, 359, 177, 178, 179, 375, 376, 377, 378, 560, 561, 562, 563, 564, 565, 566, 567] (by decide +kernel) (by decide +kernel)
set_option maxRecDepth 20000 in
theorem gL_law_X1_tintInOrder : GoodIn wsL_law (wsV RL 149 RX1 yX1_tintInOrder wsX1_tintInOrder) := goodIn_app (goodIn_of _ (by decide +kernel)) ggL_law_X1_tintInOrder
set_option maxRecDepth 20000 in
theorem ggL_law_X0_fewestTints : GoodIn wsL_law wsX0_fewestTints := goodIn_r _ [442, 443, 444, 445, 2, 446, 16, 14, 18, 447, 448, 449, 236, 237, 238, 239, 393, 394, 395, 450, 451, 452, 552, 553, 554, 555, 556, 557, 558, 559] (by decide +kernel) (by decide +kernel)
set_option maxRecDepth 20000 in
theorem gL_law_X0_fewestTints : GoodIn wsL_law (wsV RL 150 RX0 yX0_fewestTints wsX0_fewestTints) := goodIn_app (goodIn_of _ (by decide +kernel)) ggL_law_X0_fewestTints
set_option maxRecDepth 20000 in
theorem ggL_law_X1_fewestTints : GoodIn wsL_law wsX1_fewestTints := goodIn_r _ [456, 457, 458, 459, 5, 460, 32, 166, 461, 462, 463, 464, 167, 168, 169, 170, 30, 28, 31, 171, 172, 173, 174, 175, 176, 465, 466, 467, 468, 33, 302, 303, 304, 305, 180, 181, 182, 183, 109, 560, 561, 562, 563, 564, 565, 566, 567] (by decide +kernel) (by decide +kernel)
set_option maxRecDepth 20000 in
theorem gL_law_X1_fewestTints : GoodIn wsL_law (wsV RL 153 RX1 yX1_fewestTints wsX1_fewestTints) := goodIn_app (goodIn_of _ (by decide +kernel)) ggL_law_X1_fewestTints
set_option maxRecDepth 20000 in
theorem ggL_law_X0_tintWithFewest : GoodIn wsL_law wsX0_tintWithFewest := goodIn_r _ [472, 14, 17, 18, 443, 444, 445, 2, 446, 16, 447, 448, 449, 236, 237, 238, 239, 393, 394, 395, 450, 451, 452, 552, 553, 554, 555, 556, 557, 558, 559] (by decide +kernel) (by decide +kernel)
set_option maxRecDepth 20000 in
theorem gL_law_X0_tintWithFewest : GoodIn wsL_law (wsV RL 154 RX0 yX0_tintWithFewest wsX0_tintWithFewest) := goodIn_app (goodIn_of _ (by decide +kernel)) ggL_law_X0_tintWithFewest
set_option maxRecDepth 20000 in
theorem ggL_law_X1_tintWithFewest : GoodIn wsL_law wsX1_tintWithFewest := goodIn_r _ [476, 109, 29, 457, 458, 459, 5, 460, 32, 166, 461, 462, 463, 464, 167, 168, 169, 170, 30, 28, 31, 171, 172, 173, 174, 175, 176, 465, 466, 467, 468, 33, 302, 303, 304, 305, 477, 478, 479, 480, 99, 100, 101, 356, 357, 358, 359, 481, 482, 483, 484, 560, 561, 562, 563, 564, 565, 566, 567] (by decide +kernel) (by decide +kernel)
set_option maxRecDepth 20000 in
theorem gL_law_X1_tintWithFewest : GoodIn wsL_law (wsV RL 157 RX1 yX1_tintWithFewest wsX1_tintWithFewest) := goodIn_app (goodIn_of _ (by decide +kernel)) ggL_law_X1_tintWithFewest
set_option maxRecDepth 20000 in
theorem ggL_law_L_tintings : GoodIn wsL_law wsL_tintings := goodIn_ca (goodIn_r _ [487, 39, 488, 489, 490, 2, 491, 21, 14, 492, 493, 494, 52, 53, 495, 496, 497, 498, 20, 16, 499, 500, 501, 502, 503, 504, 505, 506, 507, 508, 509, 510, 552, 553, 554, 555, 556, 557, 558, 559] (by decide +kernel) (by decide +kernel)) (goodIn_sub (fun _ h => List.mem_append_left _ (List.mem_append_right _ h)) (by decide +kernel))
set_option maxRecDepth 20000 in
theorem gL_law_L_tintings : GoodIn wsL_law (va_wsS RL 158 yL_tintings wsL_tintings) := goodIn_app (goodIn_of _ (by decide +kernel)) ggL_law_L_tintings
set_option maxRecDepth 20000 in
theorem ggL_law_X1_tintings : GoodIn wsL_law wsX1_tintings := goodIn_r _ [514, 515, 516, 517, 5, 518, 32, 166, 99, 100, 101, 105, 106, 107, 108, 109, 461, 462, 463, 464, 167, 168, 169, 170, 30, 28, 31, 171, 172, 173, 174, 175, 176, 465, 466, 467, 468, 33, 302, 303, 304, 305, 560, 561, 562, 563, 564, 565, 566, 567] (by decide +kernel) (by decide +kernel)
set_option maxRecDepth 20000 in
theorem gL_law_X1_tintings : GoodIn wsL_law (wsV RL 160 RX1 yX1_tintings wsX1_tintings) := goodIn_app (goodIn_of _ (by decide +kernel)) ggL_law_X1_tintings
set_option maxRecDepth 20000 in
theorem ggL_law_L_tintingsByPairs : GoodIn wsL_law wsL_tintingsByPairs := goodIn_ca (goodIn_r _ [521, 39, 522, 523, 524, 2, 525, 16, 23, 526, 527, 528, 529, 14, 492, 493, 494, 52, 53, 530, 531, 532, 533, 534, 535, 393, 394, 395, 536, 537, 538, 155, 156, 157, 158, 159, 160, 161, 539, 540, 541, 542, 543, 544, 545, 546, 547, 552, 553, 554, 555, 556, 557, 558, 559] (by decide +kernel) (by decide +kernel)) (goodIn_sub (fun _ h => List.mem_append_left _ (List.mem_append_right _ h)) (by decide +kernel))
set_option maxRecDepth 20000 in
theorem gL_law_L_tintingsByPairs : GoodIn wsL_law (va_wsS RL 161 yL_tintingsByPairs wsL_tintingsByPairs) := goodIn_app (goodIn_of _ (by decide +kernel)) ggL_law_L_tintingsByPairs
set_option maxRecDepth 20000 in
theorem ggL_law_X1_tintingsByPairs : GoodIn wsL_law wsX1_tintingsByPairs := goodIn_r _ [551, 515, 516, 517, 5, 518, 32, 166, 99, 100, 101, 105, 106, 107, 108, 109, 461, 462, 463, 464, 167, 168, 169, 170, 30, 28, 31, 171, 172, 173, 174, 175, 176, 465, 466, 467, 468, 33, 302, 303, 304, 305, 560, 561, 562, 563, 564, 565, 566, 567] (by decide +kernel) (by decide +kernel)
set_option maxRecDepth 20000 in
theorem gL_law_X1_tintingsByPairs : GoodIn wsL_law (wsV RL 163 RX1 yX1_tintingsByPairs wsX1_tintingsByPairs) := goodIn_app (goodIn_of _ (by decide +kernel)) ggL_law_X1_tintingsByPairs
theorem dL_law_0 : decode cL_law 0 = .ok (.new 8, 3) := by decide +kernel
theorem dL_law_3 : decode cL_law 3 = .ok (.dup, 1) := by decide +kernel
theorem dL_law_4 : decode cL_law 4 = .ok (.invokespecial 68, 3) := by decide +kernel
theorem dL_law_7 : decode cL_law 7 = .ok (.astore_n 1, 1) := by decide +kernel
theorem dL_law_8 : decode cL_law 8 = .ok (.new 69, 3) := by decide +kernel
theorem dL_law_11 : decode cL_law 11 = .ok (.dup, 1) := by decide +kernel
theorem dL_law_12 : decode cL_law 12 = .ok (.invokespecial 71, 3) := by decide +kernel
theorem dL_law_15 : decode cL_law 15 = .ok (.astore_n 2, 1) := by decide +kernel
theorem dL_law_16 : decode cL_law 16 = .ok (.iconst 1, 1) := by decide +kernel
theorem dL_law_17 : decode cL_law 17 = .ok (.newarray .long, 2) := by decide +kernel
theorem dL_law_19 : decode cL_law 19 = .ok (.astore_n 3, 1) := by decide +kernel
theorem dL_law_20 : decode cL_law 20 = .ok (.iconst 0, 1) := by decide +kernel
theorem dL_law_21 : decode cL_law 21 = .ok (.istore 4, 2) := by decide +kernel
theorem dL_law_23 : decode cL_law 23 = .ok (.iload 4, 2) := by decide +kernel
theorem dL_law_25 : decode cL_law 25 = .ok (.aload_n 0, 1) := by decide +kernel
theorem dL_law_26 : decode cL_law 26 = .ok (.arraylength, 1) := by decide +kernel
theorem dL_law_27 : decode cL_law 27 = .ok (.bipush 6, 2) := by decide +kernel
theorem dL_law_29 : decode cL_law 29 = .ok (.isub, 1) := by decide +kernel
theorem dL_law_30 : decode cL_law 30 = .ok (.if_icmp .gt 1286, 3) := by decide +kernel
theorem dL_law_33 : decode cL_law 33 = .ok (.aload_n 0, 1) := by decide +kernel
theorem dL_law_34 : decode cL_law 34 = .ok (.iload 4, 2) := by decide +kernel
theorem dL_law_36 : decode cL_law 36 = .ok (.iaload, 1) := by decide +kernel
theorem dL_law_37 : decode cL_law 37 = .ok (.bipush 31, 2) := by decide +kernel
theorem dL_law_39 : decode cL_law 39 = .ok (.iand, 1) := by decide +kernel
theorem dL_law_40 : decode cL_law 40 = .ok (.tableswitch 1270 0 23 #[112, 192, 296, 364, 377, 433, 489, 545, 558, 614, 682, 738, 751, 819, 875, 888, 901, 957, 1025, 1093, 1134, 1147, 1160, 1215], 112) := by decide +kernel
theorem dL_law_152 : decode cL_law 152 = .ok (.aload_n 1, 1) := by decide +kernel
theorem dL_law_153 : decode cL_law 153 = .ok (.aload_n 0, 1) := by decide +kernel
theorem dL_law_154 : decode cL_law 154 = .ok (.iload 4, 2) := by decide +kernel
theorem dL_law_156 : decode cL_law 156 = .ok (.iconst 1, 1) := by decide +kernel
theorem dL_law_157 : decode cL_law 157 = .ok (.iadd, 1) := by decide +kernel
theorem dL_law_158 : decode cL_law 158 = .ok (.iaload, 1) := by decide +kernel
theorem dL_law_159 : decode cL_law 159 = .ok (.aload_n 0, 1) := by decide +kernel
theorem dL_law_160 : decode cL_law 160 = .ok (.iload 4, 2) := by decide +kernel
theorem dL_law_162 : decode cL_law 162 = .ok (.iconst 2, 1) := by decide +kernel
theorem dL_law_163 : decode cL_law 163 = .ok (.iadd, 1) := by decide +kernel
theorem dL_law_164 : decode cL_law 164 = .ok (.iaload, 1) := by decide +kernel
theorem dL_law_165 : decode cL_law 165 = .ok (.aload_n 0, 1) := by decide +kernel
theorem dL_law_166 : decode cL_law 166 = .ok (.iload 4, 2) := by decide +kernel
theorem dL_law_168 : decode cL_law 168 = .ok (.iconst 3, 1) := by decide +kernel
theorem dL_law_169 : decode cL_law 169 = .ok (.iadd, 1) := by decide +kernel
theorem dL_law_170 : decode cL_law 170 = .ok (.iaload, 1) := by decide +kernel
theorem dL_law_171 : decode cL_law 171 = .ok (.aload_n 3, 1) := by decide +kernel
theorem dL_law_172 : decode cL_law 172 = .ok (.invokestatic 72, 3) := by decide +kernel
theorem dL_law_175 : decode cL_law 175 = .ok (.istore 5, 2) := by decide +kernel
theorem dL_law_177 : decode cL_law 177 = .ok (.aload_n 2, 1) := by decide +kernel
theorem dL_law_178 : decode cL_law 178 = .ok (.aload_n 0, 1) := by decide +kernel
theorem dL_law_179 : decode cL_law 179 = .ok (.iload 4, 2) := by decide +kernel
theorem dL_law_181 : decode cL_law 181 = .ok (.iconst 1, 1) := by decide +kernel
theorem dL_law_182 : decode cL_law 182 = .ok (.iadd, 1) := by decide +kernel
theorem dL_law_183 : decode cL_law 183 = .ok (.iaload, 1) := by decide +kernel
theorem dL_law_184 : decode cL_law 184 = .ok (.aload_n 0, 1) := by decide +kernel
theorem dL_law_185 : decode cL_law 185 = .ok (.iload 4, 2) := by decide +kernel
theorem dL_law_187 : decode cL_law 187 = .ok (.iconst 2, 1) := by decide +kernel
theorem dL_law_188 : decode cL_law 188 = .ok (.iadd, 1) := by decide +kernel
theorem dL_law_189 : decode cL_law 189 = .ok (.iaload, 1) := by decide +kernel
theorem dL_law_190 : decode cL_law 190 = .ok (.aload_n 0, 1) := by decide +kernel
theorem dL_law_191 : decode cL_law 191 = .ok (.iload 4, 2) := by decide +kernel
theorem dL_law_193 : decode cL_law 193 = .ok (.iconst 3, 1) := by decide +kernel
theorem dL_law_194 : decode cL_law 194 = .ok (.iadd, 1) := by decide +kernel
theorem dL_law_195 : decode cL_law 195 = .ok (.iaload, 1) := by decide +kernel
theorem dL_law_196 : decode cL_law 196 = .ok (.invokevirtual 77, 3) := by decide +kernel
theorem dL_law_199 : decode cL_law 199 = .ok (.istore 6, 2) := by decide +kernel
theorem dL_law_201 : decode cL_law 201 = .ok (.aload_n 2, 1) := by decide +kernel
theorem dL_law_202 : decode cL_law 202 = .ok (.invokevirtual 78, 3) := by decide +kernel
theorem dL_law_205 : decode cL_law 205 = .ok (.iload 5, 2) := by decide +kernel
theorem dL_law_207 : decode cL_law 207 = .ok (.if_icmp .eq 5, 3) := by decide +kernel
theorem dL_law_210 : decode cL_law 210 = .ok (.iconst 0, 1) := by decide +kernel
theorem dL_law_211 : decode cL_law 211 = .ok (.ireturn, 1) := by decide +kernel
theorem dL_law_212 : decode cL_law 212 = .ok (.iload 5, 2) := by decide +kernel
theorem dL_law_214 : decode cL_law 214 = .ok (.ifCond .ne 15, 3) := by decide +kernel
theorem dL_law_217 : decode cL_law 217 = .ok (.aload_n 3, 1) := by decide +kernel
theorem dL_law_218 : decode cL_law 218 = .ok (.iconst 0, 1) := by decide +kernel
theorem dL_law_219 : decode cL_law 219 = .ok (.laload, 1) := by decide +kernel
theorem dL_law_220 : decode cL_law 220 = .ok (.iload 6, 2) := by decide +kernel
theorem dL_law_222 : decode cL_law 222 = .ok (.i2l, 1) := by decide +kernel
theorem dL_law_223 : decode cL_law 223 = .ok (.lcmp, 1) := by decide +kernel
theorem dL_law_224 : decode cL_law 224 = .ok (.ifCond .eq 5, 3) := by decide +kernel
theorem dL_law_227 : decode cL_law 227 = .ok (.iconst 0, 1) := by decide +kernel
theorem dL_law_228 : decode cL_law 228 = .ok (.ireturn, 1) := by decide +kernel
theorem dL_law_229 : decode cL_law 229 = .ok (.goto 1081, 3) := by decide +kernel
theorem dL_law_232 : decode cL_law 232 = .ok (.aload_n 1, 1) := by decide +kernel
theorem dL_law_233 : decode cL_law 233 = .ok (.aload_n 0, 1) := by decide +kernel
theorem dL_law_234 : decode cL_law 234 = .ok (.iload 4, 2) := by decide +kernel
theorem dL_law_236 : decode cL_law 236 = .ok (.iconst 1, 1) := by decide +kernel
theorem dL_law_237 : decode cL_law 237 = .ok (.iadd, 1) := by decide +kernel
theorem dL_law_238 : decode cL_law 238 = .ok (.iaload, 1) := by decide +kernel
theorem dL_law_239 : decode cL_law 239 = .ok (.aload_n 0, 1) := by decide +kernel
theorem dL_law_240 : decode cL_law 240 = .ok (.iload 4, 2) := by decide +kernel
theorem dL_law_242 : decode cL_law 242 = .ok (.iconst 2, 1) := by decide +kernel
theorem dL_law_243 : decode cL_law 243 = .ok (.iadd, 1) := by decide +kernel
theorem dL_law_244 : decode cL_law 244 = .ok (.iaload, 1) := by decide +kernel
theorem dL_law_245 : decode cL_law 245 = .ok (.aload_n 0, 1) := by decide +kernel
theorem dL_law_246 : decode cL_law 246 = .ok (.iload 4, 2) := by decide +kernel
theorem dL_law_248 : decode cL_law 248 = .ok (.iconst 3, 1) := by decide +kernel
theorem dL_law_249 : decode cL_law 249 = .ok (.iadd, 1) := by decide +kernel
theorem dL_law_250 : decode cL_law 250 = .ok (.iaload, 1) := by decide +kernel
theorem dL_law_251 : decode cL_law 251 = .ok (.aload_n 0, 1) := by decide +kernel
theorem dL_law_252 : decode cL_law 252 = .ok (.iload 4, 2) := by decide +kernel
theorem dL_law_254 : decode cL_law 254 = .ok (.iconst 4, 1) := by decide +kernel
theorem dL_law_255 : decode cL_law 255 = .ok (.iadd, 1) := by decide +kernel
theorem dL_law_256 : decode cL_law 256 = .ok (.iaload, 1) := by decide +kernel
theorem dL_law_257 : decode cL_law 257 = .ok (.aload_n 0, 1) := by decide +kernel
theorem dL_law_258 : decode cL_law 258 = .ok (.iload 4, 2) := by decide +kernel
theorem dL_law_260 : decode cL_law 260 = .ok (.iconst 5, 1) := by decide +kernel
theorem dL_law_261 : decode cL_law 261 = .ok (.iadd, 1) := by decide +kernel
theorem dL_law_262 : decode cL_law 262 = .ok (.iaload, 1) := by decide +kernel
theorem dL_law_263 : decode cL_law 263 = .ok (.aload_n 3, 1) := by decide +kernel
theorem dL_law_264 : decode cL_law 264 = .ok (.invokestatic 82, 3) := by decide +kernel
theorem dL_law_267 : decode cL_law 267 = .ok (.istore 5, 2) := by decide +kernel
theorem dL_law_269 : decode cL_law 269 = .ok (.aload_n 2, 1) := by decide +kernel
theorem dL_law_270 : decode cL_law 270 = .ok (.aload_n 0, 1) := by decide +kernel
theorem dL_law_271 : decode cL_law 271 = .ok (.iload 4, 2) := by decide +kernel
theorem dL_law_273 : decode cL_law 273 = .ok (.iconst 1, 1) := by decide +kernel
theorem dL_law_274 : decode cL_law 274 = .ok (.iadd, 1) := by decide +kernel
theorem dL_law_275 : decode cL_law 275 = .ok (.iaload, 1) := by decide +kernel
theorem dL_law_276 : decode cL_law 276 = .ok (.aload_n 0, 1) := by decide +kernel
theorem dL_law_277 : decode cL_law 277 = .ok (.iload 4, 2) := by decide +kernel
theorem dL_law_279 : decode cL_law 279 = .ok (.iconst 2, 1) := by decide +kernel
theorem dL_law_280 : decode cL_law 280 = .ok (.iadd, 1) := by decide +kernel
theorem dL_law_281 : decode cL_law 281 = .ok (.iaload, 1) := by decide +kernel
theorem dL_law_282 : decode cL_law 282 = .ok (.aload_n 0, 1) := by decide +kernel
theorem dL_law_283 : decode cL_law 283 = .ok (.iload 4, 2) := by decide +kernel
theorem dL_law_285 : decode cL_law 285 = .ok (.iconst 3, 1) := by decide +kernel
theorem dL_law_286 : decode cL_law 286 = .ok (.iadd, 1) := by decide +kernel
theorem dL_law_287 : decode cL_law 287 = .ok (.iaload, 1) := by decide +kernel
theorem dL_law_288 : decode cL_law 288 = .ok (.aload_n 0, 1) := by decide +kernel
theorem dL_law_289 : decode cL_law 289 = .ok (.iload 4, 2) := by decide +kernel
theorem dL_law_291 : decode cL_law 291 = .ok (.iconst 4, 1) := by decide +kernel
theorem dL_law_292 : decode cL_law 292 = .ok (.iadd, 1) := by decide +kernel
theorem dL_law_293 : decode cL_law 293 = .ok (.iaload, 1) := by decide +kernel
theorem dL_law_294 : decode cL_law 294 = .ok (.aload_n 0, 1) := by decide +kernel
theorem dL_law_295 : decode cL_law 295 = .ok (.iload 4, 2) := by decide +kernel
theorem dL_law_297 : decode cL_law 297 = .ok (.iconst 5, 1) := by decide +kernel
theorem dL_law_298 : decode cL_law 298 = .ok (.iadd, 1) := by decide +kernel
theorem dL_law_299 : decode cL_law 299 = .ok (.iaload, 1) := by decide +kernel
theorem dL_law_300 : decode cL_law 300 = .ok (.invokevirtual 85, 3) := by decide +kernel
theorem dL_law_303 : decode cL_law 303 = .ok (.istore 6, 2) := by decide +kernel
theorem dL_law_305 : decode cL_law 305 = .ok (.aload_n 2, 1) := by decide +kernel
theorem dL_law_306 : decode cL_law 306 = .ok (.invokevirtual 78, 3) := by decide +kernel
theorem dL_law_309 : decode cL_law 309 = .ok (.iload 5, 2) := by decide +kernel
theorem dL_law_311 : decode cL_law 311 = .ok (.if_icmp .eq 5, 3) := by decide +kernel
theorem dL_law_314 : decode cL_law 314 = .ok (.iconst 0, 1) := by decide +kernel
theorem dL_law_315 : decode cL_law 315 = .ok (.ireturn, 1) := by decide +kernel
theorem dL_law_316 : decode cL_law 316 = .ok (.iload 5, 2) := by decide +kernel
theorem dL_law_318 : decode cL_law 318 = .ok (.ifCond .ne 15, 3) := by decide +kernel
theorem dL_law_321 : decode cL_law 321 = .ok (.aload_n 3, 1) := by decide +kernel
theorem dL_law_322 : decode cL_law 322 = .ok (.iconst 0, 1) := by decide +kernel
theorem dL_law_323 : decode cL_law 323 = .ok (.laload, 1) := by decide +kernel
theorem dL_law_324 : decode cL_law 324 = .ok (.iload 6, 2) := by decide +kernel
theorem dL_law_326 : decode cL_law 326 = .ok (.i2l, 1) := by decide +kernel
theorem dL_law_327 : decode cL_law 327 = .ok (.lcmp, 1) := by decide +kernel
theorem dL_law_328 : decode cL_law 328 = .ok (.ifCond .eq 5, 3) := by decide +kernel
theorem dL_law_331 : decode cL_law 331 = .ok (.iconst 0, 1) := by decide +kernel
theorem dL_law_332 : decode cL_law 332 = .ok (.ireturn, 1) := by decide +kernel
theorem dL_law_333 : decode cL_law 333 = .ok (.goto 977, 3) := by decide +kernel
theorem dL_law_336 : decode cL_law 336 = .ok (.aload_n 1, 1) := by decide +kernel
theorem dL_law_337 : decode cL_law 337 = .ok (.aload_n 0, 1) := by decide +kernel
theorem dL_law_338 : decode cL_law 338 = .ok (.iload 4, 2) := by decide +kernel
theorem dL_law_340 : decode cL_law 340 = .ok (.iconst 1, 1) := by decide +kernel
theorem dL_law_341 : decode cL_law 341 = .ok (.iadd, 1) := by decide +kernel
theorem dL_law_342 : decode cL_law 342 = .ok (.iaload, 1) := by decide +kernel
theorem dL_law_343 : decode cL_law 343 = .ok (.aload_n 0, 1) := by decide +kernel
theorem dL_law_344 : decode cL_law 344 = .ok (.iload 4, 2) := by decide +kernel
theorem dL_law_346 : decode cL_law 346 = .ok (.iconst 2, 1) := by decide +kernel
theorem dL_law_347 : decode cL_law 347 = .ok (.iadd, 1) := by decide +kernel
theorem dL_law_348 : decode cL_law 348 = .ok (.iaload, 1) := by decide +kernel
theorem dL_law_349 : decode cL_law 349 = .ok (.aload_n 3, 1) := by decide +kernel
theorem dL_law_350 : decode cL_law 350 = .ok (.invokestatic 86, 3) := by decide +kernel
theorem dL_law_353 : decode cL_law 353 = .ok (.istore 5, 2) := by decide +kernel
theorem dL_law_355 : decode cL_law 355 = .ok (.aload_n 2, 1) := by decide +kernel
theorem dL_law_356 : decode cL_law 356 = .ok (.aload_n 0, 1) := by decide +kernel
theorem dL_law_357 : decode cL_law 357 = .ok (.iload 4, 2) := by decide +kernel
theorem dL_law_359 : decode cL_law 359 = .ok (.iconst 1, 1) := by decide +kernel
theorem dL_law_360 : decode cL_law 360 = .ok (.iadd, 1) := by decide +kernel
theorem dL_law_361 : decode cL_law 361 = .ok (.iaload, 1) := by decide +kernel
theorem dL_law_362 : decode cL_law 362 = .ok (.aload_n 0, 1) := by decide +kernel
theorem dL_law_363 : decode cL_law 363 = .ok (.iload 4, 2) := by decide +kernel
theorem dL_law_365 : decode cL_law 365 = .ok (.iconst 2, 1) := by decide +kernel
theorem dL_law_366 : decode cL_law 366 = .ok (.iadd, 1) := by decide +kernel
theorem dL_law_367 : decode cL_law 367 = .ok (.iaload, 1) := by decide +kernel
theorem dL_law_368 : decode cL_law 368 = .ok (.invokevirtual 89, 3) := by decide +kernel
theorem dL_law_371 : decode cL_law 371 = .ok (.istore 6, 2) := by decide +kernel
theorem dL_law_373 : decode cL_law 373 = .ok (.aload_n 2, 1) := by decide +kernel
theorem dL_law_374 : decode cL_law 374 = .ok (.invokevirtual 78, 3) := by decide +kernel
theorem dL_law_377 : decode cL_law 377 = .ok (.iload 5, 2) := by decide +kernel
theorem dL_law_379 : decode cL_law 379 = .ok (.if_icmp .eq 5, 3) := by decide +kernel
theorem dL_law_382 : decode cL_law 382 = .ok (.iconst 0, 1) := by decide +kernel
theorem dL_law_383 : decode cL_law 383 = .ok (.ireturn, 1) := by decide +kernel
theorem dL_law_384 : decode cL_law 384 = .ok (.iload 5, 2) := by decide +kernel
theorem dL_law_386 : decode cL_law 386 = .ok (.ifCond .ne 15, 3) := by decide +kernel
theorem dL_law_389 : decode cL_law 389 = .ok (.aload_n 3, 1) := by decide +kernel
theorem dL_law_390 : decode cL_law 390 = .ok (.iconst 0, 1) := by decide +kernel
theorem dL_law_391 : decode cL_law 391 = .ok (.laload, 1) := by decide +kernel
theorem dL_law_392 : decode cL_law 392 = .ok (.iload 6, 2) := by decide +kernel
theorem dL_law_394 : decode cL_law 394 = .ok (.i2l, 1) := by decide +kernel
theorem dL_law_395 : decode cL_law 395 = .ok (.lcmp, 1) := by decide +kernel
theorem dL_law_396 : decode cL_law 396 = .ok (.ifCond .eq 5, 3) := by decide +kernel
theorem dL_law_399 : decode cL_law 399 = .ok (.iconst 0, 1) := by decide +kernel
theorem dL_law_400 : decode cL_law 400 = .ok (.ireturn, 1) := by decide +kernel
theorem dL_law_401 : decode cL_law 401 = .ok (.goto 909, 3) := by decide +kernel
theorem dL_law_404 : decode cL_law 404 = .ok (.aload_n 1, 1) := by decide +kernel
theorem dL_law_405 : decode cL_law 405 = .ok (.invokevirtual 90, 3) := by decide +kernel
theorem dL_law_408 : decode cL_law 408 = .ok (.aload_n 2, 1) := by decide +kernel
theorem dL_law_409 : decode cL_law 409 = .ok (.invokevirtual 93, 3) := by decide +kernel
theorem dL_law_412 : decode cL_law 412 = .ok (.if_icmp .eq 898, 3) := by decide +kernel
theorem dL_law_415 : decode cL_law 415 = .ok (.iconst 0, 1) := by decide +kernel
theorem dL_law_416 : decode cL_law 416 = .ok (.ireturn, 1) := by decide +kernel
theorem dL_law_417 : decode cL_law 417 = .ok (.aload_n 1, 1) := by decide +kernel
theorem dL_law_418 : decode cL_law 418 = .ok (.aload_n 0, 1) := by decide +kernel
theorem dL_law_419 : decode cL_law 419 = .ok (.iload 4, 2) := by decide +kernel
theorem dL_law_421 : decode cL_law 421 = .ok (.iconst 1, 1) := by decide +kernel
theorem dL_law_422 : decode cL_law 422 = .ok (.iadd, 1) := by decide +kernel
theorem dL_law_423 : decode cL_law 423 = .ok (.iaload, 1) := by decide +kernel
theorem dL_law_424 : decode cL_law 424 = .ok (.aload_n 3, 1) := by decide +kernel
theorem dL_law_425 : decode cL_law 425 = .ok (.invokestatic 94, 3) := by decide +kernel
theorem dL_law_428 : decode cL_law 428 = .ok (.istore 5, 2) := by decide +kernel
theorem dL_law_430 : decode cL_law 430 = .ok (.aload_n 2, 1) := by decide +kernel
theorem dL_law_431 : decode cL_law 431 = .ok (.aload_n 0, 1) := by decide +kernel
theorem dL_law_432 : decode cL_law 432 = .ok (.iload 4, 2) := by decide +kernel
theorem dL_law_434 : decode cL_law 434 = .ok (.iconst 1, 1) := by decide +kernel
theorem dL_law_435 : decode cL_law 435 = .ok (.iadd, 1) := by decide +kernel
theorem dL_law_436 : decode cL_law 436 = .ok (.iaload, 1) := by decide +kernel
theorem dL_law_437 : decode cL_law 437 = .ok (.invokevirtual 97, 3) := by decide +kernel
theorem dL_law_440 : decode cL_law 440 = .ok (.istore 6, 2) := by decide +kernel
theorem dL_law_442 : decode cL_law 442 = .ok (.aload_n 2, 1) := by decide +kernel
theorem dL_law_443 : decode cL_law 443 = .ok (.invokevirtual 78, 3) := by decide +kernel
theorem dL_law_446 : decode cL_law 446 = .ok (.iload 5, 2) := by decide +kernel
theorem dL_law_448 : decode cL_law 448 = .ok (.if_icmp .eq 5, 3) := by decide +kernel
theorem dL_law_451 : decode cL_law 451 = .ok (.iconst 0, 1) := by decide +kernel
theorem dL_law_452 : decode cL_law 452 = .ok (.ireturn, 1) := by decide +kernel
theorem dL_law_453 : decode cL_law 453 = .ok (.iload 5, 2) := by decide +kernel
theorem dL_law_455 : decode cL_law 455 = .ok (.ifCond .ne 15, 3) := by decide +kernel
theorem dL_law_458 : decode cL_law 458 = .ok (.aload_n 3, 1) := by decide +kernel
theorem dL_law_459 : decode cL_law 459 = .ok (.iconst 0, 1) := by decide +kernel
theorem dL_law_460 : decode cL_law 460 = .ok (.laload, 1) := by decide +kernel
theorem dL_law_461 : decode cL_law 461 = .ok (.iload 6, 2) := by decide +kernel
theorem dL_law_463 : decode cL_law 463 = .ok (.i2l, 1) := by decide +kernel
theorem dL_law_464 : decode cL_law 464 = .ok (.lcmp, 1) := by decide +kernel
theorem dL_law_465 : decode cL_law 465 = .ok (.ifCond .eq 5, 3) := by decide +kernel
theorem dL_law_468 : decode cL_law 468 = .ok (.iconst 0, 1) := by decide +kernel
theorem dL_law_469 : decode cL_law 469 = .ok (.ireturn, 1) := by decide +kernel
theorem dL_law_470 : decode cL_law 470 = .ok (.goto 840, 3) := by decide +kernel
theorem dL_law_473 : decode cL_law 473 = .ok (.aload_n 1, 1) := by decide +kernel
theorem dL_law_474 : decode cL_law 474 = .ok (.aload_n 0, 1) := by decide +kernel
theorem dL_law_475 : decode cL_law 475 = .ok (.iload 4, 2) := by decide +kernel
theorem dL_law_477 : decode cL_law 477 = .ok (.iconst 1, 1) := by decide +kernel
theorem dL_law_478 : decode cL_law 478 = .ok (.iadd, 1) := by decide +kernel
theorem dL_law_479 : decode cL_law 479 = .ok (.iaload, 1) := by decide +kernel
theorem dL_law_480 : decode cL_law 480 = .ok (.aload_n 3, 1) := by decide +kernel
theorem dL_law_481 : decode cL_law 481 = .ok (.invokestatic 98, 3) := by decide +kernel
theorem dL_law_484 : decode cL_law 484 = .ok (.istore 5, 2) := by decide +kernel
theorem dL_law_486 : decode cL_law 486 = .ok (.aload_n 2, 1) := by decide +kernel
theorem dL_law_487 : decode cL_law 487 = .ok (.aload_n 0, 1) := by decide +kernel
theorem dL_law_488 : decode cL_law 488 = .ok (.iload 4, 2) := by decide +kernel
theorem dL_law_490 : decode cL_law 490 = .ok (.iconst 1, 1) := by decide +kernel
theorem dL_law_491 : decode cL_law 491 = .ok (.iadd, 1) := by decide +kernel
theorem dL_law_492 : decode cL_law 492 = .ok (.iaload, 1) := by decide +kernel
theorem dL_law_493 : decode cL_law 493 = .ok (.invokevirtual 100, 3) := by decide +kernel
theorem dL_law_496 : decode cL_law 496 = .ok (.istore 6, 2) := by decide +kernel
theorem dL_law_498 : decode cL_law 498 = .ok (.aload_n 2, 1) := by decide +kernel
theorem dL_law_499 : decode cL_law 499 = .ok (.invokevirtual 78, 3) := by decide +kernel
theorem dL_law_502 : decode cL_law 502 = .ok (.iload 5, 2) := by decide +kernel
theorem dL_law_504 : decode cL_law 504 = .ok (.if_icmp .eq 5, 3) := by decide +kernel
theorem dL_law_507 : decode cL_law 507 = .ok (.iconst 0, 1) := by decide +kernel
theorem dL_law_508 : decode cL_law 508 = .ok (.ireturn, 1) := by decide +kernel
theorem dL_law_509 : decode cL_law 509 = .ok (.iload 5, 2) := by decide +kernel
theorem dL_law_511 : decode cL_law 511 = .ok (.ifCond .ne 15, 3) := by decide +kernel
theorem dL_law_514 : decode cL_law 514 = .ok (.aload_n 3, 1) := by decide +kernel
theorem dL_law_515 : decode cL_law 515 = .ok (.iconst 0, 1) := by decide +kernel
theorem dL_law_516 : decode cL_law 516 = .ok (.laload, 1) := by decide +kernel
theorem dL_law_517 : decode cL_law 517 = .ok (.iload 6, 2) := by decide +kernel
theorem dL_law_519 : decode cL_law 519 = .ok (.i2l, 1) := by decide +kernel
theorem dL_law_520 : decode cL_law 520 = .ok (.lcmp, 1) := by decide +kernel
theorem dL_law_521 : decode cL_law 521 = .ok (.ifCond .eq 5, 3) := by decide +kernel
theorem dL_law_524 : decode cL_law 524 = .ok (.iconst 0, 1) := by decide +kernel
theorem dL_law_525 : decode cL_law 525 = .ok (.ireturn, 1) := by decide +kernel
theorem dL_law_526 : decode cL_law 526 = .ok (.goto 784, 3) := by decide +kernel
theorem dL_law_529 : decode cL_law 529 = .ok (.aload_n 1, 1) := by decide +kernel
theorem dL_law_530 : decode cL_law 530 = .ok (.aload_n 0, 1) := by decide +kernel
theorem dL_law_531 : decode cL_law 531 = .ok (.iload 4, 2) := by decide +kernel
theorem dL_law_533 : decode cL_law 533 = .ok (.iconst 1, 1) := by decide +kernel
theorem dL_law_534 : decode cL_law 534 = .ok (.iadd, 1) := by decide +kernel
theorem dL_law_535 : decode cL_law 535 = .ok (.iaload, 1) := by decide +kernel
theorem dL_law_536 : decode cL_law 536 = .ok (.aload_n 3, 1) := by decide +kernel
theorem dL_law_537 : decode cL_law 537 = .ok (.invokestatic 101, 3) := by decide +kernel
theorem dL_law_540 : decode cL_law 540 = .ok (.istore 5, 2) := by decide +kernel
theorem dL_law_542 : decode cL_law 542 = .ok (.aload_n 2, 1) := by decide +kernel
theorem dL_law_543 : decode cL_law 543 = .ok (.aload_n 0, 1) := by decide +kernel
theorem dL_law_544 : decode cL_law 544 = .ok (.iload 4, 2) := by decide +kernel
theorem dL_law_546 : decode cL_law 546 = .ok (.iconst 1, 1) := by decide +kernel
theorem dL_law_547 : decode cL_law 547 = .ok (.iadd, 1) := by decide +kernel
theorem dL_law_548 : decode cL_law 548 = .ok (.iaload, 1) := by decide +kernel
theorem dL_law_549 : decode cL_law 549 = .ok (.invokevirtual 103, 3) := by decide +kernel
theorem dL_law_552 : decode cL_law 552 = .ok (.istore 6, 2) := by decide +kernel
theorem dL_law_554 : decode cL_law 554 = .ok (.aload_n 2, 1) := by decide +kernel
theorem dL_law_555 : decode cL_law 555 = .ok (.invokevirtual 78, 3) := by decide +kernel
theorem dL_law_558 : decode cL_law 558 = .ok (.iload 5, 2) := by decide +kernel
theorem dL_law_560 : decode cL_law 560 = .ok (.if_icmp .eq 5, 3) := by decide +kernel
theorem dL_law_563 : decode cL_law 563 = .ok (.iconst 0, 1) := by decide +kernel
theorem dL_law_564 : decode cL_law 564 = .ok (.ireturn, 1) := by decide +kernel
theorem dL_law_565 : decode cL_law 565 = .ok (.iload 5, 2) := by decide +kernel
theorem dL_law_567 : decode cL_law 567 = .ok (.ifCond .ne 15, 3) := by decide +kernel
theorem dL_law_570 : decode cL_law 570 = .ok (.aload_n 3, 1) := by decide +kernel
theorem dL_law_571 : decode cL_law 571 = .ok (.iconst 0, 1) := by decide +kernel
theorem dL_law_572 : decode cL_law 572 = .ok (.laload, 1) := by decide +kernel
theorem dL_law_573 : decode cL_law 573 = .ok (.iload 6, 2) := by decide +kernel
theorem dL_law_575 : decode cL_law 575 = .ok (.i2l, 1) := by decide +kernel
theorem dL_law_576 : decode cL_law 576 = .ok (.lcmp, 1) := by decide +kernel
theorem dL_law_577 : decode cL_law 577 = .ok (.ifCond .eq 5, 3) := by decide +kernel
theorem dL_law_580 : decode cL_law 580 = .ok (.iconst 0, 1) := by decide +kernel
theorem dL_law_581 : decode cL_law 581 = .ok (.ireturn, 1) := by decide +kernel
theorem dL_law_582 : decode cL_law 582 = .ok (.goto 728, 3) := by decide +kernel
theorem dL_law_585 : decode cL_law 585 = .ok (.aload_n 1, 1) := by decide +kernel
theorem dL_law_586 : decode cL_law 586 = .ok (.invokevirtual 104, 3) := by decide +kernel
theorem dL_law_589 : decode cL_law 589 = .ok (.aload_n 2, 1) := by decide +kernel
theorem dL_law_590 : decode cL_law 590 = .ok (.invokevirtual 107, 3) := by decide +kernel
theorem dL_law_593 : decode cL_law 593 = .ok (.if_icmp .eq 717, 3) := by decide +kernel
theorem dL_law_596 : decode cL_law 596 = .ok (.iconst 0, 1) := by decide +kernel
theorem dL_law_597 : decode cL_law 597 = .ok (.ireturn, 1) := by decide +kernel
theorem dL_law_598 : decode cL_law 598 = .ok (.aload_n 1, 1) := by decide +kernel
theorem dL_law_599 : decode cL_law 599 = .ok (.aload_n 0, 1) := by decide +kernel
theorem dL_law_600 : decode cL_law 600 = .ok (.iload 4, 2) := by decide +kernel
theorem dL_law_602 : decode cL_law 602 = .ok (.iconst 1, 1) := by decide +kernel
theorem dL_law_603 : decode cL_law 603 = .ok (.iadd, 1) := by decide +kernel
theorem dL_law_604 : decode cL_law 604 = .ok (.iaload, 1) := by decide +kernel
theorem dL_law_605 : decode cL_law 605 = .ok (.aload_n 3, 1) := by decide +kernel
theorem dL_law_606 : decode cL_law 606 = .ok (.invokestatic 108, 3) := by decide +kernel
theorem dL_law_609 : decode cL_law 609 = .ok (.istore 5, 2) := by decide +kernel
theorem dL_law_611 : decode cL_law 611 = .ok (.aload_n 2, 1) := by decide +kernel
theorem dL_law_612 : decode cL_law 612 = .ok (.aload_n 0, 1) := by decide +kernel
theorem dL_law_613 : decode cL_law 613 = .ok (.iload 4, 2) := by decide +kernel
theorem dL_law_615 : decode cL_law 615 = .ok (.iconst 1, 1) := by decide +kernel
theorem dL_law_616 : decode cL_law 616 = .ok (.iadd, 1) := by decide +kernel
theorem dL_law_617 : decode cL_law 617 = .ok (.iaload, 1) := by decide +kernel
theorem dL_law_618 : decode cL_law 618 = .ok (.invokevirtual 110, 3) := by decide +kernel
theorem dL_law_621 : decode cL_law 621 = .ok (.istore 6, 2) := by decide +kernel
theorem dL_law_623 : decode cL_law 623 = .ok (.aload_n 2, 1) := by decide +kernel
theorem dL_law_624 : decode cL_law 624 = .ok (.invokevirtual 78, 3) := by decide +kernel
theorem dL_law_627 : decode cL_law 627 = .ok (.iload 5, 2) := by decide +kernel
theorem dL_law_629 : decode cL_law 629 = .ok (.if_icmp .eq 5, 3) := by decide +kernel
theorem dL_law_632 : decode cL_law 632 = .ok (.iconst 0, 1) := by decide +kernel
theorem dL_law_633 : decode cL_law 633 = .ok (.ireturn, 1) := by decide +kernel
theorem dL_law_634 : decode cL_law 634 = .ok (.iload 5, 2) := by decide +kernel
theorem dL_law_636 : decode cL_law 636 = .ok (.ifCond .ne 15, 3) := by decide +kernel
theorem dL_law_639 : decode cL_law 639 = .ok (.aload_n 3, 1) := by decide +kernel
theorem dL_law_640 : decode cL_law 640 = .ok (.iconst 0, 1) := by decide +kernel
theorem dL_law_641 : decode cL_law 641 = .ok (.laload, 1) := by decide +kernel
theorem dL_law_642 : decode cL_law 642 = .ok (.iload 6, 2) := by decide +kernel
theorem dL_law_644 : decode cL_law 644 = .ok (.i2l, 1) := by decide +kernel
theorem dL_law_645 : decode cL_law 645 = .ok (.lcmp, 1) := by decide +kernel
theorem dL_law_646 : decode cL_law 646 = .ok (.ifCond .eq 5, 3) := by decide +kernel
theorem dL_law_649 : decode cL_law 649 = .ok (.iconst 0, 1) := by decide +kernel
theorem dL_law_650 : decode cL_law 650 = .ok (.ireturn, 1) := by decide +kernel
theorem dL_law_651 : decode cL_law 651 = .ok (.goto 659, 3) := by decide +kernel
theorem dL_law_654 : decode cL_law 654 = .ok (.aload_n 1, 1) := by decide +kernel
theorem dL_law_655 : decode cL_law 655 = .ok (.aload_n 0, 1) := by decide +kernel
theorem dL_law_656 : decode cL_law 656 = .ok (.iload 4, 2) := by decide +kernel
theorem dL_law_658 : decode cL_law 658 = .ok (.iconst 1, 1) := by decide +kernel
theorem dL_law_659 : decode cL_law 659 = .ok (.iadd, 1) := by decide +kernel
theorem dL_law_660 : decode cL_law 660 = .ok (.iaload, 1) := by decide +kernel
theorem dL_law_661 : decode cL_law 661 = .ok (.aload_n 0, 1) := by decide +kernel
theorem dL_law_662 : decode cL_law 662 = .ok (.iload 4, 2) := by decide +kernel
theorem dL_law_664 : decode cL_law 664 = .ok (.iconst 2, 1) := by decide +kernel
theorem dL_law_665 : decode cL_law 665 = .ok (.iadd, 1) := by decide +kernel
theorem dL_law_666 : decode cL_law 666 = .ok (.iaload, 1) := by decide +kernel
theorem dL_law_667 : decode cL_law 667 = .ok (.aload_n 3, 1) := by decide +kernel
theorem dL_law_668 : decode cL_law 668 = .ok (.invokestatic 111, 3) := by decide +kernel
