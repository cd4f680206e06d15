theorem dL_at_0 : decode cL_at 0 = .ok (.iload_n 1, 1) := by decide +kernel
theorem dL_at_1 : decode cL_at 1 = .ok (.aload_n 0, 1) := by decide +kernel
theorem dL_at_2 : decode cL_at 2 = .ok (.arraylength, 1) := by decide +kernel
theorem dL_at_3 : decode cL_at 3 = .ok (.if_icmp .ge 9, 3) := by decide +kernel
theorem dL_at_6 : decode cL_at 6 = .ok (.aload_n 0, 1) := by decide +kernel
theorem dL_at_7 : decode cL_at 7 = .ok (.iload_n 1, 1) := by decide +kernel
theorem dL_at_8 : decode cL_at 8 = .ok (.iaload, 1) := by decide +kernel
theorem dL_at_9 : decode cL_at 9 = .ok (.goto 12, 3) := by decide +kernel
theorem dL_at_12 : decode cL_at 12 = .ok (.ldc 7, 2) := by decide +kernel
theorem dL_at_14 : decode cL_at 14 = .ok (.iload_n 1, 1) := by decide +kernel
theorem dL_at_15 : decode cL_at 15 = .ok (.iconst 1, 1) := by decide +kernel
theorem dL_at_16 : decode cL_at 16 = .ok (.iadd, 1) := by decide +kernel
theorem dL_at_17 : decode cL_at 17 = .ok (.imul, 1) := by decide +kernel
theorem dL_at_18 : decode cL_at 18 = .ok (.ldc 8, 2) := by decide +kernel
theorem dL_at_20 : decode cL_at 20 = .ok (.iadd, 1) := by decide +kernel
theorem dL_at_21 : decode cL_at 21 = .ok (.ireturn, 1) := by decide +kernel
theorem dL_low_0 : decode cL_low 0 = .ok (.iload_n 0, 1) := by decide +kernel
theorem dL_low_1 : decode cL_low 1 = .ok (.ldc 9, 2) := by decide +kernel
theorem dL_low_3 : decode cL_low 3 = .ok (.iand, 1) := by decide +kernel
theorem dL_low_4 : decode cL_low 4 = .ok (.iload_n 1, 1) := by decide +kernel
theorem dL_low_5 : decode cL_low 5 = .ok (.irem, 1) := by decide +kernel
theorem dL_low_6 : decode cL_low 6 = .ok (.ireturn, 1) := by decide +kernel
set_option maxRecDepth 20000 in
theorem ggL_paint_X0_paint : GoodIn wsL_paint wsX0_paint := goodIn_ca (goodIn_ca (goodIn_r _ [9, 10, 11, 8, 12, 13, 14, 15, 16, 17, 18, 19, 20, 21, 22, 23, 24, 25, 26, 27, 28, 29, 30, 31, 32, 33, 34, 35, 36, 37, 38, 39, 40, 41, 42, 43, 44, 45, 46, 47, 48, 49, 50, 51, 52, 53, 54, 55, 56, 57, 58, 59, 60, 61, 62, 63, 64, 65, 66, 67, 68] (by decide +kernel) (by decide +kernel)) (goodIn_sub (fun _ h => List.mem_cons_of_mem _ (List.mem_append_left _ (List.mem_append_right _ h))) (by decide +kernel))) (goodIn_sub (fun _ h => List.mem_cons_of_mem _ (List.mem_append_right _ h)) (by decide +kernel))
set_option maxRecDepth 20000 in
theorem gL_paint_X0_paint : GoodIn wsL_paint (wsV RL 10 RX0 yX0_paint wsX0_paint) := goodIn_app (goodIn_of _ (by decide +kernel)) ggL_paint_X0_paint
theorem dL_paint_0 : decode cL_paint 0 = .ok (.aload_n 0, 1) := by decide +kernel
theorem dL_paint_1 : decode cL_paint 1 = .ok (.iload_n 1, 1) := by decide +kernel
theorem dL_paint_2 : decode cL_paint 2 = .ok (.iload_n 2, 1) := by decide +kernel
theorem dL_paint_3 : decode cL_paint 3 = .ok (.iload_n 3, 1) := by decide +kernel
theorem dL_paint_4 : decode cL_paint 4 = .ok (.invokevirtual 10, 3) := by decide +kernel
theorem dL_paint_7 : decode cL_paint 7 = .ok (.ireturn, 1) := by decide +kernel
theorem dL_paint_8 : decode cL_paint 8 = .ok (.astore 4, 2) := by decide +kernel
theorem dL_paint_10 : decode cL_paint 10 = .ok (.ldc 18, 2) := by decide +kernel
theorem dL_paint_12 : decode cL_paint 12 = .ok (.ireturn, 1) := by decide +kernel
theorem dL_paint_13 : decode cL_paint 13 = .ok (.astore 4, 2) := by decide +kernel
theorem dL_paint_15 : decode cL_paint 15 = .ok (.ldc 21, 2) := by decide +kernel
theorem dL_paint_17 : decode cL_paint 17 = .ok (.ireturn, 1) := by decide +kernel
set_option maxRecDepth 20000 in
theorem ggL_paintBlock_X0_paintBlock : GoodIn wsL_paintBlock wsX0_paintBlock := goodIn_ca (goodIn_ca (goodIn_r _ [9, 10, 11, 12, 13, 14, 8, 15, 16, 17, 18, 19, 20, 21, 22, 23, 24, 25, 26, 27, 28, 29, 30, 31, 32, 33, 34, 35, 36, 37, 38, 39, 40, 41, 42, 43, 44, 45, 46, 47, 48, 49, 50, 51, 52, 53, 54, 55, 56, 57, 58, 59, 60, 61, 62, 63, 64, 65, 66, 67, 68, 69, 70, 71, 72, 73, 74, 75] (by decide +kernel) (by decide +kernel)) (goodIn_sub (fun _ h => List.mem_cons_of_mem _ (List.mem_append_left _ (List.mem_append_right _ h))) (by decide +kernel))) (goodIn_sub (fun _ h => List.mem_cons_of_mem _ (List.mem_append_right _ h)) (by decide +kernel))
set_option maxRecDepth 20000 in
theorem gL_paintBlock_X0_paintBlock : GoodIn wsL_paintBlock (wsV RL 22 RX0 yX0_paintBlock wsX0_paintBlock) := goodIn_app (goodIn_of _ (by decide +kernel)) ggL_paintBlock_X0_paintBlock
theorem dL_paintBlock_0 : decode cL_paintBlock 0 = .ok (.aload_n 0, 1) := by decide +kernel
theorem dL_paintBlock_1 : decode cL_paintBlock 1 = .ok (.iload_n 1, 1) := by decide +kernel
theorem dL_paintBlock_2 : decode cL_paintBlock 2 = .ok (.iload_n 2, 1) := by decide +kernel
theorem dL_paintBlock_3 : decode cL_paintBlock 3 = .ok (.iload_n 3, 1) := by decide +kernel
theorem dL_paintBlock_4 : decode cL_paintBlock 4 = .ok (.iload 4, 2) := by decide +kernel
theorem dL_paintBlock_6 : decode cL_paintBlock 6 = .ok (.iload 5, 2) := by decide +kernel
theorem dL_paintBlock_8 : decode cL_paintBlock 8 = .ok (.invokevirtual 22, 3) := by decide +kernel
theorem dL_paintBlock_11 : decode cL_paintBlock 11 = .ok (.ireturn, 1) := by decide +kernel
theorem dL_paintBlock_12 : decode cL_paintBlock 12 = .ok (.astore 6, 2) := by decide +kernel
theorem dL_paintBlock_14 : decode cL_paintBlock 14 = .ok (.ldc 18, 2) := by decide +kernel
theorem dL_paintBlock_16 : decode cL_paintBlock 16 = .ok (.ireturn, 1) := by decide +kernel
theorem dL_paintBlock_17 : decode cL_paintBlock 17 = .ok (.astore 6, 2) := by decide +kernel
theorem dL_paintBlock_19 : decode cL_paintBlock 19 = .ok (.ldc 21, 2) := by decide +kernel
theorem dL_paintBlock_21 : decode cL_paintBlock 21 = .ok (.ireturn, 1) := by decide +kernel
set_option maxRecDepth 20000 in
theorem ggL_countryAt_X0_countryAt : GoodIn wsL_countryAt wsX0_countryAt := goodIn_ca (goodIn_r _ [7, 8, 9, 6, 10, 11, 12, 13, 14, 15, 16, 17, 18, 19, 20, 21, 22, 23, 24, 25, 26, 27, 28] (by decide +kernel) (by decide +kernel)) (goodIn_sub (fun _ h => List.mem_cons_of_mem _ (List.mem_append_right _ h)) (by decide +kernel))
set_option maxRecDepth 20000 in
theorem gL_countryAt_X0_countryAt : GoodIn wsL_countryAt (wsV RL 26 RX0 yX0_countryAt wsX0_countryAt) := goodIn_app (goodIn_of _ (by decide +kernel)) ggL_countryAt_X0_countryAt
theorem dL_countryAt_0 : decode cL_countryAt 0 = .ok (.aload_n 0, 1) := by decide +kernel
theorem dL_countryAt_1 : decode cL_countryAt 1 = .ok (.iload_n 1, 1) := by decide +kernel
theorem dL_countryAt_2 : decode cL_countryAt 2 = .ok (.iload_n 2, 1) := by decide +kernel
theorem dL_countryAt_3 : decode cL_countryAt 3 = .ok (.invokevirtual 26, 3) := by decide +kernel
theorem dL_countryAt_6 : decode cL_countryAt 6 = .ok (.ireturn, 1) := by decide +kernel
theorem dL_countryAt_7 : decode cL_countryAt 7 = .ok (.astore_n 3, 1) := by decide +kernel
theorem dL_countryAt_8 : decode cL_countryAt 8 = .ok (.ldc 18, 2) := by decide +kernel
theorem dL_countryAt_10 : decode cL_countryAt 10 = .ok (.ireturn, 1) := by decide +kernel
set_option maxRecDepth 20000 in
theorem ggL_area_X0_area : GoodIn wsL_area wsX0_area := goodIn_ca (goodIn_r _ [7, 8, 9, 10, 6, 11, 12, 13, 14, 15, 16, 17, 18, 19, 20, 21, 22, 23, 24, 25, 26, 27, 28] (by decide +kernel) (by decide +kernel)) (goodIn_sub (fun _ h => List.mem_cons_of_mem _ (List.mem_append_right _ h)) (by decide +kernel))
set_option maxRecDepth 20000 in
theorem gL_area_X0_area : GoodIn wsL_area (wsV RL 30 RX0 yX0_area wsX0_area) := goodIn_app (goodIn_of _ (by decide +kernel)) ggL_area_X0_area
theorem dL_area_0 : decode cL_area 0 = .ok (.aload_n 0, 1) := by decide +kernel
theorem dL_area_1 : decode cL_area 1 = .ok (.iload_n 1, 1) := by decide +kernel
theorem dL_area_2 : decode cL_area 2 = .ok (.invokevirtual 30, 3) := by decide +kernel
theorem dL_area_5 : decode cL_area 5 = .ok (.ireturn, 1) := by decide +kernel
theorem dL_area_6 : decode cL_area 6 = .ok (.astore_n 2, 1) := by decide +kernel
theorem dL_area_7 : decode cL_area 7 = .ok (.ldc 18, 2) := by decide +kernel
theorem dL_area_9 : decode cL_area 9 = .ok (.ireturn, 1) := by decide +kernel
set_option maxRecDepth 20000 in
theorem ggL_pieces_X0_pieces : GoodIn wsL_pieces wsX0_pieces := goodIn_ca (goodIn_r _ [7, 8, 9, 10, 6, 11, 12, 13, 14, 15, 16, 17, 18, 19, 20, 21, 22, 23, 24, 25, 26, 27, 28, 29, 30, 31, 32, 33, 34, 35, 36, 37, 38, 39, 40, 41, 42, 43, 44, 45, 46, 47, 48, 49] (by decide +kernel) (by decide +kernel)) (goodIn_sub (fun _ h => List.mem_cons_of_mem _ (List.mem_append_right _ h)) (by decide +kernel))
set_option maxRecDepth 20000 in
theorem gL_pieces_X0_pieces : GoodIn wsL_pieces (wsV RL 34 RX0 yX0_pieces wsX0_pieces) := goodIn_app (goodIn_of _ (by decide +kernel)) ggL_pieces_X0_pieces
theorem dL_pieces_0 : decode cL_pieces 0 = .ok (.aload_n 0, 1) := by decide +kernel
theorem dL_pieces_1 : decode cL_pieces 1 = .ok (.iload_n 1, 1) := by decide +kernel
theorem dL_pieces_2 : decode cL_pieces 2 = .ok (.invokevirtual 34, 3) := by decide +kernel
theorem dL_pieces_5 : decode cL_pieces 5 = .ok (.ireturn, 1) := by decide +kernel
theorem dL_pieces_6 : decode cL_pieces 6 = .ok (.astore_n 2, 1) := by decide +kernel
theorem dL_pieces_7 : decode cL_pieces 7 = .ok (.ldc 18, 2) := by decide +kernel
theorem dL_pieces_9 : decode cL_pieces 9 = .ok (.ireturn, 1) := by decide +kernel
set_option maxRecDepth 20000 in
theorem ggL_largestPiece_X0_largestPiece : GoodIn wsL_largestPiece wsX0_largestPiece := goodIn_ca (goodIn_r _ [7, 8, 9, 10, 11, 12, 13, 14, 15, 6, 16, 17, 18, 19, 20, 21, 22, 23, 24, 25, 26, 27, 28, 29, 30, 31, 32, 33, 34, 35, 36, 37, 38, 39, 40, 41, 42, 43, 44, 45, 46, 47, 48, 49, 50, 51, 52, 53, 54, 55, 56, 57] (by decide +kernel) (by decide +kernel)) (goodIn_sub (fun _ h => List.mem_cons_of_mem _ (List.mem_append_right _ h)) (by decide +kernel))
set_option maxRecDepth 20000 in
theorem gL_largestPiece_X0_largestPiece : GoodIn wsL_largestPiece (wsV RL 37 RX0 yX0_largestPiece wsX0_largestPiece) := goodIn_app (goodIn_of _ (by decide +kernel)) ggL_largestPiece_X0_largestPiece
theorem dL_largestPiece_0 : decode cL_largestPiece 0 = .ok (.aload_n 0, 1) := by decide +kernel
theorem dL_largestPiece_1 : decode cL_largestPiece 1 = .ok (.iload_n 1, 1) := by decide +kernel
theorem dL_largestPiece_2 : decode cL_largestPiece 2 = .ok (.invokevirtual 37, 3) := by decide +kernel
theorem dL_largestPiece_5 : decode cL_largestPiece 5 = .ok (.ireturn, 1) := by decide +kernel
theorem dL_largestPiece_6 : decode cL_largestPiece 6 = .ok (.astore_n 2, 1) := by decide +kernel
theorem dL_largestPiece_7 : decode cL_largestPiece 7 = .ok (.ldc 18, 2) := by decide +kernel
theorem dL_largestPiece_9 : decode cL_largestPiece 9 = .ok (.ireturn, 1) := by decide +kernel
set_option maxRecDepth 20000 in
theorem ggL_neighbours_X0_neighbours : GoodIn wsL_neighbours wsX0_neighbours := goodIn_ca (goodIn_r _ [7, 8, 9, 10, 6, 11, 12, 13, 14, 15, 16, 17, 18, 19, 20, 21, 22, 23, 24, 25, 26, 27, 28] (by decide +kernel) (by decide +kernel)) (goodIn_sub (fun _ h => List.mem_cons_of_mem _ (List.mem_append_right _ h)) (by decide +kernel))
set_option maxRecDepth 20000 in
theorem gL_neighbours_X0_neighbours : GoodIn wsL_neighbours (wsV RL 40 RX0 yX0_neighbours wsX0_neighbours) := goodIn_app (goodIn_of _ (by decide +kernel)) ggL_neighbours_X0_neighbours
theorem dL_neighbours_0 : decode cL_neighbours 0 = .ok (.aload_n 0, 1) := by decide +kernel
theorem dL_neighbours_1 : decode cL_neighbours 1 = .ok (.iload_n 1, 1) := by decide +kernel
theorem dL_neighbours_2 : decode cL_neighbours 2 = .ok (.invokevirtual 40, 3) := by decide +kernel
theorem dL_neighbours_5 : decode cL_neighbours 5 = .ok (.ireturn, 1) := by decide +kernel
theorem dL_neighbours_6 : decode cL_neighbours 6 = .ok (.astore_n 2, 1) := by decide +kernel
theorem dL_neighbours_7 : decode cL_neighbours 7 = .ok (.ldc 18, 2) := by decide +kernel
theorem dL_neighbours_9 : decode cL_neighbours 9 = .ok (.ireturn, 1) := by decide +kernel
set_option maxRecDepth 20000 in
theorem ggL_border_X0_border : GoodIn wsL_border wsX0_border := goodIn_ca (goodIn_r _ [7, 8, 9, 10, 6, 11, 12, 13, 14, 15, 16, 17, 18, 19, 20, 21, 22, 23, 24, 25, 26, 27, 28, 29, 30, 31, 32, 33, 34, 35, 36, 37, 38, 39, 40, 41, 42, 43] (by decide +kernel) (by decide +kernel)) (goodIn_sub (fun _ h => List.mem_cons_of_mem _ (List.mem_append_right _ h)) (by decide +kernel))
set_option maxRecDepth 20000 in
theorem gL_border_X0_border : GoodIn wsL_border (wsV RL 43 RX0 yX0_border wsX0_border) := goodIn_app (goodIn_of _ (by decide +kernel)) ggL_border_X0_border
theorem dL_border_0 : decode cL_border 0 = .ok (.aload_n 0, 1) := by decide +kernel
theorem dL_border_1 : decode cL_border 1 = .ok (.iload_n 1, 1) := by decide +kernel
theorem dL_border_2 : decode cL_border 2 = .ok (.iload_n 2, 1) := by decide +kernel
theorem dL_border_3 : decode cL_border 3 = .ok (.invokevirtual 43, 3) := by decide +kernel
theorem dL_border_6 : decode cL_border 6 = .ok (.ireturn, 1) := by decide +kernel
theorem dL_border_7 : decode cL_border 7 = .ok (.astore_n 3, 1) := by decide +kernel
theorem dL_border_8 : decode cL_border 8 = .ok (.ldc 18, 2) := by decide +kernel
theorem dL_border_10 : decode cL_border 10 = .ok (.ireturn, 1) := by decide +kernel
set_option maxRecDepth 20000 in
theorem ggL_enclosed_X0_enclosed : GoodIn wsL_enclosed wsX0_enclosed := goodIn_ca (goodIn_r _ [7, 8, 9, 10, 11, 12, 13, 6, 14, 15, 16, 17, 18, 19, 20, 21, 22, 23, 24, 25, 26, 27, 28, 29, 30, 31, 32, 33, 34, 35, 36, 37, 38, 39, 40, 41, 42, 43, 44, 45, 46, 47, 48, 49, 50, 51] (by decide +kernel) (by decide +kernel)) (goodIn_sub (fun _ h => List.mem_cons_of_mem _ (List.mem_append_right _ h)) (by decide +kernel))
set_option maxRecDepth 20000 in
theorem gL_enclosed_X0_enclosed : GoodIn wsL_enclosed (wsV RL 46 RX0 yX0_enclosed wsX0_enclosed) := goodIn_app (goodIn_of _ (by decide +kernel)) ggL_enclosed_X0_enclosed
theorem dL_enclosed_0 : decode cL_enclosed 0 = .ok (.aload_n 0, 1) := by decide +kernel
theorem dL_enclosed_1 : decode cL_enclosed 1 = .ok (.iload_n 1, 1) := by decide +kernel
theorem dL_enclosed_2 : decode cL_enclosed 2 = .ok (.invokevirtual 46, 3) := by decide +kernel
theorem dL_enclosed_5 : decode cL_enclosed 5 = .ok (.ireturn, 1) := by decide +kernel
theorem dL_enclosed_6 : decode cL_enclosed 6 = .ok (.astore_n 2, 1) := by decide +kernel
theorem dL_enclosed_7 : decode cL_enclosed 7 = .ok (.ldc 18, 2) := by decide +kernel
theorem dL_enclosed_9 : decode cL_enclosed 9 = .ok (.ireturn, 1) := by decide +kernel
set_option maxRecDepth 20000 in
theorem ggL_tint_X0_tint : GoodIn wsL_tint wsX0_tint := goodIn_ca (goodIn_ca (goodIn_r _ [9, 10, 11, 12, 8, 13, 14, 15, 16, 17, 18, 19, 20, 21, 22, 23, 24, 25, 26, 27, 28] (by decide +kernel) (by decide +kernel)) (goodIn_sub (fun _ h => List.mem_cons_of_mem _ (List.mem_append_left _ (List.mem_append_right _ h))) (by decide +kernel))) (goodIn_sub (fun _ h => List.mem_cons_of_mem _ (List.mem_append_right _ h)) (by decide +kernel))
set_option maxRecDepth 20000 in
theorem gL_tint_X0_tint : GoodIn wsL_tint (wsV RL 49 RX0 yX0_tint wsX0_tint) := goodIn_app (goodIn_of _ (by decide +kernel)) ggL_tint_X0_tint
theorem dL_tint_0 : decode cL_tint 0 = .ok (.aload_n 0, 1) := by decide +kernel
theorem dL_tint_1 : decode cL_tint 1 = .ok (.iload_n 1, 1) := by decide +kernel
theorem dL_tint_2 : decode cL_tint 2 = .ok (.iload_n 2, 1) := by decide +kernel
theorem dL_tint_3 : decode cL_tint 3 = .ok (.invokevirtual 49, 3) := by decide +kernel
theorem dL_tint_6 : decode cL_tint 6 = .ok (.ireturn, 1) := by decide +kernel
theorem dL_tint_7 : decode cL_tint 7 = .ok (.astore_n 3, 1) := by decide +kernel
theorem dL_tint_8 : decode cL_tint 8 = .ok (.ldc 18, 2) := by decide +kernel
theorem dL_tint_10 : decode cL_tint 10 = .ok (.ireturn, 1) := by decide +kernel
theorem dL_tint_11 : decode cL_tint 11 = .ok (.astore_n 3, 1) := by decide +kernel
theorem dL_tint_12 : decode cL_tint 12 = .ok (.ldc 21, 2) := by decide +kernel
theorem dL_tint_14 : decode cL_tint 14 = .ok (.ireturn, 1) := by decide +kernel
set_option maxRecDepth 20000 in
theorem ggL_tintOf_X0_tintOf : GoodIn wsL_tintOf wsX0_tintOf := goodIn_ca (goodIn_r _ [7, 8, 9, 10, 6, 11, 12, 13, 14, 15, 16, 17, 18, 19, 20, 21] (by decide +kernel) (by decide +kernel)) (goodIn_sub (fun _ h => List.mem_cons_of_mem _ (List.mem_append_right _ h)) (by decide +kernel))
set_option maxRecDepth 20000 in
theorem gL_tintOf_X0_tintOf : GoodIn wsL_tintOf (wsV RL 52 RX0 yX0_tintOf wsX0_tintOf) := goodIn_app (goodIn_of _ (by decide +kernel)) ggL_tintOf_X0_tintOf
theorem dL_tintOf_0 : decode cL_tintOf 0 = .ok (.aload_n 0, 1) := by decide +kernel
theorem dL_tintOf_1 : decode cL_tintOf 1 = .ok (.iload_n 1, 1) := by decide +kernel
theorem dL_tintOf_2 : decode cL_tintOf 2 = .ok (.invokevirtual 52, 3) := by decide +kernel
theorem dL_tintOf_5 : decode cL_tintOf 5 = .ok (.ireturn, 1) := by decide +kernel
theorem dL_tintOf_6 : decode cL_tintOf 6 = .ok (.astore_n 2, 1) := by decide +kernel
theorem dL_tintOf_7 : decode cL_tintOf 7 = .ok (.ldc 18, 2) := by decide +kernel
theorem dL_tintOf_9 : decode cL_tintOf 9 = .ok (.ireturn, 1) := by decide +kernel
set_option maxRecDepth 20000 in
theorem ggL_leastFree_X0_leastFree : GoodIn wsL_leastFree wsX0_leastFree := goodIn_ca (goodIn_r _ [7, 8, 9, 10, 6, 11, 12, 13, 14, 15, 16, 17, 18, 19, 20, 21, 22, 23, 24, 25, 26, 27, 28, 29, 30] (by decide +kernel) (by decide +kernel)) (goodIn_sub (fun _ h => List.mem_cons_of_mem _ (List.mem_append_right _ h)) (by decide +kernel))
set_option maxRecDepth 20000 in
theorem gL_leastFree_X0_leastFree : GoodIn wsL_leastFree (wsV RL 55 RX0 yX0_leastFree wsX0_leastFree) := goodIn_app (goodIn_of _ (by decide +kernel)) ggL_leastFree_X0_leastFree
theorem dL_leastFree_0 : decode cL_leastFree 0 = .ok (.aload_n 0, 1) := by decide +kernel
theorem dL_leastFree_1 : decode cL_leastFree 1 = .ok (.iload_n 1, 1) := by decide +kernel
theorem dL_leastFree_2 : decode cL_leastFree 2 = .ok (.invokevirtual 55, 3) := by decide +kernel
theorem dL_leastFree_5 : decode cL_leastFree 5 = .ok (.ireturn, 1) := by decide +kernel
theorem dL_leastFree_6 : decode cL_leastFree 6 = .ok (.astore_n 2, 1) := by decide +kernel
theorem dL_leastFree_7 : decode cL_leastFree 7 = .ok (.ldc 18, 2) := by decide +kernel
theorem dL_leastFree_9 : decode cL_leastFree 9 = .ok (.ireturn, 1) := by decide +kernel
set_option maxRecDepth 20000 in
theorem ggL_chain_X0_chain : GoodIn wsL_chain wsX0_chain := goodIn_ca (goodIn_ca (goodIn_ca (goodIn_r _ [11, 12, 13, 10, 14, 15, 16, 17, 18, 19, 20, 21, 22, 23, 24, 25, 26, 27, 28, 29, 30, 31, 32, 33, 34, 35, 36, 37, 38, 39, 40, 41, 42, 43, 44, 45, 46, 47, 48, 49, 50, 51, 52, 53, 54, 55, 56] (by decide +kernel) (by decide +kernel)) (goodIn_sub (fun _ h => List.mem_cons_of_mem _ (List.mem_append_left _ (List.mem_append_left _ (List.mem_append_right _ h)))) (by decide +kernel))) (goodIn_sub (fun _ h => List.mem_cons_of_mem _ (List.mem_append_left _ (List.mem_append_right _ h))) (by decide +kernel))) (goodIn_sub (fun _ h => List.mem_cons_of_mem _ (List.mem_append_right _ h)) (by decide +kernel))
set_option maxRecDepth 20000 in
theorem gL_chain_X0_chain : GoodIn wsL_chain (wsV RL 58 RX0 yX0_chain wsX0_chain) := goodIn_app (goodIn_of _ (by decide +kernel)) ggL_chain_X0_chain
theorem dL_chain_0 : decode cL_chain 0 = .ok (.aload_n 0, 1) := by decide +kernel
theorem dL_chain_1 : decode cL_chain 1 = .ok (.iload_n 1, 1) := by decide +kernel
theorem dL_chain_2 : decode cL_chain 2 = .ok (.iload_n 2, 1) := by decide +kernel
theorem dL_chain_3 : decode cL_chain 3 = .ok (.invokevirtual 58, 3) := by decide +kernel
theorem dL_chain_6 : decode cL_chain 6 = .ok (.ireturn, 1) := by decide +kernel
theorem dL_chain_7 : decode cL_chain 7 = .ok (.astore_n 3, 1) := by decide +kernel
theorem dL_chain_8 : decode cL_chain 8 = .ok (.ldc 18, 2) := by decide +kernel
theorem dL_chain_10 : decode cL_chain 10 = .ok (.ireturn, 1) := by decide +kernel
theorem dL_chain_11 : decode cL_chain 11 = .ok (.astore_n 3, 1) := by decide +kernel
theorem dL_chain_12 : decode cL_chain 12 = .ok (.ldc 21, 2) := by decide +kernel
theorem dL_chain_14 : decode cL_chain 14 = .ok (.ireturn, 1) := by decide +kernel
theorem dL_chain_15 : decode cL_chain 15 = .ok (.astore_n 3, 1) := by decide +kernel
theorem dL_chain_16 : decode cL_chain 16 = .ok (.ldc 63, 2) := by decide +kernel
theorem dL_chain_18 : decode cL_chain 18 = .ok (.ireturn, 1) := by decide +kernel
set_option maxRecDepth 20000 in
theorem ggL_exchange_X0_exchange : GoodIn wsL_exchange wsX0_exchange := goodIn_ca (goodIn_ca (goodIn_ca (goodIn_r _ [11, 12, 13, 14, 10, 15, 16, 17, 18, 19, 20, 21, 22, 23, 24, 25, 26, 27, 28, 29, 30, 31, 32, 33, 34, 35, 36, 37, 38, 39, 40, 41, 42, 43, 44, 45, 46, 47, 48, 49, 50, 51, 52, 53, 54, 55, 56] (by decide +kernel) (by decide +kernel)) (goodIn_sub (fun _ h => List.mem_cons_of_mem _ (List.mem_append_left _ (List.mem_append_left _ (List.mem_append_right _ h)))) (by decide +kernel))) (goodIn_sub (fun _ h => List.mem_cons_of_mem _ (List.mem_append_left _ (List.mem_append_right _ h))) (by decide +kernel))) (goodIn_sub (fun _ h => List.mem_cons_of_mem _ (List.mem_append_right _ h)) (by decide +kernel))
set_option maxRecDepth 20000 in
theorem gL_exchange_X0_exchange : GoodIn wsL_exchange (wsV RL 64 RX0 yX0_exchange wsX0_exchange) := goodIn_app (goodIn_of _ (by decide +kernel)) ggL_exchange_X0_exchange
theorem dL_exchange_0 : decode cL_exchange 0 = .ok (.aload_n 0, 1) := by decide +kernel
theorem dL_exchange_1 : decode cL_exchange 1 = .ok (.iload_n 1, 1) := by decide +kernel
theorem dL_exchange_2 : decode cL_exchange 2 = .ok (.iload_n 2, 1) := by decide +kernel
theorem dL_exchange_3 : decode cL_exchange 3 = .ok (.invokevirtual 64, 3) := by decide +kernel
theorem dL_exchange_6 : decode cL_exchange 6 = .ok (.ireturn, 1) := by decide +kernel
theorem dL_exchange_7 : decode cL_exchange 7 = .ok (.astore_n 3, 1) := by decide +kernel
theorem dL_exchange_8 : decode cL_exchange 8 = .ok (.ldc 18, 2) := by decide +kernel
theorem dL_exchange_10 : decode cL_exchange 10 = .ok (.ireturn, 1) := by decide +kernel
theorem dL_exchange_11 : decode cL_exchange 11 = .ok (.astore_n 3, 1) := by decide +kernel
theorem dL_exchange_12 : decode cL_exchange 12 = .ok (.ldc 21, 2) := by decide +kernel
theorem dL_exchange_14 : decode cL_exchange 14 = .ok (.ireturn, 1) := by decide +kernel
theorem dL_exchange_15 : decode cL_exchange 15 = .ok (.astore_n 3, 1) := by decide +kernel
theorem dL_exchange_16 : decode cL_exchange 16 = .ok (.ldc 63, 2) := by decide +kernel
theorem dL_exchange_18 : decode cL_exchange 18 = .ok (.ireturn, 1) := by decide +kernel
set_option maxRecDepth 20000 in
theorem ggL_tintings_X0_tintings : GoodIn wsL_tintings wsX0_tintings := goodIn_ca (goodIn_r _ [7, 8, 9, 10, 11, 6, 12, 13, 14, 15, 16, 17, 18, 19, 20, 21, 22, 23, 24, 25, 26, 27, 28, 29, 30, 31, 32, 33, 34, 35, 36, 37, 38, 39, 40] (by decide +kernel) (by decide +kernel)) (goodIn_sub (fun _ h => List.mem_cons_of_mem _ (List.mem_append_right _ h)) (by decide +kernel))
set_option maxRecDepth 20000 in
theorem gL_tintings_X0_tintings : GoodIn wsL_tintings (wsV RL 67 RX0 yX0_tintings wsX0_tintings) := goodIn_app (goodIn_of _ (by decide +kernel)) ggL_tintings_X0_tintings
theorem dL_tintings_0 : decode cL_tintings 0 = .ok (.aload_n 0, 1) := by decide +kernel
theorem dL_tintings_1 : decode cL_tintings 1 = .ok (.iload_n 1, 1) := by decide +kernel
theorem dL_tintings_2 : decode cL_tintings 2 = .ok (.invokevirtual 67, 3) := by decide +kernel
theorem dL_tintings_5 : decode cL_tintings 5 = .ok (.lreturn, 1) := by decide +kernel
theorem dL_tintings_6 : decode cL_tintings 6 = .ok (.astore_n 2, 1) := by decide +kernel
theorem dL_tintings_7 : decode cL_tintings 7 = .ok (.ldc2_w 71, 3) := by decide +kernel
theorem dL_tintings_10 : decode cL_tintings 10 = .ok (.lreturn, 1) := by decide +kernel
set_option maxRecDepth 20000 in
theorem ggL_tintingsByPairs_X0_tintingsByPairs : GoodIn wsL_tintingsByPairs wsX0_tintingsByPairs := goodIn_ca (goodIn_r _ [7, 8, 9, 10, 11, 12, 13, 14, 15, 16, 6, 17, 18, 19, 20, 21, 22, 23, 24, 25, 26, 27, 28, 29, 30, 31, 32, 33, 34, 35, 36, 37, 38, 39, 40, 41, 42, 43, 44, 45, 46, 47, 48, 49, 50, 51, 52, 53, 54, 55] (by decide +kernel) (by decide +kernel)) (goodIn_sub (fun _ h => List.mem_cons_of_mem _ (List.mem_append_right _ h)) (by decide +kernel))
set_option maxRecDepth 20000 in
theorem gL_tintingsByPairs_X0_tintingsByPairs : GoodIn wsL_tintingsByPairs (wsV RL 73 RX0 yX0_tintingsByPairs wsX0_tintingsByPairs) := goodIn_app (goodIn_of _ (by decide +kernel)) ggL_tintingsByPairs_X0_tintingsByPairs
theorem dL_tintingsByPairs_0 : decode cL_tintingsByPairs 0 = .ok (.aload_n 0, 1) := by decide +kernel
theorem dL_tintingsByPairs_1 : decode cL_tintingsByPairs 1 = .ok (.iload_n 1, 1) := by decide +kernel
theorem dL_tintingsByPairs_2 : decode cL_tintingsByPairs 2 = .ok (.invokevirtual 73, 3) := by decide +kernel
theorem dL_tintingsByPairs_5 : decode cL_tintingsByPairs 5 = .ok (.lreturn, 1) := by decide +kernel
theorem dL_tintingsByPairs_6 : decode cL_tintingsByPairs 6 = .ok (.astore_n 2, 1) := by decide +kernel
theorem dL_tintingsByPairs_7 : decode cL_tintingsByPairs 7 = .ok (.ldc2_w 71, 3) := by decide +kernel
theorem dL_tintingsByPairs_10 : decode cL_tintingsByPairs 10 = .ok (.lreturn, 1) := by decide +kernel
theorem dL_many_0 : decode cL_many 0 = .ok (.iconst 0, 1) := by decide +kernel
theorem dL_many_1 : decode cL_many 1 = .ok (.istore_n 1, 1) := by decide +kernel
theorem dL_many_2 : decode cL_many 2 = .ok (.iconst 0, 1) := by decide +kernel
theorem dL_many_3 : decode cL_many 3 = .ok (.istore_n 2, 1) := by decide +kernel
theorem dL_many_4 : decode cL_many 4 = .ok (.iload_n 2, 1) := by decide +kernel
theorem dL_many_5 : decode cL_many 5 = .ok (.bipush 10, 2) := by decide +kernel
theorem dL_many_7 : decode cL_many 7 = .ok (.if_icmp .ge 17, 3) := by decide +kernel
theorem dL_many_10 : decode cL_many 10 = .ok (.iload_n 1, 1) := by decide +kernel
theorem dL_many_11 : decode cL_many 11 = .ok (.iload_n 0, 1) := by decide +kernel
theorem dL_many_12 : decode cL_many 12 = .ok (.iload_n 2, 1) := by decide +kernel
theorem dL_many_13 : decode cL_many 13 = .ok (.ishr, 1) := by decide +kernel
theorem dL_many_14 : decode cL_many 14 = .ok (.iconst 1, 1) := by decide +kernel
theorem dL_many_15 : decode cL_many 15 = .ok (.iand, 1) := by decide +kernel
theorem dL_many_16 : decode cL_many 16 = .ok (.iadd, 1) := by decide +kernel
theorem dL_many_17 : decode cL_many 17 = .ok (.istore_n 1, 1) := by decide +kernel
theorem dL_many_18 : decode cL_many 18 = .ok (.iinc 2 1, 3) := by decide +kernel
theorem dL_many_21 : decode cL_many 21 = .ok (.goto (-17), 3) := by decide +kernel
theorem dL_many_24 : decode cL_many 24 = .ok (.iload_n 1, 1) := by decide +kernel
theorem dL_many_25 : decode cL_many 25 = .ok (.ireturn, 1) := by decide +kernel
set_option maxRecDepth 20000 in
theorem ggL_cell_L_countryAt : GoodIn wsL_cell wsL_countryAt := goodIn_ca (goodIn_r _ [4, 5, 6, 7, 8, 9, 10, 11, 12, 13, 14, 15, 16, 17, 18, 19, 20, 21, 22, 23, 24, 25, 26, 27, 28, 29, 30, 31, 32] (by decide +kernel) (by decide +kernel)) (goodIn_sub (fun _ h => List.mem_cons_of_mem _ (List.mem_append_right _ h)) (by decide +kernel))
set_option maxRecDepth 20000 in
theorem gL_cell_L_countryAt : GoodIn wsL_cell (va_wsS RL 76 yL_countryAt wsL_countryAt) := goodIn_app (goodIn_of _ (by decide +kernel)) ggL_cell_L_countryAt
theorem dL_cell_0 : decode cL_cell 0 = .ok (.iload_n 1, 1) := by decide +kernel
theorem dL_cell_1 : decode cL_cell 1 = .ok (.ifCond .lt 17, 3) := by decide +kernel
theorem dL_cell_4 : decode cL_cell 4 = .ok (.iload_n 1, 1) := by decide +kernel
theorem dL_cell_5 : decode cL_cell 5 = .ok (.iconst 5, 1) := by decide +kernel
theorem dL_cell_6 : decode cL_cell 6 = .ok (.if_icmp .gt 12, 3) := by decide +kernel
theorem dL_cell_9 : decode cL_cell 9 = .ok (.iload_n 2, 1) := by decide +kernel
theorem dL_cell_10 : decode cL_cell 10 = .ok (.ifCond .lt 8, 3) := by decide +kernel
theorem dL_cell_13 : decode cL_cell 13 = .ok (.iload_n 2, 1) := by decide +kernel
theorem dL_cell_14 : decode cL_cell 14 = .ok (.iconst 5, 1) := by decide +kernel
theorem dL_cell_15 : decode cL_cell 15 = .ok (.if_icmp .le 8, 3) := by decide +kernel
theorem dL_cell_18 : decode cL_cell 18 = .ok (.bipush (-2), 2) := by decide +kernel
theorem dL_cell_20 : decode cL_cell 20 = .ok (.goto 9, 3) := by decide +kernel
theorem dL_cell_23 : decode cL_cell 23 = .ok (.aload_n 0, 1) := by decide +kernel
theorem dL_cell_24 : decode cL_cell 24 = .ok (.iload_n 1, 1) := by decide +kernel
theorem dL_cell_25 : decode cL_cell 25 = .ok (.iload_n 2, 1) := by decide +kernel
theorem dL_cell_26 : decode cL_cell 26 = .ok (.invokestatic 76, 3) := by decide +kernel
theorem dL_cell_29 : decode cL_cell 29 = .ok (.ireturn, 1) := by decide +kernel
set_option maxRecDepth 20000 in
theorem ggL_looks_L_cell : GoodIn wsL_looks wsL_cell := goodIn_ca (goodIn_r _ [6, 7, 8, 5, 9, 10, 2, 11, 12, 13, 14, 15, 16, 17, 18, 19, 20, 21, 22, 23, 24, 25, 26, 27, 28, 122, 123, 124, 125, 126, 127, 128, 129] (by decide +kernel) (by decide +kernel)) (goodIn_sub (fun _ h => List.mem_cons_of_mem _ (List.mem_append_right _ h)) (by decide +kernel))
set_option maxRecDepth 20000 in
theorem gL_looks_L_cell : GoodIn wsL_looks (va_wsS RL 81 yL_cell wsL_cell) := goodIn_app (goodIn_of _ (by decide +kernel)) ggL_looks_L_cell
set_option maxRecDepth 20000 in
theorem ggL_looks_L_area : GoodIn wsL_looks wsL_area := goodIn_ca (goodIn_r _ [31, 10, 2, 32, 33, 34, 14, 35, 28, 36, 37, 38, 19, 20, 39, 40, 41, 42, 43, 44, 45, 122, 123, 124, 125, 126, 127, 128, 129] (by decide +kernel) (by decide +kernel)) (goodIn_sub (fun _ h => List.mem_cons_of_mem _ (List.mem_append_right _ h)) (by decide +kernel))
set_option maxRecDepth 20000 in
theorem gL_looks_L_area : GoodIn wsL_looks (va_wsS RL 84 yL_area wsL_area) := goodIn_app (goodIn_of _ (by decide +kernel)) ggL_looks_L_area
set_option maxRecDepth 20000 in
theorem ggL_looks_L_neighbours : GoodIn wsL_looks wsL_neighbours := goodIn_ca (goodIn_r _ [48, 10, 2, 49, 50, 51, 14, 52, 53, 36, 37, 38, 19, 20, 54, 55, 56, 57, 58, 59, 60, 122, 123, 124, 125, 126, 127, 128, 129] (by decide +kernel) (by decide +kernel)) (goodIn_sub (fun _ h => List.mem_cons_of_mem _ (List.mem_append_right _ h)) (by decide +kernel))
set_option maxRecDepth 20000 in
theorem gL_looks_L_neighbours : GoodIn wsL_looks (va_wsS RL 87 yL_neighbours wsL_neighbours) := goodIn_app (goodIn_of _ (by decide +kernel)) ggL_looks_L_neighbours
set_option maxRecDepth 20000 in
theorem ggL_looks_L_many : GoodIn wsL_looks wsL_many := goodIn_r _ [63] (by decide +kernel) (by decide +kernel)
set_option maxRecDepth 20000 in
theorem gL_looks_L_many : GoodIn wsL_looks (va_wsS RL 89 yL_many wsL_many) := goodIn_app (goodIn_of _ (by decide +kernel)) ggL_looks_L_many
set_option maxRecDepth 20000 in
theorem ggL_looks_L_pieces : GoodIn wsL_looks wsL_pieces := goodIn_ca (goodIn_r _ [66, 10, 2, 67, 68, 69, 14, 70, 28, 36, 37, 38, 19, 20, 71, 72, 73, 74, 75, 76, 77, 78, 79, 80, 81, 82, 83, 84, 85, 86, 87, 88, 89, 90, 91, 92, 93, 94, 95, 96, 97, 98, 122, 123, 124, 125, 126, 127, 128, 129] (by decide +kernel) (by decide +kernel)) (goodIn_sub (fun _ h => List.mem_cons_of_mem _ (List.mem_append_right _ h)) (by decide +kernel))
set_option maxRecDepth 20000 in
theorem gL_looks_L_pieces : GoodIn wsL_looks (va_wsS RL 92 yL_pieces wsL_pieces) := goodIn_app (goodIn_of _ (by decide +kernel)) ggL_looks_L_pieces
set_option maxRecDepth 20000 in
theorem ggL_looks_L_largestPiece : GoodIn wsL_looks wsL_largestPiece := goodIn_ca (goodIn_r _ [101, 10, 2, 102, 103, 104, 14, 105, 28, 106, 107, 108, 109, 74, 36, 37, 38, 19, 20, 75, 76, 77, 78, 79, 80, 81, 82, 83, 84, 85, 86, 87, 88, 89, 90, 91, 92, 93, 94, 95, 96, 97, 98, 39, 40, 41, 42, 43, 44, 45, 122, 123, 124, 125, 126, 127, 128, 129] (by decide +kernel) (by decide +kernel)) (goodIn_sub (fun _ h => List.mem_cons_of_mem _ (List.mem_append_right _ h)) (by decide +kernel))
set_option maxRecDepth 20000 in
theorem gL_looks_L_largestPiece : GoodIn wsL_looks (va_wsS RL 94 yL_largestPiece wsL_largestPiece) := goodIn_app (goodIn_of _ (by decide +kernel)) ggL_looks_L_largestPiece
set_option maxRecDepth 20000 in
theorem ggL_looks_L_border : GoodIn wsL_looks wsL_border := goodIn_ca (goodIn_r _ [112, 10, 2, 113, 114, 115, 14, 116, 28, 36, 37, 38, 19, 20, 84, 85, 86, 39, 40, 41, 42, 43, 44, 45, 87, 88, 89, 90, 91, 92, 93, 94, 95, 96, 97, 98, 122, 123, 124, 125, 126, 127, 128, 129] (by decide +kernel) (by decide +kernel)) (goodIn_sub (fun _ h => List.mem_cons_of_mem _ (List.mem_append_right _ h)) (by decide +kernel))
set_option maxRecDepth 20000 in
theorem gL_looks_L_border : GoodIn wsL_looks (va_wsS RL 96 yL_border wsL_border) := goodIn_app (goodIn_of _ (by decide +kernel)) ggL_looks_L_border
set_option maxRecDepth 20000 in
theorem ggL_looks_X0_countries : GoodIn wsL_looks wsX0_countries := goodIn_r _ [120, 121, 54, 55, 56, 57, 58, 59, 60, 122, 123, 124, 125, 126, 127, 128, 129] (by decide +kernel) (by decide +kernel)
set_option maxRecDepth 20000 in
theorem gL_looks_X0_countries : GoodIn wsL_looks (wsV RL 98 RX0 yX0_countries wsX0_countries) := goodIn_app (goodIn_of _ (by decide +kernel)) ggL_looks_X0_countries
theorem dL_looks_0 : decode cL_looks 0 = .ok (.bipush 10, 2) := by decide +kernel
theorem dL_looks_2 : decode cL_looks 2 = .ok (.newarray .int, 2) := by decide +kernel
theorem dL_looks_4 : decode cL_looks 4 = .ok (.astore_n 2, 1) := by decide +kernel
theorem dL_looks_5 : decode cL_looks 5 = .ok (.bipush 50, 2) := by decide +kernel
theorem dL_looks_7 : decode cL_looks 7 = .ok (.newarray .int, 2) := by decide +kernel
theorem dL_looks_9 : decode cL_looks 9 = .ok (.astore_n 3, 1) := by decide +kernel
theorem dL_looks_10 : decode cL_looks 10 = .ok (.bipush 50, 2) := by decide +kernel
theorem dL_looks_12 : decode cL_looks 12 = .ok (.newarray .int, 2) := by decide +kernel
theorem dL_looks_14 : decode cL_looks 14 = .ok (.astore 4, 2) := by decide +kernel
theorem dL_looks_16 : decode cL_looks 16 = .ok (.iconst 0, 1) := by decide +kernel
theorem dL_looks_17 : decode cL_looks 17 = .ok (.istore 5, 2) := by decide +kernel
theorem dL_looks_19 : decode cL_looks 19 = .ok (.iload 5, 2) := by decide +kernel
theorem dL_looks_21 : decode cL_looks 21 = .ok (.bipush 10, 2) := by decide +kernel
theorem dL_looks_23 : decode cL_looks 23 = .ok (.if_icmp .ge 14, 3) := by decide +kernel
theorem dL_looks_26 : decode cL_looks 26 = .ok (.aload_n 1, 1) := by decide +kernel
theorem dL_looks_27 : decode cL_looks 27 = .ok (.iload 5, 2) := by decide +kernel
theorem dL_looks_29 : decode cL_looks 29 = .ok (.iconst 0, 1) := by decide +kernel
theorem dL_looks_30 : decode cL_looks 30 = .ok (.iastore, 1) := by decide +kernel
theorem dL_looks_31 : decode cL_looks 31 = .ok (.iinc 5 1, 3) := by decide +kernel
theorem dL_looks_34 : decode cL_looks 34 = .ok (.goto (-15), 3) := by decide +kernel
theorem dL_looks_37 : decode cL_looks 37 = .ok (.iconst 0, 1) := by decide +kernel
theorem dL_looks_38 : decode cL_looks 38 = .ok (.istore 5, 2) := by decide +kernel
theorem dL_looks_40 : decode cL_looks 40 = .ok (.iload 5, 2) := by decide +kernel
theorem dL_looks_42 : decode cL_looks 42 = .ok (.bipush 36, 2) := by decide +kernel
theorem dL_looks_44 : decode cL_looks 44 = .ok (.if_icmp .ge 221, 3) := by decide +kernel
theorem dL_looks_47 : decode cL_looks 47 = .ok (.aload_n 0, 1) := by decide +kernel
theorem dL_looks_48 : decode cL_looks 48 = .ok (.iload 5, 2) := by decide +kernel
theorem dL_looks_50 : decode cL_looks 50 = .ok (.bipush 6, 2) := by decide +kernel
theorem dL_looks_52 : decode cL_looks 52 = .ok (.idiv, 1) := by decide +kernel
theorem dL_looks_53 : decode cL_looks 53 = .ok (.iload 5, 2) := by decide +kernel
theorem dL_looks_55 : decode cL_looks 55 = .ok (.bipush 6, 2) := by decide +kernel
theorem dL_looks_57 : decode cL_looks 57 = .ok (.irem, 1) := by decide +kernel
theorem dL_looks_58 : decode cL_looks 58 = .ok (.invokestatic 81, 3) := by decide +kernel
theorem dL_looks_61 : decode cL_looks 61 = .ok (.istore 6, 2) := by decide +kernel
theorem dL_looks_63 : decode cL_looks 63 = .ok (.iload 6, 2) := by decide +kernel
theorem dL_looks_65 : decode cL_looks 65 = .ok (.iconst (-1), 1) := by decide +kernel
theorem dL_looks_66 : decode cL_looks 66 = .ok (.if_icmp .lt 10, 3) := by decide +kernel
theorem dL_looks_69 : decode cL_looks 69 = .ok (.iload 6, 2) := by decide +kernel
theorem dL_looks_71 : decode cL_looks 71 = .ok (.bipush 9, 2) := by decide +kernel
theorem dL_looks_73 : decode cL_looks 73 = .ok (.if_icmp .le 5, 3) := by decide +kernel
theorem dL_looks_76 : decode cL_looks 76 = .ok (.iconst 0, 1) := by decide +kernel
theorem dL_looks_77 : decode cL_looks 77 = .ok (.ireturn, 1) := by decide +kernel
theorem dL_looks_78 : decode cL_looks 78 = .ok (.iconst 0, 1) := by decide +kernel
theorem dL_looks_79 : decode cL_looks 79 = .ok (.istore 7, 2) := by decide +kernel
theorem dL_looks_81 : decode cL_looks 81 = .ok (.iload 7, 2) := by decide +kernel
theorem dL_looks_83 : decode cL_looks 83 = .ok (.iconst 4, 1) := by decide +kernel
theorem dL_looks_84 : decode cL_looks 84 = .ok (.if_icmp .ge 149, 3) := by decide +kernel
theorem dL_looks_87 : decode cL_looks 87 = .ok (.iload 6, 2) := by decide +kernel
theorem dL_looks_89 : decode cL_looks 89 = .ok (.ifCond .lt 144, 3) := by decide +kernel
theorem dL_looks_92 : decode cL_looks 92 = .ok (.aload_n 0, 1) := by decide +kernel
theorem dL_looks_93 : decode cL_looks 93 = .ok (.iload 5, 2) := by decide +kernel
theorem dL_looks_95 : decode cL_looks 95 = .ok (.bipush 6, 2) := by decide +kernel
theorem dL_looks_97 : decode cL_looks 97 = .ok (.idiv, 1) := by decide +kernel
theorem dL_looks_98 : decode cL_looks 98 = .ok (.iload 7, 2) := by decide +kernel
theorem dL_looks_100 : decode cL_looks 100 = .ok (.ifCond .ne 7, 3) := by decide +kernel
theorem dL_looks_103 : decode cL_looks 103 = .ok (.iconst 1, 1) := by decide +kernel
theorem dL_looks_104 : decode cL_looks 104 = .ok (.goto 14, 3) := by decide +kernel
theorem dL_looks_107 : decode cL_looks 107 = .ok (.iload 7, 2) := by decide +kernel
theorem dL_looks_109 : decode cL_looks 109 = .ok (.iconst 1, 1) := by decide +kernel
theorem dL_looks_110 : decode cL_looks 110 = .ok (.if_icmp .ne 7, 3) := by decide +kernel
theorem dL_looks_113 : decode cL_looks 113 = .ok (.iconst (-1), 1) := by decide +kernel
theorem dL_looks_114 : decode cL_looks 114 = .ok (.goto 4, 3) := by decide +kernel
theorem dL_looks_117 : decode cL_looks 117 = .ok (.iconst 0, 1) := by decide +kernel
theorem dL_looks_118 : decode cL_looks 118 = .ok (.iadd, 1) := by decide +kernel
theorem dL_looks_119 : decode cL_looks 119 = .ok (.iload 5, 2) := by decide +kernel
theorem dL_looks_121 : decode cL_looks 121 = .ok (.bipush 6, 2) := by decide +kernel
theorem dL_looks_123 : decode cL_looks 123 = .ok (.irem, 1) := by decide +kernel
theorem dL_looks_124 : decode cL_looks 124 = .ok (.iload 7, 2) := by decide +kernel
theorem dL_looks_126 : decode cL_looks 126 = .ok (.iconst 2, 1) := by decide +kernel
theorem dL_looks_127 : decode cL_looks 127 = .ok (.if_icmp .ne 7, 3) := by decide +kernel
theorem dL_looks_130 : decode cL_looks 130 = .ok (.iconst 1, 1) := by decide +kernel
theorem dL_looks_131 : decode cL_looks 131 = .ok (.goto 14, 3) := by decide +kernel
theorem dL_looks_134 : decode cL_looks 134 = .ok (.iload 7, 2) := by decide +kernel
theorem dL_looks_136 : decode cL_looks 136 = .ok (.iconst 3, 1) := by decide +kernel
theorem dL_looks_137 : decode cL_looks 137 = .ok (.if_icmp .ne 7, 3) := by decide +kernel
theorem dL_looks_140 : decode cL_looks 140 = .ok (.iconst (-1), 1) := by decide +kernel
theorem dL_looks_141 : decode cL_looks 141 = .ok (.goto 4, 3) := by decide +kernel
theorem dL_looks_144 : decode cL_looks 144 = .ok (.iconst 0, 1) := by decide +kernel
theorem dL_looks_145 : decode cL_looks 145 = .ok (.iadd, 1) := by decide +kernel
theorem dL_looks_146 : decode cL_looks 146 = .ok (.invokestatic 81, 3) := by decide +kernel
theorem dL_looks_149 : decode cL_looks 149 = .ok (.istore 8, 2) := by decide +kernel
theorem dL_looks_151 : decode cL_looks 151 = .ok (.iload 8, 2) := by decide +kernel
theorem dL_looks_153 : decode cL_looks 153 = .ok (.ifCond .lt 74, 3) := by decide +kernel
theorem dL_looks_156 : decode cL_looks 156 = .ok (.iload 8, 2) := by decide +kernel
theorem dL_looks_158 : decode cL_looks 158 = .ok (.iload 6, 2) := by decide +kernel
theorem dL_looks_160 : decode cL_looks 160 = .ok (.if_icmp .eq 67, 3) := by decide +kernel
theorem dL_looks_163 : decode cL_looks 163 = .ok (.aload_n 1, 1) := by decide +kernel
theorem dL_looks_164 : decode cL_looks 164 = .ok (.iload 6, 2) := by decide +kernel
theorem dL_looks_166 : decode cL_looks 166 = .ok (.dup2, 1) := by decide +kernel
theorem dL_looks_167 : decode cL_looks 167 = .ok (.iaload, 1) := by decide +kernel
theorem dL_looks_168 : decode cL_looks 168 = .ok (.iconst 1, 1) := by decide +kernel
theorem dL_looks_169 : decode cL_looks 169 = .ok (.iload 8, 2) := by decide +kernel
theorem dL_looks_171 : decode cL_looks 171 = .ok (.ishl, 1) := by decide +kernel
theorem dL_looks_172 : decode cL_looks 172 = .ok (.ior, 1) := by decide +kernel
theorem dL_looks_173 : decode cL_looks 173 = .ok (.iastore, 1) := by decide +kernel
theorem dL_looks_174 : decode cL_looks 174 = .ok (.aload_n 3, 1) := by decide +kernel
theorem dL_looks_175 : decode cL_looks 175 = .ok (.bipush 10, 2) := by decide +kernel
theorem dL_looks_177 : decode cL_looks 177 = .ok (.iload 6, 2) := by decide +kernel
theorem dL_looks_179 : decode cL_looks 179 = .ok (.iconst 5, 1) := by decide +kernel
theorem dL_looks_180 : decode cL_looks 180 = .ok (.irem, 1) := by decide +kernel
theorem dL_looks_181 : decode cL_looks 181 = .ok (.imul, 1) := by decide +kernel
theorem dL_looks_182 : decode cL_looks 182 = .ok (.iload 8, 2) := by decide +kernel
theorem dL_looks_184 : decode cL_looks 184 = .ok (.iadd, 1) := by decide +kernel
theorem dL_looks_185 : decode cL_looks 185 = .ok (.dup2, 1) := by decide +kernel
theorem dL_looks_186 : decode cL_looks 186 = .ok (.iaload, 1) := by decide +kernel
theorem dL_looks_187 : decode cL_looks 187 = .ok (.iload 6, 2) := by decide +kernel
theorem dL_looks_189 : decode cL_looks 189 = .ok (.iconst 5, 1) := by decide +kernel
theorem dL_looks_190 : decode cL_looks 190 = .ok (.if_icmp .ge 7, 3) := by decide +kernel
theorem dL_looks_193 : decode cL_looks 193 = .ok (.iconst 1, 1) := by decide +kernel
theorem dL_looks_194 : decode cL_looks 194 = .ok (.goto 4, 3) := by decide +kernel
theorem dL_looks_197 : decode cL_looks 197 = .ok (.iconst 0, 1) := by decide +kernel
theorem dL_looks_198 : decode cL_looks 198 = .ok (.iadd, 1) := by decide +kernel
theorem dL_looks_199 : decode cL_looks 199 = .ok (.iastore, 1) := by decide +kernel
theorem dL_looks_200 : decode cL_looks 200 = .ok (.aload 4, 2) := by decide +kernel
theorem dL_looks_202 : decode cL_looks 202 = .ok (.bipush 10, 2) := by decide +kernel
theorem dL_looks_204 : decode cL_looks 204 = .ok (.iload 6, 2) := by decide +kernel
theorem dL_looks_206 : decode cL_looks 206 = .ok (.iconst 5, 1) := by decide +kernel
theorem dL_looks_207 : decode cL_looks 207 = .ok (.irem, 1) := by decide +kernel
theorem dL_looks_208 : decode cL_looks 208 = .ok (.imul, 1) := by decide +kernel
theorem dL_looks_209 : decode cL_looks 209 = .ok (.iload 8, 2) := by decide +kernel
theorem dL_looks_211 : decode cL_looks 211 = .ok (.iadd, 1) := by decide +kernel
theorem dL_looks_212 : decode cL_looks 212 = .ok (.dup2, 1) := by decide +kernel
theorem dL_looks_213 : decode cL_looks 213 = .ok (.iaload, 1) := by decide +kernel
theorem dL_looks_214 : decode cL_looks 214 = .ok (.iload 6, 2) := by decide +kernel
theorem dL_looks_216 : decode cL_looks 216 = .ok (.iconst 5, 1) := by decide +kernel
theorem dL_looks_217 : decode cL_looks 217 = .ok (.if_icmp .ge 7, 3) := by decide +kernel
theorem dL_looks_220 : decode cL_looks 220 = .ok (.iconst 0, 1) := by decide +kernel
theorem dL_looks_221 : decode cL_looks 221 = .ok (.goto 4, 3) := by decide +kernel
theorem dL_looks_224 : decode cL_looks 224 = .ok (.iconst 1, 1) := by decide +kernel
theorem dL_looks_225 : decode cL_looks 225 = .ok (.iadd, 1) := by decide +kernel
theorem dL_looks_226 : decode cL_looks 226 = .ok (.iastore, 1) := by decide +kernel
theorem dL_looks_227 : decode cL_looks 227 = .ok (.iinc 7 1, 3) := by decide +kernel
theorem dL_looks_230 : decode cL_looks 230 = .ok (.goto (-149), 3) := by decide +kernel
theorem dL_looks_233 : decode cL_looks 233 = .ok (.aload_n 2, 1) := by decide +kernel
theorem dL_looks_234 : decode cL_looks 234 = .ok (.iload 6, 2) := by decide +kernel
theorem dL_looks_236 : decode cL_looks 236 = .ok (.ifCond .ge 7, 3) := by decide +kernel
theorem dL_looks_239 : decode cL_looks 239 = .ok (.iconst 0, 1) := by decide +kernel
theorem dL_looks_240 : decode cL_looks 240 = .ok (.goto 5, 3) := by decide +kernel
theorem dL_looks_243 : decode cL_looks 243 = .ok (.iload 6, 2) := by decide +kernel
theorem dL_looks_245 : decode cL_looks 245 = .ok (.dup2, 1) := by decide +kernel
theorem dL_looks_246 : decode cL_looks 246 = .ok (.iaload, 1) := by decide +kernel
theorem dL_looks_247 : decode cL_looks 247 = .ok (.iload 6, 2) := by decide +kernel
theorem dL_looks_249 : decode cL_looks 249 = .ok (.ifCond .ge 7, 3) := by decide +kernel
theorem dL_looks_252 : decode cL_looks 252 = .ok (.iconst 0, 1) := by decide +kernel
theorem dL_looks_253 : decode cL_looks 253 = .ok (.goto 4, 3) := by decide +kernel
theorem dL_looks_256 : decode cL_looks 256 = .ok (.iconst 1, 1) := by decide +kernel
theorem dL_looks_257 : decode cL_looks 257 = .ok (.iadd, 1) := by decide +kernel
theorem dL_looks_258 : decode cL_looks 258 = .ok (.iastore, 1) := by decide +kernel
theorem dL_looks_259 : decode cL_looks 259 = .ok (.iinc 5 1, 3) := by decide +kernel
theorem dL_looks_262 : decode cL_looks 262 = .ok (.goto (-222), 3) := by decide +kernel
theorem dL_looks_265 : decode cL_looks 265 = .ok (.iconst 0, 1) := by decide +kernel
theorem dL_looks_266 : decode cL_looks 266 = .ok (.istore 5, 2) := by decide +kernel
theorem dL_looks_268 : decode cL_looks 268 = .ok (.iconst 0, 1) := by decide +kernel
theorem dL_looks_269 : decode cL_looks 269 = .ok (.istore 6, 2) := by decide +kernel
theorem dL_looks_271 : decode cL_looks 271 = .ok (.iload 6, 2) := by decide +kernel
theorem dL_looks_273 : decode cL_looks 273 = .ok (.bipush 10, 2) := by decide +kernel
theorem dL_looks_275 : decode cL_looks 275 = .ok (.if_icmp .ge 230, 3) := by decide +kernel
theorem dL_looks_278 : decode cL_looks 278 = .ok (.iload 5, 2) := by decide +kernel
theorem dL_looks_280 : decode cL_looks 280 = .ok (.aload_n 2, 1) := by decide +kernel
theorem dL_looks_281 : decode cL_looks 281 = .ok (.iload 6, 2) := by decide +kernel
theorem dL_looks_283 : decode cL_looks 283 = .ok (.iaload, 1) := by decide +kernel
theorem dL_looks_284 : decode cL_looks 284 = .ok (.ifCond .le 7, 3) := by decide +kernel
theorem dL_looks_287 : decode cL_looks 287 = .ok (.iconst 1, 1) := by decide +kernel
theorem dL_looks_288 : decode cL_looks 288 = .ok (.goto 4, 3) := by decide +kernel
theorem dL_looks_291 : decode cL_looks 291 = .ok (.iconst 0, 1) := by decide +kernel
theorem dL_looks_292 : decode cL_looks 292 = .ok (.iadd, 1) := by decide +kernel
theorem dL_looks_293 : decode cL_looks 293 = .ok (.istore 5, 2) := by decide +kernel
theorem dL_looks_295 : decode cL_looks 295 = .ok (.aload_n 0, 1) := by decide +kernel
theorem dL_looks_296 : decode cL_looks 296 = .ok (.iload 6, 2) := by decide +kernel
theorem dL_looks_298 : decode cL_looks 298 = .ok (.invokestatic 84, 3) := by decide +kernel
theorem dL_looks_301 : decode cL_looks 301 = .ok (.aload_n 2, 1) := by decide +kernel
theorem dL_looks_302 : decode cL_looks 302 = .ok (.iload 6, 2) := by decide +kernel
theorem dL_looks_304 : decode cL_looks 304 = .ok (.iaload, 1) := by decide +kernel
theorem dL_looks_305 : decode cL_looks 305 = .ok (.if_icmp .ne 131, 3) := by decide +kernel
theorem dL_looks_308 : decode cL_looks 308 = .ok (.aload_n 0, 1) := by decide +kernel
theorem dL_looks_309 : decode cL_looks 309 = .ok (.iload 6, 2) := by decide +kernel
theorem dL_looks_311 : decode cL_looks 311 = .ok (.invokestatic 87, 3) := by decide +kernel
theorem dL_looks_314 : decode cL_looks 314 = .ok (.aload_n 1, 1) := by decide +kernel
theorem dL_looks_315 : decode cL_looks 315 = .ok (.iload 6, 2) := by decide +kernel
theorem dL_looks_317 : decode cL_looks 317 = .ok (.iaload, 1) := by decide +kernel
theorem dL_looks_318 : decode cL_looks 318 = .ok (.invokestatic 89, 3) := by decide +kernel
theorem dL_looks_321 : decode cL_looks 321 = .ok (.if_icmp .ne 115, 3) := by decide +kernel
theorem dL_looks_324 : decode cL_looks 324 = .ok (.aload_n 0, 1) := by decide +kernel
theorem dL_looks_325 : decode cL_looks 325 = .ok (.iload 6, 2) := by decide +kernel
theorem dL_looks_327 : decode cL_looks 327 = .ok (.invokestatic 92, 3) := by decide +kernel
theorem dL_looks_330 : decode cL_looks 330 = .ok (.aload_n 2, 1) := by decide +kernel
theorem dL_looks_331 : decode cL_looks 331 = .ok (.iload 6, 2) := by decide +kernel
theorem dL_looks_333 : decode cL_looks 333 = .ok (.iaload, 1) := by decide +kernel
theorem dL_looks_334 : decode cL_looks 334 = .ok (.ifCond .le 7, 3) := by decide +kernel
theorem dL_looks_337 : decode cL_looks 337 = .ok (.iconst 1, 1) := by decide +kernel
theorem dL_looks_338 : decode cL_looks 338 = .ok (.goto 4, 3) := by decide +kernel
theorem dL_looks_341 : decode cL_looks 341 = .ok (.iconst 0, 1) := by decide +kernel
theorem dL_looks_342 : decode cL_looks 342 = .ok (.if_icmp .lt 94, 3) := by decide +kernel
theorem dL_looks_345 : decode cL_looks 345 = .ok (.aload_n 0, 1) := by decide +kernel
theorem dL_looks_346 : decode cL_looks 346 = .ok (.iload 6, 2) := by decide +kernel
theorem dL_looks_348 : decode cL_looks 348 = .ok (.invokestatic 92, 3) := by decide +kernel
theorem dL_looks_351 : decode cL_looks 351 = .ok (.aload_n 2, 1) := by decide +kernel
theorem dL_looks_352 : decode cL_looks 352 = .ok (.iload 6, 2) := by decide +kernel
theorem dL_looks_354 : decode cL_looks 354 = .ok (.iaload, 1) := by decide +kernel
theorem dL_looks_355 : decode cL_looks 355 = .ok (.if_icmp .gt 81, 3) := by decide +kernel
theorem dL_looks_358 : decode cL_looks 358 = .ok (.aload_n 0, 1) := by decide +kernel
theorem dL_looks_359 : decode cL_looks 359 = .ok (.iload 6, 2) := by decide +kernel
theorem dL_looks_361 : decode cL_looks 361 = .ok (.invokestatic 94, 3) := by decide +kernel
theorem dL_looks_364 : decode cL_looks 364 = .ok (.aload_n 0, 1) := by decide +kernel
theorem dL_looks_365 : decode cL_looks 365 = .ok (.iload 6, 2) := by decide +kernel
theorem dL_looks_367 : decode cL_looks 367 = .ok (.invokestatic 92, 3) := by decide +kernel
theorem dL_looks_370 : decode cL_looks 370 = .ok (.imul, 1) := by decide +kernel
theorem dL_looks_371 : decode cL_looks 371 = .ok (.aload_n 2, 1) := by decide +kernel
theorem dL_looks_372 : decode cL_looks 372 = .ok (.iload 6, 2) := by decide +kernel
theorem dL_looks_374 : decode cL_looks 374 = .ok (.iaload, 1) := by decide +kernel
theorem dL_looks_375 : decode cL_looks 375 = .ok (.if_icmp .lt 61, 3) := by decide +kernel
theorem dL_looks_378 : decode cL_looks 378 = .ok (.aload_n 0, 1) := by decide +kernel
theorem dL_looks_379 : decode cL_looks 379 = .ok (.iload 6, 2) := by decide +kernel
theorem dL_looks_381 : decode cL_looks 381 = .ok (.invokestatic 94, 3) := by decide +kernel
theorem dL_looks_384 : decode cL_looks 384 = .ok (.aload_n 0, 1) := by decide +kernel
theorem dL_looks_385 : decode cL_looks 385 = .ok (.iload 6, 2) := by decide +kernel
theorem dL_looks_387 : decode cL_looks 387 = .ok (.invokestatic 92, 3) := by decide +kernel
theorem dL_looks_390 : decode cL_looks 390 = .ok (.iadd, 1) := by decide +kernel
theorem dL_looks_391 : decode cL_looks 391 = .ok (.aload_n 2, 1) := by decide +kernel
theorem dL_looks_392 : decode cL_looks 392 = .ok (.iload 6, 2) := by decide +kernel
theorem dL_looks_394 : decode cL_looks 394 = .ok (.iaload, 1) := by decide +kernel
theorem dL_looks_395 : decode cL_looks 395 = .ok (.iconst 1, 1) := by decide +kernel
theorem dL_looks_396 : decode cL_looks 396 = .ok (.iadd, 1) := by decide +kernel
theorem dL_looks_397 : decode cL_looks 397 = .ok (.if_icmp .le 10, 3) := by decide +kernel
theorem dL_looks_400 : decode cL_looks 400 = .ok (.aload_n 2, 1) := by decide +kernel
theorem dL_looks_401 : decode cL_looks 401 = .ok (.iload 6, 2) := by decide +kernel
theorem dL_looks_403 : decode cL_looks 403 = .ok (.iaload, 1) := by decide +kernel
theorem dL_looks_404 : decode cL_looks 404 = .ok (.ifCond .gt 32, 3) := by decide +kernel
theorem dL_looks_407 : decode cL_looks 407 = .ok (.aload_n 2, 1) := by decide +kernel
theorem dL_looks_408 : decode cL_looks 408 = .ok (.iload 6, 2) := by decide +kernel
theorem dL_looks_410 : decode cL_looks 410 = .ok (.iaload, 1) := by decide +kernel
theorem dL_looks_411 : decode cL_looks 411 = .ok (.ifCond .ne 7, 3) := by decide +kernel
theorem dL_looks_414 : decode cL_looks 414 = .ok (.iconst 1, 1) := by decide +kernel
theorem dL_looks_415 : decode cL_looks 415 = .ok (.goto 4, 3) := by decide +kernel
theorem dL_looks_418 : decode cL_looks 418 = .ok (.iconst 0, 1) := by decide +kernel
theorem dL_looks_419 : decode cL_looks 419 = .ok (.aload_n 0, 1) := by decide +kernel
theorem dL_looks_420 : decode cL_looks 420 = .ok (.iload 6, 2) := by decide +kernel
theorem dL_looks_422 : decode cL_looks 422 = .ok (.invokestatic 94, 3) := by decide +kernel
theorem dL_looks_425 : decode cL_looks 425 = .ok (.ifCond .ne 7, 3) := by decide +kernel
theorem dL_looks_428 : decode cL_looks 428 = .ok (.iconst 1, 1) := by decide +kernel
theorem dL_looks_429 : decode cL_looks 429 = .ok (.goto 4, 3) := by decide +kernel
theorem dL_looks_432 : decode cL_looks 432 = .ok (.iconst 0, 1) := by decide +kernel
theorem dL_looks_433 : decode cL_looks 433 = .ok (.if_icmp .eq 5, 3) := by decide +kernel
theorem dL_looks_436 : decode cL_looks 436 = .ok (.iconst 0, 1) := by decide +kernel
theorem dL_looks_437 : decode cL_looks 437 = .ok (.ireturn, 1) := by decide +kernel
theorem dL_looks_438 : decode cL_looks 438 = .ok (.iconst 0, 1) := by decide +kernel
theorem dL_looks_439 : decode cL_looks 439 = .ok (.istore 7, 2) := by decide +kernel
theorem dL_looks_441 : decode cL_looks 441 = .ok (.iload 7, 2) := by decide +kernel
theorem dL_looks_443 : decode cL_looks 443 = .ok (.bipush 10, 2) := by decide +kernel
theorem dL_looks_445 : decode cL_looks 445 = .ok (.if_icmp .ge 54, 3) := by decide +kernel
theorem dL_looks_448 : decode cL_looks 448 = .ok (.aload_n 0, 1) := by decide +kernel
theorem dL_looks_449 : decode cL_looks 449 = .ok (.iload 6, 2) := by decide +kernel
theorem dL_looks_451 : decode cL_looks 451 = .ok (.iload 7, 2) := by decide +kernel
theorem dL_looks_453 : decode cL_looks 453 = .ok (.invokestatic 96, 3) := by decide +kernel
theorem dL_looks_456 : decode cL_looks 456 = .ok (.iload 6, 2) := by decide +kernel
theorem dL_looks_458 : decode cL_looks 458 = .ok (.iconst 5, 1) := by decide +kernel
theorem dL_looks_459 : decode cL_looks 459 = .ok (.if_icmp .ge 16, 3) := by decide +kernel
theorem dL_looks_462 : decode cL_looks 462 = .ok (.aload_n 3, 1) := by decide +kernel
theorem dL_looks_463 : decode cL_looks 463 = .ok (.bipush 10, 2) := by decide +kernel
theorem dL_looks_465 : decode cL_looks 465 = .ok (.iload 6, 2) := by decide +kernel
theorem dL_looks_467 : decode cL_looks 467 = .ok (.imul, 1) := by decide +kernel
theorem dL_looks_468 : decode cL_looks 468 = .ok (.iload 7, 2) := by decide +kernel
theorem dL_looks_470 : decode cL_looks 470 = .ok (.iadd, 1) := by decide +kernel
theorem dL_looks_471 : decode cL_looks 471 = .ok (.iaload, 1) := by decide +kernel
theorem dL_looks_472 : decode cL_looks 472 = .ok (.goto 16, 3) := by decide +kernel
theorem dL_looks_475 : decode cL_looks 475 = .ok (.aload 4, 2) := by decide +kernel
theorem dL_looks_477 : decode cL_looks 477 = .ok (.bipush 10, 2) := by decide +kernel
theorem dL_looks_479 : decode cL_looks 479 = .ok (.iload 6, 2) := by decide +kernel
theorem dL_looks_481 : decode cL_looks 481 = .ok (.iconst 5, 1) := by decide +kernel
theorem dL_looks_482 : decode cL_looks 482 = .ok (.isub, 1) := by decide +kernel
theorem dL_looks_483 : decode cL_looks 483 = .ok (.imul, 1) := by decide +kernel
theorem dL_looks_484 : decode cL_looks 484 = .ok (.iload 7, 2) := by decide +kernel
theorem dL_looks_486 : decode cL_looks 486 = .ok (.iadd, 1) := by decide +kernel
theorem dL_looks_487 : decode cL_looks 487 = .ok (.iaload, 1) := by decide +kernel
theorem dL_looks_488 : decode cL_looks 488 = .ok (.if_icmp .eq 5, 3) := by decide +kernel
theorem dL_looks_491 : decode cL_looks 491 = .ok (.iconst 0, 1) := by decide +kernel
theorem dL_looks_492 : decode cL_looks 492 = .ok (.ireturn, 1) := by decide +kernel
theorem dL_looks_493 : decode cL_looks 493 = .ok (.iinc 7 1, 3) := by decide +kernel
theorem dL_looks_496 : decode cL_looks 496 = .ok (.goto (-55), 3) := by decide +kernel
theorem dL_looks_499 : decode cL_looks 499 = .ok (.iinc 6 1, 3) := by decide +kernel
theorem dL_looks_502 : decode cL_looks 502 = .ok (.goto (-231), 3) := by decide +kernel
theorem dL_looks_505 : decode cL_looks 505 = .ok (.aload_n 0, 1) := by decide +kernel
theorem dL_looks_506 : decode cL_looks 506 = .ok (.invokevirtual 98, 3) := by decide +kernel
theorem dL_looks_509 : decode cL_looks 509 = .ok (.iload 5, 2) := by decide +kernel
theorem dL_looks_511 : decode cL_looks 511 = .ok (.if_icmp .ne 39, 3) := by decide +kernel
theorem dL_looks_514 : decode cL_looks 514 = .ok (.aload_n 0, 1) := by decide +kernel
theorem dL_looks_515 : decode cL_looks 515 = .ok (.bipush 10, 2) := by decide +kernel
theorem dL_looks_517 : decode cL_looks 517 = .ok (.invokestatic 84, 3) := by decide +kernel
theorem dL_looks_520 : decode cL_looks 520 = .ok (.ldc 18, 2) := by decide +kernel
theorem dL_looks_522 : decode cL_looks 522 = .ok (.if_icmp .ne 28, 3) := by decide +kernel
theorem dL_looks_525 : decode cL_looks 525 = .ok (.aload_n 0, 1) := by decide +kernel
theorem dL_looks_526 : decode cL_looks 526 = .ok (.iconst 0, 1) := by decide +kernel
theorem dL_looks_527 : decode cL_looks 527 = .ok (.iconst (-1), 1) := by decide +kernel
theorem dL_looks_528 : decode cL_looks 528 = .ok (.invokestatic 96, 3) := by decide +kernel
theorem dL_looks_531 : decode cL_looks 531 = .ok (.ldc 18, 2) := by decide +kernel
theorem dL_looks_533 : decode cL_looks 533 = .ok (.if_icmp .ne 17, 3) := by decide +kernel
theorem dL_looks_536 : decode cL_looks 536 = .ok (.aload_n 0, 1) := by decide +kernel
theorem dL_looks_537 : decode cL_looks 537 = .ok (.iconst (-1), 1) := by decide +kernel
theorem dL_looks_538 : decode cL_looks 538 = .ok (.invokestatic 92, 3) := by decide +kernel
theorem dL_looks_541 : decode cL_looks 541 = .ok (.ldc 18, 2) := by decide +kernel
theorem dL_looks_543 : decode cL_looks 543 = .ok (.if_icmp .ne 7, 3) := by decide +kernel
theorem dL_looks_546 : decode cL_looks 546 = .ok (.iconst 1, 1) := by decide +kernel
theorem dL_looks_547 : decode cL_looks 547 = .ok (.goto 4, 3) := by decide +kernel
theorem dL_looks_550 : decode cL_looks 550 = .ok (.iconst 0, 1) := by decide +kernel
theorem dL_looks_551 : decode cL_looks 551 = .ok (.ireturn, 1) := by decide +kernel
set_option maxRecDepth 20000 in
theorem ggL_encloses_L_cell : GoodIn wsL_encloses wsL_cell := goodIn_ca (goodIn_r _ [4, 5, 6, 3, 7, 8, 9, 10, 11, 12, 13, 14, 15, 16, 17, 18, 19, 20, 21, 22, 23, 24, 25, 26, 27, 68, 69, 70, 71, 72, 73, 74, 75] (by decide +kernel) (by decide +kernel)) (goodIn_sub (fun _ h => List.mem_cons_of_mem _ (List.mem_append_right _ h)) (by decide +kernel))
set_option maxRecDepth 20000 in
theorem gL_encloses_L_cell : GoodIn wsL_encloses (va_wsS RL 81 yL_cell wsL_cell) := goodIn_app (goodIn_of _ (by decide +kernel)) ggL_encloses_L_cell
set_option maxRecDepth 20000 in
theorem ggL_encloses_L_enclosed : GoodIn wsL_encloses wsL_enclosed := goodIn_ca (goodIn_r _ [30, 8, 9, 31, 32, 33, 13, 34, 35, 27, 36, 37, 38, 39, 40, 18, 19, 41, 42, 43, 44, 45, 46, 47, 48, 49, 50, 51, 52, 53, 54, 55, 56, 57, 58, 59, 60, 61, 62, 63, 64, 65, 66, 67, 68, 69, 70, 71, 72, 73, 74, 75] (by decide +kernel) (by decide +kernel)) (goodIn_sub (fun _ h => List.mem_cons_of_mem _ (List.mem_append_right _ h)) (by decide +kernel))
set_option maxRecDepth 20000 in
theorem gL_encloses_L_enclosed : GoodIn wsL_encloses (va_wsS RL 102 yL_enclosed wsL_enclosed) := goodIn_app (goodIn_of _ (by decide +kernel)) ggL_encloses_L_enclosed
theorem dL_encloses_0 : decode cL_encloses 0 = .ok (.lconst 0, 1) := by decide +kernel
theorem dL_encloses_1 : decode cL_encloses 1 = .ok (.lstore_n 2, 1) := by decide +kernel
theorem dL_encloses_2 : decode cL_encloses 2 = .ok (.iconst 1, 1) := by decide +kernel
theorem dL_encloses_3 : decode cL_encloses 3 = .ok (.istore 4, 2) := by decide +kernel
theorem dL_encloses_5 : decode cL_encloses 5 = .ok (.iload 4, 2) := by decide +kernel
theorem dL_encloses_7 : decode cL_encloses 7 = .ok (.ifCond .eq 164, 3) := by decide +kernel
theorem dL_encloses_10 : decode cL_encloses 10 = .ok (.iconst 0, 1) := by decide +kernel
theorem dL_encloses_11 : decode cL_encloses 11 = .ok (.istore 4, 2) := by decide +kernel
theorem dL_encloses_13 : decode cL_encloses 13 = .ok (.iconst 0, 1) := by decide +kernel
theorem dL_encloses_14 : decode cL_encloses 14 = .ok (.istore 5, 2) := by decide +kernel
theorem dL_encloses_16 : decode cL_encloses 16 = .ok (.iload 5, 2) := by decide +kernel
theorem dL_encloses_18 : decode cL_encloses 18 = .ok (.bipush 36, 2) := by decide +kernel
theorem dL_encloses_20 : decode cL_encloses 20 = .ok (.if_icmp .ge 148, 3) := by decide +kernel
theorem dL_encloses_23 : decode cL_encloses 23 = .ok (.iload 5, 2) := by decide +kernel
theorem dL_encloses_25 : decode cL_encloses 25 = .ok (.bipush 6, 2) := by decide +kernel
theorem dL_encloses_27 : decode cL_encloses 27 = .ok (.idiv, 1) := by decide +kernel
theorem dL_encloses_28 : decode cL_encloses 28 = .ok (.istore 6, 2) := by decide +kernel
theorem dL_encloses_30 : decode cL_encloses 30 = .ok (.iload 5, 2) := by decide +kernel
theorem dL_encloses_32 : decode cL_encloses 32 = .ok (.bipush 6, 2) := by decide +kernel
theorem dL_encloses_34 : decode cL_encloses 34 = .ok (.irem, 1) := by decide +kernel
theorem dL_encloses_35 : decode cL_encloses 35 = .ok (.istore 7, 2) := by decide +kernel
theorem dL_encloses_37 : decode cL_encloses 37 = .ok (.iload 6, 2) := by decide +kernel
theorem dL_encloses_39 : decode cL_encloses 39 = .ok (.iconst 5, 1) := by decide +kernel
theorem dL_encloses_40 : decode cL_encloses 40 = .ok (.irem, 1) := by decide +kernel
theorem dL_encloses_41 : decode cL_encloses 41 = .ok (.ifCond .eq 10, 3) := by decide +kernel
theorem dL_encloses_44 : decode cL_encloses 44 = .ok (.iload 7, 2) := by decide +kernel
theorem dL_encloses_46 : decode cL_encloses 46 = .ok (.iconst 5, 1) := by decide +kernel
theorem dL_encloses_47 : decode cL_encloses 47 = .ok (.irem, 1) := by decide +kernel
theorem dL_encloses_48 : decode cL_encloses 48 = .ok (.ifCond .ne 7, 3) := by decide +kernel
theorem dL_encloses_51 : decode cL_encloses 51 = .ok (.iconst 1, 1) := by decide +kernel
theorem dL_encloses_52 : decode cL_encloses 52 = .ok (.goto 4, 3) := by decide +kernel
theorem dL_encloses_55 : decode cL_encloses 55 = .ok (.iconst 0, 1) := by decide +kernel
theorem dL_encloses_56 : decode cL_encloses 56 = .ok (.istore 8, 2) := by decide +kernel
theorem dL_encloses_58 : decode cL_encloses 58 = .ok (.iload 8, 2) := by decide +kernel
theorem dL_encloses_60 : decode cL_encloses 60 = .ok (.ifCond .ne 57, 3) := by decide +kernel
theorem dL_encloses_63 : decode cL_encloses 63 = .ok (.lload_n 2, 1) := by decide +kernel
theorem dL_encloses_64 : decode cL_encloses 64 = .ok (.iload 5, 2) := by decide +kernel
theorem dL_encloses_66 : decode cL_encloses 66 = .ok (.bipush 6, 2) := by decide +kernel
theorem dL_encloses_68 : decode cL_encloses 68 = .ok (.isub, 1) := by decide +kernel
theorem dL_encloses_69 : decode cL_encloses 69 = .ok (.lshr, 1) := by decide +kernel
theorem dL_encloses_70 : decode cL_encloses 70 = .ok (.lconst 1, 1) := by decide +kernel
theorem dL_encloses_71 : decode cL_encloses 71 = .ok (.land, 1) := by decide +kernel
theorem dL_encloses_72 : decode cL_encloses 72 = .ok (.lconst 1, 1) := by decide +kernel
theorem dL_encloses_73 : decode cL_encloses 73 = .ok (.lcmp, 1) := by decide +kernel
theorem dL_encloses_74 : decode cL_encloses 74 = .ok (.ifCond .eq 43, 3) := by decide +kernel
theorem dL_encloses_77 : decode cL_encloses 77 = .ok (.lload_n 2, 1) := by decide +kernel
theorem dL_encloses_78 : decode cL_encloses 78 = .ok (.iload 5, 2) := by decide +kernel
theorem dL_encloses_80 : decode cL_encloses 80 = .ok (.bipush 6, 2) := by decide +kernel
theorem dL_encloses_82 : decode cL_encloses 82 = .ok (.iadd, 1) := by decide +kernel
theorem dL_encloses_83 : decode cL_encloses 83 = .ok (.lshr, 1) := by decide +kernel
theorem dL_encloses_84 : decode cL_encloses 84 = .ok (.lconst 1, 1) := by decide +kernel
theorem dL_encloses_85 : decode cL_encloses 85 = .ok (.land, 1) := by decide +kernel
theorem dL_encloses_86 : decode cL_encloses 86 = .ok (.lconst 1, 1) := by decide +kernel
theorem dL_encloses_87 : decode cL_encloses 87 = .ok (.lcmp, 1) := by decide +kernel
theorem dL_encloses_88 : decode cL_encloses 88 = .ok (.ifCond .eq 29, 3) := by decide +kernel
theorem dL_encloses_91 : decode cL_encloses 91 = .ok (.lload_n 2, 1) := by decide +kernel
theorem dL_encloses_92 : decode cL_encloses 92 = .ok (.iload 5, 2) := by decide +kernel
theorem dL_encloses_94 : decode cL_encloses 94 = .ok (.iconst 1, 1) := by decide +kernel
theorem dL_encloses_95 : decode cL_encloses 95 = .ok (.isub, 1) := by decide +kernel
theorem dL_encloses_96 : decode cL_encloses 96 = .ok (.lshr, 1) := by decide +kernel
theorem dL_encloses_97 : decode cL_encloses 97 = .ok (.lconst 1, 1) := by decide +kernel
theorem dL_encloses_98 : decode cL_encloses 98 = .ok (.land, 1) := by decide +kernel
theorem dL_encloses_99 : decode cL_encloses 99 = .ok (.lconst 1, 1) := by decide +kernel
theorem dL_encloses_100 : decode cL_encloses 100 = .ok (.lcmp, 1) := by decide +kernel
theorem dL_encloses_101 : decode cL_encloses 101 = .ok (.ifCond .eq 16, 3) := by decide +kernel
theorem dL_encloses_104 : decode cL_encloses 104 = .ok (.lload_n 2, 1) := by decide +kernel
theorem dL_encloses_105 : decode cL_encloses 105 = .ok (.iload 5, 2) := by decide +kernel
theorem dL_encloses_107 : decode cL_encloses 107 = .ok (.iconst 1, 1) := by decide +kernel
theorem dL_encloses_108 : decode cL_encloses 108 = .ok (.iadd, 1) := by decide +kernel
theorem dL_encloses_109 : decode cL_encloses 109 = .ok (.lshr, 1) := by decide +kernel
theorem dL_encloses_110 : decode cL_encloses 110 = .ok (.lconst 1, 1) := by decide +kernel
theorem dL_encloses_111 : decode cL_encloses 111 = .ok (.land, 1) := by decide +kernel
theorem dL_encloses_112 : decode cL_encloses 112 = .ok (.lconst 1, 1) := by decide +kernel
theorem dL_encloses_113 : decode cL_encloses 113 = .ok (.lcmp, 1) := by decide +kernel
theorem dL_encloses_114 : decode cL_encloses 114 = .ok (.ifCond .ne 7, 3) := by decide +kernel
theorem dL_encloses_117 : decode cL_encloses 117 = .ok (.iconst 1, 1) := by decide +kernel
theorem dL_encloses_118 : decode cL_encloses 118 = .ok (.goto 4, 3) := by decide +kernel
theorem dL_encloses_121 : decode cL_encloses 121 = .ok (.iconst 0, 1) := by decide +kernel
theorem dL_encloses_122 : decode cL_encloses 122 = .ok (.istore 9, 2) := by decide +kernel
theorem dL_encloses_124 : decode cL_encloses 124 = .ok (.lload_n 2, 1) := by decide +kernel
theorem dL_encloses_125 : decode cL_encloses 125 = .ok (.iload 5, 2) := by decide +kernel
theorem dL_encloses_127 : decode cL_encloses 127 = .ok (.lshr, 1) := by decide +kernel
theorem dL_encloses_128 : decode cL_encloses 128 = .ok (.lconst 1, 1) := by decide +kernel
theorem dL_encloses_129 : decode cL_encloses 129 = .ok (.land, 1) := by decide +kernel
theorem dL_encloses_130 : decode cL_encloses 130 = .ok (.lconst 0, 1) := by decide +kernel
theorem dL_encloses_131 : decode cL_encloses 131 = .ok (.lcmp, 1) := by decide +kernel
theorem dL_encloses_132 : decode cL_encloses 132 = .ok (.ifCond .ne 30, 3) := by decide +kernel
theorem dL_encloses_135 : decode cL_encloses 135 = .ok (.iload 9, 2) := by decide +kernel
theorem dL_encloses_137 : decode cL_encloses 137 = .ok (.ifCond .eq 25, 3) := by decide +kernel
theorem dL_encloses_140 : decode cL_encloses 140 = .ok (.aload_n 0, 1) := by decide +kernel
theorem dL_encloses_141 : decode cL_encloses 141 = .ok (.iload 6, 2) := by decide +kernel
theorem dL_encloses_143 : decode cL_encloses 143 = .ok (.iload 7, 2) := by decide +kernel
theorem dL_encloses_145 : decode cL_encloses 145 = .ok (.invokestatic 81, 3) := by decide +kernel
theorem dL_encloses_148 : decode cL_encloses 148 = .ok (.iload_n 1, 1) := by decide +kernel
theorem dL_encloses_149 : decode cL_encloses 149 = .ok (.if_icmp .eq 13, 3) := by decide +kernel
theorem dL_encloses_152 : decode cL_encloses 152 = .ok (.lload_n 2, 1) := by decide +kernel
theorem dL_encloses_153 : decode cL_encloses 153 = .ok (.lconst 1, 1) := by decide +kernel
theorem dL_encloses_154 : decode cL_encloses 154 = .ok (.iload 5, 2) := by decide +kernel
theorem dL_encloses_156 : decode cL_encloses 156 = .ok (.lshl, 1) := by decide +kernel
theorem dL_encloses_157 : decode cL_encloses 157 = .ok (.lor, 1) := by decide +kernel
theorem dL_encloses_158 : decode cL_encloses 158 = .ok (.lstore_n 2, 1) := by decide +kernel
theorem dL_encloses_159 : decode cL_encloses 159 = .ok (.iconst 1, 1) := by decide +kernel
theorem dL_encloses_160 : decode cL_encloses 160 = .ok (.istore 4, 2) := by decide +kernel
theorem dL_encloses_162 : decode cL_encloses 162 = .ok (.iinc 5 1, 3) := by decide +kernel
theorem dL_encloses_165 : decode cL_encloses 165 = .ok (.goto (-149), 3) := by decide +kernel
theorem dL_encloses_168 : decode cL_encloses 168 = .ok (.goto (-163), 3) := by decide +kernel
theorem dL_encloses_171 : decode cL_encloses 171 = .ok (.iconst 0, 1) := by decide +kernel
theorem dL_encloses_172 : decode cL_encloses 172 = .ok (.istore 5, 2) := by decide +kernel
theorem dL_encloses_174 : decode cL_encloses 174 = .ok (.iconst 0, 1) := by decide +kernel
theorem dL_encloses_175 : decode cL_encloses 175 = .ok (.istore 6, 2) := by decide +kernel
theorem dL_encloses_177 : decode cL_encloses 177 = .ok (.iload 6, 2) := by decide +kernel
theorem dL_encloses_179 : decode cL_encloses 179 = .ok (.bipush 36, 2) := by decide +kernel
theorem dL_encloses_181 : decode cL_encloses 181 = .ok (.if_icmp .ge 48, 3) := by decide +kernel
theorem dL_encloses_184 : decode cL_encloses 184 = .ok (.iload 5, 2) := by decide +kernel
theorem dL_encloses_186 : decode cL_encloses 186 = .ok (.lload_n 2, 1) := by decide +kernel
theorem dL_encloses_187 : decode cL_encloses 187 = .ok (.iload 6, 2) := by decide +kernel
theorem dL_encloses_189 : decode cL_encloses 189 = .ok (.lshr, 1) := by decide +kernel
theorem dL_encloses_190 : decode cL_encloses 190 = .ok (.lconst 1, 1) := by decide +kernel
theorem dL_encloses_191 : decode cL_encloses 191 = .ok (.land, 1) := by decide +kernel
theorem dL_encloses_192 : decode cL_encloses 192 = .ok (.lconst 0, 1) := by decide +kernel
theorem dL_encloses_193 : decode cL_encloses 193 = .ok (.lcmp, 1) := by decide +kernel
theorem dL_encloses_194 : decode cL_encloses 194 = .ok (.ifCond .ne 25, 3) := by decide +kernel
theorem dL_encloses_197 : decode cL_encloses 197 = .ok (.aload_n 0, 1) := by decide +kernel
theorem dL_encloses_198 : decode cL_encloses 198 = .ok (.iload 6, 2) := by decide +kernel
theorem dL_encloses_200 : decode cL_encloses 200 = .ok (.bipush 6, 2) := by decide +kernel
theorem dL_encloses_202 : decode cL_encloses 202 = .ok (.idiv, 1) := by decide +kernel
theorem dL_encloses_203 : decode cL_encloses 203 = .ok (.iload 6, 2) := by decide +kernel
theorem dL_encloses_205 : decode cL_encloses 205 = .ok (.bipush 6, 2) := by decide +kernel
theorem dL_encloses_207 : decode cL_encloses 207 = .ok (.irem, 1) := by decide +kernel
theorem dL_encloses_208 : decode cL_encloses 208 = .ok (.invokestatic 81, 3) := by decide +kernel
theorem dL_encloses_211 : decode cL_encloses 211 = .ok (.iload_n 1, 1) := by decide +kernel
theorem dL_encloses_212 : decode cL_encloses 212 = .ok (.if_icmp .eq 7, 3) := by decide +kernel
theorem dL_encloses_215 : decode cL_encloses 215 = .ok (.iconst 1, 1) := by decide +kernel
theorem dL_encloses_216 : decode cL_encloses 216 = .ok (.goto 4, 3) := by decide +kernel
theorem dL_encloses_219 : decode cL_encloses 219 = .ok (.iconst 0, 1) := by decide +kernel
theorem dL_encloses_220 : decode cL_encloses 220 = .ok (.iadd, 1) := by decide +kernel
theorem dL_encloses_221 : decode cL_encloses 221 = .ok (.istore 5, 2) := by decide +kernel
theorem dL_encloses_223 : decode cL_encloses 223 = .ok (.iinc 6 1, 3) := by decide +kernel
theorem dL_encloses_226 : decode cL_encloses 226 = .ok (.goto (-49), 3) := by decide +kernel
