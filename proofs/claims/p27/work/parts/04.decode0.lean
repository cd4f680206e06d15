theorem dX0_init_0 : decode cX0_init 0 = .ok (.aload_n 0, 1) := by decide +kernel
theorem dX0_init_1 : decode cX0_init 1 = .ok (.invokespecial 3, 3) := by decide +kernel
theorem dX0_init_4 : decode cX0_init 4 = .ok (.aload_n 0, 1) := by decide +kernel
theorem dX0_init_5 : decode cX0_init 5 = .ok (.bipush 10, 2) := by decide +kernel
theorem dX0_init_7 : decode cX0_init 7 = .ok (.newarray .long, 2) := by decide +kernel
theorem dX0_init_9 : decode cX0_init 9 = .ok (.putfield 9, 3) := by decide +kernel
theorem dX0_init_12 : decode cX0_init 12 = .ok (.aload_n 0, 1) := by decide +kernel
theorem dX0_init_13 : decode cX0_init 13 = .ok (.iconst 0, 1) := by decide +kernel
theorem dX0_init_14 : decode cX0_init 14 = .ok (.putfield 13, 3) := by decide +kernel
theorem dX0_init_17 : decode cX0_init 17 = .ok (.aload_n 0, 1) := by decide +kernel
theorem dX0_init_18 : decode cX0_init 18 = .ok (.bipush 10, 2) := by decide +kernel
theorem dX0_init_20 : decode cX0_init 20 = .ok (.newarray .int, 2) := by decide +kernel
theorem dX0_init_22 : decode cX0_init 22 = .ok (.putfield 17, 3) := by decide +kernel
theorem dX0_init_25 : decode cX0_init 25 = .ok (.aload_n 0, 1) := by decide +kernel
theorem dX0_init_26 : decode cX0_init 26 = .ok (.bipush 10, 2) := by decide +kernel
theorem dX0_init_28 : decode cX0_init 28 = .ok (.newarray .int, 2) := by decide +kernel
theorem dX0_init_30 : decode cX0_init 30 = .ok (.putfield 21, 3) := by decide +kernel
theorem dX0_init_33 : decode cX0_init 33 = .ok (.aload_n 0, 1) := by decide +kernel
theorem dX0_init_34 : decode cX0_init 34 = .ok (.bipush 10, 2) := by decide +kernel
theorem dX0_init_36 : decode cX0_init 36 = .ok (.newarray .int, 2) := by decide +kernel
theorem dX0_init_38 : decode cX0_init 38 = .ok (.putfield 24, 3) := by decide +kernel
theorem dX0_init_41 : decode cX0_init 41 = .ok (.aload_n 0, 1) := by decide +kernel
theorem dX0_init_42 : decode cX0_init 42 = .ok (.sipush 1024, 3) := by decide +kernel
theorem dX0_init_45 : decode cX0_init 45 = .ok (.newarray .boolean, 2) := by decide +kernel
theorem dX0_init_47 : decode cX0_init 47 = .ok (.putfield 27, 3) := by decide +kernel
theorem dX0_init_50 : decode cX0_init 50 = .ok (.aload_n 0, 1) := by decide +kernel
theorem dX0_init_51 : decode cX0_init 51 = .ok (.sipush 1024, 3) := by decide +kernel
theorem dX0_init_54 : decode cX0_init 54 = .ok (.newarray .long, 2) := by decide +kernel
theorem dX0_init_56 : decode cX0_init 56 = .ok (.putfield 31, 3) := by decide +kernel
theorem dX0_init_59 : decode cX0_init 59 = .ok (.aload_n 0, 1) := by decide +kernel
theorem dX0_init_60 : decode cX0_init 60 = .ok (.bipush 10, 2) := by decide +kernel
theorem dX0_init_62 : decode cX0_init 62 = .ok (.bipush 10, 2) := by decide +kernel
theorem dX0_init_64 : decode cX0_init 64 = .ok (.multianewarray 34 2, 4) := by decide +kernel
theorem dX0_init_68 : decode cX0_init 68 = .ok (.putfield 36, 3) := by decide +kernel
theorem dX0_init_71 : decode cX0_init 71 = .ok (.return_, 1) := by decide +kernel
set_option maxRecDepth 20000 in
theorem ggX0_paint_X0_checkCell : GoodIn wsX0_paint wsX0_checkCell := goodIn_ca (goodIn_r _ [4, 5, 6] (by decide +kernel) (by decide +kernel)) (goodIn_sub (fun _ h => List.mem_cons_of_mem _ (List.mem_append_left _ (List.mem_append_right _ h))) (by decide +kernel))
set_option maxRecDepth 20000 in
theorem gX0_paint_X0_checkCell : GoodIn wsX0_paint (va_wsS RX0 39 yX0_checkCell wsX0_checkCell) := goodIn_app (goodIn_of _ (by decide +kernel)) ggX0_paint_X0_checkCell
set_option maxRecDepth 20000 in
theorem ggX0_paint_X0_checkPaint : GoodIn wsX0_paint wsX0_checkPaint := goodIn_ca (goodIn_r _ [9, 10, 11] (by decide +kernel) (by decide +kernel)) (goodIn_sub (fun _ h => List.mem_cons_of_mem _ (List.mem_append_right _ h)) (by decide +kernel))
set_option maxRecDepth 20000 in
theorem gX0_paint_X0_checkPaint : GoodIn wsX0_paint (va_wsS RX0 43 yX0_checkPaint wsX0_checkPaint) := goodIn_app (goodIn_of _ (by decide +kernel)) ggX0_paint_X0_checkPaint
set_option maxRecDepth 20000 in
theorem ggX0_paint_X0_block : GoodIn wsX0_paint wsX0_block := goodIn_r _ [14] (by decide +kernel) (by decide +kernel)
set_option maxRecDepth 20000 in
theorem gX0_paint_X0_block : GoodIn wsX0_paint (va_wsS RX0 47 yX0_block wsX0_block) := goodIn_app (goodIn_of _ (by decide +kernel)) ggX0_paint_X0_block
set_option maxRecDepth 20000 in
theorem ggX0_paint_X0_ownerOf : GoodIn wsX0_paint wsX0_ownerOf := goodIn_r _ [18, 19, 53, 54, 55, 56, 57, 58, 59, 60] (by decide +kernel) (by decide +kernel)
set_option maxRecDepth 20000 in
theorem gX0_paint_X0_ownerOf : GoodIn wsX0_paint (wsV RX0 51 RX0 yX0_ownerOf wsX0_ownerOf) := goodIn_app (goodIn_of _ (by decide +kernel)) ggX0_paint_X0_ownerOf
set_option maxRecDepth 20000 in
theorem ggX0_paint_X0_cover : GoodIn wsX0_paint wsX0_cover := goodIn_r _ [23, 19, 24, 25, 26, 27, 3, 28, 29, 30, 31, 32, 33, 34, 35, 36, 37, 38, 39, 40, 41, 42, 43, 44, 45, 46, 47, 48, 49, 50, 51, 52, 53, 54, 55, 56, 57, 58, 59, 60] (by decide +kernel) (by decide +kernel)
set_option maxRecDepth 20000 in
theorem gX0_paint_X0_cover : GoodIn wsX0_paint (wsV RX0 55 RX0 yX0_cover wsX0_cover) := goodIn_app (goodIn_of _ (by decide +kernel)) ggX0_paint_X0_cover
theorem dX0_paint_0 : decode cX0_paint 0 = .ok (.iload_n 1, 1) := by decide +kernel
theorem dX0_paint_1 : decode cX0_paint 1 = .ok (.iload_n 2, 1) := by decide +kernel
theorem dX0_paint_2 : decode cX0_paint 2 = .ok (.invokestatic 39, 3) := by decide +kernel
theorem dX0_paint_5 : decode cX0_paint 5 = .ok (.iload_n 3, 1) := by decide +kernel
theorem dX0_paint_6 : decode cX0_paint 6 = .ok (.invokestatic 43, 3) := by decide +kernel
theorem dX0_paint_9 : decode cX0_paint 9 = .ok (.iload_n 1, 1) := by decide +kernel
theorem dX0_paint_10 : decode cX0_paint 10 = .ok (.iload_n 2, 1) := by decide +kernel
theorem dX0_paint_11 : decode cX0_paint 11 = .ok (.iload_n 1, 1) := by decide +kernel
theorem dX0_paint_12 : decode cX0_paint 12 = .ok (.iload_n 2, 1) := by decide +kernel
theorem dX0_paint_13 : decode cX0_paint 13 = .ok (.invokestatic 47, 3) := by decide +kernel
theorem dX0_paint_16 : decode cX0_paint 16 = .ok (.lstore 4, 2) := by decide +kernel
theorem dX0_paint_18 : decode cX0_paint 18 = .ok (.aload_n 0, 1) := by decide +kernel
theorem dX0_paint_19 : decode cX0_paint 19 = .ok (.lload 4, 2) := by decide +kernel
theorem dX0_paint_21 : decode cX0_paint 21 = .ok (.invokevirtual 51, 3) := by decide +kernel
theorem dX0_paint_24 : decode cX0_paint 24 = .ok (.istore 6, 2) := by decide +kernel
theorem dX0_paint_26 : decode cX0_paint 26 = .ok (.aload_n 0, 1) := by decide +kernel
theorem dX0_paint_27 : decode cX0_paint 27 = .ok (.lload 4, 2) := by decide +kernel
theorem dX0_paint_29 : decode cX0_paint 29 = .ok (.iload_n 3, 1) := by decide +kernel
theorem dX0_paint_30 : decode cX0_paint 30 = .ok (.invokevirtual 55, 3) := by decide +kernel
theorem dX0_paint_33 : decode cX0_paint 33 = .ok (.iload 6, 2) := by decide +kernel
theorem dX0_paint_35 : decode cX0_paint 35 = .ok (.ireturn, 1) := by decide +kernel
set_option maxRecDepth 20000 in
theorem ggX0_paintBlock_X0_checkCell : GoodIn wsX0_paintBlock wsX0_checkCell := goodIn_ca (goodIn_r _ [7, 8, 9] (by decide +kernel) (by decide +kernel)) (goodIn_sub (fun _ h => List.mem_cons_of_mem _ (List.mem_append_right _ h)) (by decide +kernel))
set_option maxRecDepth 20000 in
theorem gX0_paintBlock_X0_checkCell : GoodIn wsX0_paintBlock (va_wsS RX0 39 yX0_checkCell wsX0_checkCell) := goodIn_app (goodIn_of _ (by decide +kernel)) ggX0_paintBlock_X0_checkCell
set_option maxRecDepth 20000 in
theorem ggX0_paintBlock_X0_checkPaint : GoodIn wsX0_paintBlock wsX0_checkPaint := goodIn_ca (goodIn_r _ [12, 1, 2] (by decide +kernel) (by decide +kernel)) (goodIn_sub (fun _ h => List.mem_cons_of_mem _ (List.mem_append_left _ (List.mem_append_right _ h))) (by decide +kernel))
set_option maxRecDepth 20000 in
theorem gX0_paintBlock_X0_checkPaint : GoodIn wsX0_paintBlock (va_wsS RX0 43 yX0_checkPaint wsX0_checkPaint) := goodIn_app (goodIn_of _ (by decide +kernel)) ggX0_paintBlock_X0_checkPaint
set_option maxRecDepth 20000 in
theorem ggX0_paintBlock_X0_block : GoodIn wsX0_paintBlock wsX0_block := goodIn_r _ [15] (by decide +kernel) (by decide +kernel)
set_option maxRecDepth 20000 in
theorem gX0_paintBlock_X0_block : GoodIn wsX0_paintBlock (va_wsS RX0 47 yX0_block wsX0_block) := goodIn_app (goodIn_of _ (by decide +kernel)) ggX0_paintBlock_X0_block
set_option maxRecDepth 20000 in
theorem ggX0_paintBlock_X0_cellsOf : GoodIn wsX0_paintBlock wsX0_cellsOf := goodIn_r _ [19, 20, 21, 3, 60, 61, 62, 63, 64, 65, 66, 67] (by decide +kernel) (by decide +kernel)
set_option maxRecDepth 20000 in
theorem gX0_paintBlock_X0_cellsOf : GoodIn wsX0_paintBlock (wsV RX0 66 RX0 yX0_cellsOf wsX0_cellsOf) := goodIn_app (goodIn_of _ (by decide +kernel)) ggX0_paintBlock_X0_cellsOf
set_option maxRecDepth 20000 in
theorem ggX0_paintBlock_J13_bitCount_95d88 : GoodIn wsX0_paintBlock wsJ13_bitCount_95d88 := goodIn_r _ [25, 26, 27, 28] (by decide +kernel) (by decide +kernel)
set_option maxRecDepth 20000 in
theorem gX0_paintBlock_J13_bitCount_95d88 : GoodIn wsX0_paintBlock (va_wsS RX0 72 yJ13_bitCount_95d88 wsJ13_bitCount_95d88) := goodIn_app (goodIn_of _ (by decide +kernel)) ggX0_paintBlock_J13_bitCount_95d88
set_option maxRecDepth 20000 in
theorem ggX0_paintBlock_X0_cover : GoodIn wsX0_paintBlock wsX0_cover := goodIn_r _ [32, 20, 3, 33, 34, 35, 6, 36, 37, 38, 39, 40, 41, 42, 43, 44, 45, 46, 47, 21, 48, 49, 50, 51, 52, 53, 54, 55, 56, 57, 58, 59, 60, 61, 62, 63, 64, 65, 66, 67] (by decide +kernel) (by decide +kernel)
set_option maxRecDepth 20000 in
theorem gX0_paintBlock_X0_cover : GoodIn wsX0_paintBlock (wsV RX0 55 RX0 yX0_cover wsX0_cover) := goodIn_app (goodIn_of _ (by decide +kernel)) ggX0_paintBlock_X0_cover
theorem dX0_paintBlock_0 : decode cX0_paintBlock 0 = .ok (.iload_n 1, 1) := by decide +kernel
theorem dX0_paintBlock_1 : decode cX0_paintBlock 1 = .ok (.iload_n 2, 1) := by decide +kernel
theorem dX0_paintBlock_2 : decode cX0_paintBlock 2 = .ok (.invokestatic 39, 3) := by decide +kernel
theorem dX0_paintBlock_5 : decode cX0_paintBlock 5 = .ok (.iload_n 3, 1) := by decide +kernel
theorem dX0_paintBlock_6 : decode cX0_paintBlock 6 = .ok (.iload 4, 2) := by decide +kernel
theorem dX0_paintBlock_8 : decode cX0_paintBlock 8 = .ok (.invokestatic 39, 3) := by decide +kernel
theorem dX0_paintBlock_11 : decode cX0_paintBlock 11 = .ok (.iload 5, 2) := by decide +kernel
theorem dX0_paintBlock_13 : decode cX0_paintBlock 13 = .ok (.invokestatic 43, 3) := by decide +kernel
theorem dX0_paintBlock_16 : decode cX0_paintBlock 16 = .ok (.iload_n 3, 1) := by decide +kernel
theorem dX0_paintBlock_17 : decode cX0_paintBlock 17 = .ok (.iload_n 1, 1) := by decide +kernel
theorem dX0_paintBlock_18 : decode cX0_paintBlock 18 = .ok (.if_icmp .lt 9, 3) := by decide +kernel
theorem dX0_paintBlock_21 : decode cX0_paintBlock 21 = .ok (.iload 4, 2) := by decide +kernel
theorem dX0_paintBlock_23 : decode cX0_paintBlock 23 = .ok (.iload_n 2, 1) := by decide +kernel
theorem dX0_paintBlock_24 : decode cX0_paintBlock 24 = .ok (.if_icmp .ge 13, 3) := by decide +kernel
theorem dX0_paintBlock_27 : decode cX0_paintBlock 27 = .ok (.new 59, 3) := by decide +kernel
theorem dX0_paintBlock_30 : decode cX0_paintBlock 30 = .ok (.dup, 1) := by decide +kernel
theorem dX0_paintBlock_31 : decode cX0_paintBlock 31 = .ok (.ldc 61, 2) := by decide +kernel
theorem dX0_paintBlock_33 : decode cX0_paintBlock 33 = .ok (.invokespecial 63, 3) := by decide +kernel
theorem dX0_paintBlock_36 : decode cX0_paintBlock 36 = .ok (.athrow, 1) := by decide +kernel
theorem dX0_paintBlock_37 : decode cX0_paintBlock 37 = .ok (.iload_n 1, 1) := by decide +kernel
theorem dX0_paintBlock_38 : decode cX0_paintBlock 38 = .ok (.iload_n 2, 1) := by decide +kernel
theorem dX0_paintBlock_39 : decode cX0_paintBlock 39 = .ok (.iload_n 3, 1) := by decide +kernel
theorem dX0_paintBlock_40 : decode cX0_paintBlock 40 = .ok (.iload 4, 2) := by decide +kernel
theorem dX0_paintBlock_42 : decode cX0_paintBlock 42 = .ok (.invokestatic 47, 3) := by decide +kernel
theorem dX0_paintBlock_45 : decode cX0_paintBlock 45 = .ok (.lstore 6, 2) := by decide +kernel
theorem dX0_paintBlock_47 : decode cX0_paintBlock 47 = .ok (.lload 6, 2) := by decide +kernel
theorem dX0_paintBlock_49 : decode cX0_paintBlock 49 = .ok (.aload_n 0, 1) := by decide +kernel
theorem dX0_paintBlock_50 : decode cX0_paintBlock 50 = .ok (.iload 5, 2) := by decide +kernel
theorem dX0_paintBlock_52 : decode cX0_paintBlock 52 = .ok (.invokevirtual 66, 3) := by decide +kernel
theorem dX0_paintBlock_55 : decode cX0_paintBlock 55 = .ok (.ldc2_w 70, 3) := by decide +kernel
theorem dX0_paintBlock_58 : decode cX0_paintBlock 58 = .ok (.lxor, 1) := by decide +kernel
theorem dX0_paintBlock_59 : decode cX0_paintBlock 59 = .ok (.land, 1) := by decide +kernel
theorem dX0_paintBlock_60 : decode cX0_paintBlock 60 = .ok (.invokestatic 72, 3) := by decide +kernel
theorem dX0_paintBlock_63 : decode cX0_paintBlock 63 = .ok (.istore 8, 2) := by decide +kernel
theorem dX0_paintBlock_65 : decode cX0_paintBlock 65 = .ok (.aload_n 0, 1) := by decide +kernel
theorem dX0_paintBlock_66 : decode cX0_paintBlock 66 = .ok (.lload 6, 2) := by decide +kernel
theorem dX0_paintBlock_68 : decode cX0_paintBlock 68 = .ok (.iload 5, 2) := by decide +kernel
theorem dX0_paintBlock_70 : decode cX0_paintBlock 70 = .ok (.invokevirtual 55, 3) := by decide +kernel
theorem dX0_paintBlock_73 : decode cX0_paintBlock 73 = .ok (.iload 8, 2) := by decide +kernel
theorem dX0_paintBlock_75 : decode cX0_paintBlock 75 = .ok (.ireturn, 1) := by decide +kernel
set_option maxRecDepth 20000 in
theorem ggX0_countryAt_X0_checkCell : GoodIn wsX0_countryAt wsX0_checkCell := goodIn_ca (goodIn_r _ [4, 5, 6] (by decide +kernel) (by decide +kernel)) (goodIn_sub (fun _ h => List.mem_cons_of_mem _ (List.mem_append_right _ h)) (by decide +kernel))
set_option maxRecDepth 20000 in
theorem gX0_countryAt_X0_checkCell : GoodIn wsX0_countryAt (va_wsS RX0 39 yX0_checkCell wsX0_checkCell) := goodIn_app (goodIn_of _ (by decide +kernel)) ggX0_countryAt_X0_checkCell
set_option maxRecDepth 20000 in
theorem ggX0_countryAt_X0_block : GoodIn wsX0_countryAt wsX0_block := goodIn_r _ [9] (by decide +kernel) (by decide +kernel)
set_option maxRecDepth 20000 in
theorem gX0_countryAt_X0_block : GoodIn wsX0_countryAt (va_wsS RX0 47 yX0_block wsX0_block) := goodIn_app (goodIn_of _ (by decide +kernel)) ggX0_countryAt_X0_block
set_option maxRecDepth 20000 in
theorem ggX0_countryAt_X0_ownerOf : GoodIn wsX0_countryAt wsX0_ownerOf := goodIn_r _ [13, 14, 15, 16, 17, 18, 19, 20, 21, 22] (by decide +kernel) (by decide +kernel)
set_option maxRecDepth 20000 in
theorem gX0_countryAt_X0_ownerOf : GoodIn wsX0_countryAt (wsV RX0 51 RX0 yX0_ownerOf wsX0_ownerOf) := goodIn_app (goodIn_of _ (by decide +kernel)) ggX0_countryAt_X0_ownerOf
theorem dX0_countryAt_0 : decode cX0_countryAt 0 = .ok (.iload_n 1, 1) := by decide +kernel
theorem dX0_countryAt_1 : decode cX0_countryAt 1 = .ok (.iload_n 2, 1) := by decide +kernel
theorem dX0_countryAt_2 : decode cX0_countryAt 2 = .ok (.invokestatic 39, 3) := by decide +kernel
theorem dX0_countryAt_5 : decode cX0_countryAt 5 = .ok (.aload_n 0, 1) := by decide +kernel
theorem dX0_countryAt_6 : decode cX0_countryAt 6 = .ok (.iload_n 1, 1) := by decide +kernel
theorem dX0_countryAt_7 : decode cX0_countryAt 7 = .ok (.iload_n 2, 1) := by decide +kernel
theorem dX0_countryAt_8 : decode cX0_countryAt 8 = .ok (.iload_n 1, 1) := by decide +kernel
theorem dX0_countryAt_9 : decode cX0_countryAt 9 = .ok (.iload_n 2, 1) := by decide +kernel
theorem dX0_countryAt_10 : decode cX0_countryAt 10 = .ok (.invokestatic 47, 3) := by decide +kernel
theorem dX0_countryAt_13 : decode cX0_countryAt 13 = .ok (.invokevirtual 51, 3) := by decide +kernel
theorem dX0_countryAt_16 : decode cX0_countryAt 16 = .ok (.ireturn, 1) := by decide +kernel
set_option maxRecDepth 20000 in
theorem ggX0_countries_J6_bitCount_0f7a4 : GoodIn wsX0_countries wsJ6_bitCount_0f7a4 := goodIn_r _ [5, 6, 7, 8] (by decide +kernel) (by decide +kernel)
set_option maxRecDepth 20000 in
theorem gX0_countries_J6_bitCount_0f7a4 : GoodIn wsX0_countries (va_wsS RX0 77 yJ6_bitCount_0f7a4 wsJ6_bitCount_0f7a4) := goodIn_app (goodIn_of _ (by decide +kernel)) ggX0_countries_J6_bitCount_0f7a4
theorem dX0_countries_0 : decode cX0_countries 0 = .ok (.aload_n 0, 1) := by decide +kernel
theorem dX0_countries_1 : decode cX0_countries 1 = .ok (.getfield 13, 3) := by decide +kernel
theorem dX0_countries_4 : decode cX0_countries 4 = .ok (.invokestatic 77, 3) := by decide +kernel
theorem dX0_countries_7 : decode cX0_countries 7 = .ok (.ireturn, 1) := by decide +kernel
set_option maxRecDepth 20000 in
theorem ggX0_area_X0_checkCountry : GoodIn wsX0_area wsX0_checkCountry := goodIn_ca (goodIn_r _ [5, 6, 7] (by decide +kernel) (by decide +kernel)) (goodIn_sub (fun _ h => List.mem_cons_of_mem _ (List.mem_append_right _ h)) (by decide +kernel))
set_option maxRecDepth 20000 in
theorem gX0_area_X0_checkCountry : GoodIn wsX0_area (va_wsS RX0 82 yX0_checkCountry wsX0_checkCountry) := goodIn_app (goodIn_of _ (by decide +kernel)) ggX0_area_X0_checkCountry
set_option maxRecDepth 20000 in
theorem ggX0_area_J13_bitCount_95d88 : GoodIn wsX0_area wsJ13_bitCount_95d88 := goodIn_r _ [11, 12, 13, 14] (by decide +kernel) (by decide +kernel)
set_option maxRecDepth 20000 in
theorem gX0_area_J13_bitCount_95d88 : GoodIn wsX0_area (va_wsS RX0 72 yJ13_bitCount_95d88 wsJ13_bitCount_95d88) := goodIn_app (goodIn_of _ (by decide +kernel)) ggX0_area_J13_bitCount_95d88
theorem dX0_area_0 : decode cX0_area 0 = .ok (.iload_n 1, 1) := by decide +kernel
theorem dX0_area_1 : decode cX0_area 1 = .ok (.invokestatic 82, 3) := by decide +kernel
theorem dX0_area_4 : decode cX0_area 4 = .ok (.aload_n 0, 1) := by decide +kernel
theorem dX0_area_5 : decode cX0_area 5 = .ok (.getfield 9, 3) := by decide +kernel
theorem dX0_area_8 : decode cX0_area 8 = .ok (.iload_n 1, 1) := by decide +kernel
theorem dX0_area_9 : decode cX0_area 9 = .ok (.laload, 1) := by decide +kernel
theorem dX0_area_10 : decode cX0_area 10 = .ok (.invokestatic 72, 3) := by decide +kernel
theorem dX0_area_13 : decode cX0_area 13 = .ok (.ireturn, 1) := by decide +kernel
set_option maxRecDepth 20000 in
theorem ggX0_pieces_X0_checkCountry : GoodIn wsX0_pieces wsX0_checkCountry := goodIn_ca (goodIn_r _ [5, 6, 7] (by decide +kernel) (by decide +kernel)) (goodIn_sub (fun _ h => List.mem_cons_of_mem _ (List.mem_append_right _ h)) (by decide +kernel))
set_option maxRecDepth 20000 in
theorem gX0_pieces_X0_checkCountry : GoodIn wsX0_pieces (va_wsS RX0 82 yX0_checkCountry wsX0_checkCountry) := goodIn_app (goodIn_of _ (by decide +kernel)) ggX0_pieces_X0_checkCountry
set_option maxRecDepth 20000 in
theorem ggX0_pieces_X0_countPieces : GoodIn wsX0_pieces wsX0_countPieces := goodIn_r _ [10, 11, 12, 13, 4, 14, 15, 16, 17, 18, 19, 20, 21, 22, 23, 24, 25, 26, 27, 28, 29, 30, 31, 32, 33, 34, 35] (by decide +kernel) (by decide +kernel)
set_option maxRecDepth 20000 in
theorem gX0_pieces_X0_countPieces : GoodIn wsX0_pieces (va_wsS RX0 85 yX0_countPieces wsX0_countPieces) := goodIn_app (goodIn_of _ (by decide +kernel)) ggX0_pieces_X0_countPieces
theorem dX0_pieces_0 : decode cX0_pieces 0 = .ok (.iload_n 1, 1) := by decide +kernel
theorem dX0_pieces_1 : decode cX0_pieces 1 = .ok (.invokestatic 82, 3) := by decide +kernel
theorem dX0_pieces_4 : decode cX0_pieces 4 = .ok (.aload_n 0, 1) := by decide +kernel
theorem dX0_pieces_5 : decode cX0_pieces 5 = .ok (.getfield 9, 3) := by decide +kernel
theorem dX0_pieces_8 : decode cX0_pieces 8 = .ok (.iload_n 1, 1) := by decide +kernel
theorem dX0_pieces_9 : decode cX0_pieces 9 = .ok (.laload, 1) := by decide +kernel
theorem dX0_pieces_10 : decode cX0_pieces 10 = .ok (.invokestatic 85, 3) := by decide +kernel
theorem dX0_pieces_13 : decode cX0_pieces 13 = .ok (.ireturn, 1) := by decide +kernel
set_option maxRecDepth 20000 in
theorem ggX0_largestPiece_X0_checkCountry : GoodIn wsX0_largestPiece wsX0_checkCountry := goodIn_ca (goodIn_r _ [10, 11, 12] (by decide +kernel) (by decide +kernel)) (goodIn_sub (fun _ h => List.mem_cons_of_mem _ (List.mem_append_right _ h)) (by decide +kernel))
set_option maxRecDepth 20000 in
theorem gX0_largestPiece_X0_checkCountry : GoodIn wsX0_largestPiece (va_wsS RX0 82 yX0_checkCountry wsX0_checkCountry) := goodIn_app (goodIn_of _ (by decide +kernel)) ggX0_largestPiece_X0_checkCountry
set_option maxRecDepth 20000 in
theorem ggX0_largestPiece_X0_pieceIn : GoodIn wsX0_largestPiece wsX0_pieceIn := goodIn_r _ [15, 16, 17, 9, 18, 19, 20, 21, 22, 23, 24, 25, 26, 27, 28, 29, 30, 31, 32, 33, 34, 35, 36] (by decide +kernel) (by decide +kernel)
set_option maxRecDepth 20000 in
theorem gX0_largestPiece_X0_pieceIn : GoodIn wsX0_largestPiece (va_wsS RX0 88 yX0_pieceIn wsX0_pieceIn) := goodIn_app (goodIn_of _ (by decide +kernel)) ggX0_largestPiece_X0_pieceIn
set_option maxRecDepth 20000 in
theorem ggX0_largestPiece_J13_bitCount_95d88 : GoodIn wsX0_largestPiece wsJ13_bitCount_95d88 := goodIn_r _ [40, 41, 42, 43] (by decide +kernel) (by decide +kernel)
set_option maxRecDepth 20000 in
theorem gX0_largestPiece_J13_bitCount_95d88 : GoodIn wsX0_largestPiece (va_wsS RX0 72 yJ13_bitCount_95d88 wsJ13_bitCount_95d88) := goodIn_app (goodIn_of _ (by decide +kernel)) ggX0_largestPiece_J13_bitCount_95d88
theorem dX0_largestPiece_0 : decode cX0_largestPiece 0 = .ok (.iload_n 1, 1) := by decide +kernel
theorem dX0_largestPiece_1 : decode cX0_largestPiece 1 = .ok (.invokestatic 82, 3) := by decide +kernel
theorem dX0_largestPiece_4 : decode cX0_largestPiece 4 = .ok (.iconst 0, 1) := by decide +kernel
theorem dX0_largestPiece_5 : decode cX0_largestPiece 5 = .ok (.istore_n 2, 1) := by decide +kernel
theorem dX0_largestPiece_6 : decode cX0_largestPiece 6 = .ok (.aload_n 0, 1) := by decide +kernel
theorem dX0_largestPiece_7 : decode cX0_largestPiece 7 = .ok (.getfield 9, 3) := by decide +kernel
theorem dX0_largestPiece_10 : decode cX0_largestPiece 10 = .ok (.iload_n 1, 1) := by decide +kernel
theorem dX0_largestPiece_11 : decode cX0_largestPiece 11 = .ok (.laload, 1) := by decide +kernel
theorem dX0_largestPiece_12 : decode cX0_largestPiece 12 = .ok (.lstore_n 3, 1) := by decide +kernel
theorem dX0_largestPiece_13 : decode cX0_largestPiece 13 = .ok (.iconst 0, 1) := by decide +kernel
theorem dX0_largestPiece_14 : decode cX0_largestPiece 14 = .ok (.istore 5, 2) := by decide +kernel
theorem dX0_largestPiece_16 : decode cX0_largestPiece 16 = .ok (.iload 5, 2) := by decide +kernel
theorem dX0_largestPiece_18 : decode cX0_largestPiece 18 = .ok (.bipush 36, 2) := by decide +kernel
theorem dX0_largestPiece_20 : decode cX0_largestPiece 20 = .ok (.if_icmp .ge 40, 3) := by decide +kernel
theorem dX0_largestPiece_23 : decode cX0_largestPiece 23 = .ok (.lload_n 3, 1) := by decide +kernel
theorem dX0_largestPiece_24 : decode cX0_largestPiece 24 = .ok (.lconst 0, 1) := by decide +kernel
theorem dX0_largestPiece_25 : decode cX0_largestPiece 25 = .ok (.lcmp, 1) := by decide +kernel
theorem dX0_largestPiece_26 : decode cX0_largestPiece 26 = .ok (.ifCond .eq 34, 3) := by decide +kernel
theorem dX0_largestPiece_29 : decode cX0_largestPiece 29 = .ok (.lload_n 3, 1) := by decide +kernel
theorem dX0_largestPiece_30 : decode cX0_largestPiece 30 = .ok (.invokestatic 88, 3) := by decide +kernel
theorem dX0_largestPiece_33 : decode cX0_largestPiece 33 = .ok (.lstore 6, 2) := by decide +kernel
theorem dX0_largestPiece_35 : decode cX0_largestPiece 35 = .ok (.iload_n 2, 1) := by decide +kernel
theorem dX0_largestPiece_36 : decode cX0_largestPiece 36 = .ok (.lload 6, 2) := by decide +kernel
theorem dX0_largestPiece_38 : decode cX0_largestPiece 38 = .ok (.invokestatic 72, 3) := by decide +kernel
theorem dX0_largestPiece_41 : decode cX0_largestPiece 41 = .ok (.invokestatic 92, 3) := by decide +kernel
theorem dX0_largestPiece_44 : decode cX0_largestPiece 44 = .ok (.istore_n 2, 1) := by decide +kernel
theorem dX0_largestPiece_45 : decode cX0_largestPiece 45 = .ok (.lload_n 3, 1) := by decide +kernel
theorem dX0_largestPiece_46 : decode cX0_largestPiece 46 = .ok (.lload 6, 2) := by decide +kernel
theorem dX0_largestPiece_48 : decode cX0_largestPiece 48 = .ok (.ldc2_w 70, 3) := by decide +kernel
theorem dX0_largestPiece_51 : decode cX0_largestPiece 51 = .ok (.lxor, 1) := by decide +kernel
theorem dX0_largestPiece_52 : decode cX0_largestPiece 52 = .ok (.land, 1) := by decide +kernel
theorem dX0_largestPiece_53 : decode cX0_largestPiece 53 = .ok (.lstore_n 3, 1) := by decide +kernel
theorem dX0_largestPiece_54 : decode cX0_largestPiece 54 = .ok (.iinc 5 1, 3) := by decide +kernel
theorem dX0_largestPiece_57 : decode cX0_largestPiece 57 = .ok (.goto (-41), 3) := by decide +kernel
theorem dX0_largestPiece_60 : decode cX0_largestPiece 60 = .ok (.iload_n 2, 1) := by decide +kernel
theorem dX0_largestPiece_61 : decode cX0_largestPiece 61 = .ok (.ireturn, 1) := by decide +kernel
set_option maxRecDepth 20000 in
theorem ggX0_neighbours_X0_checkCountry : GoodIn wsX0_neighbours wsX0_checkCountry := goodIn_ca (goodIn_r _ [5, 6, 7] (by decide +kernel) (by decide +kernel)) (goodIn_sub (fun _ h => List.mem_cons_of_mem _ (List.mem_append_right _ h)) (by decide +kernel))
set_option maxRecDepth 20000 in
theorem gX0_neighbours_X0_checkCountry : GoodIn wsX0_neighbours (va_wsS RX0 82 yX0_checkCountry wsX0_checkCountry) := goodIn_app (goodIn_of _ (by decide +kernel)) ggX0_neighbours_X0_checkCountry
set_option maxRecDepth 20000 in
theorem ggX0_neighbours_J6_bitCount_0f7a4 : GoodIn wsX0_neighbours wsJ6_bitCount_0f7a4 := goodIn_r _ [11, 12, 13, 14] (by decide +kernel) (by decide +kernel)
set_option maxRecDepth 20000 in
theorem gX0_neighbours_J6_bitCount_0f7a4 : GoodIn wsX0_neighbours (va_wsS RX0 77 yJ6_bitCount_0f7a4 wsJ6_bitCount_0f7a4) := goodIn_app (goodIn_of _ (by decide +kernel)) ggX0_neighbours_J6_bitCount_0f7a4
theorem dX0_neighbours_0 : decode cX0_neighbours 0 = .ok (.iload_n 1, 1) := by decide +kernel
theorem dX0_neighbours_1 : decode cX0_neighbours 1 = .ok (.invokestatic 82, 3) := by decide +kernel
theorem dX0_neighbours_4 : decode cX0_neighbours 4 = .ok (.aload_n 0, 1) := by decide +kernel
theorem dX0_neighbours_5 : decode cX0_neighbours 5 = .ok (.getfield 17, 3) := by decide +kernel
theorem dX0_neighbours_8 : decode cX0_neighbours 8 = .ok (.iload_n 1, 1) := by decide +kernel
theorem dX0_neighbours_9 : decode cX0_neighbours 9 = .ok (.iaload, 1) := by decide +kernel
theorem dX0_neighbours_10 : decode cX0_neighbours 10 = .ok (.invokestatic 77, 3) := by decide +kernel
theorem dX0_neighbours_13 : decode cX0_neighbours 13 = .ok (.ireturn, 1) := by decide +kernel
set_option maxRecDepth 20000 in
theorem ggX0_border_X0_checkCountry : GoodIn wsX0_border wsX0_checkCountry := goodIn_ca (goodIn_r _ [5, 6, 7] (by decide +kernel) (by decide +kernel)) (goodIn_sub (fun _ h => List.mem_cons_of_mem _ (List.mem_append_right _ h)) (by decide +kernel))
set_option maxRecDepth 20000 in
theorem gX0_border_X0_checkCountry : GoodIn wsX0_border (va_wsS RX0 82 yX0_checkCountry wsX0_checkCountry) := goodIn_app (goodIn_of _ (by decide +kernel)) ggX0_border_X0_checkCountry
set_option maxRecDepth 20000 in
theorem ggX0_border_X0_above : GoodIn wsX0_border wsX0_above := goodIn_r _ [10] (by decide +kernel) (by decide +kernel)
set_option maxRecDepth 20000 in
theorem gX0_border_X0_above : GoodIn wsX0_border (va_wsS RX0 98 yX0_above wsX0_above) := goodIn_app (goodIn_of _ (by decide +kernel)) ggX0_border_X0_above
set_option maxRecDepth 20000 in
theorem ggX0_border_J13_bitCount_95d88 : GoodIn wsX0_border wsJ13_bitCount_95d88 := goodIn_r _ [14, 15, 16, 17] (by decide +kernel) (by decide +kernel)
set_option maxRecDepth 20000 in
theorem gX0_border_J13_bitCount_95d88 : GoodIn wsX0_border (va_wsS RX0 72 yJ13_bitCount_95d88 wsJ13_bitCount_95d88) := goodIn_app (goodIn_of _ (by decide +kernel)) ggX0_border_J13_bitCount_95d88
set_option maxRecDepth 20000 in
theorem ggX0_border_X0_below : GoodIn wsX0_border wsX0_below := goodIn_r _ [20, 21] (by decide +kernel) (by decide +kernel)
set_option maxRecDepth 20000 in
theorem gX0_border_X0_below : GoodIn wsX0_border (va_wsS RX0 101 yX0_below wsX0_below) := goodIn_app (goodIn_of _ (by decide +kernel)) ggX0_border_X0_below
set_option maxRecDepth 20000 in
theorem ggX0_border_X0_leftOf : GoodIn wsX0_border wsX0_leftOf := goodIn_r _ [24, 25] (by decide +kernel) (by decide +kernel)
set_option maxRecDepth 20000 in
theorem gX0_border_X0_leftOf : GoodIn wsX0_border (va_wsS RX0 104 yX0_leftOf wsX0_leftOf) := goodIn_app (goodIn_of _ (by decide +kernel)) ggX0_border_X0_leftOf
set_option maxRecDepth 20000 in
theorem ggX0_border_X0_rightOf : GoodIn wsX0_border wsX0_rightOf := goodIn_r _ [28, 29] (by decide +kernel) (by decide +kernel)
set_option maxRecDepth 20000 in
theorem gX0_border_X0_rightOf : GoodIn wsX0_border (va_wsS RX0 107 yX0_rightOf wsX0_rightOf) := goodIn_app (goodIn_of _ (by decide +kernel)) ggX0_border_X0_rightOf
theorem dX0_border_0 : decode cX0_border 0 = .ok (.iload_n 1, 1) := by decide +kernel
theorem dX0_border_1 : decode cX0_border 1 = .ok (.invokestatic 82, 3) := by decide +kernel
theorem dX0_border_4 : decode cX0_border 4 = .ok (.iload_n 2, 1) := by decide +kernel
theorem dX0_border_5 : decode cX0_border 5 = .ok (.invokestatic 82, 3) := by decide +kernel
theorem dX0_border_8 : decode cX0_border 8 = .ok (.iload_n 1, 1) := by decide +kernel
theorem dX0_border_9 : decode cX0_border 9 = .ok (.iload_n 2, 1) := by decide +kernel
theorem dX0_border_10 : decode cX0_border 10 = .ok (.if_icmp .ne 5, 3) := by decide +kernel
theorem dX0_border_13 : decode cX0_border 13 = .ok (.iconst 0, 1) := by decide +kernel
theorem dX0_border_14 : decode cX0_border 14 = .ok (.ireturn, 1) := by decide +kernel
theorem dX0_border_15 : decode cX0_border 15 = .ok (.aload_n 0, 1) := by decide +kernel
theorem dX0_border_16 : decode cX0_border 16 = .ok (.getfield 9, 3) := by decide +kernel
theorem dX0_border_19 : decode cX0_border 19 = .ok (.iload_n 1, 1) := by decide +kernel
theorem dX0_border_20 : decode cX0_border 20 = .ok (.laload, 1) := by decide +kernel
theorem dX0_border_21 : decode cX0_border 21 = .ok (.lstore_n 3, 1) := by decide +kernel
theorem dX0_border_22 : decode cX0_border 22 = .ok (.aload_n 0, 1) := by decide +kernel
theorem dX0_border_23 : decode cX0_border 23 = .ok (.getfield 9, 3) := by decide +kernel
theorem dX0_border_26 : decode cX0_border 26 = .ok (.iload_n 2, 1) := by decide +kernel
theorem dX0_border_27 : decode cX0_border 27 = .ok (.laload, 1) := by decide +kernel
theorem dX0_border_28 : decode cX0_border 28 = .ok (.lstore 5, 2) := by decide +kernel
theorem dX0_border_30 : decode cX0_border 30 = .ok (.lload_n 3, 1) := by decide +kernel
theorem dX0_border_31 : decode cX0_border 31 = .ok (.invokestatic 98, 3) := by decide +kernel
theorem dX0_border_34 : decode cX0_border 34 = .ok (.lload 5, 2) := by decide +kernel
theorem dX0_border_36 : decode cX0_border 36 = .ok (.land, 1) := by decide +kernel
theorem dX0_border_37 : decode cX0_border 37 = .ok (.invokestatic 72, 3) := by decide +kernel
theorem dX0_border_40 : decode cX0_border 40 = .ok (.lload_n 3, 1) := by decide +kernel
theorem dX0_border_41 : decode cX0_border 41 = .ok (.invokestatic 101, 3) := by decide +kernel
theorem dX0_border_44 : decode cX0_border 44 = .ok (.lload 5, 2) := by decide +kernel
theorem dX0_border_46 : decode cX0_border 46 = .ok (.land, 1) := by decide +kernel
theorem dX0_border_47 : decode cX0_border 47 = .ok (.invokestatic 72, 3) := by decide +kernel
theorem dX0_border_50 : decode cX0_border 50 = .ok (.iadd, 1) := by decide +kernel
theorem dX0_border_51 : decode cX0_border 51 = .ok (.lload_n 3, 1) := by decide +kernel
theorem dX0_border_52 : decode cX0_border 52 = .ok (.invokestatic 104, 3) := by decide +kernel
theorem dX0_border_55 : decode cX0_border 55 = .ok (.lload 5, 2) := by decide +kernel
theorem dX0_border_57 : decode cX0_border 57 = .ok (.land, 1) := by decide +kernel
theorem dX0_border_58 : decode cX0_border 58 = .ok (.invokestatic 72, 3) := by decide +kernel
theorem dX0_border_61 : decode cX0_border 61 = .ok (.iadd, 1) := by decide +kernel
theorem dX0_border_62 : decode cX0_border 62 = .ok (.lload_n 3, 1) := by decide +kernel
theorem dX0_border_63 : decode cX0_border 63 = .ok (.invokestatic 107, 3) := by decide +kernel
theorem dX0_border_66 : decode cX0_border 66 = .ok (.lload 5, 2) := by decide +kernel
theorem dX0_border_68 : decode cX0_border 68 = .ok (.land, 1) := by decide +kernel
theorem dX0_border_69 : decode cX0_border 69 = .ok (.invokestatic 72, 3) := by decide +kernel
theorem dX0_border_72 : decode cX0_border 72 = .ok (.iadd, 1) := by decide +kernel
theorem dX0_border_73 : decode cX0_border 73 = .ok (.ireturn, 1) := by decide +kernel
set_option maxRecDepth 20000 in
theorem ggX0_enclosed_X0_checkCountry : GoodIn wsX0_enclosed wsX0_checkCountry := goodIn_ca (goodIn_r _ [8, 9, 10] (by decide +kernel) (by decide +kernel)) (goodIn_sub (fun _ h => List.mem_cons_of_mem _ (List.mem_append_right _ h)) (by decide +kernel))
set_option maxRecDepth 20000 in
theorem gX0_enclosed_X0_checkCountry : GoodIn wsX0_enclosed (va_wsS RX0 82 yX0_checkCountry wsX0_checkCountry) := goodIn_app (goodIn_of _ (by decide +kernel)) ggX0_enclosed_X0_checkCountry
set_option maxRecDepth 20000 in
theorem ggX0_enclosed_X0_reach : GoodIn wsX0_enclosed wsX0_reach := goodIn_r _ [13, 14, 15, 7, 16, 17, 18, 19, 20, 21, 22, 1, 23, 24, 25, 26, 27, 28, 29, 30] (by decide +kernel) (by decide +kernel)
set_option maxRecDepth 20000 in
theorem gX0_enclosed_X0_reach : GoodIn wsX0_enclosed (va_wsS RX0 114 yX0_reach wsX0_reach) := goodIn_app (goodIn_of _ (by decide +kernel)) ggX0_enclosed_X0_reach
set_option maxRecDepth 20000 in
theorem ggX0_enclosed_J13_bitCount_95d88 : GoodIn wsX0_enclosed wsJ13_bitCount_95d88 := goodIn_r _ [34, 35, 36, 37] (by decide +kernel) (by decide +kernel)
set_option maxRecDepth 20000 in
theorem gX0_enclosed_J13_bitCount_95d88 : GoodIn wsX0_enclosed (va_wsS RX0 72 yJ13_bitCount_95d88 wsJ13_bitCount_95d88) := goodIn_app (goodIn_of _ (by decide +kernel)) ggX0_enclosed_J13_bitCount_95d88
theorem dX0_enclosed_0 : decode cX0_enclosed 0 = .ok (.iload_n 1, 1) := by decide +kernel
theorem dX0_enclosed_1 : decode cX0_enclosed 1 = .ok (.invokestatic 82, 3) := by decide +kernel
theorem dX0_enclosed_4 : decode cX0_enclosed 4 = .ok (.ldc2_w 110, 3) := by decide +kernel
theorem dX0_enclosed_7 : decode cX0_enclosed 7 = .ok (.aload_n 0, 1) := by decide +kernel
theorem dX0_enclosed_8 : decode cX0_enclosed 8 = .ok (.getfield 9, 3) := by decide +kernel
theorem dX0_enclosed_11 : decode cX0_enclosed 11 = .ok (.iload_n 1, 1) := by decide +kernel
theorem dX0_enclosed_12 : decode cX0_enclosed 12 = .ok (.laload, 1) := by decide +kernel
theorem dX0_enclosed_13 : decode cX0_enclosed 13 = .ok (.ldc2_w 70, 3) := by decide +kernel
theorem dX0_enclosed_16 : decode cX0_enclosed 16 = .ok (.lxor, 1) := by decide +kernel
theorem dX0_enclosed_17 : decode cX0_enclosed 17 = .ok (.land, 1) := by decide +kernel
theorem dX0_enclosed_18 : decode cX0_enclosed 18 = .ok (.lstore_n 2, 1) := by decide +kernel
theorem dX0_enclosed_19 : decode cX0_enclosed 19 = .ok (.ldc2_w 112, 3) := by decide +kernel
theorem dX0_enclosed_22 : decode cX0_enclosed 22 = .ok (.lload_n 2, 1) := by decide +kernel
theorem dX0_enclosed_23 : decode cX0_enclosed 23 = .ok (.land, 1) := by decide +kernel
theorem dX0_enclosed_24 : decode cX0_enclosed 24 = .ok (.lload_n 2, 1) := by decide +kernel
theorem dX0_enclosed_25 : decode cX0_enclosed 25 = .ok (.invokestatic 114, 3) := by decide +kernel
theorem dX0_enclosed_28 : decode cX0_enclosed 28 = .ok (.lstore 4, 2) := by decide +kernel
theorem dX0_enclosed_30 : decode cX0_enclosed 30 = .ok (.lload_n 2, 1) := by decide +kernel
theorem dX0_enclosed_31 : decode cX0_enclosed 31 = .ok (.lload 4, 2) := by decide +kernel
theorem dX0_enclosed_33 : decode cX0_enclosed 33 = .ok (.ldc2_w 70, 3) := by decide +kernel
theorem dX0_enclosed_36 : decode cX0_enclosed 36 = .ok (.lxor, 1) := by decide +kernel
theorem dX0_enclosed_37 : decode cX0_enclosed 37 = .ok (.land, 1) := by decide +kernel
theorem dX0_enclosed_38 : decode cX0_enclosed 38 = .ok (.invokestatic 72, 3) := by decide +kernel
theorem dX0_enclosed_41 : decode cX0_enclosed 41 = .ok (.ireturn, 1) := by decide +kernel
set_option maxRecDepth 20000 in
theorem ggX0_allNeighbours_X0_markSetsOfNeighbours : GoodIn wsX0_allNeighbours wsX0_markSetsOfNeighbours := goodIn_r _ [11, 1, 12, 20, 21, 22, 23, 24, 25, 26, 27] (by decide +kernel) (by decide +kernel)
set_option maxRecDepth 20000 in
theorem gX0_allNeighbours_X0_markSetsOfNeighbours : GoodIn wsX0_allNeighbours (wsV RX0 118 RX0 yX0_markSetsOfNeighbours wsX0_markSetsOfNeighbours) := goodIn_app (goodIn_of _ (by decide +kernel)) ggX0_allNeighbours_X0_markSetsOfNeighbours
set_option maxRecDepth 20000 in
theorem ggX0_allNeighbours_J6_bitCount_0f7a4 : GoodIn wsX0_allNeighbours wsJ6_bitCount_0f7a4 := goodIn_r _ [16, 17, 18, 19] (by decide +kernel) (by decide +kernel)
set_option maxRecDepth 20000 in
theorem gX0_allNeighbours_J6_bitCount_0f7a4 : GoodIn wsX0_allNeighbours (va_wsS RX0 77 yJ6_bitCount_0f7a4 wsJ6_bitCount_0f7a4) := goodIn_app (goodIn_of _ (by decide +kernel)) ggX0_allNeighbours_J6_bitCount_0f7a4
theorem dX0_allNeighbours_0 : decode cX0_allNeighbours 0 = .ok (.aload_n 0, 1) := by decide +kernel
theorem dX0_allNeighbours_1 : decode cX0_allNeighbours 1 = .ok (.invokevirtual 118, 3) := by decide +kernel
theorem dX0_allNeighbours_4 : decode cX0_allNeighbours 4 = .ok (.iconst 0, 1) := by decide +kernel
theorem dX0_allNeighbours_5 : decode cX0_allNeighbours 5 = .ok (.istore_n 1, 1) := by decide +kernel
theorem dX0_allNeighbours_6 : decode cX0_allNeighbours 6 = .ok (.iconst 0, 1) := by decide +kernel
theorem dX0_allNeighbours_7 : decode cX0_allNeighbours 7 = .ok (.istore_n 2, 1) := by decide +kernel
theorem dX0_allNeighbours_8 : decode cX0_allNeighbours 8 = .ok (.iload_n 2, 1) := by decide +kernel
theorem dX0_allNeighbours_9 : decode cX0_allNeighbours 9 = .ok (.sipush 1024, 3) := by decide +kernel
theorem dX0_allNeighbours_12 : decode cX0_allNeighbours 12 = .ok (.if_icmp .ge 38, 3) := by decide +kernel
theorem dX0_allNeighbours_15 : decode cX0_allNeighbours 15 = .ok (.aload_n 0, 1) := by decide +kernel
theorem dX0_allNeighbours_16 : decode cX0_allNeighbours 16 = .ok (.getfield 27, 3) := by decide +kernel
theorem dX0_allNeighbours_19 : decode cX0_allNeighbours 19 = .ok (.iload_n 2, 1) := by decide +kernel
theorem dX0_allNeighbours_20 : decode cX0_allNeighbours 20 = .ok (.baload, 1) := by decide +kernel
theorem dX0_allNeighbours_21 : decode cX0_allNeighbours 21 = .ok (.ifCond .eq 23, 3) := by decide +kernel
theorem dX0_allNeighbours_24 : decode cX0_allNeighbours 24 = .ok (.iload_n 2, 1) := by decide +kernel
theorem dX0_allNeighbours_25 : decode cX0_allNeighbours 25 = .ok (.aload_n 0, 1) := by decide +kernel
theorem dX0_allNeighbours_26 : decode cX0_allNeighbours 26 = .ok (.getfield 13, 3) := by decide +kernel
theorem dX0_allNeighbours_29 : decode cX0_allNeighbours 29 = .ok (.iconst (-1), 1) := by decide +kernel
theorem dX0_allNeighbours_30 : decode cX0_allNeighbours 30 = .ok (.ixor, 1) := by decide +kernel
theorem dX0_allNeighbours_31 : decode cX0_allNeighbours 31 = .ok (.iand, 1) := by decide +kernel
theorem dX0_allNeighbours_32 : decode cX0_allNeighbours 32 = .ok (.ifCond .ne 12, 3) := by decide +kernel
theorem dX0_allNeighbours_35 : decode cX0_allNeighbours 35 = .ok (.iload_n 1, 1) := by decide +kernel
theorem dX0_allNeighbours_36 : decode cX0_allNeighbours 36 = .ok (.iload_n 2, 1) := by decide +kernel
theorem dX0_allNeighbours_37 : decode cX0_allNeighbours 37 = .ok (.invokestatic 77, 3) := by decide +kernel
theorem dX0_allNeighbours_40 : decode cX0_allNeighbours 40 = .ok (.invokestatic 92, 3) := by decide +kernel
theorem dX0_allNeighbours_43 : decode cX0_allNeighbours 43 = .ok (.istore_n 1, 1) := by decide +kernel
theorem dX0_allNeighbours_44 : decode cX0_allNeighbours 44 = .ok (.iinc 2 1, 3) := by decide +kernel
theorem dX0_allNeighbours_47 : decode cX0_allNeighbours 47 = .ok (.goto (-39), 3) := by decide +kernel
theorem dX0_allNeighbours_50 : decode cX0_allNeighbours 50 = .ok (.iload_n 1, 1) := by decide +kernel
theorem dX0_allNeighbours_51 : decode cX0_allNeighbours 51 = .ok (.ireturn, 1) := by decide +kernel
set_option maxRecDepth 20000 in
theorem ggX0_tint_X0_checkCountry : GoodIn wsX0_tint wsX0_checkCountry := goodIn_ca (goodIn_r _ [5, 6, 7] (by decide +kernel) (by decide +kernel)) (goodIn_sub (fun _ h => List.mem_cons_of_mem _ (List.mem_append_left _ (List.mem_append_right _ h))) (by decide +kernel))
set_option maxRecDepth 20000 in
theorem gX0_tint_X0_checkCountry : GoodIn wsX0_tint (va_wsS RX0 82 yX0_checkCountry wsX0_checkCountry) := goodIn_app (goodIn_of _ (by decide +kernel)) ggX0_tint_X0_checkCountry
set_option maxRecDepth 20000 in
theorem ggX0_tint_X0_checkTint : GoodIn wsX0_tint wsX0_checkTint := goodIn_ca (goodIn_r _ [10, 11, 12] (by decide +kernel) (by decide +kernel)) (goodIn_sub (fun _ h => List.mem_cons_of_mem _ (List.mem_append_right _ h)) (by decide +kernel))
set_option maxRecDepth 20000 in
theorem gX0_tint_X0_checkTint : GoodIn wsX0_tint (va_wsS RX0 121 yX0_checkTint wsX0_checkTint) := goodIn_app (goodIn_of _ (by decide +kernel)) ggX0_tint_X0_checkTint
theorem dX0_tint_0 : decode cX0_tint 0 = .ok (.iload_n 1, 1) := by decide +kernel
theorem dX0_tint_1 : decode cX0_tint 1 = .ok (.invokestatic 82, 3) := by decide +kernel
theorem dX0_tint_4 : decode cX0_tint 4 = .ok (.iload_n 2, 1) := by decide +kernel
theorem dX0_tint_5 : decode cX0_tint 5 = .ok (.ifCond .eq 7, 3) := by decide +kernel
theorem dX0_tint_8 : decode cX0_tint 8 = .ok (.iload_n 2, 1) := by decide +kernel
theorem dX0_tint_9 : decode cX0_tint 9 = .ok (.invokestatic 121, 3) := by decide +kernel
theorem dX0_tint_12 : decode cX0_tint 12 = .ok (.aload_n 0, 1) := by decide +kernel
theorem dX0_tint_13 : decode cX0_tint 13 = .ok (.getfield 21, 3) := by decide +kernel
theorem dX0_tint_16 : decode cX0_tint 16 = .ok (.iload_n 1, 1) := by decide +kernel
theorem dX0_tint_17 : decode cX0_tint 17 = .ok (.iaload, 1) := by decide +kernel
theorem dX0_tint_18 : decode cX0_tint 18 = .ok (.istore_n 3, 1) := by decide +kernel
theorem dX0_tint_19 : decode cX0_tint 19 = .ok (.aload_n 0, 1) := by decide +kernel
theorem dX0_tint_20 : decode cX0_tint 20 = .ok (.getfield 21, 3) := by decide +kernel
theorem dX0_tint_23 : decode cX0_tint 23 = .ok (.iload_n 1, 1) := by decide +kernel
theorem dX0_tint_24 : decode cX0_tint 24 = .ok (.iload_n 2, 1) := by decide +kernel
theorem dX0_tint_25 : decode cX0_tint 25 = .ok (.iastore, 1) := by decide +kernel
theorem dX0_tint_26 : decode cX0_tint 26 = .ok (.iload_n 3, 1) := by decide +kernel
theorem dX0_tint_27 : decode cX0_tint 27 = .ok (.ireturn, 1) := by decide +kernel
set_option maxRecDepth 20000 in
theorem ggX0_tintOf_X0_checkCountry : GoodIn wsX0_tintOf wsX0_checkCountry := goodIn_ca (goodIn_r _ [5, 6, 7] (by decide +kernel) (by decide +kernel)) (goodIn_sub (fun _ h => List.mem_cons_of_mem _ (List.mem_append_right _ h)) (by decide +kernel))
set_option maxRecDepth 20000 in
theorem gX0_tintOf_X0_checkCountry : GoodIn wsX0_tintOf (va_wsS RX0 82 yX0_checkCountry wsX0_checkCountry) := goodIn_app (goodIn_of _ (by decide +kernel)) ggX0_tintOf_X0_checkCountry
theorem dX0_tintOf_0 : decode cX0_tintOf 0 = .ok (.iload_n 1, 1) := by decide +kernel
theorem dX0_tintOf_1 : decode cX0_tintOf 1 = .ok (.invokestatic 82, 3) := by decide +kernel
theorem dX0_tintOf_4 : decode cX0_tintOf 4 = .ok (.aload_n 0, 1) := by decide +kernel
theorem dX0_tintOf_5 : decode cX0_tintOf 5 = .ok (.getfield 21, 3) := by decide +kernel
theorem dX0_tintOf_8 : decode cX0_tintOf 8 = .ok (.iload_n 1, 1) := by decide +kernel
theorem dX0_tintOf_9 : decode cX0_tintOf 9 = .ok (.iaload, 1) := by decide +kernel
theorem dX0_tintOf_10 : decode cX0_tintOf 10 = .ok (.ireturn, 1) := by decide +kernel
set_option maxRecDepth 20000 in
theorem ggX0_conflicts_X0_wearing : GoodIn wsX0_conflicts wsX0_wearing := goodIn_r _ [7, 1, 15, 16, 17, 18, 19, 20, 21, 22] (by decide +kernel) (by decide +kernel)
set_option maxRecDepth 20000 in
theorem gX0_conflicts_X0_wearing : GoodIn wsX0_conflicts (wsV RX0 124 RX0 yX0_wearing wsX0_wearing) := goodIn_app (goodIn_of _ (by decide +kernel)) ggX0_conflicts_X0_wearing
set_option maxRecDepth 20000 in
theorem ggX0_conflicts_J6_bitCount_0f7a4 : GoodIn wsX0_conflicts wsJ6_bitCount_0f7a4 := goodIn_r _ [11, 12, 13, 14] (by decide +kernel) (by decide +kernel)
set_option maxRecDepth 20000 in
theorem gX0_conflicts_J6_bitCount_0f7a4 : GoodIn wsX0_conflicts (va_wsS RX0 77 yJ6_bitCount_0f7a4 wsJ6_bitCount_0f7a4) := goodIn_app (goodIn_of _ (by decide +kernel)) ggX0_conflicts_J6_bitCount_0f7a4
theorem dX0_conflicts_0 : decode cX0_conflicts 0 = .ok (.iconst 0, 1) := by decide +kernel
theorem dX0_conflicts_1 : decode cX0_conflicts 1 = .ok (.istore_n 1, 1) := by decide +kernel
theorem dX0_conflicts_2 : decode cX0_conflicts 2 = .ok (.iconst 0, 1) := by decide +kernel
theorem dX0_conflicts_3 : decode cX0_conflicts 3 = .ok (.istore_n 2, 1) := by decide +kernel
theorem dX0_conflicts_4 : decode cX0_conflicts 4 = .ok (.iload_n 2, 1) := by decide +kernel
theorem dX0_conflicts_5 : decode cX0_conflicts 5 = .ok (.bipush 10, 2) := by decide +kernel
theorem dX0_conflicts_7 : decode cX0_conflicts 7 = .ok (.if_icmp .ge 41, 3) := by decide +kernel
theorem dX0_conflicts_10 : decode cX0_conflicts 10 = .ok (.aload_n 0, 1) := by decide +kernel
theorem dX0_conflicts_11 : decode cX0_conflicts 11 = .ok (.getfield 21, 3) := by decide +kernel
theorem dX0_conflicts_14 : decode cX0_conflicts 14 = .ok (.iload_n 2, 1) := by decide +kernel
theorem dX0_conflicts_15 : decode cX0_conflicts 15 = .ok (.iaload, 1) := by decide +kernel
theorem dX0_conflicts_16 : decode cX0_conflicts 16 = .ok (.ifCond .eq 26, 3) := by decide +kernel
theorem dX0_conflicts_19 : decode cX0_conflicts 19 = .ok (.iload_n 1, 1) := by decide +kernel
theorem dX0_conflicts_20 : decode cX0_conflicts 20 = .ok (.aload_n 0, 1) := by decide +kernel
theorem dX0_conflicts_21 : decode cX0_conflicts 21 = .ok (.getfield 17, 3) := by decide +kernel
theorem dX0_conflicts_24 : decode cX0_conflicts 24 = .ok (.iload_n 2, 1) := by decide +kernel
theorem dX0_conflicts_25 : decode cX0_conflicts 25 = .ok (.iaload, 1) := by decide +kernel
theorem dX0_conflicts_26 : decode cX0_conflicts 26 = .ok (.aload_n 0, 1) := by decide +kernel
theorem dX0_conflicts_27 : decode cX0_conflicts 27 = .ok (.aload_n 0, 1) := by decide +kernel
theorem dX0_conflicts_28 : decode cX0_conflicts 28 = .ok (.getfield 21, 3) := by decide +kernel
theorem dX0_conflicts_31 : decode cX0_conflicts 31 = .ok (.iload_n 2, 1) := by decide +kernel
theorem dX0_conflicts_32 : decode cX0_conflicts 32 = .ok (.iaload, 1) := by decide +kernel
theorem dX0_conflicts_33 : decode cX0_conflicts 33 = .ok (.invokevirtual 124, 3) := by decide +kernel
theorem dX0_conflicts_36 : decode cX0_conflicts 36 = .ok (.iand, 1) := by decide +kernel
theorem dX0_conflicts_37 : decode cX0_conflicts 37 = .ok (.invokestatic 77, 3) := by decide +kernel
theorem dX0_conflicts_40 : decode cX0_conflicts 40 = .ok (.iadd, 1) := by decide +kernel
theorem dX0_conflicts_41 : decode cX0_conflicts 41 = .ok (.istore_n 1, 1) := by decide +kernel
theorem dX0_conflicts_42 : decode cX0_conflicts 42 = .ok (.iinc 2 1, 3) := by decide +kernel
theorem dX0_conflicts_45 : decode cX0_conflicts 45 = .ok (.goto (-41), 3) := by decide +kernel
theorem dX0_conflicts_48 : decode cX0_conflicts 48 = .ok (.iload_n 1, 1) := by decide +kernel
theorem dX0_conflicts_49 : decode cX0_conflicts 49 = .ok (.iconst 1, 1) := by decide +kernel
theorem dX0_conflicts_50 : decode cX0_conflicts 50 = .ok (.ishr, 1) := by decide +kernel
theorem dX0_conflicts_51 : decode cX0_conflicts 51 = .ok (.ireturn, 1) := by decide +kernel
set_option maxRecDepth 20000 in
theorem ggX0_isTinted_X0_wearing : GoodIn wsX0_isTinted wsX0_wearing := goodIn_r _ [6, 7, 20, 21, 22, 23, 24, 25, 26, 27] (by decide +kernel) (by decide +kernel)
set_option maxRecDepth 20000 in
theorem gX0_isTinted_X0_wearing : GoodIn wsX0_isTinted (wsV RX0 124 RX0 yX0_wearing wsX0_wearing) := goodIn_app (goodIn_of _ (by decide +kernel)) ggX0_isTinted_X0_wearing
set_option maxRecDepth 20000 in
theorem ggX0_isTinted_X0_conflicts : GoodIn wsX0_isTinted wsX0_conflicts := goodIn_r _ [11, 7, 12, 2, 3, 4, 5, 6, 13, 14, 15, 16, 17, 18, 19, 20, 21, 22, 23, 24, 25, 26, 27] (by decide +kernel) (by decide +kernel)
set_option maxRecDepth 20000 in
theorem gX0_isTinted_X0_conflicts : GoodIn wsX0_isTinted (wsV RX0 127 RX0 yX0_conflicts wsX0_conflicts) := goodIn_app (goodIn_of _ (by decide +kernel)) ggX0_isTinted_X0_conflicts
theorem dX0_isTinted_0 : decode cX0_isTinted 0 = .ok (.aload_n 0, 1) := by decide +kernel
theorem dX0_isTinted_1 : decode cX0_isTinted 1 = .ok (.getfield 13, 3) := by decide +kernel
theorem dX0_isTinted_4 : decode cX0_isTinted 4 = .ok (.aload_n 0, 1) := by decide +kernel
theorem dX0_isTinted_5 : decode cX0_isTinted 5 = .ok (.iconst 0, 1) := by decide +kernel
theorem dX0_isTinted_6 : decode cX0_isTinted 6 = .ok (.invokevirtual 124, 3) := by decide +kernel
theorem dX0_isTinted_9 : decode cX0_isTinted 9 = .ok (.iand, 1) := by decide +kernel
theorem dX0_isTinted_10 : decode cX0_isTinted 10 = .ok (.ifCond .ne 14, 3) := by decide +kernel
theorem dX0_isTinted_13 : decode cX0_isTinted 13 = .ok (.aload_n 0, 1) := by decide +kernel
theorem dX0_isTinted_14 : decode cX0_isTinted 14 = .ok (.invokevirtual 127, 3) := by decide +kernel
theorem dX0_isTinted_17 : decode cX0_isTinted 17 = .ok (.ifCond .ne 7, 3) := by decide +kernel
theorem dX0_isTinted_20 : decode cX0_isTinted 20 = .ok (.iconst 1, 1) := by decide +kernel
theorem dX0_isTinted_21 : decode cX0_isTinted 21 = .ok (.goto 4, 3) := by decide +kernel
theorem dX0_isTinted_24 : decode cX0_isTinted 24 = .ok (.iconst 0, 1) := by decide +kernel
theorem dX0_isTinted_25 : decode cX0_isTinted 25 = .ok (.ireturn, 1) := by decide +kernel
set_option maxRecDepth 20000 in
theorem ggX0_leastFree_X0_checkCountry : GoodIn wsX0_leastFree wsX0_checkCountry := goodIn_ca (goodIn_r _ [5, 6, 7] (by decide +kernel) (by decide +kernel)) (goodIn_sub (fun _ h => List.mem_cons_of_mem _ (List.mem_append_right _ h)) (by decide +kernel))
set_option maxRecDepth 20000 in
theorem gX0_leastFree_X0_checkCountry : GoodIn wsX0_leastFree (va_wsS RX0 82 yX0_checkCountry wsX0_checkCountry) := goodIn_app (goodIn_of _ (by decide +kernel)) ggX0_leastFree_X0_checkCountry
set_option maxRecDepth 20000 in
theorem ggX0_leastFree_X0_leastFreeBeside : GoodIn wsX0_leastFree wsX0_leastFreeBeside := goodIn_r _ [11, 12, 13, 14, 4, 15, 16, 17, 18, 19, 20, 21, 22, 23, 24] (by decide +kernel) (by decide +kernel)
set_option maxRecDepth 20000 in
theorem gX0_leastFree_X0_leastFreeBeside : GoodIn wsX0_leastFree (wsV RX0 131 RX0 yX0_leastFreeBeside wsX0_leastFreeBeside) := goodIn_app (goodIn_of _ (by decide +kernel)) ggX0_leastFree_X0_leastFreeBeside
theorem dX0_leastFree_0 : decode cX0_leastFree 0 = .ok (.iload_n 1, 1) := by decide +kernel
theorem dX0_leastFree_1 : decode cX0_leastFree 1 = .ok (.invokestatic 82, 3) := by decide +kernel
theorem dX0_leastFree_4 : decode cX0_leastFree 4 = .ok (.aload_n 0, 1) := by decide +kernel
theorem dX0_leastFree_5 : decode cX0_leastFree 5 = .ok (.aload_n 0, 1) := by decide +kernel
theorem dX0_leastFree_6 : decode cX0_leastFree 6 = .ok (.getfield 17, 3) := by decide +kernel
theorem dX0_leastFree_9 : decode cX0_leastFree 9 = .ok (.iload_n 1, 1) := by decide +kernel
theorem dX0_leastFree_10 : decode cX0_leastFree 10 = .ok (.iaload, 1) := by decide +kernel
theorem dX0_leastFree_11 : decode cX0_leastFree 11 = .ok (.invokevirtual 131, 3) := by decide +kernel
theorem dX0_leastFree_14 : decode cX0_leastFree 14 = .ok (.ireturn, 1) := by decide +kernel
set_option maxRecDepth 20000 in
theorem ggX0_chain_X0_checkCountry : GoodIn wsX0_chain wsX0_checkCountry := goodIn_ca (goodIn_r _ [4, 5, 6] (by decide +kernel) (by decide +kernel)) (goodIn_sub (fun _ h => List.mem_cons_of_mem _ (List.mem_append_left _ (List.mem_append_left _ (List.mem_append_right _ h)))) (by decide +kernel))
set_option maxRecDepth 20000 in
theorem gX0_chain_X0_checkCountry : GoodIn wsX0_chain (va_wsS RX0 82 yX0_checkCountry wsX0_checkCountry) := goodIn_app (goodIn_of _ (by decide +kernel)) ggX0_chain_X0_checkCountry
set_option maxRecDepth 20000 in
theorem ggX0_chain_X0_checkTint : GoodIn wsX0_chain wsX0_checkTint := goodIn_ca (goodIn_r _ [9, 10, 11] (by decide +kernel) (by decide +kernel)) (goodIn_sub (fun _ h => List.mem_cons_of_mem _ (List.mem_append_left _ (List.mem_append_right _ h))) (by decide +kernel))
set_option maxRecDepth 20000 in
theorem gX0_chain_X0_checkTint : GoodIn wsX0_chain (va_wsS RX0 121 yX0_checkTint wsX0_checkTint) := goodIn_app (goodIn_of _ (by decide +kernel)) ggX0_chain_X0_checkTint
set_option maxRecDepth 20000 in
theorem ggX0_chain_X0_checkTinted : GoodIn wsX0_chain wsX0_checkTinted := goodIn_ca (goodIn_r _ [15, 16, 17, 18, 19, 20, 21, 3, 22, 39, 40, 41, 42, 43, 44, 45, 46] (by decide +kernel) (by decide +kernel)) (goodIn_sub (fun _ h => List.mem_cons_of_mem _ (List.mem_append_right _ h)) (by decide +kernel))
set_option maxRecDepth 20000 in
theorem gX0_chain_X0_checkTinted : GoodIn wsX0_chain (wsV RX0 134 RX0 yX0_checkTinted wsX0_checkTinted) := goodIn_app (goodIn_of _ (by decide +kernel)) ggX0_chain_X0_checkTinted
set_option maxRecDepth 20000 in
theorem ggX0_chain_X0_chainOf : GoodIn wsX0_chain wsX0_chainOf := goodIn_r _ [26, 18, 19, 27, 28, 29, 30, 3, 31, 20, 21, 22, 39, 40, 41, 42, 43, 44, 45, 46] (by decide +kernel) (by decide +kernel)
set_option maxRecDepth 20000 in
theorem gX0_chain_X0_chainOf : GoodIn wsX0_chain (wsV RX0 137 RX0 yX0_chainOf wsX0_chainOf) := goodIn_app (goodIn_of _ (by decide +kernel)) ggX0_chain_X0_chainOf
set_option maxRecDepth 20000 in
theorem ggX0_chain_J6_bitCount_0f7a4 : GoodIn wsX0_chain wsJ6_bitCount_0f7a4 := goodIn_r _ [35, 36, 37, 38] (by decide +kernel) (by decide +kernel)
set_option maxRecDepth 20000 in
theorem gX0_chain_J6_bitCount_0f7a4 : GoodIn wsX0_chain (va_wsS RX0 77 yJ6_bitCount_0f7a4 wsJ6_bitCount_0f7a4) := goodIn_app (goodIn_of _ (by decide +kernel)) ggX0_chain_J6_bitCount_0f7a4
theorem dX0_chain_0 : decode cX0_chain 0 = .ok (.iload_n 1, 1) := by decide +kernel
theorem dX0_chain_1 : decode cX0_chain 1 = .ok (.invokestatic 82, 3) := by decide +kernel
theorem dX0_chain_4 : decode cX0_chain 4 = .ok (.iload_n 2, 1) := by decide +kernel
theorem dX0_chain_5 : decode cX0_chain 5 = .ok (.invokestatic 121, 3) := by decide +kernel
theorem dX0_chain_8 : decode cX0_chain 8 = .ok (.aload_n 0, 1) := by decide +kernel
theorem dX0_chain_9 : decode cX0_chain 9 = .ok (.iload_n 1, 1) := by decide +kernel
theorem dX0_chain_10 : decode cX0_chain 10 = .ok (.invokevirtual 134, 3) := by decide +kernel
theorem dX0_chain_13 : decode cX0_chain 13 = .ok (.aload_n 0, 1) := by decide +kernel
theorem dX0_chain_14 : decode cX0_chain 14 = .ok (.iload_n 1, 1) := by decide +kernel
theorem dX0_chain_15 : decode cX0_chain 15 = .ok (.iload_n 2, 1) := by decide +kernel
theorem dX0_chain_16 : decode cX0_chain 16 = .ok (.invokevirtual 137, 3) := by decide +kernel
theorem dX0_chain_19 : decode cX0_chain 19 = .ok (.invokestatic 77, 3) := by decide +kernel
theorem dX0_chain_22 : decode cX0_chain 22 = .ok (.ireturn, 1) := by decide +kernel
set_option maxRecDepth 20000 in
theorem ggX0_exchange_X0_checkCountry : GoodIn wsX0_exchange wsX0_checkCountry := goodIn_ca (goodIn_r _ [5, 6, 7] (by decide +kernel) (by decide +kernel)) (goodIn_sub (fun _ h => List.mem_cons_of_mem _ (List.mem_append_left _ (List.mem_append_left _ (List.mem_append_right _ h)))) (by decide +kernel))
set_option maxRecDepth 20000 in
theorem gX0_exchange_X0_checkCountry : GoodIn wsX0_exchange (va_wsS RX0 82 yX0_checkCountry wsX0_checkCountry) := goodIn_app (goodIn_of _ (by decide +kernel)) ggX0_exchange_X0_checkCountry
set_option maxRecDepth 20000 in
theorem ggX0_exchange_X0_checkTint : GoodIn wsX0_exchange wsX0_checkTint := goodIn_ca (goodIn_r _ [10, 11, 12] (by decide +kernel) (by decide +kernel)) (goodIn_sub (fun _ h => List.mem_cons_of_mem _ (List.mem_append_left _ (List.mem_append_right _ h))) (by decide +kernel))
set_option maxRecDepth 20000 in
theorem gX0_exchange_X0_checkTint : GoodIn wsX0_exchange (va_wsS RX0 121 yX0_checkTint wsX0_checkTint) := goodIn_app (goodIn_of _ (by decide +kernel)) ggX0_exchange_X0_checkTint
set_option maxRecDepth 20000 in
theorem ggX0_exchange_X0_checkTinted : GoodIn wsX0_exchange wsX0_checkTinted := goodIn_ca (goodIn_r _ [16, 17, 18, 19, 1, 20, 21, 4, 22, 39, 40, 41, 42, 43, 44, 45, 46] (by decide +kernel) (by decide +kernel)) (goodIn_sub (fun _ h => List.mem_cons_of_mem _ (List.mem_append_right _ h)) (by decide +kernel))
set_option maxRecDepth 20000 in
theorem gX0_exchange_X0_checkTinted : GoodIn wsX0_exchange (wsV RX0 134 RX0 yX0_checkTinted wsX0_checkTinted) := goodIn_app (goodIn_of _ (by decide +kernel)) ggX0_exchange_X0_checkTinted
set_option maxRecDepth 20000 in
theorem ggX0_exchange_X0_chainOf : GoodIn wsX0_exchange wsX0_chainOf := goodIn_r _ [26, 19, 1, 27, 28, 29, 30, 4, 31, 20, 21, 22, 39, 40, 41, 42, 43, 44, 45, 46] (by decide +kernel) (by decide +kernel)
set_option maxRecDepth 20000 in
theorem gX0_exchange_X0_chainOf : GoodIn wsX0_exchange (wsV RX0 137 RX0 yX0_chainOf wsX0_chainOf) := goodIn_app (goodIn_of _ (by decide +kernel)) ggX0_exchange_X0_chainOf
set_option maxRecDepth 20000 in
theorem ggX0_exchange_X0_has : GoodIn wsX0_exchange wsX0_has := goodIn_r _ [22] (by decide +kernel) (by decide +kernel)
set_option maxRecDepth 20000 in
theorem gX0_exchange_X0_has : GoodIn wsX0_exchange (va_wsS RX0 140 yX0_has wsX0_has) := goodIn_app (goodIn_of _ (by decide +kernel)) ggX0_exchange_X0_has
set_option maxRecDepth 20000 in
theorem ggX0_exchange_J6_bitCount_0f7a4 : GoodIn wsX0_exchange wsJ6_bitCount_0f7a4 := goodIn_r _ [35, 36, 37, 38] (by decide +kernel) (by decide +kernel)
set_option maxRecDepth 20000 in
theorem gX0_exchange_J6_bitCount_0f7a4 : GoodIn wsX0_exchange (va_wsS RX0 77 yJ6_bitCount_0f7a4 wsJ6_bitCount_0f7a4) := goodIn_app (goodIn_of _ (by decide +kernel)) ggX0_exchange_J6_bitCount_0f7a4
theorem dX0_exchange_0 : decode cX0_exchange 0 = .ok (.iload_n 1, 1) := by decide +kernel
theorem dX0_exchange_1 : decode cX0_exchange 1 = .ok (.invokestatic 82, 3) := by decide +kernel
theorem dX0_exchange_4 : decode cX0_exchange 4 = .ok (.iload_n 2, 1) := by decide +kernel
theorem dX0_exchange_5 : decode cX0_exchange 5 = .ok (.invokestatic 121, 3) := by decide +kernel
theorem dX0_exchange_8 : decode cX0_exchange 8 = .ok (.aload_n 0, 1) := by decide +kernel
theorem dX0_exchange_9 : decode cX0_exchange 9 = .ok (.iload_n 1, 1) := by decide +kernel
theorem dX0_exchange_10 : decode cX0_exchange 10 = .ok (.invokevirtual 134, 3) := by decide +kernel
theorem dX0_exchange_13 : decode cX0_exchange 13 = .ok (.aload_n 0, 1) := by decide +kernel
theorem dX0_exchange_14 : decode cX0_exchange 14 = .ok (.getfield 21, 3) := by decide +kernel
theorem dX0_exchange_17 : decode cX0_exchange 17 = .ok (.iload_n 1, 1) := by decide +kernel
theorem dX0_exchange_18 : decode cX0_exchange 18 = .ok (.iaload, 1) := by decide +kernel
theorem dX0_exchange_19 : decode cX0_exchange 19 = .ok (.istore_n 3, 1) := by decide +kernel
theorem dX0_exchange_20 : decode cX0_exchange 20 = .ok (.iload_n 3, 1) := by decide +kernel
theorem dX0_exchange_21 : decode cX0_exchange 21 = .ok (.iload_n 2, 1) := by decide +kernel
theorem dX0_exchange_22 : decode cX0_exchange 22 = .ok (.if_icmp .ne 5, 3) := by decide +kernel
theorem dX0_exchange_25 : decode cX0_exchange 25 = .ok (.iconst 0, 1) := by decide +kernel
theorem dX0_exchange_26 : decode cX0_exchange 26 = .ok (.ireturn, 1) := by decide +kernel
theorem dX0_exchange_27 : decode cX0_exchange 27 = .ok (.aload_n 0, 1) := by decide +kernel
theorem dX0_exchange_28 : decode cX0_exchange 28 = .ok (.iload_n 1, 1) := by decide +kernel
theorem dX0_exchange_29 : decode cX0_exchange 29 = .ok (.iload_n 2, 1) := by decide +kernel
theorem dX0_exchange_30 : decode cX0_exchange 30 = .ok (.invokevirtual 137, 3) := by decide +kernel
theorem dX0_exchange_33 : decode cX0_exchange 33 = .ok (.istore 4, 2) := by decide +kernel
theorem dX0_exchange_35 : decode cX0_exchange 35 = .ok (.iconst 0, 1) := by decide +kernel
theorem dX0_exchange_36 : decode cX0_exchange 36 = .ok (.istore 5, 2) := by decide +kernel
theorem dX0_exchange_38 : decode cX0_exchange 38 = .ok (.iload 5, 2) := by decide +kernel
theorem dX0_exchange_40 : decode cX0_exchange 40 = .ok (.bipush 10, 2) := by decide +kernel
theorem dX0_exchange_42 : decode cX0_exchange 42 = .ok (.if_icmp .ge 42, 3) := by decide +kernel
theorem dX0_exchange_45 : decode cX0_exchange 45 = .ok (.iload 4, 2) := by decide +kernel
theorem dX0_exchange_47 : decode cX0_exchange 47 = .ok (.iload 5, 2) := by decide +kernel
theorem dX0_exchange_49 : decode cX0_exchange 49 = .ok (.invokestatic 140, 3) := by decide +kernel
theorem dX0_exchange_52 : decode cX0_exchange 52 = .ok (.ifCond .eq 26, 3) := by decide +kernel
theorem dX0_exchange_55 : decode cX0_exchange 55 = .ok (.aload_n 0, 1) := by decide +kernel
theorem dX0_exchange_56 : decode cX0_exchange 56 = .ok (.getfield 21, 3) := by decide +kernel
theorem dX0_exchange_59 : decode cX0_exchange 59 = .ok (.iload 5, 2) := by decide +kernel
theorem dX0_exchange_61 : decode cX0_exchange 61 = .ok (.aload_n 0, 1) := by decide +kernel
theorem dX0_exchange_62 : decode cX0_exchange 62 = .ok (.getfield 21, 3) := by decide +kernel
theorem dX0_exchange_65 : decode cX0_exchange 65 = .ok (.iload 5, 2) := by decide +kernel
theorem dX0_exchange_67 : decode cX0_exchange 67 = .ok (.iaload, 1) := by decide +kernel
theorem dX0_exchange_68 : decode cX0_exchange 68 = .ok (.iload_n 3, 1) := by decide +kernel
theorem dX0_exchange_69 : decode cX0_exchange 69 = .ok (.if_icmp .ne 7, 3) := by decide +kernel
theorem dX0_exchange_72 : decode cX0_exchange 72 = .ok (.iload_n 2, 1) := by decide +kernel
theorem dX0_exchange_73 : decode cX0_exchange 73 = .ok (.goto 4, 3) := by decide +kernel
theorem dX0_exchange_76 : decode cX0_exchange 76 = .ok (.iload_n 3, 1) := by decide +kernel
theorem dX0_exchange_77 : decode cX0_exchange 77 = .ok (.iastore, 1) := by decide +kernel
theorem dX0_exchange_78 : decode cX0_exchange 78 = .ok (.iinc 5 1, 3) := by decide +kernel
theorem dX0_exchange_81 : decode cX0_exchange 81 = .ok (.goto (-43), 3) := by decide +kernel
theorem dX0_exchange_84 : decode cX0_exchange 84 = .ok (.iload 4, 2) := by decide +kernel
theorem dX0_exchange_86 : decode cX0_exchange 86 = .ok (.invokestatic 77, 3) := by decide +kernel
theorem dX0_exchange_89 : decode cX0_exchange 89 = .ok (.ireturn, 1) := by decide +kernel
set_option maxRecDepth 20000 in
theorem ggX0_tintInOrder_X0_has : GoodIn wsX0_tintInOrder wsX0_has := goodIn_r _ [10] (by decide +kernel) (by decide +kernel)
set_option maxRecDepth 20000 in
theorem gX0_tintInOrder_X0_has : GoodIn wsX0_tintInOrder (va_wsS RX0 140 yX0_has wsX0_has) := goodIn_app (goodIn_of _ (by decide +kernel)) ggX0_tintInOrder_X0_has
set_option maxRecDepth 20000 in
theorem ggX0_tintInOrder_X0_giveLeastFree : GoodIn wsX0_tintInOrder wsX0_giveLeastFree := goodIn_r _ [14, 2, 15, 3, 4, 5, 6, 7, 8, 9, 10, 16, 17, 18, 19, 20, 21, 22, 23, 35, 36, 37, 38, 39, 40, 41, 42] (by decide +kernel) (by decide +kernel)
set_option maxRecDepth 20000 in
theorem gX0_tintInOrder_X0_giveLeastFree : GoodIn wsX0_tintInOrder (wsV RX0 144 RX0 yX0_giveLeastFree wsX0_giveLeastFree) := goodIn_app (goodIn_of _ (by decide +kernel)) ggX0_tintInOrder_X0_giveLeastFree
set_option maxRecDepth 20000 in
theorem ggX0_tintInOrder_X0_withNeighbours : GoodIn wsX0_tintInOrder wsX0_withNeighbours := goodIn_r _ [27, 1, 15, 7, 8, 9, 10, 28, 29, 30, 31, 32, 33, 34, 35, 36, 37, 38, 39, 40, 41, 42] (by decide +kernel) (by decide +kernel)
set_option maxRecDepth 20000 in
theorem gX0_tintInOrder_X0_withNeighbours : GoodIn wsX0_tintInOrder (wsV RX0 147 RX0 yX0_withNeighbours wsX0_withNeighbours) := goodIn_app (goodIn_of _ (by decide +kernel)) ggX0_tintInOrder_X0_withNeighbours
theorem dX0_tintInOrder_0 : decode cX0_tintInOrder 0 = .ok (.iconst 0, 1) := by decide +kernel
theorem dX0_tintInOrder_1 : decode cX0_tintInOrder 1 = .ok (.istore_n 2, 1) := by decide +kernel
theorem dX0_tintInOrder_2 : decode cX0_tintInOrder 2 = .ok (.iload_n 2, 1) := by decide +kernel
theorem dX0_tintInOrder_3 : decode cX0_tintInOrder 3 = .ok (.bipush 10, 2) := by decide +kernel
theorem dX0_tintInOrder_5 : decode cX0_tintInOrder 5 = .ok (.if_icmp .ge 27, 3) := by decide +kernel
theorem dX0_tintInOrder_8 : decode cX0_tintInOrder 8 = .ok (.aload_n 0, 1) := by decide +kernel
theorem dX0_tintInOrder_9 : decode cX0_tintInOrder 9 = .ok (.getfield 13, 3) := by decide +kernel
theorem dX0_tintInOrder_12 : decode cX0_tintInOrder 12 = .ok (.iload_n 2, 1) := by decide +kernel
theorem dX0_tintInOrder_13 : decode cX0_tintInOrder 13 = .ok (.invokestatic 140, 3) := by decide +kernel
theorem dX0_tintInOrder_16 : decode cX0_tintInOrder 16 = .ok (.ifCond .eq 10, 3) := by decide +kernel
theorem dX0_tintInOrder_19 : decode cX0_tintInOrder 19 = .ok (.aload_n 0, 1) := by decide +kernel
theorem dX0_tintInOrder_20 : decode cX0_tintInOrder 20 = .ok (.getfield 21, 3) := by decide +kernel
theorem dX0_tintInOrder_23 : decode cX0_tintInOrder 23 = .ok (.iload_n 2, 1) := by decide +kernel
theorem dX0_tintInOrder_24 : decode cX0_tintInOrder 24 = .ok (.iconst 0, 1) := by decide +kernel
theorem dX0_tintInOrder_25 : decode cX0_tintInOrder 25 = .ok (.iastore, 1) := by decide +kernel
theorem dX0_tintInOrder_26 : decode cX0_tintInOrder 26 = .ok (.iinc 2 1, 3) := by decide +kernel
theorem dX0_tintInOrder_29 : decode cX0_tintInOrder 29 = .ok (.goto (-27), 3) := by decide +kernel
theorem dX0_tintInOrder_32 : decode cX0_tintInOrder 32 = .ok (.iload_n 1, 1) := by decide +kernel
theorem dX0_tintInOrder_33 : decode cX0_tintInOrder 33 = .ok (.ifCond .ne 12, 3) := by decide +kernel
theorem dX0_tintInOrder_36 : decode cX0_tintInOrder 36 = .ok (.aload_n 0, 1) := by decide +kernel
theorem dX0_tintInOrder_37 : decode cX0_tintInOrder 37 = .ok (.aload_n 0, 1) := by decide +kernel
theorem dX0_tintInOrder_38 : decode cX0_tintInOrder 38 = .ok (.getfield 13, 3) := by decide +kernel
theorem dX0_tintInOrder_41 : decode cX0_tintInOrder 41 = .ok (.invokevirtual 144, 3) := by decide +kernel
theorem dX0_tintInOrder_44 : decode cX0_tintInOrder 44 = .ok (.ireturn, 1) := by decide +kernel
theorem dX0_tintInOrder_45 : decode cX0_tintInOrder 45 = .ok (.iconst 0, 1) := by decide +kernel
theorem dX0_tintInOrder_46 : decode cX0_tintInOrder 46 = .ok (.istore_n 2, 1) := by decide +kernel
theorem dX0_tintInOrder_47 : decode cX0_tintInOrder 47 = .ok (.bipush 9, 2) := by decide +kernel
theorem dX0_tintInOrder_49 : decode cX0_tintInOrder 49 = .ok (.istore_n 3, 1) := by decide +kernel
theorem dX0_tintInOrder_50 : decode cX0_tintInOrder 50 = .ok (.iload_n 3, 1) := by decide +kernel
theorem dX0_tintInOrder_51 : decode cX0_tintInOrder 51 = .ok (.ifCond .lt 23, 3) := by decide +kernel
theorem dX0_tintInOrder_54 : decode cX0_tintInOrder 54 = .ok (.iload_n 2, 1) := by decide +kernel
theorem dX0_tintInOrder_55 : decode cX0_tintInOrder 55 = .ok (.aload_n 0, 1) := by decide +kernel
theorem dX0_tintInOrder_56 : decode cX0_tintInOrder 56 = .ok (.aload_n 0, 1) := by decide +kernel
theorem dX0_tintInOrder_57 : decode cX0_tintInOrder 57 = .ok (.iload_n 3, 1) := by decide +kernel
theorem dX0_tintInOrder_58 : decode cX0_tintInOrder 58 = .ok (.invokevirtual 147, 3) := by decide +kernel
theorem dX0_tintInOrder_61 : decode cX0_tintInOrder 61 = .ok (.invokevirtual 144, 3) := by decide +kernel
theorem dX0_tintInOrder_64 : decode cX0_tintInOrder 64 = .ok (.invokestatic 92, 3) := by decide +kernel
theorem dX0_tintInOrder_67 : decode cX0_tintInOrder 67 = .ok (.istore_n 2, 1) := by decide +kernel
theorem dX0_tintInOrder_68 : decode cX0_tintInOrder 68 = .ok (.iinc 3 (-1), 3) := by decide +kernel
theorem dX0_tintInOrder_71 : decode cX0_tintInOrder 71 = .ok (.goto (-21), 3) := by decide +kernel
theorem dX0_tintInOrder_74 : decode cX0_tintInOrder 74 = .ok (.iload_n 2, 1) := by decide +kernel
theorem dX0_tintInOrder_75 : decode cX0_tintInOrder 75 = .ok (.ireturn, 1) := by decide +kernel
set_option maxRecDepth 20000 in
theorem ggX0_fewestTints_X0_tryFewest : GoodIn wsX0_fewestTints wsX0_tryFewest := goodIn_r _ [5, 6, 7, 8, 9, 10, 4, 11, 12, 13, 14, 15, 16, 17, 18, 19, 20, 21, 22, 23, 24, 25, 26, 27, 28, 29] (by decide +kernel) (by decide +kernel)
set_option maxRecDepth 20000 in
theorem gX0_fewestTints_X0_tryFewest : GoodIn wsX0_fewestTints (wsV RX0 150 RX0 yX0_tryFewest wsX0_tryFewest) := goodIn_app (goodIn_of _ (by decide +kernel)) ggX0_fewestTints_X0_tryFewest
theorem dX0_fewestTints_0 : decode cX0_fewestTints 0 = .ok (.aload_n 0, 1) := by decide +kernel
theorem dX0_fewestTints_1 : decode cX0_fewestTints 1 = .ok (.invokevirtual 150, 3) := by decide +kernel
theorem dX0_fewestTints_4 : decode cX0_fewestTints 4 = .ok (.ireturn, 1) := by decide +kernel
set_option maxRecDepth 20000 in
theorem ggX0_tintWithFewest_X0_tryFewest : GoodIn wsX0_tintWithFewest wsX0_tryFewest := goodIn_r _ [8, 9, 1, 3, 10, 11, 7, 12, 13, 14, 15, 16, 17, 18, 19, 20, 21, 22, 23, 24, 25, 26, 27, 28, 29, 30] (by decide +kernel) (by decide +kernel)
set_option maxRecDepth 20000 in
theorem gX0_tintWithFewest_X0_tryFewest : GoodIn wsX0_tintWithFewest (wsV RX0 150 RX0 yX0_tryFewest wsX0_tryFewest) := goodIn_app (goodIn_of _ (by decide +kernel)) ggX0_tintWithFewest_X0_tryFewest
set_option maxRecDepth 20000 in
theorem ggX0_tintWithFewest_X0_has : GoodIn wsX0_tintWithFewest wsX0_has := goodIn_r _ [19] (by decide +kernel) (by decide +kernel)
set_option maxRecDepth 20000 in
theorem gX0_tintWithFewest_X0_has : GoodIn wsX0_tintWithFewest (va_wsS RX0 140 yX0_has wsX0_has) := goodIn_app (goodIn_of _ (by decide +kernel)) ggX0_tintWithFewest_X0_has
theorem dX0_tintWithFewest_0 : decode cX0_tintWithFewest 0 = .ok (.aload_n 0, 1) := by decide +kernel
theorem dX0_tintWithFewest_1 : decode cX0_tintWithFewest 1 = .ok (.invokevirtual 150, 3) := by decide +kernel
theorem dX0_tintWithFewest_4 : decode cX0_tintWithFewest 4 = .ok (.istore_n 1, 1) := by decide +kernel
theorem dX0_tintWithFewest_5 : decode cX0_tintWithFewest 5 = .ok (.iconst 0, 1) := by decide +kernel
theorem dX0_tintWithFewest_6 : decode cX0_tintWithFewest 6 = .ok (.istore_n 2, 1) := by decide +kernel
theorem dX0_tintWithFewest_7 : decode cX0_tintWithFewest 7 = .ok (.iload_n 2, 1) := by decide +kernel
theorem dX0_tintWithFewest_8 : decode cX0_tintWithFewest 8 = .ok (.bipush 10, 2) := by decide +kernel
theorem dX0_tintWithFewest_10 : decode cX0_tintWithFewest 10 = .ok (.if_icmp .ge 32, 3) := by decide +kernel
theorem dX0_tintWithFewest_13 : decode cX0_tintWithFewest 13 = .ok (.aload_n 0, 1) := by decide +kernel
theorem dX0_tintWithFewest_14 : decode cX0_tintWithFewest 14 = .ok (.getfield 13, 3) := by decide +kernel
theorem dX0_tintWithFewest_17 : decode cX0_tintWithFewest 17 = .ok (.iload_n 2, 1) := by decide +kernel
theorem dX0_tintWithFewest_18 : decode cX0_tintWithFewest 18 = .ok (.invokestatic 140, 3) := by decide +kernel
theorem dX0_tintWithFewest_21 : decode cX0_tintWithFewest 21 = .ok (.ifCond .eq 15, 3) := by decide +kernel
theorem dX0_tintWithFewest_24 : decode cX0_tintWithFewest 24 = .ok (.aload_n 0, 1) := by decide +kernel
theorem dX0_tintWithFewest_25 : decode cX0_tintWithFewest 25 = .ok (.getfield 21, 3) := by decide +kernel
theorem dX0_tintWithFewest_28 : decode cX0_tintWithFewest 28 = .ok (.iload_n 2, 1) := by decide +kernel
theorem dX0_tintWithFewest_29 : decode cX0_tintWithFewest 29 = .ok (.aload_n 0, 1) := by decide +kernel
theorem dX0_tintWithFewest_30 : decode cX0_tintWithFewest 30 = .ok (.getfield 24, 3) := by decide +kernel
theorem dX0_tintWithFewest_33 : decode cX0_tintWithFewest 33 = .ok (.iload_n 2, 1) := by decide +kernel
theorem dX0_tintWithFewest_34 : decode cX0_tintWithFewest 34 = .ok (.iaload, 1) := by decide +kernel
theorem dX0_tintWithFewest_35 : decode cX0_tintWithFewest 35 = .ok (.iastore, 1) := by decide +kernel
theorem dX0_tintWithFewest_36 : decode cX0_tintWithFewest 36 = .ok (.iinc 2 1, 3) := by decide +kernel
theorem dX0_tintWithFewest_39 : decode cX0_tintWithFewest 39 = .ok (.goto (-32), 3) := by decide +kernel
theorem dX0_tintWithFewest_42 : decode cX0_tintWithFewest 42 = .ok (.iload_n 1, 1) := by decide +kernel
theorem dX0_tintWithFewest_43 : decode cX0_tintWithFewest 43 = .ok (.ireturn, 1) := by decide +kernel
set_option maxRecDepth 20000 in
theorem ggX0_tintings_X0_checkNumberOfTints : GoodIn wsX0_tintings wsX0_checkNumberOfTints := goodIn_ca (goodIn_r _ [6, 7, 8] (by decide +kernel) (by decide +kernel)) (goodIn_sub (fun _ h => List.mem_cons_of_mem _ (List.mem_append_right _ h)) (by decide +kernel))
set_option maxRecDepth 20000 in
theorem gX0_tintings_X0_checkNumberOfTints : GoodIn wsX0_tintings (va_wsS RX0 153 yX0_checkNumberOfTints wsX0_checkNumberOfTints) := goodIn_app (goodIn_of _ (by decide +kernel)) ggX0_tintings_X0_checkNumberOfTints
set_option maxRecDepth 20000 in
theorem ggX0_tintings_X0_markSetsWithoutNeighbours : GoodIn wsX0_tintings wsX0_markSetsWithoutNeighbours := goodIn_r _ [12, 13, 14, 27, 28, 29, 30, 31, 32, 33, 34] (by decide +kernel) (by decide +kernel)
set_option maxRecDepth 20000 in
theorem gX0_tintings_X0_markSetsWithoutNeighbours : GoodIn wsX0_tintings (wsV RX0 156 RX0 yX0_markSetsWithoutNeighbours wsX0_markSetsWithoutNeighbours) := goodIn_app (goodIn_of _ (by decide +kernel)) ggX0_tintings_X0_markSetsWithoutNeighbours
set_option maxRecDepth 20000 in
theorem ggX0_tintings_J7_fill_d0a16 : GoodIn wsX0_tintings wsJ7_fill_d0a16 := goodIn_r _ [18] (by decide +kernel) (by decide +kernel)
set_option maxRecDepth 20000 in
theorem gX0_tintings_J7_fill_d0a16 : GoodIn wsX0_tintings (va_wsS RX0 159 yJ7_fill_d0a16 wsJ7_fill_d0a16) := goodIn_app (goodIn_of _ (by decide +kernel)) ggX0_tintings_J7_fill_d0a16
set_option maxRecDepth 20000 in
theorem ggX0_tintings_X0_shareOutOneSet : GoodIn wsX0_tintings wsX0_shareOutOneSet := goodIn_r _ [22, 1, 23, 24, 25, 5, 26, 13, 27, 28, 29, 30, 31, 32, 33, 34] (by decide +kernel) (by decide +kernel)
set_option maxRecDepth 20000 in
theorem gX0_tintings_X0_shareOutOneSet : GoodIn wsX0_tintings (wsV RX0 165 RX0 yX0_shareOutOneSet wsX0_shareOutOneSet) := goodIn_app (goodIn_of _ (by decide +kernel)) ggX0_tintings_X0_shareOutOneSet
theorem dX0_tintings_0 : decode cX0_tintings 0 = .ok (.iload_n 1, 1) := by decide +kernel
theorem dX0_tintings_1 : decode cX0_tintings 1 = .ok (.invokestatic 153, 3) := by decide +kernel
theorem dX0_tintings_4 : decode cX0_tintings 4 = .ok (.aload_n 0, 1) := by decide +kernel
theorem dX0_tintings_5 : decode cX0_tintings 5 = .ok (.invokevirtual 156, 3) := by decide +kernel
theorem dX0_tintings_8 : decode cX0_tintings 8 = .ok (.aload_n 0, 1) := by decide +kernel
theorem dX0_tintings_9 : decode cX0_tintings 9 = .ok (.getfield 31, 3) := by decide +kernel
theorem dX0_tintings_12 : decode cX0_tintings 12 = .ok (.lconst 0, 1) := by decide +kernel
theorem dX0_tintings_13 : decode cX0_tintings 13 = .ok (.invokestatic 159, 3) := by decide +kernel
theorem dX0_tintings_16 : decode cX0_tintings 16 = .ok (.aload_n 0, 1) := by decide +kernel
theorem dX0_tintings_17 : decode cX0_tintings 17 = .ok (.getfield 31, 3) := by decide +kernel
theorem dX0_tintings_20 : decode cX0_tintings 20 = .ok (.aload_n 0, 1) := by decide +kernel
theorem dX0_tintings_21 : decode cX0_tintings 21 = .ok (.getfield 13, 3) := by decide +kernel
theorem dX0_tintings_24 : decode cX0_tintings 24 = .ok (.lconst 1, 1) := by decide +kernel
theorem dX0_tintings_25 : decode cX0_tintings 25 = .ok (.lastore, 1) := by decide +kernel
theorem dX0_tintings_26 : decode cX0_tintings 26 = .ok (.aload_n 0, 1) := by decide +kernel
theorem dX0_tintings_27 : decode cX0_tintings 27 = .ok (.getfield 13, 3) := by decide +kernel
theorem dX0_tintings_30 : decode cX0_tintings 30 = .ok (.ifCond .ne 7, 3) := by decide +kernel
theorem dX0_tintings_33 : decode cX0_tintings 33 = .ok (.lconst 1, 1) := by decide +kernel
theorem dX0_tintings_34 : decode cX0_tintings 34 = .ok (.goto 4, 3) := by decide +kernel
theorem dX0_tintings_37 : decode cX0_tintings 37 = .ok (.lconst 0, 1) := by decide +kernel
theorem dX0_tintings_38 : decode cX0_tintings 38 = .ok (.lstore_n 2, 1) := by decide +kernel
theorem dX0_tintings_39 : decode cX0_tintings 39 = .ok (.lconst 1, 1) := by decide +kernel
theorem dX0_tintings_40 : decode cX0_tintings 40 = .ok (.lstore 4, 2) := by decide +kernel
theorem dX0_tintings_42 : decode cX0_tintings 42 = .ok (.iconst 0, 1) := by decide +kernel
theorem dX0_tintings_43 : decode cX0_tintings 43 = .ok (.istore 6, 2) := by decide +kernel
theorem dX0_tintings_45 : decode cX0_tintings 45 = .ok (.iload 6, 2) := by decide +kernel
theorem dX0_tintings_47 : decode cX0_tintings 47 = .ok (.iload_n 1, 1) := by decide +kernel
theorem dX0_tintings_48 : decode cX0_tintings 48 = .ok (.if_icmp .ge 42, 3) := by decide +kernel
theorem dX0_tintings_51 : decode cX0_tintings 51 = .ok (.iload 6, 2) := by decide +kernel
theorem dX0_tintings_53 : decode cX0_tintings 53 = .ok (.bipush 10, 2) := by decide +kernel
theorem dX0_tintings_55 : decode cX0_tintings 55 = .ok (.if_icmp .ge 35, 3) := by decide +kernel
theorem dX0_tintings_58 : decode cX0_tintings 58 = .ok (.lload 4, 2) := by decide +kernel
theorem dX0_tintings_60 : decode cX0_tintings 60 = .ok (.iload_n 1, 1) := by decide +kernel
theorem dX0_tintings_61 : decode cX0_tintings 61 = .ok (.iload 6, 2) := by decide +kernel
theorem dX0_tintings_63 : decode cX0_tintings 63 = .ok (.isub, 1) := by decide +kernel
theorem dX0_tintings_64 : decode cX0_tintings 64 = .ok (.i2l, 1) := by decide +kernel
theorem dX0_tintings_65 : decode cX0_tintings 65 = .ok (.lmul, 1) := by decide +kernel
theorem dX0_tintings_66 : decode cX0_tintings 66 = .ok (.lstore 4, 2) := by decide +kernel
theorem dX0_tintings_68 : decode cX0_tintings 68 = .ok (.aload_n 0, 1) := by decide +kernel
theorem dX0_tintings_69 : decode cX0_tintings 69 = .ok (.invokevirtual 165, 3) := by decide +kernel
theorem dX0_tintings_72 : decode cX0_tintings 72 = .ok (.lload_n 2, 1) := by decide +kernel
theorem dX0_tintings_73 : decode cX0_tintings 73 = .ok (.lload 4, 2) := by decide +kernel
theorem dX0_tintings_75 : decode cX0_tintings 75 = .ok (.aload_n 0, 1) := by decide +kernel
theorem dX0_tintings_76 : decode cX0_tintings 76 = .ok (.getfield 31, 3) := by decide +kernel
theorem dX0_tintings_79 : decode cX0_tintings 79 = .ok (.iconst 0, 1) := by decide +kernel
theorem dX0_tintings_80 : decode cX0_tintings 80 = .ok (.laload, 1) := by decide +kernel
theorem dX0_tintings_81 : decode cX0_tintings 81 = .ok (.lmul, 1) := by decide +kernel
theorem dX0_tintings_82 : decode cX0_tintings 82 = .ok (.ladd, 1) := by decide +kernel
theorem dX0_tintings_83 : decode cX0_tintings 83 = .ok (.lstore_n 2, 1) := by decide +kernel
theorem dX0_tintings_84 : decode cX0_tintings 84 = .ok (.iinc 6 1, 3) := by decide +kernel
theorem dX0_tintings_87 : decode cX0_tintings 87 = .ok (.goto (-42), 3) := by decide +kernel
theorem dX0_tintings_90 : decode cX0_tintings 90 = .ok (.lload_n 2, 1) := by decide +kernel
theorem dX0_tintings_91 : decode cX0_tintings 91 = .ok (.lreturn, 1) := by decide +kernel
set_option maxRecDepth 20000 in
theorem ggX0_tintingsByPairs_X0_checkNumberOfTints : GoodIn wsX0_tintingsByPairs wsX0_checkNumberOfTints := goodIn_ca (goodIn_r _ [11, 12, 13] (by decide +kernel) (by decide +kernel)) (goodIn_sub (fun _ h => List.mem_cons_of_mem _ (List.mem_append_right _ h)) (by decide +kernel))
set_option maxRecDepth 20000 in
theorem gX0_tintingsByPairs_X0_checkNumberOfTints : GoodIn wsX0_tintingsByPairs (va_wsS RX0 153 yX0_checkNumberOfTints wsX0_checkNumberOfTints) := goodIn_app (goodIn_of _ (by decide +kernel)) ggX0_tintingsByPairs_X0_checkNumberOfTints
set_option maxRecDepth 20000 in
theorem ggX0_tintingsByPairs_X0_countByPairs : GoodIn wsX0_tintingsByPairs wsX0_countByPairs := goodIn_r _ [16, 17, 18, 10, 19, 20, 21, 22, 23, 24, 25, 26, 27, 28, 29, 30, 31, 32, 33, 34, 35, 36, 37, 38, 39, 40, 41, 14, 15] (by decide +kernel) (by decide +kernel)
set_option maxRecDepth 20000 in
theorem gX0_tintingsByPairs_X0_countByPairs : GoodIn wsX0_tintingsByPairs (va_wsS RX0 174 yX0_countByPairs wsX0_countByPairs) := goodIn_app (goodIn_of _ (by decide +kernel)) ggX0_tintingsByPairs_X0_countByPairs
theorem dX0_tintingsByPairs_0 : decode cX0_tintingsByPairs 0 = .ok (.iload_n 1, 1) := by decide +kernel
theorem dX0_tintingsByPairs_1 : decode cX0_tintingsByPairs 1 = .ok (.invokestatic 153, 3) := by decide +kernel
theorem dX0_tintingsByPairs_4 : decode cX0_tintingsByPairs 4 = .ok (.aload_n 0, 1) := by decide +kernel
theorem dX0_tintingsByPairs_5 : decode cX0_tintingsByPairs 5 = .ok (.getfield 17, 3) := by decide +kernel
theorem dX0_tintingsByPairs_8 : decode cX0_tintingsByPairs 8 = .ok (.iconst 0, 1) := by decide +kernel
theorem dX0_tintingsByPairs_9 : decode cX0_tintingsByPairs 9 = .ok (.aload_n 0, 1) := by decide +kernel
theorem dX0_tintingsByPairs_10 : decode cX0_tintingsByPairs 10 = .ok (.getfield 36, 3) := by decide +kernel
theorem dX0_tintingsByPairs_13 : decode cX0_tintingsByPairs 13 = .ok (.iconst 0, 1) := by decide +kernel
theorem dX0_tintingsByPairs_14 : decode cX0_tintingsByPairs 14 = .ok (.aaload, 1) := by decide +kernel
theorem dX0_tintingsByPairs_15 : decode cX0_tintingsByPairs 15 = .ok (.iconst 0, 1) := by decide +kernel
theorem dX0_tintingsByPairs_16 : decode cX0_tintingsByPairs 16 = .ok (.bipush 10, 2) := by decide +kernel
theorem dX0_tintingsByPairs_18 : decode cX0_tintingsByPairs 18 = .ok (.invokestatic 168, 3) := by decide +kernel
theorem dX0_tintingsByPairs_21 : decode cX0_tintingsByPairs 21 = .ok (.aload_n 0, 1) := by decide +kernel
theorem dX0_tintingsByPairs_22 : decode cX0_tintingsByPairs 22 = .ok (.getfield 36, 3) := by decide +kernel
theorem dX0_tintingsByPairs_25 : decode cX0_tintingsByPairs 25 = .ok (.iconst 0, 1) := by decide +kernel
theorem dX0_tintingsByPairs_26 : decode cX0_tintingsByPairs 26 = .ok (.aload_n 0, 1) := by decide +kernel
theorem dX0_tintingsByPairs_27 : decode cX0_tintingsByPairs 27 = .ok (.getfield 13, 3) := by decide +kernel
theorem dX0_tintingsByPairs_30 : decode cX0_tintingsByPairs 30 = .ok (.iload_n 1, 1) := by decide +kernel
theorem dX0_tintingsByPairs_31 : decode cX0_tintingsByPairs 31 = .ok (.invokestatic 174, 3) := by decide +kernel
theorem dX0_tintingsByPairs_34 : decode cX0_tintingsByPairs 34 = .ok (.lreturn, 1) := by decide +kernel
theorem dX0_checkCell_0 : decode cX0_checkCell 0 = .ok (.iload_n 0, 1) := by decide +kernel
theorem dX0_checkCell_1 : decode cX0_checkCell 1 = .ok (.ifCond .lt 19, 3) := by decide +kernel
theorem dX0_checkCell_4 : decode cX0_checkCell 4 = .ok (.iload_n 0, 1) := by decide +kernel
theorem dX0_checkCell_5 : decode cX0_checkCell 5 = .ok (.bipush 6, 2) := by decide +kernel
theorem dX0_checkCell_7 : decode cX0_checkCell 7 = .ok (.if_icmp .ge 13, 3) := by decide +kernel
theorem dX0_checkCell_10 : decode cX0_checkCell 10 = .ok (.iload_n 1, 1) := by decide +kernel
theorem dX0_checkCell_11 : decode cX0_checkCell 11 = .ok (.ifCond .lt 9, 3) := by decide +kernel
theorem dX0_checkCell_14 : decode cX0_checkCell 14 = .ok (.iload_n 1, 1) := by decide +kernel
theorem dX0_checkCell_15 : decode cX0_checkCell 15 = .ok (.bipush 6, 2) := by decide +kernel
theorem dX0_checkCell_17 : decode cX0_checkCell 17 = .ok (.if_icmp .lt 13, 3) := by decide +kernel
theorem dX0_checkCell_20 : decode cX0_checkCell 20 = .ok (.new 178, 3) := by decide +kernel
theorem dX0_checkCell_23 : decode cX0_checkCell 23 = .ok (.dup, 1) := by decide +kernel
