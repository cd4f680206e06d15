theorem dL_paints_14 : decode cL_paints 14 = .ok (.invokestatic 145, 3) := by decide +kernel
theorem dL_paints_17 : decode cL_paints 17 = .ok (.istore 4, 2) := by decide +kernel
theorem dL_paints_19 : decode cL_paints 19 = .ok (.iload_n 2, 1) := by decide +kernel
theorem dL_paints_20 : decode cL_paints 20 = .ok (.iconst 3, 1) := by decide +kernel
theorem dL_paints_21 : decode cL_paints 21 = .ok (.ishr, 1) := by decide +kernel
theorem dL_paints_22 : decode cL_paints 22 = .ok (.bipush 6, 2) := by decide +kernel
theorem dL_paints_24 : decode cL_paints 24 = .ok (.invokestatic 145, 3) := by decide +kernel
theorem dL_paints_27 : decode cL_paints 27 = .ok (.istore 5, 2) := by decide +kernel
theorem dL_paints_29 : decode cL_paints 29 = .ok (.aload_n 0, 1) := by decide +kernel
theorem dL_paints_30 : decode cL_paints 30 = .ok (.iload 4, 2) := by decide +kernel
theorem dL_paints_32 : decode cL_paints 32 = .ok (.iload 5, 2) := by decide +kernel
theorem dL_paints_34 : decode cL_paints 34 = .ok (.invokestatic 76, 3) := by decide +kernel
theorem dL_paints_37 : decode cL_paints 37 = .ok (.istore 6, 2) := by decide +kernel
theorem dL_paints_39 : decode cL_paints 39 = .ok (.iload_n 1, 1) := by decide +kernel
theorem dL_paints_40 : decode cL_paints 40 = .ok (.iconst 3, 1) := by decide +kernel
theorem dL_paints_41 : decode cL_paints 41 = .ok (.invokestatic 145, 3) := by decide +kernel
theorem dL_paints_44 : decode cL_paints 44 = .ok (.ifCond .ne 64, 3) := by decide +kernel
theorem dL_paints_47 : decode cL_paints 47 = .ok (.aload_n 0, 1) := by decide +kernel
theorem dL_paints_48 : decode cL_paints 48 = .ok (.iload 4, 2) := by decide +kernel
theorem dL_paints_50 : decode cL_paints 50 = .ok (.iload 5, 2) := by decide +kernel
theorem dL_paints_52 : decode cL_paints 52 = .ok (.iload_n 3, 1) := by decide +kernel
theorem dL_paints_53 : decode cL_paints 53 = .ok (.invokestatic 148, 3) := by decide +kernel
theorem dL_paints_56 : decode cL_paints 56 = .ok (.iload 6, 2) := by decide +kernel
theorem dL_paints_58 : decode cL_paints 58 = .ok (.if_icmp .ne 48, 3) := by decide +kernel
theorem dL_paints_61 : decode cL_paints 61 = .ok (.aload_n 0, 1) := by decide +kernel
theorem dL_paints_62 : decode cL_paints 62 = .ok (.iload 4, 2) := by decide +kernel
theorem dL_paints_64 : decode cL_paints 64 = .ok (.iload 5, 2) := by decide +kernel
theorem dL_paints_66 : decode cL_paints 66 = .ok (.invokestatic 76, 3) := by decide +kernel
theorem dL_paints_69 : decode cL_paints 69 = .ok (.iload_n 3, 1) := by decide +kernel
theorem dL_paints_70 : decode cL_paints 70 = .ok (.if_icmp .ne 36, 3) := by decide +kernel
theorem dL_paints_73 : decode cL_paints 73 = .ok (.aload_n 0, 1) := by decide +kernel
theorem dL_paints_74 : decode cL_paints 74 = .ok (.iload 4, 2) := by decide +kernel
theorem dL_paints_76 : decode cL_paints 76 = .ok (.iload 5, 2) := by decide +kernel
theorem dL_paints_78 : decode cL_paints 78 = .ok (.bipush 10, 2) := by decide +kernel
theorem dL_paints_80 : decode cL_paints 80 = .ok (.invokestatic 148, 3) := by decide +kernel
theorem dL_paints_83 : decode cL_paints 83 = .ok (.ldc 21, 2) := by decide +kernel
theorem dL_paints_85 : decode cL_paints 85 = .ok (.if_icmp .ne 21, 3) := by decide +kernel
theorem dL_paints_88 : decode cL_paints 88 = .ok (.aload_n 0, 1) := by decide +kernel
theorem dL_paints_89 : decode cL_paints 89 = .ok (.bipush 6, 2) := by decide +kernel
theorem dL_paints_91 : decode cL_paints 91 = .ok (.iconst 0, 1) := by decide +kernel
theorem dL_paints_92 : decode cL_paints 92 = .ok (.bipush (-2), 2) := by decide +kernel
theorem dL_paints_94 : decode cL_paints 94 = .ok (.invokestatic 148, 3) := by decide +kernel
theorem dL_paints_97 : decode cL_paints 97 = .ok (.ldc 18, 2) := by decide +kernel
theorem dL_paints_99 : decode cL_paints 99 = .ok (.if_icmp .ne 7, 3) := by decide +kernel
theorem dL_paints_102 : decode cL_paints 102 = .ok (.iconst 1, 1) := by decide +kernel
theorem dL_paints_103 : decode cL_paints 103 = .ok (.goto 4, 3) := by decide +kernel
theorem dL_paints_106 : decode cL_paints 106 = .ok (.iconst 0, 1) := by decide +kernel
theorem dL_paints_107 : decode cL_paints 107 = .ok (.ireturn, 1) := by decide +kernel
theorem dL_paints_108 : decode cL_paints 108 = .ok (.iload 4, 2) := by decide +kernel
theorem dL_paints_110 : decode cL_paints 110 = .ok (.iload_n 2, 1) := by decide +kernel
theorem dL_paints_111 : decode cL_paints 111 = .ok (.bipush 6, 2) := by decide +kernel
theorem dL_paints_113 : decode cL_paints 113 = .ok (.ishr, 1) := by decide +kernel
theorem dL_paints_114 : decode cL_paints 114 = .ok (.iload_n 1, 1) := by decide +kernel
theorem dL_paints_115 : decode cL_paints 115 = .ok (.bipush 8, 2) := by decide +kernel
theorem dL_paints_117 : decode cL_paints 117 = .ok (.ishr, 1) := by decide +kernel
theorem dL_paints_118 : decode cL_paints 118 = .ok (.iconst 2, 1) := by decide +kernel
theorem dL_paints_119 : decode cL_paints 119 = .ok (.invokestatic 145, 3) := by decide +kernel
theorem dL_paints_122 : decode cL_paints 122 = .ok (.ifCond .ne 11, 3) := by decide +kernel
theorem dL_paints_125 : decode cL_paints 125 = .ok (.bipush 6, 2) := by decide +kernel
theorem dL_paints_127 : decode cL_paints 127 = .ok (.iload 4, 2) := by decide +kernel
theorem dL_paints_129 : decode cL_paints 129 = .ok (.isub, 1) := by decide +kernel
theorem dL_paints_130 : decode cL_paints 130 = .ok (.goto 4, 3) := by decide +kernel
theorem dL_paints_133 : decode cL_paints 133 = .ok (.iconst 2, 1) := by decide +kernel
theorem dL_paints_134 : decode cL_paints 134 = .ok (.invokestatic 145, 3) := by decide +kernel
theorem dL_paints_137 : decode cL_paints 137 = .ok (.iadd, 1) := by decide +kernel
theorem dL_paints_138 : decode cL_paints 138 = .ok (.istore 7, 2) := by decide +kernel
theorem dL_paints_140 : decode cL_paints 140 = .ok (.iload 5, 2) := by decide +kernel
theorem dL_paints_142 : decode cL_paints 142 = .ok (.iload_n 2, 1) := by decide +kernel
theorem dL_paints_143 : decode cL_paints 143 = .ok (.bipush 9, 2) := by decide +kernel
theorem dL_paints_145 : decode cL_paints 145 = .ok (.ishr, 1) := by decide +kernel
theorem dL_paints_146 : decode cL_paints 146 = .ok (.iload_n 1, 1) := by decide +kernel
theorem dL_paints_147 : decode cL_paints 147 = .ok (.bipush 9, 2) := by decide +kernel
theorem dL_paints_149 : decode cL_paints 149 = .ok (.ishr, 1) := by decide +kernel
theorem dL_paints_150 : decode cL_paints 150 = .ok (.iconst 2, 1) := by decide +kernel
theorem dL_paints_151 : decode cL_paints 151 = .ok (.invokestatic 145, 3) := by decide +kernel
theorem dL_paints_154 : decode cL_paints 154 = .ok (.ifCond .ne 11, 3) := by decide +kernel
theorem dL_paints_157 : decode cL_paints 157 = .ok (.bipush 6, 2) := by decide +kernel
theorem dL_paints_159 : decode cL_paints 159 = .ok (.iload 5, 2) := by decide +kernel
theorem dL_paints_161 : decode cL_paints 161 = .ok (.isub, 1) := by decide +kernel
theorem dL_paints_162 : decode cL_paints 162 = .ok (.goto 4, 3) := by decide +kernel
theorem dL_paints_165 : decode cL_paints 165 = .ok (.iconst 2, 1) := by decide +kernel
theorem dL_paints_166 : decode cL_paints 166 = .ok (.invokestatic 145, 3) := by decide +kernel
theorem dL_paints_169 : decode cL_paints 169 = .ok (.iadd, 1) := by decide +kernel
theorem dL_paints_170 : decode cL_paints 170 = .ok (.istore 8, 2) := by decide +kernel
theorem dL_paints_172 : decode cL_paints 172 = .ok (.iload 7, 2) := by decide +kernel
theorem dL_paints_174 : decode cL_paints 174 = .ok (.iconst 5, 1) := by decide +kernel
theorem dL_paints_175 : decode cL_paints 175 = .ok (.if_icmp .le 7, 3) := by decide +kernel
theorem dL_paints_178 : decode cL_paints 178 = .ok (.iconst 5, 1) := by decide +kernel
theorem dL_paints_179 : decode cL_paints 179 = .ok (.goto 5, 3) := by decide +kernel
theorem dL_paints_182 : decode cL_paints 182 = .ok (.iload 7, 2) := by decide +kernel
theorem dL_paints_184 : decode cL_paints 184 = .ok (.istore 7, 2) := by decide +kernel
theorem dL_paints_186 : decode cL_paints 186 = .ok (.iload 8, 2) := by decide +kernel
theorem dL_paints_188 : decode cL_paints 188 = .ok (.iconst 5, 1) := by decide +kernel
theorem dL_paints_189 : decode cL_paints 189 = .ok (.if_icmp .le 7, 3) := by decide +kernel
theorem dL_paints_192 : decode cL_paints 192 = .ok (.iconst 5, 1) := by decide +kernel
theorem dL_paints_193 : decode cL_paints 193 = .ok (.goto 5, 3) := by decide +kernel
theorem dL_paints_196 : decode cL_paints 196 = .ok (.iload 8, 2) := by decide +kernel
theorem dL_paints_198 : decode cL_paints 198 = .ok (.istore 8, 2) := by decide +kernel
theorem dL_paints_200 : decode cL_paints 200 = .ok (.iconst 0, 1) := by decide +kernel
theorem dL_paints_201 : decode cL_paints 201 = .ok (.istore 9, 2) := by decide +kernel
theorem dL_paints_203 : decode cL_paints 203 = .ok (.iconst 0, 1) := by decide +kernel
theorem dL_paints_204 : decode cL_paints 204 = .ok (.istore 10, 2) := by decide +kernel
theorem dL_paints_206 : decode cL_paints 206 = .ok (.iload 10, 2) := by decide +kernel
theorem dL_paints_208 : decode cL_paints 208 = .ok (.bipush 36, 2) := by decide +kernel
theorem dL_paints_210 : decode cL_paints 210 = .ok (.if_icmp .ge 77, 3) := by decide +kernel
theorem dL_paints_213 : decode cL_paints 213 = .ok (.iload 9, 2) := by decide +kernel
theorem dL_paints_215 : decode cL_paints 215 = .ok (.iload 10, 2) := by decide +kernel
theorem dL_paints_217 : decode cL_paints 217 = .ok (.bipush 6, 2) := by decide +kernel
theorem dL_paints_219 : decode cL_paints 219 = .ok (.idiv, 1) := by decide +kernel
theorem dL_paints_220 : decode cL_paints 220 = .ok (.iload 4, 2) := by decide +kernel
theorem dL_paints_222 : decode cL_paints 222 = .ok (.if_icmp .lt 55, 3) := by decide +kernel
theorem dL_paints_225 : decode cL_paints 225 = .ok (.iload 10, 2) := by decide +kernel
theorem dL_paints_227 : decode cL_paints 227 = .ok (.bipush 6, 2) := by decide +kernel
theorem dL_paints_229 : decode cL_paints 229 = .ok (.idiv, 1) := by decide +kernel
theorem dL_paints_230 : decode cL_paints 230 = .ok (.iload 7, 2) := by decide +kernel
theorem dL_paints_232 : decode cL_paints 232 = .ok (.if_icmp .gt 45, 3) := by decide +kernel
theorem dL_paints_235 : decode cL_paints 235 = .ok (.iload 10, 2) := by decide +kernel
theorem dL_paints_237 : decode cL_paints 237 = .ok (.bipush 6, 2) := by decide +kernel
theorem dL_paints_239 : decode cL_paints 239 = .ok (.irem, 1) := by decide +kernel
theorem dL_paints_240 : decode cL_paints 240 = .ok (.iload 5, 2) := by decide +kernel
theorem dL_paints_242 : decode cL_paints 242 = .ok (.if_icmp .lt 35, 3) := by decide +kernel
theorem dL_paints_245 : decode cL_paints 245 = .ok (.iload 10, 2) := by decide +kernel
theorem dL_paints_247 : decode cL_paints 247 = .ok (.bipush 6, 2) := by decide +kernel
theorem dL_paints_249 : decode cL_paints 249 = .ok (.irem, 1) := by decide +kernel
theorem dL_paints_250 : decode cL_paints 250 = .ok (.iload 8, 2) := by decide +kernel
theorem dL_paints_252 : decode cL_paints 252 = .ok (.if_icmp .gt 25, 3) := by decide +kernel
theorem dL_paints_255 : decode cL_paints 255 = .ok (.aload_n 0, 1) := by decide +kernel
theorem dL_paints_256 : decode cL_paints 256 = .ok (.iload 10, 2) := by decide +kernel
theorem dL_paints_258 : decode cL_paints 258 = .ok (.bipush 6, 2) := by decide +kernel
theorem dL_paints_260 : decode cL_paints 260 = .ok (.idiv, 1) := by decide +kernel
theorem dL_paints_261 : decode cL_paints 261 = .ok (.iload 10, 2) := by decide +kernel
theorem dL_paints_263 : decode cL_paints 263 = .ok (.bipush 6, 2) := by decide +kernel
theorem dL_paints_265 : decode cL_paints 265 = .ok (.irem, 1) := by decide +kernel
theorem dL_paints_266 : decode cL_paints 266 = .ok (.invokestatic 76, 3) := by decide +kernel
theorem dL_paints_269 : decode cL_paints 269 = .ok (.iload_n 3, 1) := by decide +kernel
theorem dL_paints_270 : decode cL_paints 270 = .ok (.if_icmp .eq 7, 3) := by decide +kernel
theorem dL_paints_273 : decode cL_paints 273 = .ok (.iconst 1, 1) := by decide +kernel
theorem dL_paints_274 : decode cL_paints 274 = .ok (.goto 4, 3) := by decide +kernel
theorem dL_paints_277 : decode cL_paints 277 = .ok (.iconst 0, 1) := by decide +kernel
theorem dL_paints_278 : decode cL_paints 278 = .ok (.iadd, 1) := by decide +kernel
theorem dL_paints_279 : decode cL_paints 279 = .ok (.istore 9, 2) := by decide +kernel
theorem dL_paints_281 : decode cL_paints 281 = .ok (.iinc 10 1, 3) := by decide +kernel
theorem dL_paints_284 : decode cL_paints 284 = .ok (.goto (-78), 3) := by decide +kernel
theorem dL_paints_287 : decode cL_paints 287 = .ok (.aload_n 0, 1) := by decide +kernel
theorem dL_paints_288 : decode cL_paints 288 = .ok (.iload 4, 2) := by decide +kernel
theorem dL_paints_290 : decode cL_paints 290 = .ok (.iload 5, 2) := by decide +kernel
theorem dL_paints_292 : decode cL_paints 292 = .ok (.iload 7, 2) := by decide +kernel
theorem dL_paints_294 : decode cL_paints 294 = .ok (.iload 8, 2) := by decide +kernel
theorem dL_paints_296 : decode cL_paints 296 = .ok (.iload_n 3, 1) := by decide +kernel
theorem dL_paints_297 : decode cL_paints 297 = .ok (.invokestatic 151, 3) := by decide +kernel
theorem dL_paints_300 : decode cL_paints 300 = .ok (.iload 9, 2) := by decide +kernel
theorem dL_paints_302 : decode cL_paints 302 = .ok (.if_icmp .ne 79, 3) := by decide +kernel
theorem dL_paints_305 : decode cL_paints 305 = .ok (.aload_n 0, 1) := by decide +kernel
theorem dL_paints_306 : decode cL_paints 306 = .ok (.iload 4, 2) := by decide +kernel
theorem dL_paints_308 : decode cL_paints 308 = .ok (.iload 5, 2) := by decide +kernel
theorem dL_paints_310 : decode cL_paints 310 = .ok (.iload 7, 2) := by decide +kernel
theorem dL_paints_312 : decode cL_paints 312 = .ok (.iload 8, 2) := by decide +kernel
theorem dL_paints_314 : decode cL_paints 314 = .ok (.iload_n 3, 1) := by decide +kernel
theorem dL_paints_315 : decode cL_paints 315 = .ok (.invokestatic 151, 3) := by decide +kernel
theorem dL_paints_318 : decode cL_paints 318 = .ok (.ifCond .ne 63, 3) := by decide +kernel
theorem dL_paints_321 : decode cL_paints 321 = .ok (.aload_n 0, 1) := by decide +kernel
theorem dL_paints_322 : decode cL_paints 322 = .ok (.iload 7, 2) := by decide +kernel
theorem dL_paints_324 : decode cL_paints 324 = .ok (.iload 8, 2) := by decide +kernel
theorem dL_paints_326 : decode cL_paints 326 = .ok (.invokestatic 76, 3) := by decide +kernel
theorem dL_paints_329 : decode cL_paints 329 = .ok (.iload_n 3, 1) := by decide +kernel
theorem dL_paints_330 : decode cL_paints 330 = .ok (.if_icmp .ne 51, 3) := by decide +kernel
theorem dL_paints_333 : decode cL_paints 333 = .ok (.aload_n 0, 1) := by decide +kernel
theorem dL_paints_334 : decode cL_paints 334 = .ok (.iconst 1, 1) := by decide +kernel
theorem dL_paints_335 : decode cL_paints 335 = .ok (.iconst 1, 1) := by decide +kernel
theorem dL_paints_336 : decode cL_paints 336 = .ok (.iconst 0, 1) := by decide +kernel
theorem dL_paints_337 : decode cL_paints 337 = .ok (.iconst 1, 1) := by decide +kernel
theorem dL_paints_338 : decode cL_paints 338 = .ok (.iconst 0, 1) := by decide +kernel
theorem dL_paints_339 : decode cL_paints 339 = .ok (.invokestatic 151, 3) := by decide +kernel
theorem dL_paints_342 : decode cL_paints 342 = .ok (.ldc 21, 2) := by decide +kernel
theorem dL_paints_344 : decode cL_paints 344 = .ok (.if_icmp .ne 37, 3) := by decide +kernel
theorem dL_paints_347 : decode cL_paints 347 = .ok (.aload_n 0, 1) := by decide +kernel
theorem dL_paints_348 : decode cL_paints 348 = .ok (.iconst 0, 1) := by decide +kernel
theorem dL_paints_349 : decode cL_paints 349 = .ok (.iconst 0, 1) := by decide +kernel
theorem dL_paints_350 : decode cL_paints 350 = .ok (.bipush 6, 2) := by decide +kernel
theorem dL_paints_352 : decode cL_paints 352 = .ok (.iconst 0, 1) := by decide +kernel
theorem dL_paints_353 : decode cL_paints 353 = .ok (.bipush 10, 2) := by decide +kernel
theorem dL_paints_355 : decode cL_paints 355 = .ok (.invokestatic 151, 3) := by decide +kernel
theorem dL_paints_358 : decode cL_paints 358 = .ok (.ldc 18, 2) := by decide +kernel
theorem dL_paints_360 : decode cL_paints 360 = .ok (.if_icmp .ne 21, 3) := by decide +kernel
theorem dL_paints_363 : decode cL_paints 363 = .ok (.aload_n 0, 1) := by decide +kernel
theorem dL_paints_364 : decode cL_paints 364 = .ok (.iconst 2, 1) := by decide +kernel
theorem dL_paints_365 : decode cL_paints 365 = .ok (.iconst 3, 1) := by decide +kernel
theorem dL_paints_366 : decode cL_paints 366 = .ok (.iconst 2, 1) := by decide +kernel
theorem dL_paints_367 : decode cL_paints 367 = .ok (.iconst 2, 1) := by decide +kernel
theorem dL_paints_368 : decode cL_paints 368 = .ok (.iconst 0, 1) := by decide +kernel
theorem dL_paints_369 : decode cL_paints 369 = .ok (.invokestatic 151, 3) := by decide +kernel
theorem dL_paints_372 : decode cL_paints 372 = .ok (.ldc 21, 2) := by decide +kernel
theorem dL_paints_374 : decode cL_paints 374 = .ok (.if_icmp .ne 7, 3) := by decide +kernel
theorem dL_paints_377 : decode cL_paints 377 = .ok (.iconst 1, 1) := by decide +kernel
theorem dL_paints_378 : decode cL_paints 378 = .ok (.goto 4, 3) := by decide +kernel
theorem dL_paints_381 : decode cL_paints 381 = .ok (.iconst 0, 1) := by decide +kernel
theorem dL_paints_382 : decode cL_paints 382 = .ok (.ireturn, 1) := by decide +kernel
set_option maxRecDepth 20000 in
theorem ggL_law_X0_init : GoodIn wsL_law wsX0_init := goodIn_r _ [7, 8, 9, 10, 11, 12, 13, 3, 14, 15, 16, 17, 18, 19, 20, 21, 380, 381, 382, 383, 384, 385, 386, 387] (by decide +kernel) (by decide +kernel)
set_option maxRecDepth 20000 in
theorem gL_law_X0_init : GoodIn wsL_law (wsX0_init) := ggL_law_X0_init
set_option maxRecDepth 20000 in
theorem ggL_law_X0_countries : GoodIn wsL_law wsX0_countries := goodIn_r _ [25, 13, 26, 27, 28, 29, 30, 31, 32, 380, 381, 382, 383, 384, 385, 386, 387] (by decide +kernel) (by decide +kernel)
set_option maxRecDepth 20000 in
theorem gL_law_X0_countries : GoodIn wsL_law (wsV RL 98 RX0 yX0_countries wsX0_countries) := goodIn_app (goodIn_of _ (by decide +kernel)) ggL_law_X0_countries
set_option maxRecDepth 20000 in
theorem ggL_law_X0_isTinted : GoodIn wsL_law wsX0_isTinted := goodIn_r _ [36, 13, 37, 38, 39, 2, 40, 15, 41, 42, 43, 44, 14, 26, 27, 28, 29, 30, 31, 32, 380, 381, 382, 383, 384, 385, 386, 387] (by decide +kernel) (by decide +kernel)
set_option maxRecDepth 20000 in
theorem gL_law_X0_isTinted : GoodIn wsL_law (wsV RL 111 RX0 yX0_isTinted wsX0_isTinted) := goodIn_app (goodIn_of _ (by decide +kernel)) ggL_law_X0_isTinted
set_option maxRecDepth 20000 in
theorem ggL_law_X0_fewestTints : GoodIn wsL_law wsX0_fewestTints := goodIn_r _ [48, 49, 50, 51, 2, 52, 14, 13, 16, 53, 54, 55, 56, 57, 58, 59, 60, 61, 62, 63, 64, 65, 380, 381, 382, 383, 384, 385, 386, 387] (by decide +kernel) (by decide +kernel)
set_option maxRecDepth 20000 in
theorem gL_law_X0_fewestTints : GoodIn wsL_law (wsV RL 127 RX0 yX0_fewestTints wsX0_fewestTints) := goodIn_app (goodIn_of _ (by decide +kernel)) ggL_law_X0_fewestTints
set_option maxRecDepth 20000 in
theorem ggL_law_X0_allNeighbours : GoodIn wsL_law wsX0_allNeighbours := goodIn_r _ [69, 18, 13, 56, 57, 58, 59, 70, 71, 72, 2, 73, 14, 26, 27, 28, 29, 30, 31, 32, 380, 381, 382, 383, 384, 385, 386, 387] (by decide +kernel) (by decide +kernel)
set_option maxRecDepth 20000 in
theorem gL_law_X0_allNeighbours : GoodIn wsL_law (wsV RL 130 RX0 yX0_allNeighbours wsX0_allNeighbours) := goodIn_app (goodIn_of _ (by decide +kernel)) ggL_law_X0_allNeighbours
set_option maxRecDepth 20000 in
theorem ggL_law_L_countryAt : GoodIn wsL_law wsL_countryAt := goodIn_ca (goodIn_r _ [77, 78, 4, 79, 80, 81, 2, 82, 83, 84, 85, 86, 87, 88, 89, 90, 91, 92, 93, 94, 12, 380, 381, 382, 383, 384, 385, 386, 387] (by decide +kernel) (by decide +kernel)) (goodIn_sub (fun _ h => List.mem_append_left _ (List.mem_append_left _ (List.mem_append_right _ h))) (by decide +kernel))
set_option maxRecDepth 20000 in
theorem gL_law_L_countryAt : GoodIn wsL_law (va_wsS RL 76 yL_countryAt wsL_countryAt) := goodIn_app (goodIn_of _ (by decide +kernel)) ggL_law_L_countryAt
set_option maxRecDepth 20000 in
theorem ggL_law_L_at : GoodIn wsL_law wsL_at := goodIn_r _ [97, 98, 99] (by decide +kernel) (by decide +kernel)
set_option maxRecDepth 20000 in
theorem gL_law_L_at : GoodIn wsL_law (va_wsS RL 155 yL_at wsL_at) := goodIn_app (goodIn_of _ (by decide +kernel)) ggL_law_L_at
set_option maxRecDepth 20000 in
theorem ggL_law_L_paints : GoodIn wsL_law wsL_paints := goodIn_ca (goodIn_ca (goodIn_r _ [102, 103, 4, 104, 105, 76, 106, 107, 74, 75, 77, 78, 79, 80, 81, 2, 82, 83, 84, 85, 86, 87, 88, 89, 90, 91, 92, 93, 94, 12, 108, 109, 110, 111, 112, 113, 114, 115, 116, 117, 118, 119, 120, 121, 122, 123, 124, 125, 126, 127, 128, 129, 13, 14, 130, 131, 132, 133, 134, 135, 136, 137, 138, 139, 140, 141, 142, 143, 144, 145, 146, 147, 148, 149, 150, 151, 152, 153, 154, 155, 156, 157, 158, 159, 160, 161, 162, 163, 164, 165, 166, 167, 168, 169, 380, 381, 382, 383, 384, 385, 386, 387] (by decide +kernel) (by decide +kernel)) (goodIn_sub (fun _ h => List.mem_append_left _ (List.mem_append_left _ (List.mem_append_right _ h))) (by decide +kernel))) (goodIn_sub (fun _ h => List.mem_append_left _ (List.mem_append_right _ h)) (by decide +kernel))
set_option maxRecDepth 20000 in
theorem gL_law_L_paints : GoodIn wsL_law (va_wsS RL 159 yL_paints wsL_paints) := goodIn_app (goodIn_of _ (by decide +kernel)) ggL_law_L_paints
set_option maxRecDepth 20000 in
theorem ggL_law_L_looks : GoodIn wsL_law wsL_looks := goodIn_ca (goodIn_r _ [172, 3, 4, 173, 174, 76, 175, 74, 75, 77, 78, 79, 80, 81, 2, 82, 83, 84, 85, 86, 87, 88, 89, 90, 91, 92, 93, 94, 12, 176, 177, 178, 179, 180, 181, 182, 183, 184, 185, 163, 164, 165, 166, 167, 168, 169, 186, 187, 188, 189, 190, 191, 192, 14, 26, 27, 28, 29, 30, 31, 32, 193, 194, 195, 196, 197, 198, 199, 200, 201, 202, 203, 204, 205, 125, 206, 207, 208, 209, 210, 211, 130, 131, 132, 133, 134, 135, 136, 137, 138, 139, 140, 141, 142, 143, 144, 145, 146, 147, 212, 213, 214, 215, 216, 217, 218, 56, 57, 58, 59, 219, 220, 221, 222, 223, 224, 225, 22, 23, 24, 25, 13, 380, 381, 382, 383, 384, 385, 386, 387] (by decide +kernel) (by decide +kernel)) (goodIn_sub (fun _ h => List.mem_append_left _ (List.mem_append_left _ (List.mem_append_right _ h))) (by decide +kernel))
set_option maxRecDepth 20000 in
theorem gL_law_L_looks : GoodIn wsL_law (va_wsS RL 163 yL_looks wsL_looks) := goodIn_app (goodIn_of _ (by decide +kernel)) ggL_law_L_looks
set_option maxRecDepth 20000 in
theorem ggL_law_L_low : GoodIn wsL_law wsL_low := goodIn_r _ [106, 107] (by decide +kernel) (by decide +kernel)
set_option maxRecDepth 20000 in
theorem gL_law_L_low : GoodIn wsL_law (va_wsS RL 145 yL_low wsL_low) := goodIn_app (goodIn_of _ (by decide +kernel)) ggL_law_L_low
set_option maxRecDepth 20000 in
theorem ggL_law_L_encloses : GoodIn wsL_law wsL_encloses := goodIn_ca (goodIn_r _ [228, 173, 174, 76, 175, 74, 75, 77, 78, 4, 79, 80, 81, 2, 82, 83, 84, 85, 86, 87, 88, 89, 90, 91, 92, 93, 94, 12, 229, 230, 231, 232, 233, 234, 235, 139, 125, 236, 183, 184, 185, 209, 210, 211, 130, 131, 132, 133, 134, 135, 136, 137, 138, 140, 141, 142, 143, 144, 145, 146, 147, 163, 164, 165, 166, 167, 168, 169, 380, 381, 382, 383, 384, 385, 386, 387] (by decide +kernel) (by decide +kernel)) (goodIn_sub (fun _ h => List.mem_append_left _ (List.mem_append_left _ (List.mem_append_right _ h))) (by decide +kernel))
set_option maxRecDepth 20000 in
theorem gL_law_L_encloses : GoodIn wsL_law (va_wsS RL 167 yL_encloses wsL_encloses) := goodIn_app (goodIn_of _ (by decide +kernel)) ggL_law_L_encloses
set_option maxRecDepth 20000 in
theorem ggL_law_L_tintOf : GoodIn wsL_law wsL_tintOf := goodIn_ca (goodIn_r _ [239, 78, 4, 240, 241, 242, 2, 243, 15, 183, 184, 185, 86, 87, 380, 381, 382, 383, 384, 385, 386, 387] (by decide +kernel) (by decide +kernel)) (goodIn_sub (fun _ h => List.mem_append_left _ (List.mem_append_left _ (List.mem_append_right _ h))) (by decide +kernel))
set_option maxRecDepth 20000 in
theorem gL_law_L_tintOf : GoodIn wsL_law (va_wsS RL 104 yL_tintOf wsL_tintOf) := goodIn_app (goodIn_of _ (by decide +kernel)) ggL_law_L_tintOf
set_option maxRecDepth 20000 in
theorem ggL_law_L_tint : GoodIn wsL_law wsL_tint := goodIn_ca (goodIn_ca (goodIn_r _ [246, 78, 111, 4, 103, 247, 248, 249, 2, 250, 15, 183, 184, 185, 86, 87, 251, 252, 253, 119, 120, 380, 381, 382, 383, 384, 385, 386, 387] (by decide +kernel) (by decide +kernel)) (goodIn_sub (fun _ h => List.mem_append_left _ (List.mem_append_left _ (List.mem_append_right _ h))) (by decide +kernel))) (goodIn_sub (fun _ h => List.mem_append_left _ (List.mem_append_right _ h)) (by decide +kernel))
set_option maxRecDepth 20000 in
theorem gL_law_L_tint : GoodIn wsL_law (va_wsS RL 115 yL_tint wsL_tint) := goodIn_app (goodIn_of _ (by decide +kernel)) ggL_law_L_tint
set_option maxRecDepth 20000 in
theorem ggL_law_L_tints : GoodIn wsL_law wsL_tints := goodIn_ca (goodIn_ca (goodIn_r _ [256, 4, 103, 237, 238, 76, 239, 78, 240, 241, 242, 2, 243, 15, 183, 184, 185, 86, 87, 176, 177, 178, 179, 180, 181, 182, 12, 163, 164, 165, 166, 167, 168, 169, 257, 258, 259, 260, 261, 262, 263, 14, 264, 265, 266, 267, 37, 38, 39, 40, 268, 42, 43, 44, 26, 27, 28, 29, 30, 31, 32, 33, 34, 35, 36, 13, 41, 244, 245, 246, 111, 247, 248, 249, 250, 251, 252, 253, 119, 120, 380, 381, 382, 383, 384, 385, 386, 387] (by decide +kernel) (by decide +kernel)) (goodIn_sub (fun _ h => List.mem_append_left _ (List.mem_append_left _ (List.mem_append_right _ h))) (by decide +kernel))) (goodIn_sub (fun _ h => List.mem_append_left _ (List.mem_append_right _ h)) (by decide +kernel))
set_option maxRecDepth 20000 in
theorem gL_law_L_tints : GoodIn wsL_law (va_wsS RL 171 yL_tints wsL_tints) := goodIn_app (goodIn_of _ (by decide +kernel)) ggL_law_L_tints
set_option maxRecDepth 20000 in
theorem ggL_law_L_chains : GoodIn wsL_law wsL_chains := goodIn_ca (goodIn_ca (goodIn_ca (goodIn_r _ [271, 272, 103, 4, 237, 238, 76, 239, 78, 240, 241, 242, 2, 243, 15, 183, 184, 185, 86, 87, 33, 34, 35, 36, 13, 37, 38, 39, 40, 41, 42, 43, 44, 14, 26, 27, 28, 29, 30, 31, 32, 268, 273, 274, 275, 276, 277, 278, 279, 111, 280, 281, 282, 283, 284, 251, 252, 253, 119, 120, 285, 286, 287, 288, 289, 290, 60, 61, 62, 291, 292, 293, 294, 176, 177, 178, 179, 180, 181, 182, 12, 163, 164, 165, 166, 167, 168, 169, 295, 296, 297, 298, 299, 300, 301, 22, 23, 24, 25, 380, 381, 382, 383, 384, 385, 386, 387] (by decide +kernel) (by decide +kernel)) (goodIn_sub (fun _ h => List.mem_append_left _ (List.mem_append_left _ (List.mem_append_right _ h))) (by decide +kernel))) (goodIn_sub (fun _ h => List.mem_append_left _ (List.mem_append_right _ h)) (by decide +kernel))) (goodIn_sub (fun _ h => List.mem_append_right _ h) (by decide +kernel))
set_option maxRecDepth 20000 in
theorem gL_law_L_chains : GoodIn wsL_law (va_wsS RL 174 yL_chains wsL_chains) := goodIn_app (goodIn_of _ (by decide +kernel)) ggL_law_L_chains
set_option maxRecDepth 20000 in
theorem ggL_law_L_counts : GoodIn wsL_law wsL_counts := goodIn_ca (goodIn_r _ [304, 305, 45, 46, 47, 2, 48, 49, 50, 51, 52, 14, 13, 16, 53, 54, 55, 56, 57, 58, 59, 60, 61, 62, 63, 64, 65, 66, 67, 68, 69, 18, 70, 71, 72, 73, 26, 27, 28, 29, 30, 31, 32, 22, 23, 24, 25, 193, 194, 76, 195, 306, 307, 308, 111, 309, 310, 311, 312, 19, 313, 314, 315, 119, 120, 316, 317, 318, 319, 320, 321, 322, 323, 324, 325, 326, 327, 328, 329, 330, 331, 332, 333, 334, 335, 336, 337, 338, 21, 339, 340, 341, 342, 343, 344, 345, 346, 347, 348, 349, 350, 351, 352, 353, 354, 355, 356, 357, 358, 359, 360, 380, 381, 382, 383, 384, 385, 386, 387] (by decide +kernel) (by decide +kernel)) (goodIn_sub (fun _ h => List.mem_append_left _ (List.mem_append_right _ h)) (by decide +kernel))
set_option maxRecDepth 20000 in
theorem gL_law_L_counts : GoodIn wsL_law (va_wsS RL 177 yL_counts wsL_counts) := goodIn_app (goodIn_of _ (by decide +kernel)) ggL_law_L_counts
set_option maxRecDepth 20000 in
theorem ggL_law_L_orders : GoodIn wsL_law wsL_orders := goodIn_ca (goodIn_r _ [363, 45, 46, 47, 2, 48, 49, 50, 51, 52, 14, 13, 16, 53, 54, 55, 56, 57, 58, 59, 60, 61, 62, 63, 64, 65, 364, 365, 366, 367, 15, 368, 369, 370, 371, 264, 265, 266, 267, 37, 38, 39, 40, 372, 373, 374, 375, 26, 27, 28, 29, 30, 31, 32, 176, 177, 76, 178, 78, 4, 179, 180, 181, 182, 12, 183, 184, 185, 86, 87, 163, 164, 165, 166, 167, 168, 169, 237, 238, 239, 240, 241, 242, 243, 193, 194, 195, 33, 34, 35, 36, 41, 42, 43, 44, 376, 377, 378, 379, 380, 381, 382, 383, 384, 385, 386, 387] (by decide +kernel) (by decide +kernel)) (goodIn_sub (fun _ h => List.mem_append_left _ (List.mem_append_left _ (List.mem_append_right _ h))) (by decide +kernel))
set_option maxRecDepth 20000 in
theorem gL_law_L_orders : GoodIn wsL_law (va_wsS RL 180 yL_orders wsL_orders) := goodIn_app (goodIn_of _ (by decide +kernel)) ggL_law_L_orders
theorem dL_law_0 : decode cL_law 0 = .ok (.new 11, 3) := by decide +kernel
theorem dL_law_3 : decode cL_law 3 = .ok (.dup, 1) := by decide +kernel
theorem dL_law_4 : decode cL_law 4 = .ok (.invokespecial 154, 3) := by decide +kernel
theorem dL_law_7 : decode cL_law 7 = .ok (.astore_n 1, 1) := by decide +kernel
theorem dL_law_8 : decode cL_law 8 = .ok (.bipush 10, 2) := by decide +kernel
theorem dL_law_10 : decode cL_law 10 = .ok (.newarray .int, 2) := by decide +kernel
theorem dL_law_12 : decode cL_law 12 = .ok (.astore_n 2, 1) := by decide +kernel
theorem dL_law_13 : decode cL_law 13 = .ok (.aload_n 1, 1) := by decide +kernel
theorem dL_law_14 : decode cL_law 14 = .ok (.invokevirtual 98, 3) := by decide +kernel
theorem dL_law_17 : decode cL_law 17 = .ok (.ifCond .ne 50, 3) := by decide +kernel
theorem dL_law_20 : decode cL_law 20 = .ok (.aload_n 1, 1) := by decide +kernel
theorem dL_law_21 : decode cL_law 21 = .ok (.invokevirtual 111, 3) := by decide +kernel
theorem dL_law_24 : decode cL_law 24 = .ok (.ifCond .eq 43, 3) := by decide +kernel
theorem dL_law_27 : decode cL_law 27 = .ok (.aload_n 1, 1) := by decide +kernel
theorem dL_law_28 : decode cL_law 28 = .ok (.invokevirtual 127, 3) := by decide +kernel
theorem dL_law_31 : decode cL_law 31 = .ok (.ifCond .ne 36, 3) := by decide +kernel
theorem dL_law_34 : decode cL_law 34 = .ok (.aload_n 1, 1) := by decide +kernel
theorem dL_law_35 : decode cL_law 35 = .ok (.invokevirtual 130, 3) := by decide +kernel
theorem dL_law_38 : decode cL_law 38 = .ok (.ifCond .ne 29, 3) := by decide +kernel
theorem dL_law_41 : decode cL_law 41 = .ok (.aload_n 1, 1) := by decide +kernel
theorem dL_law_42 : decode cL_law 42 = .ok (.iconst 5, 1) := by decide +kernel
theorem dL_law_43 : decode cL_law 43 = .ok (.iconst 5, 1) := by decide +kernel
theorem dL_law_44 : decode cL_law 44 = .ok (.invokestatic 76, 3) := by decide +kernel
theorem dL_law_47 : decode cL_law 47 = .ok (.iconst (-1), 1) := by decide +kernel
theorem dL_law_48 : decode cL_law 48 = .ok (.if_icmp .ne 19, 3) := by decide +kernel
theorem dL_law_51 : decode cL_law 51 = .ok (.aload_n 1, 1) := by decide +kernel
theorem dL_law_52 : decode cL_law 52 = .ok (.iconst 5, 1) := by decide +kernel
theorem dL_law_53 : decode cL_law 53 = .ok (.bipush 6, 2) := by decide +kernel
theorem dL_law_55 : decode cL_law 55 = .ok (.invokestatic 76, 3) := by decide +kernel
theorem dL_law_58 : decode cL_law 58 = .ok (.ldc 18, 2) := by decide +kernel
theorem dL_law_60 : decode cL_law 60 = .ok (.if_icmp .ne 7, 3) := by decide +kernel
theorem dL_law_63 : decode cL_law 63 = .ok (.iconst 1, 1) := by decide +kernel
theorem dL_law_64 : decode cL_law 64 = .ok (.goto 4, 3) := by decide +kernel
theorem dL_law_67 : decode cL_law 67 = .ok (.iconst 0, 1) := by decide +kernel
theorem dL_law_68 : decode cL_law 68 = .ok (.istore_n 3, 1) := by decide +kernel
theorem dL_law_69 : decode cL_law 69 = .ok (.iconst 0, 1) := by decide +kernel
theorem dL_law_70 : decode cL_law 70 = .ok (.istore 4, 2) := by decide +kernel
theorem dL_law_72 : decode cL_law 72 = .ok (.iload 4, 2) := by decide +kernel
theorem dL_law_74 : decode cL_law 74 = .ok (.bipush 40, 2) := by decide +kernel
theorem dL_law_76 : decode cL_law 76 = .ok (.if_icmp .ge 281, 3) := by decide +kernel
theorem dL_law_79 : decode cL_law 79 = .ok (.iload_n 3, 1) := by decide +kernel
theorem dL_law_80 : decode cL_law 80 = .ok (.ifCond .eq 277, 3) := by decide +kernel
theorem dL_law_83 : decode cL_law 83 = .ok (.aload_n 0, 1) := by decide +kernel
theorem dL_law_84 : decode cL_law 84 = .ok (.iconst 2, 1) := by decide +kernel
theorem dL_law_85 : decode cL_law 85 = .ok (.iload 4, 2) := by decide +kernel
theorem dL_law_87 : decode cL_law 87 = .ok (.imul, 1) := by decide +kernel
theorem dL_law_88 : decode cL_law 88 = .ok (.invokestatic 155, 3) := by decide +kernel
theorem dL_law_91 : decode cL_law 91 = .ok (.istore 5, 2) := by decide +kernel
theorem dL_law_93 : decode cL_law 93 = .ok (.aload_n 0, 1) := by decide +kernel
theorem dL_law_94 : decode cL_law 94 = .ok (.iconst 2, 1) := by decide +kernel
theorem dL_law_95 : decode cL_law 95 = .ok (.iload 4, 2) := by decide +kernel
theorem dL_law_97 : decode cL_law 97 = .ok (.imul, 1) := by decide +kernel
theorem dL_law_98 : decode cL_law 98 = .ok (.iconst 1, 1) := by decide +kernel
theorem dL_law_99 : decode cL_law 99 = .ok (.iadd, 1) := by decide +kernel
theorem dL_law_100 : decode cL_law 100 = .ok (.invokestatic 155, 3) := by decide +kernel
theorem dL_law_103 : decode cL_law 103 = .ok (.istore 6, 2) := by decide +kernel
theorem dL_law_105 : decode cL_law 105 = .ok (.aload_n 1, 1) := by decide +kernel
theorem dL_law_106 : decode cL_law 106 = .ok (.iload 5, 2) := by decide +kernel
theorem dL_law_108 : decode cL_law 108 = .ok (.iload 6, 2) := by decide +kernel
theorem dL_law_110 : decode cL_law 110 = .ok (.invokestatic 159, 3) := by decide +kernel
theorem dL_law_113 : decode cL_law 113 = .ok (.ifCond .eq 32, 3) := by decide +kernel
theorem dL_law_116 : decode cL_law 116 = .ok (.aload_n 1, 1) := by decide +kernel
theorem dL_law_117 : decode cL_law 117 = .ok (.aload_n 2, 1) := by decide +kernel
theorem dL_law_118 : decode cL_law 118 = .ok (.invokestatic 163, 3) := by decide +kernel
theorem dL_law_121 : decode cL_law 121 = .ok (.ifCond .eq 24, 3) := by decide +kernel
theorem dL_law_124 : decode cL_law 124 = .ok (.aload_n 1, 1) := by decide +kernel
theorem dL_law_125 : decode cL_law 125 = .ok (.iload 6, 2) := by decide +kernel
theorem dL_law_127 : decode cL_law 127 = .ok (.bipush 12, 2) := by decide +kernel
theorem dL_law_129 : decode cL_law 129 = .ok (.ishr, 1) := by decide +kernel
theorem dL_law_130 : decode cL_law 130 = .ok (.bipush 10, 2) := by decide +kernel
theorem dL_law_132 : decode cL_law 132 = .ok (.invokestatic 145, 3) := by decide +kernel
theorem dL_law_135 : decode cL_law 135 = .ok (.invokestatic 167, 3) := by decide +kernel
theorem dL_law_138 : decode cL_law 138 = .ok (.ifCond .eq 7, 3) := by decide +kernel
theorem dL_law_141 : decode cL_law 141 = .ok (.iconst 1, 1) := by decide +kernel
theorem dL_law_142 : decode cL_law 142 = .ok (.goto 4, 3) := by decide +kernel
theorem dL_law_145 : decode cL_law 145 = .ok (.iconst 0, 1) := by decide +kernel
theorem dL_law_146 : decode cL_law 146 = .ok (.istore_n 3, 1) := by decide +kernel
theorem dL_law_147 : decode cL_law 147 = .ok (.aload_n 1, 1) := by decide +kernel
theorem dL_law_148 : decode cL_law 148 = .ok (.iload 5, 2) := by decide +kernel
theorem dL_law_150 : decode cL_law 150 = .ok (.bipush 10, 2) := by decide +kernel
theorem dL_law_152 : decode cL_law 152 = .ok (.ishr, 1) := by decide +kernel
theorem dL_law_153 : decode cL_law 153 = .ok (.bipush 10, 2) := by decide +kernel
theorem dL_law_155 : decode cL_law 155 = .ok (.invokestatic 145, 3) := by decide +kernel
theorem dL_law_158 : decode cL_law 158 = .ok (.invokestatic 104, 3) := by decide +kernel
theorem dL_law_161 : decode cL_law 161 = .ok (.istore 7, 2) := by decide +kernel
theorem dL_law_163 : decode cL_law 163 = .ok (.iload_n 3, 1) := by decide +kernel
theorem dL_law_164 : decode cL_law 164 = .ok (.ifCond .eq 100, 3) := by decide +kernel
theorem dL_law_167 : decode cL_law 167 = .ok (.aload_n 1, 1) := by decide +kernel
theorem dL_law_168 : decode cL_law 168 = .ok (.iload 5, 2) := by decide +kernel
theorem dL_law_170 : decode cL_law 170 = .ok (.bipush 10, 2) := by decide +kernel
theorem dL_law_172 : decode cL_law 172 = .ok (.ishr, 1) := by decide +kernel
theorem dL_law_173 : decode cL_law 173 = .ok (.bipush 10, 2) := by decide +kernel
theorem dL_law_175 : decode cL_law 175 = .ok (.invokestatic 145, 3) := by decide +kernel
theorem dL_law_178 : decode cL_law 178 = .ok (.iload 6, 2) := by decide +kernel
theorem dL_law_180 : decode cL_law 180 = .ok (.bipush 13, 2) := by decide +kernel
theorem dL_law_182 : decode cL_law 182 = .ok (.ishr, 1) := by decide +kernel
theorem dL_law_183 : decode cL_law 183 = .ok (.bipush 11, 2) := by decide +kernel
theorem dL_law_185 : decode cL_law 185 = .ok (.invokestatic 145, 3) := by decide +kernel
theorem dL_law_188 : decode cL_law 188 = .ok (.invokestatic 115, 3) := by decide +kernel
theorem dL_law_191 : decode cL_law 191 = .ok (.iload 7, 2) := by decide +kernel
theorem dL_law_193 : decode cL_law 193 = .ok (.if_icmp .ne 71, 3) := by decide +kernel
theorem dL_law_196 : decode cL_law 196 = .ok (.aload_n 1, 1) := by decide +kernel
theorem dL_law_197 : decode cL_law 197 = .ok (.iload 5, 2) := by decide +kernel
theorem dL_law_199 : decode cL_law 199 = .ok (.bipush 10, 2) := by decide +kernel
theorem dL_law_201 : decode cL_law 201 = .ok (.ishr, 1) := by decide +kernel
theorem dL_law_202 : decode cL_law 202 = .ok (.bipush 10, 2) := by decide +kernel
theorem dL_law_204 : decode cL_law 204 = .ok (.invokestatic 145, 3) := by decide +kernel
theorem dL_law_207 : decode cL_law 207 = .ok (.invokestatic 104, 3) := by decide +kernel
theorem dL_law_210 : decode cL_law 210 = .ok (.iload 6, 2) := by decide +kernel
theorem dL_law_212 : decode cL_law 212 = .ok (.bipush 13, 2) := by decide +kernel
theorem dL_law_214 : decode cL_law 214 = .ok (.ishr, 1) := by decide +kernel
theorem dL_law_215 : decode cL_law 215 = .ok (.bipush 11, 2) := by decide +kernel
theorem dL_law_217 : decode cL_law 217 = .ok (.invokestatic 145, 3) := by decide +kernel
theorem dL_law_220 : decode cL_law 220 = .ok (.if_icmp .ne 44, 3) := by decide +kernel
theorem dL_law_223 : decode cL_law 223 = .ok (.aload_n 1, 1) := by decide +kernel
theorem dL_law_224 : decode cL_law 224 = .ok (.aload_n 2, 1) := by decide +kernel
theorem dL_law_225 : decode cL_law 225 = .ok (.invokestatic 171, 3) := by decide +kernel
theorem dL_law_228 : decode cL_law 228 = .ok (.ifCond .eq 36, 3) := by decide +kernel
theorem dL_law_231 : decode cL_law 231 = .ok (.aload_n 1, 1) := by decide +kernel
theorem dL_law_232 : decode cL_law 232 = .ok (.iload 5, 2) := by decide +kernel
theorem dL_law_234 : decode cL_law 234 = .ok (.bipush 14, 2) := by decide +kernel
theorem dL_law_236 : decode cL_law 236 = .ok (.ishr, 1) := by decide +kernel
theorem dL_law_237 : decode cL_law 237 = .ok (.bipush 10, 2) := by decide +kernel
theorem dL_law_239 : decode cL_law 239 = .ok (.invokestatic 145, 3) := by decide +kernel
theorem dL_law_242 : decode cL_law 242 = .ok (.iconst 1, 1) := by decide +kernel
theorem dL_law_243 : decode cL_law 243 = .ok (.iload 6, 2) := by decide +kernel
theorem dL_law_245 : decode cL_law 245 = .ok (.bipush 17, 2) := by decide +kernel
theorem dL_law_247 : decode cL_law 247 = .ok (.ishr, 1) := by decide +kernel
theorem dL_law_248 : decode cL_law 248 = .ok (.bipush 10, 2) := by decide +kernel
theorem dL_law_250 : decode cL_law 250 = .ok (.invokestatic 145, 3) := by decide +kernel
theorem dL_law_253 : decode cL_law 253 = .ok (.iadd, 1) := by decide +kernel
theorem dL_law_254 : decode cL_law 254 = .ok (.invokestatic 174, 3) := by decide +kernel
theorem dL_law_257 : decode cL_law 257 = .ok (.ifCond .eq 7, 3) := by decide +kernel
theorem dL_law_260 : decode cL_law 260 = .ok (.iconst 1, 1) := by decide +kernel
theorem dL_law_261 : decode cL_law 261 = .ok (.goto 4, 3) := by decide +kernel
theorem dL_law_264 : decode cL_law 264 = .ok (.iconst 0, 1) := by decide +kernel
theorem dL_law_265 : decode cL_law 265 = .ok (.istore_n 3, 1) := by decide +kernel
theorem dL_law_266 : decode cL_law 266 = .ok (.iload_n 3, 1) := by decide +kernel
theorem dL_law_267 : decode cL_law 267 = .ok (.ifCond .eq 84, 3) := by decide +kernel
theorem dL_law_270 : decode cL_law 270 = .ok (.iload 4, 2) := by decide +kernel
theorem dL_law_272 : decode cL_law 272 = .ok (.iconst 4, 1) := by decide +kernel
theorem dL_law_273 : decode cL_law 273 = .ok (.irem, 1) := by decide +kernel
theorem dL_law_274 : decode cL_law 274 = .ok (.iconst 3, 1) := by decide +kernel
theorem dL_law_275 : decode cL_law 275 = .ok (.if_icmp .ne 76, 3) := by decide +kernel
theorem dL_law_278 : decode cL_law 278 = .ok (.aload_n 1, 1) := by decide +kernel
theorem dL_law_279 : decode cL_law 279 = .ok (.aload_n 2, 1) := by decide +kernel
theorem dL_law_280 : decode cL_law 280 = .ok (.invokestatic 177, 3) := by decide +kernel
theorem dL_law_283 : decode cL_law 283 = .ok (.ifCond .eq 66, 3) := by decide +kernel
theorem dL_law_286 : decode cL_law 286 = .ok (.aload_n 1, 1) := by decide +kernel
theorem dL_law_287 : decode cL_law 287 = .ok (.aload_n 2, 1) := by decide +kernel
theorem dL_law_288 : decode cL_law 288 = .ok (.iload 5, 2) := by decide +kernel
theorem dL_law_290 : decode cL_law 290 = .ok (.bipush 18, 2) := by decide +kernel
theorem dL_law_292 : decode cL_law 292 = .ok (.ishr, 1) := by decide +kernel
theorem dL_law_293 : decode cL_law 293 = .ok (.iconst 2, 1) := by decide +kernel
theorem dL_law_294 : decode cL_law 294 = .ok (.invokestatic 145, 3) := by decide +kernel
theorem dL_law_297 : decode cL_law 297 = .ok (.ifCond .ne 7, 3) := by decide +kernel
theorem dL_law_300 : decode cL_law 300 = .ok (.iconst 1, 1) := by decide +kernel
theorem dL_law_301 : decode cL_law 301 = .ok (.goto 4, 3) := by decide +kernel
theorem dL_law_304 : decode cL_law 304 = .ok (.iconst 0, 1) := by decide +kernel
theorem dL_law_305 : decode cL_law 305 = .ok (.invokestatic 180, 3) := by decide +kernel
theorem dL_law_308 : decode cL_law 308 = .ok (.ifCond .eq 41, 3) := by decide +kernel
theorem dL_law_311 : decode cL_law 311 = .ok (.aload_n 1, 1) := by decide +kernel
theorem dL_law_312 : decode cL_law 312 = .ok (.aload_n 2, 1) := by decide +kernel
theorem dL_law_313 : decode cL_law 313 = .ok (.invokestatic 171, 3) := by decide +kernel
theorem dL_law_316 : decode cL_law 316 = .ok (.ifCond .eq 33, 3) := by decide +kernel
theorem dL_law_319 : decode cL_law 319 = .ok (.aload_n 1, 1) := by decide +kernel
theorem dL_law_320 : decode cL_law 320 = .ok (.iload 6, 2) := by decide +kernel
theorem dL_law_322 : decode cL_law 322 = .ok (.iconst 5, 1) := by decide +kernel
theorem dL_law_323 : decode cL_law 323 = .ok (.ishr, 1) := by decide +kernel
theorem dL_law_324 : decode cL_law 324 = .ok (.bipush 10, 2) := by decide +kernel
theorem dL_law_326 : decode cL_law 326 = .ok (.invokestatic 145, 3) := by decide +kernel
theorem dL_law_329 : decode cL_law 329 = .ok (.iconst 1, 1) := by decide +kernel
theorem dL_law_330 : decode cL_law 330 = .ok (.iload 5, 2) := by decide +kernel
theorem dL_law_332 : decode cL_law 332 = .ok (.iconst 5, 1) := by decide +kernel
theorem dL_law_333 : decode cL_law 333 = .ok (.ishr, 1) := by decide +kernel
theorem dL_law_334 : decode cL_law 334 = .ok (.iconst 4, 1) := by decide +kernel
theorem dL_law_335 : decode cL_law 335 = .ok (.invokestatic 145, 3) := by decide +kernel
theorem dL_law_338 : decode cL_law 338 = .ok (.iadd, 1) := by decide +kernel
theorem dL_law_339 : decode cL_law 339 = .ok (.invokestatic 174, 3) := by decide +kernel
theorem dL_law_342 : decode cL_law 342 = .ok (.ifCond .eq 7, 3) := by decide +kernel
theorem dL_law_345 : decode cL_law 345 = .ok (.iconst 1, 1) := by decide +kernel
theorem dL_law_346 : decode cL_law 346 = .ok (.goto 4, 3) := by decide +kernel
theorem dL_law_349 : decode cL_law 349 = .ok (.iconst 0, 1) := by decide +kernel
theorem dL_law_350 : decode cL_law 350 = .ok (.istore_n 3, 1) := by decide +kernel
theorem dL_law_351 : decode cL_law 351 = .ok (.iinc 4 1, 3) := by decide +kernel
theorem dL_law_354 : decode cL_law 354 = .ok (.goto (-282), 3) := by decide +kernel
theorem dL_law_357 : decode cL_law 357 = .ok (.iload_n 3, 1) := by decide +kernel
theorem dL_law_358 : decode cL_law 358 = .ok (.ireturn, 1) := by decide +kernel
