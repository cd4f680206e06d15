theorem dL_encloses_229 : decode cL_encloses 229 = .ok (.aload_n 0, 1) := by decide +kernel
theorem dL_encloses_230 : decode cL_encloses 230 = .ok (.iload_n 1, 1) := by decide +kernel
theorem dL_encloses_231 : decode cL_encloses 231 = .ok (.invokestatic 102, 3) := by decide +kernel
theorem dL_encloses_234 : decode cL_encloses 234 = .ok (.iload 5, 2) := by decide +kernel
theorem dL_encloses_236 : decode cL_encloses 236 = .ok (.if_icmp .ne 7, 3) := by decide +kernel
theorem dL_encloses_239 : decode cL_encloses 239 = .ok (.iconst 1, 1) := by decide +kernel
theorem dL_encloses_240 : decode cL_encloses 240 = .ok (.goto 4, 3) := by decide +kernel
theorem dL_encloses_243 : decode cL_encloses 243 = .ok (.iconst 0, 1) := by decide +kernel
theorem dL_encloses_244 : decode cL_encloses 244 = .ok (.ireturn, 1) := by decide +kernel
set_option maxRecDepth 20000 in
theorem ggL_tints_L_tintOf : GoodIn wsL_tints wsL_tintOf := goodIn_ca (goodIn_r _ [6, 7, 1, 8, 9, 10, 11, 12, 13, 14, 15, 16, 17, 18, 80, 81, 82, 83, 84, 85, 86, 87] (by decide +kernel) (by decide +kernel)) (goodIn_sub (fun _ h => List.mem_cons_of_mem _ (List.mem_append_left _ (List.mem_append_right _ h))) (by decide +kernel))
set_option maxRecDepth 20000 in
theorem gL_tints_L_tintOf : GoodIn wsL_tints (va_wsS RL 104 yL_tintOf wsL_tintOf) := goodIn_app (goodIn_of _ (by decide +kernel)) ggL_tints_L_tintOf
set_option maxRecDepth 20000 in
theorem ggL_tints_L_area : GoodIn wsL_tints wsL_area := goodIn_ca (goodIn_r _ [21, 7, 1, 22, 23, 24, 11, 25, 26, 14, 15, 16, 17, 18, 27, 28, 29, 30, 31, 32, 33, 80, 81, 82, 83, 84, 85, 86, 87] (by decide +kernel) (by decide +kernel)) (goodIn_sub (fun _ h => List.mem_cons_of_mem _ (List.mem_append_left _ (List.mem_append_right _ h))) (by decide +kernel))
set_option maxRecDepth 20000 in
theorem gL_tints_L_area : GoodIn wsL_tints (va_wsS RL 84 yL_area wsL_area) := goodIn_app (goodIn_of _ (by decide +kernel)) ggL_tints_L_area
set_option maxRecDepth 20000 in
theorem ggL_tints_L_leastFree : GoodIn wsL_tints wsL_leastFree := goodIn_ca (goodIn_r _ [36, 7, 1, 37, 38, 39, 11, 40, 41, 14, 15, 16, 17, 18, 42, 43, 44, 45, 46, 47, 48, 49, 13, 80, 81, 82, 83, 84, 85, 86, 87] (by decide +kernel) (by decide +kernel)) (goodIn_sub (fun _ h => List.mem_cons_of_mem _ (List.mem_append_left _ (List.mem_append_right _ h))) (by decide +kernel))
set_option maxRecDepth 20000 in
theorem gL_tints_L_leastFree : GoodIn wsL_tints (va_wsS RL 106 yL_leastFree wsL_leastFree) := goodIn_app (goodIn_of _ (by decide +kernel)) ggL_tints_L_leastFree
set_option maxRecDepth 20000 in
theorem ggL_tints_X0_conflicts : GoodIn wsL_tints wsX0_conflicts := goodIn_r _ [53, 13, 41, 46, 47, 48, 11, 49, 54, 55, 56, 57, 58, 59, 60, 80, 81, 82, 83, 84, 85, 86, 87] (by decide +kernel) (by decide +kernel)
set_option maxRecDepth 20000 in
theorem gL_tints_X0_conflicts : GoodIn wsL_tints (wsV RL 108 RX0 yX0_conflicts wsX0_conflicts) := goodIn_app (goodIn_of _ (by decide +kernel)) ggL_tints_X0_conflicts
set_option maxRecDepth 20000 in
theorem ggL_tints_X0_isTinted : GoodIn wsL_tints wsX0_isTinted := goodIn_r _ [64, 65, 46, 47, 48, 11, 49, 13, 66, 51, 52, 53, 41, 54, 55, 56, 57, 58, 59, 60, 80, 81, 82, 83, 84, 85, 86, 87] (by decide +kernel) (by decide +kernel)
set_option maxRecDepth 20000 in
theorem gL_tints_X0_isTinted : GoodIn wsL_tints (wsV RL 111 RX0 yX0_isTinted wsX0_isTinted) := goodIn_app (goodIn_of _ (by decide +kernel)) ggL_tints_X0_isTinted
set_option maxRecDepth 20000 in
theorem ggL_tints_L_tint : GoodIn wsL_tints wsL_tint := goodIn_ca (goodIn_ca (goodIn_r _ [69, 7, 70, 1, 2, 71, 72, 73, 11, 74, 13, 14, 15, 16, 17, 18, 75, 76, 77, 78, 79, 80, 81, 82, 83, 84, 85, 86, 87] (by decide +kernel) (by decide +kernel)) (goodIn_sub (fun _ h => List.mem_cons_of_mem _ (List.mem_append_left _ (List.mem_append_right _ h))) (by decide +kernel))) (goodIn_sub (fun _ h => List.mem_cons_of_mem _ (List.mem_append_right _ h)) (by decide +kernel))
set_option maxRecDepth 20000 in
theorem gL_tints_L_tint : GoodIn wsL_tints (va_wsS RL 115 yL_tint wsL_tint) := goodIn_app (goodIn_of _ (by decide +kernel)) ggL_tints_L_tint
theorem dL_tints_0 : decode cL_tints 0 = .ok (.iconst 0, 1) := by decide +kernel
theorem dL_tints_1 : decode cL_tints 1 = .ok (.istore_n 2, 1) := by decide +kernel
theorem dL_tints_2 : decode cL_tints 2 = .ok (.iconst 1, 1) := by decide +kernel
theorem dL_tints_3 : decode cL_tints 3 = .ok (.istore_n 3, 1) := by decide +kernel
theorem dL_tints_4 : decode cL_tints 4 = .ok (.iconst 0, 1) := by decide +kernel
theorem dL_tints_5 : decode cL_tints 5 = .ok (.istore 4, 2) := by decide +kernel
theorem dL_tints_7 : decode cL_tints 7 = .ok (.iload 4, 2) := by decide +kernel
theorem dL_tints_9 : decode cL_tints 9 = .ok (.bipush 10, 2) := by decide +kernel
theorem dL_tints_11 : decode cL_tints 11 = .ok (.if_icmp .ge 202, 3) := by decide +kernel
theorem dL_tints_14 : decode cL_tints 14 = .ok (.aload_n 0, 1) := by decide +kernel
theorem dL_tints_15 : decode cL_tints 15 = .ok (.iload 4, 2) := by decide +kernel
theorem dL_tints_17 : decode cL_tints 17 = .ok (.invokestatic 104, 3) := by decide +kernel
theorem dL_tints_20 : decode cL_tints 20 = .ok (.istore 5, 2) := by decide +kernel
theorem dL_tints_22 : decode cL_tints 22 = .ok (.iconst 0, 1) := by decide +kernel
theorem dL_tints_23 : decode cL_tints 23 = .ok (.istore 6, 2) := by decide +kernel
theorem dL_tints_25 : decode cL_tints 25 = .ok (.iconst 0, 1) := by decide +kernel
theorem dL_tints_26 : decode cL_tints 26 = .ok (.istore 7, 2) := by decide +kernel
theorem dL_tints_28 : decode cL_tints 28 = .ok (.iload 7, 2) := by decide +kernel
theorem dL_tints_30 : decode cL_tints 30 = .ok (.bipush 10, 2) := by decide +kernel
theorem dL_tints_32 : decode cL_tints 32 = .ok (.if_icmp .ge 87, 3) := by decide +kernel
theorem dL_tints_35 : decode cL_tints 35 = .ok (.aload_n 1, 1) := by decide +kernel
theorem dL_tints_36 : decode cL_tints 36 = .ok (.iload 4, 2) := by decide +kernel
theorem dL_tints_38 : decode cL_tints 38 = .ok (.iaload, 1) := by decide +kernel
theorem dL_tints_39 : decode cL_tints 39 = .ok (.iload 7, 2) := by decide +kernel
theorem dL_tints_41 : decode cL_tints 41 = .ok (.ishr, 1) := by decide +kernel
theorem dL_tints_42 : decode cL_tints 42 = .ok (.iconst 1, 1) := by decide +kernel
theorem dL_tints_43 : decode cL_tints 43 = .ok (.iand, 1) := by decide +kernel
theorem dL_tints_44 : decode cL_tints 44 = .ok (.iconst 1, 1) := by decide +kernel
theorem dL_tints_45 : decode cL_tints 45 = .ok (.if_icmp .ne 7, 3) := by decide +kernel
theorem dL_tints_48 : decode cL_tints 48 = .ok (.iconst 1, 1) := by decide +kernel
theorem dL_tints_49 : decode cL_tints 49 = .ok (.goto 4, 3) := by decide +kernel
theorem dL_tints_52 : decode cL_tints 52 = .ok (.iconst 0, 1) := by decide +kernel
theorem dL_tints_53 : decode cL_tints 53 = .ok (.istore 8, 2) := by decide +kernel
theorem dL_tints_55 : decode cL_tints 55 = .ok (.iload_n 2, 1) := by decide +kernel
theorem dL_tints_56 : decode cL_tints 56 = .ok (.iload 8, 2) := by decide +kernel
theorem dL_tints_58 : decode cL_tints 58 = .ok (.ifCond .eq 30, 3) := by decide +kernel
theorem dL_tints_61 : decode cL_tints 61 = .ok (.iload 7, 2) := by decide +kernel
theorem dL_tints_63 : decode cL_tints 63 = .ok (.iload 4, 2) := by decide +kernel
theorem dL_tints_65 : decode cL_tints 65 = .ok (.if_icmp .ge 23, 3) := by decide +kernel
theorem dL_tints_68 : decode cL_tints 68 = .ok (.iload 5, 2) := by decide +kernel
theorem dL_tints_70 : decode cL_tints 70 = .ok (.ifCond .le 18, 3) := by decide +kernel
theorem dL_tints_73 : decode cL_tints 73 = .ok (.aload_n 0, 1) := by decide +kernel
theorem dL_tints_74 : decode cL_tints 74 = .ok (.iload 7, 2) := by decide +kernel
theorem dL_tints_76 : decode cL_tints 76 = .ok (.invokestatic 104, 3) := by decide +kernel
theorem dL_tints_79 : decode cL_tints 79 = .ok (.iload 5, 2) := by decide +kernel
theorem dL_tints_81 : decode cL_tints 81 = .ok (.if_icmp .ne 7, 3) := by decide +kernel
theorem dL_tints_84 : decode cL_tints 84 = .ok (.iconst 1, 1) := by decide +kernel
theorem dL_tints_85 : decode cL_tints 85 = .ok (.goto 4, 3) := by decide +kernel
theorem dL_tints_88 : decode cL_tints 88 = .ok (.iconst 0, 1) := by decide +kernel
theorem dL_tints_89 : decode cL_tints 89 = .ok (.iadd, 1) := by decide +kernel
theorem dL_tints_90 : decode cL_tints 90 = .ok (.istore_n 2, 1) := by decide +kernel
theorem dL_tints_91 : decode cL_tints 91 = .ok (.iload 6, 2) := by decide +kernel
theorem dL_tints_93 : decode cL_tints 93 = .ok (.iload 8, 2) := by decide +kernel
theorem dL_tints_95 : decode cL_tints 95 = .ok (.ifCond .eq 14, 3) := by decide +kernel
theorem dL_tints_98 : decode cL_tints 98 = .ok (.iconst 1, 1) := by decide +kernel
theorem dL_tints_99 : decode cL_tints 99 = .ok (.aload_n 0, 1) := by decide +kernel
theorem dL_tints_100 : decode cL_tints 100 = .ok (.iload 7, 2) := by decide +kernel
theorem dL_tints_102 : decode cL_tints 102 = .ok (.invokestatic 104, 3) := by decide +kernel
theorem dL_tints_105 : decode cL_tints 105 = .ok (.ishl, 1) := by decide +kernel
theorem dL_tints_106 : decode cL_tints 106 = .ok (.goto 4, 3) := by decide +kernel
theorem dL_tints_109 : decode cL_tints 109 = .ok (.iconst 0, 1) := by decide +kernel
theorem dL_tints_110 : decode cL_tints 110 = .ok (.ior, 1) := by decide +kernel
theorem dL_tints_111 : decode cL_tints 111 = .ok (.istore 6, 2) := by decide +kernel
theorem dL_tints_113 : decode cL_tints 113 = .ok (.iinc 7 1, 3) := by decide +kernel
theorem dL_tints_116 : decode cL_tints 116 = .ok (.goto (-88), 3) := by decide +kernel
theorem dL_tints_119 : decode cL_tints 119 = .ok (.iload_n 3, 1) := by decide +kernel
theorem dL_tints_120 : decode cL_tints 120 = .ok (.ifCond .eq 21, 3) := by decide +kernel
theorem dL_tints_123 : decode cL_tints 123 = .ok (.aload_n 0, 1) := by decide +kernel
theorem dL_tints_124 : decode cL_tints 124 = .ok (.iload 4, 2) := by decide +kernel
theorem dL_tints_126 : decode cL_tints 126 = .ok (.invokestatic 84, 3) := by decide +kernel
theorem dL_tints_129 : decode cL_tints 129 = .ok (.ifCond .eq 8, 3) := by decide +kernel
theorem dL_tints_132 : decode cL_tints 132 = .ok (.iload 5, 2) := by decide +kernel
theorem dL_tints_134 : decode cL_tints 134 = .ok (.ifCond .le 7, 3) := by decide +kernel
theorem dL_tints_137 : decode cL_tints 137 = .ok (.iconst 1, 1) := by decide +kernel
theorem dL_tints_138 : decode cL_tints 138 = .ok (.goto 4, 3) := by decide +kernel
theorem dL_tints_141 : decode cL_tints 141 = .ok (.iconst 0, 1) := by decide +kernel
theorem dL_tints_142 : decode cL_tints 142 = .ok (.istore_n 3, 1) := by decide +kernel
theorem dL_tints_143 : decode cL_tints 143 = .ok (.aload_n 0, 1) := by decide +kernel
theorem dL_tints_144 : decode cL_tints 144 = .ok (.iload 4, 2) := by decide +kernel
theorem dL_tints_146 : decode cL_tints 146 = .ok (.invokestatic 106, 3) := by decide +kernel
theorem dL_tints_149 : decode cL_tints 149 = .ok (.istore 7, 2) := by decide +kernel
theorem dL_tints_151 : decode cL_tints 151 = .ok (.iload 5, 2) := by decide +kernel
theorem dL_tints_153 : decode cL_tints 153 = .ok (.ifCond .lt 52, 3) := by decide +kernel
theorem dL_tints_156 : decode cL_tints 156 = .ok (.iload 5, 2) := by decide +kernel
theorem dL_tints_158 : decode cL_tints 158 = .ok (.bipush 10, 2) := by decide +kernel
theorem dL_tints_160 : decode cL_tints 160 = .ok (.if_icmp .gt 45, 3) := by decide +kernel
theorem dL_tints_163 : decode cL_tints 163 = .ok (.iload 7, 2) := by decide +kernel
theorem dL_tints_165 : decode cL_tints 165 = .ok (.iconst 1, 1) := by decide +kernel
theorem dL_tints_166 : decode cL_tints 166 = .ok (.if_icmp .lt 39, 3) := by decide +kernel
theorem dL_tints_169 : decode cL_tints 169 = .ok (.iload 7, 2) := by decide +kernel
theorem dL_tints_171 : decode cL_tints 171 = .ok (.bipush 10, 2) := by decide +kernel
theorem dL_tints_173 : decode cL_tints 173 = .ok (.if_icmp .gt 32, 3) := by decide +kernel
theorem dL_tints_176 : decode cL_tints 176 = .ok (.iload 6, 2) := by decide +kernel
theorem dL_tints_178 : decode cL_tints 178 = .ok (.iload 7, 2) := by decide +kernel
theorem dL_tints_180 : decode cL_tints 180 = .ok (.ishr, 1) := by decide +kernel
theorem dL_tints_181 : decode cL_tints 181 = .ok (.iconst 1, 1) := by decide +kernel
theorem dL_tints_182 : decode cL_tints 182 = .ok (.iand, 1) := by decide +kernel
theorem dL_tints_183 : decode cL_tints 183 = .ok (.iconst 1, 1) := by decide +kernel
theorem dL_tints_184 : decode cL_tints 184 = .ok (.if_icmp .eq 21, 3) := by decide +kernel
theorem dL_tints_187 : decode cL_tints 187 = .ok (.iload 6, 2) := by decide +kernel
theorem dL_tints_189 : decode cL_tints 189 = .ok (.iconst 1, 1) := by decide +kernel
theorem dL_tints_190 : decode cL_tints 190 = .ok (.iload 7, 2) := by decide +kernel
theorem dL_tints_192 : decode cL_tints 192 = .ok (.ishl, 1) := by decide +kernel
theorem dL_tints_193 : decode cL_tints 193 = .ok (.iconst 2, 1) := by decide +kernel
theorem dL_tints_194 : decode cL_tints 194 = .ok (.isub, 1) := by decide +kernel
theorem dL_tints_195 : decode cL_tints 195 = .ok (.iand, 1) := by decide +kernel
theorem dL_tints_196 : decode cL_tints 196 = .ok (.iconst 1, 1) := by decide +kernel
theorem dL_tints_197 : decode cL_tints 197 = .ok (.iload 7, 2) := by decide +kernel
theorem dL_tints_199 : decode cL_tints 199 = .ok (.ishl, 1) := by decide +kernel
theorem dL_tints_200 : decode cL_tints 200 = .ok (.iconst 2, 1) := by decide +kernel
theorem dL_tints_201 : decode cL_tints 201 = .ok (.isub, 1) := by decide +kernel
theorem dL_tints_202 : decode cL_tints 202 = .ok (.if_icmp .eq 5, 3) := by decide +kernel
theorem dL_tints_205 : decode cL_tints 205 = .ok (.iconst 0, 1) := by decide +kernel
theorem dL_tints_206 : decode cL_tints 206 = .ok (.ireturn, 1) := by decide +kernel
theorem dL_tints_207 : decode cL_tints 207 = .ok (.iinc 4 1, 3) := by decide +kernel
theorem dL_tints_210 : decode cL_tints 210 = .ok (.goto (-203), 3) := by decide +kernel
theorem dL_tints_213 : decode cL_tints 213 = .ok (.aload_n 0, 1) := by decide +kernel
theorem dL_tints_214 : decode cL_tints 214 = .ok (.invokevirtual 108, 3) := by decide +kernel
theorem dL_tints_217 : decode cL_tints 217 = .ok (.iload_n 2, 1) := by decide +kernel
theorem dL_tints_218 : decode cL_tints 218 = .ok (.if_icmp .ne 62, 3) := by decide +kernel
theorem dL_tints_221 : decode cL_tints 221 = .ok (.aload_n 0, 1) := by decide +kernel
theorem dL_tints_222 : decode cL_tints 222 = .ok (.invokevirtual 111, 3) := by decide +kernel
theorem dL_tints_225 : decode cL_tints 225 = .ok (.iload_n 3, 1) := by decide +kernel
theorem dL_tints_226 : decode cL_tints 226 = .ok (.ifCond .eq 11, 3) := by decide +kernel
theorem dL_tints_229 : decode cL_tints 229 = .ok (.iload_n 2, 1) := by decide +kernel
theorem dL_tints_230 : decode cL_tints 230 = .ok (.ifCond .ne 7, 3) := by decide +kernel
theorem dL_tints_233 : decode cL_tints 233 = .ok (.iconst 1, 1) := by decide +kernel
theorem dL_tints_234 : decode cL_tints 234 = .ok (.goto 4, 3) := by decide +kernel
theorem dL_tints_237 : decode cL_tints 237 = .ok (.iconst 0, 1) := by decide +kernel
theorem dL_tints_238 : decode cL_tints 238 = .ok (.if_icmp .ne 42, 3) := by decide +kernel
theorem dL_tints_241 : decode cL_tints 241 = .ok (.aload_n 0, 1) := by decide +kernel
theorem dL_tints_242 : decode cL_tints 242 = .ok (.bipush 10, 2) := by decide +kernel
theorem dL_tints_244 : decode cL_tints 244 = .ok (.bipush 11, 2) := by decide +kernel
theorem dL_tints_246 : decode cL_tints 246 = .ok (.invokestatic 115, 3) := by decide +kernel
theorem dL_tints_249 : decode cL_tints 249 = .ok (.ldc 18, 2) := by decide +kernel
theorem dL_tints_251 : decode cL_tints 251 = .ok (.if_icmp .ne 29, 3) := by decide +kernel
theorem dL_tints_254 : decode cL_tints 254 = .ok (.aload_n 0, 1) := by decide +kernel
theorem dL_tints_255 : decode cL_tints 255 = .ok (.iconst 0, 1) := by decide +kernel
theorem dL_tints_256 : decode cL_tints 256 = .ok (.bipush 11, 2) := by decide +kernel
theorem dL_tints_258 : decode cL_tints 258 = .ok (.invokestatic 115, 3) := by decide +kernel
theorem dL_tints_261 : decode cL_tints 261 = .ok (.ldc 21, 2) := by decide +kernel
theorem dL_tints_263 : decode cL_tints 263 = .ok (.if_icmp .ne 17, 3) := by decide +kernel
theorem dL_tints_266 : decode cL_tints 266 = .ok (.aload_n 0, 1) := by decide +kernel
theorem dL_tints_267 : decode cL_tints 267 = .ok (.iconst (-1), 1) := by decide +kernel
theorem dL_tints_268 : decode cL_tints 268 = .ok (.invokestatic 106, 3) := by decide +kernel
theorem dL_tints_271 : decode cL_tints 271 = .ok (.ldc 18, 2) := by decide +kernel
theorem dL_tints_273 : decode cL_tints 273 = .ok (.if_icmp .ne 7, 3) := by decide +kernel
theorem dL_tints_276 : decode cL_tints 276 = .ok (.iconst 1, 1) := by decide +kernel
theorem dL_tints_277 : decode cL_tints 277 = .ok (.goto 4, 3) := by decide +kernel
theorem dL_tints_280 : decode cL_tints 280 = .ok (.iconst 0, 1) := by decide +kernel
theorem dL_tints_281 : decode cL_tints 281 = .ok (.ireturn, 1) := by decide +kernel
set_option maxRecDepth 20000 in
theorem ggL_chains_L_tintOf : GoodIn wsL_chains wsL_tintOf := goodIn_ca (goodIn_r _ [7, 8, 3, 9, 10, 11, 12, 13, 14, 15, 16, 17, 18, 19, 99, 100, 101, 102, 103, 104, 105, 106] (by decide +kernel) (by decide +kernel)) (goodIn_sub (fun _ h => List.mem_cons_of_mem _ (List.mem_append_left _ (List.mem_append_left _ (List.mem_append_right _ h)))) (by decide +kernel))
set_option maxRecDepth 20000 in
theorem gL_chains_L_tintOf : GoodIn wsL_chains (va_wsS RL 104 yL_tintOf wsL_tintOf) := goodIn_app (goodIn_of _ (by decide +kernel)) ggL_chains_L_tintOf
set_option maxRecDepth 20000 in
theorem ggL_chains_X0_isTinted : GoodIn wsL_chains wsX0_isTinted := goodIn_r _ [23, 24, 25, 26, 27, 12, 28, 14, 29, 30, 31, 32, 33, 34, 35, 36, 37, 38, 39, 40, 99, 100, 101, 102, 103, 104, 105, 106] (by decide +kernel) (by decide +kernel)
set_option maxRecDepth 20000 in
theorem gL_chains_X0_isTinted : GoodIn wsL_chains (wsV RL 111 RX0 yX0_isTinted wsX0_isTinted) := goodIn_app (goodIn_of _ (by decide +kernel)) ggL_chains_X0_isTinted
set_option maxRecDepth 20000 in
theorem ggL_chains_X0_conflicts : GoodIn wsL_chains wsX0_conflicts := goodIn_r _ [32, 14, 33, 25, 26, 27, 12, 28, 34, 35, 36, 37, 38, 39, 40, 99, 100, 101, 102, 103, 104, 105, 106] (by decide +kernel) (by decide +kernel)
set_option maxRecDepth 20000 in
theorem gL_chains_X0_conflicts : GoodIn wsL_chains (wsV RL 108 RX0 yX0_conflicts wsX0_conflicts) := goodIn_app (goodIn_of _ (by decide +kernel)) ggL_chains_X0_conflicts
set_option maxRecDepth 20000 in
theorem ggL_chains_L_sum : GoodIn wsL_chains wsL_sum := goodIn_ca (goodIn_r _ [44, 45, 4, 5, 6, 7, 8, 3, 9, 10, 11, 12, 13, 14, 15, 16, 17, 18, 19, 99, 100, 101, 102, 103, 104, 105, 106] (by decide +kernel) (by decide +kernel)) (goodIn_sub (fun _ h => List.mem_cons_of_mem _ (List.mem_append_left _ (List.mem_append_left _ (List.mem_append_right _ h)))) (by decide +kernel))
set_option maxRecDepth 20000 in
theorem gL_chains_L_sum : GoodIn wsL_chains (va_wsS RL 117 yL_sum wsL_sum) := goodIn_app (goodIn_of _ (by decide +kernel)) ggL_chains_L_sum
set_option maxRecDepth 20000 in
theorem ggL_chains_L_chain : GoodIn wsL_chains wsL_chain := goodIn_ca (goodIn_ca (goodIn_ca (goodIn_r _ [48, 8, 49, 50, 3, 2, 1, 51, 52, 53, 12, 54, 15, 16, 17, 18, 19, 55, 56, 57, 58, 59, 60, 61, 62, 63, 64, 65, 24, 14, 66, 67, 68, 69, 70, 71, 72, 33, 25, 26, 27, 28, 34, 35, 36, 37, 38, 39, 40, 99, 100, 101, 102, 103, 104, 105, 106] (by decide +kernel) (by decide +kernel)) (goodIn_sub (fun _ h => List.mem_cons_of_mem _ (List.mem_append_left _ (List.mem_append_left _ (List.mem_append_right _ h)))) (by decide +kernel))) (goodIn_sub (fun _ h => List.mem_cons_of_mem _ (List.mem_append_left _ (List.mem_append_right _ h))) (by decide +kernel))) (goodIn_sub (fun _ h => List.mem_cons_of_mem _ (List.mem_append_right _ h)) (by decide +kernel))
set_option maxRecDepth 20000 in
theorem gL_chains_L_chain : GoodIn wsL_chains (va_wsS RL 121 yL_chain wsL_chain) := goodIn_app (goodIn_of _ (by decide +kernel)) ggL_chains_L_chain
set_option maxRecDepth 20000 in
theorem ggL_chains_L_area : GoodIn wsL_chains wsL_area := goodIn_ca (goodIn_r _ [75, 8, 3, 76, 77, 78, 12, 79, 80, 15, 16, 17, 18, 19, 81, 82, 83, 84, 85, 86, 87, 99, 100, 101, 102, 103, 104, 105, 106] (by decide +kernel) (by decide +kernel)) (goodIn_sub (fun _ h => List.mem_cons_of_mem _ (List.mem_append_left _ (List.mem_append_left _ (List.mem_append_right _ h)))) (by decide +kernel))
set_option maxRecDepth 20000 in
theorem gL_chains_L_area : GoodIn wsL_chains (va_wsS RL 84 yL_area wsL_area) := goodIn_app (goodIn_of _ (by decide +kernel)) ggL_chains_L_area
set_option maxRecDepth 20000 in
theorem ggL_chains_L_exchange : GoodIn wsL_chains wsL_exchange := goodIn_ca (goodIn_ca (goodIn_ca (goodIn_r _ [90, 8, 49, 50, 3, 2, 1, 91, 92, 93, 12, 94, 14, 15, 16, 17, 18, 19, 55, 56, 57, 58, 59, 60, 61, 62, 63, 64, 65, 24, 66, 67, 68, 69, 70, 71, 72, 33, 25, 26, 27, 28, 34, 35, 36, 37, 38, 39, 40, 99, 100, 101, 102, 103, 104, 105, 106] (by decide +kernel) (by decide +kernel)) (goodIn_sub (fun _ h => List.mem_cons_of_mem _ (List.mem_append_left _ (List.mem_append_left _ (List.mem_append_right _ h)))) (by decide +kernel))) (goodIn_sub (fun _ h => List.mem_cons_of_mem _ (List.mem_append_left _ (List.mem_append_right _ h))) (by decide +kernel))) (goodIn_sub (fun _ h => List.mem_cons_of_mem _ (List.mem_append_right _ h)) (by decide +kernel))
set_option maxRecDepth 20000 in
theorem gL_chains_L_exchange : GoodIn wsL_chains (va_wsS RL 123 yL_exchange wsL_exchange) := goodIn_app (goodIn_of _ (by decide +kernel)) ggL_chains_L_exchange
set_option maxRecDepth 20000 in
theorem ggL_chains_X0_countries : GoodIn wsL_chains wsX0_countries := goodIn_r _ [98, 24, 34, 35, 36, 37, 38, 39, 40, 99, 100, 101, 102, 103, 104, 105, 106] (by decide +kernel) (by decide +kernel)
set_option maxRecDepth 20000 in
theorem gL_chains_X0_countries : GoodIn wsL_chains (wsV RL 98 RX0 yX0_countries wsX0_countries) := goodIn_app (goodIn_of _ (by decide +kernel)) ggL_chains_X0_countries
theorem dL_chains_0 : decode cL_chains 0 = .ok (.aload_n 0, 1) := by decide +kernel
theorem dL_chains_1 : decode cL_chains 1 = .ok (.iload_n 1, 1) := by decide +kernel
theorem dL_chains_2 : decode cL_chains 2 = .ok (.invokestatic 104, 3) := by decide +kernel
theorem dL_chains_5 : decode cL_chains 5 = .ok (.istore_n 3, 1) := by decide +kernel
theorem dL_chains_6 : decode cL_chains 6 = .ok (.aload_n 0, 1) := by decide +kernel
theorem dL_chains_7 : decode cL_chains 7 = .ok (.invokevirtual 111, 3) := by decide +kernel
theorem dL_chains_10 : decode cL_chains 10 = .ok (.istore 4, 2) := by decide +kernel
theorem dL_chains_12 : decode cL_chains 12 = .ok (.aload_n 0, 1) := by decide +kernel
theorem dL_chains_13 : decode cL_chains 13 = .ok (.invokevirtual 108, 3) := by decide +kernel
theorem dL_chains_16 : decode cL_chains 16 = .ok (.istore 5, 2) := by decide +kernel
theorem dL_chains_18 : decode cL_chains 18 = .ok (.aload_n 0, 1) := by decide +kernel
theorem dL_chains_19 : decode cL_chains 19 = .ok (.invokestatic 117, 3) := by decide +kernel
theorem dL_chains_22 : decode cL_chains 22 = .ok (.lstore 6, 2) := by decide +kernel
theorem dL_chains_24 : decode cL_chains 24 = .ok (.aload_n 0, 1) := by decide +kernel
theorem dL_chains_25 : decode cL_chains 25 = .ok (.iload_n 1, 1) := by decide +kernel
theorem dL_chains_26 : decode cL_chains 26 = .ok (.iload_n 2, 1) := by decide +kernel
theorem dL_chains_27 : decode cL_chains 27 = .ok (.invokestatic 121, 3) := by decide +kernel
theorem dL_chains_30 : decode cL_chains 30 = .ok (.istore 8, 2) := by decide +kernel
theorem dL_chains_32 : decode cL_chains 32 = .ok (.aload_n 0, 1) := by decide +kernel
theorem dL_chains_33 : decode cL_chains 33 = .ok (.iload_n 1, 1) := by decide +kernel
theorem dL_chains_34 : decode cL_chains 34 = .ok (.invokestatic 84, 3) := by decide +kernel
theorem dL_chains_37 : decode cL_chains 37 = .ok (.ifCond .eq 7, 3) := by decide +kernel
theorem dL_chains_40 : decode cL_chains 40 = .ok (.iload_n 3, 1) := by decide +kernel
theorem dL_chains_41 : decode cL_chains 41 = .ok (.ifCond .ne 60, 3) := by decide +kernel
theorem dL_chains_44 : decode cL_chains 44 = .ok (.iload 8, 2) := by decide +kernel
theorem dL_chains_46 : decode cL_chains 46 = .ok (.ldc 63, 2) := by decide +kernel
theorem dL_chains_48 : decode cL_chains 48 = .ok (.if_icmp .ne 51, 3) := by decide +kernel
theorem dL_chains_51 : decode cL_chains 51 = .ok (.aload_n 0, 1) := by decide +kernel
theorem dL_chains_52 : decode cL_chains 52 = .ok (.iload_n 1, 1) := by decide +kernel
theorem dL_chains_53 : decode cL_chains 53 = .ok (.iload_n 2, 1) := by decide +kernel
theorem dL_chains_54 : decode cL_chains 54 = .ok (.invokestatic 123, 3) := by decide +kernel
theorem dL_chains_57 : decode cL_chains 57 = .ok (.ldc 63, 2) := by decide +kernel
theorem dL_chains_59 : decode cL_chains 59 = .ok (.if_icmp .ne 40, 3) := by decide +kernel
theorem dL_chains_62 : decode cL_chains 62 = .ok (.aload_n 0, 1) := by decide +kernel
theorem dL_chains_63 : decode cL_chains 63 = .ok (.iload_n 1, 1) := by decide +kernel
theorem dL_chains_64 : decode cL_chains 64 = .ok (.iconst 0, 1) := by decide +kernel
theorem dL_chains_65 : decode cL_chains 65 = .ok (.invokestatic 121, 3) := by decide +kernel
theorem dL_chains_68 : decode cL_chains 68 = .ok (.ldc 21, 2) := by decide +kernel
theorem dL_chains_70 : decode cL_chains 70 = .ok (.if_icmp .ne 29, 3) := by decide +kernel
theorem dL_chains_73 : decode cL_chains 73 = .ok (.aload_n 0, 1) := by decide +kernel
theorem dL_chains_74 : decode cL_chains 74 = .ok (.bipush 10, 2) := by decide +kernel
theorem dL_chains_76 : decode cL_chains 76 = .ok (.iconst 0, 1) := by decide +kernel
theorem dL_chains_77 : decode cL_chains 77 = .ok (.invokestatic 121, 3) := by decide +kernel
theorem dL_chains_80 : decode cL_chains 80 = .ok (.ldc 18, 2) := by decide +kernel
theorem dL_chains_82 : decode cL_chains 82 = .ok (.if_icmp .ne 17, 3) := by decide +kernel
theorem dL_chains_85 : decode cL_chains 85 = .ok (.aload_n 0, 1) := by decide +kernel
theorem dL_chains_86 : decode cL_chains 86 = .ok (.invokestatic 117, 3) := by decide +kernel
theorem dL_chains_89 : decode cL_chains 89 = .ok (.lload 6, 2) := by decide +kernel
theorem dL_chains_91 : decode cL_chains 91 = .ok (.lcmp, 1) := by decide +kernel
theorem dL_chains_92 : decode cL_chains 92 = .ok (.ifCond .ne 7, 3) := by decide +kernel
theorem dL_chains_95 : decode cL_chains 95 = .ok (.iconst 1, 1) := by decide +kernel
theorem dL_chains_96 : decode cL_chains 96 = .ok (.goto 4, 3) := by decide +kernel
theorem dL_chains_99 : decode cL_chains 99 = .ok (.iconst 0, 1) := by decide +kernel
theorem dL_chains_100 : decode cL_chains 100 = .ok (.ireturn, 1) := by decide +kernel
theorem dL_chains_101 : decode cL_chains 101 = .ok (.iload 8, 2) := by decide +kernel
theorem dL_chains_103 : decode cL_chains 103 = .ok (.ifCond .le 74, 3) := by decide +kernel
theorem dL_chains_106 : decode cL_chains 106 = .ok (.iload 8, 2) := by decide +kernel
theorem dL_chains_108 : decode cL_chains 108 = .ok (.aload_n 0, 1) := by decide +kernel
theorem dL_chains_109 : decode cL_chains 109 = .ok (.invokevirtual 98, 3) := by decide +kernel
theorem dL_chains_112 : decode cL_chains 112 = .ok (.if_icmp .gt 65, 3) := by decide +kernel
theorem dL_chains_115 : decode cL_chains 115 = .ok (.aload_n 0, 1) := by decide +kernel
theorem dL_chains_116 : decode cL_chains 116 = .ok (.iload_n 1, 1) := by decide +kernel
theorem dL_chains_117 : decode cL_chains 117 = .ok (.iload_n 2, 1) := by decide +kernel
theorem dL_chains_118 : decode cL_chains 118 = .ok (.invokestatic 123, 3) := by decide +kernel
theorem dL_chains_121 : decode cL_chains 121 = .ok (.iload_n 3, 1) := by decide +kernel
theorem dL_chains_122 : decode cL_chains 122 = .ok (.iload_n 2, 1) := by decide +kernel
theorem dL_chains_123 : decode cL_chains 123 = .ok (.if_icmp .ne 7, 3) := by decide +kernel
theorem dL_chains_126 : decode cL_chains 126 = .ok (.iconst 0, 1) := by decide +kernel
theorem dL_chains_127 : decode cL_chains 127 = .ok (.goto 5, 3) := by decide +kernel
theorem dL_chains_130 : decode cL_chains 130 = .ok (.iload 8, 2) := by decide +kernel
theorem dL_chains_132 : decode cL_chains 132 = .ok (.if_icmp .ne 45, 3) := by decide +kernel
theorem dL_chains_135 : decode cL_chains 135 = .ok (.aload_n 0, 1) := by decide +kernel
theorem dL_chains_136 : decode cL_chains 136 = .ok (.iload_n 1, 1) := by decide +kernel
theorem dL_chains_137 : decode cL_chains 137 = .ok (.invokestatic 104, 3) := by decide +kernel
theorem dL_chains_140 : decode cL_chains 140 = .ok (.iload_n 2, 1) := by decide +kernel
theorem dL_chains_141 : decode cL_chains 141 = .ok (.if_icmp .ne 36, 3) := by decide +kernel
theorem dL_chains_144 : decode cL_chains 144 = .ok (.aload_n 0, 1) := by decide +kernel
theorem dL_chains_145 : decode cL_chains 145 = .ok (.invokevirtual 108, 3) := by decide +kernel
theorem dL_chains_148 : decode cL_chains 148 = .ok (.iload 5, 2) := by decide +kernel
theorem dL_chains_150 : decode cL_chains 150 = .ok (.if_icmp .ne 27, 3) := by decide +kernel
theorem dL_chains_153 : decode cL_chains 153 = .ok (.aload_n 0, 1) := by decide +kernel
theorem dL_chains_154 : decode cL_chains 154 = .ok (.invokevirtual 111, 3) := by decide +kernel
theorem dL_chains_157 : decode cL_chains 157 = .ok (.iload 4, 2) := by decide +kernel
theorem dL_chains_159 : decode cL_chains 159 = .ok (.if_icmp .ne 18, 3) := by decide +kernel
theorem dL_chains_162 : decode cL_chains 162 = .ok (.aload_n 0, 1) := by decide +kernel
theorem dL_chains_163 : decode cL_chains 163 = .ok (.iload_n 1, 1) := by decide +kernel
theorem dL_chains_164 : decode cL_chains 164 = .ok (.iload_n 3, 1) := by decide +kernel
theorem dL_chains_165 : decode cL_chains 165 = .ok (.invokestatic 121, 3) := by decide +kernel
theorem dL_chains_168 : decode cL_chains 168 = .ok (.iload 8, 2) := by decide +kernel
theorem dL_chains_170 : decode cL_chains 170 = .ok (.if_icmp .ne 7, 3) := by decide +kernel
theorem dL_chains_173 : decode cL_chains 173 = .ok (.iconst 1, 1) := by decide +kernel
theorem dL_chains_174 : decode cL_chains 174 = .ok (.goto 4, 3) := by decide +kernel
theorem dL_chains_177 : decode cL_chains 177 = .ok (.iconst 0, 1) := by decide +kernel
theorem dL_chains_178 : decode cL_chains 178 = .ok (.istore 9, 2) := by decide +kernel
theorem dL_chains_180 : decode cL_chains 180 = .ok (.iload 9, 2) := by decide +kernel
theorem dL_chains_182 : decode cL_chains 182 = .ok (.ifCond .eq 49, 3) := by decide +kernel
theorem dL_chains_185 : decode cL_chains 185 = .ok (.aload_n 0, 1) := by decide +kernel
theorem dL_chains_186 : decode cL_chains 186 = .ok (.iload_n 1, 1) := by decide +kernel
theorem dL_chains_187 : decode cL_chains 187 = .ok (.iload_n 3, 1) := by decide +kernel
theorem dL_chains_188 : decode cL_chains 188 = .ok (.invokestatic 123, 3) := by decide +kernel
theorem dL_chains_191 : decode cL_chains 191 = .ok (.iload_n 3, 1) := by decide +kernel
theorem dL_chains_192 : decode cL_chains 192 = .ok (.iload_n 2, 1) := by decide +kernel
theorem dL_chains_193 : decode cL_chains 193 = .ok (.if_icmp .ne 7, 3) := by decide +kernel
theorem dL_chains_196 : decode cL_chains 196 = .ok (.iconst 0, 1) := by decide +kernel
theorem dL_chains_197 : decode cL_chains 197 = .ok (.goto 5, 3) := by decide +kernel
theorem dL_chains_200 : decode cL_chains 200 = .ok (.iload 8, 2) := by decide +kernel
theorem dL_chains_202 : decode cL_chains 202 = .ok (.if_icmp .ne 29, 3) := by decide +kernel
theorem dL_chains_205 : decode cL_chains 205 = .ok (.aload_n 0, 1) := by decide +kernel
theorem dL_chains_206 : decode cL_chains 206 = .ok (.invokestatic 117, 3) := by decide +kernel
theorem dL_chains_209 : decode cL_chains 209 = .ok (.lload 6, 2) := by decide +kernel
theorem dL_chains_211 : decode cL_chains 211 = .ok (.lcmp, 1) := by decide +kernel
theorem dL_chains_212 : decode cL_chains 212 = .ok (.ifCond .ne 19, 3) := by decide +kernel
theorem dL_chains_215 : decode cL_chains 215 = .ok (.aload_n 0, 1) := by decide +kernel
theorem dL_chains_216 : decode cL_chains 216 = .ok (.iload_n 1, 1) := by decide +kernel
theorem dL_chains_217 : decode cL_chains 217 = .ok (.bipush 11, 2) := by decide +kernel
theorem dL_chains_219 : decode cL_chains 219 = .ok (.invokestatic 121, 3) := by decide +kernel
theorem dL_chains_222 : decode cL_chains 222 = .ok (.ldc 21, 2) := by decide +kernel
theorem dL_chains_224 : decode cL_chains 224 = .ok (.if_icmp .ne 7, 3) := by decide +kernel
theorem dL_chains_227 : decode cL_chains 227 = .ok (.iconst 1, 1) := by decide +kernel
theorem dL_chains_228 : decode cL_chains 228 = .ok (.goto 4, 3) := by decide +kernel
theorem dL_chains_231 : decode cL_chains 231 = .ok (.iconst 0, 1) := by decide +kernel
theorem dL_chains_232 : decode cL_chains 232 = .ok (.ireturn, 1) := by decide +kernel
set_option maxRecDepth 20000 in
theorem ggL_sum_L_tintOf : GoodIn wsL_sum wsL_tintOf := goodIn_ca (goodIn_r _ [5, 6, 7, 8, 9, 10, 11, 12, 13, 14, 15, 16, 17, 18, 19, 20, 21, 22, 23, 24, 25, 26] (by decide +kernel) (by decide +kernel)) (goodIn_sub (fun _ h => List.mem_cons_of_mem _ (List.mem_append_right _ h)) (by decide +kernel))
set_option maxRecDepth 20000 in
theorem gL_sum_L_tintOf : GoodIn wsL_sum (va_wsS RL 104 yL_tintOf wsL_tintOf) := goodIn_app (goodIn_of _ (by decide +kernel)) ggL_sum_L_tintOf
theorem dL_sum_0 : decode cL_sum 0 = .ok (.lconst 0, 1) := by decide +kernel
theorem dL_sum_1 : decode cL_sum 1 = .ok (.lstore_n 1, 1) := by decide +kernel
theorem dL_sum_2 : decode cL_sum 2 = .ok (.iconst 0, 1) := by decide +kernel
theorem dL_sum_3 : decode cL_sum 3 = .ok (.istore_n 3, 1) := by decide +kernel
theorem dL_sum_4 : decode cL_sum 4 = .ok (.iload_n 3, 1) := by decide +kernel
theorem dL_sum_5 : decode cL_sum 5 = .ok (.bipush 10, 2) := by decide +kernel
theorem dL_sum_7 : decode cL_sum 7 = .ok (.if_icmp .ge 22, 3) := by decide +kernel
theorem dL_sum_10 : decode cL_sum 10 = .ok (.ldc2_w 125, 3) := by decide +kernel
theorem dL_sum_13 : decode cL_sum 13 = .ok (.lload_n 1, 1) := by decide +kernel
theorem dL_sum_14 : decode cL_sum 14 = .ok (.lmul, 1) := by decide +kernel
theorem dL_sum_15 : decode cL_sum 15 = .ok (.aload_n 0, 1) := by decide +kernel
theorem dL_sum_16 : decode cL_sum 16 = .ok (.iload_n 3, 1) := by decide +kernel
theorem dL_sum_17 : decode cL_sum 17 = .ok (.invokestatic 104, 3) := by decide +kernel
theorem dL_sum_20 : decode cL_sum 20 = .ok (.i2l, 1) := by decide +kernel
theorem dL_sum_21 : decode cL_sum 21 = .ok (.ladd, 1) := by decide +kernel
theorem dL_sum_22 : decode cL_sum 22 = .ok (.lstore_n 1, 1) := by decide +kernel
theorem dL_sum_23 : decode cL_sum 23 = .ok (.iinc 3 1, 3) := by decide +kernel
theorem dL_sum_26 : decode cL_sum 26 = .ok (.goto (-22), 3) := by decide +kernel
theorem dL_sum_29 : decode cL_sum 29 = .ok (.lload_n 1, 1) := by decide +kernel
theorem dL_sum_30 : decode cL_sum 30 = .ok (.lreturn, 1) := by decide +kernel
set_option maxRecDepth 20000 in
theorem ggL_counts_X0_fewestTints : GoodIn wsL_counts wsX0_fewestTints := goodIn_r _ [6, 7, 8, 9, 5, 10, 11, 12, 13, 14, 15, 16, 17, 18, 19, 20, 21, 22, 23, 24, 25, 26, 111, 112, 113, 114, 115, 116, 117, 118] (by decide +kernel) (by decide +kernel)
set_option maxRecDepth 20000 in
theorem gL_counts_X0_fewestTints : GoodIn wsL_counts (wsV RL 127 RX0 yX0_fewestTints wsX0_fewestTints) := goodIn_app (goodIn_of _ (by decide +kernel)) ggL_counts_X0_fewestTints
set_option maxRecDepth 20000 in
theorem ggL_counts_X0_allNeighbours : GoodIn wsL_counts wsX0_allNeighbours := goodIn_r _ [30, 31, 12, 17, 18, 19, 20, 32, 33, 34, 5, 35, 11, 36, 37, 38, 39, 40, 41, 42, 111, 112, 113, 114, 115, 116, 117, 118] (by decide +kernel) (by decide +kernel)
set_option maxRecDepth 20000 in
theorem gL_counts_X0_allNeighbours : GoodIn wsL_counts (wsV RL 130 RX0 yX0_allNeighbours wsX0_allNeighbours) := goodIn_app (goodIn_of _ (by decide +kernel)) ggL_counts_X0_allNeighbours
set_option maxRecDepth 20000 in
theorem ggL_counts_X0_countries : GoodIn wsL_counts wsX0_countries := goodIn_r _ [46, 12, 36, 37, 38, 39, 40, 41, 42, 111, 112, 113, 114, 115, 116, 117, 118] (by decide +kernel) (by decide +kernel)
set_option maxRecDepth 20000 in
theorem gL_counts_X0_countries : GoodIn wsL_counts (wsV RL 98 RX0 yX0_countries wsX0_countries) := goodIn_app (goodIn_of _ (by decide +kernel)) ggL_counts_X0_countries
set_option maxRecDepth 20000 in
theorem ggL_counts_L_many : GoodIn wsL_counts wsL_many := goodIn_r _ [50] (by decide +kernel) (by decide +kernel)
set_option maxRecDepth 20000 in
theorem gL_counts_L_many : GoodIn wsL_counts (va_wsS RL 89 yL_many wsL_many) := goodIn_app (goodIn_of _ (by decide +kernel)) ggL_counts_L_many
set_option maxRecDepth 20000 in
theorem ggL_counts_L_tintings : GoodIn wsL_counts wsL_tintings := goodIn_ca (goodIn_r _ [53, 54, 1, 55, 56, 57, 5, 58, 59, 12, 60, 61, 62, 63, 64, 65, 66, 67, 68, 31, 11, 69, 70, 71, 72, 73, 74, 75, 76, 77, 78, 79, 80, 111, 112, 113, 114, 115, 116, 117, 118] (by decide +kernel) (by decide +kernel)) (goodIn_sub (fun _ h => List.mem_cons_of_mem _ (List.mem_append_right _ h)) (by decide +kernel))
set_option maxRecDepth 20000 in
theorem gL_counts_L_tintings : GoodIn wsL_counts (va_wsS RL 133 yL_tintings wsL_tintings) := goodIn_app (goodIn_of _ (by decide +kernel)) ggL_counts_L_tintings
set_option maxRecDepth 20000 in
theorem ggL_counts_L_tintingsByPairs : GoodIn wsL_counts wsL_tintingsByPairs := goodIn_ca (goodIn_r _ [83, 54, 1, 84, 85, 86, 5, 87, 11, 88, 89, 90, 91, 92, 12, 60, 61, 62, 63, 64, 93, 94, 95, 96, 97, 98, 21, 22, 23, 99, 100, 101, 36, 37, 38, 39, 40, 41, 42, 102, 103, 104, 105, 106, 107, 108, 109, 110, 111, 112, 113, 114, 115, 116, 117, 118] (by decide +kernel) (by decide +kernel)) (goodIn_sub (fun _ h => List.mem_cons_of_mem _ (List.mem_append_right _ h)) (by decide +kernel))
set_option maxRecDepth 20000 in
theorem gL_counts_L_tintingsByPairs : GoodIn wsL_counts (va_wsS RL 136 yL_tintingsByPairs wsL_tintingsByPairs) := goodIn_app (goodIn_of _ (by decide +kernel)) ggL_counts_L_tintingsByPairs
theorem dL_counts_0 : decode cL_counts 0 = .ok (.aload_n 0, 1) := by decide +kernel
theorem dL_counts_1 : decode cL_counts 1 = .ok (.invokevirtual 127, 3) := by decide +kernel
theorem dL_counts_4 : decode cL_counts 4 = .ok (.istore_n 2, 1) := by decide +kernel
theorem dL_counts_5 : decode cL_counts 5 = .ok (.aload_n 0, 1) := by decide +kernel
theorem dL_counts_6 : decode cL_counts 6 = .ok (.invokevirtual 130, 3) := by decide +kernel
theorem dL_counts_9 : decode cL_counts 9 = .ok (.istore_n 3, 1) := by decide +kernel
theorem dL_counts_10 : decode cL_counts 10 = .ok (.aload_n 0, 1) := by decide +kernel
theorem dL_counts_11 : decode cL_counts 11 = .ok (.invokevirtual 98, 3) := by decide +kernel
theorem dL_counts_14 : decode cL_counts 14 = .ok (.istore 4, 2) := by decide +kernel
theorem dL_counts_16 : decode cL_counts 16 = .ok (.iconst 0, 1) := by decide +kernel
theorem dL_counts_17 : decode cL_counts 17 = .ok (.istore 5, 2) := by decide +kernel
theorem dL_counts_19 : decode cL_counts 19 = .ok (.lconst 0, 1) := by decide +kernel
theorem dL_counts_20 : decode cL_counts 20 = .ok (.lstore 6, 2) := by decide +kernel
theorem dL_counts_22 : decode cL_counts 22 = .ok (.iconst 0, 1) := by decide +kernel
theorem dL_counts_23 : decode cL_counts 23 = .ok (.istore 8, 2) := by decide +kernel
theorem dL_counts_25 : decode cL_counts 25 = .ok (.iload 8, 2) := by decide +kernel
theorem dL_counts_27 : decode cL_counts 27 = .ok (.bipush 10, 2) := by decide +kernel
theorem dL_counts_29 : decode cL_counts 29 = .ok (.if_icmp .ge 35, 3) := by decide +kernel
theorem dL_counts_32 : decode cL_counts 32 = .ok (.aload_n 1, 1) := by decide +kernel
theorem dL_counts_33 : decode cL_counts 33 = .ok (.iload 8, 2) := by decide +kernel
theorem dL_counts_35 : decode cL_counts 35 = .ok (.iaload, 1) := by decide +kernel
theorem dL_counts_36 : decode cL_counts 36 = .ok (.invokestatic 89, 3) := by decide +kernel
theorem dL_counts_39 : decode cL_counts 39 = .ok (.iload 5, 2) := by decide +kernel
theorem dL_counts_41 : decode cL_counts 41 = .ok (.if_icmp .le 13, 3) := by decide +kernel
theorem dL_counts_44 : decode cL_counts 44 = .ok (.aload_n 1, 1) := by decide +kernel
theorem dL_counts_45 : decode cL_counts 45 = .ok (.iload 8, 2) := by decide +kernel
theorem dL_counts_47 : decode cL_counts 47 = .ok (.iaload, 1) := by decide +kernel
theorem dL_counts_48 : decode cL_counts 48 = .ok (.invokestatic 89, 3) := by decide +kernel
theorem dL_counts_51 : decode cL_counts 51 = .ok (.goto 5, 3) := by decide +kernel
theorem dL_counts_54 : decode cL_counts 54 = .ok (.iload 5, 2) := by decide +kernel
theorem dL_counts_56 : decode cL_counts 56 = .ok (.istore 5, 2) := by decide +kernel
theorem dL_counts_58 : decode cL_counts 58 = .ok (.iinc 8 1, 3) := by decide +kernel
theorem dL_counts_61 : decode cL_counts 61 = .ok (.goto (-36), 3) := by decide +kernel
theorem dL_counts_64 : decode cL_counts 64 = .ok (.iconst 0, 1) := by decide +kernel
theorem dL_counts_65 : decode cL_counts 65 = .ok (.istore 8, 2) := by decide +kernel
theorem dL_counts_67 : decode cL_counts 67 = .ok (.iload 8, 2) := by decide +kernel
theorem dL_counts_69 : decode cL_counts 69 = .ok (.bipush 11, 2) := by decide +kernel
theorem dL_counts_71 : decode cL_counts 71 = .ok (.if_icmp .ge 90, 3) := by decide +kernel
theorem dL_counts_74 : decode cL_counts 74 = .ok (.aload_n 0, 1) := by decide +kernel
theorem dL_counts_75 : decode cL_counts 75 = .ok (.iload 8, 2) := by decide +kernel
theorem dL_counts_77 : decode cL_counts 77 = .ok (.invokestatic 133, 3) := by decide +kernel
theorem dL_counts_80 : decode cL_counts 80 = .ok (.lstore 9, 2) := by decide +kernel
theorem dL_counts_82 : decode cL_counts 82 = .ok (.lload 9, 2) := by decide +kernel
theorem dL_counts_84 : decode cL_counts 84 = .ok (.aload_n 0, 1) := by decide +kernel
theorem dL_counts_85 : decode cL_counts 85 = .ok (.iload 8, 2) := by decide +kernel
theorem dL_counts_87 : decode cL_counts 87 = .ok (.invokestatic 136, 3) := by decide +kernel
theorem dL_counts_90 : decode cL_counts 90 = .ok (.lcmp, 1) := by decide +kernel
theorem dL_counts_91 : decode cL_counts 91 = .ok (.ifCond .ne 58, 3) := by decide +kernel
theorem dL_counts_94 : decode cL_counts 94 = .ok (.lload 9, 2) := by decide +kernel
theorem dL_counts_96 : decode cL_counts 96 = .ok (.lconst 0, 1) := by decide +kernel
theorem dL_counts_97 : decode cL_counts 97 = .ok (.lcmp, 1) := by decide +kernel
theorem dL_counts_98 : decode cL_counts 98 = .ok (.ifCond .le 7, 3) := by decide +kernel
theorem dL_counts_101 : decode cL_counts 101 = .ok (.iconst 1, 1) := by decide +kernel
theorem dL_counts_102 : decode cL_counts 102 = .ok (.goto 4, 3) := by decide +kernel
theorem dL_counts_105 : decode cL_counts 105 = .ok (.iconst 0, 1) := by decide +kernel
theorem dL_counts_106 : decode cL_counts 106 = .ok (.iload 8, 2) := by decide +kernel
theorem dL_counts_108 : decode cL_counts 108 = .ok (.iload_n 2, 1) := by decide +kernel
theorem dL_counts_109 : decode cL_counts 109 = .ok (.if_icmp .lt 7, 3) := by decide +kernel
theorem dL_counts_112 : decode cL_counts 112 = .ok (.iconst 1, 1) := by decide +kernel
theorem dL_counts_113 : decode cL_counts 113 = .ok (.goto 4, 3) := by decide +kernel
theorem dL_counts_116 : decode cL_counts 116 = .ok (.iconst 0, 1) := by decide +kernel
theorem dL_counts_117 : decode cL_counts 117 = .ok (.if_icmp .ne 32, 3) := by decide +kernel
theorem dL_counts_120 : decode cL_counts 120 = .ok (.lload 9, 2) := by decide +kernel
theorem dL_counts_122 : decode cL_counts 122 = .ok (.lload 6, 2) := by decide +kernel
theorem dL_counts_124 : decode cL_counts 124 = .ok (.lcmp, 1) := by decide +kernel
theorem dL_counts_125 : decode cL_counts 125 = .ok (.ifCond .lt 24, 3) := by decide +kernel
theorem dL_counts_128 : decode cL_counts 128 = .ok (.iload 8, 2) := by decide +kernel
theorem dL_counts_130 : decode cL_counts 130 = .ok (.ifCond .le 21, 3) := by decide +kernel
theorem dL_counts_133 : decode cL_counts 133 = .ok (.iload 4, 2) := by decide +kernel
theorem dL_counts_135 : decode cL_counts 135 = .ok (.ifCond .le 16, 3) := by decide +kernel
theorem dL_counts_138 : decode cL_counts 138 = .ok (.lload 9, 2) := by decide +kernel
theorem dL_counts_140 : decode cL_counts 140 = .ok (.iload 8, 2) := by decide +kernel
theorem dL_counts_142 : decode cL_counts 142 = .ok (.i2l, 1) := by decide +kernel
theorem dL_counts_143 : decode cL_counts 143 = .ok (.lrem, 1) := by decide +kernel
theorem dL_counts_144 : decode cL_counts 144 = .ok (.lconst 0, 1) := by decide +kernel
theorem dL_counts_145 : decode cL_counts 145 = .ok (.lcmp, 1) := by decide +kernel
theorem dL_counts_146 : decode cL_counts 146 = .ok (.ifCond .eq 5, 3) := by decide +kernel
theorem dL_counts_149 : decode cL_counts 149 = .ok (.iconst 0, 1) := by decide +kernel
theorem dL_counts_150 : decode cL_counts 150 = .ok (.ireturn, 1) := by decide +kernel
theorem dL_counts_151 : decode cL_counts 151 = .ok (.lload 9, 2) := by decide +kernel
theorem dL_counts_153 : decode cL_counts 153 = .ok (.lstore 6, 2) := by decide +kernel
theorem dL_counts_155 : decode cL_counts 155 = .ok (.iinc 8 1, 3) := by decide +kernel
theorem dL_counts_158 : decode cL_counts 158 = .ok (.goto (-91), 3) := by decide +kernel
theorem dL_counts_161 : decode cL_counts 161 = .ok (.iload_n 2, 1) := by decide +kernel
theorem dL_counts_162 : decode cL_counts 162 = .ok (.iload_n 3, 1) := by decide +kernel
theorem dL_counts_163 : decode cL_counts 163 = .ok (.if_icmp .lt 98, 3) := by decide +kernel
theorem dL_counts_166 : decode cL_counts 166 = .ok (.iload_n 2, 1) := by decide +kernel
theorem dL_counts_167 : decode cL_counts 167 = .ok (.iload 4, 2) := by decide +kernel
theorem dL_counts_169 : decode cL_counts 169 = .ok (.if_icmp .gt 92, 3) := by decide +kernel
theorem dL_counts_172 : decode cL_counts 172 = .ok (.iload_n 2, 1) := by decide +kernel
theorem dL_counts_173 : decode cL_counts 173 = .ok (.iload 5, 2) := by decide +kernel
theorem dL_counts_175 : decode cL_counts 175 = .ok (.iconst 1, 1) := by decide +kernel
theorem dL_counts_176 : decode cL_counts 176 = .ok (.iadd, 1) := by decide +kernel
theorem dL_counts_177 : decode cL_counts 177 = .ok (.if_icmp .gt 84, 3) := by decide +kernel
theorem dL_counts_180 : decode cL_counts 180 = .ok (.iload_n 3, 1) := by decide +kernel
theorem dL_counts_181 : decode cL_counts 181 = .ok (.ifCond .ne 7, 3) := by decide +kernel
theorem dL_counts_184 : decode cL_counts 184 = .ok (.iconst 1, 1) := by decide +kernel
theorem dL_counts_185 : decode cL_counts 185 = .ok (.goto 4, 3) := by decide +kernel
theorem dL_counts_188 : decode cL_counts 188 = .ok (.iconst 0, 1) := by decide +kernel
theorem dL_counts_189 : decode cL_counts 189 = .ok (.iload 4, 2) := by decide +kernel
theorem dL_counts_191 : decode cL_counts 191 = .ok (.ifCond .ne 7, 3) := by decide +kernel
theorem dL_counts_194 : decode cL_counts 194 = .ok (.iconst 1, 1) := by decide +kernel
theorem dL_counts_195 : decode cL_counts 195 = .ok (.goto 4, 3) := by decide +kernel
theorem dL_counts_198 : decode cL_counts 198 = .ok (.iconst 0, 1) := by decide +kernel
theorem dL_counts_199 : decode cL_counts 199 = .ok (.if_icmp .ne 62, 3) := by decide +kernel
theorem dL_counts_202 : decode cL_counts 202 = .ok (.iload_n 3, 1) := by decide +kernel
theorem dL_counts_203 : decode cL_counts 203 = .ok (.iload 5, 2) := by decide +kernel
theorem dL_counts_205 : decode cL_counts 205 = .ok (.iconst 1, 1) := by decide +kernel
theorem dL_counts_206 : decode cL_counts 206 = .ok (.iadd, 1) := by decide +kernel
theorem dL_counts_207 : decode cL_counts 207 = .ok (.if_icmp .gt 54, 3) := by decide +kernel
theorem dL_counts_210 : decode cL_counts 210 = .ok (.iload 4, 2) := by decide +kernel
theorem dL_counts_212 : decode cL_counts 212 = .ok (.ifCond .ne 7, 3) := by decide +kernel
theorem dL_counts_215 : decode cL_counts 215 = .ok (.iconst 1, 1) := by decide +kernel
theorem dL_counts_216 : decode cL_counts 216 = .ok (.goto 4, 3) := by decide +kernel
theorem dL_counts_219 : decode cL_counts 219 = .ok (.iconst 0, 1) := by decide +kernel
theorem dL_counts_220 : decode cL_counts 220 = .ok (.iload_n 2, 1) := by decide +kernel
theorem dL_counts_221 : decode cL_counts 221 = .ok (.ifCond .ne 7, 3) := by decide +kernel
theorem dL_counts_224 : decode cL_counts 224 = .ok (.iconst 1, 1) := by decide +kernel
theorem dL_counts_225 : decode cL_counts 225 = .ok (.goto 4, 3) := by decide +kernel
theorem dL_counts_228 : decode cL_counts 228 = .ok (.iconst 0, 1) := by decide +kernel
theorem dL_counts_229 : decode cL_counts 229 = .ok (.if_icmp .ne 32, 3) := by decide +kernel
theorem dL_counts_232 : decode cL_counts 232 = .ok (.aload_n 0, 1) := by decide +kernel
theorem dL_counts_233 : decode cL_counts 233 = .ok (.bipush 11, 2) := by decide +kernel
theorem dL_counts_235 : decode cL_counts 235 = .ok (.invokestatic 133, 3) := by decide +kernel
theorem dL_counts_238 : decode cL_counts 238 = .ok (.ldc2_w 71, 3) := by decide +kernel
theorem dL_counts_241 : decode cL_counts 241 = .ok (.lcmp, 1) := by decide +kernel
theorem dL_counts_242 : decode cL_counts 242 = .ok (.ifCond .ne 19, 3) := by decide +kernel
theorem dL_counts_245 : decode cL_counts 245 = .ok (.aload_n 0, 1) := by decide +kernel
theorem dL_counts_246 : decode cL_counts 246 = .ok (.iconst (-1), 1) := by decide +kernel
theorem dL_counts_247 : decode cL_counts 247 = .ok (.invokestatic 136, 3) := by decide +kernel
theorem dL_counts_250 : decode cL_counts 250 = .ok (.ldc2_w 71, 3) := by decide +kernel
theorem dL_counts_253 : decode cL_counts 253 = .ok (.lcmp, 1) := by decide +kernel
theorem dL_counts_254 : decode cL_counts 254 = .ok (.ifCond .ne 7, 3) := by decide +kernel
theorem dL_counts_257 : decode cL_counts 257 = .ok (.iconst 1, 1) := by decide +kernel
theorem dL_counts_258 : decode cL_counts 258 = .ok (.goto 4, 3) := by decide +kernel
theorem dL_counts_261 : decode cL_counts 261 = .ok (.iconst 0, 1) := by decide +kernel
theorem dL_counts_262 : decode cL_counts 262 = .ok (.ireturn, 1) := by decide +kernel
set_option maxRecDepth 20000 in
theorem ggL_orders_X0_fewestTints : GoodIn wsL_orders wsX0_fewestTints := goodIn_r _ [5, 6, 7, 8, 4, 9, 10, 11, 12, 13, 14, 15, 16, 17, 18, 19, 20, 21, 22, 23, 24, 25, 99, 100, 101, 102, 103, 104, 105, 106] (by decide +kernel) (by decide +kernel)
set_option maxRecDepth 20000 in
theorem gL_orders_X0_fewestTints : GoodIn wsL_orders (wsV RL 127 RX0 yX0_fewestTints wsX0_fewestTints) := goodIn_app (goodIn_of _ (by decide +kernel)) ggL_orders_X0_fewestTints
set_option maxRecDepth 20000 in
theorem ggL_orders_X0_tintInOrder : GoodIn wsL_orders wsX0_tintInOrder := goodIn_r _ [29, 11, 30, 16, 17, 18, 19, 20, 21, 4, 22, 31, 32, 33, 34, 10, 35, 36, 37, 38, 39, 40, 41, 42, 43, 44, 45, 46, 47, 48, 49, 50, 51, 52, 53, 99, 100, 101, 102, 103, 104, 105, 106] (by decide +kernel) (by decide +kernel)
set_option maxRecDepth 20000 in
theorem gL_orders_X0_tintInOrder : GoodIn wsL_orders (wsV RL 138 RX0 yX0_tintInOrder wsX0_tintInOrder) := goodIn_app (goodIn_of _ (by decide +kernel)) ggL_orders_X0_tintInOrder
set_option maxRecDepth 20000 in
theorem ggL_orders_L_area : GoodIn wsL_orders wsL_area := goodIn_ca (goodIn_r _ [57, 58, 59, 60, 61, 62, 4, 63, 64, 65, 66, 67, 68, 69, 70, 71, 72, 73, 74, 75, 76, 99, 100, 101, 102, 103, 104, 105, 106] (by decide +kernel) (by decide +kernel)) (goodIn_sub (fun _ h => List.mem_cons_of_mem _ (List.mem_append_right _ h)) (by decide +kernel))
set_option maxRecDepth 20000 in
theorem gL_orders_L_area : GoodIn wsL_orders (va_wsS RL 84 yL_area wsL_area) := goodIn_app (goodIn_of _ (by decide +kernel)) ggL_orders_L_area
set_option maxRecDepth 20000 in
theorem ggL_orders_L_tintOf : GoodIn wsL_orders wsL_tintOf := goodIn_ca (goodIn_r _ [79, 58, 59, 80, 81, 82, 4, 83, 30, 65, 66, 67, 68, 69, 99, 100, 101, 102, 103, 104, 105, 106] (by decide +kernel) (by decide +kernel)) (goodIn_sub (fun _ h => List.mem_cons_of_mem _ (List.mem_append_right _ h)) (by decide +kernel))
set_option maxRecDepth 20000 in
theorem gL_orders_L_tintOf : GoodIn wsL_orders (va_wsS RL 104 yL_tintOf wsL_tintOf) := goodIn_app (goodIn_of _ (by decide +kernel)) ggL_orders_L_tintOf
set_option maxRecDepth 20000 in
theorem ggL_orders_L_many : GoodIn wsL_orders wsL_many := goodIn_r _ [86] (by decide +kernel) (by decide +kernel)
set_option maxRecDepth 20000 in
theorem gL_orders_L_many : GoodIn wsL_orders (va_wsS RL 89 yL_many wsL_many) := goodIn_app (goodIn_of _ (by decide +kernel)) ggL_orders_L_many
set_option maxRecDepth 20000 in
theorem ggL_orders_X0_isTinted : GoodIn wsL_orders wsX0_isTinted := goodIn_r _ [90, 11, 39, 40, 41, 4, 42, 30, 91, 92, 93, 94, 10, 47, 48, 49, 50, 51, 52, 53, 99, 100, 101, 102, 103, 104, 105, 106] (by decide +kernel) (by decide +kernel)
set_option maxRecDepth 20000 in
theorem gL_orders_X0_isTinted : GoodIn wsL_orders (wsV RL 111 RX0 yX0_isTinted wsX0_isTinted) := goodIn_app (goodIn_of _ (by decide +kernel)) ggL_orders_X0_isTinted
set_option maxRecDepth 20000 in
theorem ggL_orders_X0_tintWithFewest : GoodIn wsL_orders wsX0_tintWithFewest := goodIn_r _ [98, 11, 30, 12, 6, 7, 8, 4, 9, 10, 13, 14, 15, 16, 17, 18, 19, 20, 21, 22, 23, 24, 25, 99, 100, 101, 102, 103, 104, 105, 106] (by decide +kernel) (by decide +kernel)
set_option maxRecDepth 20000 in
theorem gL_orders_X0_tintWithFewest : GoodIn wsL_orders (wsV RL 142 RX0 yX0_tintWithFewest wsX0_tintWithFewest) := goodIn_app (goodIn_of _ (by decide +kernel)) ggL_orders_X0_tintWithFewest
theorem dL_orders_0 : decode cL_orders 0 = .ok (.aload_n 0, 1) := by decide +kernel
theorem dL_orders_1 : decode cL_orders 1 = .ok (.invokevirtual 127, 3) := by decide +kernel
theorem dL_orders_4 : decode cL_orders 4 = .ok (.istore_n 3, 1) := by decide +kernel
theorem dL_orders_5 : decode cL_orders 5 = .ok (.aload_n 0, 1) := by decide +kernel
theorem dL_orders_6 : decode cL_orders 6 = .ok (.iload_n 2, 1) := by decide +kernel
theorem dL_orders_7 : decode cL_orders 7 = .ok (.invokevirtual 138, 3) := by decide +kernel
theorem dL_orders_10 : decode cL_orders 10 = .ok (.istore 4, 2) := by decide +kernel
theorem dL_orders_12 : decode cL_orders 12 = .ok (.iconst 0, 1) := by decide +kernel
theorem dL_orders_13 : decode cL_orders 13 = .ok (.istore 5, 2) := by decide +kernel
theorem dL_orders_15 : decode cL_orders 15 = .ok (.iconst 0, 1) := by decide +kernel
theorem dL_orders_16 : decode cL_orders 16 = .ok (.istore 6, 2) := by decide +kernel
theorem dL_orders_18 : decode cL_orders 18 = .ok (.iload 6, 2) := by decide +kernel
theorem dL_orders_20 : decode cL_orders 20 = .ok (.bipush 10, 2) := by decide +kernel
theorem dL_orders_22 : decode cL_orders 22 = .ok (.if_icmp .ge 200, 3) := by decide +kernel
theorem dL_orders_25 : decode cL_orders 25 = .ok (.aload_n 0, 1) := by decide +kernel
theorem dL_orders_26 : decode cL_orders 26 = .ok (.iload 6, 2) := by decide +kernel
theorem dL_orders_28 : decode cL_orders 28 = .ok (.invokestatic 84, 3) := by decide +kernel
theorem dL_orders_31 : decode cL_orders 31 = .ok (.ifCond .le 185, 3) := by decide +kernel
theorem dL_orders_34 : decode cL_orders 34 = .ok (.aload_n 0, 1) := by decide +kernel
theorem dL_orders_35 : decode cL_orders 35 = .ok (.iload 6, 2) := by decide +kernel
theorem dL_orders_37 : decode cL_orders 37 = .ok (.invokestatic 104, 3) := by decide +kernel
theorem dL_orders_40 : decode cL_orders 40 = .ok (.istore 7, 2) := by decide +kernel
theorem dL_orders_42 : decode cL_orders 42 = .ok (.iload 7, 2) := by decide +kernel
theorem dL_orders_44 : decode cL_orders 44 = .ok (.iload 5, 2) := by decide +kernel
theorem dL_orders_46 : decode cL_orders 46 = .ok (.if_icmp .le 8, 3) := by decide +kernel
theorem dL_orders_49 : decode cL_orders 49 = .ok (.iload 7, 2) := by decide +kernel
theorem dL_orders_51 : decode cL_orders 51 = .ok (.goto 5, 3) := by decide +kernel
theorem dL_orders_54 : decode cL_orders 54 = .ok (.iload 5, 2) := by decide +kernel
theorem dL_orders_56 : decode cL_orders 56 = .ok (.istore 5, 2) := by decide +kernel
theorem dL_orders_58 : decode cL_orders 58 = .ok (.iconst 0, 1) := by decide +kernel
theorem dL_orders_59 : decode cL_orders 59 = .ok (.istore 8, 2) := by decide +kernel
theorem dL_orders_61 : decode cL_orders 61 = .ok (.iconst 0, 1) := by decide +kernel
theorem dL_orders_62 : decode cL_orders 62 = .ok (.istore 9, 2) := by decide +kernel
theorem dL_orders_64 : decode cL_orders 64 = .ok (.iload 9, 2) := by decide +kernel
theorem dL_orders_66 : decode cL_orders 66 = .ok (.bipush 10, 2) := by decide +kernel
theorem dL_orders_68 : decode cL_orders 68 = .ok (.if_icmp .ge 111, 3) := by decide +kernel
theorem dL_orders_71 : decode cL_orders 71 = .ok (.iload_n 2, 1) := by decide +kernel
theorem dL_orders_72 : decode cL_orders 72 = .ok (.ifCond .eq 52, 3) := by decide +kernel
theorem dL_orders_75 : decode cL_orders 75 = .ok (.aload_n 1, 1) := by decide +kernel
theorem dL_orders_76 : decode cL_orders 76 = .ok (.iload 9, 2) := by decide +kernel
theorem dL_orders_78 : decode cL_orders 78 = .ok (.iaload, 1) := by decide +kernel
theorem dL_orders_79 : decode cL_orders 79 = .ok (.invokestatic 89, 3) := by decide +kernel
theorem dL_orders_82 : decode cL_orders 82 = .ok (.aload_n 1, 1) := by decide +kernel
theorem dL_orders_83 : decode cL_orders 83 = .ok (.iload 6, 2) := by decide +kernel
theorem dL_orders_85 : decode cL_orders 85 = .ok (.iaload, 1) := by decide +kernel
theorem dL_orders_86 : decode cL_orders 86 = .ok (.invokestatic 89, 3) := by decide +kernel
theorem dL_orders_89 : decode cL_orders 89 = .ok (.if_icmp .gt 27, 3) := by decide +kernel
theorem dL_orders_92 : decode cL_orders 92 = .ok (.aload_n 1, 1) := by decide +kernel
theorem dL_orders_93 : decode cL_orders 93 = .ok (.iload 9, 2) := by decide +kernel
theorem dL_orders_95 : decode cL_orders 95 = .ok (.iaload, 1) := by decide +kernel
theorem dL_orders_96 : decode cL_orders 96 = .ok (.invokestatic 89, 3) := by decide +kernel
theorem dL_orders_99 : decode cL_orders 99 = .ok (.aload_n 1, 1) := by decide +kernel
theorem dL_orders_100 : decode cL_orders 100 = .ok (.iload 6, 2) := by decide +kernel
theorem dL_orders_102 : decode cL_orders 102 = .ok (.iaload, 1) := by decide +kernel
theorem dL_orders_103 : decode cL_orders 103 = .ok (.invokestatic 89, 3) := by decide +kernel
theorem dL_orders_106 : decode cL_orders 106 = .ok (.if_icmp .ne 14, 3) := by decide +kernel
theorem dL_orders_109 : decode cL_orders 109 = .ok (.iload 9, 2) := by decide +kernel
theorem dL_orders_111 : decode cL_orders 111 = .ok (.iload 6, 2) := by decide +kernel
theorem dL_orders_113 : decode cL_orders 113 = .ok (.if_icmp .ge 7, 3) := by decide +kernel
theorem dL_orders_116 : decode cL_orders 116 = .ok (.iconst 1, 1) := by decide +kernel
theorem dL_orders_117 : decode cL_orders 117 = .ok (.goto 19, 3) := by decide +kernel
theorem dL_orders_120 : decode cL_orders 120 = .ok (.iconst 0, 1) := by decide +kernel
theorem dL_orders_121 : decode cL_orders 121 = .ok (.goto 15, 3) := by decide +kernel
theorem dL_orders_124 : decode cL_orders 124 = .ok (.iload 9, 2) := by decide +kernel
theorem dL_orders_126 : decode cL_orders 126 = .ok (.iload 6, 2) := by decide +kernel
theorem dL_orders_128 : decode cL_orders 128 = .ok (.if_icmp .ge 7, 3) := by decide +kernel
theorem dL_orders_131 : decode cL_orders 131 = .ok (.iconst 1, 1) := by decide +kernel
theorem dL_orders_132 : decode cL_orders 132 = .ok (.goto 4, 3) := by decide +kernel
theorem dL_orders_135 : decode cL_orders 135 = .ok (.iconst 0, 1) := by decide +kernel
theorem dL_orders_136 : decode cL_orders 136 = .ok (.istore 10, 2) := by decide +kernel
theorem dL_orders_138 : decode cL_orders 138 = .ok (.iload 8, 2) := by decide +kernel
theorem dL_orders_140 : decode cL_orders 140 = .ok (.iload 10, 2) := by decide +kernel
theorem dL_orders_142 : decode cL_orders 142 = .ok (.ifCond .eq 27, 3) := by decide +kernel
theorem dL_orders_145 : decode cL_orders 145 = .ok (.aload_n 1, 1) := by decide +kernel
theorem dL_orders_146 : decode cL_orders 146 = .ok (.iload 6, 2) := by decide +kernel
theorem dL_orders_148 : decode cL_orders 148 = .ok (.iaload, 1) := by decide +kernel
theorem dL_orders_149 : decode cL_orders 149 = .ok (.iload 9, 2) := by decide +kernel
theorem dL_orders_151 : decode cL_orders 151 = .ok (.ishr, 1) := by decide +kernel
theorem dL_orders_152 : decode cL_orders 152 = .ok (.iconst 1, 1) := by decide +kernel
theorem dL_orders_153 : decode cL_orders 153 = .ok (.iand, 1) := by decide +kernel
theorem dL_orders_154 : decode cL_orders 154 = .ok (.iconst 1, 1) := by decide +kernel
theorem dL_orders_155 : decode cL_orders 155 = .ok (.if_icmp .ne 14, 3) := by decide +kernel
theorem dL_orders_158 : decode cL_orders 158 = .ok (.iconst 1, 1) := by decide +kernel
theorem dL_orders_159 : decode cL_orders 159 = .ok (.aload_n 0, 1) := by decide +kernel
theorem dL_orders_160 : decode cL_orders 160 = .ok (.iload 9, 2) := by decide +kernel
theorem dL_orders_162 : decode cL_orders 162 = .ok (.invokestatic 104, 3) := by decide +kernel
theorem dL_orders_165 : decode cL_orders 165 = .ok (.ishl, 1) := by decide +kernel
theorem dL_orders_166 : decode cL_orders 166 = .ok (.goto 4, 3) := by decide +kernel
theorem dL_orders_169 : decode cL_orders 169 = .ok (.iconst 0, 1) := by decide +kernel
theorem dL_orders_170 : decode cL_orders 170 = .ok (.ior, 1) := by decide +kernel
theorem dL_orders_171 : decode cL_orders 171 = .ok (.istore 8, 2) := by decide +kernel
theorem dL_orders_173 : decode cL_orders 173 = .ok (.iinc 9 1, 3) := by decide +kernel
theorem dL_orders_176 : decode cL_orders 176 = .ok (.goto (-112), 3) := by decide +kernel
theorem dL_orders_179 : decode cL_orders 179 = .ok (.iload 7, 2) := by decide +kernel
theorem dL_orders_181 : decode cL_orders 181 = .ok (.iconst 1, 1) := by decide +kernel
theorem dL_orders_182 : decode cL_orders 182 = .ok (.if_icmp .lt 32, 3) := by decide +kernel
theorem dL_orders_185 : decode cL_orders 185 = .ok (.iload 8, 2) := by decide +kernel
theorem dL_orders_187 : decode cL_orders 187 = .ok (.iload 7, 2) := by decide +kernel
theorem dL_orders_189 : decode cL_orders 189 = .ok (.ishr, 1) := by decide +kernel
theorem dL_orders_190 : decode cL_orders 190 = .ok (.iconst 1, 1) := by decide +kernel
theorem dL_orders_191 : decode cL_orders 191 = .ok (.iand, 1) := by decide +kernel
theorem dL_orders_192 : decode cL_orders 192 = .ok (.iconst 1, 1) := by decide +kernel
theorem dL_orders_193 : decode cL_orders 193 = .ok (.if_icmp .eq 21, 3) := by decide +kernel
theorem dL_orders_196 : decode cL_orders 196 = .ok (.iload 8, 2) := by decide +kernel
theorem dL_orders_198 : decode cL_orders 198 = .ok (.iconst 1, 1) := by decide +kernel
theorem dL_orders_199 : decode cL_orders 199 = .ok (.iload 7, 2) := by decide +kernel
theorem dL_orders_201 : decode cL_orders 201 = .ok (.ishl, 1) := by decide +kernel
theorem dL_orders_202 : decode cL_orders 202 = .ok (.iconst 2, 1) := by decide +kernel
theorem dL_orders_203 : decode cL_orders 203 = .ok (.isub, 1) := by decide +kernel
theorem dL_orders_204 : decode cL_orders 204 = .ok (.iand, 1) := by decide +kernel
theorem dL_orders_205 : decode cL_orders 205 = .ok (.iconst 1, 1) := by decide +kernel
theorem dL_orders_206 : decode cL_orders 206 = .ok (.iload 7, 2) := by decide +kernel
theorem dL_orders_208 : decode cL_orders 208 = .ok (.ishl, 1) := by decide +kernel
theorem dL_orders_209 : decode cL_orders 209 = .ok (.iconst 2, 1) := by decide +kernel
theorem dL_orders_210 : decode cL_orders 210 = .ok (.isub, 1) := by decide +kernel
theorem dL_orders_211 : decode cL_orders 211 = .ok (.if_icmp .eq 5, 3) := by decide +kernel
theorem dL_orders_214 : decode cL_orders 214 = .ok (.iconst 0, 1) := by decide +kernel
theorem dL_orders_215 : decode cL_orders 215 = .ok (.ireturn, 1) := by decide +kernel
theorem dL_orders_216 : decode cL_orders 216 = .ok (.iinc 6 1, 3) := by decide +kernel
theorem dL_orders_219 : decode cL_orders 219 = .ok (.goto (-201), 3) := by decide +kernel
theorem dL_orders_222 : decode cL_orders 222 = .ok (.iload 4, 2) := by decide +kernel
theorem dL_orders_224 : decode cL_orders 224 = .ok (.iload 5, 2) := by decide +kernel
theorem dL_orders_226 : decode cL_orders 226 = .ok (.if_icmp .ne 35, 3) := by decide +kernel
theorem dL_orders_229 : decode cL_orders 229 = .ok (.iload 4, 2) := by decide +kernel
theorem dL_orders_231 : decode cL_orders 231 = .ok (.iload_n 3, 1) := by decide +kernel
theorem dL_orders_232 : decode cL_orders 232 = .ok (.if_icmp .lt 29, 3) := by decide +kernel
theorem dL_orders_235 : decode cL_orders 235 = .ok (.aload_n 0, 1) := by decide +kernel
theorem dL_orders_236 : decode cL_orders 236 = .ok (.invokevirtual 111, 3) := by decide +kernel
theorem dL_orders_239 : decode cL_orders 239 = .ok (.ifCond .eq 22, 3) := by decide +kernel
theorem dL_orders_242 : decode cL_orders 242 = .ok (.aload_n 0, 1) := by decide +kernel
theorem dL_orders_243 : decode cL_orders 243 = .ok (.invokevirtual 142, 3) := by decide +kernel
theorem dL_orders_246 : decode cL_orders 246 = .ok (.iload_n 3, 1) := by decide +kernel
theorem dL_orders_247 : decode cL_orders 247 = .ok (.if_icmp .ne 14, 3) := by decide +kernel
theorem dL_orders_250 : decode cL_orders 250 = .ok (.aload_n 0, 1) := by decide +kernel
theorem dL_orders_251 : decode cL_orders 251 = .ok (.invokevirtual 111, 3) := by decide +kernel
theorem dL_orders_254 : decode cL_orders 254 = .ok (.ifCond .eq 7, 3) := by decide +kernel
theorem dL_orders_257 : decode cL_orders 257 = .ok (.iconst 1, 1) := by decide +kernel
theorem dL_orders_258 : decode cL_orders 258 = .ok (.goto 4, 3) := by decide +kernel
theorem dL_orders_261 : decode cL_orders 261 = .ok (.iconst 0, 1) := by decide +kernel
theorem dL_orders_262 : decode cL_orders 262 = .ok (.istore 6, 2) := by decide +kernel
theorem dL_orders_264 : decode cL_orders 264 = .ok (.iconst 0, 1) := by decide +kernel
theorem dL_orders_265 : decode cL_orders 265 = .ok (.istore 7, 2) := by decide +kernel
theorem dL_orders_267 : decode cL_orders 267 = .ok (.iconst 0, 1) := by decide +kernel
theorem dL_orders_268 : decode cL_orders 268 = .ok (.istore 8, 2) := by decide +kernel
theorem dL_orders_270 : decode cL_orders 270 = .ok (.iload 8, 2) := by decide +kernel
theorem dL_orders_272 : decode cL_orders 272 = .ok (.bipush 10, 2) := by decide +kernel
theorem dL_orders_274 : decode cL_orders 274 = .ok (.if_icmp .ge 69, 3) := by decide +kernel
theorem dL_orders_277 : decode cL_orders 277 = .ok (.aload_n 0, 1) := by decide +kernel
theorem dL_orders_278 : decode cL_orders 278 = .ok (.iload 8, 2) := by decide +kernel
theorem dL_orders_280 : decode cL_orders 280 = .ok (.invokestatic 84, 3) := by decide +kernel
theorem dL_orders_283 : decode cL_orders 283 = .ok (.ifCond .le 54, 3) := by decide +kernel
theorem dL_orders_286 : decode cL_orders 286 = .ok (.aload_n 0, 1) := by decide +kernel
theorem dL_orders_287 : decode cL_orders 287 = .ok (.iload 8, 2) := by decide +kernel
theorem dL_orders_289 : decode cL_orders 289 = .ok (.invokestatic 104, 3) := by decide +kernel
theorem dL_orders_292 : decode cL_orders 292 = .ok (.istore 9, 2) := by decide +kernel
theorem dL_orders_294 : decode cL_orders 294 = .ok (.iload 6, 2) := by decide +kernel
theorem dL_orders_296 : decode cL_orders 296 = .ok (.ifCond .eq 22, 3) := by decide +kernel
theorem dL_orders_299 : decode cL_orders 299 = .ok (.iload 9, 2) := by decide +kernel
theorem dL_orders_301 : decode cL_orders 301 = .ok (.iload 7, 2) := by decide +kernel
theorem dL_orders_303 : decode cL_orders 303 = .ok (.iconst 1, 1) := by decide +kernel
theorem dL_orders_304 : decode cL_orders 304 = .ok (.iadd, 1) := by decide +kernel
theorem dL_orders_305 : decode cL_orders 305 = .ok (.if_icmp .gt 13, 3) := by decide +kernel
theorem dL_orders_308 : decode cL_orders 308 = .ok (.iload 9, 2) := by decide +kernel
theorem dL_orders_310 : decode cL_orders 310 = .ok (.iload_n 3, 1) := by decide +kernel
theorem dL_orders_311 : decode cL_orders 311 = .ok (.if_icmp .gt 7, 3) := by decide +kernel
theorem dL_orders_314 : decode cL_orders 314 = .ok (.iconst 1, 1) := by decide +kernel
theorem dL_orders_315 : decode cL_orders 315 = .ok (.goto 4, 3) := by decide +kernel
theorem dL_orders_318 : decode cL_orders 318 = .ok (.iconst 0, 1) := by decide +kernel
theorem dL_orders_319 : decode cL_orders 319 = .ok (.istore 6, 2) := by decide +kernel
theorem dL_orders_321 : decode cL_orders 321 = .ok (.iload 9, 2) := by decide +kernel
theorem dL_orders_323 : decode cL_orders 323 = .ok (.iload 7, 2) := by decide +kernel
theorem dL_orders_325 : decode cL_orders 325 = .ok (.if_icmp .le 8, 3) := by decide +kernel
theorem dL_orders_328 : decode cL_orders 328 = .ok (.iload 9, 2) := by decide +kernel
theorem dL_orders_330 : decode cL_orders 330 = .ok (.goto 5, 3) := by decide +kernel
theorem dL_orders_333 : decode cL_orders 333 = .ok (.iload 7, 2) := by decide +kernel
theorem dL_orders_335 : decode cL_orders 335 = .ok (.istore 7, 2) := by decide +kernel
theorem dL_orders_337 : decode cL_orders 337 = .ok (.iinc 8 1, 3) := by decide +kernel
theorem dL_orders_340 : decode cL_orders 340 = .ok (.goto (-70), 3) := by decide +kernel
theorem dL_orders_343 : decode cL_orders 343 = .ok (.iload 6, 2) := by decide +kernel
theorem dL_orders_345 : decode cL_orders 345 = .ok (.ifCond .eq 13, 3) := by decide +kernel
theorem dL_orders_348 : decode cL_orders 348 = .ok (.iload 7, 2) := by decide +kernel
theorem dL_orders_350 : decode cL_orders 350 = .ok (.iload_n 3, 1) := by decide +kernel
theorem dL_orders_351 : decode cL_orders 351 = .ok (.if_icmp .ne 7, 3) := by decide +kernel
theorem dL_orders_354 : decode cL_orders 354 = .ok (.iconst 1, 1) := by decide +kernel
theorem dL_orders_355 : decode cL_orders 355 = .ok (.goto 4, 3) := by decide +kernel
theorem dL_orders_358 : decode cL_orders 358 = .ok (.iconst 0, 1) := by decide +kernel
theorem dL_orders_359 : decode cL_orders 359 = .ok (.ireturn, 1) := by decide +kernel
set_option maxRecDepth 20000 in
theorem ggL_paints_L_low : GoodIn wsL_paints wsL_low := goodIn_r _ [6, 7] (by decide +kernel) (by decide +kernel)
set_option maxRecDepth 20000 in
theorem gL_paints_L_low : GoodIn wsL_paints (va_wsS RL 145 yL_low wsL_low) := goodIn_app (goodIn_of _ (by decide +kernel)) ggL_paints_L_low
set_option maxRecDepth 20000 in
theorem ggL_paints_L_countryAt : GoodIn wsL_paints wsL_countryAt := goodIn_ca (goodIn_r _ [10, 11, 2, 12, 13, 14, 15, 16, 17, 18, 19, 20, 21, 22, 23, 24, 25, 26, 27, 28, 29, 94, 95, 96, 97, 98, 99, 100, 101] (by decide +kernel) (by decide +kernel)) (goodIn_sub (fun _ h => List.mem_cons_of_mem _ (List.mem_append_left _ (List.mem_append_right _ h))) (by decide +kernel))
set_option maxRecDepth 20000 in
theorem gL_paints_L_countryAt : GoodIn wsL_paints (va_wsS RL 76 yL_countryAt wsL_countryAt) := goodIn_app (goodIn_of _ (by decide +kernel)) ggL_paints_L_countryAt
set_option maxRecDepth 20000 in
theorem ggL_paints_L_paint : GoodIn wsL_paints wsL_paint := goodIn_ca (goodIn_ca (goodIn_r _ [32, 11, 33, 2, 1, 34, 35, 36, 15, 37, 17, 18, 19, 20, 21, 38, 39, 40, 41, 42, 22, 23, 24, 25, 26, 27, 28, 29, 43, 44, 45, 46, 47, 48, 49, 50, 51, 52, 53, 54, 55, 56, 57, 58, 59, 60, 61, 62, 63, 64, 65, 66, 67, 68, 69, 70, 71, 72, 73, 74, 75, 94, 95, 96, 97, 98, 99, 100, 101] (by decide +kernel) (by decide +kernel)) (goodIn_sub (fun _ h => List.mem_cons_of_mem _ (List.mem_append_left _ (List.mem_append_right _ h))) (by decide +kernel))) (goodIn_sub (fun _ h => List.mem_cons_of_mem _ (List.mem_append_right _ h)) (by decide +kernel))
set_option maxRecDepth 20000 in
theorem gL_paints_L_paint : GoodIn wsL_paints (va_wsS RL 148 yL_paint wsL_paint) := goodIn_app (goodIn_of _ (by decide +kernel)) ggL_paints_L_paint
set_option maxRecDepth 20000 in
theorem ggL_paints_L_paintBlock : GoodIn wsL_paints wsL_paintBlock := goodIn_ca (goodIn_ca (goodIn_r _ [78, 11, 33, 2, 1, 79, 80, 81, 15, 82, 41, 42, 47, 17, 18, 19, 20, 21, 38, 39, 40, 22, 23, 24, 83, 84, 85, 86, 29, 63, 87, 88, 89, 90, 91, 92, 93, 43, 44, 45, 46, 48, 49, 50, 51, 52, 53, 54, 55, 56, 57, 58, 59, 60, 61, 62, 64, 65, 66, 67, 68, 69, 70, 71, 72, 73, 74, 75, 94, 95, 96, 97, 98, 99, 100, 101] (by decide +kernel) (by decide +kernel)) (goodIn_sub (fun _ h => List.mem_cons_of_mem _ (List.mem_append_right _ h)) (by decide +kernel))) (goodIn_sub (fun _ h => List.mem_cons_of_mem _ (List.mem_append_left _ (List.mem_append_right _ h))) (by decide +kernel))
set_option maxRecDepth 20000 in
theorem gL_paints_L_paintBlock : GoodIn wsL_paints (va_wsS RL 151 yL_paintBlock wsL_paintBlock) := goodIn_app (goodIn_of _ (by decide +kernel)) ggL_paints_L_paintBlock
theorem dL_paints_0 : decode cL_paints 0 = .ok (.iload_n 1, 1) := by decide +kernel
theorem dL_paints_1 : decode cL_paints 1 = .ok (.iconst 4, 1) := by decide +kernel
theorem dL_paints_2 : decode cL_paints 2 = .ok (.ishr, 1) := by decide +kernel
theorem dL_paints_3 : decode cL_paints 3 = .ok (.bipush 11, 2) := by decide +kernel
theorem dL_paints_5 : decode cL_paints 5 = .ok (.invokestatic 145, 3) := by decide +kernel
theorem dL_paints_8 : decode cL_paints 8 = .ok (.iconst 1, 1) := by decide +kernel
theorem dL_paints_9 : decode cL_paints 9 = .ok (.isub, 1) := by decide +kernel
theorem dL_paints_10 : decode cL_paints 10 = .ok (.istore_n 3, 1) := by decide +kernel
theorem dL_paints_11 : decode cL_paints 11 = .ok (.iload_n 2, 1) := by decide +kernel
theorem dL_paints_12 : decode cL_paints 12 = .ok (.bipush 6, 2) := by decide +kernel
