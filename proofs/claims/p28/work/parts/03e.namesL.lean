theorem dL_below_0 : decode cL_below 0 = .ok (.iload_n 0, 1) := by decide +kernel
theorem dL_below_1 : decode cL_below 1 = .ok (.ldc 7, 2) := by decide +kernel
theorem dL_below_3 : decode cL_below 3 = .ok (.iand, 1) := by decide +kernel
theorem dL_below_4 : decode cL_below 4 = .ok (.iload_n 1, 1) := by decide +kernel
theorem dL_below_5 : decode cL_below 5 = .ok (.irem, 1) := by decide +kernel
theorem dL_below_6 : decode cL_below 6 = .ok (.ireturn, 1) := by decide +kernel
theorem dL_cell_0 : decode cL_cell 0 = .ok (.iload_n 1, 1) := by decide +kernel
theorem dL_cell_1 : decode cL_cell 1 = .ok (.aload_n 0, 1) := by decide +kernel
theorem dL_cell_2 : decode cL_cell 2 = .ok (.arraylength, 1) := by decide +kernel
theorem dL_cell_3 : decode cL_cell 3 = .ok (.if_icmp .ge 9, 3) := by decide +kernel
theorem dL_cell_6 : decode cL_cell 6 = .ok (.aload_n 0, 1) := by decide +kernel
theorem dL_cell_7 : decode cL_cell 7 = .ok (.iload_n 1, 1) := by decide +kernel
theorem dL_cell_8 : decode cL_cell 8 = .ok (.iaload, 1) := by decide +kernel
theorem dL_cell_9 : decode cL_cell 9 = .ok (.goto 9, 3) := by decide +kernel
theorem dL_cell_12 : decode cL_cell 12 = .ok (.ldc 8, 2) := by decide +kernel
theorem dL_cell_14 : decode cL_cell 14 = .ok (.iload_n 1, 1) := by decide +kernel
theorem dL_cell_15 : decode cL_cell 15 = .ok (.iconst 3, 1) := by decide +kernel
theorem dL_cell_16 : decode cL_cell 16 = .ok (.iadd, 1) := by decide +kernel
theorem dL_cell_17 : decode cL_cell 17 = .ok (.imul, 1) := by decide +kernel
theorem dL_cell_18 : decode cL_cell 18 = .ok (.ireturn, 1) := by decide +kernel
set_option maxRecDepth 20000 in
theorem ggL_build_L_cell : GoodIn wsL_build wsL_cell := goodIn_r _ [9, 10] (by decide +kernel) (by decide +kernel)
set_option maxRecDepth 20000 in
theorem gL_build_L_cell : GoodIn wsL_build (va_wsS RL 9 yL_cell wsL_cell) := goodIn_app (goodIn_of _ (by decide +kernel)) ggL_build_L_cell
set_option maxRecDepth 20000 in
theorem ggL_build_L_below : GoodIn wsL_build wsL_below := goodIn_r _ [13, 14] (by decide +kernel) (by decide +kernel)
set_option maxRecDepth 20000 in
theorem gL_build_L_below : GoodIn wsL_build (va_wsS RL 15 yL_below wsL_below) := goodIn_app (goodIn_of _ (by decide +kernel)) ggL_build_L_below
set_option maxRecDepth 20000 in
theorem ggL_build_X0_addKind : GoodIn wsL_build wsX0_addKind := goodIn_ca (goodIn_ca (goodIn_r _ [19, 20, 21, 22, 23, 24, 25, 26, 27, 28, 29, 30, 18, 31, 48, 49, 50, 51, 52, 53, 54, 55, 56, 57, 58, 59, 60, 61, 62, 63, 64, 65] (by decide +kernel) (by decide +kernel)) (goodIn_sub (fun _ h => List.mem_cons_of_mem _ (List.mem_append_left _ (List.mem_append_left _ (List.mem_append_right _ h)))) (by decide +kernel))) (goodIn_sub (fun _ h => List.mem_cons_of_mem _ (List.mem_append_left _ (List.mem_append_right _ h))) (by decide +kernel))
set_option maxRecDepth 20000 in
theorem gL_build_X0_addKind : GoodIn wsL_build (wsV RL 19 RX0 yX0_addKind wsX0_addKind) := goodIn_app (goodIn_of _ (by decide +kernel)) ggL_build_X0_addKind
set_option maxRecDepth 20000 in
theorem ggL_build_X0_fill : GoodIn wsL_build wsX0_fill := goodIn_ca (goodIn_ca (goodIn_r _ [35, 26, 36, 37, 3, 4, 5, 38, 25, 39, 40, 41, 18, 42, 43, 44, 24, 45, 46, 47, 20, 21, 48, 49, 50, 51, 52, 53, 54, 55, 56, 57, 58, 59, 60, 61, 62, 63, 64, 65] (by decide +kernel) (by decide +kernel)) (goodIn_sub (fun _ h => List.mem_cons_of_mem _ (List.mem_append_right _ h)) (by decide +kernel))) (goodIn_sub (fun _ h => List.mem_cons_of_mem _ (List.mem_append_left _ (List.mem_append_left _ (List.mem_append_right _ h)))) (by decide +kernel))
set_option maxRecDepth 20000 in
theorem gL_build_X0_fill : GoodIn wsL_build (wsV RL 29 RX0 yX0_fill wsX0_fill) := goodIn_app (goodIn_of _ (by decide +kernel)) ggL_build_X0_fill
theorem dL_build_0 : decode cL_build 0 = .ok (.bipush 16, 2) := by decide +kernel
theorem dL_build_2 : decode cL_build 2 = .ok (.newarray .int, 2) := by decide +kernel
theorem dL_build_4 : decode cL_build 4 = .ok (.dup, 1) := by decide +kernel
theorem dL_build_5 : decode cL_build 5 = .ok (.iconst 0, 1) := by decide +kernel
theorem dL_build_6 : decode cL_build 6 = .ok (.iconst 1, 1) := by decide +kernel
theorem dL_build_7 : decode cL_build 7 = .ok (.iastore, 1) := by decide +kernel
theorem dL_build_8 : decode cL_build 8 = .ok (.dup, 1) := by decide +kernel
theorem dL_build_9 : decode cL_build 9 = .ok (.iconst 1, 1) := by decide +kernel
theorem dL_build_10 : decode cL_build 10 = .ok (.iconst 2, 1) := by decide +kernel
theorem dL_build_11 : decode cL_build 11 = .ok (.iastore, 1) := by decide +kernel
theorem dL_build_12 : decode cL_build 12 = .ok (.dup, 1) := by decide +kernel
theorem dL_build_13 : decode cL_build 13 = .ok (.iconst 2, 1) := by decide +kernel
theorem dL_build_14 : decode cL_build 14 = .ok (.iconst 5, 1) := by decide +kernel
theorem dL_build_15 : decode cL_build 15 = .ok (.iastore, 1) := by decide +kernel
theorem dL_build_16 : decode cL_build 16 = .ok (.dup, 1) := by decide +kernel
theorem dL_build_17 : decode cL_build 17 = .ok (.iconst 3, 1) := by decide +kernel
theorem dL_build_18 : decode cL_build 18 = .ok (.bipush 10, 2) := by decide +kernel
theorem dL_build_20 : decode cL_build 20 = .ok (.iastore, 1) := by decide +kernel
theorem dL_build_21 : decode cL_build 21 = .ok (.dup, 1) := by decide +kernel
theorem dL_build_22 : decode cL_build 22 = .ok (.iconst 4, 1) := by decide +kernel
theorem dL_build_23 : decode cL_build 23 = .ok (.bipush 20, 2) := by decide +kernel
theorem dL_build_25 : decode cL_build 25 = .ok (.iastore, 1) := by decide +kernel
theorem dL_build_26 : decode cL_build 26 = .ok (.dup, 1) := by decide +kernel
theorem dL_build_27 : decode cL_build 27 = .ok (.iconst 5, 1) := by decide +kernel
theorem dL_build_28 : decode cL_build 28 = .ok (.bipush 50, 2) := by decide +kernel
theorem dL_build_30 : decode cL_build 30 = .ok (.iastore, 1) := by decide +kernel
theorem dL_build_31 : decode cL_build 31 = .ok (.dup, 1) := by decide +kernel
theorem dL_build_32 : decode cL_build 32 = .ok (.bipush 6, 2) := by decide +kernel
theorem dL_build_34 : decode cL_build 34 = .ok (.bipush 100, 2) := by decide +kernel
theorem dL_build_36 : decode cL_build 36 = .ok (.iastore, 1) := by decide +kernel
theorem dL_build_37 : decode cL_build 37 = .ok (.dup, 1) := by decide +kernel
theorem dL_build_38 : decode cL_build 38 = .ok (.bipush 7, 2) := by decide +kernel
theorem dL_build_40 : decode cL_build 40 = .ok (.sipush 200, 3) := by decide +kernel
theorem dL_build_43 : decode cL_build 43 = .ok (.iastore, 1) := by decide +kernel
theorem dL_build_44 : decode cL_build 44 = .ok (.dup, 1) := by decide +kernel
theorem dL_build_45 : decode cL_build 45 = .ok (.bipush 8, 2) := by decide +kernel
theorem dL_build_47 : decode cL_build 47 = .ok (.bipush 25, 2) := by decide +kernel
theorem dL_build_49 : decode cL_build 49 = .ok (.iastore, 1) := by decide +kernel
theorem dL_build_50 : decode cL_build 50 = .ok (.dup, 1) := by decide +kernel
theorem dL_build_51 : decode cL_build 51 = .ok (.bipush 9, 2) := by decide +kernel
theorem dL_build_53 : decode cL_build 53 = .ok (.bipush 30, 2) := by decide +kernel
theorem dL_build_55 : decode cL_build 55 = .ok (.iastore, 1) := by decide +kernel
theorem dL_build_56 : decode cL_build 56 = .ok (.dup, 1) := by decide +kernel
theorem dL_build_57 : decode cL_build 57 = .ok (.bipush 10, 2) := by decide +kernel
theorem dL_build_59 : decode cL_build 59 = .ok (.bipush 7, 2) := by decide +kernel
theorem dL_build_61 : decode cL_build 61 = .ok (.iastore, 1) := by decide +kernel
theorem dL_build_62 : decode cL_build 62 = .ok (.dup, 1) := by decide +kernel
theorem dL_build_63 : decode cL_build 63 = .ok (.bipush 11, 2) := by decide +kernel
theorem dL_build_65 : decode cL_build 65 = .ok (.iconst 4, 1) := by decide +kernel
theorem dL_build_66 : decode cL_build 66 = .ok (.iastore, 1) := by decide +kernel
theorem dL_build_67 : decode cL_build 67 = .ok (.dup, 1) := by decide +kernel
theorem dL_build_68 : decode cL_build 68 = .ok (.bipush 12, 2) := by decide +kernel
theorem dL_build_70 : decode cL_build 70 = .ok (.bipush 9, 2) := by decide +kernel
theorem dL_build_72 : decode cL_build 72 = .ok (.iastore, 1) := by decide +kernel
theorem dL_build_73 : decode cL_build 73 = .ok (.dup, 1) := by decide +kernel
theorem dL_build_74 : decode cL_build 74 = .ok (.bipush 13, 2) := by decide +kernel
theorem dL_build_76 : decode cL_build 76 = .ok (.bipush 15, 2) := by decide +kernel
theorem dL_build_78 : decode cL_build 78 = .ok (.iastore, 1) := by decide +kernel
theorem dL_build_79 : decode cL_build 79 = .ok (.dup, 1) := by decide +kernel
theorem dL_build_80 : decode cL_build 80 = .ok (.bipush 14, 2) := by decide +kernel
theorem dL_build_82 : decode cL_build 82 = .ok (.iconst 3, 1) := by decide +kernel
theorem dL_build_83 : decode cL_build 83 = .ok (.iastore, 1) := by decide +kernel
theorem dL_build_84 : decode cL_build 84 = .ok (.dup, 1) := by decide +kernel
theorem dL_build_85 : decode cL_build 85 = .ok (.bipush 15, 2) := by decide +kernel
theorem dL_build_87 : decode cL_build 87 = .ok (.bipush 40, 2) := by decide +kernel
theorem dL_build_89 : decode cL_build 89 = .ok (.iastore, 1) := by decide +kernel
theorem dL_build_90 : decode cL_build 90 = .ok (.astore 8, 2) := by decide +kernel
theorem dL_build_92 : decode cL_build 92 = .ok (.iconst 0, 1) := by decide +kernel
theorem dL_build_93 : decode cL_build 93 = .ok (.istore 9, 2) := by decide +kernel
theorem dL_build_95 : decode cL_build 95 = .ok (.iconst 1, 1) := by decide +kernel
theorem dL_build_96 : decode cL_build 96 = .ok (.aload_n 1, 1) := by decide +kernel
theorem dL_build_97 : decode cL_build 97 = .ok (.iload_n 2, 1) := by decide +kernel
theorem dL_build_98 : decode cL_build 98 = .ok (.invokestatic 9, 3) := by decide +kernel
theorem dL_build_101 : decode cL_build 101 = .ok (.iload_n 3, 1) := by decide +kernel
theorem dL_build_102 : decode cL_build 102 = .ok (.invokestatic 15, 3) := by decide +kernel
theorem dL_build_105 : decode cL_build 105 = .ok (.iadd, 1) := by decide +kernel
theorem dL_build_106 : decode cL_build 106 = .ok (.istore 10, 2) := by decide +kernel
theorem dL_build_108 : decode cL_build 108 = .ok (.iconst 0, 1) := by decide +kernel
theorem dL_build_109 : decode cL_build 109 = .ok (.istore 11, 2) := by decide +kernel
theorem dL_build_111 : decode cL_build 111 = .ok (.iload 11, 2) := by decide +kernel
theorem dL_build_113 : decode cL_build 113 = .ok (.iload 10, 2) := by decide +kernel
theorem dL_build_115 : decode cL_build 115 = .ok (.if_icmp .ge 212, 3) := by decide +kernel
theorem dL_build_118 : decode cL_build 118 = .ok (.aload_n 1, 1) := by decide +kernel
theorem dL_build_119 : decode cL_build 119 = .ok (.iload_n 2, 1) := by decide +kernel
theorem dL_build_120 : decode cL_build 120 = .ok (.iconst 1, 1) := by decide +kernel
theorem dL_build_121 : decode cL_build 121 = .ok (.iadd, 1) := by decide +kernel
theorem dL_build_122 : decode cL_build 122 = .ok (.iload 11, 2) := by decide +kernel
theorem dL_build_124 : decode cL_build 124 = .ok (.iconst 4, 1) := by decide +kernel
theorem dL_build_125 : decode cL_build 125 = .ok (.irem, 1) := by decide +kernel
theorem dL_build_126 : decode cL_build 126 = .ok (.iadd, 1) := by decide +kernel
theorem dL_build_127 : decode cL_build 127 = .ok (.invokestatic 9, 3) := by decide +kernel
theorem dL_build_130 : decode cL_build 130 = .ok (.iload 11, 2) := by decide +kernel
theorem dL_build_132 : decode cL_build 132 = .ok (.iconst 4, 1) := by decide +kernel
theorem dL_build_133 : decode cL_build 133 = .ok (.idiv, 1) := by decide +kernel
theorem dL_build_134 : decode cL_build 134 = .ok (.bipush 9, 2) := by decide +kernel
theorem dL_build_136 : decode cL_build 136 = .ok (.imul, 1) := by decide +kernel
theorem dL_build_137 : decode cL_build 137 = .ok (.ishr, 1) := by decide +kernel
theorem dL_build_138 : decode cL_build 138 = .ok (.istore 12, 2) := by decide +kernel
theorem dL_build_140 : decode cL_build 140 = .ok (.iload 12, 2) := by decide +kernel
theorem dL_build_142 : decode cL_build 142 = .ok (.bipush 6, 2) := by decide +kernel
theorem dL_build_144 : decode cL_build 144 = .ok (.invokestatic 15, 3) := by decide +kernel
theorem dL_build_147 : decode cL_build 147 = .ok (.ifCond .ne 17, 3) := by decide +kernel
theorem dL_build_150 : decode cL_build 150 = .ok (.iconst 1, 1) := by decide +kernel
theorem dL_build_151 : decode cL_build 151 = .ok (.iload 12, 2) := by decide +kernel
theorem dL_build_153 : decode cL_build 153 = .ok (.iconst 3, 1) := by decide +kernel
theorem dL_build_154 : decode cL_build 154 = .ok (.ishr, 1) := by decide +kernel
theorem dL_build_155 : decode cL_build 155 = .ok (.bipush 60, 2) := by decide +kernel
theorem dL_build_157 : decode cL_build 157 = .ok (.invokestatic 15, 3) := by decide +kernel
theorem dL_build_160 : decode cL_build 160 = .ok (.iadd, 1) := by decide +kernel
theorem dL_build_161 : decode cL_build 161 = .ok (.goto 15, 3) := by decide +kernel
theorem dL_build_164 : decode cL_build 164 = .ok (.aload 8, 2) := by decide +kernel
theorem dL_build_166 : decode cL_build 166 = .ok (.iload 12, 2) := by decide +kernel
theorem dL_build_168 : decode cL_build 168 = .ok (.iconst 3, 1) := by decide +kernel
theorem dL_build_169 : decode cL_build 169 = .ok (.ishr, 1) := by decide +kernel
theorem dL_build_170 : decode cL_build 170 = .ok (.bipush 16, 2) := by decide +kernel
theorem dL_build_172 : decode cL_build 172 = .ok (.invokestatic 15, 3) := by decide +kernel
theorem dL_build_175 : decode cL_build 175 = .ok (.iaload, 1) := by decide +kernel
theorem dL_build_176 : decode cL_build 176 = .ok (.istore 13, 2) := by decide +kernel
theorem dL_build_178 : decode cL_build 178 = .ok (.iconst 1, 1) := by decide +kernel
theorem dL_build_179 : decode cL_build 179 = .ok (.istore 14, 2) := by decide +kernel
theorem dL_build_181 : decode cL_build 181 = .ok (.iconst 0, 1) := by decide +kernel
theorem dL_build_182 : decode cL_build 182 = .ok (.istore 15, 2) := by decide +kernel
theorem dL_build_184 : decode cL_build 184 = .ok (.iload 15, 2) := by decide +kernel
theorem dL_build_186 : decode cL_build 186 = .ok (.iload 9, 2) := by decide +kernel
theorem dL_build_188 : decode cL_build 188 = .ok (.if_icmp .ge 31, 3) := by decide +kernel
theorem dL_build_191 : decode cL_build 191 = .ok (.iload 14, 2) := by decide +kernel
theorem dL_build_193 : decode cL_build 193 = .ok (.ifCond .eq 17, 3) := by decide +kernel
theorem dL_build_196 : decode cL_build 196 = .ok (.aload 5, 2) := by decide +kernel
theorem dL_build_198 : decode cL_build 198 = .ok (.iload 15, 2) := by decide +kernel
theorem dL_build_200 : decode cL_build 200 = .ok (.iaload, 1) := by decide +kernel
theorem dL_build_201 : decode cL_build 201 = .ok (.iload 13, 2) := by decide +kernel
theorem dL_build_203 : decode cL_build 203 = .ok (.if_icmp .eq 7, 3) := by decide +kernel
theorem dL_build_206 : decode cL_build 206 = .ok (.iconst 1, 1) := by decide +kernel
theorem dL_build_207 : decode cL_build 207 = .ok (.goto 4, 3) := by decide +kernel
theorem dL_build_210 : decode cL_build 210 = .ok (.iconst 0, 1) := by decide +kernel
theorem dL_build_211 : decode cL_build 211 = .ok (.istore 14, 2) := by decide +kernel
theorem dL_build_213 : decode cL_build 213 = .ok (.iinc 15 1, 3) := by decide +kernel
theorem dL_build_216 : decode cL_build 216 = .ok (.goto (-32), 3) := by decide +kernel
theorem dL_build_219 : decode cL_build 219 = .ok (.iload 14, 2) := by decide +kernel
theorem dL_build_221 : decode cL_build 221 = .ok (.ifCond .ne 6, 3) := by decide +kernel
theorem dL_build_224 : decode cL_build 224 = .ok (.goto 97, 3) := by decide +kernel
theorem dL_build_227 : decode cL_build 227 = .ok (.aload 5, 2) := by decide +kernel
theorem dL_build_229 : decode cL_build 229 = .ok (.iload 9, 2) := by decide +kernel
theorem dL_build_231 : decode cL_build 231 = .ok (.iload 13, 2) := by decide +kernel
theorem dL_build_233 : decode cL_build 233 = .ok (.iastore, 1) := by decide +kernel
theorem dL_build_234 : decode cL_build 234 = .ok (.aload 6, 2) := by decide +kernel
theorem dL_build_236 : decode cL_build 236 = .ok (.iload 9, 2) := by decide +kernel
theorem dL_build_238 : decode cL_build 238 = .ok (.iload 12, 2) := by decide +kernel
theorem dL_build_240 : decode cL_build 240 = .ok (.bipush 6, 2) := by decide +kernel
theorem dL_build_242 : decode cL_build 242 = .ok (.ishr, 1) := by decide +kernel
theorem dL_build_243 : decode cL_build 243 = .ok (.iload 4, 2) := by decide +kernel
theorem dL_build_245 : decode cL_build 245 = .ok (.iconst 3, 1) := by decide +kernel
theorem dL_build_246 : decode cL_build 246 = .ok (.iadd, 1) := by decide +kernel
theorem dL_build_247 : decode cL_build 247 = .ok (.invokestatic 15, 3) := by decide +kernel
theorem dL_build_250 : decode cL_build 250 = .ok (.iastore, 1) := by decide +kernel
theorem dL_build_251 : decode cL_build 251 = .ok (.aload_n 0, 1) := by decide +kernel
theorem dL_build_252 : decode cL_build 252 = .ok (.iload 13, 2) := by decide +kernel
theorem dL_build_254 : decode cL_build 254 = .ok (.aload 6, 2) := by decide +kernel
theorem dL_build_256 : decode cL_build 256 = .ok (.iload 9, 2) := by decide +kernel
theorem dL_build_258 : decode cL_build 258 = .ok (.iaload, 1) := by decide +kernel
theorem dL_build_259 : decode cL_build 259 = .ok (.invokevirtual 19, 3) := by decide +kernel
theorem dL_build_262 : decode cL_build 262 = .ok (.iload 9, 2) := by decide +kernel
theorem dL_build_264 : decode cL_build 264 = .ok (.if_icmp .eq 5, 3) := by decide +kernel
theorem dL_build_267 : decode cL_build 267 = .ok (.iconst (-1), 1) := by decide +kernel
theorem dL_build_268 : decode cL_build 268 = .ok (.ireturn, 1) := by decide +kernel
theorem dL_build_269 : decode cL_build 269 = .ok (.iload 12, 2) := by decide +kernel
theorem dL_build_271 : decode cL_build 271 = .ok (.iconst 5, 1) := by decide +kernel
theorem dL_build_272 : decode cL_build 272 = .ok (.ishr, 1) := by decide +kernel
theorem dL_build_273 : decode cL_build 273 = .ok (.iload 4, 2) := by decide +kernel
theorem dL_build_275 : decode cL_build 275 = .ok (.iconst 1, 1) := by decide +kernel
theorem dL_build_276 : decode cL_build 276 = .ok (.iadd, 1) := by decide +kernel
theorem dL_build_277 : decode cL_build 277 = .ok (.invokestatic 15, 3) := by decide +kernel
theorem dL_build_280 : decode cL_build 280 = .ok (.istore 15, 2) := by decide +kernel
theorem dL_build_282 : decode cL_build 282 = .ok (.aload 7, 2) := by decide +kernel
theorem dL_build_284 : decode cL_build 284 = .ok (.iload 9, 2) := by decide +kernel
theorem dL_build_286 : decode cL_build 286 = .ok (.iload 15, 2) := by decide +kernel
theorem dL_build_288 : decode cL_build 288 = .ok (.aload 6, 2) := by decide +kernel
theorem dL_build_290 : decode cL_build 290 = .ok (.iload 9, 2) := by decide +kernel
theorem dL_build_292 : decode cL_build 292 = .ok (.iaload, 1) := by decide +kernel
theorem dL_build_293 : decode cL_build 293 = .ok (.invokestatic 24, 3) := by decide +kernel
theorem dL_build_296 : decode cL_build 296 = .ok (.iastore, 1) := by decide +kernel
theorem dL_build_297 : decode cL_build 297 = .ok (.aload_n 0, 1) := by decide +kernel
theorem dL_build_298 : decode cL_build 298 = .ok (.iload 9, 2) := by decide +kernel
theorem dL_build_300 : decode cL_build 300 = .ok (.iload 15, 2) := by decide +kernel
theorem dL_build_302 : decode cL_build 302 = .ok (.invokevirtual 29, 3) := by decide +kernel
theorem dL_build_305 : decode cL_build 305 = .ok (.iload 15, 2) := by decide +kernel
theorem dL_build_307 : decode cL_build 307 = .ok (.aload 7, 2) := by decide +kernel
theorem dL_build_309 : decode cL_build 309 = .ok (.iload 9, 2) := by decide +kernel
theorem dL_build_311 : decode cL_build 311 = .ok (.iaload, 1) := by decide +kernel
theorem dL_build_312 : decode cL_build 312 = .ok (.isub, 1) := by decide +kernel
theorem dL_build_313 : decode cL_build 313 = .ok (.if_icmp .eq 5, 3) := by decide +kernel
theorem dL_build_316 : decode cL_build 316 = .ok (.iconst (-1), 1) := by decide +kernel
theorem dL_build_317 : decode cL_build 317 = .ok (.ireturn, 1) := by decide +kernel
theorem dL_build_318 : decode cL_build 318 = .ok (.iinc 9 1, 3) := by decide +kernel
theorem dL_build_321 : decode cL_build 321 = .ok (.iinc 11 1, 3) := by decide +kernel
theorem dL_build_324 : decode cL_build 324 = .ok (.goto (-213), 3) := by decide +kernel
theorem dL_build_327 : decode cL_build 327 = .ok (.iload 9, 2) := by decide +kernel
theorem dL_build_329 : decode cL_build 329 = .ok (.ireturn, 1) := by decide +kernel
set_option maxRecDepth 20000 in
theorem ggL_law_X0_init : GoodIn wsL_law wsX0_init := goodIn_r _ [6, 7, 8, 9, 10, 3, 11, 12, 13, 14, 15, 16, 17, 18, 19, 20, 21, 22, 23, 24, 25, 26, 27, 28, 29, 202, 203, 204, 205, 206, 207, 208, 209, 210, 211, 212, 213, 214, 215, 216, 217, 218, 219] (by decide +kernel) (by decide +kernel)
set_option maxRecDepth 20000 in
theorem gL_law_X0_init : GoodIn wsL_law (wsX0_init) := ggL_law_X0_init
set_option maxRecDepth 20000 in
theorem ggL_law_L_build : GoodIn wsL_law wsL_build := goodIn_ca (goodIn_ca (goodIn_ca (goodIn_r _ [33, 3, 34, 35, 36, 37, 38, 39, 32, 40, 41, 42, 43, 44, 45, 46, 47, 48, 2, 49, 50, 51, 52, 53, 10, 11, 12, 17, 54, 55, 56, 57, 58, 59, 60, 61, 13, 62, 27, 63, 64, 65, 66, 67, 68, 69, 70, 71, 202, 203, 204, 205, 206, 207, 208, 209, 210, 211, 212, 213, 214, 215, 216, 217, 218, 219] (by decide +kernel) (by decide +kernel)) (goodIn_sub (fun _ h => List.mem_append_left _ (List.mem_append_left _ (List.mem_append_right _ h))) (by decide +kernel))) (goodIn_sub (fun _ h => List.mem_append_left _ (List.mem_append_right _ h)) (by decide +kernel))) (goodIn_sub (fun _ h => List.mem_append_right _ h) (by decide +kernel))
set_option maxRecDepth 20000 in
theorem gL_law_L_build : GoodIn wsL_law (va_wsS RL 43 yL_build wsL_build) := goodIn_app (goodIn_of _ (by decide +kernel)) ggL_law_L_build
set_option maxRecDepth 20000 in
theorem ggL_law_L_cell : GoodIn wsL_law wsL_cell := goodIn_r _ [40, 41] (by decide +kernel) (by decide +kernel)
set_option maxRecDepth 20000 in
theorem gL_law_L_cell : GoodIn wsL_law (va_wsS RL 9 yL_cell wsL_cell) := goodIn_app (goodIn_of _ (by decide +kernel)) ggL_law_L_cell
set_option maxRecDepth 20000 in
theorem ggL_law_L_below : GoodIn wsL_law wsL_below := goodIn_r _ [44, 45] (by decide +kernel) (by decide +kernel)
set_option maxRecDepth 20000 in
theorem gL_law_L_below : GoodIn wsL_law (va_wsS RL 15 yL_below wsL_below) := goodIn_app (goodIn_of _ (by decide +kernel)) ggL_law_L_below
set_option maxRecDepth 20000 in
theorem ggL_law_X0_fewest : GoodIn wsL_law wsX0_fewest := goodIn_ca (goodIn_r _ [75, 13, 76, 77, 78, 2, 79, 50, 51, 80, 81, 82, 83, 62, 35, 36, 37, 28, 10, 84, 85, 86, 87, 88, 11, 89, 90, 91, 92, 93, 94, 95, 96, 97, 98, 99, 100, 101, 102, 103, 104, 105, 106, 202, 203, 204, 205, 206, 207, 208, 209, 210, 211, 212, 213, 214, 215, 216, 217, 218, 219] (by decide +kernel) (by decide +kernel)) (goodIn_sub (fun _ h => List.mem_append_left _ (List.mem_append_left _ (List.mem_append_right _ h))) (by decide +kernel))
set_option maxRecDepth 20000 in
theorem gL_law_X0_fewest : GoodIn wsL_law (wsV RL 47 RX0 yX0_fewest wsX0_fewest) := goodIn_app (goodIn_of _ (by decide +kernel)) ggL_law_X0_fewest
set_option maxRecDepth 20000 in
theorem ggL_law_X0_below : GoodIn wsL_law wsX0_below := goodIn_ca (goodIn_r _ [110, 13, 76, 77, 78, 2, 79, 50, 51, 80, 81, 82, 83, 62, 35, 36, 37, 28, 10, 84, 85, 86, 87, 88, 11, 89, 90, 91, 92, 93, 94, 95, 96, 97, 98, 99, 100, 101, 102, 103, 202, 203, 204, 205, 206, 207, 208, 209, 210, 211, 212, 213, 214, 215, 216, 217, 218, 219] (by decide +kernel) (by decide +kernel)) (goodIn_sub (fun _ h => List.mem_append_left _ (List.mem_append_left _ (List.mem_append_right _ h))) (by decide +kernel))
set_option maxRecDepth 20000 in
theorem gL_law_X0_below : GoodIn wsL_law (wsV RL 51 RX0 yX0_below wsX0_below) := goodIn_app (goodIn_of _ (by decide +kernel)) ggL_law_X0_below
set_option maxRecDepth 20000 in
theorem ggL_law_X0_unit : GoodIn wsL_law wsX0_unit := goodIn_r _ [114, 10, 115, 116, 117, 2, 118, 11, 202, 203, 204, 205, 206, 207, 208, 209, 210, 211, 212, 213, 214, 215, 216, 217, 218, 219] (by decide +kernel) (by decide +kernel)
set_option maxRecDepth 20000 in
theorem gL_law_X0_unit : GoodIn wsL_law (wsV RL 53 RX0 yX0_unit wsX0_unit) := goodIn_app (goodIn_of _ (by decide +kernel)) ggL_law_X0_unit
set_option maxRecDepth 20000 in
theorem ggL_law_X0_part : GoodIn wsL_law wsX0_part := goodIn_ca (goodIn_ca (goodIn_r _ [122, 13, 76, 77, 78, 2, 79, 50, 51, 63, 64, 65, 66, 67, 68, 10, 80, 81, 82, 83, 62, 35, 36, 37, 28, 84, 85, 86, 87, 88, 11, 89, 90, 91, 92, 93, 94, 95, 96, 97, 98, 99, 100, 101, 102, 103, 123, 124, 125, 126, 127, 202, 203, 204, 205, 206, 207, 208, 209, 210, 211, 212, 213, 214, 215, 216, 217, 218, 219] (by decide +kernel) (by decide +kernel)) (goodIn_sub (fun _ h => List.mem_append_left _ (List.mem_append_left _ (List.mem_append_right _ h))) (by decide +kernel))) (goodIn_sub (fun _ h => List.mem_append_right _ h) (by decide +kernel))
set_option maxRecDepth 20000 in
theorem gL_law_X0_part : GoodIn wsL_law (wsV RL 57 RX0 yX0_part wsX0_part) := goodIn_app (goodIn_of _ (by decide +kernel)) ggL_law_X0_part
set_option maxRecDepth 20000 in
theorem ggL_law_X0_coins : GoodIn wsL_law wsX0_coins := goodIn_ca (goodIn_r _ [131, 67, 68, 63, 64, 65, 2, 66, 10, 132, 133, 134, 135, 11, 13, 14, 15, 202, 203, 204, 205, 206, 207, 208, 209, 210, 211, 212, 213, 214, 215, 216, 217, 218, 219] (by decide +kernel) (by decide +kernel)) (goodIn_sub (fun _ h => List.mem_append_right _ h) (by decide +kernel))
set_option maxRecDepth 20000 in
theorem gL_law_X0_coins : GoodIn wsL_law (wsV RL 60 RX0 yX0_coins wsX0_coins) := goodIn_app (goodIn_of _ (by decide +kernel)) ggL_law_X0_coins
set_option maxRecDepth 20000 in
theorem ggL_law_X0_gaps : GoodIn wsL_law wsX0_gaps := goodIn_ca (goodIn_r _ [139, 13, 76, 77, 78, 2, 79, 50, 51, 140, 112, 113, 114, 10, 115, 116, 117, 118, 11, 80, 81, 82, 83, 62, 35, 36, 37, 28, 84, 85, 86, 87, 88, 89, 90, 91, 92, 93, 94, 95, 96, 97, 98, 99, 100, 101, 102, 103, 202, 203, 204, 205, 206, 207, 208, 209, 210, 211, 212, 213, 214, 215, 216, 217, 218, 219] (by decide +kernel) (by decide +kernel)) (goodIn_sub (fun _ h => List.mem_append_left _ (List.mem_append_left _ (List.mem_append_right _ h))) (by decide +kernel))
set_option maxRecDepth 20000 in
theorem gL_law_X0_gaps : GoodIn wsL_law (wsV RL 63 RX0 yX0_gaps wsX0_gaps) := goodIn_app (goodIn_of _ (by decide +kernel)) ggL_law_X0_gaps
set_option maxRecDepth 20000 in
theorem ggL_law_X0_fill : GoodIn wsL_law wsX0_fill := goodIn_ca (goodIn_ca (goodIn_r _ [61, 12, 13, 62, 35, 36, 37, 27, 11, 63, 64, 65, 2, 66, 67, 68, 10, 69, 70, 71, 50, 51, 202, 203, 204, 205, 206, 207, 208, 209, 210, 211, 212, 213, 214, 215, 216, 217, 218, 219] (by decide +kernel) (by decide +kernel)) (goodIn_sub (fun _ h => List.mem_append_right _ h) (by decide +kernel))) (goodIn_sub (fun _ h => List.mem_append_left _ (List.mem_append_left _ (List.mem_append_right _ h))) (by decide +kernel))
set_option maxRecDepth 20000 in
theorem gL_law_X0_fill : GoodIn wsL_law (wsV RL 29 RX0 yX0_fill wsX0_fill) := goodIn_app (goodIn_of _ (by decide +kernel)) ggL_law_X0_fill
set_option maxRecDepth 20000 in
theorem ggL_law_X0_addProduct : GoodIn wsL_law wsX0_addProduct := goodIn_ca (goodIn_ca (goodIn_r _ [144, 52, 53, 18, 19, 20, 145, 146, 2, 147, 50, 51, 202, 203, 204, 205, 206, 207, 208, 209, 210, 211, 212, 213, 214, 215, 216, 217, 218, 219] (by decide +kernel) (by decide +kernel)) (goodIn_sub (fun _ h => List.mem_append_left _ (List.mem_append_right _ h)) (by decide +kernel))) (goodIn_sub (fun _ h => List.mem_append_left _ (List.mem_append_left _ (List.mem_append_right _ h))) (by decide +kernel))
set_option maxRecDepth 20000 in
theorem gL_law_X0_addProduct : GoodIn wsL_law (wsV RL 66 RX0 yX0_addProduct wsX0_addProduct) := goodIn_app (goodIn_of _ (by decide +kernel)) ggL_law_X0_addProduct
set_option maxRecDepth 20000 in
theorem ggL_law_X0_insert : GoodIn wsL_law wsX0_insert := goodIn_ca (goodIn_r _ [151, 17, 22, 11, 21, 23, 27, 63, 64, 65, 2, 66, 67, 68, 10, 152, 153, 154, 155, 156, 157, 158, 159, 202, 203, 204, 205, 206, 207, 208, 209, 210, 211, 212, 213, 214, 215, 216, 217, 218, 219] (by decide +kernel) (by decide +kernel)) (goodIn_sub (fun _ h => List.mem_append_right _ h) (by decide +kernel))
set_option maxRecDepth 20000 in
theorem gL_law_X0_insert : GoodIn wsL_law (wsV RL 69 RX0 yX0_insert wsX0_insert) := goodIn_app (goodIn_of _ (by decide +kernel)) ggL_law_X0_insert
set_option maxRecDepth 20000 in
theorem ggL_law_X0_digest : GoodIn wsL_law wsX0_digest := goodIn_r _ [163, 164, 165, 21, 18, 19, 20, 22, 23, 27, 166, 167, 168, 2, 169, 10, 17, 132, 133, 134, 135, 11, 13, 14, 15, 202, 203, 204, 205, 206, 207, 208, 209, 210, 211, 212, 213, 214, 215, 216, 217, 218, 219] (by decide +kernel) (by decide +kernel)
set_option maxRecDepth 20000 in
theorem gL_law_X0_digest : GoodIn wsL_law (wsV RL 72 RX0 yX0_digest wsX0_digest) := goodIn_app (goodIn_of _ (by decide +kernel)) ggL_law_X0_digest
set_option maxRecDepth 20000 in
theorem ggL_law_X0_buy : GoodIn wsL_law wsX0_buy := goodIn_ca (goodIn_r _ [173, 20, 19, 29, 76, 24, 25, 174, 175, 176, 2, 177, 67, 68, 18, 152, 153, 154, 155, 10, 11, 156, 157, 158, 159, 22, 23, 178, 179, 180, 181, 13, 12, 62, 35, 36, 37, 80, 81, 82, 83, 28, 84, 85, 86, 87, 88, 89, 90, 91, 92, 93, 94, 95, 96, 97, 98, 99, 100, 101, 102, 103, 182, 183, 184, 185, 14, 186, 187, 188, 189, 15, 123, 124, 125, 126, 127, 190, 191, 192, 193, 27, 202, 203, 204, 205, 206, 207, 208, 209, 210, 211, 212, 213, 214, 215, 216, 217, 218, 219] (by decide +kernel) (by decide +kernel)) (goodIn_sub (fun _ h => List.mem_append_right _ h) (by decide +kernel))
set_option maxRecDepth 20000 in
theorem gL_law_X0_buy : GoodIn wsL_law (wsV RL 76 RX0 yX0_buy wsX0_buy) := goodIn_app (goodIn_of _ (by decide +kernel)) ggL_law_X0_buy
set_option maxRecDepth 20000 in
theorem ggL_law_X0_cancel : GoodIn wsL_law wsX0_cancel := goodIn_r _ [197, 22, 27, 152, 153, 154, 2, 155, 10, 11, 156, 157, 158, 159, 23, 202, 203, 204, 205, 206, 207, 208, 209, 210, 211, 212, 213, 214, 215, 216, 217, 218, 219] (by decide +kernel) (by decide +kernel)
set_option maxRecDepth 20000 in
theorem gL_law_X0_cancel : GoodIn wsL_law (wsV RL 79 RX0 yX0_cancel wsX0_cancel) := goodIn_app (goodIn_of _ (by decide +kernel)) ggL_law_X0_cancel
set_option maxRecDepth 20000 in
theorem ggL_law_X0_audit : GoodIn wsL_law wsX0_audit := goodIn_ca (goodIn_r _ [201, 67, 68, 27, 202, 203, 204, 205, 206, 207, 208, 209, 210, 211, 212, 213, 214, 215, 216, 217, 218, 219] (by decide +kernel) (by decide +kernel)) (goodIn_sub (fun _ h => List.mem_append_right _ h) (by decide +kernel))
set_option maxRecDepth 20000 in
theorem gL_law_X0_audit : GoodIn wsL_law (wsV RL 82 RX0 yX0_audit wsX0_audit) := goodIn_app (goodIn_of _ (by decide +kernel)) ggL_law_X0_audit
theorem dL_law_0 : decode cL_law 0 = .ok (.new 20, 3) := by decide +kernel
theorem dL_law_3 : decode cL_law 3 = .ok (.dup, 1) := by decide +kernel
theorem dL_law_4 : decode cL_law 4 = .ok (.invokespecial 42, 3) := by decide +kernel
theorem dL_law_7 : decode cL_law 7 = .ok (.astore_n 1, 1) := by decide +kernel
theorem dL_law_8 : decode cL_law 8 = .ok (.bipush 8, 2) := by decide +kernel
theorem dL_law_10 : decode cL_law 10 = .ok (.newarray .int, 2) := by decide +kernel
theorem dL_law_12 : decode cL_law 12 = .ok (.astore_n 2, 1) := by decide +kernel
theorem dL_law_13 : decode cL_law 13 = .ok (.bipush 8, 2) := by decide +kernel
theorem dL_law_15 : decode cL_law 15 = .ok (.newarray .int, 2) := by decide +kernel
theorem dL_law_17 : decode cL_law 17 = .ok (.astore_n 3, 1) := by decide +kernel
theorem dL_law_18 : decode cL_law 18 = .ok (.aload_n 1, 1) := by decide +kernel
theorem dL_law_19 : decode cL_law 19 = .ok (.aload_n 0, 1) := by decide +kernel
theorem dL_law_20 : decode cL_law 20 = .ok (.iconst 0, 1) := by decide +kernel
theorem dL_law_21 : decode cL_law 21 = .ok (.bipush 6, 2) := by decide +kernel
theorem dL_law_23 : decode cL_law 23 = .ok (.bipush 9, 2) := by decide +kernel
theorem dL_law_25 : decode cL_law 25 = .ok (.aload_n 2, 1) := by decide +kernel
theorem dL_law_26 : decode cL_law 26 = .ok (.aload_n 3, 1) := by decide +kernel
theorem dL_law_27 : decode cL_law 27 = .ok (.bipush 8, 2) := by decide +kernel
theorem dL_law_29 : decode cL_law 29 = .ok (.newarray .int, 2) := by decide +kernel
theorem dL_law_31 : decode cL_law 31 = .ok (.invokestatic 43, 3) := by decide +kernel
theorem dL_law_34 : decode cL_law 34 = .ok (.istore 4, 2) := by decide +kernel
theorem dL_law_36 : decode cL_law 36 = .ok (.iload 4, 2) := by decide +kernel
theorem dL_law_38 : decode cL_law 38 = .ok (.ifCond .ge 5, 3) := by decide +kernel
theorem dL_law_41 : decode cL_law 41 = .ok (.iconst 0, 1) := by decide +kernel
theorem dL_law_42 : decode cL_law 42 = .ok (.ireturn, 1) := by decide +kernel
theorem dL_law_43 : decode cL_law 43 = .ok (.iconst 0, 1) := by decide +kernel
theorem dL_law_44 : decode cL_law 44 = .ok (.istore 5, 2) := by decide +kernel
theorem dL_law_46 : decode cL_law 46 = .ok (.iload 5, 2) := by decide +kernel
theorem dL_law_48 : decode cL_law 48 = .ok (.bipush 6, 2) := by decide +kernel
theorem dL_law_50 : decode cL_law 50 = .ok (.if_icmp .ge 321, 3) := by decide +kernel
theorem dL_law_53 : decode cL_law 53 = .ok (.aload_n 0, 1) := by decide +kernel
theorem dL_law_54 : decode cL_law 54 = .ok (.iconst 5, 1) := by decide +kernel
theorem dL_law_55 : decode cL_law 55 = .ok (.iload 5, 2) := by decide +kernel
theorem dL_law_57 : decode cL_law 57 = .ok (.iadd, 1) := by decide +kernel
theorem dL_law_58 : decode cL_law 58 = .ok (.invokestatic 9, 3) := by decide +kernel
theorem dL_law_61 : decode cL_law 61 = .ok (.iload 5, 2) := by decide +kernel
theorem dL_law_63 : decode cL_law 63 = .ok (.iconst 3, 1) := by decide +kernel
theorem dL_law_64 : decode cL_law 64 = .ok (.if_icmp .ge 8, 3) := by decide +kernel
theorem dL_law_67 : decode cL_law 67 = .ok (.bipush 60, 2) := by decide +kernel
theorem dL_law_69 : decode cL_law 69 = .ok (.goto 6, 3) := by decide +kernel
theorem dL_law_72 : decode cL_law 72 = .ok (.sipush 900, 3) := by decide +kernel
theorem dL_law_75 : decode cL_law 75 = .ok (.invokestatic 15, 3) := by decide +kernel
theorem dL_law_78 : decode cL_law 78 = .ok (.istore 6, 2) := by decide +kernel
theorem dL_law_80 : decode cL_law 80 = .ok (.aload_n 1, 1) := by decide +kernel
theorem dL_law_81 : decode cL_law 81 = .ok (.iload 6, 2) := by decide +kernel
theorem dL_law_83 : decode cL_law 83 = .ok (.invokevirtual 47, 3) := by decide +kernel
theorem dL_law_86 : decode cL_law 86 = .ok (.istore 7, 2) := by decide +kernel
theorem dL_law_88 : decode cL_law 88 = .ok (.aload_n 1, 1) := by decide +kernel
theorem dL_law_89 : decode cL_law 89 = .ok (.iload 6, 2) := by decide +kernel
theorem dL_law_91 : decode cL_law 91 = .ok (.invokevirtual 51, 3) := by decide +kernel
theorem dL_law_94 : decode cL_law 94 = .ok (.istore 8, 2) := by decide +kernel
theorem dL_law_96 : decode cL_law 96 = .ok (.iload 7, 2) := by decide +kernel
theorem dL_law_98 : decode cL_law 98 = .ok (.ifCond .lt 7, 3) := by decide +kernel
theorem dL_law_101 : decode cL_law 101 = .ok (.iconst 1, 1) := by decide +kernel
theorem dL_law_102 : decode cL_law 102 = .ok (.goto 4, 3) := by decide +kernel
theorem dL_law_105 : decode cL_law 105 = .ok (.iconst 0, 1) := by decide +kernel
theorem dL_law_106 : decode cL_law 106 = .ok (.iload 8, 2) := by decide +kernel
theorem dL_law_108 : decode cL_law 108 = .ok (.iload 6, 2) := by decide +kernel
theorem dL_law_110 : decode cL_law 110 = .ok (.if_icmp .ne 7, 3) := by decide +kernel
theorem dL_law_113 : decode cL_law 113 = .ok (.iconst 1, 1) := by decide +kernel
theorem dL_law_114 : decode cL_law 114 = .ok (.goto 4, 3) := by decide +kernel
theorem dL_law_117 : decode cL_law 117 = .ok (.iconst 0, 1) := by decide +kernel
theorem dL_law_118 : decode cL_law 118 = .ok (.if_icmp .ne 34, 3) := by decide +kernel
theorem dL_law_121 : decode cL_law 121 = .ok (.iload 8, 2) := by decide +kernel
theorem dL_law_123 : decode cL_law 123 = .ok (.iload 6, 2) := by decide +kernel
theorem dL_law_125 : decode cL_law 125 = .ok (.if_icmp .gt 27, 3) := by decide +kernel
theorem dL_law_128 : decode cL_law 128 = .ok (.aload_n 1, 1) := by decide +kernel
theorem dL_law_129 : decode cL_law 129 = .ok (.iload 8, 2) := by decide +kernel
theorem dL_law_131 : decode cL_law 131 = .ok (.invokevirtual 47, 3) := by decide +kernel
theorem dL_law_134 : decode cL_law 134 = .ok (.ifCond .lt 18, 3) := by decide +kernel
theorem dL_law_137 : decode cL_law 137 = .ok (.iload 7, 2) := by decide +kernel
theorem dL_law_139 : decode cL_law 139 = .ok (.ifCond .lt 15, 3) := by decide +kernel
theorem dL_law_142 : decode cL_law 142 = .ok (.iload 6, 2) := by decide +kernel
theorem dL_law_144 : decode cL_law 144 = .ok (.aload_n 1, 1) := by decide +kernel
theorem dL_law_145 : decode cL_law 145 = .ok (.invokevirtual 53, 3) := by decide +kernel
theorem dL_law_148 : decode cL_law 148 = .ok (.irem, 1) := by decide +kernel
theorem dL_law_149 : decode cL_law 149 = .ok (.ifCond .eq 5, 3) := by decide +kernel
theorem dL_law_152 : decode cL_law 152 = .ok (.iconst 0, 1) := by decide +kernel
theorem dL_law_153 : decode cL_law 153 = .ok (.ireturn, 1) := by decide +kernel
theorem dL_law_154 : decode cL_law 154 = .ok (.iconst 0, 1) := by decide +kernel
theorem dL_law_155 : decode cL_law 155 = .ok (.istore 9, 2) := by decide +kernel
theorem dL_law_157 : decode cL_law 157 = .ok (.iconst 0, 1) := by decide +kernel
theorem dL_law_158 : decode cL_law 158 = .ok (.istore 10, 2) := by decide +kernel
theorem dL_law_160 : decode cL_law 160 = .ok (.iconst 0, 1) := by decide +kernel
theorem dL_law_161 : decode cL_law 161 = .ok (.istore 11, 2) := by decide +kernel
theorem dL_law_163 : decode cL_law 163 = .ok (.iload 11, 2) := by decide +kernel
theorem dL_law_165 : decode cL_law 165 = .ok (.iload 4, 2) := by decide +kernel
theorem dL_law_167 : decode cL_law 167 = .ok (.if_icmp .ge 75, 3) := by decide +kernel
theorem dL_law_170 : decode cL_law 170 = .ok (.aload_n 1, 1) := by decide +kernel
theorem dL_law_171 : decode cL_law 171 = .ok (.iload 6, 2) := by decide +kernel
theorem dL_law_173 : decode cL_law 173 = .ok (.iload 11, 2) := by decide +kernel
theorem dL_law_175 : decode cL_law 175 = .ok (.invokevirtual 57, 3) := by decide +kernel
theorem dL_law_178 : decode cL_law 178 = .ok (.istore 12, 2) := by decide +kernel
theorem dL_law_180 : decode cL_law 180 = .ok (.iload 12, 2) := by decide +kernel
theorem dL_law_182 : decode cL_law 182 = .ok (.ifCond .ge 7, 3) := by decide +kernel
theorem dL_law_185 : decode cL_law 185 = .ok (.iconst 1, 1) := by decide +kernel
theorem dL_law_186 : decode cL_law 186 = .ok (.goto 4, 3) := by decide +kernel
theorem dL_law_189 : decode cL_law 189 = .ok (.iconst 0, 1) := by decide +kernel
theorem dL_law_190 : decode cL_law 190 = .ok (.iload 7, 2) := by decide +kernel
theorem dL_law_192 : decode cL_law 192 = .ok (.ifCond .ge 7, 3) := by decide +kernel
theorem dL_law_195 : decode cL_law 195 = .ok (.iconst 1, 1) := by decide +kernel
theorem dL_law_196 : decode cL_law 196 = .ok (.goto 4, 3) := by decide +kernel
theorem dL_law_199 : decode cL_law 199 = .ok (.iconst 0, 1) := by decide +kernel
theorem dL_law_200 : decode cL_law 200 = .ok (.if_icmp .ne 15, 3) := by decide +kernel
theorem dL_law_203 : decode cL_law 203 = .ok (.iload 12, 2) := by decide +kernel
theorem dL_law_205 : decode cL_law 205 = .ok (.aload_n 1, 1) := by decide +kernel
theorem dL_law_206 : decode cL_law 206 = .ok (.iload 11, 2) := by decide +kernel
theorem dL_law_208 : decode cL_law 208 = .ok (.iconst 1, 1) := by decide +kernel
theorem dL_law_209 : decode cL_law 209 = .ok (.invokevirtual 60, 3) := by decide +kernel
theorem dL_law_212 : decode cL_law 212 = .ok (.if_icmp .le 5, 3) := by decide +kernel
theorem dL_law_215 : decode cL_law 215 = .ok (.iconst 0, 1) := by decide +kernel
theorem dL_law_216 : decode cL_law 216 = .ok (.ireturn, 1) := by decide +kernel
theorem dL_law_217 : decode cL_law 217 = .ok (.iload 9, 2) := by decide +kernel
theorem dL_law_219 : decode cL_law 219 = .ok (.iload 12, 2) := by decide +kernel
theorem dL_law_221 : decode cL_law 221 = .ok (.aload_n 2, 1) := by decide +kernel
theorem dL_law_222 : decode cL_law 222 = .ok (.iload 11, 2) := by decide +kernel
theorem dL_law_224 : decode cL_law 224 = .ok (.iaload, 1) := by decide +kernel
theorem dL_law_225 : decode cL_law 225 = .ok (.imul, 1) := by decide +kernel
theorem dL_law_226 : decode cL_law 226 = .ok (.iadd, 1) := by decide +kernel
theorem dL_law_227 : decode cL_law 227 = .ok (.istore 9, 2) := by decide +kernel
theorem dL_law_229 : decode cL_law 229 = .ok (.iload 10, 2) := by decide +kernel
theorem dL_law_231 : decode cL_law 231 = .ok (.iload 12, 2) := by decide +kernel
theorem dL_law_233 : decode cL_law 233 = .ok (.iadd, 1) := by decide +kernel
theorem dL_law_234 : decode cL_law 234 = .ok (.istore 10, 2) := by decide +kernel
theorem dL_law_236 : decode cL_law 236 = .ok (.iinc 11 1, 3) := by decide +kernel
theorem dL_law_239 : decode cL_law 239 = .ok (.goto (-76), 3) := by decide +kernel
theorem dL_law_242 : decode cL_law 242 = .ok (.iload 7, 2) := by decide +kernel
theorem dL_law_244 : decode cL_law 244 = .ok (.ifCond .lt 19, 3) := by decide +kernel
theorem dL_law_247 : decode cL_law 247 = .ok (.iload 9, 2) := by decide +kernel
theorem dL_law_249 : decode cL_law 249 = .ok (.iload 6, 2) := by decide +kernel
theorem dL_law_251 : decode cL_law 251 = .ok (.if_icmp .ne 10, 3) := by decide +kernel
theorem dL_law_254 : decode cL_law 254 = .ok (.iload 10, 2) := by decide +kernel
theorem dL_law_256 : decode cL_law 256 = .ok (.iload 7, 2) := by decide +kernel
theorem dL_law_258 : decode cL_law 258 = .ok (.if_icmp .eq 5, 3) := by decide +kernel
theorem dL_law_261 : decode cL_law 261 = .ok (.iconst 0, 1) := by decide +kernel
theorem dL_law_262 : decode cL_law 262 = .ok (.ireturn, 1) := by decide +kernel
theorem dL_law_263 : decode cL_law 263 = .ok (.aload_n 0, 1) := by decide +kernel
theorem dL_law_264 : decode cL_law 264 = .ok (.iconst 5, 1) := by decide +kernel
theorem dL_law_265 : decode cL_law 265 = .ok (.iload 5, 2) := by decide +kernel
theorem dL_law_267 : decode cL_law 267 = .ok (.iadd, 1) := by decide +kernel
theorem dL_law_268 : decode cL_law 268 = .ok (.invokestatic 9, 3) := by decide +kernel
theorem dL_law_271 : decode cL_law 271 = .ok (.bipush 10, 2) := by decide +kernel
theorem dL_law_273 : decode cL_law 273 = .ok (.ishr, 1) := by decide +kernel
theorem dL_law_274 : decode cL_law 274 = .ok (.iload 4, 2) := by decide +kernel
theorem dL_law_276 : decode cL_law 276 = .ok (.invokestatic 15, 3) := by decide +kernel
theorem dL_law_279 : decode cL_law 279 = .ok (.istore 11, 2) := by decide +kernel
theorem dL_law_281 : decode cL_law 281 = .ok (.aload_n 1, 1) := by decide +kernel
theorem dL_law_282 : decode cL_law 282 = .ok (.iload 6, 2) := by decide +kernel
theorem dL_law_284 : decode cL_law 284 = .ok (.invokevirtual 63, 3) := by decide +kernel
theorem dL_law_287 : decode cL_law 287 = .ok (.istore 12, 2) := by decide +kernel
theorem dL_law_289 : decode cL_law 289 = .ok (.aload_n 1, 1) := by decide +kernel
theorem dL_law_290 : decode cL_law 290 = .ok (.iload 11, 2) := by decide +kernel
theorem dL_law_292 : decode cL_law 292 = .ok (.iconst 1, 1) := by decide +kernel
theorem dL_law_293 : decode cL_law 293 = .ok (.invokevirtual 60, 3) := by decide +kernel
theorem dL_law_296 : decode cL_law 296 = .ok (.aload_n 3, 1) := by decide +kernel
theorem dL_law_297 : decode cL_law 297 = .ok (.iload 11, 2) := by decide +kernel
theorem dL_law_299 : decode cL_law 299 = .ok (.iaload, 1) := by decide +kernel
theorem dL_law_300 : decode cL_law 300 = .ok (.if_icmp .eq 65, 3) := by decide +kernel
theorem dL_law_303 : decode cL_law 303 = .ok (.aload_n 1, 1) := by decide +kernel
theorem dL_law_304 : decode cL_law 304 = .ok (.iload 11, 2) := by decide +kernel
theorem dL_law_306 : decode cL_law 306 = .ok (.iconst 1, 1) := by decide +kernel
theorem dL_law_307 : decode cL_law 307 = .ok (.invokevirtual 29, 3) := by decide +kernel
theorem dL_law_310 : decode cL_law 310 = .ok (.ifCond .eq 6, 3) := by decide +kernel
theorem dL_law_313 : decode cL_law 313 = .ok (.goto 52, 3) := by decide +kernel
theorem dL_law_316 : decode cL_law 316 = .ok (.aload_n 1, 1) := by decide +kernel
theorem dL_law_317 : decode cL_law 317 = .ok (.iload 6, 2) := by decide +kernel
theorem dL_law_319 : decode cL_law 319 = .ok (.invokevirtual 47, 3) := by decide +kernel
theorem dL_law_322 : decode cL_law 322 = .ok (.istore 13, 2) := by decide +kernel
theorem dL_law_324 : decode cL_law 324 = .ok (.iload 7, 2) := by decide +kernel
theorem dL_law_326 : decode cL_law 326 = .ok (.ifCond .lt 15, 3) := by decide +kernel
theorem dL_law_329 : decode cL_law 329 = .ok (.iload 13, 2) := by decide +kernel
theorem dL_law_331 : decode cL_law 331 = .ok (.ifCond .lt 32, 3) := by decide +kernel
theorem dL_law_334 : decode cL_law 334 = .ok (.iload 13, 2) := by decide +kernel
theorem dL_law_336 : decode cL_law 336 = .ok (.iload 7, 2) := by decide +kernel
theorem dL_law_338 : decode cL_law 338 = .ok (.if_icmp .gt 25, 3) := by decide +kernel
theorem dL_law_341 : decode cL_law 341 = .ok (.aload_n 1, 1) := by decide +kernel
theorem dL_law_342 : decode cL_law 342 = .ok (.iload 6, 2) := by decide +kernel
theorem dL_law_344 : decode cL_law 344 = .ok (.invokevirtual 63, 3) := by decide +kernel
theorem dL_law_347 : decode cL_law 347 = .ok (.iload 12, 2) := by decide +kernel
theorem dL_law_349 : decode cL_law 349 = .ok (.if_icmp .gt 14, 3) := by decide +kernel
theorem dL_law_352 : decode cL_law 352 = .ok (.aload_n 1, 1) := by decide +kernel
theorem dL_law_353 : decode cL_law 353 = .ok (.iload 6, 2) := by decide +kernel
theorem dL_law_355 : decode cL_law 355 = .ok (.invokevirtual 51, 3) := by decide +kernel
theorem dL_law_358 : decode cL_law 358 = .ok (.iload 8, 2) := by decide +kernel
theorem dL_law_360 : decode cL_law 360 = .ok (.if_icmp .ge 5, 3) := by decide +kernel
theorem dL_law_363 : decode cL_law 363 = .ok (.iconst 0, 1) := by decide +kernel
theorem dL_law_364 : decode cL_law 364 = .ok (.ireturn, 1) := by decide +kernel
theorem dL_law_365 : decode cL_law 365 = .ok (.iinc 5 1, 3) := by decide +kernel
theorem dL_law_368 : decode cL_law 368 = .ok (.goto (-322), 3) := by decide +kernel
theorem dL_law_371 : decode cL_law 371 = .ok (.iconst 1, 1) := by decide +kernel
theorem dL_law_372 : decode cL_law 372 = .ok (.aload_n 0, 1) := by decide +kernel
theorem dL_law_373 : decode cL_law 373 = .ok (.bipush 11, 2) := by decide +kernel
theorem dL_law_375 : decode cL_law 375 = .ok (.invokestatic 9, 3) := by decide +kernel
theorem dL_law_378 : decode cL_law 378 = .ok (.sipush 200, 3) := by decide +kernel
theorem dL_law_381 : decode cL_law 381 = .ok (.invokestatic 15, 3) := by decide +kernel
theorem dL_law_384 : decode cL_law 384 = .ok (.iadd, 1) := by decide +kernel
theorem dL_law_385 : decode cL_law 385 = .ok (.istore 5, 2) := by decide +kernel
theorem dL_law_387 : decode cL_law 387 = .ok (.aload_n 1, 1) := by decide +kernel
theorem dL_law_388 : decode cL_law 388 = .ok (.iload 5, 2) := by decide +kernel
theorem dL_law_390 : decode cL_law 390 = .ok (.iconst 1, 1) := by decide +kernel
theorem dL_law_391 : decode cL_law 391 = .ok (.invokevirtual 66, 3) := by decide +kernel
theorem dL_law_394 : decode cL_law 394 = .ok (.pop, 1) := by decide +kernel
theorem dL_law_395 : decode cL_law 395 = .ok (.iconst 0, 1) := by decide +kernel
theorem dL_law_396 : decode cL_law 396 = .ok (.istore 6, 2) := by decide +kernel
theorem dL_law_398 : decode cL_law 398 = .ok (.iconst 0, 1) := by decide +kernel
theorem dL_law_399 : decode cL_law 399 = .ok (.istore 7, 2) := by decide +kernel
theorem dL_law_401 : decode cL_law 401 = .ok (.iload 7, 2) := by decide +kernel
theorem dL_law_403 : decode cL_law 403 = .ok (.bipush 8, 2) := by decide +kernel
theorem dL_law_405 : decode cL_law 405 = .ok (.if_icmp .ge 45, 3) := by decide +kernel
theorem dL_law_408 : decode cL_law 408 = .ok (.aload_n 0, 1) := by decide +kernel
theorem dL_law_409 : decode cL_law 409 = .ok (.bipush 12, 2) := by decide +kernel
theorem dL_law_411 : decode cL_law 411 = .ok (.invokestatic 9, 3) := by decide +kernel
theorem dL_law_414 : decode cL_law 414 = .ok (.iconst 3, 1) := by decide +kernel
theorem dL_law_415 : decode cL_law 415 = .ok (.iload 7, 2) := by decide +kernel
theorem dL_law_417 : decode cL_law 417 = .ok (.imul, 1) := by decide +kernel
theorem dL_law_418 : decode cL_law 418 = .ok (.ishr, 1) := by decide +kernel
theorem dL_law_419 : decode cL_law 419 = .ok (.iload 4, 2) := by decide +kernel
theorem dL_law_421 : decode cL_law 421 = .ok (.invokestatic 15, 3) := by decide +kernel
theorem dL_law_424 : decode cL_law 424 = .ok (.istore 8, 2) := by decide +kernel
theorem dL_law_426 : decode cL_law 426 = .ok (.aload_n 1, 1) := by decide +kernel
theorem dL_law_427 : decode cL_law 427 = .ok (.iload 8, 2) := by decide +kernel
theorem dL_law_429 : decode cL_law 429 = .ok (.invokevirtual 69, 3) := by decide +kernel
theorem dL_law_432 : decode cL_law 432 = .ok (.ifCond .ne 12, 3) := by decide +kernel
theorem dL_law_435 : decode cL_law 435 = .ok (.iload 6, 2) := by decide +kernel
theorem dL_law_437 : decode cL_law 437 = .ok (.aload_n 2, 1) := by decide +kernel
theorem dL_law_438 : decode cL_law 438 = .ok (.iload 8, 2) := by decide +kernel
theorem dL_law_440 : decode cL_law 440 = .ok (.iaload, 1) := by decide +kernel
theorem dL_law_441 : decode cL_law 441 = .ok (.iadd, 1) := by decide +kernel
theorem dL_law_442 : decode cL_law 442 = .ok (.istore 6, 2) := by decide +kernel
theorem dL_law_444 : decode cL_law 444 = .ok (.iinc 7 1, 3) := by decide +kernel
theorem dL_law_447 : decode cL_law 447 = .ok (.goto (-46), 3) := by decide +kernel
theorem dL_law_450 : decode cL_law 450 = .ok (.aload_n 1, 1) := by decide +kernel
theorem dL_law_451 : decode cL_law 451 = .ok (.invokevirtual 72, 3) := by decide +kernel
theorem dL_law_454 : decode cL_law 454 = .ok (.lstore 7, 2) := by decide +kernel
theorem dL_law_456 : decode cL_law 456 = .ok (.aload_n 1, 1) := by decide +kernel
theorem dL_law_457 : decode cL_law 457 = .ok (.iconst 0, 1) := by decide +kernel
theorem dL_law_458 : decode cL_law 458 = .ok (.invokevirtual 76, 3) := by decide +kernel
theorem dL_law_461 : decode cL_law 461 = .ok (.istore 9, 2) := by decide +kernel
theorem dL_law_463 : decode cL_law 463 = .ok (.iload 9, 2) := by decide +kernel
theorem dL_law_465 : decode cL_law 465 = .ok (.iconst 1, 1) := by decide +kernel
theorem dL_law_466 : decode cL_law 466 = .ok (.if_icmp .eq 53, 3) := by decide +kernel
theorem dL_law_469 : decode cL_law 469 = .ok (.iload 9, 2) := by decide +kernel
theorem dL_law_471 : decode cL_law 471 = .ok (.iconst 2, 1) := by decide +kernel
theorem dL_law_472 : decode cL_law 472 = .ok (.if_icmp .ne 7, 3) := by decide +kernel
theorem dL_law_475 : decode cL_law 475 = .ok (.iconst 1, 1) := by decide +kernel
theorem dL_law_476 : decode cL_law 476 = .ok (.goto 4, 3) := by decide +kernel
theorem dL_law_479 : decode cL_law 479 = .ok (.iconst 0, 1) := by decide +kernel
theorem dL_law_480 : decode cL_law 480 = .ok (.iload 6, 2) := by decide +kernel
theorem dL_law_482 : decode cL_law 482 = .ok (.iload 5, 2) := by decide +kernel
theorem dL_law_484 : decode cL_law 484 = .ok (.if_icmp .ge 7, 3) := by decide +kernel
theorem dL_law_487 : decode cL_law 487 = .ok (.iconst 1, 1) := by decide +kernel
theorem dL_law_488 : decode cL_law 488 = .ok (.goto 4, 3) := by decide +kernel
theorem dL_law_491 : decode cL_law 491 = .ok (.iconst 0, 1) := by decide +kernel
theorem dL_law_492 : decode cL_law 492 = .ok (.if_icmp .ne 27, 3) := by decide +kernel
theorem dL_law_495 : decode cL_law 495 = .ok (.iload 9, 2) := by decide +kernel
theorem dL_law_497 : decode cL_law 497 = .ok (.ifCond .eq 24, 3) := by decide +kernel
theorem dL_law_500 : decode cL_law 500 = .ok (.aload_n 1, 1) := by decide +kernel
theorem dL_law_501 : decode cL_law 501 = .ok (.invokevirtual 72, 3) := by decide +kernel
theorem dL_law_504 : decode cL_law 504 = .ok (.lload 7, 2) := by decide +kernel
theorem dL_law_506 : decode cL_law 506 = .ok (.lcmp, 1) := by decide +kernel
theorem dL_law_507 : decode cL_law 507 = .ok (.ifCond .ne 12, 3) := by decide +kernel
theorem dL_law_510 : decode cL_law 510 = .ok (.aload_n 1, 1) := by decide +kernel
theorem dL_law_511 : decode cL_law 511 = .ok (.invokevirtual 79, 3) := by decide +kernel
theorem dL_law_514 : decode cL_law 514 = .ok (.iload 6, 2) := by decide +kernel
theorem dL_law_516 : decode cL_law 516 = .ok (.if_icmp .eq 5, 3) := by decide +kernel
theorem dL_law_519 : decode cL_law 519 = .ok (.iconst 0, 1) := by decide +kernel
theorem dL_law_520 : decode cL_law 520 = .ok (.ireturn, 1) := by decide +kernel
theorem dL_law_521 : decode cL_law 521 = .ok (.iload 9, 2) := by decide +kernel
theorem dL_law_523 : decode cL_law 523 = .ok (.ifCond .eq 5, 3) := by decide +kernel
theorem dL_law_526 : decode cL_law 526 = .ok (.iconst 1, 1) := by decide +kernel
theorem dL_law_527 : decode cL_law 527 = .ok (.ireturn, 1) := by decide +kernel
theorem dL_law_528 : decode cL_law 528 = .ok (.iconst 0, 1) := by decide +kernel
theorem dL_law_529 : decode cL_law 529 = .ok (.istore 10, 2) := by decide +kernel
theorem dL_law_531 : decode cL_law 531 = .ok (.iconst 0, 1) := by decide +kernel
theorem dL_law_532 : decode cL_law 532 = .ok (.istore 11, 2) := by decide +kernel
theorem dL_law_534 : decode cL_law 534 = .ok (.iload 11, 2) := by decide +kernel
theorem dL_law_536 : decode cL_law 536 = .ok (.iload 4, 2) := by decide +kernel
theorem dL_law_538 : decode cL_law 538 = .ok (.if_icmp .ge 26, 3) := by decide +kernel
theorem dL_law_541 : decode cL_law 541 = .ok (.iload 10, 2) := by decide +kernel
theorem dL_law_543 : decode cL_law 543 = .ok (.aload_n 1, 1) := by decide +kernel
theorem dL_law_544 : decode cL_law 544 = .ok (.iload 11, 2) := by decide +kernel
theorem dL_law_546 : decode cL_law 546 = .ok (.iconst 3, 1) := by decide +kernel
theorem dL_law_547 : decode cL_law 547 = .ok (.invokevirtual 60, 3) := by decide +kernel
theorem dL_law_550 : decode cL_law 550 = .ok (.aload_n 2, 1) := by decide +kernel
theorem dL_law_551 : decode cL_law 551 = .ok (.iload 11, 2) := by decide +kernel
theorem dL_law_553 : decode cL_law 553 = .ok (.iaload, 1) := by decide +kernel
theorem dL_law_554 : decode cL_law 554 = .ok (.imul, 1) := by decide +kernel
theorem dL_law_555 : decode cL_law 555 = .ok (.iadd, 1) := by decide +kernel
theorem dL_law_556 : decode cL_law 556 = .ok (.istore 10, 2) := by decide +kernel
theorem dL_law_558 : decode cL_law 558 = .ok (.iinc 11 1, 3) := by decide +kernel
theorem dL_law_561 : decode cL_law 561 = .ok (.goto (-27), 3) := by decide +kernel
theorem dL_law_564 : decode cL_law 564 = .ok (.iload 6, 2) := by decide +kernel
theorem dL_law_566 : decode cL_law 566 = .ok (.iload 10, 2) := by decide +kernel
theorem dL_law_568 : decode cL_law 568 = .ok (.isub, 1) := by decide +kernel
theorem dL_law_569 : decode cL_law 569 = .ok (.iload 5, 2) := by decide +kernel
theorem dL_law_571 : decode cL_law 571 = .ok (.if_icmp .ne 44, 3) := by decide +kernel
theorem dL_law_574 : decode cL_law 574 = .ok (.aload_n 1, 1) := by decide +kernel
theorem dL_law_575 : decode cL_law 575 = .ok (.iconst 0, 1) := by decide +kernel
theorem dL_law_576 : decode cL_law 576 = .ok (.invokevirtual 76, 3) := by decide +kernel
theorem dL_law_579 : decode cL_law 579 = .ok (.iconst 1, 1) := by decide +kernel
theorem dL_law_580 : decode cL_law 580 = .ok (.if_icmp .ne 35, 3) := by decide +kernel
theorem dL_law_583 : decode cL_law 583 = .ok (.aload_n 1, 1) := by decide +kernel
theorem dL_law_584 : decode cL_law 584 = .ok (.invokevirtual 79, 3) := by decide +kernel
theorem dL_law_587 : decode cL_law 587 = .ok (.ifCond .ne 28, 3) := by decide +kernel
theorem dL_law_590 : decode cL_law 590 = .ok (.aload_n 1, 1) := by decide +kernel
theorem dL_law_591 : decode cL_law 591 = .ok (.iconst 0, 1) := by decide +kernel
theorem dL_law_592 : decode cL_law 592 = .ok (.invokevirtual 82, 3) := by decide +kernel
theorem dL_law_595 : decode cL_law 595 = .ok (.aload_n 1, 1) := by decide +kernel
theorem dL_law_596 : decode cL_law 596 = .ok (.iconst 2, 1) := by decide +kernel
theorem dL_law_597 : decode cL_law 597 = .ok (.invokevirtual 82, 3) := by decide +kernel
theorem dL_law_600 : decode cL_law 600 = .ok (.lsub, 1) := by decide +kernel
theorem dL_law_601 : decode cL_law 601 = .ok (.aload_n 1, 1) := by decide +kernel
theorem dL_law_602 : decode cL_law 602 = .ok (.bipush 7, 2) := by decide +kernel
theorem dL_law_604 : decode cL_law 604 = .ok (.invokevirtual 82, 3) := by decide +kernel
theorem dL_law_607 : decode cL_law 607 = .ok (.lcmp, 1) := by decide +kernel
theorem dL_law_608 : decode cL_law 608 = .ok (.ifCond .ne 7, 3) := by decide +kernel
theorem dL_law_611 : decode cL_law 611 = .ok (.iconst 1, 1) := by decide +kernel
theorem dL_law_612 : decode cL_law 612 = .ok (.goto 4, 3) := by decide +kernel
theorem dL_law_615 : decode cL_law 615 = .ok (.iconst 0, 1) := by decide +kernel
theorem dL_law_616 : decode cL_law 616 = .ok (.ireturn, 1) := by decide +kernel
