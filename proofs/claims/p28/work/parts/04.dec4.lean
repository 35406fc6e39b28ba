theorem dL_meets_80 : decode cL_meets 80 = .ok (.if_icmp .ge 31, 3) := by decide +kernel
theorem dL_meets_83 : decode cL_meets 83 = .ok (.iload 9, 2) := by decide +kernel
theorem dL_meets_85 : decode cL_meets 85 = .ok (.aload_n 0, 1) := by decide +kernel
theorem dL_meets_86 : decode cL_meets 86 = .ok (.iload 6, 2) := by decide +kernel
theorem dL_meets_88 : decode cL_meets 88 = .ok (.iload 10, 2) := by decide +kernel
theorem dL_meets_90 : decode cL_meets 90 = .ok (.invokevirtual 55, 3) := by decide +kernel
theorem dL_meets_93 : decode cL_meets 93 = .ok (.iload_n 2, 1) := by decide +kernel
theorem dL_meets_94 : decode cL_meets 94 = .ok (.if_icmp .ne 7, 3) := by decide +kernel
theorem dL_meets_97 : decode cL_meets 97 = .ok (.iconst 1, 1) := by decide +kernel
theorem dL_meets_98 : decode cL_meets 98 = .ok (.goto 4, 3) := by decide +kernel
theorem dL_meets_101 : decode cL_meets 101 = .ok (.iconst 0, 1) := by decide +kernel
theorem dL_meets_102 : decode cL_meets 102 = .ok (.ior, 1) := by decide +kernel
theorem dL_meets_103 : decode cL_meets 103 = .ok (.istore 9, 2) := by decide +kernel
theorem dL_meets_105 : decode cL_meets 105 = .ok (.iinc 10 1, 3) := by decide +kernel
theorem dL_meets_108 : decode cL_meets 108 = .ok (.goto (-32), 3) := by decide +kernel
theorem dL_meets_111 : decode cL_meets 111 = .ok (.aload_n 0, 1) := by decide +kernel
theorem dL_meets_112 : decode cL_meets 112 = .ok (.iload_n 1, 1) := by decide +kernel
theorem dL_meets_113 : decode cL_meets 113 = .ok (.iload_n 3, 1) := by decide +kernel
theorem dL_meets_114 : decode cL_meets 114 = .ok (.iload 4, 2) := by decide +kernel
theorem dL_meets_116 : decode cL_meets 116 = .ok (.invokevirtual 70, 3) := by decide +kernel
theorem dL_meets_119 : decode cL_meets 119 = .ok (.istore 10, 2) := by decide +kernel
theorem dL_meets_121 : decode cL_meets 121 = .ok (.iload 10, 2) := by decide +kernel
theorem dL_meets_123 : decode cL_meets 123 = .ok (.ifCond .ge 7, 3) := by decide +kernel
theorem dL_meets_126 : decode cL_meets 126 = .ok (.lconst 0, 1) := by decide +kernel
theorem dL_meets_127 : decode cL_meets 127 = .ok (.goto 24, 3) := by decide +kernel
theorem dL_meets_130 : decode cL_meets 130 = .ok (.iload_n 3, 1) := by decide +kernel
theorem dL_meets_131 : decode cL_meets 131 = .ok (.aload_n 0, 1) := by decide +kernel
theorem dL_meets_132 : decode cL_meets 132 = .ok (.iload 10, 2) := by decide +kernel
theorem dL_meets_134 : decode cL_meets 134 = .ok (.iconst 0, 1) := by decide +kernel
theorem dL_meets_135 : decode cL_meets 135 = .ok (.invokevirtual 64, 3) := by decide +kernel
theorem dL_meets_138 : decode cL_meets 138 = .ok (.imul, 1) := by decide +kernel
theorem dL_meets_139 : decode cL_meets 139 = .ok (.iload 4, 2) := by decide +kernel
theorem dL_meets_141 : decode cL_meets 141 = .ok (.aload_n 0, 1) := by decide +kernel
theorem dL_meets_142 : decode cL_meets 142 = .ok (.iload 10, 2) := by decide +kernel
theorem dL_meets_144 : decode cL_meets 144 = .ok (.iconst 1, 1) := by decide +kernel
theorem dL_meets_145 : decode cL_meets 145 = .ok (.invokevirtual 64, 3) := by decide +kernel
theorem dL_meets_148 : decode cL_meets 148 = .ok (.imul, 1) := by decide +kernel
theorem dL_meets_149 : decode cL_meets 149 = .ok (.iadd, 1) := by decide +kernel
theorem dL_meets_150 : decode cL_meets 150 = .ok (.i2l, 1) := by decide +kernel
theorem dL_meets_151 : decode cL_meets 151 = .ok (.lstore 11, 2) := by decide +kernel
theorem dL_meets_153 : decode cL_meets 153 = .ok (.iload 10, 2) := by decide +kernel
theorem dL_meets_155 : decode cL_meets 155 = .ok (.ifCond .ge 7, 3) := by decide +kernel
theorem dL_meets_158 : decode cL_meets 158 = .ok (.lconst 1, 1) := by decide +kernel
theorem dL_meets_159 : decode cL_meets 159 = .ok (.goto 11, 3) := by decide +kernel
theorem dL_meets_162 : decode cL_meets 162 = .ok (.aload_n 0, 1) := by decide +kernel
theorem dL_meets_163 : decode cL_meets 163 = .ok (.iload 10, 2) := by decide +kernel
theorem dL_meets_165 : decode cL_meets 165 = .ok (.iconst 2, 1) := by decide +kernel
theorem dL_meets_166 : decode cL_meets 166 = .ok (.invokevirtual 64, 3) := by decide +kernel
theorem dL_meets_169 : decode cL_meets 169 = .ok (.i2l, 1) := by decide +kernel
theorem dL_meets_170 : decode cL_meets 170 = .ok (.lstore 13, 2) := by decide +kernel
theorem dL_meets_172 : decode cL_meets 172 = .ok (.aload_n 0, 1) := by decide +kernel
theorem dL_meets_173 : decode cL_meets 173 = .ok (.iload_n 1, 1) := by decide +kernel
theorem dL_meets_174 : decode cL_meets 174 = .ok (.iconst 3, 1) := by decide +kernel
theorem dL_meets_175 : decode cL_meets 175 = .ok (.invokevirtual 48, 3) := by decide +kernel
theorem dL_meets_178 : decode cL_meets 178 = .ok (.istore 15, 2) := by decide +kernel
theorem dL_meets_180 : decode cL_meets 180 = .ok (.iload 10, 2) := by decide +kernel
theorem dL_meets_182 : decode cL_meets 182 = .ok (.ifCond .ge 7, 3) := by decide +kernel
theorem dL_meets_185 : decode cL_meets 185 = .ok (.iconst 1, 1) := by decide +kernel
theorem dL_meets_186 : decode cL_meets 186 = .ok (.goto 4, 3) := by decide +kernel
theorem dL_meets_189 : decode cL_meets 189 = .ok (.iconst 0, 1) := by decide +kernel
theorem dL_meets_190 : decode cL_meets 190 = .ok (.istore 16, 2) := by decide +kernel
theorem dL_meets_192 : decode cL_meets 192 = .ok (.iconst 0, 1) := by decide +kernel
theorem dL_meets_193 : decode cL_meets 193 = .ok (.istore 17, 2) := by decide +kernel
theorem dL_meets_195 : decode cL_meets 195 = .ok (.iload 17, 2) := by decide +kernel
theorem dL_meets_197 : decode cL_meets 197 = .ok (.iload 15, 2) := by decide +kernel
theorem dL_meets_199 : decode cL_meets 199 = .ok (.if_icmp .ge 120, 3) := by decide +kernel
theorem dL_meets_202 : decode cL_meets 202 = .ok (.iload 10, 2) := by decide +kernel
theorem dL_meets_204 : decode cL_meets 204 = .ok (.ifCond .lt 115, 3) := by decide +kernel
theorem dL_meets_207 : decode cL_meets 207 = .ok (.aload_n 0, 1) := by decide +kernel
theorem dL_meets_208 : decode cL_meets 208 = .ok (.iload_n 1, 1) := by decide +kernel
theorem dL_meets_209 : decode cL_meets 209 = .ok (.iload 17, 2) := by decide +kernel
theorem dL_meets_211 : decode cL_meets 211 = .ok (.invokevirtual 55, 3) := by decide +kernel
theorem dL_meets_214 : decode cL_meets 214 = .ok (.istore 18, 2) := by decide +kernel
theorem dL_meets_216 : decode cL_meets 216 = .ok (.iload_n 3, 1) := by decide +kernel
theorem dL_meets_217 : decode cL_meets 217 = .ok (.aload_n 0, 1) := by decide +kernel
theorem dL_meets_218 : decode cL_meets 218 = .ok (.iload 18, 2) := by decide +kernel
theorem dL_meets_220 : decode cL_meets 220 = .ok (.iconst 0, 1) := by decide +kernel
theorem dL_meets_221 : decode cL_meets 221 = .ok (.invokevirtual 64, 3) := by decide +kernel
theorem dL_meets_224 : decode cL_meets 224 = .ok (.imul, 1) := by decide +kernel
theorem dL_meets_225 : decode cL_meets 225 = .ok (.iload 4, 2) := by decide +kernel
theorem dL_meets_227 : decode cL_meets 227 = .ok (.aload_n 0, 1) := by decide +kernel
theorem dL_meets_228 : decode cL_meets 228 = .ok (.iload 18, 2) := by decide +kernel
theorem dL_meets_230 : decode cL_meets 230 = .ok (.iconst 1, 1) := by decide +kernel
theorem dL_meets_231 : decode cL_meets 231 = .ok (.invokevirtual 64, 3) := by decide +kernel
theorem dL_meets_234 : decode cL_meets 234 = .ok (.imul, 1) := by decide +kernel
theorem dL_meets_235 : decode cL_meets 235 = .ok (.iadd, 1) := by decide +kernel
theorem dL_meets_236 : decode cL_meets 236 = .ok (.i2l, 1) := by decide +kernel
theorem dL_meets_237 : decode cL_meets 237 = .ok (.lstore 19, 2) := by decide +kernel
theorem dL_meets_239 : decode cL_meets 239 = .ok (.iload 7, 2) := by decide +kernel
theorem dL_meets_241 : decode cL_meets 241 = .ok (.lload 19, 2) := by decide +kernel
theorem dL_meets_243 : decode cL_meets 243 = .ok (.lload 13, 2) := by decide +kernel
theorem dL_meets_245 : decode cL_meets 245 = .ok (.lmul, 1) := by decide +kernel
theorem dL_meets_246 : decode cL_meets 246 = .ok (.lload 11, 2) := by decide +kernel
theorem dL_meets_248 : decode cL_meets 248 = .ok (.aload_n 0, 1) := by decide +kernel
theorem dL_meets_249 : decode cL_meets 249 = .ok (.iload 18, 2) := by decide +kernel
theorem dL_meets_251 : decode cL_meets 251 = .ok (.iconst 2, 1) := by decide +kernel
theorem dL_meets_252 : decode cL_meets 252 = .ok (.invokevirtual 64, 3) := by decide +kernel
theorem dL_meets_255 : decode cL_meets 255 = .ok (.i2l, 1) := by decide +kernel
theorem dL_meets_256 : decode cL_meets 256 = .ok (.lmul, 1) := by decide +kernel
theorem dL_meets_257 : decode cL_meets 257 = .ok (.lcmp, 1) := by decide +kernel
theorem dL_meets_258 : decode cL_meets 258 = .ok (.ifCond .gt 34, 3) := by decide +kernel
theorem dL_meets_261 : decode cL_meets 261 = .ok (.iload 18, 2) := by decide +kernel
theorem dL_meets_263 : decode cL_meets 263 = .ok (.iload 10, 2) := by decide +kernel
theorem dL_meets_265 : decode cL_meets 265 = .ok (.if_icmp .ge 23, 3) := by decide +kernel
theorem dL_meets_268 : decode cL_meets 268 = .ok (.lload 19, 2) := by decide +kernel
theorem dL_meets_270 : decode cL_meets 270 = .ok (.lload 13, 2) := by decide +kernel
theorem dL_meets_272 : decode cL_meets 272 = .ok (.lmul, 1) := by decide +kernel
theorem dL_meets_273 : decode cL_meets 273 = .ok (.lload 11, 2) := by decide +kernel
theorem dL_meets_275 : decode cL_meets 275 = .ok (.aload_n 0, 1) := by decide +kernel
theorem dL_meets_276 : decode cL_meets 276 = .ok (.iload 18, 2) := by decide +kernel
theorem dL_meets_278 : decode cL_meets 278 = .ok (.iconst 2, 1) := by decide +kernel
theorem dL_meets_279 : decode cL_meets 279 = .ok (.invokevirtual 64, 3) := by decide +kernel
theorem dL_meets_282 : decode cL_meets 282 = .ok (.i2l, 1) := by decide +kernel
theorem dL_meets_283 : decode cL_meets 283 = .ok (.lmul, 1) := by decide +kernel
theorem dL_meets_284 : decode cL_meets 284 = .ok (.lcmp, 1) := by decide +kernel
theorem dL_meets_285 : decode cL_meets 285 = .ok (.ifCond .ge 7, 3) := by decide +kernel
theorem dL_meets_288 : decode cL_meets 288 = .ok (.iconst 1, 1) := by decide +kernel
theorem dL_meets_289 : decode cL_meets 289 = .ok (.goto 4, 3) := by decide +kernel
theorem dL_meets_292 : decode cL_meets 292 = .ok (.iconst 0, 1) := by decide +kernel
theorem dL_meets_293 : decode cL_meets 293 = .ok (.iand, 1) := by decide +kernel
theorem dL_meets_294 : decode cL_meets 294 = .ok (.istore 7, 2) := by decide +kernel
theorem dL_meets_296 : decode cL_meets 296 = .ok (.iload 16, 2) := by decide +kernel
theorem dL_meets_298 : decode cL_meets 298 = .ok (.iload 18, 2) := by decide +kernel
theorem dL_meets_300 : decode cL_meets 300 = .ok (.iload 10, 2) := by decide +kernel
theorem dL_meets_302 : decode cL_meets 302 = .ok (.if_icmp .ne 7, 3) := by decide +kernel
theorem dL_meets_305 : decode cL_meets 305 = .ok (.iconst 1, 1) := by decide +kernel
theorem dL_meets_306 : decode cL_meets 306 = .ok (.goto 4, 3) := by decide +kernel
theorem dL_meets_309 : decode cL_meets 309 = .ok (.iconst 0, 1) := by decide +kernel
theorem dL_meets_310 : decode cL_meets 310 = .ok (.ior, 1) := by decide +kernel
theorem dL_meets_311 : decode cL_meets 311 = .ok (.istore 16, 2) := by decide +kernel
theorem dL_meets_313 : decode cL_meets 313 = .ok (.iinc 17 1, 3) := by decide +kernel
theorem dL_meets_316 : decode cL_meets 316 = .ok (.goto (-121), 3) := by decide +kernel
theorem dL_meets_319 : decode cL_meets 319 = .ok (.iload 7, 2) := by decide +kernel
theorem dL_meets_321 : decode cL_meets 321 = .ok (.ifCond .eq 31, 3) := by decide +kernel
theorem dL_meets_324 : decode cL_meets 324 = .ok (.iload 9, 2) := by decide +kernel
theorem dL_meets_326 : decode cL_meets 326 = .ok (.ifCond .eq 26, 3) := by decide +kernel
theorem dL_meets_329 : decode cL_meets 329 = .ok (.iload 16, 2) := by decide +kernel
theorem dL_meets_331 : decode cL_meets 331 = .ok (.ifCond .eq 21, 3) := by decide +kernel
theorem dL_meets_334 : decode cL_meets 334 = .ok (.iload 10, 2) := by decide +kernel
theorem dL_meets_336 : decode cL_meets 336 = .ok (.ifCond .ge 12, 3) := by decide +kernel
theorem dL_meets_339 : decode cL_meets 339 = .ok (.aload_n 0, 1) := by decide +kernel
theorem dL_meets_340 : decode cL_meets 340 = .ok (.iload_n 1, 1) := by decide +kernel
theorem dL_meets_341 : decode cL_meets 341 = .ok (.iconst 1, 1) := by decide +kernel
theorem dL_meets_342 : decode cL_meets 342 = .ok (.invokevirtual 48, 3) := by decide +kernel
theorem dL_meets_345 : decode cL_meets 345 = .ok (.ifCond .ne 7, 3) := by decide +kernel
theorem dL_meets_348 : decode cL_meets 348 = .ok (.iconst 1, 1) := by decide +kernel
theorem dL_meets_349 : decode cL_meets 349 = .ok (.goto 4, 3) := by decide +kernel
theorem dL_meets_352 : decode cL_meets 352 = .ok (.iconst 0, 1) := by decide +kernel
theorem dL_meets_353 : decode cL_meets 353 = .ok (.ireturn, 1) := by decide +kernel
set_option maxRecDepth 20000 in
theorem ggL_mirrors_X4_reflected : GoodIn wsL_mirrors wsX4_reflected := goodIn_ca (goodIn_r _ [5, 6, 7, 8, 9, 4, 10, 11, 12, 13, 14, 15, 16, 17, 18, 19, 20, 21, 22, 23, 24, 25, 26, 27, 28, 29, 34, 35, 36, 37, 38, 39, 40, 41] (by decide +kernel) (by decide +kernel)) (goodIn_sub (fun _ h => List.mem_cons_of_mem _ (List.mem_append_right _ h)) (by decide +kernel))
set_option maxRecDepth 20000 in
theorem gL_mirrors_X4_reflected : GoodIn wsL_mirrors (wsV RL 73 RX4 yX4_reflected wsX4_reflected) := goodIn_app (goodIn_of _ (by decide +kernel)) ggL_mirrors_X4_reflected
set_option maxRecDepth 20000 in
theorem ggL_mirrors_X4_isKaleidoscope : GoodIn wsL_mirrors wsX4_isKaleidoscope := goodIn_r _ [33, 6, 13, 14, 15, 16, 17, 18, 19, 20, 21, 22, 23, 24, 25, 26, 27, 28, 29, 34, 35, 36, 37, 38, 39, 40, 41] (by decide +kernel) (by decide +kernel)
set_option maxRecDepth 20000 in
theorem gL_mirrors_X4_isKaleidoscope : GoodIn wsL_mirrors (wsV RL 76 RX4 yX4_isKaleidoscope wsX4_isKaleidoscope) := goodIn_app (goodIn_of _ (by decide +kernel)) ggL_mirrors_X4_isKaleidoscope
theorem dL_mirrors_0 : decode cL_mirrors 0 = .ok (.iconst 1, 1) := by decide +kernel
theorem dL_mirrors_1 : decode cL_mirrors 1 = .ok (.istore_n 2, 1) := by decide +kernel
theorem dL_mirrors_2 : decode cL_mirrors 2 = .ok (.iconst 1, 1) := by decide +kernel
theorem dL_mirrors_3 : decode cL_mirrors 3 = .ok (.istore_n 3, 1) := by decide +kernel
theorem dL_mirrors_4 : decode cL_mirrors 4 = .ok (.iconst 0, 1) := by decide +kernel
theorem dL_mirrors_5 : decode cL_mirrors 5 = .ok (.istore 4, 2) := by decide +kernel
theorem dL_mirrors_7 : decode cL_mirrors 7 = .ok (.iload 4, 2) := by decide +kernel
theorem dL_mirrors_9 : decode cL_mirrors 9 = .ok (.iload_n 1, 1) := by decide +kernel
theorem dL_mirrors_10 : decode cL_mirrors 10 = .ok (.if_icmp .ge 95, 3) := by decide +kernel
theorem dL_mirrors_13 : decode cL_mirrors 13 = .ok (.iconst 0, 1) := by decide +kernel
theorem dL_mirrors_14 : decode cL_mirrors 14 = .ok (.istore 5, 2) := by decide +kernel
theorem dL_mirrors_16 : decode cL_mirrors 16 = .ok (.iload 5, 2) := by decide +kernel
theorem dL_mirrors_18 : decode cL_mirrors 18 = .ok (.iload_n 1, 1) := by decide +kernel
theorem dL_mirrors_19 : decode cL_mirrors 19 = .ok (.if_icmp .ge 80, 3) := by decide +kernel
theorem dL_mirrors_22 : decode cL_mirrors 22 = .ok (.aload_n 0, 1) := by decide +kernel
theorem dL_mirrors_23 : decode cL_mirrors 23 = .ok (.iload 4, 2) := by decide +kernel
theorem dL_mirrors_25 : decode cL_mirrors 25 = .ok (.iload 5, 2) := by decide +kernel
theorem dL_mirrors_27 : decode cL_mirrors 27 = .ok (.invokevirtual 73, 3) := by decide +kernel
theorem dL_mirrors_30 : decode cL_mirrors 30 = .ok (.istore 6, 2) := by decide +kernel
theorem dL_mirrors_32 : decode cL_mirrors 32 = .ok (.iload_n 2, 1) := by decide +kernel
theorem dL_mirrors_33 : decode cL_mirrors 33 = .ok (.iload 6, 2) := by decide +kernel
theorem dL_mirrors_35 : decode cL_mirrors 35 = .ok (.ifCond .lt 7, 3) := by decide +kernel
theorem dL_mirrors_38 : decode cL_mirrors 38 = .ok (.iconst 1, 1) := by decide +kernel
theorem dL_mirrors_39 : decode cL_mirrors 39 = .ok (.goto 4, 3) := by decide +kernel
theorem dL_mirrors_42 : decode cL_mirrors 42 = .ok (.iconst 0, 1) := by decide +kernel
theorem dL_mirrors_43 : decode cL_mirrors 43 = .ok (.iand, 1) := by decide +kernel
theorem dL_mirrors_44 : decode cL_mirrors 44 = .ok (.istore_n 2, 1) := by decide +kernel
theorem dL_mirrors_45 : decode cL_mirrors 45 = .ok (.iload_n 3, 1) := by decide +kernel
theorem dL_mirrors_46 : decode cL_mirrors 46 = .ok (.iload 6, 2) := by decide +kernel
theorem dL_mirrors_48 : decode cL_mirrors 48 = .ok (.ifCond .lt 16, 3) := by decide +kernel
theorem dL_mirrors_51 : decode cL_mirrors 51 = .ok (.aload_n 0, 1) := by decide +kernel
theorem dL_mirrors_52 : decode cL_mirrors 52 = .ok (.iload 6, 2) := by decide +kernel
theorem dL_mirrors_54 : decode cL_mirrors 54 = .ok (.iload 5, 2) := by decide +kernel
theorem dL_mirrors_56 : decode cL_mirrors 56 = .ok (.invokevirtual 73, 3) := by decide +kernel
theorem dL_mirrors_59 : decode cL_mirrors 59 = .ok (.iload 4, 2) := by decide +kernel
theorem dL_mirrors_61 : decode cL_mirrors 61 = .ok (.if_icmp .ne 7, 3) := by decide +kernel
theorem dL_mirrors_64 : decode cL_mirrors 64 = .ok (.iconst 1, 1) := by decide +kernel
theorem dL_mirrors_65 : decode cL_mirrors 65 = .ok (.goto 4, 3) := by decide +kernel
theorem dL_mirrors_68 : decode cL_mirrors 68 = .ok (.iconst 0, 1) := by decide +kernel
theorem dL_mirrors_69 : decode cL_mirrors 69 = .ok (.iand, 1) := by decide +kernel
theorem dL_mirrors_70 : decode cL_mirrors 70 = .ok (.istore_n 3, 1) := by decide +kernel
theorem dL_mirrors_71 : decode cL_mirrors 71 = .ok (.iload_n 3, 1) := by decide +kernel
theorem dL_mirrors_72 : decode cL_mirrors 72 = .ok (.iload 4, 2) := by decide +kernel
theorem dL_mirrors_74 : decode cL_mirrors 74 = .ok (.iload 5, 2) := by decide +kernel
theorem dL_mirrors_76 : decode cL_mirrors 76 = .ok (.if_icmp .ne 10, 3) := by decide +kernel
theorem dL_mirrors_79 : decode cL_mirrors 79 = .ok (.iload 6, 2) := by decide +kernel
theorem dL_mirrors_81 : decode cL_mirrors 81 = .ok (.iload 4, 2) := by decide +kernel
theorem dL_mirrors_83 : decode cL_mirrors 83 = .ok (.if_icmp .ne 7, 3) := by decide +kernel
theorem dL_mirrors_86 : decode cL_mirrors 86 = .ok (.iconst 1, 1) := by decide +kernel
theorem dL_mirrors_87 : decode cL_mirrors 87 = .ok (.goto 4, 3) := by decide +kernel
theorem dL_mirrors_90 : decode cL_mirrors 90 = .ok (.iconst 0, 1) := by decide +kernel
theorem dL_mirrors_91 : decode cL_mirrors 91 = .ok (.iand, 1) := by decide +kernel
theorem dL_mirrors_92 : decode cL_mirrors 92 = .ok (.istore_n 3, 1) := by decide +kernel
theorem dL_mirrors_93 : decode cL_mirrors 93 = .ok (.iinc 5 1, 3) := by decide +kernel
theorem dL_mirrors_96 : decode cL_mirrors 96 = .ok (.goto (-80), 3) := by decide +kernel
theorem dL_mirrors_99 : decode cL_mirrors 99 = .ok (.iinc 4 1, 3) := by decide +kernel
theorem dL_mirrors_102 : decode cL_mirrors 102 = .ok (.goto (-95), 3) := by decide +kernel
theorem dL_mirrors_105 : decode cL_mirrors 105 = .ok (.iload_n 3, 1) := by decide +kernel
theorem dL_mirrors_106 : decode cL_mirrors 106 = .ok (.ifCond .eq 15, 3) := by decide +kernel
theorem dL_mirrors_109 : decode cL_mirrors 109 = .ok (.aload_n 0, 1) := by decide +kernel
theorem dL_mirrors_110 : decode cL_mirrors 110 = .ok (.invokevirtual 76, 3) := by decide +kernel
theorem dL_mirrors_113 : decode cL_mirrors 113 = .ok (.iload_n 2, 1) := by decide +kernel
theorem dL_mirrors_114 : decode cL_mirrors 114 = .ok (.if_icmp .ne 7, 3) := by decide +kernel
theorem dL_mirrors_117 : decode cL_mirrors 117 = .ok (.iconst 1, 1) := by decide +kernel
theorem dL_mirrors_118 : decode cL_mirrors 118 = .ok (.goto 4, 3) := by decide +kernel
theorem dL_mirrors_121 : decode cL_mirrors 121 = .ok (.iconst 0, 1) := by decide +kernel
theorem dL_mirrors_122 : decode cL_mirrors 122 = .ok (.ireturn, 1) := by decide +kernel
set_option maxRecDepth 20000 in
theorem ggL_graph_X4_directions : GoodIn wsL_graph wsX4_directions := goodIn_r _ [5, 6, 7, 8, 9, 10, 11, 12, 13, 14, 15, 16, 17, 18, 19, 20, 21, 22, 23, 24, 25, 26, 4, 27, 28, 29, 30, 31, 32, 33, 34, 35, 36, 37, 38, 39, 77, 78, 79, 80, 81] (by decide +kernel) (by decide +kernel)
set_option maxRecDepth 20000 in
theorem gL_graph_X4_directions : GoodIn wsL_graph (wsV RL 80 RX4 yX4_directions wsX4_directions) := goodIn_app (goodIn_of _ (by decide +kernel)) ggL_graph_X4_directions
set_option maxRecDepth 20000 in
theorem ggL_graph_X4_directionsAnew : GoodIn wsL_graph wsX4_directionsAnew := goodIn_r _ [43, 6, 44, 45, 46, 10, 47, 12, 48, 49, 50, 16, 51, 52, 53, 17, 18, 19, 20, 21, 22, 23, 24, 25, 26, 4, 27, 28, 29, 30, 31, 32, 33, 34, 35, 36, 54, 55, 56, 77, 78, 79, 80, 81] (by decide +kernel) (by decide +kernel)
set_option maxRecDepth 20000 in
theorem gL_graph_X4_directionsAnew : GoodIn wsL_graph (wsV RL 83 RX4 yX4_directionsAnew wsX4_directionsAnew) := goodIn_app (goodIn_of _ (by decide +kernel)) ggL_graph_X4_directionsAnew
set_option maxRecDepth 20000 in
theorem ggL_graph_X4_colourings : GoodIn wsL_graph wsX4_colourings := goodIn_ca (goodIn_r _ [60, 6, 61, 62, 4, 63, 64, 65, 66, 67, 68, 10, 69, 12, 70, 71, 72, 20, 21, 22, 34, 35, 36, 77, 78, 79, 80, 81] (by decide +kernel) (by decide +kernel)) (goodIn_sub (fun _ h => List.mem_cons_of_mem _ (List.mem_append_right _ h)) (by decide +kernel))
set_option maxRecDepth 20000 in
theorem gL_graph_X4_colourings : GoodIn wsL_graph (wsV RL 86 RX4 yX4_colourings wsX4_colourings) := goodIn_app (goodIn_of _ (by decide +kernel)) ggL_graph_X4_colourings
set_option maxRecDepth 20000 in
theorem ggL_graph_X4_colouringsAnew : GoodIn wsL_graph wsX4_colouringsAnew := goodIn_ca (goodIn_r _ [76, 6, 61, 62, 4, 63, 64, 65, 44, 45, 46, 10, 47, 12, 48, 49, 50, 16, 51, 52, 53, 17, 18, 19, 20, 21, 22, 23, 24, 25, 26, 27, 28, 29, 30, 31, 32, 33, 34, 35, 36, 54, 55, 56, 77, 78, 79, 80, 81] (by decide +kernel) (by decide +kernel)) (goodIn_sub (fun _ h => List.mem_cons_of_mem _ (List.mem_append_right _ h)) (by decide +kernel))
set_option maxRecDepth 20000 in
theorem gL_graph_X4_colouringsAnew : GoodIn wsL_graph (wsV RL 89 RX4 yX4_colouringsAnew wsX4_colouringsAnew) := goodIn_app (goodIn_of _ (by decide +kernel)) ggL_graph_X4_colouringsAnew
theorem dL_graph_0 : decode cL_graph 0 = .ok (.aload_n 0, 1) := by decide +kernel
theorem dL_graph_1 : decode cL_graph 1 = .ok (.invokevirtual 80, 3) := by decide +kernel
theorem dL_graph_4 : decode cL_graph 4 = .ok (.aload_n 0, 1) := by decide +kernel
theorem dL_graph_5 : decode cL_graph 5 = .ok (.invokevirtual 83, 3) := by decide +kernel
theorem dL_graph_8 : decode cL_graph 8 = .ok (.if_icmp .ne 15, 3) := by decide +kernel
theorem dL_graph_11 : decode cL_graph 11 = .ok (.aload_n 0, 1) := by decide +kernel
theorem dL_graph_12 : decode cL_graph 12 = .ok (.iconst 0, 1) := by decide +kernel
theorem dL_graph_13 : decode cL_graph 13 = .ok (.invokevirtual 86, 3) := by decide +kernel
theorem dL_graph_16 : decode cL_graph 16 = .ok (.ifCond .ne 7, 3) := by decide +kernel
theorem dL_graph_19 : decode cL_graph 19 = .ok (.iconst 1, 1) := by decide +kernel
theorem dL_graph_20 : decode cL_graph 20 = .ok (.goto 4, 3) := by decide +kernel
theorem dL_graph_23 : decode cL_graph 23 = .ok (.iconst 0, 1) := by decide +kernel
theorem dL_graph_24 : decode cL_graph 24 = .ok (.istore_n 1, 1) := by decide +kernel
theorem dL_graph_25 : decode cL_graph 25 = .ok (.iconst 1, 1) := by decide +kernel
theorem dL_graph_26 : decode cL_graph 26 = .ok (.istore_n 2, 1) := by decide +kernel
theorem dL_graph_27 : decode cL_graph 27 = .ok (.iload_n 2, 1) := by decide +kernel
theorem dL_graph_28 : decode cL_graph 28 = .ok (.iconst 4, 1) := by decide +kernel
theorem dL_graph_29 : decode cL_graph 29 = .ok (.if_icmp .ge 45, 3) := by decide +kernel
theorem dL_graph_32 : decode cL_graph 32 = .ok (.iload_n 1, 1) := by decide +kernel
theorem dL_graph_33 : decode cL_graph 33 = .ok (.aload_n 0, 1) := by decide +kernel
theorem dL_graph_34 : decode cL_graph 34 = .ok (.iload_n 2, 1) := by decide +kernel
theorem dL_graph_35 : decode cL_graph 35 = .ok (.invokevirtual 86, 3) := by decide +kernel
theorem dL_graph_38 : decode cL_graph 38 = .ok (.aload_n 0, 1) := by decide +kernel
theorem dL_graph_39 : decode cL_graph 39 = .ok (.iload_n 2, 1) := by decide +kernel
theorem dL_graph_40 : decode cL_graph 40 = .ok (.invokevirtual 89, 3) := by decide +kernel
theorem dL_graph_43 : decode cL_graph 43 = .ok (.if_icmp .ne 22, 3) := by decide +kernel
theorem dL_graph_46 : decode cL_graph 46 = .ok (.aload_n 0, 1) := by decide +kernel
theorem dL_graph_47 : decode cL_graph 47 = .ok (.iload_n 2, 1) := by decide +kernel
theorem dL_graph_48 : decode cL_graph 48 = .ok (.invokevirtual 86, 3) := by decide +kernel
theorem dL_graph_51 : decode cL_graph 51 = .ok (.aload_n 0, 1) := by decide +kernel
theorem dL_graph_52 : decode cL_graph 52 = .ok (.iload_n 2, 1) := by decide +kernel
theorem dL_graph_53 : decode cL_graph 53 = .ok (.iconst 1, 1) := by decide +kernel
theorem dL_graph_54 : decode cL_graph 54 = .ok (.isub, 1) := by decide +kernel
theorem dL_graph_55 : decode cL_graph 55 = .ok (.invokevirtual 86, 3) := by decide +kernel
theorem dL_graph_58 : decode cL_graph 58 = .ok (.if_icmp .lt 7, 3) := by decide +kernel
theorem dL_graph_61 : decode cL_graph 61 = .ok (.iconst 1, 1) := by decide +kernel
theorem dL_graph_62 : decode cL_graph 62 = .ok (.goto 4, 3) := by decide +kernel
theorem dL_graph_65 : decode cL_graph 65 = .ok (.iconst 0, 1) := by decide +kernel
theorem dL_graph_66 : decode cL_graph 66 = .ok (.iand, 1) := by decide +kernel
theorem dL_graph_67 : decode cL_graph 67 = .ok (.istore_n 1, 1) := by decide +kernel
theorem dL_graph_68 : decode cL_graph 68 = .ok (.iinc 2 1, 3) := by decide +kernel
theorem dL_graph_71 : decode cL_graph 71 = .ok (.goto (-44), 3) := by decide +kernel
theorem dL_graph_74 : decode cL_graph 74 = .ok (.iload_n 1, 1) := by decide +kernel
theorem dL_graph_75 : decode cL_graph 75 = .ok (.ireturn, 1) := by decide +kernel
